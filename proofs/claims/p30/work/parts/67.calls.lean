/-! SIM: wish -/
theorem Ok_N {P K W T : Nat} {N : Nat → Nat} {n j s : Nat} {v : Int32} (h : Ok P K W T N s v) (hs : s < 72 + 20 * j + 2 ∨ 72 + 20 * j + 6 ≤ s) (hn : n ≤ 3) (lN : ∀ i, N i ≤ 3) : Ok P K W T (fun i => if i = j then n else N i) s v := by
  refine ⟨h.rng, h.r0, h.r2, h.r5, h.r8, h.day, h.sd, h.nP, h.nK, h.nW, h.swp, h.pn, h.hrs, fun i hi q => ?_, fun i hi k hk q => ?_, h.los, h.wai, h.at_, h.rnt, h.pts⟩
  · show v = nI (if i = j then n else N i)
    rw [if_neg (by omega)]
    exact h.wc i hi q
  · have hk' : k < (if i = j then n else N i) := hk
    have := lN i
    by_cases e : i = j
    · rw [if_pos e] at hk'; omega
    · rw [if_neg e] at hk'
      exact h.wp i hi k hk' q
theorem Ok_w2 {P K W T : Nat} {N : Nat → Nat} {j : Nat} (B : Bd P K W 0 N) (hj : j < 16) : Ok P K W T N (72 + 20 * j + 2) (nI (N j)) := by
  obtain ⟨lP, lK, lW, -, lN⟩ := B
  refine ⟨?_, ?_, ?_, ?_, ?_, ?_, ?_, ?_, ?_, ?_, ?_, ?_, ?_, fun i hi q => by rw [show i = j by omega], ?_, ?_, ?_, ?_, ?_, ?_⟩ <;> intros <;> (try (rename_i i' hi' k hk e; have := lN i')) <;> omega
theorem Ok_w3 {P K W T : Nat} {N : Nat → Nat} {j k : Nat} {v : Int32} (B : Bd P K W 0 N) (hj : j < 16) (hk : k < 3) (h : k < N j → ∃ x, x < P ∧ v = nI x) : Ok P K W T N (72 + 20 * j + 3 + k) v := by
  obtain ⟨lP, lK, lW, -, lN⟩ := B
  refine ⟨?_, ?_, ?_, ?_, ?_, ?_, ?_, ?_, ?_, ?_, ?_, ?_, ?_, ?_, fun i hi k' hk' q => ?_, ?_, ?_, ?_, ?_, ?_⟩
  case refine_15 =>
    have := lN i
    have e1 : i = j := by omega
    subst e1
    exact h (by rw [show k = k' by omega]; exact hk')
  all_goals intros
  all_goals omega
set_option maxHeartbeats 2000000 in
theorem z_setN {C : mm_M} {a : Nat} {w : Nat → Int32} {P K W T : Nat} {N : Nat → Nat} (S : Sim okA C a w P K W T N) {j n : Nat} (hj : j < K) (hn : n ≤ 3) (x : Nat → Int32) (hx : ∀ k, k < n → ∃ p, p < P ∧ x k = nI p) : Sim okA (sI (sI (sI (sI C (a + 18 + 3 * j) 2 (nI n)) (a + 18 + 3 * j + 1) 0 (x 0)) (a + 18 + 3 * j + 1) 1 (x 1)) (a + 18 + 3 * j + 1) 2 (x 2)) a (up (up (up (up w (72 + 20 * j + 2) (nI n)) (72 + 20 * j + 3) (x 0)) (72 + 20 * j + 4) (x 1)) (72 + 20 * j + 5) (x 2)) P K W T (fun i => if i = j then n else N i) := by
  obtain ⟨C', eC⟩ : ∃ X, X = sI (sI (sI (sI C (a + 18 + 3 * j) 2 (nI n)) (a + 18 + 3 * j + 1) 0 (x 0)) (a + 18 + 3 * j + 1) 1 (x 1)) (a + 18 + 3 * j + 1) 2 (x 2) := ⟨_, rfl⟩
  obtain ⟨w', ew⟩ : ∃ X, X = up (up (up (up w (72 + 20 * j + 2) (nI n)) (72 + 20 * j + 3) (x 0)) (72 + 20 * j + 4) (x 1)) (72 + 20 * j + 5) (x 2) := ⟨_, rfl⟩
  rw [← eC, ← ew]
  have lK := S.bd.lK
  have lP := S.bd.lP
  have lW := S.bd.lW
  have lN := S.bd.lN
  have m1 : a + 18 + 3 * j ≠ a + 18 + 3 * j + 1 := by omega
  have m2 : a + 18 + 3 * j + 1 ≠ a + 18 + 3 * j := by omega
  have c1 : ∀ o, o ≠ a + 18 + 3 * j → o ≠ a + 18 + 3 * j + 1 → C'.1 o = C.1 o := fun o h1 h2 => by
    rw [eC]; simp only [sI_ap1, if_neg h1, if_neg h2]
  have c2 : ∀ k, C'.1 (a + 18 + 3 * j) k = if k = 2 then nI n else C.1 (a + 18 + 3 * j) k := fun k => by
    rw [eC]; simp only [sI_ap1, if_neg m1, if_pos]
  have c3 : ∀ k, k < 3 → C'.1 (a + 18 + 3 * j + 1) k = x k := fun k hk => by
    rw [eC]; simp only [sI_ap1, if_neg m2, if_pos]
    match k, hk with
    | 0, _ => rfl
    | 1, _ => rfl
    | 2, _ => rfl
    | k + 3, h => exact absurd h (by omega)
  have w1 : ∀ s, (s < 72 + 20 * j + 2 ∨ 72 + 20 * j + 6 ≤ s) → w' s = w s := fun s h => by
    rw [ew, up_ne (by omega), up_ne (by omega), up_ne (by omega), up_ne (by omega)]
  have w2 : w' (72 + 20 * j + 2) = nI n := by rw [ew, up_ne (by omega), up_ne (by omega), up_ne (by omega), up_eq]
  have w3 : ∀ k, k < 3 → w' (72 + 20 * j + 3 + k) = x k := by
    intro k hk
    rw [ew]
    match k, hk with
    | 0, _ => show up _ _ _ (72 + 20 * j + 3) = _; rw [up_ne (by omega), up_ne (by omega), up_eq]
    | 1, _ => show up _ _ _ (72 + 20 * j + 4) = _; rw [up_ne (by omega), up_eq]
    | 2, _ => exact up_eq _ _ _
    | k + 3, h => exact absurd h (by omega)
  have B' : Bd P K W T (fun i => if i = j then n else N i) := ⟨lP, lK, lW, S.bd.lT, fun i => by
    show (if i = j then n else N i) ≤ 3
    by_cases e : i = j
    · rw [if_pos e]; exact hn
    · rw [if_neg e]; exact lN i⟩
  have B0 : Bd P K W 0 (fun i => if i = j then n else N i) := ⟨lP, lK, lW, by omega, B'.lN⟩
  refine ⟨B', fun o k s h => ?_, fun i hi k hk => ?_, fun s => ?_⟩
  · rcases h with ⟨g1, g2, g3⟩ | ⟨g1, g2, g3⟩ | ⟨g1, g2, g3⟩ | ⟨g1, g2, g3⟩ | ⟨i, hi, g1, g2, g3⟩ | ⟨i, hi, g1, g2, go, g3⟩ | ⟨i, hi, g1, g2, g3⟩ | ⟨i, hi, g1, g2, g3⟩
    · rw [c1 o (by omega) (by omega), w1 s (by omega)]
      exact S.eq o k s (Or.inl ⟨g1, g2, g3⟩)
    · rw [c1 o (by omega) (by omega), w1 s (by omega)]
      exact S.eq o k s (Or.inr (Or.inl ⟨g1, g2, g3⟩))
    · rw [c1 o (by omega) (by omega), w1 s (by omega)]
      exact S.eq o k s (Or.inr (Or.inr (Or.inl ⟨g1, g2, g3⟩)))
    · rw [c1 o (by omega) (by omega), w1 s (by omega)]
      exact S.eq o k s (Or.inr (Or.inr (Or.inr (Or.inl ⟨g1, g2, g3⟩))))
    · rw [c1 o (by omega) (by omega), w1 s (by omega)]
      exact S.eq o k s (Or.inr (Or.inr (Or.inr (Or.inr (Or.inl ⟨i, hi, g1, g2, g3⟩)))))
    · have hs := sf_lt k g2
      by_cases e : i = j
      · subst e
        subst g1
        subst g3
        rw [c2]
        by_cases e2 : k = 2
        · subst e2; rw [if_pos rfl]; exact w2.symm
        · rw [if_neg e2, w1 _ (by
            have h2 : sf k ≠ 2 := fun q => e2 (sf_inj k g2 2 (by omega) q)
            omega)]
          exact S_cart S hi g2
      · rw [c1 o (by omega) (by omega), w1 s (by omega)]
        exact S.eq o k s (Or.inr (Or.inr (Or.inr (Or.inr (Or.inr (Or.inl ⟨i, hi, g1, g2, go, g3⟩))))))
    · have g2' : k < (if i = j then n else N i) := g2
      by_cases e : i = j
      · subst e
        rw [if_pos rfl] at g2'
        subst g1
        subst g3
        rw [c3 k (by omega), w3 k (by omega)]
      · rw [if_neg e] at g2'
        have := lN i
        rw [c1 o (by omega) (by omega), w1 s (by omega)]
        exact S.eq o k s (Or.inr (Or.inr (Or.inr (Or.inr (Or.inr (Or.inr (Or.inl ⟨i, hi, g1, g2', g3⟩)))))))
    · rw [c1 o (by omega) (by omega), w1 s (by omega)]
      exact S.eq o k s (Or.inr (Or.inr (Or.inr (Or.inr (Or.inr (Or.inr (Or.inr ⟨i, hi, g1, g2, g3⟩)))))))
  · rw [w1 _ (by omega), show C'.2 = C.2 by rw [eC]; rfl]
    exact S.sum i hi k hk
  · by_cases e : s < 72 + 20 * j + 2 ∨ 72 + 20 * j + 6 ≤ s
    · rw [w1 s e]
      exact Ok_N (S.val s) e hn lN
    · by_cases e2 : s = 72 + 20 * j + 2
      · subst e2
        rw [w2]
        have h := Ok_w2 (T := T) B0 (j := j) (by omega)
        simp only [if_pos] at h
        exact h
      · obtain ⟨k, hk, rfl⟩ : ∃ k, k < 3 ∧ s = 72 + 20 * j + 3 + k := ⟨s - (72 + 20 * j + 3), by omega, by omega⟩
        rw [w3 k hk]
        exact Ok_w3 B0 (by omega) hk (fun q => hx k (by simpa using q))
