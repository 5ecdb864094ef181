/-! SIM: cart: one more cart -/
theorem Ok_K1 {P K W T : Nat} {N : Nat → Nat} {j : Nat} {v : Int32} (h : Ok P K W T N j v) (h13 : j ≠ 13) (hr : j < 72 + 20 * K ∨ 72 + 20 * K + 20 ≤ j) (hp : j < 392 + 200 * K ∨ 392 + 200 * K + 200 ≤ j) (lN : ∀ i, N i ≤ 3) : Ok P (K + 1) W T (fun i => if i = K then 0 else N i) j v := by
  refine ⟨h.rng, h.r0, h.r2, h.r5, h.r8, h.day, h.sd, h.nP, fun q => absurd q h13, h.nW, fun i hi q => ?_, fun i hi q => nn_mono (h.pn i hi q) (by omega), fun i hi q => ?_, fun i hi q => ?_, fun i hi k hk q => ?_, fun i hi q => ?_, fun i hi q => ?_, fun i hi q => ?_, h.rnt, fun i hi d hd q => ?_⟩
  · obtain ⟨x, hx, e⟩ := h.swp i hi q
    exact ⟨x, by omega, e⟩
  · exact h.hrs i (by omega) q
  · show v = nI (if i = K then 0 else N i)
    rw [if_neg (by omega)]
    exact h.wc i (by omega) q
  · have hk' : k < (if i = K then 0 else N i) := hk
    have := lN i
    by_cases e : i = K
    · rw [if_pos e] at hk'; omega
    · rw [if_neg e] at hk'
      exact h.wp i (by omega) k hk' q
  · exact h.los i (by omega) q
  · exact h.wai i (by omega) q
  · exact h.at_ i (by omega) q
  · exact h.pts i (by omega) d hd q
theorem Ok_13 {P K W T : Nat} {N : Nat → Nat} : Ok P K W T N 13 (nI K) := by
  refine ⟨?_, ?_, ?_, ?_, ?_, ?_, ?_, ?_, fun _ => rfl, ?_, ?_, ?_, ?_, ?_, ?_, ?_, ?_, ?_, ?_, ?_⟩ <;> intros <;> omega
theorem Ok_pt0 {P K W T : Nat} {N : Nat → Nat} {i d : Nat} (B : Bd P K W 0 N) (hi : i < 16) : Ok P K W T N (392 + 200 * i + d) 0 := by
  obtain ⟨lP, lK, lW, -, lN⟩ := B
  refine ⟨?_, ?_, ?_, ?_, ?_, ?_, ?_, ?_, ?_, ?_, ?_, ?_, ?_, ?_, ?_, ?_, ?_, ?_, ?_, fun _ _ _ _ _ => ⟨0, by omega, rfl⟩⟩ <;> intros <;> (try (rename_i i' hi' k hk e; have := lN i')) <;> omega
/-- a slot of a new cart -/
theorem Ok_new {P K W T : Nat} {N : Nat → Nat} {j t : Nat} {v : Int32} (B : Bd P K W 0 N) (hj : j < 16) (ht : t < 20) (hN : N j = 0) (h1 : t = 1 → ∃ x, 1 ≤ x ∧ x ≤ 6 ∧ v = nI x) (h2 : t = 2 → v = 0) (h6 : t = 6 → v = 0) (h8 : t = 8 → v = 0) (h11 : t = 11 → v = -6) : Ok P K W T N (72 + 20 * j + t) v := by
  obtain ⟨lP, lK, lW, -, lN⟩ := B
  refine ⟨?_, ?_, ?_, ?_, ?_, ?_, ?_, ?_, ?_, ?_, ?_, ?_, fun i hi q => h1 (by omega), fun i hi q => ?_, fun i hi k hk q => ?_, fun i hi q => ⟨0, by omega, h6 (by omega)⟩, fun i hi q => Or.inl (h8 (by omega)), fun i hi q => Or.inl (h11 (by omega)), ?_, fun i hi d hd q => ?_⟩
  case refine_13 =>
    have e : i = j := by omega
    subst e
    rw [hN]
    exact h2 (by omega)
  case refine_14 =>
    have := lN i
    have e : i = j := by omega
    subst e
    omega
  all_goals intros
  all_goals omega
set_option maxHeartbeats 2000000 in
theorem z_addK {C C' : mm_M} {a : Nat} {w w' : Nat → Int32} {P K W T : Nat} {N : Nat → Nat} (S : Sim okA C a w P K W T N) (hK : K < 16) (v : Nat → Int32) (hv1 : ∃ x, 1 ≤ x ∧ x ≤ 6 ∧ v 1 = nI x) (hv2 : v 2 = 0) (hv3 : v 3 = 0) (hv5 : v 5 = 0) (hv8 : v 8 = -6)
    (c0 : ∀ k, C'.1 a k = if k = 3 then nI (K + 1) else C.1 a k) (cc : ∀ k, k < 12 → C'.1 (a + 18 + 3 * K) k = v k) (cp : ∀ d, d < 200 → C'.1 (a + 18 + 3 * K + 2) d = 0) (cl : ∀ k, k < 4 → C'.2 (a + 18 + 3 * K) (12 + k) = 0) (co : ∀ o, o ≠ a → (o < a + 18 + 3 * K ∨ a + 18 + 3 * K + 3 ≤ o) → C'.1 o = C.1 o) (co2 : ∀ o, o < a + 18 + 3 * K ∨ a + 18 + 3 * K + 3 ≤ o → C'.2 o = C.2 o)
    (w13 : w' 13 = nI (K + 1)) (wc : ∀ k, k < 12 → w' (72 + 20 * K + sf k) = v k) (wl : ∀ k, k < 4 → w' (72 + 20 * K + 15 + k) = 0) (wp : ∀ d, d < 200 → w' (392 + 200 * K + d) = 0) (wo : ∀ j, j ≠ 13 → (j < 72 + 20 * K ∨ 72 + 20 * K + 20 ≤ j) → (j < 392 + 200 * K ∨ 392 + 200 * K + 200 ≤ j) → w' j = w j) : Sim okA C' a w' P (K + 1) W T (fun i => if i = K then 0 else N i) := by
  have lP := S.bd.lP
  have lW := S.bd.lW
  have lN := S.bd.lN
  have B' : Bd P (K + 1) W T (fun i => if i = K then 0 else N i) := ⟨lP, by omega, lW, S.bd.lT, fun i => by
    show (if i = K then 0 else N i) ≤ 3
    by_cases e : i = K
    · rw [if_pos e]; omega
    · rw [if_neg e]; exact lN i⟩
  have B0 : Bd P (K + 1) W 0 (fun i => if i = K then 0 else N i) := ⟨lP, by omega, lW, by omega, B'.lN⟩
  refine ⟨B', fun o k s h => ?_, fun i hi k hk => ?_, fun s => ?_⟩
  · rcases h with ⟨g1, g2, g3⟩ | ⟨g1, g2, g3⟩ | ⟨g1, g2, g3⟩ | ⟨g1, g2, g3⟩ | ⟨i, hi, g1, g2, g3⟩ | ⟨i, hi, g1, g2, go, g3⟩ | ⟨i, hi, g1, g2, g3⟩ | ⟨i, hi, g1, g2, g3⟩
    · subst g1
      rw [c0]
      by_cases e : k = 3
      · subst e; subst g3; rw [if_pos rfl]; exact w13.symm
      · rw [if_neg e, wo s (by omega) (by omega) (by omega)]
        exact S.eq o k s (Or.inl ⟨rfl, g2, g3⟩)
    · rw [co o (by omega) (by omega), wo s (by omega) (by omega) (by omega)]
      exact S.eq o k s (Or.inr (Or.inl ⟨g1, g2, g3⟩))
    · rw [co o (by omega) (by omega), wo s (by omega) (by omega) (by omega)]
      exact S.eq o k s (Or.inr (Or.inr (Or.inl ⟨g1, g2, g3⟩)))
    · rw [co o (by omega) (by omega), wo s (by omega) (by omega) (by omega)]
      exact S.eq o k s (Or.inr (Or.inr (Or.inr (Or.inl ⟨g1, g2, g3⟩))))
    · rw [co o (by omega) (by omega), wo s (by omega) (by omega) (by omega)]
      exact S.eq o k s (Or.inr (Or.inr (Or.inr (Or.inr (Or.inl ⟨i, hi, g1, g2, g3⟩)))))
    · have hs := sf_lt k g2
      by_cases e : i = K
      · subst e
        subst g1
        subst g3
        rw [cc k g2, wc k g2]
      · rw [co o (by omega) (by omega), wo s (by omega) (by omega) (by omega)]
        exact S.eq o k s (Or.inr (Or.inr (Or.inr (Or.inr (Or.inr (Or.inl ⟨i, by omega, g1, g2, go, g3⟩))))))
    · have g2' : k < (if i = K then 0 else N i) := g2
      by_cases e : i = K
      · rw [if_pos e] at g2'; omega
      · rw [if_neg e] at g2'
        have := lN i
        rw [co o (by omega) (by omega), wo s (by omega) (by omega) (by omega)]
        exact S.eq o k s (Or.inr (Or.inr (Or.inr (Or.inr (Or.inr (Or.inr (Or.inl ⟨i, by omega, g1, g2', g3⟩)))))))
    · by_cases e : i = K
      · subst e
        subst g1
        subst g3
        rw [cp k g2, wp k g2]
      · rw [co o (by omega) (by omega), wo s (by omega) (by omega) (by omega)]
        exact S.eq o k s (Or.inr (Or.inr (Or.inr (Or.inr (Or.inr (Or.inr (Or.inr ⟨i, by omega, g1, g2, g3⟩)))))))
  · by_cases e : i = K
    · subst e
      rw [cl k hk, wl k hk]
      rfl
    · rw [co2 _ (by omega), wo _ (by omega) (by omega) (by omega)]
      exact S.sum i (by omega) k hk
  · by_cases e : s = 13
    · subst e; rw [w13]; exact Ok_13
    · by_cases e2 : s < 392 + 200 * K ∨ 392 + 200 * K + 200 ≤ s
      · by_cases e3 : s < 72 + 20 * K ∨ 72 + 20 * K + 20 ≤ s
        · rw [wo s e e3 e2]
          exact Ok_K1 (S.val s) e e3 e2 lN
        · obtain ⟨t, ht, rfl⟩ : ∃ t, t < 20 ∧ s = 72 + 20 * K + t := ⟨s - (72 + 20 * K), by omega, by omega⟩
          refine Ok_new B0 hK ht (if_pos rfl) (fun q => ?_) (fun q => ?_) (fun q => ?_) (fun q => ?_) (fun q => ?_)
          · subst q; rw [show w' (72 + 20 * K + 1) = v 1 from wc 1 (by omega)]; exact hv1
          · subst q; rw [show w' (72 + 20 * K + 2) = v 2 from wc 2 (by omega)]; exact hv2
          · subst q; rw [show w' (72 + 20 * K + 6) = v 3 from wc 3 (by omega)]; exact hv3
          · subst q; rw [show w' (72 + 20 * K + 8) = v 5 from wc 5 (by omega)]; exact hv5
          · subst q; rw [show w' (72 + 20 * K + 11) = v 8 from wc 8 (by omega)]; exact hv8
      · obtain ⟨d, hd, rfl⟩ : ∃ d, d < 200 ∧ s = 392 + 200 * K + d := ⟨s - (392 + 200 * K), by omega, by omega⟩
        rw [wp d hd]
        exact Ok_pt0 B0 hK
