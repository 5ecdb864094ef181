/-! SIM: one wish alone, on trial -/
set_option maxHeartbeats 2000000 in
theorem z_setG {C C' : mm_M} {a : Nat} {w w' : Nat → Int32} {P K W T : Nat} {N : Nat → Nat} (S : Sim okA C a w P K W T N) {j n : Nat} (hj : j < K) (hn : n ≤ 3) (x : Nat → Int32) (hx : ∀ k, k < n → ∃ p, p < P ∧ x k = nI p) (c1 : ∀ o, o ≠ a + 18 + 3 * j → o ≠ a + 18 + 3 * j + 1 → C'.1 o = C.1 o) (c2 : ∀ k, C'.1 (a + 18 + 3 * j) k = if k = 2 then nI n else C.1 (a + 18 + 3 * j) k) (c3 : ∀ k, k < n → C'.1 (a + 18 + 3 * j + 1) k = x k) (cl : C'.2 = C.2) (w1 : ∀ s, (s < 72 + 20 * j + 2 ∨ 72 + 20 * j + 6 ≤ s) → w' s = w s) (w2 : w' (72 + 20 * j + 2) = nI n) (w3 : ∀ k, k < n → w' (72 + 20 * j + 3 + k) = x k) : Sim okA C' a w' P K W T (fun i => if i = j then n else N i) := by
  have lK := S.bd.lK
  have lP := S.bd.lP
  have lW := S.bd.lW
  have lN := S.bd.lN
  have B' : Bd P K W T (fun i => if i = j then n else N i) := ⟨lP, lK, lW, S.bd.lT, fun i => by
    show (if i = j then n else N i) ≤ 3
    by_cases e : i = j
    · rw [if_pos e]; exact hn
    · rw [if_neg e]; exact lN i⟩
  have B0 : Bd P K W 0 (fun i => if i = j then n else N i) := ⟨lP, lK, lW, by omega, B'.lN⟩
  refine ⟨B', fun o k s h => ?_, fun i hi k hk => ?_, fun s => ?_⟩
  · rcases h with ⟨g1, g2, g3⟩ | ⟨g1, g2, g3⟩ | ⟨g1, g2, g3⟩ | ⟨g1, g2, g3⟩ | ⟨i, hi, g1, g2, g3⟩ | ⟨i, hi, g1, g2, go, g3⟩ | ⟨i, hi, g1, g2, g3⟩ | ⟨i, hi, g1, g2, g3⟩
    · rw [c1 o (by omega) (by omega), w1 s (by omega)]
      exact S.eq o k s (Or.inl ⟨g1, g2, g3⟩)
    · rw [c1 o (by omega) (by omega), w1 s (by omega)]
      exact S.eq o k s (Or.inr (Or.inl ⟨g1, g2, g3⟩))
    · rw [c1 o (by omega) (by omega), w1 s (by omega)]
      exact S.eq o k s (Or.inr (Or.inr (Or.inl ⟨g1, g2, g3⟩)))
    · rw [c1 o (by omega) (by omega), w1 s (by omega)]
      exact S.eq o k s (Or.inr (Or.inr (Or.inr (Or.inl ⟨g1, g2, g3⟩))))
    · rw [c1 o (by omega) (by omega), w1 s (by omega)]
      exact S.eq o k s (Or.inr (Or.inr (Or.inr (Or.inr (Or.inl ⟨i, hi, g1, g2, g3⟩)))))
    · have hs := sf_lt k g2
      by_cases e : i = j
      · subst e
        subst g1
        subst g3
        rw [c2]
        by_cases e2 : k = 2
        · subst e2; rw [if_pos rfl]; exact w2.symm
        · rw [if_neg e2, w1 _ (by
            have h2 : sf k ≠ 2 := fun q => e2 (sf_inj k g2 2 (by omega) q)
            omega)]
          exact S_cart S hi g2
      · rw [c1 o (by omega) (by omega), w1 s (by omega)]
        exact S.eq o k s (Or.inr (Or.inr (Or.inr (Or.inr (Or.inr (Or.inl ⟨i, hi, g1, g2, go, g3⟩))))))
    · have g2' : k < (if i = j then n else N i) := g2
      by_cases e : i = j
      · subst e
        rw [if_pos rfl] at g2'
        subst g1
        subst g3
        rw [c3 k g2', w3 k g2']
      · rw [if_neg e] at g2'
        have := lN i
        rw [c1 o (by omega) (by omega), w1 s (by omega)]
        exact S.eq o k s (Or.inr (Or.inr (Or.inr (Or.inr (Or.inr (Or.inr (Or.inl ⟨i, hi, g1, g2', g3⟩)))))))
    · rw [c1 o (by omega) (by omega), w1 s (by omega)]
      exact S.eq o k s (Or.inr (Or.inr (Or.inr (Or.inr (Or.inr (Or.inr (Or.inr ⟨i, hi, g1, g2, g3⟩)))))))
  · rw [w1 _ (by omega), cl]
    exact S.sum i hi k hk
  · by_cases e : s < 72 + 20 * j + 2 ∨ 72 + 20 * j + 6 ≤ s
    · rw [w1 s e]
      exact Ok_N (S.val s) e hn lN
    · by_cases e2 : s = 72 + 20 * j + 2
      · subst e2
        rw [w2]
        have h := Ok_w2 (T := T) B0 (j := j) (by omega)
        simp only [if_pos] at h
        exact h
      · obtain ⟨k, hk, rfl⟩ : ∃ k, k < 3 ∧ s = 72 + 20 * j + 3 + k := ⟨s - (72 + 20 * j + 3), by omega, by omega⟩
        refine Ok_w3 B0 (by omega) hk (fun q => ?_)
        have q' : k < n := by simpa using q
        rw [w3 k q']
        exact hx k q'
theorem z_ifWished {T0 : Nat} (hT0 : T0 + 60 < 2 ^ 30) (x y : Int32) : Tw T0 T0 (fun C => fX6_ifWished C x y) (fun D => fX7_ifWished D x y) := by
  intro C D G
  obtain ⟨P, K, W, T, N, hT, S⟩ := G.live
  have lK := S.bd.lK
  have lP := S.bd.lP
  rcases S.cart2 x with ⟨j, hj, e, h1, h2⟩ | ⟨h1, h2⟩
  · subst e
    rcases S.pitch2 y with ⟨p, hp, e, g1, g2⟩ | ⟨g1, g2⟩
    · subst e
      obtain ⟨C1, e1, S1, f1⟩ := cp_all (a0 := 67) S (by omega)
      obtain ⟨D1, t1, t2, t3, t4⟩ := a_side D
      have S1' : Sim okA C1 67 (D1.1 732) P K W T N := by rw [t3]; exact S1
      obtain ⟨C2, e2⟩ : ∃ X, X = sI (sI (sI (sI C1 (67 + 18 + 3 * j) 2 1) (67 + 18 + 3 * j + 1) 0 (nI p)) (67 + 18 + 3 * j + 1) 1 (-6)) (67 + 18 + 3 * j + 1) 2 (-6) := ⟨_, rfl⟩
      obtain ⟨D2, d2⟩ : ∃ X, X = sI (sI D1 732 (72 + 20 * j + 2) 1) 732 (72 + 20 * j + 3) (nI p) := ⟨_, rfl⟩
      have n6 : ¬ nI p = -6 := fun q => nI_pos (n := p) (by omega) (by rw [q]; decide)
      have pn : fX5_isPitchOrNone C1 67 (nI p) = some true := (z_none S1' (nI p)).elim (fun q => q.2.1) (fun q => absurd (Or.inr ⟨p, hp, rfl⟩) q.1)
      have p6 : fX5_isPitchOrNone C1 67 (-6) = some true := if_pi rfl rfl
      have tw : fX5_tellWishes C1 67 (nI j) (nI p) (-6) (-6) = some (1, C2) := by
        unfold fX5_tellWishes
        refine bn_i (z_hasC S1' hj) (if_pi rfl (bn_i pn (if_pi rfl (bn_i p6 (if_pi rfl (bn_i p6 (if_pi rfl (if_ni n6 (if_pi rfl ?_)))))))))
        unfold fX5_tellWishes_70 fX5_tellWishes_83 fX5_tellWishes_104
        refine if_pi (by decide) (if_ni (by decide) (gd_i (ix_nI (n := 16) (by omega) (by decide)) ?_))
        rw [nI_clamp (by omega), e2]
        rfl
      have m1 : ¬ 67 + 18 + 3 * j = 67 + 18 + 3 * j + 1 := by omega
      have m2 : ¬ 67 + 18 + 3 * j + 1 = 67 + 18 + 3 * j := by omega
      have S2 : Sim okA C2 67 (D2.1 732) P K W T (fun i => if i = j then 1 else N i) := by
        refine z_setG S1' hj (by omega) (fun _ => nI p) (fun k hk => ⟨p, hp, rfl⟩) (fun o h1 h2 => ?_) (fun k => ?_) (fun k hk => ?_) ?_ (fun s hs => ?_) ?_ (fun k hk => ?_)
        · rw [e2]; simp only [sI_ap1, if_neg h1, if_neg h2]
        · rw [e2]; simp only [sI_ap1, if_neg m1, if_pos]; rfl
        · rw [show k = 0 by omega, e2]; simp only [sI_ap1, if_neg m2, if_pos]; rfl
        · rw [e2]; rfl
        · rw [d2, sI_row, sI_row, up_ne (by omega), up_ne (by omega)]
        · rw [d2, sI_row, sI_row, up_ne (by omega), up_eq]; rfl
        · rw [show k = 0 by omega, d2, sI_row]; exact up_eq _ _ _
      obtain ⟨C3, D3, pt, u1, u2, u3, -, S3, f3, g3, -⟩ := z_trial S2 (by omega) hj
      obtain ⟨D4, v1, v2, v3, v4⟩ := a_back D3
      have fd2 : FrD D1 D2 := by rw [d2]; exact FrD.w.tr FrD.w
      have fc2 : FrC C1 C2 67 := by rw [e2]; exact (((FrC.w (by omega)).tr (FrC.w (by omega))).tr (FrC.w (by omega))).tr (FrC.w (by omega))
      refine ⟨pt, C3, D4, bn_i h1 (if_pi rfl (bn_i g1 (if_pi rfl (bn_i e1 (bn2_i tw (bn2_i u1 rfl)))))), bn_i h2 (if_pi rfl (bn_i g2 (if_pi rfl (bn_i t1 (bn_i (lay_i (k := 2) 1 (by omega) (by omega)) (bn_i (lay_i (k := 3) (nI p) (by omega) (by omega)) ?_)))))), z_keepG G ((f1.tr fc2).tr f3) (fun k hk => ?_) (((t4.tr (Tr.of fd2)).tr (Tr.of g3)).tr v4)⟩
      · rw [← d2]
        exact bn_i u2 (bn_i u3 (bn_i v1 rfl))
      · rw [v2 k hk, g3.oth 736 (by omega) (by omega), fd2.oth 736 (by omega) (by omega), t2 k hk]
    · exact ⟨-1, C, D, bn_i h1 (if_pi rfl (bn_i g1 (if_ni (by decide) rfl))), bn_i h2 (if_pi rfl (bn_i g2 (if_ni (by decide) rfl))), G, fun _ _ => rfl, fun _ _ => ⟨rfl, rfl⟩⟩
  · exact ⟨-1, C, D, bn_i h1 (if_ni (by decide) rfl), bn_i h2 (if_ni (by decide) rfl), G, fun _ _ => rfl, fun _ _ => ⟨rfl, rfl⟩⟩
