/-! SIM: pitch, swap, check -/
theorem nn_mono {v : Int32} {n m : Nat} (h : nn v n) (q : n ≤ m) : nn v m := by
  rcases h with h | ⟨j, hj, e⟩
  · exact Or.inl h
  · exact Or.inr ⟨j, by omega, e⟩
theorem Ok_P1 {P K W T : Nat} {N : Nat → Nat} {j : Nat} {v : Int32} (h : Ok P K W T N j v) (h12 : j ≠ 12) (hq : j ≠ 32 + 4 * P + 3) (hr : j ≠ 32 + 4 * P) : Ok (P + 1) K W T N j v := by
  refine ⟨h.rng, h.r0, h.r2, h.r5, h.r8, h.day, h.sd, fun q => absurd q h12, h.nK, h.nW, h.swp, fun i hi q => ?_, h.hrs, h.wc, fun i hi k hk q => ?_, h.los, h.wai, fun i hi q => nn_mono (h.at_ i hi q) (by omega), fun i hi q => ?_, h.pts⟩
  · by_cases e : i = P
    · subst e; exact absurd q hq
    · exact h.pn i (by omega) q
  · obtain ⟨x, hx, e⟩ := h.wp i hi k hk q
    exact ⟨x, by omega, e⟩
  · by_cases e : i = P
    · subst e; exact absurd q hr
    · exact h.rnt i (by omega) q
theorem Ok_pf {P K W T : Nat} {N : Nat → Nat} {i k : Nat} {v : Int32} (hW : W ≤ 8) (hi : i < 10) (hk : k = 1 ∨ k = 2) : Ok P K W T N (32 + 4 * i + k) v := by
  refine ⟨?_, ?_, ?_, ?_, ?_, ?_, ?_, ?_, ?_, ?_, ?_, ?_, ?_, ?_, ?_, ?_, ?_, ?_, ?_, ?_⟩ <;> intros <;> omega
theorem Ok_p3 {P K W T : Nat} {N : Nat → Nat} {i : Nat} {v : Int32} (hW : W ≤ 8) (hi : i < 10) (h : nn v K) : Ok P K W T N (32 + 4 * i + 3) v := by
  refine ⟨?_, ?_, ?_, ?_, ?_, ?_, ?_, ?_, ?_, ?_, ?_, fun _ _ _ => h, ?_, ?_, ?_, ?_, ?_, ?_, ?_, ?_⟩ <;> intros <;> omega
theorem Ok_12 {P K W T : Nat} {N : Nat → Nat} : Ok P K W T N 12 (nI P) := by
  refine ⟨?_, ?_, ?_, ?_, ?_, ?_, ?_, fun _ => rfl, ?_, ?_, ?_, ?_, ?_, ?_, ?_, ?_, ?_, ?_, ?_, ?_⟩ <;> intros <;> omega
theorem Ok_14 {P K W T : Nat} {N : Nat → Nat} : Ok P K W T N 14 (nI W) := by
  refine ⟨?_, ?_, ?_, ?_, ?_, ?_, ?_, ?_, ?_, fun _ => rfl, ?_, ?_, ?_, ?_, ?_, ?_, ?_, ?_, ?_, ?_⟩ <;> intros <;> omega
set_option maxHeartbeats 2000000 in
theorem z_addP {C : mm_M} {a : Nat} {w : Nat → Int32} {P K W T : Nat} {N : Nat → Nat} (S : Sim okA C a w P K W T N) (hP : P < 10) {v : Nat} (hv : v ≤ 20000) : Sim okA (sI (sI (sI (sI (sI C (a + 8 + P) 0 (nI v)) (a + 8 + P) 1 0) (a + 8 + P) 2 0) (a + 8 + P) 3 (-6)) a 2 (nI (P + 1))) a (up (up (up (up (up w (32 + 4 * P) (nI v)) (32 + 4 * P + 1) 0) (32 + 4 * P + 2) 0) (32 + 4 * P + 3) (-6)) 12 (nI (P + 1))) (P + 1) K W T N := by
  obtain ⟨C', eC⟩ : ∃ X, X = sI (sI (sI (sI (sI C (a + 8 + P) 0 (nI v)) (a + 8 + P) 1 0) (a + 8 + P) 2 0) (a + 8 + P) 3 (-6)) a 2 (nI (P + 1)) := ⟨_, rfl⟩
  obtain ⟨w', ew⟩ : ∃ X, X = up (up (up (up (up w (32 + 4 * P) (nI v)) (32 + 4 * P + 1) 0) (32 + 4 * P + 2) 0) (32 + 4 * P + 3) (-6)) 12 (nI (P + 1)) := ⟨_, rfl⟩
  rw [← eC, ← ew]
  have lK := S.bd.lK
  have lW := S.bd.lW
  have c1 : ∀ o, o ≠ a → o ≠ a + 8 + P → C'.1 o = C.1 o := fun o h1 h2 => by
    rw [eC, sI_ap1, if_neg h1, sI_ap1, if_neg h2, sI_ap1, if_neg h2, sI_ap1, if_neg h2, sI_ap1, if_neg h2]
  have c2 : ∀ k, C'.1 a k = if k = 2 then nI (P + 1) else C.1 a k := fun k => by
    have hne : a ≠ a + 8 + P := by omega
    rw [eC, sI_ap1, if_pos rfl]
    have h4 : (sI (sI (sI (sI C (a + 8 + P) 0 (nI v)) (a + 8 + P) 1 0) (a + 8 + P) 2 0) (a + 8 + P) 3 (-6)).1 a = C.1 a := by simp only [sI_ap1, if_neg hne]
    rw [h4]
  have cp : ∀ k, C'.1 (a + 8 + P) k = if k = 3 then -6 else if k = 2 then 0 else if k = 1 then 0 else if k = 0 then nI v else C.1 (a + 8 + P) k := fun k => by
    rw [eC, sI_ap1, if_neg (by omega), sI_ap1, if_pos rfl, sI_ap1, if_pos rfl, sI_ap1, if_pos rfl, sI_ap1, if_pos rfl]
  have w1 : ∀ j, j ≠ 12 → (j < 32 + 4 * P ∨ 32 + 4 * P + 4 ≤ j) → w' j = w j := fun j h1 h2 => by
    rw [ew, up_ne h1, up_ne (by omega), up_ne (by omega), up_ne (by omega), up_ne (by omega)]
  have w12 : w' 12 = nI (P + 1) := by rw [ew, up_eq]
  have q3 : w' (32 + 4 * P + 3) = -6 := by rw [ew, up_ne (by omega), up_eq]
  have q2 : w' (32 + 4 * P + 2) = 0 := by rw [ew, up_ne (by omega), up_ne (by omega), up_eq]
  have q1 : w' (32 + 4 * P + 1) = 0 := by rw [ew, up_ne (by omega), up_ne (by omega), up_ne (by omega), up_eq]
  have q0 : w' (32 + 4 * P) = nI v := by rw [ew, up_ne (by omega), up_ne (by omega), up_ne (by omega), up_ne (by omega), up_eq]
  refine ⟨⟨by omega, lK, lW, S.bd.lT, S.bd.lN⟩, fun o k j h => ?_, fun i hi k hk => ?_, fun j => ?_⟩
  · rcases h with ⟨g1, g2, g3⟩ | ⟨g1, g2, g3⟩ | ⟨g1, g2, g3⟩ | ⟨g1, g2, g3⟩ | ⟨i, hi, g1, g2, g3⟩ | ⟨i, hi, g1, g2, go, g3⟩ | ⟨i, hi, g1, g2, g3⟩ | ⟨i, hi, g1, g2, g3⟩
    · subst g1
      rw [c2]
      by_cases e : k = 2
      · subst e; subst g3; rw [if_pos rfl]; exact w12.symm
      · rw [if_neg e, w1 j (by omega) (by omega)]
        exact S.eq o k j (Or.inl ⟨rfl, g2, g3⟩)
    · rw [c1 o (by omega) (by omega), w1 j (by omega) (by omega)]
      exact S.eq o k j (Or.inr (Or.inl ⟨g1, g2, g3⟩))
    · rw [c1 o (by omega) (by omega), w1 j (by omega) (by omega)]
      exact S.eq o k j (Or.inr (Or.inr (Or.inl ⟨g1, g2, g3⟩)))
    · rw [c1 o (by omega) (by omega), w1 j (by omega) (by omega)]
      exact S.eq o k j (Or.inr (Or.inr (Or.inr (Or.inl ⟨g1, g2, g3⟩))))
    · by_cases e : i = P
      · subst e
        subst g1
        subst g3
        rw [cp]
        match k, g2 with
        | 0, _ => exact q0.symm
        | 1, _ => exact q1.symm
        | 2, _ => exact q2.symm
        | 3, _ => exact q3.symm
        | k + 4, h => exact absurd h (by omega)
      · rw [c1 o (by omega) (by omega), w1 j (by omega) (by omega)]
        exact S.eq o k j (Or.inr (Or.inr (Or.inr (Or.inr (Or.inl ⟨i, by omega, g1, g2, g3⟩)))))
    · have := sf_lt k g2
      rw [c1 o (by omega) (by omega), w1 j (by omega) (by omega)]
      exact S.eq o k j (Or.inr (Or.inr (Or.inr (Or.inr (Or.inr (Or.inl ⟨i, hi, g1, g2, go, g3⟩))))))
    · rw [c1 o (by omega) (by omega), w1 j (by omega) (by omega)]
      exact S.eq o k j (Or.inr (Or.inr (Or.inr (Or.inr (Or.inr (Or.inr (Or.inl ⟨i, hi, g1, g2, g3⟩)))))))
    · rw [c1 o (by omega) (by omega), w1 j (by omega) (by omega)]
      exact S.eq o k j (Or.inr (Or.inr (Or.inr (Or.inr (Or.inr (Or.inr (Or.inr ⟨i, hi, g1, g2, g3⟩)))))))
  · rw [w1 _ (by omega) (by omega), show C'.2 = C.2 by rw [eC]; rfl]
    exact S.sum i hi k hk
  · by_cases e : j = 12
    · subst e; rw [w12]; exact Ok_12
    · by_cases e2 : j < 32 + 4 * P ∨ 32 + 4 * P + 4 ≤ j
      · rw [w1 j e e2]
        exact Ok_P1 (S.val j) e (by omega) (by omega)
      · obtain ⟨k, hk, rfl⟩ : ∃ k, k < 4 ∧ j = 32 + 4 * P + k := ⟨j - (32 + 4 * P), by omega, by omega⟩
        match k, hk with
        | 0, _ => show Ok _ _ _ _ _ (32 + 4 * P) (w' (32 + 4 * P)); rw [q0]; exact Ok_p0 lW hP hv
        | 1, _ => rw [q1]; exact Ok_pf lW hP (Or.inl rfl)
        | 2, _ => rw [q2]; exact Ok_pf lW hP (Or.inr rfl)
        | 3, _ => rw [q3]; exact Ok_p3 lW hP (Or.inl rfl)
        | k + 4, h => exact absurd h (by omega)
theorem z_pitch {T0 : Nat} (x : Int32) : Tw T0 T0 (fun C => fX6_pitch C x) (fun D => fX7_pitch D x) := by
  refine g_op (op := fun M2 => fX5_addPitch M2 1 x) (Nat.le_refl _) (fun C1 D h P K W T N lh hT S => ?_)
  have lP := S.bd.lP
  by_cases c0 : x < 0
  · exact Or.inl ⟨-2, by decide, if_pi c0 rfl, bn_i (in_lo c0) (if_ni (by decide) rfl)⟩
  · by_cases c1 : (20000 : Int32) < x
    · exact Or.inl ⟨-2, by decide, if_ni c0 (if_ni (Int32.not_le.mpr c1) rfl), bn_i (in_hi c1) (if_ni (by decide) rfl)⟩
    · obtain ⟨v, hv, ev⟩ := nI_of2 (M := 20000) (n := 20000) rfl c0 (Int32.not_lt.mp c1)
      subst ev
      by_cases hP : P = 10
      · refine Or.inl ⟨-4, by decide, if_ni c0 (if_pi (Int32.not_lt.mp c1) (if_ni ?_ rfl)), bn_i (in_tt c0 c1) (if_pi rfl (if_pi ?_ rfl))⟩
        · rw [S.cP]; exact nI_nlt (b := 10) (by omega) (by omega)
        · rw [S.wP, hP]; rfl
      · have hm : nI (P + 1) - 1 = nI P := by rw [← nI_1, Int32.add_sub_cancel]
        refine Or.inr ⟨nI P, sI (sI (sI (sI (sI C1 (1 + 8 + P) 0 (nI v)) (1 + 8 + P) 1 0) (1 + 8 + P) 2 0) (1 + 8 + P) 3 (-6)) 1 2 (nI (P + 1)), nI_pos (by omega), ?_, ?_, fun D1 e1 ek => ?_⟩
        · refine if_ni c0 (if_pi (Int32.not_lt.mp c1) (if_pi ?_ (gd_i ?_ ?_)))
          · rw [S.cP]; exact nI_lt (b := 10) (by omega) (by omega)
          · rw [S.cP]; exact ix_nI (n := 10) (by omega) (by decide)
          · rw [S.cP, nI_clamp (by omega)]
            refine bn_i (a := sI (sI (sI (sI C1 (1 + 8 + P) 0 (nI v)) (1 + 8 + P) 1 0) (1 + 8 + P) 2 0) (1 + 8 + P) 3 (-6)) rfl ?_
            have e2 : (sI (sI (sI (sI C1 (1 + 8 + P) 0 (nI v)) (1 + 8 + P) 1 0) (1 + 8 + P) 2 0) (1 + 8 + P) 3 (-6)).1 1 2 = nI P := by
              rw [sI_ap1, if_neg (by omega), sI_ap1, if_neg (by omega), sI_ap1, if_neg (by omega), sI_ap1, if_neg (by omega)]
              exact S.cP
            rw [e2, nI_1]
            refine lt_i ?_
            have e3 : ∀ X : mm_M, (sI X 1 2 (nI (P + 1))).1 1 2 = nI (P + 1) := fun X => by rw [sI_ap1, if_pos rfl, if_pos rfl]
            rw [e3, hm]
        · exact (FrC.w (by omega)).tr ((FrC.w (by omega)).tr ((FrC.w (by omega)).tr ((FrC.w (by omega)).tr (FrC.w (by omega)))))
        · have d12 : D1.1 732 12 = nI P := by rw [e1]; exact S.wP
          have en : 32 + 4 * nI P = nI (32 + 4 * P) := by
            rw [Int32.add_comm, show (32 : Int32) = nI 32 from rfl, show (4 : Int32) = nI 4 from rfl, mulI, Nat.add_comm]
          have en0 : nI (32 + 4 * P) + 0 = nI (32 + 4 * P) := nI_add _ 0
          have en1 : nI (32 + 4 * P) + 1 = nI (32 + 4 * P + 1) := nI_add _ 1
          have en2 : nI (32 + 4 * P) + 2 = nI (32 + 4 * P + 2) := nI_add _ 2
          have en3 : nI (32 + 4 * P) + 3 = nI (32 + 4 * P + 3) := nI_add _ 3
          refine ⟨sI (sI (sI (sI (sI D1 732 (32 + 4 * P) (nI v)) 732 (32 + 4 * P + 1) 0) 732 (32 + 4 * P + 2) 0) 732 (32 + 4 * P + 3) (-6)) 732 12 (nI (P + 1)), ?_, ?_, P + 1, K, W, T, N, hT, ?_⟩
          · refine bn_i (in_tt c0 c1) (if_pi rfl (if_ni ?_ (bn_i ek ?_)))
            · rw [S.wP]; exact fun q => hP ((nI_eq (b := 10) (by omega) (by omega)).mp q)
            · rw [d12, en]
              refine lt_i ?_
              rw [en0, en1, en2, en3]
              refine gd_i (ix_nI (n := 3592) (by omega) (by decide)) (lt_i (gd_i (ix_nI (n := 3592) (by omega) (by decide)) (lt_i (gd_i (ix_nI (n := 3592) (by omega) (by decide)) (lt_i (gd_i (ix_nI (n := 3592) (by omega) (by decide)) ?_))))))
              rw [nI_clamp (by omega), nI_clamp (by omega), nI_clamp (by omega), nI_clamp (by omega)]
              refine lt_i ?_
              have e2 : (sI (sI (sI (sI D1 732 (32 + 4 * P) (nI v)) 732 (32 + 4 * P + 1) 0) 732 (32 + 4 * P + 2) 0) 732 (32 + 4 * P + 3) (-6)).1 732 12 = nI P := by
                rw [sI_row, sI_row, sI_row, sI_row, up_ne (by omega), up_ne (by omega), up_ne (by omega), up_ne (by omega)]
                exact d12
              rw [e2, nI_1]
              refine lt_i ?_
              have e3 : ∀ X : mm_M, (sI X 732 12 (nI (P + 1))).1 732 12 = nI (P + 1) := fun X => by rw [sI_ap1, if_pos rfl, if_pos rfl]
              rw [e3, hm]
          · exact FrD.w.tr (FrD.w.tr (FrD.w.tr (FrD.w.tr FrD.w)))
          · rw [sI_row, sI_row, sI_row, sI_row, sI_row, e1]
            exact z_addP S (by omega) hv
