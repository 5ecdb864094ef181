/-! SIM: set, seed, pitch, rent -/
theorem Ok_set {P K W T : Nat} {N : Nat → Nat} {k v : Nat} (hk : k < 10) (h : v ≤ 10000) (h0 : k = 0 → 1 ≤ v ∧ v ≤ 20) (h2 : k = 2 → v ≤ 8) (h5 : k = 5 → 1 ≤ v ∧ v ≤ 200) (h8 : k = 8 → v ≤ 14) : Ok P K W T N k (nI v) := by
  refine ⟨fun _ => ⟨v, h, rfl⟩, fun q => ⟨v, (h0 q).1, (h0 q).2, rfl⟩, fun q => ⟨v, h2 q, rfl⟩, fun q => ⟨v, (h5 q).1, (h5 q).2, rfl⟩, fun q => ⟨v, h8 q, rfl⟩, ?_, ?_, ?_, ?_, ?_, ?_, ?_, ?_, ?_, ?_, ?_, ?_, ?_, ?_, ?_⟩ <;> intros <;> omega
theorem z_setk {T0 : Nat} (k vl vh : Nat) (y : Int32) (hk : k < 10) (h1 : mm_f1 k = nI vl) (h2 : mm_f2 k = nI vh) (hl : ∀ M, fX7_least M (nI k) = some (nI vl)) (hg : ∀ M, fX7_greatest M (nI k) = some (nI vh)) (hh : vh ≤ 10000) (h0 : k = 0 → 1 ≤ vl ∧ vh ≤ 20) (h2' : k = 2 → vh ≤ 8) (h5 : k = 5 → 1 ≤ vl ∧ vh ≤ 200) (h8 : k = 8 → vh ≤ 14) (hlh : vl ≤ vh) : Tw T0 T0 (fun C => fX6_set C (nI k) y) (fun D => fX7_set D (nI k) y) := by
  have hin : ∀ M, fX7_in M (nI k) 0 9 = some true := fun M => in_tt (nI_pos (by omega)) (show ¬ nI 9 < nI k from nI_nlt (by omega) (by omega))
  refine g_op (op := fun M2 => fX5_changeSetting M2 1 (nI k) y) (Nat.le_refl _) (fun C1 D h P K W T N lh hT S => ?_)
  have hcl : ∀ r X, (if y < mm_f1 k then some ((-2 : Int32), C1) else if y ≤ mm_f2 k then some (C1.1 (1 + 1) k, sI C1 (1 + 1) k y) else some ((-2 : Int32), C1)) = some (r, X) → fX5_changeSetting C1 1 (nI k) y = some (r, X) := by
    intro r X h
    unfold fX5_changeSetting
    refine if_ni (nI_pos (by omega)) (if_ni (show ¬ nI 10 ≤ nI k from nI_ge hk (by decide)) (gd_i (ix_nI hk (by decide)) ?_))
    rw [nI_clamp (by omega)]
    exact h
  by_cases c0 : y < nI vl
  · refine Or.inl ⟨-2, by decide, hcl _ _ (by rw [h1, if_pos c0]), ?_⟩
    exact bn_i (hin D) (if_pi rfl (bn_i (hl D) (bn_i (hg D) (bn_i (in_lo c0) (if_ni (by decide) rfl)))))
  · by_cases c1 : nI vh < y
    · refine Or.inl ⟨-2, by decide, hcl _ _ (by rw [h1, h2, if_neg c0, if_neg (Int32.not_le.mpr c1)]), ?_⟩
      exact bn_i (hin D) (if_pi rfl (bn_i (hl D) (bn_i (hg D) (bn_i (in_hi c1) (if_ni (by decide) rfl)))))
    · have hS : C1.1 (1 + 1) k = D.1 732 k := S.eq (1 + 1) k k (Or.inr (Or.inl ⟨rfl, hk, rfl⟩))
      obtain ⟨x, hx, ex⟩ := (S.val k).rng hk
      have y0 : ¬ y < 0 := fun q => c0 (by
        rw [Int32.lt_iff_toInt_lt] at q ⊢
        rw [nI_toInt (by omega)]
        have e0 : (0 : Int32).toInt = 0 := rfl
        omega)
      obtain ⟨v, hv, ev⟩ := nI_of y0
      subst ev
      have v1 : vl ≤ v := by
        rcases Nat.lt_or_ge v vl with q | q
        · exact absurd (nI_lt q (by omega)) c0
        · exact q
      have v2 : v ≤ vh := by
        rcases Nat.lt_or_ge vh v with q | q
        · exact absurd (nI_lt q hv) c1
        · exact q
      refine Or.inr ⟨C1.1 (1 + 1) k, sI C1 (1 + 1) k (nI v), by rw [hS, ex]; exact nI_pos (by omega), hcl _ _ (by rw [h1, h2, if_neg c0, if_pos (Int32.not_lt.mp c1)]), FrC.w (by omega), fun D1 e1 ek => ?_⟩
      refine ⟨sI D1 732 k (nI v), ?_, FrD.w, P, K, W, T, N, hT, ?_⟩
      · refine bn_i (hin D) (if_pi rfl (bn_i (hl D) (bn_i (hg D) (bn_i (in_tt c0 c1) (if_pi rfl (bn_i ek (gd_i (ix_nI (n := 3592) (by omega) (by decide)) ?_)))))))
        rw [nI_clamp (by omega)]
        refine lt_i (lt_i ?_)
        rw [e1, hS]
      · rw [sI_row, e1]
        exact S.up (Or.inr (Or.inl ⟨rfl, hk, rfl⟩)) (Ok_set hk (by omega) (fun q => by have := h0 q; omega) (fun q => by have := h2' q; omega) (fun q => by have := h5 q; omega) (fun q => by have := h8 q; omega))
theorem z_set {T0 : Nat} (x y : Int32) : Tw T0 T0 (fun C => fX6_set C x y) (fun D => fX7_set D x y) := by
  by_cases c0 : x < 0
  · exact g_op (op := fun M2 => fX5_changeSetting M2 1 x y) (Nat.le_refl _) (fun C1 D h P K W T N lh hT S => Or.inl ⟨-2, by decide, if_pi c0 rfl, bn_i (in_lo c0) (if_ni (by decide) rfl)⟩)
  · by_cases c1 : (9 : Int32) < x
    · exact g_op (op := fun M2 => fX5_changeSetting M2 1 x y) (Nat.le_refl _) (fun C1 D h P K W T N lh hT S => Or.inl ⟨-2, by decide, if_ni c0 (if_pi ((i_succ rfl).mpr c1) rfl), bn_i (in_hi c1) (if_ni (by decide) rfl)⟩)
    · obtain ⟨j, hj, e⟩ := nI_of2 (M := 9) (n := 9) rfl c0 (Int32.not_lt.mp c1)
      subst e
      match j, hj with
      | 0, _ => exact z_setk 0 1 20 y (by omega) rfl rfl (fun _ => rfl) (fun _ => rfl) (by omega) (by omega) (by omega) (by omega) (by omega) (by omega)
      | 1, _ => exact z_setk 1 1 200 y (by omega) rfl rfl (fun _ => rfl) (fun _ => rfl) (by omega) (by omega) (by omega) (by omega) (by omega) (by omega)
      | 2, _ => exact z_setk 2 1 8 y (by omega) rfl rfl (fun _ => rfl) (fun _ => rfl) (by omega) (by omega) (by omega) (by omega) (by omega) (by omega)
      | 3, _ => exact z_setk 3 3 30 y (by omega) rfl rfl (fun _ => rfl) (fun _ => rfl) (by omega) (by omega) (by omega) (by omega) (by omega) (by omega)
      | 4, _ => exact z_setk 4 1 60 y (by omega) rfl rfl (fun _ => rfl) (fun _ => rfl) (by omega) (by omega) (by omega) (by omega) (by omega) (by omega)
      | 5, _ => exact z_setk 5 1 200 y (by omega) rfl rfl (fun _ => rfl) (fun _ => rfl) (by omega) (by omega) (by omega) (by omega) (by omega) (by omega)
      | 6, _ => exact z_setk 6 0 10000 y (by omega) rfl rfl (fun _ => rfl) (fun _ => rfl) (by omega) (by omega) (by omega) (by omega) (by omega) (by omega)
      | 7, _ => exact z_setk 7 0 9 y (by omega) rfl rfl (fun _ => rfl) (fun _ => rfl) (by omega) (by omega) (by omega) (by omega) (by omega) (by omega)
      | 8, _ => exact z_setk 8 6 14 y (by omega) rfl rfl (fun _ => rfl) (fun _ => rfl) (by omega) (by omega) (by omega) (by omega) (by omega) (by omega)
      | 9, _ => exact z_setk 9 0 5000 y (by omega) rfl rfl (fun _ => rfl) (fun _ => rfl) (by omega) (by omega) (by omega) (by omega) (by omega) (by omega)
      | j + 10, hj => exact absurd hj (by omega)
theorem Ok_11 {P K W T : Nat} {N : Nat → Nat} {v : Nat} (h : v ≤ 65536) : Ok P K W T N 11 (nI v) := by
  refine ⟨?_, ?_, ?_, ?_, ?_, ?_, fun _ => ⟨v, h, rfl⟩, ?_, ?_, ?_, ?_, ?_, ?_, ?_, ?_, ?_, ?_, ?_, ?_, ?_⟩ <;> intros <;> omega
theorem z_seed {T0 : Nat} (x : Int32) : Tw T0 T0 (fun C => fX6_seed C x) (fun D => fX7_seed D x) := by
  refine g_op (op := fun M2 => fX5_changeLots M2 1 x) (Nat.le_refl _) (fun C1 D h P K W T N lh hT S => ?_)
  by_cases c0 : x < 0
  · exact Or.inl ⟨-2, by decide, if_pi c0 rfl, bn_i (in_lo c0) (if_ni (by decide) rfl)⟩
  · by_cases c1 : (65536 : Int32) < x
    · exact Or.inl ⟨-2, by decide, if_ni c0 (if_ni (Int32.not_lt.mpr ((i_succ rfl).mpr c1)) rfl), bn_i (in_hi c1) (if_ni (by decide) rfl)⟩
    · have hS : C1.1 1 1 = D.1 732 11 := S.hd (k := 1) (by omega)
      obtain ⟨v, hv, ev⟩ := nI_of2 (M := 65536) (n := 65536) rfl c0 (Int32.not_lt.mp c1)
      obtain ⟨z, hz, ez⟩ := (S.val 11).sd rfl
      refine Or.inr ⟨C1.1 1 1, sI C1 1 1 x, by rw [hS, ez]; exact nI_pos (by omega), if_ni c0 (if_pi (Int32.not_le.mp (fun q => c1 ((i_succ rfl).mp q))) rfl), FrC.w (by omega), fun D1 e1 ek => ?_⟩
      refine ⟨sI D1 732 11 x, ?_, FrD.w, P, K, W, T, N, hT, ?_⟩
      · refine bn_i (in_tt c0 c1) (if_pi rfl (bn_i ek (lt_i (lt_i ?_))))
        rw [e1, hS]
      · rw [sI_row, e1]
        subst ev
        exact S.up (Or.inl ⟨rfl, by omega, rfl⟩) (Ok_11 hv)
theorem Ok_p0 {P K W T : Nat} {N : Nat → Nat} {i v : Nat} (hW : W ≤ 8) (hi : i < 10) (hv : v ≤ 20000) : Ok P K W T N (32 + 4 * i) (nI v) := by
  refine ⟨?_, ?_, ?_, ?_, ?_, ?_, ?_, ?_, ?_, ?_, ?_, ?_, ?_, ?_, ?_, ?_, ?_, ?_, fun _ _ _ => ⟨v, hv, rfl⟩, ?_⟩ <;> intros <;> omega
theorem z_rent {T0 : Nat} (x y : Int32) : Tw T0 T0 (fun C => fX6_rent C x y) (fun D => fX7_rent D x y) := by
  refine g_op (op := fun M2 => fX5_changeRent M2 1 x y) (Nat.le_refl _) (fun C1 D h P K W T N lh hT S => ?_)
  rcases S.pitch2 x with ⟨j, hj, e, h1, h2⟩ | ⟨h1, h2⟩
  · subst e
    have lP := S.bd.lP
    have lW := S.bd.lW
    by_cases c0 : y < 0
    · exact Or.inl ⟨-2, by decide, bn_i h1 (if_pi rfl (if_pi c0 rfl)), bn_i h2 (if_pi rfl (bn_i (in_lo c0) (if_ni (by decide) rfl)))⟩
    · by_cases c1 : (20000 : Int32) < y
      · exact Or.inl ⟨-2, by decide, bn_i h1 (if_pi rfl (if_ni c0 (if_ni (Int32.not_le.mpr c1) rfl))), bn_i h2 (if_pi rfl (bn_i (in_hi c1) (if_ni (by decide) rfl)))⟩
      · obtain ⟨v, hv, ev⟩ := nI_of2 (M := 20000) (n := 20000) rfl c0 (Int32.not_lt.mp c1)
        have hS : C1.1 (1 + 8 + j) 0 = D.1 732 (32 + 4 * j) := S.eq (1 + 8 + j) 0 _ (Or.inr (Or.inr (Or.inr (Or.inr (Or.inl ⟨j, hj, rfl, by omega, rfl⟩)))))
        obtain ⟨z, hz, ez⟩ := (S.val _).rnt j hj rfl
        refine Or.inr ⟨C1.1 (1 + 8 + j) 0, sI C1 (1 + 8 + j) 0 y, by rw [hS, ez]; exact nI_pos (by omega), ?_, FrC.w (by omega), fun D1 e1 ek => ?_⟩
        · refine bn_i h1 (if_pi rfl (if_ni c0 (if_pi (Int32.not_lt.mp c1) (gd_i (ix_nI (n := 10) (by omega) (by decide)) ?_))))
          rw [nI_clamp (by omega)]
          exact lt_i (lt_i rfl)
        · refine ⟨sI D1 732 (32 + 4 * j) y, ?_, FrD.w, P, K, W, T, N, hT, ?_⟩
          · have en : (32 + (4 * nI j)) + 0 = nI (32 + 4 * j) := by
              rw [Int32.add_zero, Int32.add_comm]
              rw [show (32 : Int32) = nI 32 from rfl, show (4 : Int32) = nI 4 from rfl, mulI, Nat.add_comm]
            refine bn_i h2 (if_pi rfl (bn_i (in_tt c0 c1) (if_pi rfl (bn_i ek (bn_i (ofP_i (k := 0) (by omega) (by omega)) ?_)))))
            rw [en]
            refine gd_i (ix_nI (n := 3592) (by omega) (by decide)) ?_
            rw [nI_clamp (by omega)]
            refine lt_i ?_
            rw [e1, hS]
            rfl
          · rw [sI_row, e1]
            subst ev
            exact S.up (Or.inr (Or.inr (Or.inr (Or.inr (Or.inl ⟨j, hj, rfl, by omega, rfl⟩))))) (Ok_p0 lW (by omega) hv)
  · exact Or.inl ⟨-1, by decide, bn_i h1 (if_ni (by decide) rfl), bn_i h2 (if_ni (by decide) rfl)⟩
