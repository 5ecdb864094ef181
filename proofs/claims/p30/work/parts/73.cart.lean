/-! SIM: cart, both sides -/
set_option maxHeartbeats 2000000 in
theorem z_cart {T0 : Nat} (x y : Int32) : Tw T0 T0 (fun C => fX6_cart C x y) (fun D => fX7_cart D x y) := by
  refine g_op (op := fun M2 => fX5_addCart M2 1 x y) (Nat.le_refl _) (fun C1 D h P K W T N lh hT S => ?_)
  have lK := S.bd.lK
  by_cases c0 : x < 0
  · exact Or.inl ⟨-2, by decide, if_pi c0 rfl, bn_i (in_lo c0) (if_ni (by decide) rfl)⟩
  · by_cases c1 : (5 : Int32) < x
    · exact Or.inl ⟨-2, by decide, if_ni c0 (if_pi c1 rfl), bn_i (in_hi c1) (if_ni (by decide) rfl)⟩
    · by_cases c2 : y < 1
      · exact Or.inl ⟨-2, by decide, if_ni c0 (if_ni c1 (if_pi c2 rfl)), bn_i (in_tt c0 c1) (if_pi rfl (bn_i (in_lo c2) (if_ni (by decide) rfl)))⟩
      · by_cases c3 : (6 : Int32) < y
        · exact Or.inl ⟨-2, by decide, if_ni c0 (if_ni c1 (if_ni c2 (if_ni (Int32.not_le.mpr c3) rfl))), bn_i (in_tt c0 c1) (if_pi rfl (bn_i (in_hi c3) (if_ni (by decide) rfl)))⟩
        · by_cases hK : K = 16
          · refine Or.inl ⟨-4, by decide, if_ni c0 (if_ni c1 (if_ni c2 (if_pi (Int32.not_lt.mp c3) (if_ni ?_ rfl)))), bn_i (in_tt c0 c1) (if_pi rfl (bn_i (in_tt c2 c3) (if_pi rfl (if_pi ?_ rfl))))⟩
            · rw [S.cK]; exact nI_nlt (b := 16) (by omega) (by omega)
            · rw [S.wK, hK]; rfl
          · have hK16 : K < 16 := by omega
            obtain ⟨v, hv, ev⟩ : ∃ v : Nat, v ≤ 6 ∧ y = nI v := nI_of2 (M := 6) (n := 6) rfl (fun q => c2 (by
              rw [Int32.lt_iff_toInt_lt] at q ⊢
              have e0 : (0 : Int32).toInt = 0 := rfl
              have e1 : (1 : Int32).toInt = 1 := rfl
              omega)) (Int32.not_lt.mp c3)
            have v1 : 1 ≤ v := by
              rcases Nat.eq_zero_or_pos v with q | q
              · subst q; subst ev; exact absurd (by decide) c2
              · exact q
            obtain ⟨x3, e3⟩ : ∃ x3, x3 = (C1.1 1 0) + (C1.1 (1 + 1) 1) := ⟨_, rfl⟩
            have x3D : x3 = D.1 732 10 + D.1 732 1 := by
              rw [e3, S.hd (k := 0) (by omega), S.eq (1 + 1) 1 1 (Or.inr (Or.inl ⟨rfl, by omega, rfl⟩))]
            obtain ⟨Y, eY, yc, yp, yl, yo, yo2⟩ := q_beginK C1 (1 + 18 + 3 * K) x y x3
            have y1 : Y.1 1 = C1.1 1 := yo 1 (by omega) (by omega)
            have hm : nI (K + 1) - 1 = nI K := by rw [← nI_1, Int32.add_sub_cancel]
            have co : ∀ o, o ≠ 1 → (sI Y 1 3 (nI (K + 1))).1 o = Y.1 o := fun o ho => by rw [sI_ap1, if_neg ho]
            refine Or.inr ⟨nI K, sI Y 1 3 (nI (K + 1)), nI_pos (by omega), ?_, fun o ho => ⟨?_, ?_⟩, fun D1 e1 ek => ?_⟩
            · show fX5_addCart C1 1 x y = _
              unfold fX5_addCart
              rw [S.cK]
              refine if_ni c0 (if_ni c1 (if_ni c2 (if_pi (Int32.not_lt.mp c3) (if_pi (nI_lt (b := 16) (by omega) (by omega)) (gd_i (ix_nI (n := 16) (by omega) (by decide)) ?_)))))
              rw [nI_clamp (by omega), ← e3]
              refine bn_i eY ?_
              rw [y1, S.cK, nI_1]
              refine lt_i ?_
              rw [show (sI Y 1 3 (nI (K + 1))).1 1 3 = nI (K + 1) by rw [sI_ap1, if_pos rfl, if_pos rfl], hm]
            · rw [co o (by omega), yo o (by omega) (by omega)]
            · exact yo2 o (by omega)
            · have d13 : D1.1 732 13 = nI K := by rw [e1]; exact S.wK
              obtain ⟨Z, eZ, z2, zF⟩ := m_52K hK16 x y 20 0 FU D1 rfl (by decide) d13
              refine ⟨Z, ?_, zF, P, K + 1, W, T, (fun i => if i = K then 0 else N i), hT, ?_⟩
              · refine bn_i (in_tt c0 c1) (if_pi rfl (bn_i (in_tt c2 c3) (if_pi rfl (if_ni ?_ (bn_i ek (lt_i ?_))))))
                · rw [S.wK]; exact fun q => hK ((nI_eq (b := 16) (by omega) (by omega)).mp q)
                · rw [d13]; exact eZ
              · rw [z2]
                obtain ⟨u, eu⟩ : ∃ u : Nat → Int32, u = (fun k => if 392 + 200 * K ≤ k ∧ k < 392 + 200 * K + 200 then 0 else if 72 + 20 * K + 0 ≤ k ∧ k < 72 + 20 * K + 20 then 0 else D1.1 732 k) := ⟨_, rfl⟩
                rw [← eu]
                have ur : ∀ t, t < 20 → u (72 + 20 * K + t) = 0 := fun t ht => by
                  rw [eu]
                  show (if 392 + 200 * K ≤ 72 + 20 * K + t ∧ 72 + 20 * K + t < 392 + 200 * K + 200 then (0 : Int32) else _) = 0
                  by_cases q : 392 + 200 * K ≤ 72 + 20 * K + t ∧ 72 + 20 * K + t < 392 + 200 * K + 200
                  · rw [if_pos q]
                  · rw [if_neg q, if_pos (by omega)]
                have uo : ∀ j, (j < 72 + 20 * K ∨ 72 + 20 * K + 20 ≤ j) → (j < 392 + 200 * K ∨ 392 + 200 * K + 200 ≤ j) → u j = D.1 732 j := fun j h1 h2 => by
                  rw [eu]
                  show (if 392 + 200 * K ≤ j ∧ j < 392 + 200 * K + 200 then (0 : Int32) else if 72 + 20 * K + 0 ≤ j ∧ j < 72 + 20 * K + 20 then 0 else D1.1 732 j) = _
                  rw [if_neg (by omega), if_neg (by omega), e1]
                have up' : ∀ d, d < 200 → u (392 + 200 * K + d) = 0 := fun d hd => by
                  rw [eu]
                  show (if 392 + 200 * K ≤ 392 + 200 * K + d ∧ 392 + 200 * K + d < 392 + 200 * K + 200 then (0 : Int32) else _) = 0
                  rw [if_pos (by omega)]
                have u7 : u 10 + u 1 = x3 := by rw [uo 10 (by omega) (by omega), uo 1 (by omega) (by omega), x3D]
                refine z_addK S hK16 (vK x y x3) ⟨v, v1, hv, ev⟩ rfl rfl rfl rfl (fun k => ?_) (fun k hk => ?_) (fun d hd => ?_) (fun k hk => ?_) (fun o h1 h2 => ?_) (fun o h2 => ?_) (up_eq _ _ _) (fun k hk => ?_) (fun k hk => ?_) (fun d hd => ?_) (fun j h1 h2 h3 => ?_)
                · rw [sI_ap1, if_pos rfl, y1]
                · rw [co _ (by omega)]; exact yc k hk
                · rw [co _ (by omega)]; exact yp d hd
                · exact yl k hk
                · rw [co o h1, yo o (by omega) (by omega)]
                · exact yo2 o (by omega)
                · have hs := sf_lt k hk
                  rw [fK_r hK16 (by omega) (ur _ (by omega)), u7]
                  match k, hk with
                  | 0, _ => rfl
                  | 1, _ => rfl
                  | 2, _ => rfl
                  | 3, _ => rfl
                  | 4, _ => rfl
                  | 5, _ => rfl
                  | 6, _ => rfl
                  | 7, _ => rfl
                  | 8, _ => rfl
                  | 9, _ => rfl
                  | 10, _ => rfl
                  | 11, _ => rfl
                  | k + 12, h => exact absurd h (by omega)
                · rw [Nat.add_assoc, fK_r hK16 (show 15 + k < 20 by omega) (ur _ (by omega))]
                  match k, hk with
                  | 0, _ => rfl
                  | 1, _ => rfl
                  | 2, _ => rfl
                  | 3, _ => rfl
                  | k + 4, h => exact absurd h (by omega)
                · rw [fK_lo (by omega) (by omega)]; exact up' d hd
                · rw [fK_lo h1 h2]; exact uo j h2 h3
