/-! SIM: check, swap, wish: as a call and as an order, at any place -/
theorem z_checkC {a T0 : Nat} (x : Int32) : Core a T0 T0 (fun M => fX5_askCheck M a x) (fun D b => fX7_tryCheck D x b) := by
  intro C1 D P K W T N hT S
  have lK := S.bd.lK
  rcases S.cart2 x with ⟨j, hj, e, h1, h2⟩ | ⟨h1, h2⟩
  · subst e
    have h5 : C1.1 (a + 18 + 3 * j) 5 = D.1 732 (72 + 20 * j + 8) := S_cart S hj (by omega)
    have ho : fX7_of D (nI j) 8 = some (D.1 732 (72 + 20 * j + 8)) := of_i (k := 8) (by omega) (by omega)
    rcases (S.val _).wai j hj rfl with w0 | w1
    · have S2 : ∀ D1 : mm_M, D1.1 732 = D.1 732 → Sim okA (sI C1 (a + 18 + 3 * j) 5 1) a ((sI D1 732 (72 + 20 * j + 8) 1).1 732) P K W T N := fun D1 e1 => by
        rw [sI_row, e1]
        exact S.up (Lk_cart hj (by omega)) (Ok_wai S.bd0 (by omega) (Or.inr rfl))
      obtain ⟨c, hc, ec, ed⟩ := z_wait (S2 D rfl)
      refine Or.inr ⟨nI c, sI C1 (a + 18 + 3 * j) 5 1, nI_pos (by omega), ?_, FrC.w (by omega), fun b D1 e1 ek => ?_⟩
      · refine bn_i h1 (if_pi rfl (gd_i (ix_nI (n := 16) (by omega) (by decide)) ?_))
        rw [nI_clamp (by omega), h5, w0]
        exact if_pi rfl (lt_i (bn_i ec rfl))
      · obtain ⟨c', hc', ec', ed'⟩ := z_wait (S2 D1 e1)
        rw [ec] at ec'
        have eq : nI c = nI c' := Option.some.inj ec'
        refine ⟨sI D1 732 (72 + 20 * j + 8) 1, ?_, FrD.w, P, K, W, T, N, hT, S2 D1 e1⟩
        refine bn_i h2 (if_pi rfl (bn_i ho ?_))
        rw [w0, eq]
        exact if_ni (by decide) (bn_i ek (bn_i (lay_i (k := 8) 1 (by omega) (by omega)) (bn_i ed' rfl)))
    · refine Or.inl ⟨-5, by decide, ?_, fun b => ?_⟩
      · refine bn_i h1 (if_pi rfl (gd_i (ix_nI (n := 16) (by omega) (by decide)) ?_))
        rw [nI_clamp (by omega), h5, w1]
        exact if_ni (by decide) rfl
      · refine bn_i h2 (if_pi rfl (bn_i ho ?_))
        rw [w1]
        exact if_pi rfl rfl
  · exact Or.inl ⟨-1, by decide, bn_i h1 (if_ni (by decide) rfl), fun b => bn_i h2 (if_ni (by decide) rfl)⟩
theorem z_swapC {a T0 : Nat} (x y : Int32) : Core a T0 T0 (fun M => fX5_askSwap M a x y) (fun D b => fX7_trySwap D x y b) := by
  intro C1 D P K W T N hT S
  have lK := S.bd.lK
  have lW := S.bd.lW
  rcases S.cart2 x with ⟨j, hj, e, h1, h2⟩ | ⟨h1, h2⟩
  · subst e
    rcases S.cart2 y with ⟨i, hi, e, g1, g2⟩ | ⟨g1, g2⟩
    · subst e
      by_cases c0 : nI j = nI i
      · exact Or.inl ⟨-1, by decide, bn_i h1 (if_pi rfl (bn_i g1 (if_pi rfl (if_pi c0 rfl)))), fun b => bn_i h2 (if_pi rfl (bn_i g2 (if_pi rfl (if_pi c0 rfl))))⟩
      · by_cases h8 : W = 8
        · refine Or.inl ⟨-4, by decide, bn_i h1 (if_pi rfl (bn_i g1 (if_pi rfl (if_ni c0 (if_ni ?_ rfl))))), fun b => bn_i h2 (if_pi rfl (bn_i g2 (if_pi rfl (if_ni c0 (if_pi ?_ rfl)))))⟩
          · rw [S.cW]; exact nI_nlt (b := 8) (by omega) (by omega)
          · rw [S.wW, h8]; rfl
        · refine Or.inr ⟨nI (W + 1), sI (sI (sI C1 (a + 4) W (nI j)) (a + 5) W (nI i)) a 4 (nI (W + 1)), nI_pos (by omega), ?_, (FrC.w (by omega)).tr ((FrC.w (by omega)).tr (FrC.w (by omega))), fun b D1 e1 ek => ?_⟩
          · refine bn_i h1 (if_pi rfl (bn_i g1 (if_pi rfl (if_ni c0 ?_))))
            rw [S.cW]
            refine if_pi (nI_lt (b := 8) (by omega) (by omega)) (gd_i (ix_nI (n := 8) (by omega) (by decide)) ?_)
            rw [nI_clamp (by omega)]
            have e4 : (sI C1 (a + 4) W (nI j)).1 a 4 = nI W := by rw [sI_ap1, if_neg (by omega)]; exact S.cW
            refine lt_i ?_
            rw [e4]
            refine gd_i (ix_nI (n := 8) (by omega) (by decide)) ?_
            rw [nI_clamp (by omega)]
            have e5 : (sI (sI C1 (a + 4) W (nI j)) (a + 5) W (nI i)).1 a 4 = nI W := by rw [sI_ap1, if_neg (by omega)]; exact e4
            refine lt_i ?_
            rw [e5, nI_1]
            refine lt_i ?_
            have e6 : ∀ X : mm_M, (sI X a 4 (nI (W + 1))).1 a 4 = nI (W + 1) := fun X => by rw [sI_ap1, if_pos rfl, if_pos rfl]
            rw [e6]
          · refine ⟨sI (sI (sI D1 732 (16 + 2 * W) (nI j)) 732 (16 + 2 * W + 1) (nI i)) 732 14 (nI (W + 1)), ?_, FrD.w.tr (FrD.w.tr FrD.w), P, K, W + 1, T, N, hT, ?_⟩
            · refine bn_i h2 (if_pi rfl (bn_i g2 (if_pi rfl (if_ni c0 (if_ni ?_ (bn_i ek ?_))))))
              · rw [S.wW]; exact fun q => h8 ((nI_eq (b := 8) (by omega) (by omega)).mp q)
              · have d14 : D1.1 732 14 = nI W := by rw [e1]; exact S.wW
                have en : 16 + 2 * nI W = nI (16 + 2 * W) := by
                  rw [Int32.add_comm, show (16 : Int32) = nI 16 from rfl, show (2 : Int32) = nI 2 from rfl, mulI, Nat.add_comm]
                rw [d14, en]
                refine gd_i (ix_nI (n := 3592) (by omega) (by decide)) ?_
                rw [nI_clamp (by omega)]
                refine lt_i ?_
                have d14' : (sI D1 732 (16 + 2 * W) (nI j)).1 732 14 = nI W := by rw [sI_row, up_ne (by omega)]; exact d14
                rw [d14', en, nI_1]
                refine gd_i (ix_nI (n := 3592) (by omega) (by decide)) ?_
                rw [nI_clamp (by omega)]
                refine lt_i ?_
                have d14'' : (sI (sI D1 732 (16 + 2 * W) (nI j)) 732 (16 + 2 * W + 1) (nI i)).1 732 14 = nI W := by rw [sI_row, up_ne (by omega)]; exact d14'
                rw [d14'', nI_1]
                refine lt_i ?_
                have e6 : ∀ X : mm_M, (sI X 732 14 (nI (W + 1))).1 732 14 = nI (W + 1) := fun X => by rw [sI_ap1, if_pos rfl, if_pos rfl]
                rw [e6]
            · rw [sI_row, sI_row, sI_row, e1]
              exact z_addW S (by omega) hj hi
    · exact Or.inl ⟨-1, by decide, bn_i h1 (if_pi rfl (bn_i g1 (if_ni (by decide) rfl))), fun b => bn_i h2 (if_pi rfl (bn_i g2 (if_ni (by decide) rfl)))⟩
  · exact Or.inl ⟨-1, by decide, bn_i h1 (if_ni (by decide) rfl), fun b => bn_i h2 (if_ni (by decide) rfl)⟩
theorem z_wishC {a T0 : Nat} (x y z u : Int32) : Core a T0 T0 (fun M => fX5_tellWishes M a x y z u) (fun D b => fX7_tryWish D x y z u b) := by
  intro C1 D P K W T N hT S
  have lK := S.bd.lK
  have lP := S.bd.lP
  have hn := nw_le y z u
  rcases S.cart2 x with ⟨j, hj, e, h1, h2⟩ | ⟨h1, h2⟩
  · subst e
    by_cases hv : nn y P ∧ nn z P ∧ nn u P
    · obtain ⟨v1, v2, v3⟩ := hv
      have t1 : fX5_isPitchOrNone C1 a y = some true ∧ fX7_isNumber D y = some true := (z_none S y).elim (fun q => q.2) (fun q => absurd v1 q.1)
      have t2 : fX5_isPitchOrNone C1 a z = some true ∧ fX7_isNumber D z = some true := (z_none S z).elim (fun q => q.2) (fun q => absurd v2 q.1)
      have t3 : fX5_isPitchOrNone C1 a u = some true ∧ fX7_isNumber D u = some true := (z_none S u).elim (fun q => q.2) (fun q => absurd v3 q.1)
      have hc : ∀ r, fX5_tellWishes_70 a (nI j) y z u C1 (nI (nw y z u)) = r → fX5_tellWishes C1 a (nI j) y z u = r := fun r hr => by
        unfold fX5_tellWishes
        refine bn_i h1 (if_pi rfl (bn_i t1.1 (if_pi rfl (bn_i t2.1 (if_pi rfl (bn_i t3.1 (if_pi rfl ?_)))))))
        rw [q_head]; exact hr
      have hm : ∀ b r, fX7_tryWish_72 (nI j) y z u b D (nI (nw y z u)) (decide (dup (nw y z u) y z u)) = some r → fX7_tryWish D (nI j) y z u b = some r := fun b r hr => by
        unfold fX7_tryWish
        refine bn_i h2 (if_pi rfl ?_)
        rw [m_head lP (nI j) y z u b D v1 v2 v3, m36 _ _ _ _ _ _ hn]
        exact hr
      by_cases hd : dup (nw y z u) y z u
      · refine Or.inl ⟨-2, by decide, hc _ (by rw [q70 _ _ _ _ _ _ hn, if_pos hd]), fun b => hm b _ ?_⟩
        unfold fX7_tryWish_72
        exact bn_i t1.2 (if_pi rfl (bn_i t2.2 (if_pi rfl (bn_i t3.2 (if_pi rfl (if_pi (decide_eq_true hd) rfl))))))
      · refine Or.inr ⟨nI (nw y z u), sI (sI (sI (sI C1 (a + 18 + 3 * j) 2 (nI (nw y z u))) (a + 18 + 3 * j + 1) 0 y) (a + 18 + 3 * j + 1) 1 z) (a + 18 + 3 * j + 1) 2 u, nI_pos (by omega), hc _ ?_, (FrC.w (by omega)).tr ((FrC.w (by omega)).tr ((FrC.w (by omega)).tr (FrC.w (by omega)))), fun b D1 e1 ek => ?_⟩
        · rw [q70 _ _ _ _ _ _ hn, if_neg hd]
          unfold fX5_tellWishes_104
          refine gd_i (ix_nI (n := 16) (by omega) (by decide)) ?_
          rw [nI_clamp (by omega)]
          rfl
        · refine ⟨sI (sI (sI (sI D1 732 (72 + 20 * j + 2) (nI (nw y z u))) 732 (72 + 20 * j + 3) y) 732 (72 + 20 * j + 4) z) 732 (72 + 20 * j + 5) u, hm b _ ?_, FrD.w.tr (FrD.w.tr (FrD.w.tr FrD.w)), P, K, W, T, (fun i => if i = j then nw y z u else N i), hT, ?_⟩
          · unfold fX7_tryWish_72
            refine bn_i t1.2 (if_pi rfl (bn_i t2.2 (if_pi rfl (bn_i t3.2 (if_pi rfl (if_ni (fun q => hd (of_decide_eq_true q)) ?_))))))
            exact bn_i ek (bn_i (lay_i (k := 2) _ (by omega) (by omega)) (bn_i (lay_i (k := 3) _ (by omega) (by omega)) (bn_i (lay_i (k := 4) _ (by omega) (by omega)) (bn_i (lay_i (k := 5) _ (by omega) (by omega)) rfl))))
          · rw [sI_row, sI_row, sI_row, sI_row, e1]
            exact z_setN S hj hn (fun k => if k = 0 then y else if k = 1 then z else u) (nw_x v1 v2 v3)
    · refine Or.inl ⟨-2, by decide, ?_, fun b => ?_⟩
      · show fX5_tellWishes C1 a (nI j) y z u = _
        unfold fX5_tellWishes
        refine bn_i h1 (if_pi rfl ?_)
        rcases z_none S y with ⟨n1, e1, -⟩ | ⟨n1, e1, -⟩
        · refine bn_i e1 (if_pi rfl ?_)
          rcases z_none S z with ⟨n2, e2, -⟩ | ⟨n2, e2, -⟩
          · refine bn_i e2 (if_pi rfl ?_)
            rcases z_none S u with ⟨n3, e3, -⟩ | ⟨n3, e3, -⟩
            · exact absurd ⟨n1, n2, n3⟩ hv
            · exact bn_i e3 (if_ni (by decide) rfl)
          · exact bn_i e2 (if_ni (by decide) rfl)
        · exact bn_i e1 (if_ni (by decide) rfl)
      · show fX7_tryWish D (nI j) y z u b = _
        unfold fX7_tryWish
        refine bn_i h2 (if_pi rfl ?_)
        obtain ⟨n, hn', e⟩ := m_head_any (nI j) y z u b D
        rw [e, m36 _ _ _ _ _ _ hn']
        exact m72_bad S _ _ _ _ _ _ _ hv
  · exact Or.inl ⟨-1, by decide, bn_i h1 (if_ni (by decide) rfl), fun b => bn_i h2 (if_ni (by decide) rfl)⟩
