/-! SIM: side by side; whyNot -/
theorem z_43 {ok : Nat → Nat → Prop} {C D : mm_M} {a P K W T : Nat} {N : Nat → Nat} (S : Sim ok C a (D.1 732) P K W T N) (hk : ∀ i, i < K → ok i 0) {j : Nat} (hj : j < K) {t0 : Int32} (ht : nn t0 K) : ∃ b : Bool, (∀ k14 v3 x2, fX5_sameKindBeside_43 a (nI j) x2 C k14 v3 t0 = if b = true then some true else k14 (v3 + 2)) ∧ ∀ x1, fX7_isKindAt_19 x1 (D.1 732 (72 + 20 * j + 0)) (nI j) D t0 = some b := by
  have lK := S.bd.lK
  have kd : ∀ i, i < K → C.1 (a + 18 + 3 * i) 0 = D.1 732 (72 + 20 * i + 0) := fun i hi => S.eq _ _ _ (Or.inr (Or.inr (Or.inr (Or.inr (Or.inr (Or.inl ⟨i, hi, rfl, by omega, hk i hi, rfl⟩))))))
  rcases ht with h | ⟨c, hc, h⟩
  · subst h
    have hn : ¬ (-6 : Int32) = nI j := fun q => nI_pos (n := j) (by omega) (by rw [← q]; decide)
    refine ⟨false, fun k14 v3 x2 => ?_, fun x1 => if_pi (by decide) rfl⟩
    rcases S.hasCart (-6) with ⟨i, hi, e, h⟩ | ⟨-, h⟩
    · exact absurd (show nI i < 0 by rw [← e]; decide) (nI_pos (by omega))
    · unfold fX5_sameKindBeside_43
      rw [if_neg (show ¬ false = true by decide)]
      exact if_ni hn (bn_i h (if_ni (by decide) rfl))
  · subst h
    by_cases e : c = j
    · subst e
      refine ⟨false, fun k14 v3 x2 => ?_, fun x1 => if_ni (nI_pos (by omega)) (if_pi rfl rfl)⟩
      rw [if_neg (show ¬ false = true by decide)]
      exact if_pi rfl rfl
    · have hne : ¬ nI c = nI j := fun q => e ((nI_eq (by omega) (by omega)).mp q)
      rcases S.hasCart (nI c) with ⟨i, hi, e', h⟩ | ⟨h1, h⟩
      · by_cases q : D.1 732 (72 + 20 * c + 0) = D.1 732 (72 + 20 * j + 0)
        · refine ⟨true, fun k14 v3 x2 => ?_, fun x1 => if_ni (nI_pos (by omega)) (if_ni hne (bn_i (of_i (k := 0) (by omega) (by omega)) (if_pi q rfl)))⟩
          unfold fX5_sameKindBeside_43
          refine if_ni hne (bn_i h (if_pi rfl (gd_i (ix_nI (n := 16) (by omega) (by decide)) (gd_i (ix_nI (n := 16) (by omega) (by decide)) ?_))))
          rw [nI_clamp (by omega), nI_clamp (by omega), kd c hc, kd j hj]
          exact if_pi q (if_pos rfl).symm
        · refine ⟨false, fun k14 v3 x2 => ?_, fun x1 => if_ni (nI_pos (by omega)) (if_ni hne (bn_i (of_i (k := 0) (by omega) (by omega)) (if_ni q rfl)))⟩
          unfold fX5_sameKindBeside_43
          refine if_ni hne (bn_i h (if_pi rfl (gd_i (ix_nI (n := 16) (by omega) (by decide)) (gd_i (ix_nI (n := 16) (by omega) (by decide)) ?_))))
          rw [nI_clamp (by omega), nI_clamp (by omega), kd c hc, kd j hj, if_neg (show ¬ false = true by decide)]
          exact if_ni q rfl
      · exact absurd rfl (h1 c hc)
theorem z_side {ok : Nat → Nat → Prop} {C D : mm_M} {a P K W T : Nat} {N : Nat → Nat} (S : Sim ok C a (D.1 732) P K W T N) (hk : ∀ i, i < K → ok i 0) {j : Nat} (hj : j < K) (x : Int32) : ∃ b : Bool, (∀ k14 x2, (bn (fX5_hasPitch C a x) fun r3 => if r3 = true then gd (¬ (x < 0 ∨ 10 ≤ x.toNatClampNeg)) <| fX5_sameKindBeside_43 a (nI j) x2 C k14 x (C.1 (a + 8 + x.toNatClampNeg) 3) else fX5_sameKindBeside_43 a (nI j) x2 C k14 x (-6)) = if b = true then some true else k14 (x + 2)) ∧ fX7_isKindAt D x (D.1 732 (72 + 20 * j + 0)) (nI j) = some b := by
  have lP := S.bd.lP
  rcases S.pitch2 x with ⟨q, hq, e, h1, h2⟩ | ⟨h1, h2⟩
  · subst e
    have hh : C.1 (a + 8 + q) 3 = D.1 732 (32 + 4 * q + 3) := S.eq _ _ _ (Or.inr (Or.inr (Or.inr (Or.inr (Or.inl ⟨q, hq, rfl, by omega, rfl⟩)))))
    obtain ⟨b, b1, b2⟩ := z_43 S hk hj ((S.val _).pn q hq rfl)
    refine ⟨b, fun k14 x2 => bn_i h1 (if_pi rfl (gd_i (ix_nI (n := 10) (by omega) (by decide)) ?_)), bn_i h2 (if_pi rfl (bn_i (ofP_i (k := 3) (by omega) (by omega)) (b2 _)))⟩
    rw [nI_clamp (by omega), hh]
    exact b1 _ _ _
  · obtain ⟨b, b1, b2⟩ := z_43 S hk hj (t0 := -6) (Or.inl rfl)
    exact ⟨b, fun k14 x2 => bn_i h1 (if_ni (by decide) (b1 _ _ _)), bn_i h2 (if_ni (by decide) (b2 _))⟩
theorem pm : ∀ p, p < 10 → ¬ (nI p + 1 < nI p - 1) ∧ nI p - 1 + 2 = nI p + 1 ∧ ¬ (nI p + 1 < nI p + 1) ∧ nI p + 1 < nI p + 1 + 2 := by decide
theorem z_beside {ok : Nat → Nat → Prop} {C D : mm_M} {a P K W T : Nat} {N : Nat → Nat} (S : Sim ok C a (D.1 732) P K W T N) (hk : ∀ i, i < K → ok i 0) {j p : Nat} (hj : j < K) (hp : p < P) : ∃ b : Bool, fX5_sameKindBeside C a (nI j) (nI p) = some b ∧ fX7_isApart D (nI j) (nI p) = some (!b) := by
  have lP := S.bd.lP
  have lK := S.bd.lK
  obtain ⟨p1, p2, p3, p4⟩ := pm p (by omega)
  obtain ⟨b1, s1, t1⟩ := z_side S hk hj (nI p - 1)
  obtain ⟨b2, s2, t2⟩ := z_side S hk hj (nI p + 1)
  have hc : fX5_hasCart C a (nI j) = some true := by
    rcases S.hasCart (nI j) with ⟨i, hi, e, h⟩ | ⟨h, -⟩
    · exact h
    · exact absurd rfl (h j hj)
  obtain ⟨n, hn⟩ : ∃ n, FU = n + 1 + 1 + 1 := ⟨999997, rfl⟩
  have ho : fX7_of D (nI j) 0 = some (D.1 732 (72 + 20 * j + 0)) := of_i (k := 0) (by omega) (by omega)
  have cl : ∀ r, (if b1 = true then some true else fX5_sameKindBeside_14 a (nI j) (nI p) C (n + 1 + 1) (nI p + 1)) = r → fX5_sameKindBeside C a (nI j) (nI p) = r := fun r hr => by
    refine bn_i hc (if_pi rfl (lt_i ?_))
    rw [hn, fX5_sameKindBeside_14]
    refine if_ni p1 ?_
    rw [s1, p2]
    exact hr
  have cl2 : fX5_sameKindBeside_14 a (nI j) (nI p) C (n + 1 + 1) (nI p + 1) = if b2 = true then some true else some false := by
    rw [fX5_sameKindBeside_14]
    refine if_ni p3 ?_
    rw [s2]
    cases b2
    · rw [if_neg (by decide), if_neg (by decide), fX5_sameKindBeside_14]
      exact if_pi p4 rfl
    · rw [if_pos rfl, if_pos rfl]
  cases b1
  · cases b2
    · exact ⟨false, cl _ (by rw [if_neg (by decide), cl2]; rfl), bn_i ho (bn_i t1 (if_ni (by decide) (bn_i ho (bn_i t2 (if_ni (by decide) rfl)))))⟩
    · exact ⟨true, cl _ (by rw [if_neg (by decide), cl2]; rfl), bn_i ho (bn_i t1 (if_ni (by decide) (bn_i ho (bn_i t2 (if_pi rfl rfl)))))⟩
  · exact ⟨true, cl _ (by rw [if_pos rfl]), bn_i ho (bn_i t1 (if_pi rfl rfl))⟩
theorem okA_0 {K : Nat} : ∀ i, i < K → okA i 0 := fun _ _ => trivial
theorem z_whyNot {T0 : Nat} (x y : Int32) : Vw T0 (fun C => fX6_whyNot C x y) (fun D => fX7_whyNot D x y) := by
  intro C D G
  obtain ⟨P, K, W, T, N, hT, S⟩ := G.live
  have lP := S.bd.lP
  have lK := S.bd.lK
  rcases S.cart2 x with ⟨j, hj, e, h1, h2⟩ | ⟨h1, h2⟩
  · subst e
    rcases S.pitch2 y with ⟨q, hq, e, g1, g2⟩ | ⟨g1, g2⟩
    · subst e
      have hh : C.1 (1 + 8 + q) 3 = D.1 732 (32 + 4 * q + 3) := S.eq _ _ _ (Or.inr (Or.inr (Or.inr (Or.inr (Or.inl ⟨q, hq, rfl, by omega, rfl⟩)))))
      obtain ⟨b, b1, b2⟩ := z_beside S okA_0 hj hq
      have c50 : fX6_whyNot_50 (nI j) (nI q) C = some (if b = true then 2 else 0) := by
        refine bn_i b1 ?_
        cases b
        · rfl
        · rfl
      have m38 : fX7_whyNot_38 (nI j) (nI q) D = some (if b = true then 2 else 0) := by
        refine bn_i b2 ?_
        cases b
        · rfl
        · rfl
      have cl : ∀ r, (if D.1 732 (32 + 4 * q + 3) = (-6) then fX6_whyNot_50 (nI j) (nI q) C else if D.1 732 (32 + 4 * q + 3) = nI j then fX6_whyNot_50 (nI j) (nI q) C else some 1) = r → fX6_whyNot C (nI j) (nI q) = r := fun r hr => by
        refine bn_i h1 (if_pi rfl (bn_i g1 (if_pi rfl (gd_i (ix_nI (n := 10) (by omega) (by decide)) ?_))))
        rw [nI_clamp (by omega), hh]
        exact hr
      have ml : ∀ r, (if D.1 732 (32 + 4 * q + 3) < 0 then fX7_whyNot_38 (nI j) (nI q) D else if D.1 732 (32 + 4 * q + 3) = nI j then fX7_whyNot_38 (nI j) (nI q) D else some 1) = r → fX7_whyNot D (nI j) (nI q) = r := fun r hr => by
        exact bn_i h2 (if_pi rfl (bn_i g2 (if_pi rfl (bn_i (ofP_i (k := 3) (by omega) (by omega)) hr))))
      rcases (S.val _).pn q hq rfl with h | ⟨c, hc, h⟩
      · rw [h] at cl ml
        exact ⟨_, cl _ ((if_pos rfl).trans c50), ml _ ((if_pos (by decide)).trans m38)⟩
      · rw [h] at cl ml
        have hn6 : ¬ nI c = -6 := fun q => nI_pos (n := c) (by omega) (by rw [q]; decide)
        by_cases e : nI c = nI j
        · exact ⟨_, cl _ ((if_neg hn6).trans ((if_pos e).trans c50)), ml _ ((if_neg (nI_pos (by omega))).trans ((if_pos e).trans m38))⟩
        · exact ⟨1, cl _ ((if_neg hn6).trans (if_neg e)), ml _ ((if_neg (nI_pos (by omega))).trans (if_neg e))⟩
    · exact ⟨-1, bn_i h1 (if_pi rfl (bn_i g1 (if_ni (by decide) rfl))), bn_i h2 (if_pi rfl (bn_i g2 (if_ni (by decide) rfl)))⟩
  · exact ⟨-1, bn_i h1 (if_ni (by decide) rfl), bn_i h2 (if_ni (by decide) rfl)⟩
theorem z_pointsOn {T0 : Nat} (x y : Int32) : Vw T0 (fun C => fX6_pointsOn C x y) (fun D => fX7_pointsOn D x y) := by
  intro C D G
  obtain ⟨P, K, W, T, N, hT, S⟩ := G.live
  have lK := S.bd.lK
  have lT := S.bd.lT
  rcases S.cart2 x with ⟨j, hj, e, h1, h2⟩ | ⟨h1, h2⟩
  · subst e
    have e4 : nI T + 400 = nI (T + 400) := nI_add T 400
    have cl : ∀ r, (if y < nI T then some (-2 : Int32) else if y ≤ nI (T + 400) then (bn (fX0_pointsLeft C (1 + 18 + 3 * j) y (nI T) (C.1 (1 + 1) 5)) fun r8 => some r8) else some (-2)) = r → fX6_pointsOn C (nI j) y = r := fun r hr => by
      unfold fX6_pointsOn
      refine bn_i h1 (if_pi rfl ?_)
      rw [S.cT, e4]
      by_cases c0 : y < nI T
      · rw [if_pos c0] at hr ⊢; exact hr
      · rw [if_neg c0] at hr ⊢
        by_cases c1 : y ≤ nI (T + 400)
        · rw [if_pos c1] at hr ⊢
          refine gd_i (ix_nI (n := 16) (by omega) (by decide)) ?_
          rw [nI_clamp (by omega)]
          exact hr
        · rw [if_neg c1] at hr ⊢; exact hr
    have ml : ∀ r, (bn (fX7_in D y (nI T) (nI (T + 400))) fun r5 => if r5 = true then (bn (fX7_pointsAt D (nI j) y) fun r8 => some r8) else some (-2)) = r → fX7_pointsOn D (nI j) y = r := fun r hr => by
      unfold fX7_pointsOn
      refine bn_i h2 (if_pi rfl ?_)
      rw [S.wT, e4]
      exact hr
    by_cases c0 : y < nI T
    · exact ⟨-2, cl _ (if_pos c0), ml _ (bn_i (in_lo c0) (if_ni (by decide) rfl))⟩
    · by_cases c1 : nI (T + 400) < y
      · exact ⟨-2, cl _ ((if_neg c0).trans (if_neg (Int32.not_le.mpr c1))), ml _ (bn_i (in_hi c1) (if_ni (by decide) rfl))⟩
      · have y0 : ¬ y < 0 := fun q => c0 (Int32.lt_of_lt_of_le q (nI_pos' (by omega)))
        obtain ⟨d, hd, e⟩ := nI_of y0
        subst e
        have d1 : T ≤ d := by
          rcases Nat.lt_or_ge d T with q | q
          · exact absurd (nI_lt q (by omega)) c0
          · exact q
        have d2 : d ≤ T + 400 := by
          rcases Nat.lt_or_ge (T + 400) d with q | q
          · exact absurd (nI_lt q hd) c1
          · exact q
        obtain ⟨s, hs, q1, q2⟩ := z_left S hj d1 d2
        exact ⟨nI s, cl _ ((if_neg c0).trans ((if_pos (Int32.not_lt.mp c1)).trans (bn_i q1 rfl))), ml _ (bn_i (in_tt c0 c1) (if_pi rfl (bn_i q2 rfl)))⟩
  · exact ⟨-1, bn_i h1 (if_ni (by decide) rfl), bn_i h2 (if_ni (by decide) rfl)⟩
