/-! p32: act, but for texts -/
theorem l_upA (x : Int32) {m : Nat} (h0 : 0 < m) (hm : m < 2 ^ 31) : ∃ u, u < m ∧ ∀ M, fL_up M x (nI m) = some (nI u) := by
  obtain ⟨a, ha, e⟩ := and_nn x
  refine ⟨a % m, Nat.mod_lt _ h0, fun M => ?_⟩
  unfold fL_up
  refine gd_i (nI_ne0 h0 hm) ?_
  rw [e, pk_rem ha h0 hm]
/-- the law's object between its steps -/
def LA (T0 : Nat) (C : mm_M) (P K : Nat) : Prop := ∃ w h tp sv n sg, Ab T0 C w h tp sv n sg ∧ w 12 = nI P ∧ w 13 = nI K
theorem LA.mono {T0 T1 P K : Nat} {C : mm_M} (h : LA T0 C P K) (q : T0 ≤ T1) : LA T1 C P K := by
  obtain ⟨w, h, tp, sv, n, sg, A, h1, h2⟩ := h
  exact ⟨w, h, tp, sv, n, sg, A.mono q, h1, h2⟩
theorem lN_ge {x n : Nat} : (lg_cmp (lN (x + n)) (lN x + lN n)) = 0 := (lg_cmp_eq _ _).mpr (lN_add x n).symm
theorem wsR_o {w : Nat → Int32} {j : Nat} {y z u : Int32} {s : Nat} (h : s < 72 + 20 * j + 2 ∨ 72 + 20 * j + 6 ≤ s) : wsR w j y z u s = w s := by
  unfold wsR
  rw [up_ne (by omega), up_ne (by omega), up_ne (by omega), up_ne (by omega)]
theorem wsR_2 {w : Nat → Int32} {j : Nat} {y z u : Int32} : wsR w j y z u (72 + 20 * j + 2) = nI (nw y z u) := by
  unfold wsR
  rw [up_ne (by omega), up_ne (by omega), up_ne (by omega), up_eq]
theorem wsR_3 {w : Nat → Int32} {j : Nat} {y z u : Int32} : wsR w j y z u (72 + 20 * j + 3) = y := by
  unfold wsR
  rw [up_ne (by omega), up_ne (by omega), up_eq]
theorem wsR_4 {w : Nat → Int32} {j : Nat} {y z u : Int32} : wsR w j y z u (72 + 20 * j + 4) = z := by
  unfold wsR
  rw [up_ne (by omega), up_eq]
theorem wsR_5 {w : Nat → Int32} {j : Nat} {y z u : Int32} : wsR w j y z u (72 + 20 * j + 5) = u := by
  unfold wsR
  rw [up_eq]
/-- no such pitch -/
theorem nn_no {P : Nat} (lP : P < 100) : ¬ nn (nI P) P := fun h => by
  rcases h with h | ⟨j, hj, e⟩
  · exact n6 (by omega) h
  · have := (nI_eq (by omega) (by omega)).mp e
    omega
theorem ac_209T {T0 h n P K c : Nat} {C : mm_M} {w : Nat → Int32} {tp : Nat → Nat → Int32} {sv : Nat → Option (Nat → Int32)} {sg : Nat → Nat} {x1 x2 x3 : Int32} (A : Ab T0 C w h tp sv n sg) (hP : w 12 = nI P) (hK : w 13 = nI K) (lP : P < 100) (lK : K < 100) (hc : c < K) {y z u t0 : Int32} (v1 : nn y P) (v2 : nn z P) (v3 : nn u P) (hd : dup (nw y z u) y z u) : ∃ C', fL_act_209 x1 x2 x3 C (nI c) (nI P) y z u true t0 = some (true, C') ∧ LA T0 C' P K := by
  obtain ⟨W, T, N, xS, hT, S⟩ := A.1.sim hP hK lP lK
  have c2 := v_ofCart S hc (t := 2) (by omega)
  obtain ⟨C1, e1, A1, S1⟩ := ab_err (r := -2) (op := fun X => fX5_tellWishes X 1 (nI c) y z u) A hT S (by decide) (fun X SX => s_wishD SX hc v1 v2 v3 hd)
  have c2' := v_ofCart S1 hc (t := 2) (by omega)
  exact ⟨C1, bn_i c2 (if_pi rfl (bn2_i e1 (if_pi rfl (bn_i c2' (if_pi rfl rfl))))), w, h, tp, sv, n, sg, A1, hP, hK⟩
theorem ac_209F {T0 h n P K c : Nat} {C : mm_M} {w : Nat → Int32} {tp : Nat → Nat → Int32} {sv : Nat → Option (Nat → Int32)} {sg : Nat → Nat} {x1 x2 x3 : Int32} (A : Ab T0 C w h tp sv n sg) (hP : w 12 = nI P) (hK : w 13 = nI K) (lP : P < 100) (lK : K < 100) (hc : c < K) {y z u : Int32} (v1 : nn y P) (v2 : nn z P) (v3 : nn u P) (y6 : ¬ y = -6) (hd : ¬ dup (nw y z u) y z u) : ∃ C', fL_act_209 x1 x2 x3 C (nI c) (nI P) y z u false (nI (nw y z u)) = some (true, C') ∧ LA T0 C' P K := by
  obtain ⟨W, T, N, xS, hT, S⟩ := A.1.sim hP hK lP lK
  have c2 := v_ofCart S hc (t := 2) (by omega)
  obtain ⟨C1, e1, A1⟩ := ab_chg (r := nI (nw y z u)) (w2 := wsR w c y z u) (op := fun X => fX5_tellWishes X 1 (nI c) y z u) A hT S (nI_pos (by have := nw_le y z u; omega)) (Nat.le_refl _) (fun X SX => by
    obtain ⟨C2, N2, a1, a2, a3, a4⟩ := s_wish hT SX hc v1 v2 v3 hd
    exact ⟨C2, a1, a2, P, K, W, T, N2, xS, a3, a4⟩)
  have hP1 : wsR w c y z u 12 = nI P := by rw [wsR_o (by omega)]; exact hP
  have hK1 : wsR w c y z u 13 = nI K := by rw [wsR_o (by omega)]; exact hK
  obtain ⟨W1, T1, N1, xS1, hT1, S1⟩ := A1.1.sim hP1 hK1 lP lK
  obtain ⟨C2, e2, A2, S2⟩ := ab_err (r := -2) (op := fun X => fX5_tellWishes X 1 (nI c) (nI P) (-6) (-6)) A1 hT1 S1 (by decide) (fun X SX => s_wishE SX hc (nn_no lP))
  have hn := nw_le y z u
  have n1 : 1 ≤ nw y z u := by
    unfold nw
    rw [if_neg y6]
    by_cases q : z = -6
    · rw [if_pos q]; exact Nat.le_refl _
    · rw [if_neg q]
      by_cases q2 : u = -6
      · rw [if_pos q2]; omega
      · rw [if_neg q2]; omega
  have cl : (wsR w c y z u (72 + 20 * c + 2)).toNatClampNeg = nw y z u := by rw [wsR_2, nI_clamp (by omega)]
  have k2 : fX6_ofCart C1 (nI c) 2 = some (nI (nw y z u)) := by
    have := v_ofCart S1 hc (t := 2) (by omega)
    have e : ocF (wsR w c y z u) c 2 = wsR w c y z u (72 + 20 * c + 2) := rfl
    rw [e, wsR_2] at this
    exact this
  have k3 : fX6_ofCart C1 (nI c) 3 = some y := by
    have := v_ofCart S1 hc (t := 3) (by omega)
    have e : ocF (wsR w c y z u) c 3 = wsF (wsR w c y z u) c 0 := rfl
    rw [e] at this
    unfold wsF at this
    rw [cl, if_pos (by omega), Nat.add_zero, wsR_3] at this
    exact this
  have k4 : fX6_ofCart C1 (nI c) 4 = some (if 1 < nw y z u then z else -6) := by
    have := v_ofCart S1 hc (t := 4) (by omega)
    have e : ocF (wsR w c y z u) c 4 = wsF (wsR w c y z u) c 1 := rfl
    rw [e] at this
    unfold wsF at this
    rw [cl, show 72 + 20 * c + 3 + 1 = 72 + 20 * c + 4 from rfl, wsR_4] at this
    exact this
  have k5 : fX6_ofCart C1 (nI c) 5 = some (if 2 < nw y z u then u else -6) := by
    have := v_ofCart S1 hc (t := 5) (by omega)
    have e : ocF (wsR w c y z u) c 5 = wsF (wsR w c y z u) c 2 := rfl
    rw [e] at this
    unfold wsF at this
    rw [cl, show 72 + 20 * c + 3 + 2 = 72 + 20 * c + 5 from rfl, wsR_5] at this
    exact this
  have f344 : ∀ t, fL_act_344 x1 x2 x3 C1 (nI c) (nI P) t t = some (true, C2) := fun t => if_pi rfl (bn2_i e2 (if_pi rfl rfl))
  have f321 : fL_act_321 x1 x2 x3 C1 (nI c) (nI P) u (nI (nw y z u)) (if 1 < nw y z u then z else -6) (if 1 < nw y z u then z else -6) = some (true, C2) := by
    refine if_pi rfl (bn_i k5 ?_)
    by_cases q : 2 < nw y z u
    · rw [if_pos q]
      exact if_ni (show ¬ nI (nw y z u) ≤ nI 2 from nI_ge q (by omega)) (f344 _)
    · rw [if_neg q]
      exact if_pi (show nI (nw y z u) ≤ nI 2 from nI_le (by omega) (by omega)) (f344 _)
  refine ⟨C2, bn_i c2 (if_ni (by decide) (bn2_i e1 (if_pi rfl (bn_i k2 (if_pi rfl (bn_i k3 (if_pi rfl (bn_i k4 ?_)))))))), _, _, _, _, _, _, A2, hP1, hK1⟩
  by_cases q : 1 < nw y z u
  · rw [if_pos q] at f321 ⊢
    exact if_ni (show ¬ nI (nw y z u) ≤ nI 1 from nI_ge q (by omega)) f321
  · rw [if_neg q] at f321 ⊢
    exact if_pi (show nI (nw y z u) ≤ nI 1 from nI_le (by omega) (by omega)) f321
theorem ac_150 {T0 h n P K c a : Nat} {C : mm_M} {w : Nat → Int32} {tp : Nat → Nat → Int32} {sv : Nat → Option (Nat → Int32)} {sg : Nat → Nat} {x1 x2 x3 : Int32} (A : Ab T0 C w h tp sv n sg) (hP : w 12 = nI P) (hK : w 13 = nI K) (lP : P < 100) (lK : K < 100) (hc : c < K) (ha : a < P) {z u : Int32} (v2 : nn z P) (v3 : nn u P) : ∃ C', fL_act_150 x1 x2 x3 C (nI c) (nI P) (nI a) z u = some (true, C') ∧ LA T0 C' P K := by
  have v1 : nn (nI a) P := Or.inr ⟨a, ha, rfl⟩
  have y6 : ¬ nI a = -6 := n6 (by omega)
  have T := fun (t0 : Int32) (hd : dup (nw (nI a) z u) (nI a) z u) => ac_209T (x1 := x1) (x2 := x2) (x3 := x3) (t0 := t0) A hP hK lP lK hc v1 v2 v3 hd
  have F := ac_209F (x1 := x1) (x2 := x2) (x3 := x3) A hP hK lP lK hc v1 v2 v3 y6
  rcases v2 with h2 | ⟨b, hb, h2⟩
  · subst h2
    have e : nw (nI a) (-6) u = 1 := by unfold nw; rw [if_neg y6, if_pos rfl]
    rw [e] at F
    obtain ⟨C', r1, r2⟩ := F (by omega)
    have e187 : fL_act_187 x1 x2 x3 C (nI c) (nI P) (nI a) (-6) u = some (true, C') := by
      unfold fL_act_187 fL_act_188
      exact if_ni (by decide) r1
    exact ⟨C', if_pi (by decide) e187, r2⟩
  · subst h2
    have z6 : ¬ nI b = -6 := n6 (by omega)
    have zp : 0 ≤ nI b := nI_pos' (by omega)
    have zn : ¬ nI b < 0 := nI_pos (by omega)
    rcases v3 with h3 | ⟨d, hd, h3⟩
    · subst h3
      have e : nw (nI a) (nI b) (-6) = 2 := by unfold nw; rw [if_neg y6, if_neg z6, if_pos rfl]
      rw [e] at T F
      by_cases q : nI a = nI b
      · obtain ⟨C', r1, r2⟩ := T 2 (Or.inl ⟨by omega, q⟩)
        exact ⟨C', if_ni zn (if_pi q (if_pi zp (if_ni (by decide) r1))), r2⟩
      · obtain ⟨C', r1, r2⟩ := F (fun z => z.elim (fun z => q z.2) (fun z => absurd z.1 (by omega)))
        exact ⟨C', if_ni zn (if_ni q (if_pi (by decide) (if_pi zp (if_ni (by decide) r1)))), r2⟩
    · subst h3
      have u6 : ¬ nI d = -6 := n6 (by omega)
      have up0 : 0 ≤ nI d := nI_pos' (by omega)
      have un : ¬ nI d < 0 := nI_pos (by omega)
      have e : nw (nI a) (nI b) (nI d) = 3 := by unfold nw; rw [if_neg y6, if_neg z6, if_neg u6]
      rw [e] at T F
      by_cases q : nI a = nI b
      · obtain ⟨C', r1, r2⟩ := T 3 (Or.inl ⟨by omega, q⟩)
        exact ⟨C', if_ni zn (if_pi q (if_pi zp (if_pi up0 r1))), r2⟩
      · by_cases q2 : nI a = nI d
        · obtain ⟨C', r1, r2⟩ := T 3 (Or.inr ⟨rfl, Or.inl q2⟩)
          exact ⟨C', if_ni zn (if_ni q (if_ni un (if_pi q2 (if_pi zp (if_pi up0 r1))))), r2⟩
        · by_cases q3 : nI b = nI d
          · obtain ⟨C', r1, r2⟩ := T 3 (Or.inr ⟨rfl, Or.inr q3⟩)
            exact ⟨C', if_ni zn (if_ni q (if_ni un (if_ni q2 (if_pi q3 (if_pi zp (if_pi up0 r1)))))), r2⟩
          · obtain ⟨C', r1, r2⟩ := F (fun z => z.elim (fun z => q z.2) (fun z => z.2.elim q2 q3))
            exact ⟨C', if_ni zn (if_ni q (if_ni un (if_ni q2 (if_ni q3 (if_pi zp (if_pi up0 r1)))))), r2⟩
theorem ac_84 {T0 P K c : Nat} {C : mm_M} {x1 x2 x3 : Int32} (L : LA T0 C P K) (lP : P < 100) (lK : K < 100) (P0 : 0 < P) (hc : c < K) : ∃ C', fL_act_84 x1 x2 x3 C (nI c) = some (true, C') ∧ LA T0 C' P K := by
  obtain ⟨w, h, tp, sv, n, sg, A, hP, hK⟩ := L
  obtain ⟨W, T, N, xS, hT, S⟩ := A.1.sim hP hK lP lK
  have c2 : fX6_count C 2 = some (nI P) := by
    have := v_count S (k := 2) (by omega) (by omega) (by omega)
    rw [show ctF w K 2 = w 12 from rfl, hP] at this
    exact this
  obtain ⟨a, ha, ea⟩ := l_upA x3 (m := P) P0 (by omega)
  obtain ⟨q4, h4, e4⟩ := l_upA (x3 >>> (4 &&& 31)) (m := 4) (by omega) (by omega)
  obtain ⟨b, hb, eb⟩ := l_upA (x3 >>> (7 &&& 31)) (m := P) P0 (by omega)
  obtain ⟨q3, h3, e3⟩ := l_upA (x3 >>> (10 &&& 31)) (m := 3) (by omega) (by omega)
  obtain ⟨d, hd, ed⟩ := l_upA (x3 >>> (13 &&& 31)) (m := P) P0 (by omega)
  have s123 : ∀ z, nn z P → ∃ C', fL_act_123 x1 x2 x3 C (nI c) (nI P) (nI a) z = some (true, C') ∧ LA T0 C' P K := fun z hz => by
    unfold fL_act_123
    by_cases q : nI q3 = 0
    · obtain ⟨C', r1, r2⟩ := ac_150 (x1 := x1) (x2 := x2) (x3 := x3) A hP hK lP lK hc ha hz (Or.inl rfl)
      exact ⟨C', bn_i (e3 C) (if_pi q r1), r2⟩
    · obtain ⟨C', r1, r2⟩ := ac_150 (x1 := x1) (x2 := x2) (x3 := x3) A hP hK lP lK hc ha hz (Or.inr ⟨d, hd, rfl⟩)
      exact ⟨C', bn_i (e3 C) (if_ni q (bn_i (ed C) r1)), r2⟩
  unfold fL_act_84
  by_cases q : nI q4 = 0
  · obtain ⟨C', r1, r2⟩ := s123 (-6) (Or.inl rfl)
    exact ⟨C', bn_i c2 (bn_i (ea C) (bn_i (e4 C) (if_pi q r1))), r2⟩
  · obtain ⟨C', r1, r2⟩ := s123 (nI b) (Or.inr ⟨b, hb, rfl⟩)
    exact ⟨C', bn_i c2 (bn_i (ea C) (bn_i (e4 C) (if_ni q (bn_i (eb C) r1)))), r2⟩
set_option maxHeartbeats 1000000 in
theorem ac_fine {T0 P K c u : Nat} {C : mm_M} {x1 x2 x3 : Int32} (L : LA T0 C P K) (lP : P < 100) (lK : K < 100) (hc : c < K) (hu : u < 9) (hT9 : T0 + 1 < 26843) : ∃ C' r15 r17 r19, fX6_ofCart C (nI c) 9 = some r15 ∧ fX6_money C (nI c) 3 = some r17 ∧ fX6_count C 11 = some r19 ∧ (if (r15 + nI (1 + u)) < r19 then fL_act_422 x1 x2 x3 C (nI c) (nI (1 + u)) r17 (r15 + nI (1 + u)) else fL_act_422 x1 x2 x3 C (nI c) (nI (1 + u)) r17 0) = some (true, C') ∧ LA (T0 + 1) C' P K := by
  obtain ⟨w, h, tp, sv, n, sg, A, hP, hK⟩ := L
  obtain ⟨W, T, N, xS, hT, S⟩ := A.1.sim hP hK lP lK
  have lT := S.bd.lT
  have hb := ptF_le S hc (Nat.le_refl T)
  obtain ⟨Lm, hLm, eLm⟩ := (S.val 3).rng (by omega)
  have k9 : fX6_ofCart C (nI c) 9 = some (nI (ptF w c T)) := by
    have := v_ofCart S hc (t := 9) (by omega)
    have e : ocF w c 9 = nI (ptF w c (w 10).toNatClampNeg) := rfl
    rw [e, S.wT, nI_clamp (by omega)] at this
    exact this
  have m3 : fX6_money C (nI c) 3 = some (lN (xS c 2)) := v_money S hc (t := 3) (by omega)
  have c11 : fX6_count C 11 = some (nI Lm) := by
    have := v_count S (k := 11) (by omega) (by omega) (by omega)
    rw [show ctF w K 11 = w 3 from rfl, eLm] at this
    exact this
  obtain ⟨v, ev⟩ : ∃ v, v = (if ptF w c T + (1 + u) < (w 3).toNatClampNeg then ptF w c T + (1 + u) else 0) := ⟨_, rfl⟩
  have hv : v < 2 ^ 31 := by
    rw [ev]
    by_cases q : ptF w c T + (1 + u) < (w 3).toNatClampNeg
    · rw [if_pos q]; omega
    · rw [if_neg q]; omega
  obtain ⟨r, C1, w1, e1, A1, er, W1, fi, N1, w6, hfi, hT1, S1, q1, q2, q3, q4, q5⟩ := ab_chgQ (T1 := T0 + 1) (Q := fun r u' => r = nI v ∧ ∃ W1 fi N1, w 6 = nI fi ∧ fi ≤ 10000 ∧ TX T (xU xS c 2 (xS c 2 + (1 + u) * fi)) (T0 + 1) u' K P ∧ (∃ X, Sim okA X 1 u' P K W1 T N1 (xU xS c 2 (xS c 2 + (1 + u) * fi))) ∧ ptF u' c T = v ∧ u' 6 = w 6 ∧ u' 10 = w 10 ∧ u' 4 = w 4 ∧ (¬ ptF w c T + (1 + u) < (w 3).toNatClampNeg → u' (72 + 20 * c + 9) = w 10 + w 4)) (op := fun X => fX5_punish X 1 (nI c) (nI (1 + u))) A hT S (by omega) (fun X SX => by
    obtain ⟨C2, u2, fi, a1, a2, b1, b2, a3, a4, b3, b4, b5, b6, b7⟩ := s_fine hT SX (j := c) (p := 1 + u) hc (by omega) (by omega)
    rw [← ev] at a1 b3
    exact ⟨_, C2, u2, nI_pos hv, a1, a2, ⟨P, K, _, _, _, _, a3, a4⟩, rfl, _, fi, _, b1, b2, a3, ⟨C2, a4⟩, b3, b4, b5, b6, b7⟩)
  subst er
  obtain ⟨X0, SX0⟩ := S1
  have hP1 := SX0.wP
  have hK1 := SX0.wK
  obtain ⟨W2, T2, N2, xS2, hT2, S2⟩ := A1.1.sim hP1 hK1 lP lK
  have eT2 : T2 = T := (nI_eq (by have := S2.bd.lT; omega) (by omega)).mp (S2.wT.symm.trans SX0.wT)
  subst eT2
  have hx : xS2 c 2 = xS c 2 + (1 + u) * fi := by
    have h1 := hT2.2.1 c 2
    have h2 := hT1.2.1 c 2
    have h3 := (SX0.sumE c hc 2 (by omega)).2
    have e : xU xS c 2 (xS c 2 + (1 + u) * fi) c 2 = xS c 2 + (1 + u) * fi := if_pos ⟨rfl, rfl⟩
    rw [e] at h2 h3
    exact nI32 (by omega) (by omega) ((S2.sumE c hc 2 (by omega)).2.symm.trans h3)
  have k9' : fX6_ofCart C1 (nI c) 9 = some (nI v) := by
    have := v_ofCart S2 hc (t := 9) (by omega)
    have e : ocF w1 c 9 = nI (ptF w1 c (w1 10).toNatClampNeg) := rfl
    rw [e, S2.wT, nI_clamp (by omega), q1] at this
    exact this
  have m3' : fX6_money C1 (nI c) 3 = some (lN (xS2 c 2)) := v_money S2 hc (t := 3) (by omega)
  have c14 : fX6_count C1 14 = some (nI fi) := by
    have := v_count S2 (k := 14) (by omega) (by omega) (by omega)
    rw [show ctF w1 K 14 = w1 6 from rfl, q2, w6] at this
    exact this
  have c0 : fX6_count C1 0 = some (w 10) := by
    have := v_count S2 (k := 0) (by omega) (by omega) (by omega)
    rw [show ctF w1 K 0 = w1 10 from rfl, q3] at this
    exact this
  have c12 : fX6_count C1 12 = some (w 4) := by
    have := v_count S2 (k := 12) (by omega) (by omega) (by omega)
    rw [show ctF w1 K 12 = w1 4 from rfl, q4] at this
    exact this
  have k10 : fX6_ofCart C1 (nI c) 10 = some (w1 (72 + 20 * c + 9)) := v_ofCart S2 hc (t := 10) (by omega)
  obtain ⟨C2, e2, A2, -⟩ := ab_err (r := -2) (op := fun X => fX5_punish X 1 (nI c) 0) A1 hT2 S2 (by decide) (fun X SX => s_fineE SX hc)
  have f502 : fL_act_502 x1 x2 x3 C1 (nI c) = some (true, C2) := bn2_i e2 (if_pi rfl rfl)
  have f422 : fL_act_422 x1 x2 x3 C (nI c) (nI (1 + u)) (lN (xS c 2)) (nI v) = some (true, C2) := by
    refine bn2_i e1 (if_pi rfl (bn_i k9' (if_pi rfl (bn_i m3' (bn_i c14 (if_pi ?_ ?_))))))
    · rw [pk_mul, nI_l (by have : (1 + u) * fi ≤ 9 * 10000 := Nat.mul_le_mul (by omega) hfi; omega), hx, lN_add]
      exact (lg_cmp_eq _ _).mpr rfl
    · by_cases q : v = 0
      · have q5' : w1 (72 + 20 * c + 9) = w 10 + w 4 := q5 (fun z => by rw [if_pos z] at ev; omega)
        refine if_ni (by rw [q]; decide) (bn_i k10 (bn_i c0 (bn_i c12 (if_pi q5' f502))))
      · exact if_pi (show nI 0 < nI v from nI_lt (by omega) hv) f502
  refine ⟨C2, _, _, _, k9, m3, c11, ?_, w1, _, _, _, _, _, A2, hP1, hK1⟩
  rw [nI_add]
  rw [eLm, nI_clamp (by omega)] at ev
  by_cases q : ptF w c T2 + (1 + u) < Lm
  · rw [if_pos q] at ev
    rw [← ev]
    exact if_pi (nI_lt (by omega) (by omega)) f422
  · rw [if_neg q] at ev
    rw [ev] at f422
    exact if_ni (nI_nlt (by omega) (by omega)) f422
theorem cnB_up {w : Nat → Int32} {K c : Nat} (hc : c < K) (h : w (72 + 20 * c + 8) = 0) : cnB (wb (up w (72 + 20 * c + 8) 1)) K = cnB (wb w) K + 1 := by
  have e1 : wb w c = false := decide_eq_false (fun q => q h)
  have e2 : wb (up w (72 + 20 * c + 8) 1) c = true := decide_eq_true (by rw [up_eq]; decide)
  have eo : ∀ i, i ≠ c → wb (up w (72 + 20 * c + 8) 1) i = wb w i := fun i hi => by
    unfold wb
    rw [up_ne (by omega)]
  have go : ∀ n, cnB (wb (up w (72 + 20 * c + 8) 1)) n = cnB (wb w) n + (if c < n then 1 else 0) := by
    intro n
    induction n with
    | zero => rfl
    | succ n ih =>
      show cnB (wb (up w (72 + 20 * c + 8) 1)) n + (if wb (up w (72 + 20 * c + 8) 1) n = true then 1 else 0) = cnB (wb w) n + (if wb w n = true then 1 else 0) + _
      rw [ih]
      by_cases q : n = c
      · subst q
        rw [e1, e2, if_pos rfl, if_neg (show ¬ false = true by decide), if_neg (show ¬ n < n by omega), if_pos (show n < n + 1 by omega)]
      · rw [eo n q]
        by_cases q2 : c < n
        · rw [if_pos q2, if_pos (show c < n + 1 by omega)]; omega
        · rw [if_neg q2, if_neg (show ¬ c < n + 1 by omega)]
          omega
  rw [go, if_pos hc]
theorem ac_check {T0 P K c : Nat} {C : mm_M} (L : LA T0 C P K) (lP : P < 100) (lK : K < 100) (hc : c < K) : ∃ C' r23 r25, fX6_count C 4 = some r23 ∧ fX6_ofCart C (nI c) 8 = some r25 ∧ (if r25 = 1 then
      bn2 (fX6_check C (nI c)) fun r39 M40 =>
      if r39 = (-5) then
        some (true, M40)
      else
        some (false, M40)
    else
      bn2 (fX6_check C (nI c)) fun r28 M29 =>
      if r28 = (r23 + 1) then
        bn (fX6_ofCart M29 (nI c) 8) fun r32 =>
        if r32 = 1 then
          bn2 (fX6_check M29 (nI c)) fun r35 M36 =>
          if r35 = (-5) then
            some (true, M36)
          else
            some (false, M36)
        else
          some (false, M29)
      else
        some (false, M29)) = some (true, C') ∧ LA T0 C' P K := by
  obtain ⟨w, h, tp, sv, n, sg, A, hP, hK⟩ := L
  obtain ⟨W, T, N, xS, hT, S⟩ := A.1.sim hP hK lP lK
  have c4 : fX6_count C 4 = some (nI (cnB (wb w) K)) := v_count S (k := 4) (by omega) (by omega) (by omega)
  have k8 : fX6_ofCart C (nI c) 8 = some (w (72 + 20 * c + 8)) := v_ofCart S hc (t := 8) (by omega)
  rcases (S.val _).wai c hc rfl with w0 | w1
  · obtain ⟨C1, e1, A1⟩ := ab_chg (r := nI (cnB (wb (up w (72 + 20 * c + 8) 1)) K)) (w2 := up w (72 + 20 * c + 8) 1) (op := fun X => fX5_askCheck X 1 (nI c)) A hT S (nI_pos (by have := cnB_le (wb (up w (72 + 20 * c + 8) 1)) K; omega)) (Nat.le_refl _) (fun X SX => s_check hT SX hc w0)
    have hP1 : up w (72 + 20 * c + 8) 1 12 = nI P := by rw [up_ne (by omega)]; exact hP
    have hK1 : up w (72 + 20 * c + 8) 1 13 = nI K := by rw [up_ne (by omega)]; exact hK
    obtain ⟨W1, T1, N1, xS1, hT1, S1⟩ := A1.1.sim hP1 hK1 lP lK
    have k8' : fX6_ofCart C1 (nI c) 8 = some 1 := by
      have := v_ofCart S1 hc (t := 8) (by omega)
      have e : ocF (up w (72 + 20 * c + 8) 1) c 8 = up w (72 + 20 * c + 8) 1 (72 + 20 * c + 8) := rfl
      rw [e, up_eq] at this
      exact this
    obtain ⟨C2, e2, A2, -⟩ := ab_err (r := -5) (op := fun X => fX5_askCheck X 1 (nI c)) A1 hT1 S1 (by decide) (fun X SX => s_checkE SX hc (by rw [up_eq]; decide))
    refine ⟨C2, _, _, c4, k8, if_ni (by rw [w0]; decide) (bn2_i e1 (if_pi ?_ (bn_i k8' (if_pi rfl (bn2_i e2 (if_pi rfl rfl)))))), _, _, _, _, _, _, A2, hP1, hK1⟩
    rw [cnB_up hc w0, nI_1]
  · obtain ⟨C2, e2, A2, -⟩ := ab_err (r := -5) (op := fun X => fX5_askCheck X 1 (nI c)) A hT S (by decide) (fun X SX => s_checkE SX hc (by rw [w1]; decide))
    exact ⟨C2, _, _, c4, k8, if_pi w1 (bn2_i e2 (if_pi rfl rfl)), _, _, _, _, _, _, A2, hP, hK⟩
theorem ac_swap {T0 P K c : Nat} {C : mm_M} {x1 x2 x3 : Int32} (L : LA T0 C P K) (lP : P < 100) (lK : K < 100) (hc : c < K) : ∃ C', fL_act_598 x1 x2 x3 C (nI c) = some (true, C') ∧ LA T0 C' P K := by
  obtain ⟨w, h, tp, sv, n, sg, A, hP, hK⟩ := L
  obtain ⟨W, T, N, xS, hT, S⟩ := A.1.sim hP hK lP lK
  have lW := S.bd.lW
  have c1 : fX6_count C 1 = some (nI K) := by
    have := v_count S (k := 1) (by omega) (by omega) (by omega)
    rw [show ctF w K 1 = w 13 from rfl, hK] at this
    exact this
  have c5 : fX6_count C 5 = some (nI W) := by
    have := v_count S (k := 5) (by omega) (by omega) (by omega)
    rw [show ctF w K 5 = w 14 from rfl, S.wW] at this
    exact this
  obtain ⟨d, hd, ed⟩ := l_upA x3 (m := K) (by omega) (by omega)
  unfold fL_act_598
  by_cases q : c = d
  · obtain ⟨C1, e1, A1, -⟩ := ab_err (r := -1) (op := fun X => fX5_askSwap X 1 (nI c) (nI d)) A hT S (by decide) (fun X SX => (s_swapE SX hc hd).1 q)
    exact ⟨C1, bn_i c1 (bn_i (ed C) (bn_i c5 (if_pi (by rw [q]) (bn2_i e1 (if_pi rfl rfl))))), _, _, _, _, _, _, A1, hP, hK⟩
  · have qn : ¬ nI c = nI d := fun z => q ((nI_eq (by omega) (by omega)).mp z)
    by_cases q2 : W = 8
    · obtain ⟨C1, e1, A1, -⟩ := ab_err (r := -4) (op := fun X => fX5_askSwap X 1 (nI c) (nI d)) A hT S (by decide) (fun X SX => (s_swapE SX hc hd).2 q q2)
      exact ⟨C1, bn_i c1 (bn_i (ed C) (bn_i c5 (if_ni qn (if_pi (by rw [q2]; rfl) (bn2_i e1 (if_pi rfl rfl)))))), _, _, _, _, _, _, A1, hP, hK⟩
    · obtain ⟨C1, e1, A1⟩ := ab_chg (r := nI (W + 1)) (w2 := up (up (up w (16 + 2 * W) (nI c)) (16 + 2 * W + 1) (nI d)) 14 (nI (W + 1))) (op := fun X => fX5_askSwap X 1 (nI c) (nI d)) A hT S (nI_pos (by omega)) (Nat.le_refl _) (fun X SX => s_swap hT SX hc hd q (by omega))
      have hP1 : up (up (up w (16 + 2 * W) (nI c)) (16 + 2 * W + 1) (nI d)) 14 (nI (W + 1)) 12 = nI P := by rw [up_ne (by omega), up_ne (by omega), up_ne (by omega)]; exact hP
      have hK1 : up (up (up w (16 + 2 * W) (nI c)) (16 + 2 * W + 1) (nI d)) 14 (nI (W + 1)) 13 = nI K := by rw [up_ne (by omega), up_ne (by omega), up_ne (by omega)]; exact hK
      obtain ⟨W1, T1, N1, xS1, hT1, S1⟩ := A1.1.sim hP1 hK1 lP lK
      have c5' : fX6_count C1 5 = some (nI (W + 1)) := by
        have := v_count S1 (k := 5) (by omega) (by omega) (by omega)
        rw [show ctF (up (up (up w (16 + 2 * W) (nI c)) (16 + 2 * W + 1) (nI d)) 14 (nI (W + 1))) K 5 = up (up (up w (16 + 2 * W) (nI c)) (16 + 2 * W + 1) (nI d)) 14 (nI (W + 1)) 14 from rfl, up_eq] at this
        exact this
      exact ⟨C1, bn_i c1 (bn_i (ed C) (bn_i c5 (if_ni qn (if_ni (fun z => q2 ((nI_eq (b := 8) (by omega) (by omega)).mp z)) (bn2_i e1 (if_pi (nI_1 W).symm (bn_i c5' (if_pi (nI_1 W).symm rfl)))))))), _, _, _, _, _, _, A1, hP1, hK1⟩
theorem ac_pay {T0 P K c u : Nat} {C : mm_M} {x1 x2 x3 : Int32} (L : LA T0 C P K) (lP : P < 100) (lK : K < 100) (hc : c < K) (hu : u < 1000000) (hT9 : T0 + 7 < 26843) : ∃ C' r49 r51 M52, fX6_money C (nI c) 0 = some r49 ∧ fX6_pay C (nI c) (nI (1 + u)) = some (r51, M52) ∧ (if (lg_cmp (r49 + ((nI (1 + u)).toInt64)) (0 : Int64)) < 0 then
      fL_act_747 x1 x2 x3 M52 (nI c) (nI (1 + u)) r49 r51 false
    else
      fL_act_747 x1 x2 x3 M52 (nI c) (nI (1 + u)) r49 r51 true) = some (true, C') ∧ LA (T0 + 7) C' P K := by
  obtain ⟨w, h, tp, sv, n, sg, A, hP, hK⟩ := L
  obtain ⟨W, T, N, xS, hT, S⟩ := A.1.sim hP hK lP lK
  have m0 : fX6_money C (nI c) 0 = some (moF xS c 0) := v_money S hc (t := 0) (by omega)
  obtain ⟨r, er⟩ : ∃ r : Int32, r = (if (lg_cmp (moF xS c 0 + lN (1 + u)) (0 : Int64)) < 0 then 0 else 1) := ⟨_, rfl⟩
  have hr : ¬ r < 0 := by
    rw [er]
    by_cases q : (lg_cmp (moF xS c 0 + lN (1 + u)) (0 : Int64)) < 0
    · rw [if_pos q]; decide
    · rw [if_neg q]; decide
  obtain ⟨r', C1, w1, e1, A1, er', ew, hT1⟩ := ab_chgQ (T1 := T0 + 7) (Q := fun r' u' => r' = r ∧ u' = up w (72 + 20 * c + 15) (nI (xS c 0 + (1 + u))) ∧ TX T (xU xS c 0 (xS c 0 + (1 + u))) (T0 + 7) u' K P) (op := fun X => fX5_takeMoney X 1 (nI c) (nI (1 + u))) A hT S (by omega) (fun X SX => by
    obtain ⟨C2, a1, a2, a3, a4⟩ := s_pay hT SX (j := c) (m := 1 + u) hc (by omega) (by omega)
    rw [← er] at a1
    exact ⟨r, C2, _, hr, a1, a2, ⟨P, K, W, T, N, _, a3, a4⟩, rfl, rfl, a3⟩)
  subst er'
  have hP1 : w1 12 = nI P := by rw [ew, up_ne (by omega)]; exact hP
  have hK1 : w1 13 = nI K := by rw [ew, up_ne (by omega)]; exact hK
  obtain ⟨W2, T2, N2, xS2, hT2, S2⟩ := A1.1.sim hP1 hK1 lP lK
  have hx : ∀ k, k < 4 → xS2 c k = xU xS c 0 (xS c 0 + (1 + u)) c k := fun k hk => by
    have h1 := hT2.2.1 c k
    have h2 := hT1.2.1 c k
    refine nI32 (by omega) (by omega) ((S2.sumE c hc k hk).2.symm.trans ?_)
    rw [ew]
    unfold xU
    by_cases q : k = 0
    · subst q
      rw [if_pos ⟨rfl, rfl⟩, Nat.add_zero, up_eq]
    · rw [if_neg (fun z => q z.2), up_ne (by omega)]
      exact (S.sumE c hc k hk).2
  have m0' : fX6_money C1 (nI c) 0 = some (moF xS c 0 + lN (1 + u)) := by
    have := v_money S2 hc (t := 0) (by omega)
    have e : moF xS2 c 0 = lN (xS2 c 0) - lN (xS2 c 1) - lN (xS2 c 2) - lN (xS2 c 3) := rfl
    have e0 : xU xS c 0 (xS c 0 + (1 + u)) c 0 = xS c 0 + (1 + u) := if_pos ⟨rfl, rfl⟩
    have e1 : xU xS c 0 (xS c 0 + (1 + u)) c 1 = xS c 1 := if_neg (by omega)
    have e2 : xU xS c 0 (xS c 0 + (1 + u)) c 2 = xS c 2 := if_neg (by omega)
    have e3 : xU xS c 0 (xS c 0 + (1 + u)) c 3 = xS c 3 := if_neg (by omega)
    rw [e, hx 0 (by omega), hx 1 (by omega), hx 2 (by omega), hx 3 (by omega), e0, e1, e2, e3, ← lN_add, ← lNx] at this
    exact this
  obtain ⟨C2, e2, A2, -⟩ := ab_err (r := -2) (op := fun X => fX5_takeMoney X 1 (nI c) 0) A1 hT2 S2 (by decide) (fun X SX => s_payE SX hc)
  have f747 : ∀ b, r' = b2i b → fL_act_747 x1 x2 x3 C1 (nI c) (nI (1 + u)) (moF xS c 0) r' b = some (true, C2) := fun b hb => by
    refine if_pi hb (bn_i m0' (if_pi ?_ (bn2_i e2 (if_pi rfl rfl))))
    rw [nI_l (by omega)]
    exact (lg_cmp_eq _ _).mpr rfl
  refine ⟨C2, _, r', C1, m0, e1, ?_, _, _, _, _, _, _, A2, hP1, hK1⟩
  rw [nI_l (by omega)]
  by_cases q : (lg_cmp (moF xS c 0 + lN (1 + u)) (0 : Int64)) < 0
  · rw [if_pos q] at er
    exact if_pi q (f747 false (by rw [er]; rfl))
  · rw [if_neg q] at er
    exact if_ni q (f747 true (by rw [er]; rfl))
theorem ac_days {T0 P K : Nat} {C : mm_M} {x1 x2 x3 : Int32} (L : LA T0 C P K) (lP : P < 100) (lK : K < 100) (hT9 : T0 + 60 < 26843) (t1 : Int32) {m : Nat} (m0 : 0 < m) (m30 : m ≤ 30) : ∃ C', fL_act_948 x1 x2 x3 C t1 (nI m) = some (true, C') ∧ LA (T0 + 30) C' P K := by
  obtain ⟨w, h, tp, sv, n, sg, A, hP, hK⟩ := L
  obtain ⟨W, T, N, xS, hT, S⟩ := A.1.sim hP hK lP lK
  have lT := S.bd.lT
  have hTT := hT.1
  have c0 : fX6_count C 0 = some (nI T) := by
    have := v_count S (k := 0) (by omega) (by omega) (by omega)
    rw [show ctF w K 0 = w 10 from rfl, S.wT] at this
    exact this
  obtain ⟨u, hu, eu⟩ := l_upA t1 (m := m) m0 (by omega)
  obtain ⟨r, C1, w1, e1, A1, er, hP1, hK1, hT1, hW1⟩ := ab_chgQ (T1 := T0 + (1 + u)) (Q := fun r u' => r = nI (T + (1 + u)) ∧ u' 12 = nI P ∧ u' 13 = nI K ∧ u' 10 = nI (T + (1 + u)) ∧ u' 14 = 0) (op := fun X => fX5_passDays X 1 (nI (1 + u))) A hT S (by omega) (fun X SX => by
    obtain ⟨C2, xS2', a1, a2, a3, a4⟩ := s_days kT1 (by omega) hT SX (v := 1 + u) (by omega) (by omega)
    exact ⟨_, C2, _, nI_pos (by omega), a1, a2, ⟨P, K, 0, _, N, xS2', a3, a4⟩, rfl, a4.wP, a4.wK, a4.wT, a4.wW⟩)
  subst er
  obtain ⟨W1, T1, N1, xS1, hT1', S1⟩ := A1.1.sim hP1 hK1 lP lK
  have c0' : fX6_count C1 0 = some (nI (T + (1 + u))) := by
    have := v_count S1 (k := 0) (by omega) (by omega) (by omega)
    rw [show ctF w1 K 0 = w1 10 from rfl, hT1] at this
    exact this
  have c5' : fX6_count C1 5 = some 0 := by
    have := v_count S1 (k := 5) (by omega) (by omega) (by omega)
    rw [show ctF w1 K 5 = w1 14 from rfl, hW1] at this
    exact this
  refine ⟨C1, ?_, _, _, _, _, _, _, A1.mono (by omega), hP1, hK1⟩
  unfold fL_act_948
  refine bn_i (eu C) ?_
  rw [show (1 : Int32) + nI u = nI (1 + u) from nI_add 1 u]
  refine lt_i (bn_i c0 (bn2_i e1 ?_))
  rw [nI_add]
  exact if_pi rfl (bn_i c0' (if_pi rfl (bn_i c5' (if_pi rfl rfl))))
theorem ac_rent {T0 P K p v : Nat} {C : mm_M} (L : LA T0 C P K) (lP : P < 100) (lK : K < 100) (hp : p < P) (hv : v < 20001) {x : Int32} (ev : ∀ M, fL_up M x 20001 = some (nI v)) : ∃ C' r60, fX6_ofPitch C (nI p) 0 = some r60 ∧ (bn (fL_up C x 20001) fun r62 =>
    bn2 (fX6_rent C (nI p) r62) fun r64 M65 =>
    if r64 = r60 then
      bn (fX6_ofPitch M65 (nI p) 0) fun r68 =>
      bn (fL_up M65 x 20001) fun r70 =>
      if r68 = r70 then
        bn2 (fX6_rent M65 (nI p) 20001) fun r73 M74 =>
        if r73 = (-2) then
          some (true, M74)
        else
          some (false, M74)
      else
        some (false, M65)
    else
      some (false, M65)) = some (true, C') ∧ LA T0 C' P K := by
  obtain ⟨w, h, tp, sv, n, sg, A, hP, hK⟩ := L
  obtain ⟨W, T, N, xS, hT, S⟩ := A.1.sim hP hK lP lK
  have lP10 := S.bd.lP
  have k0 : fX6_ofPitch C (nI p) 0 = some (w (32 + 4 * p)) := v_ofPitch S hp (t := 0) (by omega)
  obtain ⟨z, hz, ez⟩ := (S.val _).rnt p hp rfl
  obtain ⟨C1, e1, A1⟩ := ab_chg (r := w (32 + 4 * p)) (w2 := up w (32 + 4 * p) (nI v)) (op := fun X => fX5_changeRent X 1 (nI p) (nI v)) A hT S (by rw [ez]; exact nI_pos (by omega)) (Nat.le_refl _) (fun X SX => s_rent hT SX hp (by omega))
  have hP1 : up w (32 + 4 * p) (nI v) 12 = nI P := by rw [up_ne (by omega)]; exact hP
  have hK1 : up w (32 + 4 * p) (nI v) 13 = nI K := by rw [up_ne (by omega)]; exact hK
  obtain ⟨W1, T1, N1, xS1, hT1, S1⟩ := A1.1.sim hP1 hK1 lP lK
  have k0' : fX6_ofPitch C1 (nI p) 0 = some (nI v) := by
    have := v_ofPitch S1 hp (t := 0) (by omega)
    rw [Nat.add_zero, up_eq] at this
    exact this
  obtain ⟨C2, e2, A2, -⟩ := ab_err (r := -2) (op := fun X => fX5_changeRent X 1 (nI p) 20001) A1 hT1 S1 (by decide) (fun X SX => s_rentE SX hp (by decide) (by decide))
  exact ⟨C2, _, k0, bn_i (ev C) (bn2_i e1 (if_pi rfl (bn_i k0' (bn_i (ev C1) (if_pi rfl (bn2_i e2 (if_pi rfl rfl))))))), _, _, _, _, _, _, A2, hP1, hK1⟩
theorem ac_seed {T0 P K s : Nat} {C : mm_M} (L : LA T0 C P K) (lP : P < 100) (lK : K < 100) (hs : s < 65537) {x : Int32} (es : ∀ M, fL_up M x 65537 = some (nI s)) : ∃ C' r78, fX6_count C 3 = some r78 ∧ (bn (fL_up C x 65537) fun r83 =>
      bn2 (fX6_seed C r83) fun r85 M86 =>
      if r85 = r78 then
        bn (fX6_count M86 3) fun r89 =>
        bn (fL_up M86 x 65537) fun r91 =>
        if r89 = r91 then
          bn2 (fX6_seed M86 65537) fun r94 M95 =>
          if r94 = (-2) then
            some (true, M95)
          else
            some (false, M95)
        else
          some (false, M86)
      else
        some (false, M86)) = some (true, C') ∧ LA T0 C' P K := by
  obtain ⟨w, h, tp, sv, n, sg, A, hP, hK⟩ := L
  obtain ⟨W, T, N, xS, hT, S⟩ := A.1.sim hP hK lP lK
  have c3 : fX6_count C 3 = some (w 11) := v_count S (k := 3) (by omega) (by omega) (by omega)
  obtain ⟨x0, hx0, ex0⟩ := (S.val 11).sd rfl
  obtain ⟨C1, e1, A1⟩ := ab_chg (r := w 11) (w2 := up w 11 (nI s)) (op := fun X => fX5_changeLots X 1 (nI s)) A hT S (by rw [ex0]; exact nI_pos (by omega)) (Nat.le_refl _) (fun X SX => by
    obtain ⟨C2, a1, a2, a3, a4⟩ := s_seed hT SX (v := s) (by omega)
    exact ⟨C2, a1, a2, P, K, W, T, N, xS, a3, a4⟩)
  have hP1 : up w 11 (nI s) 12 = nI P := by rw [up_ne (by omega)]; exact hP
  have hK1 : up w 11 (nI s) 13 = nI K := by rw [up_ne (by omega)]; exact hK
  obtain ⟨W1, T1, N1, xS1, hT1, S1⟩ := A1.1.sim hP1 hK1 lP lK
  have c3' : fX6_count C1 3 = some (nI s) := by
    have := v_count S1 (k := 3) (by omega) (by omega) (by omega)
    rw [show ctF (up w 11 (nI s)) K 3 = up w 11 (nI s) 11 from rfl, up_eq] at this
    exact this
  obtain ⟨C2, e2, A2, -⟩ := ab_err (r := -2) (op := fun X => fX5_changeLots X 1 65537) A1 hT1 S1 (by decide) (fun X SX => s_seedE (Or.inr (by decide)))
  exact ⟨C2, _, c3, bn_i (es C) (bn2_i e1 (if_pi rfl (bn_i c3' (bn_i (es C1) (if_pi rfl (bn2_i e2 (if_pi rfl rfl))))))), _, _, _, _, _, _, A2, hP1, hK1⟩
set_option maxHeartbeats 1000000 in
theorem l_act {T0 P K : Nat} {C : mm_M} (L : LA T0 C P K) (lP : P < 100) (lK : K < 100) (P0 : 0 < P) (K0 : 0 < K) (hT9 : T0 + 600 < 26843) (htext : ∀ x y, ∃ C', fL_text C x y = some (true, C') ∧ LA (T0 + 600) C' P K) (x1 x2 x3 : Int32) : ∃ C', fL_act C x1 x2 x3 = some (true, C') ∧ LA (T0 + 600) C' P K := by
  have L0 := L
  obtain ⟨w, h, tp, sv, n, sg, A, hP, hK⟩ := L
  obtain ⟨W, T, N, xS, hT, S⟩ := A.1.sim hP hK lP lK
  have c1 : fX6_count C 1 = some (nI K) := by
    have := v_count S (k := 1) (by omega) (by omega) (by omega)
    rw [show ctF w K 1 = w 13 from rfl, hK] at this
    exact this
  have c2 : fX6_count C 2 = some (nI P) := by
    have := v_count S (k := 2) (by omega) (by omega) (by omega)
    rw [show ctF w K 2 = w 12 from rfl, hP] at this
    exact this
  obtain ⟨c, hc, ec⟩ := l_upA x2 (m := K) K0 (by omega)
  obtain ⟨k, hk, ek⟩ := l_upA x1 (m := 14) (by omega) (by omega)
  have f84 := ac_84 (x1 := x1) (x2 := x2) (x3 := x3) L0 lP lK P0 hc
  have f598 := ac_swap (x1 := x1) (x2 := x2) (x3 := x3) L0 lP lK hc
  have f931 : ∃ C', fL_act_931 x1 x2 x3 C = some (true, C') ∧ LA (T0 + 30) C' P K := by
    obtain ⟨q, hq, eq⟩ := l_upA x3 (m := 6) (by omega) (by omega)
    unfold fL_act_931
    by_cases z : nI q = 0
    · obtain ⟨C', r1, r2⟩ := ac_days (x1 := x1) (x2 := x2) (x3 := x3) L0 lP lK (by omega) x2 (m := 30) (by omega) (by omega)
      exact ⟨C', bn_i (eq C) (if_pi z r1), r2⟩
    · obtain ⟨C', r1, r2⟩ := ac_days (x1 := x1) (x2 := x2) (x3 := x3) L0 lP lK (by omega) x2 (m := 4) (by omega) (by omega)
      exact ⟨C', bn_i (eq C) (if_ni z r1), r2⟩
  unfold fL_act
  match k, hk with
  | 0, _ =>
    obtain ⟨C', r1, r2⟩ := f84
    exact ⟨C', bn_i c1 (bn_i (ec C) (bn_i (ek C) (if_pi (by decide) r1))), r2.mono (by omega)⟩
  | 1, _ =>
    obtain ⟨C', r1, r2⟩ := f84
    exact ⟨C', bn_i c1 (bn_i (ec C) (bn_i (ek C) (if_ni (by decide) (if_pi (by decide) r1)))), r2.mono (by omega)⟩
  | 2, _ =>
    obtain ⟨C', r1, r2⟩ := f84
    exact ⟨C', bn_i c1 (bn_i (ec C) (bn_i (ek C) (if_ni (by decide) (if_ni (by decide) (if_pi (by decide) r1))))), r2.mono (by omega)⟩
  | 3, _ =>
    obtain ⟨u, hu, eu⟩ := l_upA x3 (m := 9) (by omega) (by omega)
    obtain ⟨C', r15, r17, r19, z1, z2, z3, z4, z5⟩ := ac_fine (x1 := x1) (x2 := x2) (x3 := x3) L0 lP lK hc hu (by omega)
    refine ⟨C', bn_i c1 (bn_i (ec C) (bn_i (ek C) (if_ni (by decide) (if_ni (by decide) (if_ni (by decide) (if_pi (by decide) (bn_i (eu C) ?_))))))), z5.mono (by omega)⟩
    rw [show (1 : Int32) + nI u = nI (1 + u) from nI_add 1 u]
    exact lt_i (bn_i z1 (bn_i z2 (bn_i z3 z4)))
  | 4, _ =>
    obtain ⟨C', r23, r25, z1, z2, z3, z4⟩ := ac_check L0 lP lK hc
    exact ⟨C', bn_i c1 (bn_i (ec C) (bn_i (ek C) (if_ni (by decide) (if_ni (by decide) (if_ni (by decide) (if_ni (by decide) (if_pi (by decide) (bn_i z1 (bn_i z2 z3))))))))), z4.mono (by omega)⟩
  | 5, _ =>
    obtain ⟨C', r1, r2⟩ := f598
    exact ⟨C', bn_i c1 (bn_i (ec C) (bn_i (ek C) (if_ni (by decide) (if_ni (by decide) (if_ni (by decide) (if_ni (by decide) (if_ni (by decide) (if_pi (by decide) r1)))))))), r2.mono (by omega)⟩
  | 6, _ =>
    obtain ⟨C', r1, r2⟩ := f598
    exact ⟨C', bn_i c1 (bn_i (ec C) (bn_i (ek C) (if_ni (by decide) (if_ni (by decide) (if_ni (by decide) (if_ni (by decide) (if_ni (by decide) (if_ni (by decide) (if_pi (by decide) r1))))))))), r2.mono (by omega)⟩
  | 7, _ =>
    obtain ⟨u, hu, eu⟩ := l_upA x3 (m := 1000000) (by omega) (by omega)
    obtain ⟨C', r49, r51, M52, z1, z2, z3, z4⟩ := ac_pay (x1 := x1) (x2 := x2) (x3 := x3) L0 lP lK hc hu (by omega)
    refine ⟨C', bn_i c1 (bn_i (ec C) (bn_i (ek C) (if_ni (by decide) (if_ni (by decide) (if_ni (by decide) (if_ni (by decide) (if_ni (by decide) (if_ni (by decide) (if_ni (by decide) (if_pi (by decide) (bn_i (eu C) ?_))))))))))), z4.mono (by omega)⟩
    rw [show (1 : Int32) + nI u = nI (1 + u) from nI_add 1 u]
    exact lt_i (bn_i z1 (bn2_i z2 z3))
  | 8, _ =>
    obtain ⟨p, hp, ep⟩ := l_upA x3 (m := P) P0 (by omega)
    obtain ⟨v, hv, ev⟩ := l_upA (x3 >>> (4 &&& 31)) (m := 20001) (by omega) (by omega)
    obtain ⟨C', r60, z1, z2, z3⟩ := ac_rent L0 lP lK hp hv ev
    exact ⟨C', bn_i c1 (bn_i (ec C) (bn_i (ek C) (if_ni (by decide) (if_ni (by decide) (if_ni (by decide) (if_ni (by decide) (if_ni (by decide) (if_ni (by decide) (if_ni (by decide) (if_ni (by decide) (if_pi (by decide) (bn_i c2 (bn_i (ep C) (bn_i z1 z2)))))))))))))), z3.mono (by omega)⟩
  | 9, _ =>
    obtain ⟨q, hq, eq⟩ := l_upA x2 (m := 2) (by omega) (by omega)
    obtain ⟨s, hs, es⟩ := l_upA x3 (m := 65537) (by omega) (by omega)
    obtain ⟨C', r78, z1, z2, z3⟩ := ac_seed L0 lP lK hs es
    by_cases z : nI q = 0
    · obtain ⟨C'', w', h', tp', y1, y2, y3, y4, -⟩ := l_sets A hP hK lP lK x3
      exact ⟨C'', bn_i c1 (bn_i (ec C) (bn_i (ek C) (if_ni (by decide) (if_ni (by decide) (if_ni (by decide) (if_ni (by decide) (if_ni (by decide) (if_ni (by decide) (if_ni (by decide) (if_ni (by decide) (if_ni (by decide) (if_pi (by decide) (bn_i z1 (bn_i (eq C) (if_pi z (bn2_i y1 rfl)))))))))))))))), w', h', tp', sv, n, sg, y2.mono (by omega), y3, y4⟩
    · exact ⟨C', bn_i c1 (bn_i (ec C) (bn_i (ek C) (if_ni (by decide) (if_ni (by decide) (if_ni (by decide) (if_ni (by decide) (if_ni (by decide) (if_ni (by decide) (if_ni (by decide) (if_ni (by decide) (if_ni (by decide) (if_pi (by decide) (bn_i z1 (bn_i (eq C) (if_ni z z2))))))))))))))), z3.mono (by omega)⟩
  | 10, _ =>
    obtain ⟨C', r1, r2⟩ := f931
    exact ⟨C', bn_i c1 (bn_i (ec C) (bn_i (ek C) (if_ni (by decide) (if_ni (by decide) (if_ni (by decide) (if_ni (by decide) (if_ni (by decide) (if_ni (by decide) (if_ni (by decide) (if_ni (by decide) (if_ni (by decide) (if_ni (by decide) (if_pi (by decide) r1))))))))))))), r2.mono (by omega)⟩
  | 11, _ =>
    obtain ⟨C', r1, r2⟩ := f931
    exact ⟨C', bn_i c1 (bn_i (ec C) (bn_i (ek C) (if_ni (by decide) (if_ni (by decide) (if_ni (by decide) (if_ni (by decide) (if_ni (by decide) (if_ni (by decide) (if_ni (by decide) (if_ni (by decide) (if_ni (by decide) (if_ni (by decide) (if_ni (by decide) (if_pi (by decide) r1)))))))))))))), r2.mono (by omega)⟩
  | 12, _ =>
    obtain ⟨C', r1, r2⟩ := f931
    exact ⟨C', bn_i c1 (bn_i (ec C) (bn_i (ek C) (if_ni (by decide) (if_ni (by decide) (if_ni (by decide) (if_ni (by decide) (if_ni (by decide) (if_ni (by decide) (if_ni (by decide) (if_ni (by decide) (if_ni (by decide) (if_ni (by decide) (if_ni (by decide) (if_ni (by decide) (if_pi (by decide) r1))))))))))))))), r2.mono (by omega)⟩
  | 13, _ =>
    obtain ⟨C', r1, r2⟩ := htext x2 x3
    exact ⟨C', bn_i c1 (bn_i (ec C) (bn_i (ek C) (if_ni (by decide) (if_ni (by decide) (if_ni (by decide) (if_ni (by decide) (if_ni (by decide) (if_ni (by decide) (if_ni (by decide) (if_ni (by decide) (if_ni (by decide) (if_ni (by decide) (if_ni (by decide) (if_ni (by decide) (if_ni (by decide) (bn2_i r1 rfl)))))))))))))))), r2⟩
  | k + 14, h => exact absurd h (by omega)
