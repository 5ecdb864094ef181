/-! p32: back -/
theorem hpp_4 (h : Nat) (lh : h ≤ 6) : ∃ g, hpp (hpp (hpp (hpp h))) = g + 1 + 1 + 1 + 1 ∧ g ≤ 2 := by
  match h, lh with
  | 0, _ => exact ⟨0, rfl, by omega⟩
  | 1, _ => exact ⟨1, rfl, by omega⟩
  | 2, _ => exact ⟨2, rfl, by omega⟩
  | 3, _ => exact ⟨2, rfl, by omega⟩
  | 4, _ => exact ⟨2, rfl, by omega⟩
  | 5, _ => exact ⟨2, rfl, by omega⟩
  | 6, _ => exact ⟨2, rfl, by omega⟩
  | h + 7, q => exact absurd q (by omega)
theorem hpp_1 (h : Nat) : ∃ g, hpp h = g + 1 := by
  unfold hpp
  by_cases e : h = 6
  · exact ⟨5, if_pos e⟩
  · exact ⟨h, if_neg e⟩
theorem Ab.h6 {T0 h n : Nat} {C : mm_M} {w : Nat → Int32} {tp : Nat → Nat → Int32} {sv : Nat → Option (Nat → Int32)} {sg : Nat → Nat} (A : Ab T0 C w h tp sv n sg) : h ≤ 6 := by
  obtain ⟨b, H⟩ := A.2.1
  exact H.2.1
set_option maxHeartbeats 1000000 in
theorem l_back {T0 h n P K : Nat} {C : mm_M} {w : Nat → Int32} {tp : Nat → Nat → Int32} {sv : Nat → Option (Nat → Int32)} {sg : Nat → Nat} (A : Ab T0 C w h tp sv n sg) (hP : w 12 = nI P) (hK : w 13 = nI K) (lP : P < 100) (lK : K < 100) (K0 : 0 < K) (hT9 : T0 + 100 < 26843) (x : Int32) : ∃ C' h' tp' sv', fL_back C x = some (true, C') ∧ Ab (T0 + 100) C' w h' tp' sv' n sg := by
  obtain ⟨W, T, N, xS, hT, S⟩ := A.1.sim hP hK lP lK
  have lh := A.h6
  have lT := S.bd.lT
  have hTT := hT.1
  have c0 : fX6_count C 0 = some (w 10) := v_count S (k := 0) (by omega) (by omega) (by omega)
  obtain ⟨C1, e1, A1⟩ := ab_save A (q := 1) (by omega)
  obtain ⟨s, hs, es⟩ := l_up C1 x (m := 65537) (by omega) (by omega)
  obtain ⟨W1, T1, N1, xS1, hT1, S1⟩ := A1.1.sim hP hK lP lK
  obtain ⟨x0, hx0, ex0⟩ := (S1.val 11).sd rfl
  obtain ⟨r2, C2, w2, e2, A2, hP2, hK2⟩ := ab_chgQ (T1 := T0) (Q := fun _ u => u 12 = nI P ∧ u 13 = nI K) (op := fun X => fX5_changeLots X 1 (nI s)) A1 hT1 S1 (Nat.le_refl _) (fun X SX => by
    obtain ⟨C2, a1, a2, a3, a4⟩ := s_seed hT1 SX (v := s) (by omega)
    exact ⟨_, C2, _, by rw [ex0]; exact nI_pos (by omega), a1, a2, ⟨P, K, W1, T1, N1, xS1, a3, a4⟩, a4.wP, a4.wK⟩)
  obtain ⟨v, hv, ev⟩ := l_up C2 (x >>> (4 &&& 31)) (m := 40) (by omega) (by omega)
  obtain ⟨W2, T2, N2, xS2, hT2, S2⟩ := A2.1.sim hP2 hK2 lP lK
  have hTT2 := hT2.1
  obtain ⟨r3, C3, w3, e3, A3, hP3, hK3⟩ := ab_chgQ (T1 := T0 + (1 + v)) (Q := fun _ u => u 12 = nI P ∧ u 13 = nI K) (op := fun X => fX5_passDays X 1 (nI (1 + v))) A2 hT2 S2 (by omega) (fun X SX => by
    obtain ⟨C2, xS2', a1, a2, a3, a4⟩ := s_days kT1 (by omega) hT2 SX (v := 1 + v) (by omega) (by omega)
    exact ⟨_, C2, _, nI_pos (by omega), a1, a2, ⟨P, K, 0, _, N2, xS2', a3, a4⟩, a4.wP, a4.wK⟩)
  obtain ⟨W3, T3, N3, xS3, hT3, S3⟩ := A3.1.sim hP3 hK3 lP lK
  have hb3 := ptF_le S3 K0 (Nat.le_refl T3)
  obtain ⟨r4, C4, w4, e4, A4, hP4, hK4⟩ := ab_chgQ (T1 := T0 + (1 + v) + 1) (Q := fun _ u => u 12 = nI P ∧ u 13 = nI K) (op := fun X => fX5_punish X 1 (nI 0) (nI 9)) A3 hT3 S3 (by omega) (fun X SX => by
    obtain ⟨C2, u2, fi, a1, a2, -, -, a3, a4, -⟩ := s_fine hT3 SX (j := 0) (p := 9) K0 (by omega) (by omega)
    refine ⟨_, C2, u2, nI_pos ?_, a1, a2, ⟨P, K, _, _, _, _, a3, a4⟩, a4.wP, a4.wK⟩
    by_cases q : ptF w3 0 T3 + 9 < (w3 3).toNatClampNeg
    · rw [if_pos q]; omega
    · rw [if_neg q]; omega)
  obtain ⟨W4, T4, N4, xS4, hT4, S4⟩ := A4.1.sim hP4 hK4 lP lK
  obtain ⟨x9, hx9, ex9⟩ := (S4.val 9).rng (by omega)
  obtain ⟨C5, e5, A5⟩ := ab_chg (r := w4 9) (w2 := up w4 9 (nI 1)) (op := fun X => fX5_changeSetting X 1 (nI 9) (nI 1)) A4 hT4 S4 (by rw [ex9]; exact nI_pos (by omega)) (Nat.le_refl _) (fun X SX => s_set hT4 SX (by omega) (by decide) (by decide))
  have c7 := ab_c7 A5
  obtain ⟨g, hg, hg2⟩ := hpp_4 h lh
  rw [hg] at A5 c7
  obtain ⟨C6, e6, A6⟩ := ab_undo A5
  obtain ⟨C7, e7, A7⟩ := ab_undo A6
  obtain ⟨C8, e8, A8⟩ := ab_undo A7
  obtain ⟨C9, e9, A9⟩ := ab_undo A8
  have A9x : ∃ tp9, Ab (T0 + (1 + v) + 1) C9 w g tp9 (fun x => if x = 1 then some w else sv x) n sg := ⟨_, A9⟩
  clear A9
  obtain ⟨tp9, A9⟩ := A9x
  obtain ⟨t, t1, t9⟩ := told_eq A1.1 A9.1 (by omega) (by omega)
  obtain ⟨W9, T9, N9, xS9, hT9', S9⟩ := A9.1.sim hP hK lP lK
  have eT9 : T9 = T := (nI_eq (by have := S9.bd.lT; omega) (by omega)).mp (S9.wT.symm.trans S.wT)
  obtain ⟨r10, C10, w10, e10, A10, hP10, hK10, hT10⟩ := ab_chgQ (T1 := T0 + (1 + v) + 1 + 9) (Q := fun _ u => u 12 = nI P ∧ u 13 = nI K ∧ u 10 = nI (T + 9)) (op := fun X => fX5_passDays X 1 (nI 9)) A9 hT9' S9 (by omega) (fun X SX => by
    obtain ⟨C2, xS2', a1, a2, a3, a4⟩ := s_days kT1 (by omega) hT9' SX (v := 9) (by omega) (by omega)
    rw [eT9] at a1 a3 a4
    exact ⟨_, C2, _, nI_pos (by omega), a1, a2, ⟨P, K, 0, _, N9, xS2', a3, a4⟩, a4.wP, a4.wK, a4.wT⟩)
  obtain ⟨W10, T10, N10, xS10, hT10', S10⟩ := A10.1.sim hP10 hK10 lP lK
  obtain ⟨y9, hy9, ey9⟩ := (S10.val 9).rng (by omega)
  obtain ⟨C11, e11, A11⟩ := ab_chg (r := w10 9) (w2 := up w10 9 (nI 4999)) (op := fun X => fX5_changeSetting X 1 (nI 9) (nI 4999)) A10 hT10' S10 (by rw [ey9]; exact nI_pos (by omega)) (Nat.le_refl _) (fun X SX => s_set hT10' SX (by omega) (by decide) (by decide))
  obtain ⟨C12, e12, A12⟩ := ab_rest (q := 1) (u := w) A11 (by omega) (if_pos rfl)
  obtain ⟨t', t1', t12⟩ := told_eq A1.1 A12.1 (by omega) (by omega)
  have ett : t' = t := Option.some.inj (t1'.symm.trans t1)
  subst ett
  obtain ⟨g2, hg3⟩ := hpp_1 (hpp (hpp g))
  rw [hg3] at A12
  obtain ⟨C13, e13, A13⟩ := ab_undo A12
  have A13x : ∃ tp13, Ab (T0 + (1 + v) + 1 + 9) C13 (up w10 9 (nI 4999)) g2 tp13 (fun x => if x = 1 then some w else sv x) n sg := ⟨_, A13⟩
  clear A13
  obtain ⟨tp13, A13⟩ := A13x
  have hP13 : up w10 9 (nI 4999) 12 = nI P := by rw [up_ne (by omega)]; exact hP10
  have hK13 : up w10 9 (nI 4999) 13 = nI K := by rw [up_ne (by omega)]; exact hK10
  obtain ⟨W13, T13, N13, xS13, hT13, S13⟩ := A13.1.sim hP13 hK13 lP lK
  have c17 : fX6_count C13 17 = some (nI 4999) := by
    have := v_count S13 (k := 17) (by omega) (by omega) (by omega)
    have e : ctF (up w10 9 (nI 4999)) K 17 = up w10 9 (nI 4999) 9 := rfl
    rw [e, up_eq] at this
    exact this
  have c13 : fX6_count C13 0 = some (nI (T + 9)) := by
    have := v_count S13 (k := 0) (by omega) (by omega) (by omega)
    have e : ctF (up w10 9 (nI 4999)) K 0 = up w10 9 (nI 4999) 10 := rfl
    rw [e, up_ne (by omega), hT10] at this
    exact this
  obtain ⟨C14, e14, A14⟩ := ab_rest (q := 1) (u := w) A13 (by omega) (if_pos rfl)
  refine ⟨C14, _, _, _, ?_, A14.mono (by omega)⟩
  have h2 : g2 < 2 ^ 31 := by
    have := A13.h6
    omega
  unfold fL_back
  refine bn_i c0 (bn2_i e1 (if_pi rfl (bn_i t1 (bn_i es (bn2_i e2 (bn_i ev ?_))))))
  rw [show (1 : Int32) + nI v = nI (1 + v) from nI_add 1 v]
  refine bn2_i e3 (bn2_i e4 (bn2_i e5 (bn_i c7 ?_)))
  obtain ⟨n', hn⟩ : ∃ n', FU = n' + 1 + 1 + 1 + 1 + 1 := ⟨999995, rfl⟩
  rw [hn, fL_back_75]
  refine if_ni (by decide) (bn2_i e6 (if_pi (pk_sub (a := g + 1 + 1 + 1 + 1) (b := 1) (by omega)).symm (lt_i ?_)))
  rw [show (1 : Int32) + 1 = nI 2 from rfl, fL_back_75]
  refine if_ni (by decide) (bn2_i e7 (if_pi (pk_sub (a := g + 1 + 1 + 1 + 1) (b := 2) (by omega)).symm (lt_i ?_)))
  rw [nI_1, fL_back_75]
  refine if_ni (by decide) (bn2_i e8 (if_pi (pk_sub (a := g + 1 + 1 + 1 + 1) (b := 3) (by omega)).symm (lt_i ?_)))
  rw [nI_1, fL_back_75]
  refine if_ni (by decide) (bn2_i e9 (if_pi (pk_sub (a := g + 1 + 1 + 1 + 1) (b := 4) (by omega)).symm (lt_i ?_)))
  rw [nI_1, fL_back_75]
  refine if_pi (by decide) (bn_i t9 (if_pi rfl (bn2_i e10 (bn2_i e11 (bn2_i e12 (if_pi rfl (bn_i t12 (if_pi rfl (bn2_i e13 (if_ni (nI_pos h2) (bn_i c17 (if_pi rfl (bn_i c13 (if_pi ?_ (bn2_i e14 (if_pi rfl rfl))))))))))))))))
  rw [S.wT]
  exact (nI_add T 9).symm
