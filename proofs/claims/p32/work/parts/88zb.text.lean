/-! p32: texts: the law's text -/
theorem x_ones {o : Nat → Nat → Nat} {m P K r : Nat} (hb : OB o) (m5 : m ≤ 5) (lP : P < 100) (lK : K < 100) {F : Nat → Int32} (hF : ∀ k, k < m → ∀ j, j < 5 → F (8 * k + j) = nI (o k j)) {E : mm_M} {t : Int32} (ht : ∀ C T, SimX C 1 (E.1 732) T → T < 26843 → fL_told C = some t) (hr : r ≤ m) (x1 x2 : Int32) : ∀ (d k f f' T1 h n : Nat) (C D : mm_M) (u : Nat → Int32) (tp : Nat → Nat → Int32) (sv : Nat → Option (Nat → Int32)) (sg : Nat → Nat), k + d = m → d < f → d < f' → T1 + 60 * d + 60 < 26843 → Ab T1 C u h tp sv n sg → u 12 = nI P → u 13 = nI K → D.1 732 = u → OdM D o m → fX7_carryOut_16 f' D (nI k) = some (nI r, E) → ∃ C', fL_text_620 x1 x2 f C F (nI m) (nI r) t (nI k) (nI k) = some (true, C') ∧ LA (T1 + 60 * d) C' P K := by
  intro d
  induction d with
  | zero =>
    intro k f f' T1 h n C D u tp sv sg hk hf hf' hT9 A hP hK hD O e
    obtain ⟨f, rfl⟩ : ∃ q, f = q + 1 := ⟨f - 1, by omega⟩
    obtain ⟨f', rfl⟩ : ∃ q, f' = q + 1 := ⟨f' - 1, by omega⟩
    have ek : k = m := by omega
    subst ek
    have z : fX7_carryOut_16 (f' + 1) D (nI k) = some (nI k, sI D 731 7 0) := by
      rw [fX7_carryOut_16, O.2.2]
      exact if_pi (Int32.le_refl _) rfl
    rw [e] at z
    have z1 : nI r = nI k := congrArg Prod.fst (Option.some.inj z)
    have z2 : E = sI D 731 7 0 := congrArg Prod.snd (Option.some.inj z)
    have ru : E.1 732 = u := by rw [z2, sI_ap1, if_neg (by omega)]; exact hD
    refine ⟨C, ?_, u, h, tp, sv, n, sg, A, hP, hK⟩
    rw [fL_text_620]
    refine if_pi (Int32.le_refl _) ?_
    unfold fL_text_663
    exact if_pi z1.symm (bn_i (ht C T1 (by rw [ru]; exact A.1) (by omega)) (if_pi rfl rfl))
  | succ d ih =>
    intro k f f' T1 h n C D u tp sv sg hk hf hf' hT9 A hP hK hD O e
    obtain ⟨f, rfl⟩ : ∃ q, f = q + 1 + 1 := ⟨f - 2, by omega⟩
    obtain ⟨f', rfl⟩ : ∃ q, f' = q + 1 := ⟨f' - 1, by omega⟩
    have hkm : k < m := by omega
    obtain ⟨op, g, hC, q1, q2⟩ := x_one hb O (show k < 5 by omega) (show T1 + 60 < 2 ^ 30 by omega) (hF k hkm)
    obtain ⟨W, T, N, xS, hT, S⟩ := A.1.sim hP hK lP lK
    have e8 : (8 : Int32) * nI k = nI (8 * k) := pk_mul 8 k
    have cl : ∀ r', (bn2 (chg C op) fun r4 M5 => if r4 < 0 then fL_text_620 x1 x2 (f + 1) M5 F (nI m) (nI r) t (nI k) (nI (k + 1)) else fL_text_620 x1 x2 (f + 1) M5 F (nI m) (nI r) t (nI (k + 1)) (nI (k + 1))) = r' → fL_text_620 x1 x2 (f + 1 + 1) C F (nI m) (nI r) t (nI k) (nI k) = r' := fun r' hr' => by
      rw [fL_text_620, e8, q1 C, Int32.add_zero, nI_1]
      exact if_ni (nI_ge hkm (by omega)) (if_pi rfl hr')
    have ml : (bn2 (g D false) fun r4 M5 => if r4 < 0 then lt (sI M5 731 7 0) fun M7 => some (nI k, M7) else fX7_carryOut_16 f' M5 (nI (k + 1))) = some (nI r, E) := by
      rw [← e, fX7_carryOut_16, O.2.2, if_neg (nI_ge hkm (by omega)), q2, nI_1]
      rfl
    have hT' : TX T xS T1 (D.1 732) K P := by rw [hD]; exact hT
    have SD : ∀ C1, Sim okA C1 1 u P K W T N xS → Sim okA C1 1 (D.1 732) P K W T N xS := fun C1 S1 => by rw [hD]; exact S1
    rcases hC C D P K W T N xS hT' (SD C S) with ⟨r1, hr1, z1, z2⟩ | ⟨r1, C2, hr1, z1, z2, z3⟩
    · have gd0 := z2 false
      obtain ⟨C1, e1, A1, S1⟩ := ab_err (r := r1) (op := op) A hT S hr1 (fun X SX => by
        rcases hC X D P K W T N xS hT' (SD X SX) with ⟨r2, hr2, y1, y2⟩ | ⟨r2, C3, hr2, y1, y2, y3⟩
        · have := (y2 false).symm.trans gd0
          have er : r2 = r1 := congrArg Prod.fst (Option.some.inj this)
          rw [y1, er]
        · obtain ⟨D2, g1, g2, g3⟩ := y3 false D rfl (kIf_f D)
          have := g1.symm.trans gd0
          have er : r2 = r1 := congrArg Prod.fst (Option.some.inj this)
          exact absurd (er ▸ hr1) hr2)
      rw [gd0] at ml
      have ml2 : (some (nI k, sI D 731 7 0) : Option (Int32 × mm_M)) = some (nI r, E) := by
        rw [← ml]
        show _ = (if r1 < 0 then _ else _)
        rw [if_pos hr1]
        rfl
      have z4 : nI k = nI r := congrArg Prod.fst (Option.some.inj ml2)
      have z5 : sI D 731 7 0 = E := congrArg Prod.snd (Option.some.inj ml2)
      have ru : E.1 732 = u := by rw [← z5, sI_ap1, if_neg (by omega)]; exact hD
      have f663 : fL_text_663 x1 x2 C1 F (nI r) t (nI k) = some (true, C1) := by
        unfold fL_text_663
        exact if_pi z4 (bn_i (ht C1 T1 (by rw [ru]; exact A1.1) (by omega)) (if_pi rfl rfl))
      refine ⟨C1, cl _ (bn2_i e1 (if_pi hr1 ?_)), u, h, tp, sv, n, sg, A1.mono (by omega), hP, hK⟩
      rw [fL_text_620]
      by_cases q : nI m ≤ nI (k + 1)
      · exact if_pi q f663
      · exact if_ni q (if_ni (fun z => by have := (nI_eq (by omega) (by omega)).mp z; omega) f663)
    · obtain ⟨D2, g1, g2, g3⟩ := z3 false D rfl (kIf_f D)
      obtain ⟨C3, e3, A3⟩ := ab_chg (r := r1) (w2 := D2.1 732) (T1 := T1 + 60) (op := op) A hT S hr1 (by omega) (fun X SX => by
        rcases hC X D P K W T N xS hT' (SD X SX) with ⟨r2, hr2, y1, y2⟩ | ⟨r2, C3, hr2, y1, y2, y3⟩
        · have := (y2 false).symm.trans g1
          have er : r2 = r1 := congrArg Prod.fst (Option.some.inj this)
          exact absurd (er ▸ hr2) hr1
        · obtain ⟨D3, h1, h2, h3⟩ := y3 false D rfl (kIf_f D)
          have := h1.symm.trans g1
          have er : r2 = r1 := congrArg Prod.fst (Option.some.inj this)
          have eD : D3 = D2 := congrArg Prod.snd (Option.some.inj this)
          exact ⟨C3, by rw [y1, er], y2, by rw [← eD]; exact h3.x⟩)
      obtain ⟨W3, T3, N3, xS3, hT3, S3⟩ := g3
      rw [g1] at ml
      have ml2 : fX7_carryOut_16 f' D2 (nI (k + 1)) = some (nI r, E) := by
        rw [← ml]
        show _ = (if r1 < 0 then _ else _)
        rw [if_neg hr1]
      have O2 : OdM D2 o m := ⟨fun j => by rw [g2.oth 738 (by omega) (by omega)]; exact O.1 j, fun j i hi => by rw [g2.oth 739 (by omega) (by omega)]; exact O.2.1 j i hi, by rw [g2.own 12 (by omega)]; exact O.2.2⟩
      obtain ⟨C', r1', r2'⟩ := ih (k + 1) (f + 1) f' (T1 + 60) _ n C3 D2 (D2.1 732) _ sv sg (by omega) (by omega) (by omega) (by omega) A3 S3.wP S3.wK rfl O2 ml2
      exact ⟨C', cl _ (bn2_i e3 (if_ni hr1 r1')), by rw [show T1 + 60 * (d + 1) = T1 + 60 + 60 * d by omega]; exact r2'⟩
set_option maxHeartbeats 4000000 in
/-- one order is written -/
theorem x_write {T0 h n k : Nat} {C : mm_M} {w : Nat → Int32} {tp : Nat → Nat → Int32} {sv : Nat → Option (Nat → Int32)} {sg : Nat → Nat} {o : Nat → Nat → Nat} (hb : OB o) (A : Ab T0 C w h tp sv n sg) (X : Txt sg n 4) (hk : k < 5) (hn : n = ob o k) {F : Nat → Int32} (hF : ∀ j, j < 5 → F (8 * k + j) = nI (o k j)) (x1 x2 : Int32) (k40 : mm_M → (Nat → Int32) → Int32 → Int32 → Option (Bool × mm_M)) (v3 : Int32) : ∃ C' sg' st, fL_text_176 x1 x2 k40 C F v3 (nI k) (nI (8 * k)) = k40 C' F v3 (nI (k + 1)) ∧ Ab T0 C' w h tp sv (oe o k) sg' ∧ Txt sg' (oe o k) st ∧ st ≤ 3 ∧ OK sg' o k ∧ ∀ i, i < n → sg' i = sg i := by
  obtain ⟨b0, b1, b2, b3, b4, b5⟩ := hb k
  have hbk := ob_b hb k
  have f0 : F (8 * k) = nI (o k 0) := hF 0 (by omega)
  have f1 := hF 1 (by omega)
  have f2 := hF 2 (by omega)
  have f3 := hF 3 (by omega)
  have f4 := hF 4 (by omega)
  have j1 : nI (8 * k) + 1 = nI (8 * k + 1) := nI_add _ 1
  have j2 : nI (8 * k) + 2 = nI (8 * k + 2) := nI_add _ 2
  have j3 : nI (8 * k) + 3 = nI (8 * k + 3) := nI_add _ 3
  have j4 : nI (8 * k) + 4 = nI (8 * k + 4) := nI_add _ 4
  have gF : ∀ i, i < 5 → ¬ (nI (8 * k + i) < 0 ∨ 40 ≤ (nI (8 * k + i)).toNatClampNeg) := fun i hi => ix_nI (n := 40) (by omega) (by decide)
  have gF0 : ¬ (nI (8 * k) < 0 ∨ 40 ≤ (nI (8 * k)).toNatClampNeg) := ix_nI (n := 40) (by omega) (by decide)
  have cF : ∀ i, i < 5 → (nI (8 * k + i)).toNatClampNeg = 8 * k + i := fun i hi => nI_clamp (by omega)
  have cF0 : (nI (8 * k)).toNatClampNeg = 8 * k := nI_clamp (by omega)
  have ne : ∀ a b : Nat, a < 5 → b < 5 → a ≠ b → ¬ nI a = nI b := fun a b ha hb' h q => h ((nI_eq (by omega) (by omega)).mp q)
  -- the order's end
  have s508 : ∀ {C9 : mm_M} {n9 st : Nat} {sg9 : Nat → Nat}, Ab T0 C9 w h tp sv n9 sg9 → Txt sg9 n9 st → st ≤ 3 → fL_text_508 x1 x2 k40 C9 F v3 (nI k) = k40 C9 F v3 (nI (k + 1)) := fun A9 X9 h9 => by
    unfold fL_text_508
    refine bn_i (x_end A9 X9 h9) (if_pi rfl (lt_i ?_))
    rw [nI_1]
  -- the sort and the cart
  have s254 : ∀ {c st2 st3 : Nat} {t1 : Int64}, wN t1 = c → 33 ≤ c → c < 127 → aB 4 c = st2 → 3 < st2 → st2 ≠ 11 → aB st2 (65 + o k 1) = st3 → st3 ≠ 11 → o k 0 ≠ 4 → ∃ C2, Ab T0 C2 w h tp sv (n + 2) (ext (ext sg n c) (n + 1) (65 + o k 1)) ∧ Txt (ext (ext sg n c) (n + 1) (65 + o k 1)) (n + 2) st3 ∧ fL_text_254 x1 x2 k40 C F v3 (nI k) (nI (8 * k)) t1 = fL_text_312 x1 x2 k40 C2 F v3 (nI k) (nI (8 * k)) := fun {c st2 st3 t1} ht hc1 hc2 ha2 h32 h211 ha3 h311 h04 => by
    obtain ⟨C1, e1, A1, X1⟩ := x_put A X ht hc1 hc2 (by omega) ha2 h211
    have hx : wN ((65 + nI (o k 1)).toInt64) = 65 + o k 1 := sg_ch (a := 65) (by omega)
    obtain ⟨C2, e2, A2, X2⟩ := x_put A1 X1 hx (by omega) (by omega) (by omega) ha3 h311
    refine ⟨C2, A2, X2, ?_⟩
    unfold fL_text_254
    refine bn2_i e1 (bn_i (x_mid A1 X1 h32) (bn_i (ab_c6 A1) (if_pi rfl (gd_i gF0 ?_))))
    rw [cF0, f0]
    refine if_ni (ne _ 4 b0 (by omega) h04) ?_
    rw [j1]
    refine gd_i (gF 1 (by omega)) ?_
    rw [cF 1 (by omega), f1]
    exact bn2_i e2 rfl
  have s176 : ∀ r, (if nI (o k 0) = 0 then fL_text_254 x1 x2 k40 C F v3 (nI k) (nI (8 * k)) (119 : Int64) else if nI (o k 0) = 1 then fL_text_254 x1 x2 k40 C F v3 (nI k) (nI (8 * k)) (102 : Int64) else if nI (o k 0) = 2 then fL_text_254 x1 x2 k40 C F v3 (nI k) (nI (8 * k)) (99 : Int64) else if nI (o k 0) = 3 then fL_text_254 x1 x2 k40 C F v3 (nI k) (nI (8 * k)) (115 : Int64) else fL_text_254 x1 x2 k40 C F v3 (nI k) (nI (8 * k)) (100 : Int64)) = r → fL_text_176 x1 x2 k40 C F v3 (nI k) (nI (8 * k)) = r := fun r hr => by
    unfold fL_text_176
    refine bn_i (x_mid A X (by omega)) (bn_i (ab_c6 A) (if_pi rfl (gd_i gF0 ?_)))
    rw [cF0, f0]
    exact hr
  have x0 : ∀ {c1 c2 i : Nat}, i < n → ext (ext sg n c1) (n + 1) c2 i = sg i := fun {c1 c2 i} hi => by rw [ext_ne (by omega), ext_ne (by omega)]
  by_cases q0 : o k 0 = 0
  · obtain ⟨C2, A2, X2, g2⟩ := s254 (c := 119) (t1 := 119) rfl (by omega) (by omega) (show aB 4 119 = 5 from rfl) (by omega) (by omega) (aB_5 ⟨by omega, by omega⟩) (by omega) (by omega)
    obtain ⟨sg2, es2⟩ : ∃ s, s = ext (ext sg n 119) (n + 1) (65 + o k 1) := ⟨_, rfl⟩
    rw [← es2] at A2 X2
    have c0 : sg2 n = 119 := by rw [es2, ext_ne (by omega), ext_eq]
    have c1 : sg2 (n + 1) = 65 + o k 1 := by rw [es2, ext_eq]
    have old2 : ∀ i, i < n → sg2 i = sg i := fun i hi => by rw [es2]; exact x0 hi
    have hu : wN ((48 + nI (o k 2)).toInt64) = 48 + o k 2 := sg_ch (a := 48) (by omega)
    have hv : wN ((48 + nI (o k 3)).toInt64) = 48 + o k 3 := sg_ch (a := 48) (by omega)
    have r10 : (nI (o k 2) + nI (o k 3)) - (nI (o k 2) + nI (o k 3)) / 10 * 10 = nI ((o k 2 + o k 3) % 10) := by
      rw [nI_add]
      exact pk_rem (d := 10) (by omega) (by decide) (by decide)
    have hs : wN ((48 + ((nI (o k 2) + nI (o k 3)) - (nI (o k 2) + nI (o k 3)) / 10 * 10)).toInt64) = 48 + (o k 2 + o k 3) % 10 := by
      rw [r10]
      exact sg_ch (a := 48) (by omega)
    have s312 : ∀ r, (if nI (o k 4) ≤ 0 then fL_text_357 x1 x2 k40 C2 F v3 (nI k) (nI (8 * k)) else bn2 (fX6_put C2 ((48 + nI (o k 2)).toInt64)) fun r30 M31 => fL_text_357 x1 x2 k40 M31 F v3 (nI k) (nI (8 * k))) = r → fL_text_312 x1 x2 k40 C2 F v3 (nI k) (nI (8 * k)) = r := fun r hr => by
      unfold fL_text_312
      refine gd_i gF0 ?_
      rw [cF0, f0, q0]
      refine if_pi rfl (bn_i (x_end A2 X2 (by omega)) (if_pi rfl ?_))
      rw [j4, j2]
      refine gd_i (gF 4 (by omega)) ?_
      rw [cF 4 (by omega), f4, cF 2 (by omega), f2]
      by_cases z : nI (o k 4) ≤ 0
      · rw [if_pos z] at hr ⊢; exact hr
      · rw [if_neg z] at hr ⊢
        have w2 : ¬ (nI (8 * k + 2) < 0 ∨ 40 ≤ 8 * k + 2) := by have := gF 2 (by omega); rw [cF 2 (by omega)] at this; exact this
        exact gd_i w2 hr
    have s357 : ∀ C9 r, (if nI (o k 4) ≤ 1 then fL_text_384 x1 x2 k40 C9 F v3 (nI k) (nI (8 * k)) else bn2 (fX6_put C9 ((48 + nI (o k 3)).toInt64)) fun r5 M6 => fL_text_384 x1 x2 k40 M6 F v3 (nI k) (nI (8 * k))) = r → fL_text_357 x1 x2 k40 C9 F v3 (nI k) (nI (8 * k)) = r := fun C9 r hr => by
      unfold fL_text_357
      rw [j4, j3]
      refine gd_i (gF 4 (by omega)) ?_
      rw [cF 4 (by omega), f4, cF 3 (by omega), f3]
      by_cases z : nI (o k 4) ≤ 1
      · rw [if_pos z] at hr ⊢; exact hr
      · rw [if_neg z] at hr ⊢
        have w3 : ¬ (nI (8 * k + 3) < 0 ∨ 40 ≤ 8 * k + 3) := by have := gF 3 (by omega); rw [cF 3 (by omega)] at this; exact this
        exact gd_i w3 hr
    have s384 : ∀ C9 r, (if nI (o k 4) ≤ 2 then fL_text_508 x1 x2 k40 C9 F v3 (nI k) else bn2 (fX6_put C9 ((48 + ((nI (o k 2) + nI (o k 3)) - (nI (o k 2) + nI (o k 3)) / 10 * 10)).toInt64)) fun r6 M7 => fL_text_508 x1 x2 k40 M7 F v3 (nI k)) = r → fL_text_384 x1 x2 k40 C9 F v3 (nI k) (nI (8 * k)) = r := fun C9 r hr => by
      unfold fL_text_384
      rw [j4, j3, j2]
      refine gd_i (gF 4 (by omega)) ?_
      rw [cF 4 (by omega), f4, cF 3 (by omega), f3, cF 2 (by omega), f2]
      by_cases z : nI (o k 4) ≤ 2
      · rw [if_pos z] at hr ⊢; exact hr
      · rw [if_neg z] at hr ⊢
        have w3 : ¬ (nI (8 * k + 3) < 0 ∨ 40 ≤ 8 * k + 3) := by have := gF 3 (by omega); rw [cF 3 (by omega)] at this; exact this
        have w2 : ¬ (nI (8 * k + 2) < 0 ∨ 40 ≤ 8 * k + 2) := by have := gF 2 (by omega); rw [cF 2 (by omega)] at this; exact this
        exact gd_i w2 (gd_i w3 hr)
    -- what OK asks for
    have ok : ∀ sg' : Nat → Nat, (∀ i, i < n + 2 → sg' i = sg2 i) → (0 < o k 4 → sg' (n + 2) = 48 + o k 2) → (1 < o k 4 → sg' (n + 3) = 48 + o k 3) → (2 < o k 4 → sg' (n + 4) = 48 + (o k 2 + o k 3) % 10) → OK sg' o k := fun sg' h1 h2 h3 h4 => by
      have a0 : arg o k 0 = nI (o k 1) := by unfold arg; rw [if_pos rfl, if_neg (by omega)]
      have a1 : arg o k 1 = (if 0 < o k 4 then nI (o k 2) else -6) := by unfold arg; rw [if_neg (by omega), if_pos rfl, if_pos q0]
      have a2 : arg o k 2 = (if 1 < o k 4 then nI (o k 3) else -6) := by unfold arg; rw [if_neg (by omega), if_neg (by omega), if_pos rfl]
      have a3 : arg o k 3 = (if 2 < o k 4 then nI ((o k 2 + o k 3) % 10) else -6) := by unfold arg; rw [if_neg (by omega), if_neg (by omega), if_neg (by omega)]
      have c0' : sg' n = 119 := by rw [h1 n (by omega)]; exact c0
      have c1' : sg' (n + 1) = 65 + o k 1 := by rw [h1 (n + 1) (by omega)]; exact c1
      show OrdOk sg' (ob o k) (oe o k) (kdc (o k 0)) (arg o k 0) (arg o k 1) (arg o k 2) (arg o k 3)
      rw [← hn, q0, a0, a1, a2, a3]
      refine Or.inr (Or.inr (Or.inr (Or.inl ⟨rfl, c0', by rw [c1']; exact ⟨by omega, by omega⟩, by rw [c1', Nat.add_sub_cancel_left], o k 4, by omega, ?_, fun q hq => ?_, ?_, ?_, ?_⟩)))
      · show ob o k + oln o k = n + 2 + o k 4
        unfold oln
        rw [if_pos q0, hn]
        omega
      · by_cases z0 : q = 0
        · rw [z0, Nat.add_zero, h2 (by omega)]; exact ⟨by omega, by omega⟩
        · by_cases z1 : q = 1
          · rw [z1, show n + 2 + 1 = n + 3 from rfl, h3 (by omega)]; exact ⟨by omega, by omega⟩
          · rw [show n + 2 + q = n + 4 by omega, h4 (by omega)]; exact ⟨by omega, by omega⟩
      · by_cases z : 0 < o k 4
        · rw [if_pos z, if_pos z, h2 z, Nat.add_sub_cancel_left]
        · rw [if_neg z, if_neg z]
      · by_cases z : 1 < o k 4
        · rw [if_pos z, if_pos z, h3 z, Nat.add_sub_cancel_left]
        · rw [if_neg z, if_neg z]
      · by_cases z : 2 < o k 4
        · rw [if_pos z, if_pos z, h4 z, Nat.add_sub_cancel_left]
        · rw [if_neg z, if_neg z]
    have en : oe o k = n + 2 + o k 4 := by
      show ob o k + oln o k = _
      unfold oln
      rw [if_pos q0, hn]
      omega
    have top := fun r hr => s176 r (if_pi (by rw [q0]; rfl) (g2.trans (s312 r hr)))
    by_cases m0 : o k 4 = 0
    · refine ⟨C2, sg2, 3, top _ (if_pi (by rw [m0]; decide) (s357 _ _ (if_pi (by rw [m0]; decide) (s384 _ _ (if_pi (by rw [m0]; decide) (s508 A2 X2 (by omega))))))), by rw [en, m0]; exact A2, by rw [en, m0]; exact X2, by omega, ok sg2 (fun _ _ => rfl) (fun z => by omega) (fun z => by omega) (fun z => by omega), old2⟩
    · obtain ⟨C3, e3, A3, X3⟩ := x_put A2 X2 hu (by omega) (by omega) (by omega) (aB_d (st := 2) (by omega) ⟨by omega, by omega⟩) (by omega)
      have n1 : ¬ nI (o k 4) ≤ 0 := nI_nle (by omega) (by omega)
      by_cases m1 : o k 4 = 1
      · refine ⟨C3, _, 2, top _ (if_ni n1 (bn2_i e3 (s357 _ _ (if_pi (by rw [m1]; decide) (s384 _ _ (if_pi (by rw [m1]; decide) (s508 A3 X3 (by omega)))))))), by rw [en, m1]; exact A3, by rw [en, m1]; exact X3, by omega, ok _ (fun i hi => ext_ne (by omega)) (fun _ => ext_eq _ _ _) (fun z => by omega) (fun z => by omega), fun i hi => by rw [ext_ne (by omega)]; exact old2 i hi⟩
      · obtain ⟨C4, e4, A4, X4⟩ := x_put A3 X3 hv (by omega) (by omega) (by omega) (aB_d (st := 1) (by omega) ⟨by omega, by omega⟩) (by omega)
        have n2 : ¬ nI (o k 4) ≤ 1 := show ¬ nI (o k 4) ≤ nI 1 from nI_ge (by omega) (by omega)
        by_cases m2 : o k 4 = 2
        · refine ⟨C4, _, 1, top _ (if_ni n1 (bn2_i e3 (s357 _ _ (if_ni n2 (bn2_i e4 (s384 _ _ (if_pi (by rw [m2]; decide) (s508 A4 X4 (by omega))))))))), by rw [en, m2]; exact A4, by rw [en, m2]; exact X4, by omega, ok _ (fun i hi => by rw [ext_ne (by omega), ext_ne (by omega)]) (fun _ => by rw [ext_ne (by omega)]; exact ext_eq _ _ _) (fun _ => ext_eq _ _ _) (fun z => by omega), fun i hi => by rw [ext_ne (by omega), ext_ne (by omega)]; exact old2 i hi⟩
        · obtain ⟨C5, e5, A5, X5⟩ := x_put A4 X4 hs (by omega) (by omega) (by omega) (aB_d (st := 0) (by omega) ⟨by omega, by omega⟩) (by omega)
          have n3 : ¬ nI (o k 4) ≤ 2 := show ¬ nI (o k 4) ≤ nI 2 from nI_ge (by omega) (by omega)
          have m3 : o k 4 = 3 := by omega
          refine ⟨C5, _, 0, top _ (if_ni n1 (bn2_i e3 (s357 _ _ (if_ni n2 (bn2_i e4 (s384 _ _ (if_ni n3 (bn2_i e5 (s508 A5 X5 (by omega)))))))))), by rw [en, m3]; exact A5, by rw [en, m3]; exact X5, by omega, ok _ (fun i hi => by rw [ext_ne (by omega), ext_ne (by omega), ext_ne (by omega)]) (fun _ => by rw [ext_ne (by omega), ext_ne (by omega)]; exact ext_eq _ _ _) (fun _ => by rw [ext_ne (by omega)]; exact ext_eq _ _ _) (fun _ => ext_eq _ _ _), fun i hi => by rw [ext_ne (by omega), ext_ne (by omega), ext_ne (by omega)]; exact old2 i hi⟩
  · by_cases q1 : o k 0 = 1
    · obtain ⟨C2, A2, X2, g2⟩ := s254 (c := 102) (t1 := 102) rfl (by omega) (by omega) (show aB 4 102 = 6 from rfl) (by omega) (by omega) (aB_6 ⟨by omega, by omega⟩) (by omega) (by omega)
      have hu : wN ((49 + nI (o k 2)).toInt64) = 49 + o k 2 := sg_ch (a := 49) (by omega)
      have b3' := b3 q1
      obtain ⟨C3, e3, A3, X3⟩ := x_put A2 X2 hu (by omega) (by omega) (by omega) (show aB 7 (49 + o k 2) = 0 by rw [aB_7, if_pos ⟨by omega, by omega⟩]) (by omega)
      have en : oe o k = n + 2 + 1 := by
        show ob o k + oln o k = _
        unfold oln
        rw [if_neg q0, if_pos q1, hn]
      have a0 : arg o k 0 = nI (o k 1) := by unfold arg; rw [if_pos rfl, if_neg (by omega)]
      have a1 : arg o k 1 = nI (o k 2) := by unfold arg; rw [if_neg (by omega), if_pos rfl, if_neg q0, if_pos q1]
      have c0 : ext (ext (ext sg n 102) (n + 1) (65 + o k 1)) (n + 2) (49 + o k 2) n = 102 := by rw [ext_ne (by omega), ext_ne (by omega), ext_eq]
      have c1 : ext (ext (ext sg n 102) (n + 1) (65 + o k 1)) (n + 2) (49 + o k 2) (n + 1) = 65 + o k 1 := by rw [ext_ne (by omega), ext_eq]
      have c2 : ext (ext (ext sg n 102) (n + 1) (65 + o k 1)) (n + 2) (49 + o k 2) (n + 2) = 49 + o k 2 := ext_eq _ _ _
      refine ⟨C3, _, 0, s176 _ (if_ni (ne _ 0 b0 (by omega) q0) (if_pi (by rw [q1]; rfl) (g2.trans ?_))), by rw [en]; exact A3, by rw [en]; exact X3, by omega, ?_, fun i hi => by rw [ext_ne (by omega)]; exact x0 hi⟩
      · unfold fL_text_312
        refine gd_i gF0 ?_
        rw [cF0, f0]
        refine if_ni (ne _ 0 b0 (by omega) q0) (if_pi (by rw [q1]; rfl) (bn_i (x_mid A2 X2 (by omega)) (bn_i (ab_c6 A2) (if_pi rfl ?_))))
        rw [j2]
        refine gd_i (gF 2 (by omega)) ?_
        rw [cF 2 (by omega), f2]
        exact bn2_i e3 (s508 A3 X3 (by omega))
      · show OrdOk _ (ob o k) (oe o k) (kdc (o k 0)) (arg o k 0) (arg o k 1) (arg o k 2) (arg o k 3)
        rw [← hn, en, a0, a1, q1]
        exact Or.inr (Or.inl ⟨rfl, c0, rfl, by rw [c1]; exact ⟨by omega, by omega⟩, by rw [c2]; exact ⟨by omega, by omega⟩, by rw [c1, Nat.add_sub_cancel_left], by rw [c2, Nat.add_sub_cancel_left]⟩)
    · by_cases q2 : o k 0 = 2
      · obtain ⟨C2, A2, X2, g2⟩ := s254 (c := 99) (t1 := 99) rfl (by omega) (by omega) (show aB 4 99 = 9 from rfl) (by omega) (by omega) (aB_9 ⟨by omega, by omega⟩) (by omega) (by omega)
        have en : oe o k = n + 2 := by
          show ob o k + oln o k = _
          unfold oln
          rw [if_neg q0, if_neg q1, if_pos q2, hn]
        have a0 : arg o k 0 = nI (o k 1) := by unfold arg; rw [if_pos rfl, if_neg (by omega)]
        have c0 : ext (ext sg n 99) (n + 1) (65 + o k 1) n = 99 := by rw [ext_ne (by omega), ext_eq]
        have c1 : ext (ext sg n 99) (n + 1) (65 + o k 1) (n + 1) = 65 + o k 1 := ext_eq _ _ _
        refine ⟨C2, _, 0, s176 _ (if_ni (ne _ 0 b0 (by omega) q0) (if_ni (ne _ 1 b0 (by omega) q1) (if_pi (by rw [q2]; rfl) (g2.trans ?_)))), by rw [en]; exact A2, by rw [en]; exact X2, by omega, ?_, fun i hi => x0 hi⟩
        · unfold fL_text_312
          refine gd_i gF0 ?_
          rw [cF0, f0]
          exact if_ni (ne _ 0 b0 (by omega) q0) (if_ni (ne _ 1 b0 (by omega) q1) (if_ni (ne _ 3 b0 (by omega) (by omega)) (s508 A2 X2 (by omega))))
        · show OrdOk _ (ob o k) (oe o k) (kdc (o k 0)) (arg o k 0) (arg o k 1) (arg o k 2) (arg o k 3)
          rw [← hn, en, a0, q2]
          exact Or.inl ⟨rfl, c0, rfl, by dsimp only; rw [c1]; exact ⟨by omega, by omega⟩, by dsimp only; rw [c1, Nat.add_sub_cancel_left]⟩
      · by_cases q3 : o k 0 = 3
        · obtain ⟨C2, A2, X2, g2⟩ := s254 (c := 115) (t1 := 115) rfl (by omega) (by omega) (show aB 4 115 = 8 from rfl) (by omega) (by omega) (aB_8 ⟨by omega, by omega⟩) (by omega) (by omega)
          have hv : wN ((65 + nI (o k 3)).toInt64) = 65 + o k 3 := sg_ch (a := 65) (by omega)
          obtain ⟨C3, e3, A3, X3⟩ := x_put A2 X2 hv (by omega) (by omega) (by omega) (aB_9 ⟨by omega, by omega⟩) (by omega)
          have en : oe o k = n + 2 + 1 := by
            show ob o k + oln o k = _
            unfold oln
            rw [if_neg q0, if_neg q1, if_neg q2, if_pos q3, hn]
          have a0 : arg o k 0 = nI (o k 1) := by unfold arg; rw [if_pos rfl, if_neg (by omega)]
          have a1 : arg o k 1 = nI (o k 3) := by unfold arg; rw [if_neg (by omega), if_pos rfl, if_neg q0, if_neg q1]
          have c0 : ext (ext (ext sg n 115) (n + 1) (65 + o k 1)) (n + 2) (65 + o k 3) n = 115 := by rw [ext_ne (by omega), ext_ne (by omega), ext_eq]
          have c1 : ext (ext (ext sg n 115) (n + 1) (65 + o k 1)) (n + 2) (65 + o k 3) (n + 1) = 65 + o k 1 := by rw [ext_ne (by omega), ext_eq]
          have c2 : ext (ext (ext sg n 115) (n + 1) (65 + o k 1)) (n + 2) (65 + o k 3) (n + 2) = 65 + o k 3 := ext_eq _ _ _
          refine ⟨C3, _, 0, s176 _ (if_ni (ne _ 0 b0 (by omega) q0) (if_ni (ne _ 1 b0 (by omega) q1) (if_ni (ne _ 2 b0 (by omega) q2) (if_pi (by rw [q3]; rfl) (g2.trans ?_))))), by rw [en]; exact A3, by rw [en]; exact X3, by omega, ?_, fun i hi => by rw [ext_ne (by omega)]; exact x0 hi⟩
          · unfold fL_text_312
            refine gd_i gF0 ?_
            rw [cF0, f0]
            refine if_ni (ne _ 0 b0 (by omega) q0) (if_ni (ne _ 1 b0 (by omega) q1) (if_pi (by rw [q3]; rfl) (bn_i (x_mid A2 X2 (by omega)) (bn_i (ab_c6 A2) (if_pi rfl ?_)))))
            rw [j3]
            refine gd_i (gF 3 (by omega)) ?_
            rw [cF 3 (by omega), f3]
            exact bn2_i e3 (s508 A3 X3 (by omega))
          · show OrdOk _ (ob o k) (oe o k) (kdc (o k 0)) (arg o k 0) (arg o k 1) (arg o k 2) (arg o k 3)
            rw [← hn, en, a0, a1, q3]
            exact Or.inr (Or.inr (Or.inl ⟨rfl, c0, rfl, by rw [c1]; exact ⟨by omega, by omega⟩, by rw [c2]; exact ⟨by omega, by omega⟩, by rw [c1, Nat.add_sub_cancel_left], by rw [c2, Nat.add_sub_cancel_left]⟩))
        · have q4 : o k 0 = 4 := by omega
          obtain ⟨C1, e1, A1, X1⟩ := x_put A X (x := 100) (c := 100) rfl (by omega) (by omega) (by omega) (show aB 4 100 = 10 from rfl) (by omega)
          have r10 : nI (o k 2) - nI (o k 2) / 10 * 10 = nI (o k 2) := by
            have : nI (o k 2) - nI (o k 2) / 10 * 10 = nI (o k 2 % 10) := pk_rem (d := 10) (by omega) (by decide) (by decide)
            rw [this, Nat.mod_eq_of_lt b2]
          have hu : wN ((48 + (nI (o k 2) - nI (o k 2) / 10 * 10)).toInt64) = 48 + o k 2 := by
            rw [r10]
            exact sg_ch (a := 48) (by omega)
          obtain ⟨st, est, hst⟩ : ∃ st, aB 10 (48 + o k 2) = st ∧ st ≤ 1 := by
            refine ⟨_, rfl, ?_⟩
            rw [aB_10, if_pos ⟨by omega, by omega⟩]
            by_cases z : 48 + o k 2 = 48
            · rw [if_pos z]; omega
            · rw [if_neg z]; exact Nat.le_refl _
          obtain ⟨C2, e2, A2, X2⟩ := x_put A1 X1 hu (by omega) (by omega) (by omega) est (by omega)
          have en : oe o k = n + 1 + 1 := by
            show ob o k + oln o k = _
            unfold oln
            rw [if_neg q0, if_neg q1, if_neg q2, if_neg q3, hn]
          have a0 : arg o k 0 = nI (o k 2) := by unfold arg; rw [if_pos rfl, if_pos q4]
          have c0 : ext (ext sg n 100) (n + 1) (48 + o k 2) n = 100 := by rw [ext_ne (by omega), ext_eq]
          have c1 : ext (ext sg n 100) (n + 1) (48 + o k 2) (n + 1) = 48 + o k 2 := ext_eq _ _ _
          refine ⟨C2, _, st, s176 _ (if_ni (ne _ 0 b0 (by omega) q0) (if_ni (ne _ 1 b0 (by omega) q1) (if_ni (ne _ 2 b0 (by omega) q2) (if_ni (ne _ 3 b0 (by omega) q3) ?_)))), by rw [en]; exact A2, by rw [en]; exact X2, by omega, ?_, fun i hi => x0 hi⟩
          · unfold fL_text_254
            refine bn2_i e1 (bn_i (x_mid A1 X1 (by omega)) (bn_i (ab_c6 A1) (if_pi rfl (gd_i gF0 ?_))))
            rw [cF0, f0]
            refine if_pi (by rw [q4]; rfl) ?_
            rw [j2]
            refine gd_i (gF 2 (by omega)) ?_
            rw [cF 2 (by omega), f2]
            refine bn_i (a := C2) ?_ ?_
            · unfold fL_number fL_number_19
              exact if_pi (show nI (o k 2) ≤ nI 9 from nI_le (by omega) (by omega)) (bn2_i e2 rfl)
            · unfold fL_text_312
              refine gd_i gF0 ?_
              rw [cF0, f0]
              exact if_ni (ne _ 0 b0 (by omega) q0) (if_ni (ne _ 1 b0 (by omega) q1) (if_ni (ne _ 3 b0 (by omega) q3) (s508 A2 X2 (by omega))))
          · show OrdOk _ (ob o k) (oe o k) (kdc (o k 0)) (arg o k 0) (arg o k 1) (arg o k 2) (arg o k 3)
            rw [← hn, en, a0, q4]
            exact Or.inr (Or.inr (Or.inr (Or.inr ⟨rfl, c0, by dsimp only; rw [c1]; exact ⟨by omega, by omega⟩, Or.inl ⟨rfl, by dsimp only; rw [c1, Nat.add_sub_cancel_left]⟩⟩)))
