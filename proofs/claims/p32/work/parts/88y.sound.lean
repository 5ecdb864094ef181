/-! p32: sound, the loops -/
theorem wb_t {w : Nat → Int32} {i : Nat} (h : wb w i = true) : ¬ w (72 + 20 * i + 8) = 0 := of_decide_eq_true h
theorem sb_t {w : Nat → Int32} {i : Nat} (h : sb w i = true) : ¬ w (72 + 20 * i + 11) = -6 := of_decide_eq_true h
theorem db_t {w : Nat → Int32} {i : Nat} (h : db w i = true) : ¬ w (72 + 20 * i + 14) = -6 := of_decide_eq_true h
section
variable {C : mm_M} {w : Nat → Int32} {P K W T : Nat} {N : Nat → Nat} {xS : Nat → Nat → Nat}
theorem so_nosk (S : Sim okA C 1 w P K W T N xS) (D : DI w K P) {c p : Nat} (hc : c < K) (hp : p < P) (h3 : w (32 + 4 * p + 3) = nI c) : whF w P c p = 0 := by
  have lK := S.bd.lK
  have lP := S.bd.lP
  obtain ⟨d1, d2, d3, -⟩ := D
  have at0 := PcO.at_ d2 lK hp hc h3
  have no : ∀ q, q < P → (q = p + 1 ∨ q + 1 = p) → skF w c (w (32 + 4 * q + 3)) = false := fun q hq hqp => by
    refine decide_eq_false (fun z => ?_)
    obtain ⟨z1, z2, z3⟩ := z
    rcases d2 q hq with y | ⟨e, he, y, y2⟩
    · rw [y] at z1; exact z1 (by decide)
    · rw [y, nI_clamp (by omega)] at z3
      rcases hqp with h | h
      · subst h
        exact d3 p c e hq hc he h3 y z3.symm
      · subst h
        exact d3 q e c hp he hc y h3 z3
  have ng : skF w c (-6) = false := decide_eq_false (fun z => z.1 (by decide))
  have e1 : skF w c (atF w P (nI p - 1)) = false := by
    unfold atF
    by_cases c0 : nI p - 1 < 0
    · rw [if_pos c0]; exact ng
    · rw [if_neg c0]
      by_cases c1 : nI P ≤ nI p - 1
      · rw [if_pos c1]; exact ng
      · rw [if_neg c1]
        have p0 : 0 < p := by
          rcases Nat.eq_zero_or_pos p with z | z
          · subst z; exact absurd (by decide) c0
          · exact z
        rw [show nI p - 1 = nI (p - 1) from pk_sub (b := 1) p0, nI_clamp (by omega)]
        exact no (p - 1) (by omega) (Or.inr (by omega))
  have e2 : skF w c (atF w P (nI p + 1)) = false := by
    unfold atF
    rw [nI_1, if_neg (nI_pos (by omega))]
    by_cases c1 : nI P ≤ nI (p + 1)
    · rw [if_pos c1]; exact ng
    · rw [if_neg c1, nI_clamp (by omega)]
      refine no (p + 1) ?_ (Or.inl rfl)
      rcases Nat.lt_or_ge (p + 1) P with z | z
      · exact z
      · exact absurd (nI_le z (by omega)) c1
  unfold whF
  rw [if_pos (Or.inr h3), e1, e2]
  rfl
theorem so_38 (S : Sim okA C 1 w P K W T N xS) (D : DI w K P) {r : Option (Bool × mm_M)} (hk : ∀ F, fL_sound_510 FU C F (nI K) (nI P) (isum (fun c => w (72 + 20 * c + 10)) K) (isum (fun c => w (72 + 20 * c + 16)) K) (nI (cnB (sb w) K)) (nI (cnB (db w) K)) (nI (hiF w K) - 1) (nI (cnB (wb w) K)) 0 0 0 = r) : ∀ (d c n : Nat) (F : Nat → Int32), c + d = K → d < n → (∀ x, x < 16 → F x = nI (cnB (cov w x) c)) → fL_sound_38 n C F (nI K) (nI P) (isum (fun c => w (72 + 20 * c + 10)) c) (isum (fun c => w (72 + 20 * c + 16)) c) (nI (cnB (sb w) c)) (nI (cnB (db w) c)) (nI (hiF w c) - 1) (nI (cnB (wb w) c)) (nI c) = r := by
  have lK := S.bd.lK
  have lP := S.bd.lP
  have D0 := D
  obtain ⟨d1, d2, d3, d4, d5, d6, d7⟩ := D
  have hhi := so_drawn d6 lK
  intro d
  induction d with
  | zero =>
    intro c n F hc hn hF
    obtain ⟨n, rfl⟩ : ∃ q, n = q + 1 := ⟨n - 1, by omega⟩
    have e : c = K := by omega
    subst e
    rw [fL_sound_38]
    exact if_pi (Int32.le_refl _) (hk F)
  | succ d ih =>
    intro c n F hcd hn hF
    obtain ⟨n, rfl⟩ : ∃ q, n = q + 1 := ⟨n - 1, by omega⟩
    have hc : c < K := by omega
    have oc := fun t ht => v_ofCart S hc (t := t) ht
    have o12 : fX6_ofCart C (nI c) 12 = some (w (72 + 20 * c + 11)) := oc 12 (by omega)
    have o13 : fX6_ofCart C (nI c) 13 = some (w (72 + 20 * c + 12)) := oc 13 (by omega)
    have o15 : fX6_ofCart C (nI c) 15 = some (w (72 + 20 * c + 14)) := oc 15 (by omega)
    have o14 : fX6_ofCart C (nI c) 14 = some (w (72 + 20 * c + 13)) := oc 14 (by omega)
    have o11 : fX6_ofCart C (nI c) 11 = some (w (72 + 20 * c + 10)) := oc 11 (by omega)
    have o8 : fX6_ofCart C (nI c) 8 = some (w (72 + 20 * c + 8)) := oc 8 (by omega)
    have o6 : fX6_ofCart C (nI c) 6 = some (w (72 + 20 * c + 6)) := oc 6 (by omega)
    have m2 : fX6_money C (nI c) 2 = some (lN (xS c 1)) := v_money S hc (t := 2) (by omega)
    have e16 : (lN (xS c 1)).toInt32 = w (72 + 20 * c + 16) := (lN_i _).trans (S.sumE c hc 1 (by omega)).2.symm
    -- the place in the lots
    have pl : w (72 + 20 * c + 14) = -6 ∨ ∃ q, q < 2 ^ 30 ∧ w (72 + 20 * c + 14) = nI q := by
      obtain ⟨ord, pp, z1, z2, z3⟩ := d6
      rcases z3 c hc with z | ⟨q, hq, z, -⟩
      · exact Or.inl z
      · exact Or.inr ⟨q, by omega, z⟩
    have pneg : w (72 + 20 * c + 14) < 0 ↔ w (72 + 20 * c + 14) = -6 := by
      rcases pl with z | ⟨q, hq, z⟩
      · rw [z]; decide
      · rw [z]
        exact ⟨fun y => absurd y (nI_pos (by omega)), fun y => absurd y (n6 (by omega))⟩
    have ews : nI (cnB (wb w) c) + w (72 + 20 * c + 8) = nI (cnB (wb w) (c + 1)) := by
      have es : cnB (wb w) (c + 1) = cnB (wb w) c + (if wb w c = true then 1 else 0) := rfl
      rw [es]
      rcases (S.val _).wai c hc rfl with z | z
      · rw [z, if_neg (fun y => wb_t y z), Int32.add_zero, Nat.add_zero]
      · rw [z, if_pos (show wb w c = true from decide_eq_true (by rw [z]; decide)), nI_1]
    obtain ⟨hi', ehi⟩ : ∃ x, x = nI (hiF w (c + 1)) - 1 := ⟨_, rfl⟩
    have hhb : ∀ m, m ≤ K → hiF w m < 2 ^ 30 := by
      intro m hm
      have h1 : ∀ m, m ≤ K → hiF w m ≤ hiF w K := by
        have h2 : ∀ j m, m + j = K → hiF w m ≤ hiF w K := by
          intro j
          induction j with
          | zero => intro m hm; rw [show m = K by omega]; exact Nat.le_refl _
          | succ j ij =>
            intro m hm
            refine Nat.le_trans ?_ (ij (m + 1) (by omega))
            show hiF w m ≤ (if w (72 + 20 * m + 14) = -6 then hiF w m else if hiF w m ≤ (w (72 + 20 * m + 14)).toNatClampNeg then (w (72 + 20 * m + 14)).toNatClampNeg + 1 else hiF w m)
            by_cases q : w (72 + 20 * m + 14) = -6
            · rw [if_pos q]; exact Nat.le_refl _
            · rw [if_neg q]
              by_cases q2 : hiF w m ≤ (w (72 + 20 * m + 14)).toNatClampNeg
              · rw [if_pos q2]; omega
              · rw [if_neg q2]; exact Nat.le_refl _
        exact fun m hm => h2 (K - m) m (by omega)
      have h3 := h1 m hm
      have h4 := cnB_le (db w) K
      omega
    -- behind the highest place
    have go : ∀ (F' : Nat → Int32) (v5 : Int32), fL_sound_150 (fL_sound_38 n) C F' (nI K) (nI P) (isum (fun c => w (72 + 20 * c + 10)) (c + 1)) (isum (fun c => w (72 + 20 * c + 16)) (c + 1)) v5 (nI (cnB (db w) (c + 1))) (nI (cnB (wb w) (c + 1))) (nI c) (w (72 + 20 * c + 11)) (w (72 + 20 * c + 12)) (w (72 + 20 * c + 14)) (w (72 + 20 * c + 13)) hi' = r → ∀ b : Bool, (w (72 + 20 * c + 14) < 0 ↔ b = false) → fL_sound_133 (fL_sound_38 n) C F' (nI K) (nI P) (isum (fun c => w (72 + 20 * c + 10)) (c + 1)) (isum (fun c => w (72 + 20 * c + 16)) (c + 1)) v5 (nI (hiF w c) - 1) (nI (cnB (wb w) (c + 1))) (nI c) (w (72 + 20 * c + 11)) (w (72 + 20 * c + 12)) (w (72 + 20 * c + 14)) (w (72 + 20 * c + 13)) (nI (cnB (db w) c)) b = r := by
      intro F' v5 hr b hb
      have ed : nI (cnB (db w) c) + b2i b = nI (cnB (db w) (c + 1)) := by
        have es : cnB (db w) (c + 1) = cnB (db w) c + (if db w c = true then 1 else 0) := rfl
        rw [es]
        cases b
        · have z := pneg.mp (hb.mpr rfl)
          rw [if_neg (fun y => db_t y z)]
          exact Int32.add_zero _
        · have z : ¬ w (72 + 20 * c + 14) = -6 := fun y => by
            have := hb.mp (pneg.mpr y)
            cases this
          rw [if_pos (show db w c = true from decide_eq_true z)]
          exact nI_1 _
      unfold fL_sound_133
      rw [ed]
      refine lt_i ?_
      have h0 := hhb c (by omega)
      have t1 : (nI (hiF w c) - 1).toInt = (hiF w c : Int) - 1 := by
        rw [show (1 : Int32) = nI 1 from rfl, sub_toInt (by omega) (by omega)]
        rfl
      rcases pl with z | ⟨q, hq, z⟩
      · have e1 : hiF w (c + 1) = hiF w c := if_pos z
        rw [e1] at ehi
        refine if_pi ?_ (by rw [← ehi]; exact hr)
        rw [z, Int32.le_iff_toInt_le, t1, show (-6 : Int32).toInt = -6 from rfl]
        omega
      · have e1 : hiF w (c + 1) = if hiF w c ≤ q then q + 1 else hiF w c := by
          show (if w (72 + 20 * c + 14) = -6 then hiF w c else if hiF w c ≤ (w (72 + 20 * c + 14)).toNatClampNeg then (w (72 + 20 * c + 14)).toNatClampNeg + 1 else hiF w c) = _
          rw [z, if_neg (n6 (by omega)), nI_clamp (by omega)]
        by_cases y : hiF w c ≤ q
        · rw [e1, if_pos y, nI_pred] at ehi
          refine if_ni ?_ (by rw [ehi, ← z] at hr; exact hr)
          rw [z, Int32.le_iff_toInt_le, t1, nI_toInt (by omega)]
          omega
        · rw [e1, if_neg y] at ehi
          refine if_pi ?_ (by rw [← ehi]; exact hr)
          rw [z, Int32.le_iff_toInt_le, t1, nI_toInt (by omega)]
          omega
    have start : ∀ b : Bool, (w (72 + 20 * c + 14) < 0 ↔ b = false) → fL_sound_133 (fL_sound_38 n) C F (nI K) (nI P) (isum (fun c => w (72 + 20 * c + 10)) (c + 1)) (isum (fun c => w (72 + 20 * c + 16)) (c + 1)) (nI (cnB (sb w) c)) (nI (hiF w c) - 1) (nI (cnB (wb w) (c + 1))) (nI c) (w (72 + 20 * c + 11)) (w (72 + 20 * c + 12)) (w (72 + 20 * c + 14)) (w (72 + 20 * c + 13)) (nI (cnB (db w) c)) b = r := by
      refine go F _ ?_
      unfold fL_sound_150
      rcases d1 c hc with z11 | ⟨p, hp, z11, z3⟩
      · have es : cnB (sb w) (c + 1) = cnB (sb w) c := by
          show cnB (sb w) c + (if sb w c = true then 1 else 0) = _
          rw [if_neg (fun y => sb_t y z11)]
          rfl
        have nxt : fL_sound_38 n C F (nI K) (nI P) (isum (fun c => w (72 + 20 * c + 10)) (c + 1)) (isum (fun c => w (72 + 20 * c + 16)) (c + 1)) (nI (cnB (sb w) c)) (nI (cnB (db w) (c + 1))) hi' (nI (cnB (wb w) (c + 1))) (nI (c + 1)) = r := by
          rw [← es, ehi]
          refine ih (c + 1) n F (by omega) (by omega) (fun x hx => ?_)
          rw [hF x hx]
          show _ = nI (cnB (cov w x) c + (if cov w x c = true then 1 else 0))
          rw [if_neg (fun y => (of_decide_eq_true y).1 z11)]
          rfl
        have f308 := so_308 S hc nxt
        rcases d4 c hc with ⟨-, z12, rr, hrr, z13, z⟩ | ⟨z, -⟩
        · rw [z11, z12, z13]
          refine if_pi (by decide) (if_ni (by decide) (if_ni (nI_pos (by omega)) (if_ni (show ¬ nI 5 < nI rr from nI_nlt hrr (by omega)) ?_)))
          by_cases y : rr ≤ 3
          · have y14 : w (72 + 20 * c + 14) < 0 := pneg.mpr (by
              by_cases q : w (72 + 20 * c + 14) = -6
              · exact q
              · have := z.mpr q; omega)
            refine if_pi (show nI rr ≤ nI 3 from nI_le y (by omega)) ?_
            unfold fL_sound_293 fL_sound_303
            exact if_pi y14 (if_pi rfl f308)
          · have y14 : ¬ w (72 + 20 * c + 14) < 0 := fun q => z.mp (by omega) (pneg.mp q)
            refine if_ni (show ¬ nI rr ≤ nI 3 from nI_ge (by omega) (by omega)) ?_
            unfold fL_sound_293 fL_sound_303
            exact if_ni y14 (if_pi rfl f308)
        · exact absurd z11 z
      · have n11 : ¬ w (72 + 20 * c + 11) = -6 := by rw [z11]; exact n6 (by omega)
        obtain ⟨z13, z14, z6⟩ : w (72 + 20 * c + 13) = 0 ∧ ¬ w (72 + 20 * c + 14) = -6 ∧ w (72 + 20 * c + 6) = 0 := by
          rcases d4 c hc with z | ⟨-, z⟩
          · exact absurd z.1 n11
          · exact z
        have es : cnB (sb w) (c + 1) = cnB (sb w) c + 1 := by
          show cnB (sb w) c + (if sb w c = true then 1 else 0) = _
          rw [if_pos (show sb w c = true from decide_eq_true n11)]
        have d5' := d5
        obtain ⟨kt, bg, k1, -⟩ := d5
        obtain ⟨g, g1, g2, g3, g4⟩ := k1 c hc n11
        have e12 : w (72 + 20 * c + 12) = nI (bb w c) := by unfold bb; rw [g3, nI_clamp (by omega)]
        have hbb : bb w c < 15 := by unfold bb; rw [g3, nI_clamp (by omega)]; omega
        have op : fX6_ofPitch C (nI p) 3 = some (nI c) := (v_ofPitch S hp (t := 3) (by omega)).trans (congrArg some z3)
        have yn : fX6_whyNot C (nI c) (nI p) = some 0 := (v_whyNot S hc hp).trans (congrArg some (so_nosk S D0 hc hp z3))
        have f215 := so_215 S d5' hc n11 (k38 := fL_sound_38 n) (v1 := nI K) (v2 := nI P) (v3 := isum (fun c => w (72 + 20 * c + 10)) (c + 1)) (v4 := isum (fun c => w (72 + 20 * c + 16)) (c + 1)) (v5 := nI (cnB (sb w) (c + 1))) (v6 := nI (cnB (db w) (c + 1))) (v7 := hi') (v8 := nI (cnB (wb w) (c + 1))) (r := r) (fun F' hF' => by rw [ehi]; exact ih (c + 1) n F' (by omega) (by omega) hF') (gg w c) (bb w c) FU F rfl (Nat.le_refl _) (by
          have : gg w c = g := by unfold gg; rw [g2, nI_clamp (by omega)]
          unfold FU
          omega) (fun x hx => by rw [hF x hx, if_neg (by omega)]; rfl)
        rw [z11]
        refine if_ni (nI_pos (by omega)) ?_
        rw [nI_1, ← es]
        refine lt_i (bn_i op (if_pi rfl (if_pi z13 ?_)))
        rw [e12]
        refine if_ni (nI_pos (by omega)) (if_ni (fun q => z14 (pneg.mp q)) (bn_i o6 (if_pi z6 (bn_i yn (if_pi rfl f215)))))
    have s1 : isum (fun c => w (72 + 20 * c + 10)) c + w (72 + 20 * c + 10) = isum (fun c => w (72 + 20 * c + 10)) (c + 1) := rfl
    have s2 : isum (fun c => w (72 + 20 * c + 16)) c + w (72 + 20 * c + 16) = isum (fun c => w (72 + 20 * c + 16)) (c + 1) := rfl
    rw [fL_sound_38]
    refine if_ni (nI_ge hc (by omega)) (bn_i o12 (bn_i o13 (bn_i o15 (bn_i o14 (bn_i o11 ?_)))))
    rw [s1]
    refine lt_i (bn_i m2 ?_)
    rw [e16, s2]
    refine lt_i (bn_i o8 ?_)
    rw [ews]
    refine lt_i ?_
    by_cases z : w (72 + 20 * c + 14) < 0
    · exact if_pi z (start false ⟨fun _ => rfl, fun _ => z⟩)
    · exact if_ni z (start true ⟨fun q => absurd q z, fun q => by cases q⟩)
abbrev k572T := mm_M → (Nat → Int32) → Int32 → Int32 → Int32 → Int32 → Int32 → Int32 → Int32 → Int32 → Int32 → Int32 → Int32 → Int32 → Int32 → Option (Bool × mm_M)
theorem so_640 (S : Sim okA C 1 w P K W T N xS) {j : Nat} (hj : j < K) {t0 : Int32} (ht : nn t0 K) {k603 : mm_M → (Nat → Int32) → Int32 → Int32 → Int32 → Int32 → Int32 → Int32 → Int32 → Int32 → Int32 → Int32 → Int32 → Int32 → Int32 → Int32 → Int32 → Option (Bool × mm_M)} {F : Nat → Int32} {v1 v2 v3 v4 v5 v6 v7 v8 v10 v11 v12 v13 v16 : Int32} : fL_sound_640 k603 C F v1 v2 v3 v4 v5 v6 v7 v8 v10 v11 v12 v13 (nI j) v16 t0 = k603 C F v1 v2 v3 v4 v5 v6 v7 v8 v10 v11 v12 v13 (nI j) (if skF w j t0 = true then 2 else 0) (v16 + 2) := by
  have lK := S.bd.lK
  unfold fL_sound_640
  by_cases c0 : t0 < 0
  · rw [if_neg (show ¬ skF w j t0 = true from fun z => (of_decide_eq_true z).1 c0)]
    exact if_pi c0 rfl
  · refine if_ni c0 ?_
    by_cases c1 : t0 = nI j
    · rw [if_neg (show ¬ skF w j t0 = true from fun z => (of_decide_eq_true z).2.1 c1)]
      exact if_pi c1 rfl
    · refine if_ni c1 ?_
      rcases ht with h | ⟨e, he, h⟩
      · exact absurd (by rw [h]; decide) c0
      · have o1 : fX6_ofCart C t0 0 = some (w (72 + 20 * e)) := by rw [h]; exact v_ofCart S he (t := 0) (by omega)
        have o2 : fX6_ofCart C (nI j) 0 = some (w (72 + 20 * j)) := v_ofCart S hj (t := 0) (by omega)
        refine bn_i o1 (bn_i o2 ?_)
        by_cases c2 : w (72 + 20 * e) = w (72 + 20 * j)
        · rw [if_pos (show skF w j t0 = true from decide_eq_true ⟨c0, c1, by rw [h, nI_clamp (by omega)]; exact c2⟩)]
          exact if_pi c2 rfl
        · rw [if_neg (show ¬ skF w j t0 = true from fun z => c2 (by have := (of_decide_eq_true z).2.2; rw [h, nI_clamp (by omega)] at this; exact this))]
          exact if_ni c2 rfl
theorem so_603s (S : Sim okA C 1 w P K W T N xS) {j : Nat} (hj : j < K) {k572 : k572T} {F : Nat → Int32} {v1 v3 v4 v5 v6 v7 v8 v10 v11 v12 v13 v16 : Int32} {n : Nat} (h : ¬ v12 + 1 < v16) : fL_sound_603 k572 (n + 1) C F v1 (nI P) v3 v4 v5 v6 v7 v8 v10 v11 v12 v13 (nI j) 0 v16 = fL_sound_603 k572 n C F v1 (nI P) v3 v4 v5 v6 v7 v8 v10 v11 v12 v13 (nI j) (if skF w j (atF w P v16) = true then 2 else 0) (v16 + 2) := by
  have lP := S.bd.lP
  rw [fL_sound_603]
  refine if_ni h (if_pi rfl ?_)
  have nnn := atF_nn S v16
  by_cases c0 : v16 < 0
  · have ea : atF w P v16 = -6 := by unfold atF; rw [if_pos c0]
    rw [ea]
    refine if_pi c0 ?_
    unfold fL_sound_628
    exact so_640 S hj (Or.inl rfl)
  · refine if_ni c0 ?_
    by_cases c1 : nI P ≤ v16
    · have ea : atF w P v16 = -6 := by unfold atF; rw [if_neg c0, if_pos c1]
      rw [ea]
      refine if_ni (Int32.not_lt.mpr c1) ?_
      unfold fL_sound_628
      exact so_640 S hj (Or.inl rfl)
    · have ea : atF w P v16 = w (32 + 4 * v16.toNatClampNeg + 3) := by unfold atF; rw [if_neg c0, if_neg c1]
      rw [ea] at nnn ⊢
      obtain ⟨q, hq, e⟩ := (nn_lt (by omega)).mp ⟨c0, c1⟩
      have o3 : fX6_ofPitch C v16 3 = some (w (32 + 4 * v16.toNatClampNeg + 3)) := by
        rw [e, nI_clamp (by omega)]
        exact v_ofPitch S hq (t := 3) (by omega)
      exact if_pi (Int32.not_le.mp c1) (bn_i o3 (so_640 S hj nnn))
theorem so_684 (S : Sim okA C 1 w P K W T N xS) {j p : Nat} (hj : j < K) (hp : p < P) {k572 : k572T} {F : Nat → Int32} {v1 v2 v3 v4 v5 v6 v7 v8 v10 v11 v13 v15 : Int32} {r : Option (Bool × mm_M)} (hv : v15 = whF w P j p) (hk : k572 C F v1 v2 v3 v4 v5 v6 v7 v8 v10 v11 (nI p) v13 (nI (j + 1)) = r) : fL_sound_684 k572 C F v1 v2 v3 v4 v5 v6 v7 v8 v10 v11 (nI p) v13 (nI j) v15 = r := by
  unfold fL_sound_684
  refine bn_i (v_whyNot S hj hp) (if_pi hv.symm (lt_i ?_))
  rw [nI_1]
  exact hk
theorem so_603 (S : Sim okA C 1 w P K W T N xS) {j p : Nat} (hj : j < K) (hp : p < P) {k572 : k572T} {F : Nat → Int32} {v1 v3 v4 v5 v6 v7 v8 v10 v11 v13 : Int32} {r : Option (Bool × mm_M)} (hk : k572 C F v1 (nI P) v3 v4 v5 v6 v7 v8 v10 v11 (nI p) v13 (nI (j + 1)) = r) : fL_sound_603 k572 FU C F v1 (nI P) v3 v4 v5 v6 v7 v8 v10 v11 (nI p) v13 (nI j) (if w (32 + 4 * p + 3) = -6 ∨ w (32 + 4 * p + 3) = nI j then 0 else 1) (nI p - 1) = r := by
  have lP := S.bd.lP
  obtain ⟨p1, p2, p3, p4⟩ := pm p (by omega)
  obtain ⟨n, hn⟩ : ∃ n, FU = n + 1 + 1 + 1 := ⟨999997, rfl⟩
  rw [hn]
  by_cases c : w (32 + 4 * p + 3) = -6 ∨ w (32 + 4 * p + 3) = nI j
  · have ew : whF w P j p = if (skF w j (atF w P (nI p - 1)) || skF w j (atF w P (nI p + 1))) = true then 2 else 0 := if_pos c
    rw [if_pos c, so_603s S hj p1, p2]
    cases h1 : skF w j (atF w P (nI p - 1))
    · rw [if_neg (show ¬ false = true by decide), so_603s S hj p3]
      cases h2 : skF w j (atF w P (nI p + 1))
      · rw [if_neg (show ¬ false = true by decide), fL_sound_603]
        exact if_pi p4 (so_684 S hj hp (by rw [ew, h1, h2]; rfl) hk)
      · rw [if_pos rfl, fL_sound_603]
        exact if_pi p4 (so_684 S hj hp (by rw [ew, h1, h2]; rfl) hk)
    · rw [if_pos rfl, fL_sound_603]
      exact if_ni p3 (if_ni (by decide) (so_684 S hj hp (by rw [ew, h1]; rfl) hk))
  · have ew : whF w P j p = 1 := if_neg c
    rw [if_neg c, fL_sound_603]
    exact if_ni p1 (if_ni (by decide) (so_684 S hj hp ew.symm hk))
theorem so_572 (S : Sim okA C 1 w P K W T N xS) {p : Nat} (hp : p < P) {k510 : mm_M → (Nat → Int32) → Int32 → Int32 → Int32 → Int32 → Int32 → Int32 → Int32 → Int32 → Int32 → Int32 → Int32 → Option (Bool × mm_M)} {F : Nat → Int32} {v3 v4 v5 v6 v7 v8 v10 v11 : Int32} {r : Option (Bool × mm_M)} (hk : k510 C F (nI K) (nI P) v3 v4 v5 v6 v7 v8 v10 v11 (nI (p + 1)) = r) : ∀ (d j n : Nat), j + d = K → d < n → fL_sound_572 k510 n C F (nI K) (nI P) v3 v4 v5 v6 v7 v8 v10 v11 (nI p) (w (32 + 4 * p + 3)) (nI j) = r := by
  have lK := S.bd.lK
  intro d
  induction d with
  | zero =>
    intro j n hj hn
    obtain ⟨n, rfl⟩ : ∃ q, n = q + 1 := ⟨n - 1, by omega⟩
    have e : j = K := by omega
    subst e
    rw [fL_sound_572]
    refine if_pi (Int32.le_refl _) (lt_i ?_)
    rw [nI_1]
    exact hk
  | succ d ih =>
    intro j n hj hn
    obtain ⟨n, rfl⟩ : ∃ q, n = q + 1 := ⟨n - 1, by omega⟩
    have hjK : j < K := by omega
    have h6 := so_603 S hjK hp (k572 := fL_sound_572 k510 n) (F := F) (v1 := nI K) (v3 := v3) (v4 := v4) (v5 := v5) (v6 := v6) (v7 := v7) (v8 := v8) (v10 := v10) (v11 := v11) (v13 := w (32 + 4 * p + 3)) (ih (j + 1) n (by omega) (by omega))
    rw [fL_sound_572]
    refine if_ni (nI_ge hjK (by omega)) ?_
    rcases (S.val _).pn p hp rfl with h | ⟨x, hx, h⟩
    · rw [if_pos (Or.inl h)] at h6
      exact if_pi (by rw [h]; decide) (lt_i h6)
    · have n0 : ¬ w (32 + 4 * p + 3) < 0 := by rw [h]; exact nI_pos (by omega)
      have n6' : ¬ w (32 + 4 * p + 3) = -6 := by rw [h]; exact n6 (by omega)
      refine if_ni n0 ?_
      by_cases e : w (32 + 4 * p + 3) = nI j
      · rw [if_pos (Or.inr e)] at h6
        exact if_pi e (lt_i h6)
      · rw [if_neg (fun z => z.elim n6' e)] at h6
        exact if_ni e (lt_i h6)
theorem so_510 (S : Sim okA C 1 w P K W T N xS) (D : DI w K P) (F : Nat → Int32) : ∀ (d p n : Nat), p + d = P → d < n → fL_sound_510 n C F (nI K) (nI P) (isum (fun c => w (72 + 20 * c + 10)) K) (isum (fun c => w (72 + 20 * c + 16)) K) (nI (cnB (sb w) K)) (nI (cnB (db w) K)) (nI (hiF w K) - 1) (nI (cnB (wb w) K)) (isum (fun p => w (32 + 4 * p + 1)) p) (isum (fun p => w (32 + 4 * p + 2)) p) (nI p) = some (true, C) := by
  have lK := S.bd.lK
  have lP := S.bd.lP
  obtain ⟨d1, d2, d3, d4, d5, d6, d7⟩ := D
  have hhi := so_drawn d6 lK
  have c18 : fX6_count C 18 = some (nI (cnB (sb w) K)) := v_count S (k := 18) (by omega) (by omega) (by omega)
  have c4 : fX6_count C 4 = some (nI (cnB (wb w) K)) := v_count S (k := 4) (by omega) (by omega) (by omega)
  intro d
  induction d with
  | zero =>
    intro p n hp hn
    obtain ⟨n, rfl⟩ : ∃ q, n = q + 1 := ⟨n - 1, by omega⟩
    have e : p = P := by omega
    subst e
    rw [fL_sound_510]
    refine if_pi (Int32.le_refl _) (if_pi d7.1 (if_pi d7.2 (bn_i c18 (if_pi rfl (if_pi ?_ (bn_i c4 (if_pi rfl (bn_i (v_noCart S 0) (if_pi rfl (bn_i (v_noPitch S 0) (if_pi rfl (bn_i (v_noWhy S 0) (if_pi rfl rfl)))))))))))))
    rw [Int32.sub_add_cancel, hhi]
  | succ d ih =>
    intro p n hp hn
    obtain ⟨n, rfl⟩ : ∃ q, n = q + 1 := ⟨n - 1, by omega⟩
    have hpP : p < P := by omega
    have o3 : fX6_ofPitch C (nI p) 3 = some (w (32 + 4 * p + 3)) := v_ofPitch S hpP (t := 3) (by omega)
    have o1 : fX6_ofPitch C (nI p) 1 = some (w (32 + 4 * p + 1)) := v_ofPitch S hpP (t := 1) (by omega)
    have o2 : fX6_ofPitch C (nI p) 2 = some (w (32 + 4 * p + 2)) := v_ofPitch S hpP (t := 2) (by omega)
    have s1 : isum (fun p => w (32 + 4 * p + 1)) p + w (32 + 4 * p + 1) = isum (fun p => w (32 + 4 * p + 1)) (p + 1) := rfl
    have s2 : isum (fun p => w (32 + 4 * p + 2)) p + w (32 + 4 * p + 2) = isum (fun p => w (32 + 4 * p + 2)) (p + 1) := rfl
    have h5 := so_572 S hpP (ih (p + 1) n (by omega) (by omega)) K 0 FU (by omega) (by unfold FU; omega)
    rw [fL_sound_510]
    refine if_ni (nI_ge hpP (by omega)) (bn_i o3 (bn_i o1 ?_))
    rw [s1]
    refine lt_i (bn_i o2 ?_)
    rw [s2]
    refine lt_i ?_
    rcases d2 p hpP with h | ⟨c, hc, h, h2⟩
    · exact if_pi (by rw [h]; decide) h5
    · have oc : fX6_ofCart C (w (32 + 4 * p + 3)) 12 = some (nI p) := by
        rw [h]
        exact (v_ofCart S hc (t := 12) (by omega)).trans (congrArg some h2)
      exact if_ni (by rw [h]; exact nI_pos (by omega)) (bn_i oc (if_pi rfl h5))
theorem l_sound (S : Sim okA C 1 w P K W T N xS) (D : DI w K P) : fL_sound C = some (true, C) := by
  have lK := S.bd.lK
  have lP := S.bd.lP
  have c1 : fX6_count C 1 = some (nI K) := (v_count S (k := 1) (by omega) (by omega) (by omega)).trans (congrArg some S.wK)
  have c2 : fX6_count C 2 = some (nI P) := (v_count S (k := 2) (by omega) (by omega) (by omega)).trans (congrArg some S.wP)
  unfold fL_sound
  refine bn_i c1 (bn_i c2 (lt_i ?_))
  exact so_38 S D (fun F => so_510 S D F P 0 FU (by omega) (by unfold FU; omega)) K 0 FU (fun _ => 0) (by omega) (by unfold FU; omega) (fun x hx => rfl)
end
theorem LA.sound {T0 P K : Nat} {C : mm_M} (L : LA T0 C P K) (lP : P < 100) (lK : K < 100) : fL_sound C = some (true, C) := by
  obtain ⟨w, h, tp, sv, n, sg, A, hP, hK⟩ := L
  obtain ⟨W, T, N, xS, hT, S⟩ := A.1.sim hP hK lP lK
  exact l_sound S hT.2.2
