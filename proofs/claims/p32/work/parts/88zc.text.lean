/-! p32: texts: the law's text, from the orders drawn -/
def upN (x : Int32) (m : Nat) : Nat := (x &&& 2147483647).toNatClampNeg % m
theorem l_upN (M : mm_M) (x : Int32) {m : Nat} (h0 : 0 < m) (hm : m < 2 ^ 31) : fL_up M x (nI m) = some (nI (upN x m)) := by
  obtain ⟨a, ha, e⟩ := and_nn x
  unfold fL_up upN
  refine gd_i (nI_ne0 h0 hm) ?_
  rw [e, pk_rem ha h0 hm, nI_clamp ha]
def dZ (x1 : Int32) (k : Nat) : Int32 := (x1 >>> (3 &&& 31)) + (37 * nI k)
def dW (x2 : Int32) (k : Nat) : Int32 := (x2 >>> (nI k &&& 31)) + (11 * nI k)
def dm (x1 : Int32) (k : Nat) : Nat := if upN (dZ x1 k) 5 = 1 then 9 else 10
def drO (x1 x2 : Int32) (k i : Nat) : Nat := if i = 0 then upN (dZ x1 k) 5 else if i = 1 then upN (dZ x1 k >>> (3 &&& 31)) 9 else if i = 2 then upN (dW x2 k) (dm x1 k) else if i = 3 then upN (dW x2 k >>> (4 &&& 31)) 10 else upN (dW x2 k >>> (8 &&& 31)) 4
theorem drO_0 (x1 x2 : Int32) (k : Nat) : drO x1 x2 k 0 = upN (dZ x1 k) 5 := if_pos rfl
theorem drO_1 (x1 x2 : Int32) (k : Nat) : drO x1 x2 k 1 = upN (dZ x1 k >>> (3 &&& 31)) 9 := by
  unfold drO
  rw [if_neg (by omega), if_pos rfl]
theorem drO_2 (x1 x2 : Int32) (k : Nat) : drO x1 x2 k 2 = upN (dW x2 k) (dm x1 k) := by
  unfold drO
  rw [if_neg (by omega), if_neg (by omega), if_pos rfl]
theorem drO_3 (x1 x2 : Int32) (k : Nat) : drO x1 x2 k 3 = upN (dW x2 k >>> (4 &&& 31)) 10 := by
  unfold drO
  rw [if_neg (by omega), if_neg (by omega), if_neg (by omega), if_pos rfl]
theorem drO_4 (x1 x2 : Int32) (k : Nat) : drO x1 x2 k 4 = upN (dW x2 k >>> (8 &&& 31)) 4 := by
  unfold drO
  rw [if_neg (by omega), if_neg (by omega), if_neg (by omega), if_neg (by omega)]
theorem upN_lt (x : Int32) {m : Nat} (h : 0 < m) : upN x m < m := Nat.mod_lt _ h
theorem dm_b (x1 : Int32) (k : Nat) : 0 < dm x1 k ∧ dm x1 k ≤ 10 := by
  unfold dm
  split <;> omega
theorem drO_b (x1 x2 : Int32) : OB (drO x1 x2) := fun k => by
  rw [drO_0, drO_1, drO_2, drO_3, drO_4]
  have := dm_b x1 k
  have h2 := upN_lt (dW x2 k) this.1
  refine ⟨upN_lt _ (by omega), upN_lt _ (by omega), by omega, fun q => ?_, upN_lt _ (by omega), upN_lt _ (by omega)⟩
  have e : dm x1 k = 9 := if_pos q
  rw [e] at h2 ⊢
  exact h2
theorem oe_le (o : Nat → Nat → Nat) : ∀ d j, oe o j + d ≤ oe o (j + d)
  | 0, j => Nat.le_refl _
  | d + 1, j => by
    have h1 := oe_le o d j
    have h2 : oe o (j + (d + 1)) = ob o (j + d) + oln o (j + d) + 1 + oln o (j + d + 1) := rfl
    have h3 : oe o (j + d) = ob o (j + d) + oln o (j + d) := rfl
    omega
set_option maxHeartbeats 4000000 in
theorem x_loop {T0 h P K : Nat} {w : Nat → Int32} {tp : Nat → Nat → Int32} {sv : Nat → Option (Nat → Int32)} (hP : w 12 = nI P) (hK : w 13 = nI K) (lP : P < 100) (lK : K < 100) (hT9 : T0 + 660 < 26843) (x1 x2 : Int32) {m : Nat} (m0 : 0 < m) (m5 : m ≤ 5) : ∀ (d k f : Nat) (C : mm_M) (F : Nat → Int32) (n st : Nat) (sg : Nat → Nat), k + d = m → d < f → Ab T0 C w h tp sv n sg → Txt sg n st → (k = 0 → n = 0 ∧ st = 4) → (0 < k → n = oe (drO x1 x2) (k - 1) ∧ st ≤ 3) → Ords sg (drO x1 x2) k → (∀ i, i < k → ∀ j, j < 5 → F (8 * i + j) = nI (drO x1 x2 i j)) → ∃ C', fL_text_40 x1 x2 f C F (nI m) (nI k) = some (true, C') ∧ LA (T0 + 600) C' P K := by
  have hb := drO_b x1 x2
  intro d
  induction d with
  | zero =>
    intro k f C F n st sg hk hf A X h0 h1 hO hF
    obtain ⟨f, rfl⟩ : ∃ q, f = q + 1 := ⟨f - 1, by omega⟩
    have ek : k = m := by omega
    subst ek
    obtain ⟨en, h3⟩ := h1 m0
    obtain ⟨r, C1, E, e1, e2, hr, A1, hP1, hK1⟩ := x_carry hb A X h3 hO m0 (by omega) en.symm hP hK lP lK (by omega)
    obtain ⟨t, et, -⟩ := told_eq A1.1 A1.1 (by omega) (by omega)
    have ht : ∀ C T, SimX C 1 (E.1 732) T → T < 26843 → fL_told C = some t := fun C T SX hT => by
      obtain ⟨t', a1, a2⟩ := told_eq A1.1 SX (by omega) hT
      rw [a2]
      exact congrArg some (Option.some.inj (a1.symm.trans et))
    obtain ⟨b, H⟩ := A.2.1
    have hh := H.2.1
    obtain ⟨g, hg, hg5⟩ : ∃ g, hpp h = g + 1 ∧ g = (if h = 6 then 5 else h) := ⟨hpp h - 1, by unfold hpp; split <;> omega, by unfold hpp; split <;> omega⟩
    have A1' := A1
    rw [hg] at A1'
    obtain ⟨C2, eu, A2⟩ := ab_undo A1'
    obtain ⟨C', r1, r2⟩ := x_ones hb m5 lP lK hF ht hr x1 x2 k 0 FU FU (T0 + 60 * k) g 0 C2 (odM (drO x1 x2) w k) w _ sv sg (by omega) (by unfold FU; omega) (by unfold FU; omega) (by omega) A2 hP hK (odM_r _ _ _) (odM_o _ _ _) e2
    have s609 : ∀ t1 : Int32, t1 = nI g → fL_text_609 x1 x2 C2 F (nI k) (nI r) t (nI g) t1 = some (true, C') := fun t1 q => by
      unfold fL_text_609
      exact if_pi q.symm r1
    have s581 : ∀ t1 : Int32, t1 = nI (hpp h) → fL_text_581 x1 x2 C1 F (nI k) (nI h) (nI r) (nI (hpp h)) t1 = some (true, C') := fun t1 q => by
      unfold fL_text_581
      refine if_pi q.symm (bn_i et (bn2_i eu ?_))
      by_cases z : h = 6
      · exact if_pi (by rw [z]; decide) (s609 5 (by rw [hg5, if_pos z]; rfl))
      · exact if_ni (show ¬ nI 6 ≤ nI h from nI_ge (by omega) (by omega)) (s609 (nI h) (by rw [hg5, if_neg z]))
    refine ⟨C', ?_, r2.mono (by omega)⟩
    rw [fL_text_40]
    refine if_pi (Int32.le_refl _) (bn_i (ab_c7 A) (bn2_i e1 (if_ni (nI_pos (by omega)) (if_ni (Int32.not_lt.mpr (nI_le hr (by omega))) (bn_i (ab_c6 A1) (if_pi rfl (bn_i (ab_c7 A1) ?_)))))))
    by_cases z : h = 6
    · exact if_pi (by rw [z]; decide) (s581 6 (by unfold hpp; rw [if_pos z]; rfl))
    · refine if_ni (show ¬ nI 6 ≤ nI h from nI_ge (by omega) (by omega)) (s581 (nI h + 1) ?_)
      unfold hpp
      rw [if_neg z]
      exact nI_add h 1
  | succ d ih =>
    intro k f C F n st sg hk hf A X h0 h1 hO hF
    obtain ⟨f, rfl⟩ : ∃ q, f = q + 1 := ⟨f - 1, by omega⟩
    have hkm : k < m := by omega
    have e8 : (8 : Int32) * nI k = nI (8 * k) := pk_mul 8 k
    have j1 : nI (8 * k) + 1 = nI (8 * k + 1) := nI_add _ 1
    have j2 : nI (8 * k) + 2 = nI (8 * k + 2) := nI_add _ 2
    have j3 : nI (8 * k) + 3 = nI (8 * k + 3) := nI_add _ 3
    have j4 : nI (8 * k) + 4 = nI (8 * k + 4) := nI_add _ 4
    have gF : ∀ i, i < 5 → ¬ (nI (8 * k + i) < 0 ∨ 40 ≤ (nI (8 * k + i)).toNatClampNeg) := fun i hi => ix_nI (n := 40) (by omega) (by decide)
    have gF0 : ¬ (nI (8 * k) < 0 ∨ 40 ≤ (nI (8 * k)).toNatClampNeg) := ix_nI (n := 40) (by omega) (by decide)
    have cF : ∀ i, i < 5 → (nI (8 * k + i)).toNatClampNeg = 8 * k + i := fun i hi => nI_clamp (by omega)
    have cF0 : (nI (8 * k)).toNatClampNeg = 8 * k := nI_clamp (by omega)
    obtain ⟨F1, eF1⟩ : ∃ F1, F1 = aS F (8 * k) (nI (upN (dZ x1 k) 5)) := ⟨_, rfl⟩
    obtain ⟨F2, eF2⟩ : ∃ F2, F2 = aS F1 (8 * k + 1) (nI (upN (dZ x1 k >>> (3 &&& 31)) 9)) := ⟨_, rfl⟩
    obtain ⟨F3, eF3⟩ : ∃ F3, F3 = aS F2 (8 * k + 2) (nI (upN (dW x2 k) (dm x1 k))) := ⟨_, rfl⟩
    obtain ⟨F4, eF4⟩ : ∃ F4, F4 = aS F3 (8 * k + 3) (nI (upN (dW x2 k >>> (4 &&& 31)) 10)) := ⟨_, rfl⟩
    obtain ⟨F5, eF5⟩ : ∃ F5, F5 = aS F4 (8 * k + 4) (nI (upN (dW x2 k >>> (8 &&& 31)) 4)) := ⟨_, rfl⟩
    have v1 : ∀ s, F1 s = if s = 8 * k then nI (upN (dZ x1 k) 5) else F s := fun s => by rw [eF1]
    have v2 : ∀ s, F2 s = if s = 8 * k + 1 then nI (upN (dZ x1 k >>> (3 &&& 31)) 9) else F1 s := fun s => by rw [eF2]
    have v3 : ∀ s, F3 s = if s = 8 * k + 2 then nI (upN (dW x2 k) (dm x1 k)) else F2 s := fun s => by rw [eF3]
    have v4 : ∀ s, F4 s = if s = 8 * k + 3 then nI (upN (dW x2 k >>> (4 &&& 31)) 10) else F3 s := fun s => by rw [eF4]
    have v5 : ∀ s, F5 s = if s = 8 * k + 4 then nI (upN (dW x2 k >>> (8 &&& 31)) 4) else F4 s := fun s => by rw [eF5]
    have hk5 : ∀ j, j < 5 → F5 (8 * k + j) = nI (drO x1 x2 k j) := fun j hj => by
      match j, hj with
      | 0, _ => rw [v5, if_neg (by omega), v4, if_neg (by omega), v3, if_neg (by omega), v2, if_neg (by omega), v1, if_pos (by omega), drO_0]
      | 1, _ => rw [v5, if_neg (by omega), v4, if_neg (by omega), v3, if_neg (by omega), v2, if_pos rfl, drO_1]
      | 2, _ => rw [v5, if_neg (by omega), v4, if_neg (by omega), v3, if_pos rfl, drO_2]
      | 3, _ => rw [v5, if_neg (by omega), v4, if_pos rfl, drO_3]
      | 4, _ => rw [v5, if_pos rfl, drO_4]
      | j + 5, h => exact absurd h (by omega)
    have hF5 : ∀ i, i < k + 1 → ∀ j, j < 5 → F5 (8 * i + j) = nI (drO x1 x2 i j) := fun i hi j hj => by
      by_cases q : i = k
      · rw [q]; exact hk5 j hj
      · rw [v5, if_neg (by omega), v4, if_neg (by omega), v3, if_neg (by omega), v2, if_neg (by omega), v1, if_neg (by omega)]
        exact hF i (by omega) j hj
    have s127 : ∀ (k40 : mm_M → (Nat → Int32) → Int32 → Int32 → Option (Bool × mm_M)) (t3 : Int32), t3 = nI (dm x1 k) → ∀ r, (if nI k ≤ 0 then fL_text_176 x1 x2 k40 C F5 (nI m) (nI k) (nI (8 * k)) else bn2 (fX6_put C (59 : Int64)) fun r15 M16 => fL_text_176 x1 x2 k40 M16 F5 (nI m) (nI k) (nI (8 * k))) = r → fL_text_127 x1 x2 k40 C F2 (nI m) (nI k) (dW x2 k) (nI (8 * k)) (nI (8 * k + 2)) (dW x2 k) t3 = r := fun k40 t3 e r hr => by
      subst e
      have hd := dm_b x1 k
      unfold fL_text_127
      refine bn_i (l_upN C (dW x2 k) hd.1 (by omega)) (gd_i (gF 2 (by omega)) ?_)
      rw [cF 2 (by omega), ← eF3, j3, j4]
      refine lt_i (bn_i (l_upN C (dW x2 k >>> (4 &&& 31)) (m := 10) (by omega) (by omega)) (gd_i (gF 3 (by omega)) ?_))
      rw [cF 3 (by omega), ← eF4]
      refine lt_i (bn_i (l_upN C (dW x2 k >>> (8 &&& 31)) (m := 4) (by omega) (by omega)) (gd_i (gF 4 (by omega)) ?_))
      rw [cF 4 (by omega), ← eF5]
      exact lt_i hr
    have s40 : ∀ r, (if nI k ≤ 0 then fL_text_176 x1 x2 (fL_text_40 x1 x2 f) C F5 (nI m) (nI k) (nI (8 * k)) else bn2 (fX6_put C (59 : Int64)) fun r15 M16 => fL_text_176 x1 x2 (fL_text_40 x1 x2 f) M16 F5 (nI m) (nI k) (nI (8 * k))) = r → fL_text_40 x1 x2 (f + 1) C F (nI m) (nI k) = r := fun r hr => by
      rw [fL_text_40, e8]
      have g1 : ¬ (nI (8 * k + 1) < 0 ∨ 40 ≤ 8 * k + 1) := by have := gF 1 (by omega); rw [cF 1 (by omega)] at this; exact this
      have g0 : ¬ (nI (8 * k) < 0 ∨ 40 ≤ 8 * k) := by have := gF0; rw [cF0] at this; exact this
      refine if_ni (nI_ge hkm (by omega)) (lt_i (lt_i (lt_i ?_)))
      rw [j1, j2, cF0, cF 1 (by omega)]
      refine bn_i (l_upN C (dZ x1 k) (m := 5) (by omega) (by omega)) (gd_i g0 (lt_i (bn_i (l_upN C (dZ x1 k >>> (3 &&& 31)) (m := 9) (by omega) (by omega)) (gd_i g1 (lt_i ?_)))))
      rw [← eF1, ← eF2]
      have f2 : F2 (8 * k) = nI (upN (dZ x1 k) 5) := by rw [v2, if_neg (by omega), v1, if_pos rfl]
      have u5 := upN_lt (dZ x1 k) (m := 5) (by omega)
      by_cases q : upN (dZ x1 k) 5 = 1
      · exact if_pi (by rw [f2, q]; rfl) (s127 _ 9 (by unfold dm; rw [if_pos q]; rfl) r hr)
      · exact if_ni (by rw [f2]; exact fun z => q ((nI_eq (b := 1) (by omega) (by omega)).mp z)) (s127 _ 10 (by unfold dm; rw [if_neg q]; rfl) r hr)
    by_cases k0 : k = 0
    · subst k0
      obtain ⟨en, es⟩ := h0 rfl
      subst en
      subst es
      obtain ⟨C', sg', st', e, A', X', h3, ok, old⟩ := x_write hb A X (k := 0) (by omega) rfl hk5 x1 x2 (fL_text_40 x1 x2 f) (nI m)
      obtain ⟨C2, r1, r2⟩ := ih 1 f C' F5 _ st' sg' (by omega) (by omega) A' X' (fun z => absurd z (by omega)) (fun _ => ⟨rfl, h3⟩) (fun j hj => by
        have ej : j = 0 := by omega
        subst ej
        exact ⟨ok, fun z => absurd z (by omega)⟩) hF5
      exact ⟨C2, s40 _ (if_pi (by decide) (e.trans r1)), r2⟩
    · obtain ⟨q, rfl⟩ : ∃ q, k = q + 1 := ⟨k - 1, by omega⟩
      obtain ⟨en, h3⟩ := h1 (by omega)
      have en : n = oe (drO x1 x2) q := en
      have eb : ob (drO x1 x2) (q + 1) = n + 1 := by rw [en]; rfl
      have hbk := ob_b hb (q + 1)
      obtain ⟨C1, e1, A1, X1⟩ := x_put A X (x := 59) (c := 59) rfl (by omega) (by omega) (by omega) (aB_59 h3) (by omega)
      obtain ⟨C', sg', st', e, A', X', h3', ok, old⟩ := x_write hb A1 X1 (k := q + 1) (by omega) eb.symm hk5 x1 x2 (fL_text_40 x1 x2 f) (nI m)
      obtain ⟨C2, r1, r2⟩ := ih (q + 1 + 1) f C' F5 _ st' sg' (by omega) (by omega) A' X' (fun z => absurd z (by omega)) (fun _ => ⟨rfl, h3'⟩) (fun j hj => by
        by_cases z : j = q + 1
        · subst z
          exact ⟨ok, fun z => absurd z (by omega)⟩
        · obtain ⟨o1, o2⟩ := hO j (by omega)
          have lej := oe_le (drO x1 x2) (q - j) j
          rw [show j + (q - j) = q by omega] at lej
          refine ⟨o1.congr (fun i _ hi2 => by rw [old i (by omega), ext_ne (by omega)]), fun _ => ?_⟩
          by_cases y : j = q
          · rw [y, ← en, old n (by omega), ext_eq]
          · rw [old _ (by omega), ext_ne (by omega)]
            exact o2 (by omega)) hF5
      exact ⟨C2, s40 _ (if_ni (nI_nle (by omega) (by omega)) (bn2_i e1 (e.trans r1))), r2⟩
theorem l_text {T0 P K : Nat} {C : mm_M} (L : LA T0 C P K) (lP : P < 100) (lK : K < 100) (hT9 : T0 + 660 < 26843) (x1 x2 : Int32) : ∃ C', fL_text C x1 x2 = some (true, C') ∧ LA (T0 + 600) C' P K := by
  obtain ⟨w, h, tp, sv, n, sg, A, hP, hK⟩ := L
  obtain ⟨C1, e1, A1⟩ := ab_wipe A
  have X : Txt sg 0 4 := ⟨rfl, fun i hi => absurd hi (by omega)⟩
  have hf : fX3_findFault C1 729 = some (nI 0) := by
    rw [q_findF A1.2.2.2, X.af, if_pos (by omega)]
  have u5 := upN_lt x1 (m := 5) (by omega)
  have em : (1 : Int32) + nI (upN x1 5) = nI (1 + upN x1 5) := nI_add 1 _
  obtain ⟨C', r1, r2⟩ := x_loop hP hK lP lK hT9 x1 x2 (m := 1 + upN x1 5) (by omega) (by omega) (1 + upN x1 5) 0 FU C1 (fun _ => 0) 0 4 sg (by omega) (by unfold FU; omega) A1 X (fun _ => ⟨rfl, rfl⟩) (fun z => absurd z (by omega)) (fun j hj => absurd hj (by omega)) (fun i hi => absurd hi (by omega))
  refine ⟨C', ?_, r2⟩
  unfold fL_text
  refine bn_i (l_upN C x1 (m := 5) (by omega) (by omega)) ?_
  rw [em]
  refine lt_i (lt_i (bn2_i e1 (bn_i (x_mid A1 X (by omega)) (if_pi rfl (bn2_i (a := -3) (b := C1) ?_ (if_pi rfl r1))))))
  unfold fX6_carryOut
  exact bn_i hf (if_ni (by decide) rfl)
