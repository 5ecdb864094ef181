/-! p32: what is foretold, by the row -/
theorem t_trial {C : mm_M} {w : Nat → Int32} {P K W T : Nat} {N : Nat → Nat} {xS : Nat → Nat → Nat} (S : Sim okA C 67 w P K W T N xS) (hT : T + 1 < 2 ^ 30) {j : Nat} (hj : j < K) : ∃ C' xS', fX6_pitchOnTrialDay C (nI j) = some (dayR w (72 + 20 * j + 11), C') ∧ nn (dayR w (72 + 20 * j + 11)) P ∧ Sim okA C' 67 (dayR w) P K 0 (T + 1) N xS' ∧ FrC C C' 67 := by
  have lK := S.bd.lK
  obtain ⟨C', xS', e1, -, S', f1, -, -⟩ := d_day kT67 S hT
  refine ⟨C', xS', ?_, (S'.val _).at_ j hj rfl, S', f1⟩
  unfold fX6_pitchOnTrialDay
  obtain ⟨n, hn⟩ : ∃ n, FU = n + 1 + 1 := ⟨999998, rfl⟩
  refine bn2_i (a := C'.1 67 0) (b := C') ?_ (bn_i (z_hasC S' hj) (if_pi rfl (gd_i (ix_nI (n := 16) (by omega) (by decide)) ?_)))
  · refine if_ni (by decide) (if_pi (by decide) ?_)
    rw [hn, passD]
    refine if_ni (by decide) (bn_i e1 (lt_i ?_))
    rw [passD]
    exact if_pi (by decide) rfl
  · rw [nI_clamp (by omega), show C'.1 (67 + 18 + 3 * j) 8 = dayR w (72 + 20 * j + 11) from S_cart S' hj (k := 8) (by omega)]
theorem t_would {C : mm_M} {w : Nat → Int32} {P K W T : Nat} {N : Nat → Nat} {xS : Nat → Nat → Nat} (S : Sim okA C 1 w P K W T N xS) (hT : T + 1 < 2 ^ 30) {j : Nat} (hj : j < K) : ∃ C', fX6_wouldHave C (nI j) = some (dayR w (72 + 20 * j + 11), C') ∧ nn (dayR w (72 + 20 * j + 11)) P ∧ FrC C C' 67 := by
  obtain ⟨C1, e1, S1, f1⟩ := cp_all (a0 := 67) S (by omega)
  obtain ⟨C2, xS2, u1, u2, -, f2⟩ := t_trial S1 hT hj
  exact ⟨C2, bn_i (z_hasC S hj) (if_pi rfl (bn_i e1 (bn2_i u1 rfl))), u2, f1.tr f2⟩
theorem nw1 {p : Nat} (hp : p < 2 ^ 31) : nw (nI p) (-6) (-6) = 1 := by
  unfold nw
  rw [if_neg (n6 hp), if_pos rfl]
theorem t_wished {C : mm_M} {w : Nat → Int32} {P K W T T0 : Nat} {N : Nat → Nat} {xS : Nat → Nat → Nat} (hT' : TX T xS T0 w K P) (S : Sim okA C 1 w P K W T N xS) (hT : T + 1 < 2 ^ 30) {j p : Nat} (hj : j < K) (hp : p < P) : ∃ C', fX6_ifWished C (nI j) (nI p) = some (dayR (wsR w j (nI p) (-6) (-6)) (72 + 20 * j + 11), C') ∧ FrC C C' 67 := by
  have lP := S.bd.lP
  obtain ⟨C1, e1, S1, f1⟩ := cp_all (a0 := 67) S (by omega)
  obtain ⟨C2, N2, q1, q2, q3, S2⟩ := s_wish hT' S1 hj (y := nI p) (z := -6) (u := -6) (Or.inr ⟨p, hp, rfl⟩) (Or.inl rfl) (Or.inl rfl) (by rw [nw1 (by omega)]; omega)
  obtain ⟨C3, xS3, u1, u2, -, f3⟩ := t_trial S2 hT hj
  have hP := z_hasP S (x := nI p) (Or.inr ⟨p, hp, rfl⟩)
  rw [decide_eq_true (n6 (by omega))] at hP
  exact ⟨C3, bn_i (z_hasC S hj) (if_pi rfl (bn_i hP (if_pi rfl (bn_i e1 (bn2_i q1 (bn2_i u1 rfl)))))), (f1.tr q2).tr f3⟩
/-- the first day with a pitch, of d days from i on -/
def fdF (j : Nat) : Nat → Nat → (Nat → Int32) → Int32
  | 0, _, _ => -6
  | d + 1, i, w => if dayR w (72 + 20 * j + 11) = -6 then fdF j d (i + 1) (dayR w) else nI i
theorem t_firstl {P K j : Nat} {N : Nat → Nat} (hj : j < K) : ∀ (d i n W T : Nat) (w : Nat → Int32) (C : mm_M) (xS : Nat → Nat → Nat), i + d = 60 → d < n → T + d < 2 ^ 30 → Sim okA C 67 w P K W T N xS → ∃ C', fX6_firstDay_26 (nI j) n C (nI i) = some (fdF j d i w, C') ∧ FrC C C' 67 := by
  intro d
  induction d with
  | zero =>
    intro i n W T w C xS hi hn hT S
    obtain ⟨n, rfl⟩ : ∃ q, n = q + 1 := ⟨n - 1, by omega⟩
    have e : i = 60 := by omega
    subst e
    refine ⟨C, ?_, FrC.rf _ _⟩
    rw [fX6_firstDay_26]; exact if_pi (by decide) rfl
  | succ d ih =>
    intro i n W T w C xS hi hn hT S
    obtain ⟨n, rfl⟩ : ∃ q, n = q + 1 := ⟨n - 1, by omega⟩
    obtain ⟨C1, xS1, u1, u2, S1, f1⟩ := t_trial S (by omega) hj
    have n60 : ¬ (60 : Int32) ≤ nI i := show ¬ nI 60 ≤ nI i from nI_ge (by omega) (by decide)
    have ef : fdF j (d + 1) i w = if dayR w (72 + 20 * j + 11) = -6 then fdF j d (i + 1) (dayR w) else nI i := rfl
    rw [ef]
    by_cases c : dayR w (72 + 20 * j + 11) = -6
    · obtain ⟨C', q1, q3⟩ := ih (i + 1) n 0 (T + 1) (dayR w) C1 xS1 (by omega) (by omega) (by omega) S1
      refine ⟨C', ?_, f1.tr q3⟩
      rw [fX6_firstDay_26, if_pos c]
      refine if_ni n60 (bn2_i u1 (if_pi c (lt_i ?_)))
      rw [nI_1]; exact q1
    · refine ⟨C1, ?_, f1⟩
      rw [fX6_firstDay_26, if_neg c]
      exact if_ni n60 (bn2_i u1 (if_ni c rfl))
theorem t_first {C : mm_M} {w : Nat → Int32} {P K W T : Nat} {N : Nat → Nat} {xS : Nat → Nat → Nat} (S : Sim okA C 1 w P K W T N xS) (hT : T + 60 < 2 ^ 30) {j : Nat} (hj : j < K) : ∃ C', fX6_firstDay C (nI j) = some (fdF j 60 0 w, C') ∧ FrC C C' 67 := by
  obtain ⟨C1, e1, S1, f1⟩ := cp_all (a0 := 67) S (by omega)
  obtain ⟨C2, u1, f2⟩ := t_firstl hj 60 0 FU W T w C1 xS (by omega) (by unfold FU; omega) (by omega) S1
  exact ⟨C2, bn_i (z_hasC S hj) (if_pi rfl (bn_i e1 u1)), f1.tr f2⟩
/-- how many of the next d days -/
def dcF (j : Nat) : Nat → (Nat → Int32) → Nat
  | 0, _ => 0
  | d + 1, w => (if dayR w (72 + 20 * j + 11) = -6 then 0 else 1) + dcF j d (dayR w)
theorem t_daysOfl {P K j x : Nat} {N : Nat → Nat} (hj : j < K) (hx : x ≤ 60) : ∀ (d i n W T h : Nat) (w : Nat → Int32) (C : mm_M) (xS : Nat → Nat → Nat), i + d = x → d < n → T + d < 2 ^ 30 → Sim okA C 67 w P K W T N xS → ∃ C', fX6_daysOf_43 (nI j) (nI x) n C (nI h) (nI i) = some (nI (h + dcF j d w), C') ∧ FrC C C' 67 := by
  intro d
  induction d with
  | zero =>
    intro i n W T h w C xS hi hn hT S
    obtain ⟨n, rfl⟩ : ∃ q, n = q + 1 := ⟨n - 1, by omega⟩
    refine ⟨C, ?_, FrC.rf _ _⟩
    rw [fX6_daysOf_43]; exact if_pi (nI_le (by omega) (by omega)) rfl
  | succ d ih =>
    intro i n W T h w C xS hi hn hT S
    obtain ⟨n, rfl⟩ : ∃ q, n = q + 1 := ⟨n - 1, by omega⟩
    obtain ⟨C1, xS1, u1, u2, S1, f1⟩ := t_trial S (by omega) hj
    have ef : dcF j (d + 1) w = (if dayR w (72 + 20 * j + 11) = -6 then 0 else 1) + dcF j d (dayR w) := rfl
    rw [ef]
    by_cases c : dayR w (72 + 20 * j + 11) = -6
    · obtain ⟨C', q1, q3⟩ := ih (i + 1) n 0 (T + 1) h (dayR w) C1 xS1 (by omega) (by omega) (by omega) S1
      refine ⟨C', ?_, f1.tr q3⟩
      rw [fX6_daysOf_43, if_pos c, Nat.zero_add]
      refine if_ni (nI_ge (by omega) (by omega)) (bn2_i u1 (if_pi c (lt_i ?_)))
      rw [nI_1]; exact q1
    · obtain ⟨C', q1, q3⟩ := ih (i + 1) n 0 (T + 1) (h + 1) (dayR w) C1 xS1 (by omega) (by omega) (by omega) S1
      refine ⟨C', ?_, f1.tr q3⟩
      rw [fX6_daysOf_43, if_neg c, ← Nat.add_assoc]
      refine if_ni (nI_ge (by omega) (by omega)) (bn2_i u1 (if_ni c (lt_i (lt_i ?_))))
      rw [nI_1, nI_1]; exact q1
theorem t_daysOf {C : mm_M} {w : Nat → Int32} {P K W T : Nat} {N : Nat → Nat} {xS : Nat → Nat → Nat} (S : Sim okA C 1 w P K W T N xS) (hT : T + 60 < 2 ^ 30) {j x : Nat} (hj : j < K) (x1 : 1 ≤ x) (hx : x ≤ 60) : ∃ C', fX6_daysOf C (nI j) (nI x) = some (nI (dcF j x w), C') ∧ FrC C C' 67 := by
  obtain ⟨C1, e1, S1, f1⟩ := cp_all (a0 := 67) S (by omega)
  obtain ⟨C2, u1, f2⟩ := t_daysOfl hj hx x 0 FU W T 0 w C1 xS (by omega) (by unfold FU; omega) (by omega) S1
  rw [Nat.zero_add] at u1
  exact ⟨C2, bn_i (z_hasC S hj) (if_pi rfl (if_ni (show ¬ nI x < nI 1 from nI_nlt x1 (by omega)) (if_pi (show nI x ≤ nI 60 from nI_le hx (by omega)) (bn_i e1 u1)))), f1.tr f2⟩
theorem t_daysOfE {C : mm_M} {w : Nat → Int32} {P K W T : Nat} {N : Nat → Nat} {xS : Nat → Nat → Nat} (S : Sim okA C 1 w P K W T N xS) {j : Nat} (hj : j < K) : fX6_daysOf C (nI j) 61 = some (-2, C) := bn_i (z_hasC S hj) (if_pi rfl (if_ni (by decide) (if_ni (by decide) rfl)))
/-- the seed s is lucky -/
abbrev lkP (w : Nat → Int32) (j : Nat) (y : Int32) (s : Nat) : Prop := ¬ dayR (up w 11 (nI s)) (72 + 20 * j + 11) = -6 ∧ (y = -6 ∨ dayR (up w 11 (nI s)) (72 + 20 * j + 11) = y)
def lsF (w : Nat → Int32) (j : Nat) (y : Int32) : Nat → Nat → Int32
  | 0, _ => -6
  | d + 1, i => if lkP w j y i then nI i else lsF w j y d (i + 1)
theorem lsF_of (w : Nat → Int32) (j : Nat) (y : Int32) : ∀ d i, (lsF w j y d i = -6 ∧ ∀ s, i ≤ s → s < i + d → ¬ lkP w j y s) ∨ ∃ s, i ≤ s ∧ s < i + d ∧ lsF w j y d i = nI s ∧ lkP w j y s ∧ ∀ s', i ≤ s' → s' < s → ¬ lkP w j y s'
  | 0, i => Or.inl ⟨rfl, fun s h1 h2 => absurd h2 (by omega)⟩
  | d + 1, i => by
    have ef : lsF w j y (d + 1) i = if lkP w j y i then nI i else lsF w j y d (i + 1) := rfl
    rw [ef]
    by_cases c : lkP w j y i
    · rw [if_pos c]
      exact Or.inr ⟨i, Nat.le_refl _, by omega, rfl, c, fun s' h1 h2 => absurd h2 (by omega)⟩
    · rw [if_neg c]
      rcases lsF_of w j y d (i + 1) with ⟨h1, h2⟩ | ⟨s, h1, h2, h3, h4, h5⟩
      · refine Or.inl ⟨h1, fun s a b => ?_⟩
        by_cases e : s = i
        · rw [e]; exact c
        · exact h2 s (by omega) (by omega)
      · refine Or.inr ⟨s, by omega, by omega, h3, h4, fun s' a b => ?_⟩
        by_cases e : s' = i
        · rw [e]; exact c
        · exact h5 s' (by omega) b
theorem t_luckl {P K W T T0 j : Nat} {N : Nat → Nat} {xS : Nat → Nat → Nat} {w : Nat → Int32} {y : Int32} (hj : j < K) (hT : T + 1 < 2 ^ 30) (hT' : TX T xS T0 w K P) : ∀ (d i n : Nat) (C : mm_M), i + d = 200 → d < n → Sim okA C 1 w P K W T N xS → ∃ C', fX6_luckySeed_32 (nI j) y n C (nI i) = some (lsF w j y d i, C') ∧ FrC C C' 67 := by
  intro d
  induction d with
  | zero =>
    intro i n C hi hn S
    obtain ⟨n, rfl⟩ : ∃ q, n = q + 1 := ⟨n - 1, by omega⟩
    have e : i = 200 := by omega
    subst e
    refine ⟨C, ?_, FrC.rf _ _⟩
    rw [fX6_luckySeed_32]; exact if_pi (by decide) rfl
  | succ d ih =>
    intro i n C hi hn S
    obtain ⟨n, rfl⟩ : ∃ q, n = q + 1 := ⟨n - 1, by omega⟩
    have n200 : ¬ (200 : Int32) ≤ nI i := show ¬ nI 200 ≤ nI i from nI_ge (by omega) (by decide)
    obtain ⟨C1, e1, S1, f1⟩ := cp_all (a0 := 67) S (by omega)
    obtain ⟨C2, e2, f2, -, S2⟩ := s_seed hT' S1 (v := i) (by omega)
    obtain ⟨C3, xS3, u1, u2, -, f3⟩ := t_trial S2 hT hj
    have fC : FrC C C3 67 := (f1.tr f2).tr f3
    have ef : lsF w j y (d + 1) i = if lkP w j y i then nI i else lsF w j y d (i + 1) := rfl
    rw [ef]
    obtain ⟨C', q1, q2⟩ := ih (i + 1) n C3 (by omega) (by omega) (S.frame (fun o ho => fC o (by omega)))
    have cl : ∀ r, (if dayR (up w 11 (nI i)) (72 + 20 * j + 11) = -6 then fX6_luckySeed_32 (nI j) y n C3 (nI (i + 1)) else if y = -6 then some (nI i, C3) else if dayR (up w 11 (nI i)) (72 + 20 * j + 11) = y then some (nI i, C3) else fX6_luckySeed_32 (nI j) y n C3 (nI (i + 1))) = r → fX6_luckySeed_32 (nI j) y (n + 1) C (nI i) = r := fun r hr => by
      rw [fX6_luckySeed_32]
      refine if_ni n200 (bn_i e1 (bn2_i e2 (bn2_i u1 ?_)))
      rw [nI_1]
      exact hr
    by_cases c0 : dayR (up w 11 (nI i)) (72 + 20 * j + 11) = -6
    · refine ⟨C', cl _ ?_, fC.tr q2⟩
      rw [if_pos c0, if_neg (show ¬ lkP w j y i from fun q => q.1 c0)]
      exact q1
    · by_cases c1 : y = -6
      · refine ⟨C3, cl _ ?_, fC⟩
        rw [if_neg c0, if_pos c1, if_pos (show lkP w j y i from ⟨c0, Or.inl c1⟩)]
      · by_cases c2 : dayR (up w 11 (nI i)) (72 + 20 * j + 11) = y
        · refine ⟨C3, cl _ ?_, fC⟩
          rw [if_neg c0, if_neg c1, if_pos c2, if_pos (show lkP w j y i from ⟨c0, Or.inr c2⟩)]
        · refine ⟨C', cl _ ?_, fC.tr q2⟩
          rw [if_neg c0, if_neg c1, if_neg c2, if_neg (show ¬ lkP w j y i from fun q => q.2.elim c1 c2)]
          exact q1
theorem t_lucky {C : mm_M} {w : Nat → Int32} {P K W T T0 : Nat} {N : Nat → Nat} {xS : Nat → Nat → Nat} (hT' : TX T xS T0 w K P) (S : Sim okA C 1 w P K W T N xS) (hT : T + 1 < 2 ^ 30) {j : Nat} (hj : j < K) {y : Int32} (hy : nn y P) : ∃ C', fX6_luckySeed C (nI j) y = some (lsF w j y 200 0, C') ∧ FrC C C' 67 := by
  obtain ⟨C', q1, q2⟩ := t_luckl (y := y) hj hT hT' 200 0 FU C (by omega) (by unfold FU; omega) S
  refine ⟨C', ?_, q2⟩
  unfold fX6_luckySeed
  refine bn_i (z_hasC S hj) (if_pi rfl ?_)
  have hP := z_hasP S hy
  by_cases c : y = -6
  · exact if_pi c q1
  · rw [decide_eq_true c] at hP
    exact if_ni c (bn_i hP (if_pi rfl q1))
/-! what is told of two States with the same row -/
theorem nI32 {x y : Nat} (hx : x < 2 ^ 32) (hy : y < 2 ^ 32) (h : nI x = nI y) : x = y := by
  have h1 := congrArg (fun v : Int32 => v.toBitVec.toNat) h
  have e : ∀ z, z < 2 ^ 32 → (nI z).toBitVec.toNat = z := fun z hz => by
    show (Int32.ofNat z).toBitVec.toNat = z
    rw [Int32.toBitVec_ofNat', BitVec.toNat_ofNat, Nat.mod_eq_of_lt hz]
  have h2 : (nI x).toBitVec.toNat = (nI y).toBitVec.toNat := h1
  rw [e x hx, e y hy] at h2
  exact h2
/-- views alike -/
abbrev VE (C C' : mm_M) (P K T : Nat) : Prop := (∀ k, k < 20 → k ≠ 6 → k ≠ 7 → ∃ r, fX6_count C (nI k) = some r ∧ fX6_count C' (nI k) = some r ∧ (k = 0 → r = nI T) ∧ (k = 1 → r = nI K) ∧ (k = 2 → r = nI P)) ∧ (∀ j t, j < K → t < 16 → ∃ r, fX6_ofCart C (nI j) (nI t) = some r ∧ fX6_ofCart C' (nI j) (nI t) = some r) ∧ (∀ j t, j < K → t < 5 → ∃ r, fX6_money C (nI j) (nI t) = some r ∧ fX6_money C' (nI j) (nI t) = some r) ∧ (∀ j d, j < K → T ≤ d → d ≤ T + 400 → ∃ r, fX6_pointsOn C (nI j) (nI d) = some r ∧ fX6_pointsOn C' (nI j) (nI d) = some r) ∧ (∀ p t, p < P → t < 4 → ∃ r, fX6_ofPitch C (nI p) (nI t) = some r ∧ fX6_ofPitch C' (nI p) (nI t) = some r) ∧ P ≤ 10 ∧ K ≤ 16 ∧ T < 2 ^ 30
theorem VE.mk {C C' : mm_M} {w : Nat → Int32} {P K W T T0 P' K' W' T' T1 : Nat} {N N' : Nat → Nat} {xS xS' : Nat → Nat → Nat} (hT : TX T xS T0 w K P) (S : Sim okA C 1 w P K W T N xS) (hT' : TX T' xS' T1 w K' P') (S' : Sim okA C' 1 w P' K' W' T' N' xS') (h0 : T0 < 26843) (h1 : T1 < 26843) : VE C C' P K T := by
  have eP : P' = P := (nI_eq (by have := S'.bd.lP; omega) (by have := S.bd.lP; omega)).mp (S'.wP.symm.trans S.wP)
  have eK : K' = K := (nI_eq (by have := S'.bd.lK; omega) (by have := S.bd.lK; omega)).mp (S'.wK.symm.trans S.wK)
  have eT : T' = T := (nI_eq (by have := S'.bd.lT; omega) (by have := S.bd.lT; omega)).mp (S'.wT.symm.trans S.wT)
  subst eP
  subst eK
  subst eT
  have ex : ∀ j k, j < K' → k < 4 → xS j k = xS' j k := fun j k hj hk => nI32 (by have := hT.2.1 j k; omega) (by have := hT'.2.1 j k; omega) ((S.sumE j hj k hk).2.symm.trans (S'.sumE j hj k hk).2)
  refine ⟨fun k hk h6 h7 => ⟨ctF w K' k, v_count S hk h6 h7, v_count S' hk h6 h7, fun e => by rw [e]; exact S.wT, fun e => by rw [e]; exact S.wK, fun e => by rw [e]; exact S.wP⟩, fun j t hj ht => ⟨ocF w j t, v_ofCart S hj ht, v_ofCart S' hj ht⟩, fun j t hj ht => ⟨moF xS j t, v_money S hj ht, ?_⟩, fun j d hj h1 h2 => ⟨nI (ptF w j d), v_pointsOn S hj h1 h2, v_pointsOn S' hj h1 h2⟩, fun p t hp ht => ⟨w (32 + 4 * p + t), v_ofPitch S hp ht, v_ofPitch S' hp ht⟩, S.bd.lP, S.bd.lK, S.bd.lT⟩
  rw [v_money S' hj ht]
  unfold moF
  rw [ex j 0 hj (by omega), ex j 1 hj (by omega), ex j 2 hj (by omega), ex j 3 hj (by omega), ex j (t - 1) hj (by omega)]
theorem to_171 {C C' : mm_M} {P K T p : Nat} (V : VE C C' P K T) (hp : p < P) {k k' : Int32 → Int32 → Option Int32} (hk : ∀ v, ∃ t, k v (nI (p + 1)) = some t ∧ k' v (nI (p + 1)) = some t) : ∀ (d i n : Nat) (v : Int32), i + d = 4 → d < n → ∃ t, fL_told_171 C k n v (nI p) (nI i) = some t ∧ fL_told_171 C' k' n v (nI p) (nI i) = some t := by
  intro d
  induction d with
  | zero =>
    intro i n v hi hn
    obtain ⟨n, rfl⟩ : ∃ q, n = q + 1 := ⟨n - 1, by omega⟩
    have e : i = 4 := by omega
    subst e
    obtain ⟨t, h1, h2⟩ := hk v
    refine ⟨t, ?_, ?_⟩
    · rw [fL_told_171]; refine if_pi (by decide) (lt_i ?_); rw [nI_1]; exact h1
    · rw [fL_told_171]; refine if_pi (by decide) (lt_i ?_); rw [nI_1]; exact h2
  | succ d ih =>
    intro i n v hi hn
    obtain ⟨n, rfl⟩ : ∃ q, n = q + 1 := ⟨n - 1, by omega⟩
    have hc : ¬ (4 : Int32) ≤ nI i := show ¬ nI 4 ≤ nI i from nI_ge (by omega) (by decide)
    obtain ⟨r, e1, e2⟩ := V.2.2.2.2.1 p i hp (by omega)
    obtain ⟨t, h1, h2⟩ := ih (i + 1) n ((31 * v) + r) (by omega) (by omega)
    refine ⟨t, ?_, ?_⟩
    · rw [fL_told_171]; refine if_ni hc (bn_i e1 (lt_i (lt_i ?_))); rw [nI_1]; exact h1
    · rw [fL_told_171]; refine if_ni hc (bn_i e2 (lt_i (lt_i ?_))); rw [nI_1]; exact h2
theorem to_160 {C C' : mm_M} {P K T : Nat} (V : VE C C' P K T) : ∀ (d i n : Nat) (v : Int32), i + d = P → d < n → ∃ t, fL_told_160 C n v (nI i) = some t ∧ fL_told_160 C' n v (nI i) = some t := by
  obtain ⟨r, c1, c2, -, -, c3⟩ := V.1 2 (by omega) (by omega) (by omega)
  have er := c3 rfl
  subst er
  have lP := V.2.2.2.2.2.1
  intro d
  induction d with
  | zero =>
    intro i n v hi hn
    obtain ⟨n, rfl⟩ : ∃ q, n = q + 1 := ⟨n - 1, by omega⟩
    have e : i = P := by omega
    subst e
    refine ⟨v, ?_, ?_⟩
    · rw [fL_told_160]; exact bn_i c1 (if_pi (Int32.le_refl _) rfl)
    · rw [fL_told_160]; exact bn_i c2 (if_pi (Int32.le_refl _) rfl)
  | succ d ih =>
    intro i n v hi hn
    obtain ⟨n, rfl⟩ : ∃ q, n = q + 1 := ⟨n - 1, by omega⟩
    obtain ⟨t, h1, h2⟩ := to_171 V (p := i) (by omega) (k := fL_told_160 C n) (k' := fL_told_160 C' n) (fun v => ih (i + 1) n v (by omega) (by omega)) 4 0 FU v (by omega) (by unfold FU; omega)
    refine ⟨t, ?_, ?_⟩
    · rw [fL_told_160]; exact bn_i c1 (if_ni (nI_ge (by omega) (by omega)) h1)
    · rw [fL_told_160]; exact bn_i c2 (if_ni (nI_ge (by omega) (by omega)) h2)
theorem to_122 {C C' : mm_M} {P K T j : Nat} (V : VE C C' P K T) (hj : j < K) {k k' : Int32 → Int32 → Option Int32} (hk : ∀ v, ∃ t, k v (nI (j + 1)) = some t ∧ k' v (nI (j + 1)) = some t) : ∀ (d i n : Nat) (v : Int32), i + d = 6 → d < n → ∃ t, fL_told_122 C k n v (nI j) (nI (2 * i + 1)) = some t ∧ fL_told_122 C' k' n v (nI j) (nI (2 * i + 1)) = some t := by
  obtain ⟨r0, c1, c2, c3, -, -⟩ := V.1 0 (by omega) (by omega) (by omega)
  have er := c3 rfl
  subst er
  intro d
  induction d with
  | zero =>
    intro i n v hi hn
    obtain ⟨n, rfl⟩ : ∃ q, n = q + 1 := ⟨n - 1, by omega⟩
    have e : i = 6 := by omega
    subst e
    obtain ⟨t, h1, h2⟩ := hk v
    refine ⟨t, ?_, ?_⟩
    · rw [fL_told_122]; refine if_pi (by decide) (lt_i ?_); rw [nI_1]; exact h1
    · rw [fL_told_122]; refine if_pi (by decide) (lt_i ?_); rw [nI_1]; exact h2
  | succ d ih =>
    intro i n v hi hn
    obtain ⟨n, rfl⟩ : ∃ q, n = q + 1 := ⟨n - 1, by omega⟩
    have hc : ¬ (12 : Int32) ≤ nI (2 * i + 1) := show ¬ nI 12 ≤ nI (2 * i + 1) from nI_ge (by omega) (by decide)
    obtain ⟨r, e1, e2⟩ := V.2.2.2.1 j (T + (2 * i + 1)) hj (by omega) (by omega)
    obtain ⟨t, h1, h2⟩ := ih (i + 1) n ((31 * v) + r) (by omega) (by omega)
    have ei : nI (2 * i + 1) + 2 = nI (2 * (i + 1) + 1) := by
      have := nI_add (2 * i + 1) 2
      rw [show 2 * i + 1 + 2 = 2 * (i + 1) + 1 by omega] at this
      exact this
    refine ⟨t, ?_, ?_⟩
    · rw [fL_told_122, ei]; refine if_ni hc (bn_i c1 ?_); rw [nI_add]; exact bn_i e1 (lt_i (lt_i h1))
    · rw [fL_told_122, ei]; refine if_ni hc (bn_i c2 ?_); rw [nI_add]; exact bn_i e2 (lt_i (lt_i h2))
theorem to_92 {C C' : mm_M} {P K T j : Nat} (V : VE C C' P K T) (hj : j < K) {k k' : Int32 → Int32 → Option Int32} (hk : ∀ v, ∃ t, k v (nI (j + 1)) = some t ∧ k' v (nI (j + 1)) = some t) : ∀ (d i n : Nat) (v : Int32), i + d = 5 → d < n → ∃ t, fL_told_92 C k n v (nI j) (nI i) = some t ∧ fL_told_92 C' k' n v (nI j) (nI i) = some t := by
  intro d
  induction d with
  | zero =>
    intro i n v hi hn
    obtain ⟨n, rfl⟩ : ∃ q, n = q + 1 := ⟨n - 1, by omega⟩
    have e : i = 5 := by omega
    subst e
    obtain ⟨t, h1, h2⟩ := to_122 V hj hk 6 0 FU v (by omega) (by unfold FU; omega)
    refine ⟨t, ?_, ?_⟩
    · rw [fL_told_92]; exact if_pi (by decide) h1
    · rw [fL_told_92]; exact if_pi (by decide) h2
  | succ d ih =>
    intro i n v hi hn
    obtain ⟨n, rfl⟩ : ∃ q, n = q + 1 := ⟨n - 1, by omega⟩
    have hc : ¬ (5 : Int32) ≤ nI i := show ¬ nI 5 ≤ nI i from nI_ge (by omega) (by decide)
    obtain ⟨r, e1, e2⟩ := V.2.2.1 j i hj (by omega)
    obtain ⟨t, h1, h2⟩ := ih (i + 1) n ((31 * v) + ((r - r / (1000003 : Int64) * (1000003 : Int64)).toInt32)) (by omega) (by omega)
    refine ⟨t, ?_, ?_⟩
    · rw [fL_told_92]; refine if_ni hc (bn_i e1 (lt_i (lt_i ?_))); rw [nI_1]; exact h1
    · rw [fL_told_92]; refine if_ni hc (bn_i e2 (lt_i (lt_i ?_))); rw [nI_1]; exact h2
theorem to_66 {C C' : mm_M} {P K T j : Nat} (V : VE C C' P K T) (hj : j < K) {k k' : Int32 → Int32 → Option Int32} (hk : ∀ v, ∃ t, k v (nI (j + 1)) = some t ∧ k' v (nI (j + 1)) = some t) : ∀ (d i n : Nat) (v : Int32), i + d = 16 → d < n → ∃ t, fL_told_66 C k n v (nI j) (nI i) = some t ∧ fL_told_66 C' k' n v (nI j) (nI i) = some t := by
  intro d
  induction d with
  | zero =>
    intro i n v hi hn
    obtain ⟨n, rfl⟩ : ∃ q, n = q + 1 := ⟨n - 1, by omega⟩
    have e : i = 16 := by omega
    subst e
    obtain ⟨t, h1, h2⟩ := to_92 V hj hk 5 0 FU v (by omega) (by unfold FU; omega)
    refine ⟨t, ?_, ?_⟩
    · rw [fL_told_66]; exact if_pi (by decide) h1
    · rw [fL_told_66]; exact if_pi (by decide) h2
  | succ d ih =>
    intro i n v hi hn
    obtain ⟨n, rfl⟩ : ∃ q, n = q + 1 := ⟨n - 1, by omega⟩
    have hc : ¬ (16 : Int32) ≤ nI i := show ¬ nI 16 ≤ nI i from nI_ge (by omega) (by decide)
    obtain ⟨r, e1, e2⟩ := V.2.1 j i hj (by omega)
    obtain ⟨t, h1, h2⟩ := ih (i + 1) n ((31 * v) + r) (by omega) (by omega)
    refine ⟨t, ?_, ?_⟩
    · rw [fL_told_66]; refine if_ni hc (bn_i e1 (lt_i (lt_i ?_))); rw [nI_1]; exact h1
    · rw [fL_told_66]; refine if_ni hc (bn_i e2 (lt_i (lt_i ?_))); rw [nI_1]; exact h2
theorem to_55 {C C' : mm_M} {P K T : Nat} (V : VE C C' P K T) : ∀ (d i n : Nat) (v : Int32), i + d = K → d < n → ∃ t, fL_told_55 C n v (nI i) = some t ∧ fL_told_55 C' n v (nI i) = some t := by
  obtain ⟨r, c1, c2, -, c3, -⟩ := V.1 1 (by omega) (by omega) (by omega)
  have er := c3 rfl
  subst er
  have lK := V.2.2.2.2.2.2.1
  have lP := V.2.2.2.2.2.1
  intro d
  induction d with
  | zero =>
    intro i n v hi hn
    obtain ⟨n, rfl⟩ : ∃ q, n = q + 1 := ⟨n - 1, by omega⟩
    have e : i = K := by omega
    subst e
    obtain ⟨t, h1, h2⟩ := to_160 V P 0 FU v (by omega) (by unfold FU; omega)
    refine ⟨t, ?_, ?_⟩
    · rw [fL_told_55]; exact bn_i c1 (if_pi (Int32.le_refl _) h1)
    · rw [fL_told_55]; exact bn_i c2 (if_pi (Int32.le_refl _) h2)
  | succ d ih =>
    intro i n v hi hn
    obtain ⟨n, rfl⟩ : ∃ q, n = q + 1 := ⟨n - 1, by omega⟩
    obtain ⟨t, h1, h2⟩ := to_66 V (j := i) (by omega) (k := fL_told_55 C n) (k' := fL_told_55 C' n) (fun v => ih (i + 1) n v (by omega) (by omega)) 16 0 FU v (by omega) (by unfold FU; omega)
    refine ⟨t, ?_, ?_⟩
    · rw [fL_told_55]; exact bn_i c1 (if_ni (nI_ge (by omega) (by omega)) h1)
    · rw [fL_told_55]; exact bn_i c2 (if_ni (nI_ge (by omega) (by omega)) h2)
theorem to_30 {C C' : mm_M} {P K T : Nat} (V : VE C C' P K T) : ∀ (d i n : Nat) (v : Int32), i + d = 20 → 8 ≤ i → d < n → ∃ t, fL_told_30 C n v (nI i) = some t ∧ fL_told_30 C' n v (nI i) = some t := by
  have lK := V.2.2.2.2.2.2.1
  intro d
  induction d with
  | zero =>
    intro i n v hi h8 hn
    obtain ⟨n, rfl⟩ : ∃ q, n = q + 1 := ⟨n - 1, by omega⟩
    have e : i = 20 := by omega
    subst e
    obtain ⟨t, h1, h2⟩ := to_55 V K 0 FU v (by omega) (by unfold FU; omega)
    refine ⟨t, ?_, ?_⟩
    · rw [fL_told_30]; exact if_pi (by decide) h1
    · rw [fL_told_30]; exact if_pi (by decide) h2
  | succ d ih =>
    intro i n v hi h8 hn
    obtain ⟨n, rfl⟩ : ∃ q, n = q + 1 := ⟨n - 1, by omega⟩
    have hc : ¬ (20 : Int32) ≤ nI i := show ¬ nI 20 ≤ nI i from nI_ge (by omega) (by decide)
    obtain ⟨r, e1, e2, -⟩ := V.1 i (by omega) (by omega) (by omega)
    obtain ⟨t, h1, h2⟩ := ih (i + 1) n ((31 * v) + r) (by omega) (by omega) (by omega)
    refine ⟨t, ?_, ?_⟩
    · rw [fL_told_30]; refine if_ni hc (bn_i e1 (lt_i (lt_i ?_))); rw [nI_1]; exact h1
    · rw [fL_told_30]; refine if_ni hc (bn_i e2 (lt_i (lt_i ?_))); rw [nI_1]; exact h2
theorem to_4 {C C' : mm_M} {P K T : Nat} (V : VE C C' P K T) : ∀ (d i n : Nat) (v : Int32), i + d = 6 → d < n → ∃ t, fL_told_4 C n v (nI i) = some t ∧ fL_told_4 C' n v (nI i) = some t := by
  intro d
  induction d with
  | zero =>
    intro i n v hi hn
    obtain ⟨n, rfl⟩ : ∃ q, n = q + 1 := ⟨n - 1, by omega⟩
    have e : i = 6 := by omega
    subst e
    obtain ⟨t, h1, h2⟩ := to_30 V 12 8 FU v (by omega) (by omega) (by unfold FU; omega)
    refine ⟨t, ?_, ?_⟩
    · rw [fL_told_4]; exact if_pi (by decide) h1
    · rw [fL_told_4]; exact if_pi (by decide) h2
  | succ d ih =>
    intro i n v hi hn
    obtain ⟨n, rfl⟩ : ∃ q, n = q + 1 := ⟨n - 1, by omega⟩
    have hc : ¬ (6 : Int32) ≤ nI i := show ¬ nI 6 ≤ nI i from nI_ge (by omega) (by decide)
    obtain ⟨r, e1, e2, -⟩ := V.1 i (by omega) (by omega) (by omega)
    obtain ⟨t, h1, h2⟩ := ih (i + 1) n ((31 * v) + r) (by omega) (by omega)
    refine ⟨t, ?_, ?_⟩
    · rw [fL_told_4]; refine if_ni hc (bn_i e1 (lt_i (lt_i ?_))); rw [nI_1]; exact h1
    · rw [fL_told_4]; refine if_ni hc (bn_i e2 (lt_i (lt_i ?_))); rw [nI_1]; exact h2
/-- two States with one row are told alike -/
theorem told_eq {C C' : mm_M} {w : Nat → Int32} {T0 T1 : Nat} (A : SimX C 1 w T0) (A' : SimX C' 1 w T1) (h0 : T0 < 26843) (h1 : T1 < 26843) : ∃ t, fL_told C = some t ∧ fL_told C' = some t := by
  obtain ⟨P, K, W, T, N, xS, hT, S⟩ := A
  obtain ⟨P', K', W', T', N', xS', hT', S'⟩ := A'
  exact to_4 (VE.mk hT S hT' S' h0 h1) 6 0 FU 0 (by omega) (by unfold FU; omega)
