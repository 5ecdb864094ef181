/-! SIM: a day: the reference begins it; both sides ahead of the lots -/
theorem p3idx (i : Nat) : (32 + (4 * nI i)) + 3 = nI (32 + 4 * i + 3) := by
  rw [Int32.add_comm 32, show (32 : Int32) = nI 32 from rfl, show (4 : Int32) = nI 4 from rfl, mulI, Nat.add_comm (4 * i)]
  exact nI_add _ 3
theorem m_80 {P : Nat} (lP : P ≤ 10) : ∀ (d i n : Nat) (X : mm_M), i + d = P → d < n → X.1 732 12 = nI P → ∃ Y, fX7_beginDay_80 n X (nI i) = some Y ∧ (∀ j, i ≤ j → j < P → Y.1 732 (32 + 4 * j + 3) = -6) ∧ (∀ s, (∀ j, i ≤ j → j < P → s ≠ 32 + 4 * j + 3) → Y.1 732 s = X.1 732 s) ∧ FrD X Y ∧ Kd X Y := by
  intro d
  induction d with
  | zero =>
    intro i n X hi hn h2
    obtain ⟨n, rfl⟩ : ∃ q, n = q + 1 := ⟨n - 1, by omega⟩
    have e : i = P := by omega
    subst e
    refine ⟨X, ?_, fun j h1 h2 => by omega, fun _ _ => rfl, FrD.rf _, Kd.rf _⟩
    rw [fX7_beginDay_80, h2]
    exact if_pi (Int32.le_refl _) rfl
  | succ d ih =>
    intro i n X hi hn h2
    obtain ⟨n, rfl⟩ : ∃ q, n = q + 1 := ⟨n - 1, by omega⟩
    obtain ⟨Y, eY, yp, yo, yF, yK⟩ := ih (i + 1) n (sI X 732 (32 + 4 * i + 3) (-6)) (by omega) (by omega) (by rw [sI_row, up_ne (by omega)]; exact h2)
    refine ⟨Y, ?_, fun j h1 h2 => ?_, fun s hs => ?_, FrD.w.tr yF, Kd.tr (Kd.o (by omega)) yK⟩
    · rw [fX7_beginDay_80, h2]
      refine if_ni (nI_ge (by omega) (by omega)) ?_
      rw [p3idx]
      refine gd_i (ix_nI (n := 3592) (by omega) (by decide)) (lt_i (lt_i ?_))
      rw [nI_clamp (by omega), nI_1]
      exact eY
    · by_cases e : j = i
      · subst e
        rw [yo _ (fun j' h1' h2' => by omega), sI_row, up_eq]
      · exact yp j (by omega) h2
    · rw [yo s (fun j h1 h2 => hs j (by omega) h2), sI_row, up_ne (hs i (Nat.le_refl _) (by omega))]
theorem b2i_d {c : Prop} [Decidable c] : b2i (decide c) = if c then 1 else 0 := by
  by_cases q : c
  · rw [decide_eq_true q, if_pos q]; rfl
  · rw [decide_eq_false q, if_neg q]; rfl
set_option maxHeartbeats 1000000 in
theorem m_2b {P K : Nat} {w : Nat → Int32} (lP : P ≤ 10) (lK : K ≤ 16) : ∀ (d i n : Nat) (X : mm_M), i + d = K → d < n → X.1 732 13 = nI K → X.1 732 12 = nI P → X.1 732 10 = w 10 → (∀ j, j < K → X.1 732 (72 + 20 * j + 2) = w (72 + 20 * j + 2) ∧ X.1 732 (72 + 20 * j + 7) = w (72 + 20 * j + 7) ∧ X.1 732 (72 + 20 * j + 9) = w (72 + 20 * j + 9)) → ∃ Y, fX7_beginDay_2 n X (nI i) = some Y ∧ (∀ j, i ≤ j → j < K → Y.1 732 (72 + 20 * j + 13) = nI (wy w j) ∧ Y.1 732 (72 + 20 * j + 19) = (if wy w j = 0 then 1 else 0) ∧ Y.1 732 (72 + 20 * j + 11) = -6 ∧ Y.1 732 (72 + 20 * j + 12) = -6 ∧ Y.1 732 (72 + 20 * j + 14) = -6) ∧ (∀ j, j < P → Y.1 732 (32 + 4 * j + 3) = -6) ∧ (∀ s, (∀ j t, i ≤ j → j < K → (t = 11 ∨ t = 12 ∨ t = 13 ∨ t = 14 ∨ t = 19) → s ≠ 72 + 20 * j + t) → (∀ j, j < P → s ≠ 32 + 4 * j + 3) → Y.1 732 s = X.1 732 s) ∧ FrD X Y ∧ Kd X Y := by
  intro d
  induction d with
  | zero =>
    intro i n X hi hn h3 h2 h10 hw
    obtain ⟨n, rfl⟩ : ∃ q, n = q + 1 := ⟨n - 1, by omega⟩
    have e : i = K := by omega
    subst e
    obtain ⟨Y, eY, yp, yo, yF, yK⟩ := m_80 lP P 0 FU X (by omega) (by unfold FU; omega) h2
    refine ⟨Y, ?_, fun j h1 h2 => by omega, fun j hj => yp j (by omega) hj, fun s _ hs => yo s (fun j _ hj => hs j hj), yF, yK⟩
    rw [fX7_beginDay_2, h3]
    exact if_pi (Int32.le_refl _) eY
  | succ d ih =>
    intro i n X hi hn h3 h2 h10 hw
    obtain ⟨n, rfl⟩ : ∃ q, n = q + 1 := ⟨n - 1, by omega⟩
    have hc : i < K := by omega
    obtain ⟨g2, g7, g9⟩ := hw i hc
    obtain ⟨X1, e1⟩ : ∃ Z, Z = sI X 732 (72 + 20 * i + 13) (nI (wy w i)) := ⟨_, rfl⟩
    obtain ⟨X2, e2⟩ : ∃ Z, Z = sI (sI (sI (sI X1 732 (72 + 20 * i + 19) (if wy w i = 0 then 1 else 0)) 732 (72 + 20 * i + 11) (-6)) 732 (72 + 20 * i + 12) (-6)) 732 (72 + 20 * i + 14) (-6) := ⟨_, rfl⟩
    have x1 : ∀ s, s ≠ 72 + 20 * i + 13 → X1.1 732 s = X.1 732 s := fun s hs => by rw [e1, sI_row, up_ne hs]
    have x2 : ∀ s, (∀ t, (t = 11 ∨ t = 12 ∨ t = 13 ∨ t = 14 ∨ t = 19) → s ≠ 72 + 20 * i + t) → X2.1 732 s = X.1 732 s := fun s hs => by
      rw [e2, sI_row, sI_row, sI_row, sI_row, up_ne (hs 14 (by omega)), up_ne (hs 12 (by omega)), up_ne (hs 11 (by omega)), up_ne (hs 19 (by omega)), x1 s (hs 13 (by omega))]
    obtain ⟨Y, eY, yc, yp, yo, yF, yK⟩ := ih (i + 1) n X2 (by omega) (by omega) (by rw [x2 _ (fun t ht => by omega)]; exact h3) (by rw [x2 _ (fun t ht => by omega)]; exact h2) (by rw [x2 _ (fun t ht => by omega)]; exact h10) (fun j hj => by
      rw [x2 _ (fun t ht => by omega), x2 _ (fun t ht => by omega), x2 _ (fun t ht => by omega)]
      exact hw j hj)
    have y1 : fX7_whyOut X (nI i) = some (nI (wy w i)) := m_why (by omega) g2 g7 g9 h10
    have y2 : fX7_whyOut X1 (nI i) = some (nI (wy w i)) := m_why (by omega) (by rw [x1 _ (by omega)]; exact g2) (by rw [x1 _ (by omega)]; exact g7) (by rw [x1 _ (by omega)]; exact g9) (by rw [x1 _ (by omega)]; exact h10)
    have e42 : fX7_beginDay_42 (fX7_beginDay_2 n) X1 (nI i) (nI i) (decide (wy w i = 0)) = some Y := by
      unfold fX7_beginDay_42
      rw [b2i_d]
      refine bn_i (lay_i (k := 19) _ (by omega) (by omega)) (bn_i (lay_i (k := 11) _ (by omega) (by omega)) (bn_i (lay_i (k := 12) _ (by omega) (by omega)) (bn_i (lay_i (k := 14) _ (by omega) (by omega)) (lt_i ?_))))
      rw [← e2, nI_1]
      exact eY
    refine ⟨Y, ?_, fun j h1 h2 => ?_, yp, fun s hs hp => ?_, FrD.tr (by rw [e2, e1]; exact FrD.w.tr (FrD.w.tr (FrD.w.tr (FrD.w.tr FrD.w)))) yF, Kd.tr (by rw [e2, e1]; exact (Kd.w (by omega) (by omega)).tr ((Kd.w (by omega) (by omega)).tr ((Kd.w (by omega) (by omega)).tr ((Kd.w (by omega) (by omega)).tr (Kd.w (by omega) (by omega)))))) yK⟩
    · rw [fX7_beginDay_2, h3]
      refine if_ni (nI_ge hc (by omega)) (bn_i y1 (bn_i (lay_i (k := 13) _ (by omega) (by omega)) ?_))
      rw [← e1]
      refine bn_i y2 ?_
      have := wy_le w i
      by_cases q : wy w i = 0
      · rw [decide_eq_true q] at e42
        exact if_pi (by rw [q]; rfl) e42
      · rw [decide_eq_false q] at e42
        exact if_ni (nI_ne0 (by omega) (by omega)) e42
    · by_cases e : j = i
      · subst e
        have yo' : ∀ t, t < 20 → Y.1 732 (72 + 20 * j + t) = X2.1 732 (72 + 20 * j + t) := fun t ht => yo _ (fun j' t' h1' h2' h3' => by omega) (fun j' h' => by omega)
        rw [yo' 13 (by omega), yo' 19 (by omega), yo' 11 (by omega), yo' 12 (by omega), yo' 14 (by omega), e2]
        simp only [sI_row]
        refine ⟨?_, ?_, ?_, ?_, ?_⟩
        · rw [up_ne (by omega), up_ne (by omega), up_ne (by omega), up_ne (by omega), e1, sI_row, up_eq]
        · rw [up_ne (by omega), up_ne (by omega), up_ne (by omega), up_eq]
        · rw [up_ne (by omega), up_ne (by omega), up_eq]
        · rw [up_ne (by omega), up_eq]
        · rw [up_eq]
      · exact yc j (by omega) h2
    · rw [yo s (fun j t h1 h2 ht => hs j t (by omega) h2 ht) hp, x2 s (fun t ht => hs i t (Nat.le_refl _) hc ht)]
def u0 (tv : Nat → Nat) (c : Nat) : Nat → Nat := fun i => if i = c then 0 else tv i
def okU (tv : Nat → Nat) (i k : Nat) : Prop := k = 10 → tv i = 0
def tkl (w : Nat → Int32) (j : Nat) : Nat := if (w 0).toNatClampNeg < 1 + (w (72 + 20 * j + 6)).toNatClampNeg then (w 0).toNatClampNeg else 1 + (w (72 + 20 * j + 6)).toNatClampNeg
def pos (tv : Nat → Nat) (i : Nat) : Nat := if 0 < tv i then 1 else 0
/-- both sides while lots are drawn: tv the tickets of those who are not drawn, ord who was drawn at a place, p how many were -/
abbrev Dr (C : mm_M) (a : Nat) (w : Nat → Int32) (P K W T : Nat) (N : Nat → Nat) (tv ord : Nat → Nat) (p : Nat) : Prop := (Sim (okU tv) C a w P K W T N) ∧ (∀ i, i < K → C.1 (a + 6) i = nI (tv i) ∧ tv i ≤ 20) ∧ (C.1 a 14 = nI p) ∧ (∀ i, i < K → 0 < tv i → C.1 (a + 18 + 3 * i) 10 = 4 ∧ w (72 + 20 * i + 13) = 0 ∧ w (72 + 20 * i + 14) = -6 ∧ w (72 + 20 * i + 19) = 1 ∧ tv i = tkl w i) ∧ (∀ i, i < K → tv i = 0 → (w (72 + 20 * i + 19) = 0 ∧ w (72 + 20 * i + 14) = -6) ∨ (w (72 + 20 * i + 19) = 1 ∧ ∃ q, q < p ∧ w (72 + 20 * i + 14) = nI q ∧ ord q = i)) ∧ (∀ q, q < p → ord q < K ∧ w (72 + 20 * ord q + 14) = nI q ∧ C.1 (a + 7) q = nI (ord q)) ∧ (∀ i, i < K → w (72 + 20 * i + 12) = -6) ∧ (p + sm (pos tv) 0 K ≤ K)
theorem Ok_at {P K W T : Nat} {N : Nat → Nat} {j : Nat} {v : Int32} (B : Bd P K W 0 N) (hj : j < 16) (h : nn v P) : Ok P K W T N (72 + 20 * j + 11) v := by
  obtain ⟨lP, lK, lW, -, lN⟩ := B
  refine ⟨?_, ?_, ?_, ?_, ?_, ?_, ?_, ?_, ?_, ?_, ?_, ?_, ?_, ?_, ?_, ?_, ?_, fun _ _ _ => h, ?_, ?_⟩ <;> intros <;> (try (rename_i i' hi' k hk e; have := lN i')) <;> omega
set_option maxHeartbeats 4000000 in
theorem z_begin {C D : mm_M} {a P K W T : Nat} {N : Nat → Nat} (S : Sim okA C a (D.1 732) P K W T N) : ∃ C1 C2 D', fX1_clearLastDay C a = some C1 ∧ fX1_handOutTickets C1 a = some (nI (sm (tkt (D.1 732)) 0 K), C2) ∧ fX7_beginDay D = some D' ∧ Dr (sI C2 a 14 0) a (D'.1 732) P K W T N (tkt (D.1 732)) (fun _ => 0) 0 ∧ FrC C (sI C2 a 14 0) a ∧ FrD D D' ∧ Kd D D' := by
  have lP := S.bd.lP
  have lK := S.bd.lK
  have lW := S.bd.lW
  have lT := S.bd.lT
  have lN := S.bd.lN
  have B := S.bd0
  obtain ⟨w, ew⟩ : ∃ w, w = D.1 732 := ⟨_, rfl⟩
  obtain ⟨tk, t1, t2, et⟩ := (S.val 0).r0 rfl
  obtain ⟨C1, e1, c1c, c1p, c1o, c1l⟩ := q_clr (a := a) lP lK P 0 FU C (by omega) (by unfold FU; omega) S.cP S.cK
  have sc : ∀ j, j < K → ∀ k, k < 12 → C.1 (a + 18 + 3 * j) k = D.1 732 (72 + 20 * j + sf k) := fun j hj k hk => S_cart S hj hk
  have ls : ∀ j, j < K → D.1 732 (72 + 20 * j + 6) = nI ((D.1 732 (72 + 20 * j + 6)).toNatClampNeg) ∧ (D.1 732 (72 + 20 * j + 6)).toNatClampNeg < 2 ^ 30 := fun j hj => by
    obtain ⟨x, hx, ex⟩ := (S.val (72 + 20 * j + 6)).los j hj rfl
    rw [ex, nI_clamp (by omega)]
    exact ⟨rfl, by omega⟩
  obtain ⟨C2, e2, c2c, -, c2k, c2o, c2l⟩ := q_hand (a := a) (tk := tk) (w := D.1 732) (l := fun j => (D.1 732 (72 + 20 * j + 6)).toNatClampNeg) lK t2 et ls K 0 FU 0 C1 (by omega) (by unfold FU; omega) (by rw [c1o a (fun j hj => by omega) (fun j _ hj => by omega)]; exact S.cK) (by rw [c1o a (fun j hj => by omega) (fun j _ hj => by omega)]; exact S.hd (k := 0) (by omega)) (by rw [c1o (a + 1) (fun j hj => by omega) (fun j _ hj => by omega)]; exact (S.eq (a + 1) 0 0 (Or.inr (Or.inl ⟨rfl, by omega, rfl⟩))).trans et) (fun j hj => by
    rw [c1c j hj 2 (by omega), c1c j hj 3 (by omega), c1c j hj 4 (by omega), c1c j hj 6 (by omega)]
    exact ⟨sc j hj 2 (by omega), sc j hj 3 (by omega), sc j hj 4 (by omega), sc j hj 6 (by omega)⟩)
  rw [Nat.zero_add] at e2
  obtain ⟨D', eD, dc, dp, dO, dF, dK⟩ := m_2b (w := D.1 732) lP lK K 0 FU D (by omega) (by unfold FU; omega) S.wK S.wP rfl (fun j hj => ⟨rfl, rfl, rfl⟩)
  have cc : ∀ j, j < K → ∀ k, k < 12 → (sI C2 a 14 0).1 (a + 18 + 3 * j) k = if k = 10 then nI (wyC (D.1 732) j) else if k = 8 ∨ k = 9 ∨ k = 11 then -6 else D.1 732 (72 + 20 * j + sf k) := fun j hj k hk => by
    rw [sI_ap1, if_neg (by omega)]
    by_cases e : k = 10
    · subst e; rw [if_pos rfl]; exact (c2c j (by omega) hj).1
    · rw [if_neg e, c2k _ k (by omega) e, c1c j hj k hk, if_neg e, sc j hj k hk]
  have cp : ∀ j, j < P → ∀ k, k < 4 → (sI C2 a 14 0).1 (a + 8 + j) k = if k = 3 then -6 else D.1 732 (32 + 4 * j + k) := fun j hj k hk => by
    rw [sI_ap1, if_neg (by omega), c2o _ (by omega) (fun j' h1 h2 => by omega), c1p j (by omega) hj k, S_pit S hj hk]
  have co : ∀ o, o ≠ a → o ≠ a + 6 → (∀ j, j < K → o ≠ a + 18 + 3 * j) → (∀ j, j < P → o ≠ a + 8 + j) → (sI C2 a 14 0).1 o = C.1 o := fun o h1 h2 h3 h4 => by
    rw [sI_ap1, if_neg h1, c2o o h2 (fun j _ hj => h3 j hj), c1o o h3 (fun j _ hj => h4 j hj)]
  have ca : ∀ k, k ≠ 14 → (sI C2 a 14 0).1 a k = C.1 a k := fun k hk => by
    rw [sI_ap1, if_pos rfl]
    show (if k = 14 then 0 else C2.1 a k) = _
    rw [if_neg hk, c2o a (by omega) (fun j h1 h2 => by omega), c1o a (fun j hj => by omega) (fun j _ hj => by omega)]
  have c2' : (sI C2 a 14 0).2 = C.2 := (show (sI C2 a 14 0).2 = C2.2 from rfl).trans (c2l.trans c1l)
  have ws : ∀ s, (∀ j t, j < K → (t = 11 ∨ t = 12 ∨ t = 13 ∨ t = 14 ∨ t = 19) → s ≠ 72 + 20 * j + t) → (∀ j, j < P → s ≠ 32 + 4 * j + 3) → D'.1 732 s = D.1 732 s := fun s h1 h2 => dO s (fun j t _ hj ht => h1 j t hj ht) h2
  have tw : ∀ j, j < K → 0 < tkt (D.1 732) j → wy (D.1 732) j = 0 := fun j hj h => by
    by_cases q : wy (D.1 732) j = 0
    · exact q
    · unfold tkt at h; rw [if_neg q] at h; omega
  have tkv : ∀ j, j < K → wy (D.1 732) j = 0 → tkt (D.1 732) j = tkl (D.1 732) j := fun j hj h => if_pos h
  have tkb : ∀ j, j < K → 1 ≤ tkl (D.1 732) j ∧ tkl (D.1 732) j ≤ 20 := fun j hj => by
    unfold tkl
    rw [et, nI_clamp (by omega)]
    by_cases c : tk < 1 + (D.1 732 (72 + 20 * j + 6)).toNatClampNeg
    · rw [if_pos c]; omega
    · rw [if_neg c]; omega
  have t0 : ∀ j, j < K → tkt (D.1 732) j = 0 → ¬ wy (D.1 732) j = 0 := fun j hj h q => by
    have := tkb j hj
    rw [tkv j hj q] at h
    omega
  have tle : ∀ j, j < K → tkt (D.1 732) j ≤ 20 := fun j hj => by
    by_cases q : wy (D.1 732) j = 0
    · rw [tkv j hj q]; exact (tkb j hj).2
    · have : tkt (D.1 732) j = 0 := if_neg q
      omega
  have tkl' : ∀ j, j < K → tkl (D'.1 732) j = tkl (D.1 732) j := fun j hj => by
    unfold tkl
    rw [ws 0 (fun j' t h1 h2 => by omega) (fun j' h => by omega), ws (72 + 20 * j + 6) (fun j' t h1 h2 => by omega) (fun j' h => by omega)]
  refine ⟨C1, C2, D', e1, e2, eD, ⟨⟨S.bd, fun o k s h => ?_, fun i hi k hk => ?_, fun s => ?_⟩, fun i hi => ⟨?_, tle i hi⟩, ?_, fun i hi ht => ?_, fun i hi ht => Or.inl ?_, fun q hq => by omega, fun i hi => (dc i (by omega) hi).2.2.2.1, ?_⟩, fun o ho => ⟨?_, by rw [c2']⟩, dF, dK⟩
  · rcases h with ⟨g1, g2, g3⟩ | ⟨g1, g2, g3⟩ | ⟨g1, g2, g3⟩ | ⟨g1, g2, g3⟩ | ⟨i, hi, g1, g2, g3⟩ | ⟨i, hi, g1, g2, go, g3⟩ | ⟨i, hi, g1, g2, g3⟩ | ⟨i, hi, g1, g2, g3⟩
    · subst g1
      rw [ca k (by omega), ws s (fun j' t h1 h2 => by omega) (fun j' h => by omega)]
      exact S.eq o k s (Or.inl ⟨rfl, g2, g3⟩)
    · rw [co o (by omega) (by omega) (fun j hj => by omega) (fun j hj => by omega), ws s (fun j' t h1 h2 => by omega) (fun j' h => by omega)]
      exact S.eq o k s (Or.inr (Or.inl ⟨g1, g2, g3⟩))
    · rw [co o (by omega) (by omega) (fun j hj => by omega) (fun j hj => by omega), ws s (fun j' t h1 h2 => by omega) (fun j' h => by omega)]
      exact S.eq o k s (Or.inr (Or.inr (Or.inl ⟨g1, g2, g3⟩)))
    · rw [co o (by omega) (by omega) (fun j hj => by omega) (fun j hj => by omega), ws s (fun j' t h1 h2 => by omega) (fun j' h => by omega)]
      exact S.eq o k s (Or.inr (Or.inr (Or.inr (Or.inl ⟨g1, g2, g3⟩))))
    · subst g1
      subst g3
      rw [cp i hi k g2]
      by_cases e : k = 3
      · subst e; rw [if_pos rfl, dp i hi]
      · rw [if_neg e, ws _ (fun j' t h1 h2 => by omega) (fun j' h => by omega)]
    · subst g1
      subst g3
      rw [cc i hi k g2]
      obtain ⟨d13, -, d11, d12, d14⟩ := dc i (by omega) hi
      by_cases e : k = 10
      · subst e
        have hq := t0 i hi (go rfl)
        rw [if_pos rfl, show wyC (D.1 732) i = wy (D.1 732) i from if_neg hq]
        exact d13.symm
      · rw [if_neg e]
        by_cases e8 : k = 8
        · subst e8; rw [if_pos (by omega)]; exact d11.symm
        · by_cases e9 : k = 9
          · subst e9; rw [if_pos (by omega)]; exact d12.symm
          · by_cases e11 : k = 11
            · subst e11; rw [if_pos (by omega)]; exact d14.symm
            · have hs : sf k ≠ 11 ∧ sf k ≠ 12 ∧ sf k ≠ 13 ∧ sf k ≠ 14 ∧ sf k < 15 := by
                have f1 := sf_inj k g2 8 (by omega)
                have f2 := sf_inj k g2 9 (by omega)
                have f3 := sf_inj k g2 10 (by omega)
                have f4 := sf_inj k g2 11 (by omega)
                have f5 := sf_lt k g2
                have s8 : sf 8 = 11 := rfl
                have s9 : sf 9 = 12 := rfl
                have s10 : sf 10 = 13 := rfl
                have s11 : sf 11 = 14 := rfl
                omega
              rw [if_neg (by omega), ws _ (fun j' t h1 h2 => by omega) (fun j' h => by omega)]
    · have := lN i
      rw [co o (by omega) (by omega) (fun j hj => by omega) (fun j hj => by omega), ws s (fun j' t h1 h2 => by omega) (fun j' h => by omega)]
      exact S.eq o k s (Or.inr (Or.inr (Or.inr (Or.inr (Or.inr (Or.inr (Or.inl ⟨i, hi, g1, g2, g3⟩)))))))
    · rw [co o (by omega) (by omega) (fun j hj => by omega) (fun j hj => by omega), ws s (fun j' t h1 h2 => by omega) (fun j' h => by omega)]
      exact S.eq o k s (Or.inr (Or.inr (Or.inr (Or.inr (Or.inr (Or.inr (Or.inr ⟨i, hi, g1, g2, g3⟩)))))))
  · rw [c2', ws _ (fun j' t h1 h2 => by omega) (fun j' h => by omega)]
    exact S.sum i hi k hk
  · by_cases h1 : ∃ j, j < P ∧ s = 32 + 4 * j + 3
    · obtain ⟨j, hj, e⟩ := h1
      subst e
      rw [dp j hj]
      exact Ok_p3 lW (by omega) (Or.inl rfl)
    · by_cases h2 : ∃ j t, j < K ∧ (t = 11 ∨ t = 12 ∨ t = 13 ∨ t = 14 ∨ t = 19) ∧ s = 72 + 20 * j + t
      · obtain ⟨j, t, hj, ht, e⟩ := h2
        subst e
        by_cases e11 : t = 11
        · subst e11
          rw [(dc j (by omega) hj).2.2.1]
          exact Ok_at B (by omega) (Or.inl rfl)
        · exact Ok_free B (by omega) (by omega)
      · rw [ws s (fun j t hj ht e => h2 ⟨j, t, hj, ht, e⟩) (fun j hj e => h1 ⟨j, hj, e⟩)]
        exact S.val s
  · rw [sI_ap1, if_neg (by omega)]
    exact (c2c i (by omega) hi).2
  · rw [sI_ap1, if_pos rfl]
    exact if_pos rfl
  · obtain ⟨d13, d19, d11, d12, d14⟩ := dc i (by omega) hi
    have hq := tw i hi ht
    refine ⟨?_, ?_, d14, ?_, ?_⟩
    · rw [cc i hi 10 (by omega), if_pos rfl, show wyC (D.1 732) i = 4 from if_pos hq]; rfl
    · rw [d13, hq]; rfl
    · rw [d19, if_pos hq]
    · rw [tkv i hi hq, tkl' i hi]
  · obtain ⟨d13, d19, d11, d12, d14⟩ := dc i (by omega) hi
    exact ⟨by rw [d19, if_neg (t0 i hi ht)], d14⟩
  · have := sm_le (g := pos (tkt (D.1 732))) (B := 1) (fun k => by
      unfold pos
      by_cases q : 0 < tkt (D.1 732) k
      · rw [if_pos q]; omega
      · rw [if_neg q]; omega) K 0
    omega
  · exact co o (by omega) (by omega) (fun j hj => by omega) (fun j hj => by omega) ▸ rfl
