/-! SIM: trials -/
theorem m_aside : ∀ (d i n : Nat) (X : mm_M), i + d = 3592 → d < n → ∃ Y, fX7_layAside_2 n X (nI i) = some Y ∧ (∀ k, Y.1 736 k = if i ≤ k ∧ k < 3592 then X.1 732 k else X.1 736 k) ∧ (∀ o, o ≠ 736 → Y.1 o = X.1 o) ∧ Y.2 = X.2 := by
  intro d
  induction d with
  | zero =>
    intro i n X hi hn
    obtain ⟨n, rfl⟩ : ∃ q, n = q + 1 := ⟨n - 1, by omega⟩
    have e : i = 3592 := by omega
    subst e
    refine ⟨X, ?_, fun k => by rw [if_neg (by omega)], fun _ _ => rfl, rfl⟩
    rw [fX7_layAside_2]
    exact if_pi (show (3592 : Int32) ≤ nI 3592 by decide) rfl
  | succ d ih =>
    intro i n X hi hn
    obtain ⟨n, rfl⟩ : ∃ q, n = q + 1 := ⟨n - 1, by omega⟩
    have hc : i < 3592 := by omega
    obtain ⟨Y, eY, y2, yo, yl⟩ := ih (i + 1) n (sI X 736 i (X.1 732 i)) (by omega) (by omega)
    have z3 : (sI X 736 i (X.1 732 i)).1 732 = X.1 732 := by rw [sI_ap1, if_neg (by omega)]
    have z2 : ∀ k, (sI X 736 i (X.1 732 i)).1 736 k = if k = i then X.1 732 i else X.1 736 k := fun k => by rw [sI_ap1, if_pos rfl]
    refine ⟨Y, ?_, fun k => ?_, fun o ho => ?_, yl⟩
    · rw [fX7_layAside_2]
      refine if_ni (show ¬ nI 3592 ≤ nI i from nI_ge hc (by decide)) (gd_i (ix_nI (n := 3592) (by omega) (by decide)) (lt_i (lt_i ?_)))
      rw [nI_clamp (by omega), nI_1]
      exact eY
    · rw [y2, z3, z2]
      by_cases q : i + 1 ≤ k ∧ k < 3592
      · simp only [if_pos q, if_pos (show i ≤ k ∧ k < 3592 by omega)]
      · simp only [if_neg q]
        by_cases q2 : k = i
        · subst q2
          simp only [if_pos (show k ≤ k ∧ k < 3592 by omega)]
          rfl
        · simp only [if_neg q2, if_neg (show ¬ (i ≤ k ∧ k < 3592) by omega)]
    · rw [yo o ho, sI_ap1, if_neg ho]
theorem m_back : ∀ (d i n : Nat) (X : mm_M), i + d = 3592 → d < n → ∃ Y, fX7_layBack_2 n X (nI i) = some Y ∧ (∀ k, Y.1 732 k = if i ≤ k ∧ k < 3592 then X.1 736 k else X.1 732 k) ∧ (∀ o, o ≠ 732 → Y.1 o = X.1 o) ∧ Y.2 = X.2 := by
  intro d
  induction d with
  | zero =>
    intro i n X hi hn
    obtain ⟨n, rfl⟩ : ∃ q, n = q + 1 := ⟨n - 1, by omega⟩
    have e : i = 3592 := by omega
    subst e
    refine ⟨X, ?_, fun k => by rw [if_neg (by omega)], fun _ _ => rfl, rfl⟩
    rw [fX7_layBack_2]
    exact if_pi (show (3592 : Int32) ≤ nI 3592 by decide) rfl
  | succ d ih =>
    intro i n X hi hn
    obtain ⟨n, rfl⟩ : ∃ q, n = q + 1 := ⟨n - 1, by omega⟩
    have hc : i < 3592 := by omega
    obtain ⟨Y, eY, y2, yo, yl⟩ := ih (i + 1) n (sI X 732 i (X.1 736 i)) (by omega) (by omega)
    have z3 : (sI X 732 i (X.1 736 i)).1 736 = X.1 736 := by rw [sI_ap1, if_neg (by omega)]
    have z2 : ∀ k, (sI X 732 i (X.1 736 i)).1 732 k = if k = i then X.1 736 i else X.1 732 k := fun k => by rw [sI_ap1, if_pos rfl]
    refine ⟨Y, ?_, fun k => ?_, fun o ho => ?_, yl⟩
    · rw [fX7_layBack_2]
      refine if_ni (show ¬ nI 3592 ≤ nI i from nI_ge hc (by decide)) (gd_i (ix_nI (n := 3592) (by omega) (by decide)) (lt_i (lt_i ?_)))
      rw [nI_clamp (by omega), nI_1]
      exact eY
    · rw [y2, z3, z2]
      by_cases q : i + 1 ≤ k ∧ k < 3592
      · simp only [if_pos q, if_pos (show i ≤ k ∧ k < 3592 by omega)]
      · simp only [if_neg q]
        by_cases q2 : k = i
        · subst q2
          simp only [if_pos (show k ≤ k ∧ k < 3592 by omega)]
          rfl
        · simp only [if_neg q2, if_neg (show ¬ (i ≤ k ∧ k < 3592) by omega)]
    · rw [yo o ho, sI_ap1, if_neg ho]
/-- what a trial leaves: X is D but for the reference's own numbers, its row and what it laid aside -/
def Tr (D X : mm_M) : Prop := (∀ o, o ≠ 731 → o ≠ 732 → o ≠ 736 → X.1 o = D.1 o) ∧ (∀ k, k < 8 → X.1 731 k = D.1 731 k) ∧ X.2 = D.2
theorem Tr.rf (D : mm_M) : Tr D D := ⟨fun _ _ _ _ => rfl, fun _ _ => rfl, rfl⟩
theorem Tr.tr {D X Y : mm_M} (h1 : Tr D X) (h2 : Tr X Y) : Tr D Y := ⟨fun o a b c => (h2.1 o a b c).trans (h1.1 o a b c), fun k hk => (h2.2.1 k hk).trans (h1.2.1 k hk), h2.2.2.trans h1.2.2⟩
theorem Tr.of {D X : mm_M} (h : FrD D X) : Tr D X := ⟨fun o a b _ => h.oth o a b, fun k hk => h.own k (Or.inl hk), h.lng⟩
theorem a_side (D : mm_M) : ∃ Y, fX7_layAside D = some Y ∧ (∀ k, k < 3592 → Y.1 736 k = D.1 732 k) ∧ Y.1 732 = D.1 732 ∧ Tr D Y := by
  obtain ⟨Y, e, y2, yo, yl⟩ := m_aside 3592 0 FU D rfl (by decide)
  exact ⟨Y, e, fun k hk => by rw [y2, if_pos (by omega)], yo 732 (by omega), fun o _ _ h => yo o h, fun k _ => by rw [yo 731 (by omega)], yl⟩
theorem a_back (D : mm_M) : ∃ Y, fX7_layBack D = some Y ∧ (∀ k, k < 3592 → Y.1 732 k = D.1 736 k) ∧ Y.1 736 = D.1 736 ∧ Tr D Y := by
  obtain ⟨Y, e, y2, yo, yl⟩ := m_back 3592 0 FU D rfl (by decide)
  exact ⟨Y, e, fun k hk => by rw [y2, if_pos (by omega)], yo 736 (by omega), fun o _ h _ => yo o h, fun k _ => by rw [yo 731 (by omega)], yl⟩
theorem z_keepG {T0 : Nat} {C D C' D' : mm_M} (G : Gl T0 C D) (hC : FrC C C' 67) (hr : ∀ k, k < 3592 → D'.1 732 k = D.1 732 k) (hD : Tr D D') : Out T0 C D C' D' := by
  obtain ⟨b, h, H⟩ := G.hist
  obtain ⟨d1, d2, d3⟩ := hD
  refine ⟨⟨(G.live.frame (fun o ho => hC o (by omega))).congr hr, ⟨b, h, (H.frame (fun o ho => hC o (by omega))).frameD (d2 2 (by omega)) (d1 733 (by omega) (by omega) (by omega))⟩, (G.sav.frame (fun o ho => hC o (by omega))).frameD (d1 734 (by omega) (by omega) (by omega)) (d1 735 (by omega) (by omega) (by omega)), ?_⟩, fun o ho => (hC o (by omega)).1, fun o ho => ⟨d1 o (by omega) (by omega) (by omega), by rw [d3]⟩⟩
  obtain ⟨n, hn, h1, h2, h3⟩ := G.pad
  refine ⟨n, hn, by rw [(hC 729 (by omega)).1]; exact h1, by rw [d2 7 (by omega)]; exact h2, fun i hi => ?_⟩
  rw [(hC 730 (by omega)).1, d1 737 (by omega) (by omega) (by omega)]
  exact h3 i hi
/-- a trial's day -/
theorem z_trial {C D : mm_M} {P K W T : Nat} {N : Nat → Nat} (S : Sim okA C 67 (D.1 732) P K W T N) (hT : T + 1 < 2 ^ 30) {j : Nat} (hj : j < K) : ∃ C' D' pt, fX6_pitchOnTrialDay C (nI j) = some (pt, C') ∧ fX7_passDay D = some D' ∧ fX7_of D' (nI j) 11 = some pt ∧ nn pt P ∧ Sim okA C' 67 (D'.1 732) P K 0 (T + 1) N ∧ FrC C C' 67 ∧ FrD D D' ∧ D'.1 732 (72 + 20 * j + 10) = if pt = -6 then D.1 732 (72 + 20 * j + 10) else D.1 732 (72 + 20 * j + 10) + 1 := by
  have lK := S.bd.lK
  obtain ⟨C', D', e1, e2, S', f1, g1, cn⟩ := z_day kT67 S hT
  refine ⟨C', D', D'.1 732 (72 + 20 * j + 11), ?_, e2, of_i (k := 11) (by omega) (by omega), (S'.val _).at_ j hj rfl, S', f1, g1, cn j hj⟩
  unfold fX6_pitchOnTrialDay
  obtain ⟨n, hn⟩ : ∃ n, FU = n + 1 + 1 := ⟨999998, rfl⟩
  refine bn2_i (a := C'.1 67 0) (b := C') ?_ (bn_i (z_hasC S' hj) (if_pi rfl (gd_i (ix_nI (n := 16) (by omega) (by decide)) ?_)))
  · refine if_ni (by decide) (if_pi (by decide) ?_)
    rw [hn, passD]
    refine if_ni (by decide) (bn_i e1 (lt_i ?_))
    rw [passD]
    exact if_pi (by decide) rfl
  · rw [nI_clamp (by omega), show C'.1 (67 + 18 + 3 * j) 8 = D'.1 732 (72 + 20 * j + 11) from S_cart S' hj (k := 8) (by omega)]
theorem z_wouldHave {T0 : Nat} (hT0 : T0 + 60 < 2 ^ 30) (x : Int32) : Tw T0 T0 (fun C => fX6_wouldHave C x) (fun D => fX7_wouldHave D x) := by
  intro C D G
  obtain ⟨P, K, W, T, N, hT, S⟩ := G.live
  rcases S.cart2 x with ⟨j, hj, e, h1, h2⟩ | ⟨h1, h2⟩
  · subst e
    obtain ⟨C1, e1, S1, f1⟩ := cp_all (a0 := 67) S (by omega)
    obtain ⟨D1, t1, t2, t3, t4⟩ := a_side D
    obtain ⟨C2, D2, pt, u1, u2, u3, -, S2, f2, g2, -⟩ := z_trial (D := D1) (by rw [t3]; exact S1) (by omega) hj
    obtain ⟨D3, v1, v2, v3, v4⟩ := a_back D2
    refine ⟨pt, C2, D3, bn_i h1 (if_pi rfl (bn_i e1 (bn2_i u1 rfl))), bn_i h2 (if_pi rfl (bn_i t1 (bn_i u2 (bn_i u3 (bn_i v1 rfl))))), z_keepG G (f1.tr f2) (fun k hk => ?_) ((t4.tr (Tr.of g2)).tr v4)⟩
    rw [v2 k hk, g2.oth 736 (by omega) (by omega), t2 k hk]
  · exact ⟨-1, C, D, bn_i h1 (if_ni (by decide) rfl), bn_i h2 (if_ni (by decide) rfl), G, fun _ _ => rfl, fun _ _ => ⟨rfl, rfl⟩⟩
theorem z_firstl {P K j : Nat} {N : Nat → Nat} (hj : j < K) : ∀ (d i n n' W T : Nat) (C D : mm_M), i + d = 60 → d < n → d + 1 < n' → T + d < 2 ^ 30 → Sim okA C 67 (D.1 732) P K W T N → ∃ r C' D', fX6_firstDay_26 (nI j) n C (nI i) = some (r, C') ∧ fX7_firstDay_19 (nI j) n' D (-6) (nI i) = fX7_firstDay_56 (nI j) D' r ∧ FrC C C' 67 ∧ FrD D D' := by
  intro d
  induction d with
  | zero =>
    intro i n n' W T C D hi hn hn' hT S
    obtain ⟨n, rfl⟩ : ∃ q, n = q + 1 := ⟨n - 1, by omega⟩
    obtain ⟨n', rfl⟩ : ∃ q, n' = q + 1 := ⟨n' - 1, by omega⟩
    have e : i = 60 := by omega
    subst e
    refine ⟨-6, C, D, ?_, ?_, FrC.rf _ _, FrD.rf _⟩
    · rw [fX6_firstDay_26]; exact if_pi (by decide) rfl
    · rw [fX7_firstDay_19]; exact if_pi (by decide) rfl
  | succ d ih =>
    intro i n n' W T C D hi hn hn' hT S
    obtain ⟨n, rfl⟩ : ∃ q, n = q + 1 := ⟨n - 1, by omega⟩
    obtain ⟨n', rfl⟩ : ∃ q, n' = q + 1 + 1 := ⟨n' - 2, by omega⟩
    obtain ⟨C1, D1, pt, u1, u2, u3, hp, S1, f1, g1, -⟩ := z_trial S (by omega) hj
    have n60 : ¬ (60 : Int32) ≤ nI i := show ¬ nI 60 ≤ nI i from nI_ge (by omega) (by decide)
    rcases hp with h | ⟨p, hp, h⟩
    · subst h
      obtain ⟨r, C', D', q1, q2, q3, q4⟩ := ih (i + 1) n (n' + 1) 0 (T + 1) C1 D1 (by omega) (by omega) (by omega) (by omega) S1
      refine ⟨r, C', D', ?_, ?_, f1.tr q3, g1.tr q4⟩
      · rw [fX6_firstDay_26]
        refine if_ni n60 (bn2_i u1 (if_pi rfl (lt_i ?_)))
        rw [nI_1]; exact q1
      · rw [fX7_firstDay_19]
        refine if_ni n60 (if_ni (by decide) (bn_i u2 (bn_i u3 (if_pi (by decide) (lt_i ?_)))))
        rw [nI_1]; exact q2
    · have lP := S.bd.lP
      subst h
      refine ⟨nI i, C1, D1, ?_, ?_, f1, g1⟩
      · rw [fX6_firstDay_26]
        exact if_ni n60 (bn2_i u1 (if_ni (fun q => nI_pos (n := p) (by omega) (by rw [q]; decide)) rfl))
      · rw [fX7_firstDay_19]
        refine if_ni n60 (if_ni (by decide) (bn_i u2 (bn_i u3 (if_ni (nI_pos (by omega)) (lt_i ?_)))))
        rw [fX7_firstDay_19]
        by_cases c : (60 : Int32) ≤ nI i + 1
        · exact if_pi c rfl
        · exact if_ni c (if_pi (nI_pos' (by omega)) rfl)
theorem z_firstDay {T0 : Nat} (hT0 : T0 + 60 < 2 ^ 30) (x : Int32) : Tw T0 T0 (fun C => fX6_firstDay C x) (fun D => fX7_firstDay D x) := by
  intro C D G
  obtain ⟨P, K, W, T, N, hT, S⟩ := G.live
  rcases S.cart2 x with ⟨j, hj, e, h1, h2⟩ | ⟨h1, h2⟩
  · subst e
    obtain ⟨C1, e1, S1, f1⟩ := cp_all (a0 := 67) S (by omega)
    obtain ⟨D1, t1, t2, t3, t4⟩ := a_side D
    obtain ⟨r, C2, D2, u1, u2, f2, g2⟩ := z_firstl hj 60 0 FU FU W T C1 D1 (by omega) (by unfold FU; omega) (by unfold FU; omega) (by omega) (by rw [t3]; exact S1)
    obtain ⟨D3, v1, v2, v3, v4⟩ := a_back D2
    refine ⟨r, C2, D3, bn_i h1 (if_pi rfl (bn_i e1 u1)), bn_i h2 (if_pi rfl (bn_i t1 (Eq.trans u2 (bn_i v1 rfl)))), z_keepG G (f1.tr f2) (fun k hk => ?_) ((t4.tr (Tr.of g2)).tr v4)⟩
    rw [v2 k hk, g2.oth 736 (by omega) (by omega), t2 k hk]
  · exact ⟨-1, C, D, bn_i h1 (if_ni (by decide) rfl), bn_i h2 (if_ni (by decide) rfl), G, fun _ _ => rfl, fun _ _ => ⟨rfl, rfl⟩⟩
theorem z_daysOfl {P K j x : Nat} {N : Nat → Nat} {was : Int32} (hj : j < K) (hx : x ≤ 60) : ∀ (d i n n' W T h : Nat) (C D : mm_M), i + d = x → d < n → d < n' → T + d < 2 ^ 30 → D.1 732 (72 + 20 * j + 10) = was + nI h → Sim okA C 67 (D.1 732) P K W T N → ∃ r C' D', fX6_daysOf_43 (nI j) (nI x) n C (nI h) (nI i) = some (r, C') ∧ fX7_daysOf_38 (nI j) (nI x) n' D was (nI i) = (bn (fX7_layBack D') fun M6 => some (r, M6)) ∧ FrC C C' 67 ∧ FrD D D' := by
  intro d
  induction d with
  | zero =>
    intro i n n' W T h C D hi hn hn' hT hh S
    obtain ⟨n, rfl⟩ : ∃ q, n = q + 1 := ⟨n - 1, by omega⟩
    obtain ⟨n', rfl⟩ : ∃ q, n' = q + 1 := ⟨n' - 1, by omega⟩
    have lK := S.bd.lK
    refine ⟨nI h, C, D, ?_, ?_, FrC.rf _ _, FrD.rf _⟩
    · rw [fX6_daysOf_43]; exact if_pi (nI_le (by omega) (by omega)) rfl
    · rw [fX7_daysOf_38]
      refine if_pi (nI_le (by omega) (by omega)) (bn_i (of_i (k := 10) (by omega) (by omega)) ?_)
      rw [hh, Int32.add_comm was, Int32.add_sub_cancel]
      exact lt_i (Eq.refl _)
  | succ d ih =>
    intro i n n' W T h C D hi hn hn' hT hh S
    obtain ⟨n, rfl⟩ : ∃ q, n = q + 1 := ⟨n - 1, by omega⟩
    obtain ⟨n', rfl⟩ : ∃ q, n' = q + 1 := ⟨n' - 1, by omega⟩
    have lP := S.bd.lP
    obtain ⟨C1, D1, pt, u1, u2, u3, hp, S1, f1, g1, hc⟩ := z_trial S (by omega) hj
    rcases hp with q | ⟨p, hp, q⟩
    · subst q
      rw [if_pos rfl, hh] at hc
      obtain ⟨r, C', D', q1, q2, q3, q4⟩ := ih (i + 1) n n' 0 (T + 1) h C1 D1 (by omega) (by omega) (by omega) (by omega) hc S1
      refine ⟨r, C', D', ?_, ?_, f1.tr q3, g1.tr q4⟩
      · rw [fX6_daysOf_43]
        refine if_ni (nI_ge (by omega) (by omega)) (bn2_i u1 (if_pi rfl (lt_i ?_)))
        rw [nI_1]; exact q1
      · rw [fX7_daysOf_38]
        refine if_ni (nI_ge (by omega) (by omega)) (bn_i u2 (lt_i ?_))
        rw [nI_1]; exact q2
    · have hn6 : ¬ pt = -6 := fun z => nI_pos (n := p) (by omega) (by rw [← q, z]; decide)
      rw [if_neg hn6, hh, Int32.add_assoc, nI_1] at hc
      obtain ⟨r, C', D', q1, q2, q3, q4⟩ := ih (i + 1) n n' 0 (T + 1) (h + 1) C1 D1 (by omega) (by omega) (by omega) (by omega) hc S1
      refine ⟨r, C', D', ?_, ?_, f1.tr q3, g1.tr q4⟩
      · rw [fX6_daysOf_43]
        refine if_ni (nI_ge (by omega) (by omega)) (bn2_i u1 (if_ni hn6 (lt_i (lt_i ?_))))
        rw [nI_1, nI_1]; exact q1
      · rw [fX7_daysOf_38]
        refine if_ni (nI_ge (by omega) (by omega)) (bn_i u2 (lt_i ?_))
        rw [nI_1]; exact q2
theorem z_daysOf {T0 : Nat} (hT0 : T0 + 60 < 2 ^ 30) (x y : Int32) : Tw T0 T0 (fun C => fX6_daysOf C x y) (fun D => fX7_daysOf D x y) := by
  intro C D G
  obtain ⟨P, K, W, T, N, hT, S⟩ := G.live
  have lK := S.bd.lK
  rcases S.cart2 x with ⟨j, hj, e, h1, h2⟩ | ⟨h1, h2⟩
  · subst e
    by_cases c0 : y < 1
    · exact ⟨-2, C, D, bn_i h1 (if_pi rfl (if_pi c0 rfl)), bn_i h2 (if_pi rfl (bn_i (in_lo c0) (if_ni (by decide) rfl))), G, fun _ _ => rfl, fun _ _ => ⟨rfl, rfl⟩⟩
    · by_cases c1 : (60 : Int32) < y
      · exact ⟨-2, C, D, bn_i h1 (if_pi rfl (if_ni c0 (if_ni (Int32.not_le.mpr c1) rfl))), bn_i h2 (if_pi rfl (bn_i (in_hi c1) (if_ni (by decide) rfl))), G, fun _ _ => rfl, fun _ _ => ⟨rfl, rfl⟩⟩
      · obtain ⟨v, hv, ev⟩ := nI_of2 (M := 60) (n := 60) rfl (ge0 c0) (Int32.not_lt.mp c1)
        subst ev
        obtain ⟨C1, e1, S1, f1⟩ := cp_all (a0 := 67) S (by omega)
        obtain ⟨D1, t1, t2, t3, t4⟩ := a_side D
        obtain ⟨r, C2, D2, u1, u2, f2, g2⟩ := z_daysOfl (was := D1.1 732 (72 + 20 * j + 10)) hj hv v 0 FU FU W T 0 C1 D1 (by omega) (by unfold FU; omega) (by unfold FU; omega) (by omega) (Int32.add_zero _).symm (by rw [t3]; exact S1)
        obtain ⟨D3, v1, v2, v3, v4⟩ := a_back D2
        refine ⟨r, C2, D3, bn_i h1 (if_pi rfl (if_ni c0 (if_pi (Int32.not_lt.mp c1) (bn_i e1 u1)))), bn_i h2 (if_pi rfl (bn_i (in_tt c0 c1) (if_pi rfl (bn_i t1 (bn_i (of_i (k := 10) (by omega) (by omega)) (Eq.trans u2 (bn_i v1 rfl))))))), z_keepG G (f1.tr f2) (fun k hk => ?_) ((t4.tr (Tr.of g2)).tr v4)⟩
        rw [v2 k hk, g2.oth 736 (by omega) (by omega), t2 k hk]
  · exact ⟨-1, C, D, bn_i h1 (if_ni (by decide) rfl), bn_i h2 (if_ni (by decide) rfl), G, fun _ _ => rfl, fun _ _ => ⟨rfl, rfl⟩⟩
theorem z_luckl {P K W T j : Nat} {N : Nat → Nat} {y : Int32} (hj : j < K) (hy : nn y P) (hT : T + 1 < 2 ^ 30) : ∀ (d i n n' : Nat) (C D : mm_M), i + d = 200 → d < n → d + 1 < n' → (∀ k, k < 3592 → D.1 736 k = D.1 732 k) → Sim okA C 1 (D.1 732) P K W T N → ∃ r C' D', fX6_luckySeed_32 (nI j) y n C (nI i) = some (r, C') ∧ fX7_luckySeed_28 (nI j) y n' D (-6) (nI i) = some (r, D') ∧ FrC C C' 67 ∧ (∀ k, k < 3592 → D'.1 732 k = D.1 732 k) ∧ Tr D D' := by
  intro d
  induction d with
  | zero =>
    intro i n n' C D hi hn hn' ha S
    obtain ⟨n, rfl⟩ : ∃ q, n = q + 1 := ⟨n - 1, by omega⟩
    obtain ⟨n', rfl⟩ : ∃ q, n' = q + 1 := ⟨n' - 1, by omega⟩
    have e : i = 200 := by omega
    subst e
    refine ⟨-6, C, D, ?_, ?_, FrC.rf _ _, fun _ _ => rfl, Tr.rf _⟩
    · rw [fX6_luckySeed_32]; exact if_pi (by decide) rfl
    · rw [fX7_luckySeed_28]; exact if_pi (by decide) rfl
  | succ d ih =>
    intro i n n' C D hi hn hn' ha S
    obtain ⟨n, rfl⟩ : ∃ q, n = q + 1 := ⟨n - 1, by omega⟩
    obtain ⟨n', rfl⟩ : ∃ q, n' = q + 1 + 1 := ⟨n' - 2, by omega⟩
    have lP := S.bd.lP
    have n200 : ¬ (200 : Int32) ≤ nI i := show ¬ nI 200 ≤ nI i from nI_ge (by omega) (by decide)
    obtain ⟨C1, e1, S1, f1⟩ := cp_all (a0 := 67) S (by omega)
    have S2 : Sim okA (sI C1 67 1 (nI i)) 67 ((sI D 732 11 (nI i)).1 732) P K W T N := by
      rw [sI_row]
      exact S1.up (Or.inl ⟨rfl, (by omega : 1 < 6), rfl⟩) (Ok_11 (by omega))
    have eL : fX5_changeLots C1 67 (nI i) = some (C1.1 67 1, sI C1 67 1 (nI i)) := if_ni (nI_pos (by omega)) (if_pi (show nI i < nI 65537 from nI_lt (by omega) (by decide)) rfl)
    obtain ⟨C3, D3, pt, u1, u2, u3, hp, S3, f3, g3, -⟩ := z_trial S2 hT hj
    obtain ⟨D4, v1, v2, v3, v4⟩ := a_back D3
    have d736 : D3.1 736 = D.1 736 := (g3.oth 736 (by omega) (by omega)).trans (by rw [sI_ap1, if_neg (by omega)])
    have r4 : ∀ k, k < 3592 → D4.1 732 k = D.1 732 k := fun k hk => by rw [v2 k hk, d736, ha k hk]
    have fC : FrC C C3 67 := (f1.tr (FrC.w (by omega))).tr f3
    have fD : Tr D D4 := ((Tr.of FrD.w).tr (Tr.of g3)).tr v4
    have S4 : Sim okA C3 1 (D4.1 732) P K W T N := (S.frame (fun o ho => fC o (by omega))).congr r4
    have cl : ∀ r, (if pt = -6 then fX6_luckySeed_32 (nI j) y n C3 (nI (i + 1)) else if y = -6 then some (nI i, C3) else if pt = y then some (nI i, C3) else fX6_luckySeed_32 (nI j) y n C3 (nI (i + 1))) = r → fX6_luckySeed_32 (nI j) y (n + 1) C (nI i) = r := fun r hr => by
      rw [fX6_luckySeed_32]
      refine if_ni n200 (bn_i e1 (bn2_i eL (bn2_i u1 ?_)))
      rw [nI_1]
      exact hr
    have ml : ∀ r, (if pt < 0 then fX7_luckySeed_28 (nI j) y (n' + 1) D4 (-6) (nI (i + 1)) else if y < 0 then fX7_luckySeed_28 (nI j) y (n' + 1) D4 (nI i) (nI (i + 1)) else if pt = y then fX7_luckySeed_28 (nI j) y (n' + 1) D4 (nI i) (nI (i + 1)) else fX7_luckySeed_28 (nI j) y (n' + 1) D4 (-6) (nI (i + 1))) = r → fX7_luckySeed_28 (nI j) y (n' + 1 + 1) D (-6) (nI i) = r := fun r hr => by
      have e84 : ∀ t0, fX7_luckySeed_84 (nI j) y (fX7_luckySeed_28 (nI j) y (n' + 1)) D3 (nI i) t0 = fX7_luckySeed_28 (nI j) y (n' + 1) D4 t0 (nI (i + 1)) := fun t0 => by
        unfold fX7_luckySeed_84
        rw [nI_1]
        exact bn_i v1 rfl
      rw [fX7_luckySeed_28]
      refine if_ni n200 (if_ni (by decide) (lt_i (bn_i u2 (bn_i u3 ?_))))
      unfold fX7_luckySeed_82 fX7_luckySeed_77
      rw [e84, e84]
      exact hr
    have fin : fX7_luckySeed_28 (nI j) y (n' + 1) D4 (nI i) (nI (i + 1)) = some (nI i, D4) := by
      rw [fX7_luckySeed_28]
      by_cases c : (200 : Int32) ≤ nI (i + 1)
      · exact if_pi c rfl
      · exact if_ni c (if_pi (nI_pos' (by omega)) rfl)
    have go : fX6_luckySeed_32 (nI j) y (n + 1) C (nI i) = fX6_luckySeed_32 (nI j) y n C3 (nI (i + 1)) → fX7_luckySeed_28 (nI j) y (n' + 1 + 1) D (-6) (nI i) = fX7_luckySeed_28 (nI j) y (n' + 1) D4 (-6) (nI (i + 1)) → ∃ r C' D', fX6_luckySeed_32 (nI j) y (n + 1) C (nI i) = some (r, C') ∧ fX7_luckySeed_28 (nI j) y (n' + 1 + 1) D (-6) (nI i) = some (r, D') ∧ FrC C C' 67 ∧ (∀ k, k < 3592 → D'.1 732 k = D.1 732 k) ∧ Tr D D' := fun z1 z2 => by
      obtain ⟨r, C', D', q1, q2, q3, q4, q5⟩ := ih (i + 1) n (n' + 1) C3 D4 (by omega) (by omega) (by omega) (fun k hk => by rw [v3, d736, ha k hk, r4 k hk]) S4
      exact ⟨r, C', D', z1.trans q1, z2.trans q2, fC.tr q3, fun k hk => (q4 k hk).trans (r4 k hk), fD.tr q5⟩
    rcases hp with h | ⟨p, hp, h⟩
    · subst h
      exact go (cl _ (if_pos rfl)) (ml _ (if_pos (by decide)))
    · subst h
      have n0 : ¬ nI p < 0 := nI_pos (by omega)
      have n6 : ¬ nI p = -6 := fun q => n0 (by rw [q]; decide)
      rw [if_neg n6] at cl
      rw [if_neg n0] at ml
      rcases hy with h | ⟨q, hq, h⟩
      · subst h
        exact ⟨nI i, C3, D4, cl _ (if_pos rfl), ml _ ((if_pos (by decide)).trans fin), fC, r4, fD⟩
      · subst h
        have m0 : ¬ nI q < 0 := nI_pos (by omega)
        have m6 : ¬ nI q = -6 := fun z => m0 (by rw [z]; decide)
        rw [if_neg m6] at cl
        rw [if_neg m0] at ml
        by_cases e : nI p = nI q
        · exact ⟨nI i, C3, D4, cl _ (if_pos e), ml _ ((if_pos e).trans fin), fC, r4, fD⟩
        · exact go (cl _ (if_neg e)) (ml _ (if_neg e))
theorem z_luckySeed {T0 : Nat} (hT0 : T0 + 60 < 2 ^ 30) (x y : Int32) : Tw T0 T0 (fun C => fX6_luckySeed C x y) (fun D => fX7_luckySeed D x y) := by
  intro C D G
  obtain ⟨P, K, W, T, N, hT, S⟩ := G.live
  have lP := S.bd.lP
  rcases S.cart2 x with ⟨j, hj, e, h1, h2⟩ | ⟨h1, h2⟩
  · subst e
    have cl : ∀ r, fX6_luckySeed_32 (nI j) y FU C 0 = r → nn y P → fX6_luckySeed C (nI j) y = r := fun r hr hy => by
      unfold fX6_luckySeed
      refine bn_i h1 (if_pi rfl ?_)
      rcases hy with h | ⟨p, hp, h⟩
      · exact if_pi h hr
      · subst h
        refine if_ni (fun q => nI_pos (n := p) (by omega) (by rw [q]; decide)) (bn_i (a := true) ?_ (if_pi rfl hr))
        have hh := z_hasP S (x := nI p) (Or.inr ⟨p, hp, rfl⟩)
        have n6 : ¬ nI p = -6 := fun q => nI_pos (n := p) (by omega) (by rw [q]; decide)
        rw [decide_eq_true n6] at hh
        exact hh
    rcases z_none S y with ⟨hy, -, z2⟩ | ⟨hy, z1, z2⟩
    · obtain ⟨D1, t1, t2, t3, t4⟩ := a_side D
      obtain ⟨r, C2, D2, u1, u2, f2, g2, g3⟩ := z_luckl (T := T) (W := W) hj hy (by omega) 200 0 FU FU C D1 (by omega) (by unfold FU; omega) (by unfold FU; omega) (fun k hk => by rw [t2 k hk, t3]) (by rw [t3]; exact S)
      refine ⟨r, C2, D2, cl _ u1 hy, bn_i h2 (if_pi rfl (bn_i z2 (if_pi rfl (bn_i t1 u2)))), z_keepG G f2 (fun k hk => ?_) (t4.tr g3)⟩
      rw [g2 k hk, t3]
    · refine ⟨-1, C, D, ?_, bn_i h2 (if_pi rfl (bn_i z2 (if_ni (by decide) rfl))), G, fun _ _ => rfl, fun _ _ => ⟨rfl, rfl⟩⟩
      have y6 : ¬ y = -6 := fun q => hy (Or.inl q)
      rcases S.hasPitch y with ⟨p, hp, e, h⟩ | ⟨-, h⟩
      · exact absurd (Or.inr ⟨p, hp, e⟩) hy
      · exact bn_i h1 (if_pi rfl (if_ni y6 (bn_i h (if_ni (by decide) rfl))))
  · exact ⟨-1, C, D, bn_i h1 (if_ni (by decide) rfl), bn_i h2 (if_ni (by decide) rfl), G, fun _ _ => rfl, fun _ _ => ⟨rfl, rfl⟩⟩
