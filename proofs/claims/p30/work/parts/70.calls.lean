/-! SIM: save, restore -/
theorem m_savel {j : Nat} (hj : j < 2) {t : Int32} : ∀ (d i n : Nat) (X : mm_M), i + d = 3592 → d < n → X.1 732 10 = t → ∃ Y, fX7_save_14 (nI j) n X (nI i) = some (t, Y) ∧ (∀ k, Y.1 734 k = if 3592 * j + i ≤ k ∧ k < 3592 * j + 3592 then X.1 732 (k - 3592 * j) else X.1 734 k) ∧ (∀ k, Y.1 735 k = if k = j then 1 else X.1 735 k) ∧ (∀ o, o ≠ 734 → o ≠ 735 → Y.1 o = X.1 o) ∧ Y.2 = X.2 := by
  intro d
  induction d with
  | zero =>
    intro i n X hi hn h0
    obtain ⟨n, rfl⟩ : ∃ q, n = q + 1 := ⟨n - 1, by omega⟩
    have e : i = 3592 := by omega
    subst e
    refine ⟨sI X 735 j 1, ?_, fun k => ?_, fun k => ?_, fun o h1 h2 => ?_, rfl⟩
    · rw [fX7_save_14]
      refine if_pi (show (3592 : Int32) ≤ nI 3592 by decide) (gd_i (ix_nI hj (by decide)) (lt_i ?_))
      rw [nI_clamp (by omega)]
      have e2 : (sI X 735 j 1).1 732 10 = t := by rw [sI_ap1, if_neg (by omega)]; exact h0
      rw [e2]
    · rw [if_neg (by omega), sI_ap1, if_neg (by omega)]
    · rw [sI_ap1, if_pos rfl]
    · rw [sI_ap1, if_neg h2]
  | succ d ih =>
    intro i n X hi hn h0
    obtain ⟨n, rfl⟩ : ∃ q, n = q + 1 := ⟨n - 1, by omega⟩
    have hc : i < 3592 := by omega
    obtain ⟨Y, eY, y4, y5, yo, yl⟩ := ih (i + 1) n (sI X 734 (3592 * j + i) (X.1 732 i)) (by omega) (by omega) (by rw [sI_ap1, if_neg (by omega)]; exact h0)
    have z2 : (sI X 734 (3592 * j + i) (X.1 732 i)).1 732 = X.1 732 := by rw [sI_ap1, if_neg (by omega)]
    have z5 : (sI X 734 (3592 * j + i) (X.1 732 i)).1 735 = X.1 735 := by rw [sI_ap1, if_neg (by omega)]
    have z4 : ∀ k, (sI X 734 (3592 * j + i) (X.1 732 i)).1 734 k = if k = 3592 * j + i then X.1 732 i else X.1 734 k := fun k => by rw [sI_ap1, if_pos rfl]
    refine ⟨Y, ?_, fun k => ?_, fun k => by rw [y5, z5], fun o h1 h2 => ?_, yl⟩
    · rw [fX7_save_14]
      refine if_ni (show ¬ nI 3592 ≤ nI i from nI_ge hc (by decide)) ?_
      have en : 3592 * nI j + nI i = nI (3592 * j + i) := mulI 3592 j i
      rw [en]
      refine gd_i (ix_nI hc (by decide)) (gd_i (ix_nI (n := 7184) (by omega) (by decide)) (lt_i (lt_i ?_)))
      rw [nI_clamp (by omega), nI_clamp (by omega), nI_1]
      exact eY
    · rw [y4, z2, z4]
      by_cases q : 3592 * j + (i + 1) ≤ k ∧ k < 3592 * j + 3592
      · simp only [if_pos q, if_pos (show 3592 * j + i ≤ k ∧ k < 3592 * j + 3592 by omega)]
      · simp only [if_neg q]
        by_cases q2 : k = 3592 * j + i
        · simp only [if_pos q2, if_pos (show 3592 * j + i ≤ k ∧ k < 3592 * j + 3592 by omega)]
          rw [show k - 3592 * j = i by omega]
        · simp only [if_neg q2, if_neg (show ¬ (3592 * j + i ≤ k ∧ k < 3592 * j + 3592) by omega)]
    · rw [yo o h1 h2, sI_ap1, if_neg h1]
theorem z_savej {T0 : Nat} {j : Nat} (hj : j < 2) {C D : mm_M} (G : Gl T0 C D) : ∃ r C' D', fX6_save_27 (nI j) C (597 + 66 * j) = some (r, C') ∧ fX7_save D (nI j) = some (r, D') ∧ Out T0 C D C' D' := by
  obtain ⟨P, K, W, T, N, hT, S⟩ := G.live
  obtain ⟨b, h, H⟩ := G.hist
  obtain ⟨Y, eY, SY, fY⟩ := cp_all (a0 := 597 + 66 * j) S (by omega)
  obtain ⟨Z, eZ, z4, z5, zo, zl⟩ := m_savel hj 3592 0 FU D rfl (by decide) S.wT
  have c0 : ∀ o, o < 597 + 66 * j ∨ 597 + 66 * j + 66 ≤ o → (sI Y (597 + 66 * j) 6 1).1 o = C.1 o ∧ (sI Y (597 + 66 * j) 6 1).2 o = C.2 o := fun o ho => ⟨by rw [sI_ap1, if_neg (by omega)]; exact (fY o ho).1, (fY o ho).2⟩
  have SZ : Sim okA (sI Y (597 + 66 * j) 6 1) (597 + 66 * j) (D.1 732) P K W T N := by
    refine ⟨SY.bd, fun o k s hl => ?_, SY.sum, SY.val⟩
    rw [← SY.eq o k s hl, sI_ap1]
    by_cases e : o = 597 + 66 * j
    · subst e
      rw [if_pos rfl]
      have hk : k ≠ 6 := by
        rcases hl with ⟨g1, g2, g3⟩ | ⟨g1, g2, g3⟩ | ⟨g1, g2, g3⟩ | ⟨g1, g2, g3⟩ | ⟨i', hi', g1, g2, g3⟩ | ⟨i', hi', g1, g2, go, g3⟩ | ⟨i', hi', g1, g2, g3⟩ | ⟨i', hi', g1, g2, g3⟩ <;> omega
      exact if_neg hk
    · rw [if_neg e]
  refine ⟨nI T, sI Y (597 + 66 * j) 6 1, Z, ?_, ?_, ⟨(G.live.frame (fun o ho => c0 o (by omega))).congr (fun k _ => by rw [zo 732 (by omega) (by omega)]), ⟨b, h, (H.frame (fun o ho => c0 o (by omega))).frameD (by rw [zo 731 (by omega) (by omega)]) (zo 733 (by omega) (by omega))⟩, fun q hq => ?_, ?_⟩, fun o ho => (c0 o (by omega)).1, fun o ho => ⟨zo o (by omega) (by omega), by rw [zl]⟩⟩
  · unfold fX6_save_27
    refine bn_i eY (lt_i ?_)
    rw [(c0 1 (by omega)).1, S.cT]
  · unfold fX7_save
    refine bn_i (in_tt (nI_pos (by omega)) (show ¬ nI 1 < nI j from nI_nlt (by omega) (by decide))) (if_pi rfl eZ)
  · by_cases e : q = j
    · subst e
      refine Or.inr ⟨?_, ?_, P, K, W, T, N, hT, SZ.congr (fun k hk => ?_)⟩
      · rw [sI_ap1, if_pos rfl, if_pos rfl]; decide
      · rw [z5, if_pos rfl]; decide
      · show Z.1 734 _ = _
        rw [z4, if_pos (by omega), show 3592 * q + k - 3592 * q = k by omega]
    · rw [(c0 (597 + 66 * q) (by omega)).1, z5, if_neg e]
      rcases G.sav q hq with g | ⟨g1, g2, g3⟩
      · exact Or.inl g
      · refine Or.inr ⟨g1, g2, (g3.frame (fun o ho => c0 o (by omega))).congr (fun k hk => ?_)⟩
        show Z.1 734 _ = _
        rw [z4, if_neg (by omega)]
  · obtain ⟨n, hn, h1, h2, h3⟩ := G.pad
    refine ⟨n, hn, by rw [(c0 729 (by omega)).1]; exact h1, by rw [zo 731 (by omega) (by omega)]; exact h2, fun i hi => ?_⟩
    rw [(c0 730 (by omega)).1, zo 737 (by omega) (by omega)]
    exact h3 i hi
theorem z_save {T0 : Nat} (x : Int32) : Tw T0 T0 (fun C => fX6_save C x) (fun D => fX7_save D x) := by
  intro C D G
  by_cases c0 : x < 0
  · exact ⟨-2, C, D, if_pi c0 rfl, bn_i (in_lo c0) (if_ni (by decide) rfl), G, fun _ _ => rfl, fun _ _ => ⟨rfl, rfl⟩⟩
  · by_cases c1 : (1 : Int32) < x
    · exact ⟨-2, C, D, if_ni c0 (if_ni (fun q => b_2.mp q c1) rfl), bn_i (in_hi c1) (if_ni (by decide) rfl), G, fun _ _ => rfl, fun _ _ => ⟨rfl, rfl⟩⟩
    · rcases b_save c0 c1 with rfl | rfl
      · obtain ⟨r, C', D', e1, e2, O⟩ := z_savej (j := 0) (by omega) G
        exact ⟨r, C', D', if_ni c0 (if_pi (by decide) (if_pi rfl e1)), e2, O⟩
      · obtain ⟨r, C', D', e1, e2, O⟩ := z_savej (j := 1) (by omega) G
        exact ⟨r, C', D', if_ni c0 (if_pi (by decide) (if_ni (by decide) e1)), e2, O⟩
theorem m_restl {j : Nat} (hj : j < 2) : ∀ (d i n : Nat) (X : mm_M), i + d = 3592 → d < n → ∃ Y, fX7_restore_30 (nI j) n X (nI i) = some (Y.1 732 10, Y) ∧ (∀ k, Y.1 732 k = if i ≤ k ∧ k < 3592 then X.1 734 (3592 * j + k) else X.1 732 k) ∧ (∀ o, o ≠ 732 → Y.1 o = X.1 o) ∧ Y.2 = X.2 := by
  intro d
  induction d with
  | zero =>
    intro i n X hi hn
    obtain ⟨n, rfl⟩ : ∃ q, n = q + 1 := ⟨n - 1, by omega⟩
    have e : i = 3592 := by omega
    subst e
    refine ⟨X, ?_, fun k => by rw [if_neg (by omega)], fun _ _ => rfl, rfl⟩
    rw [fX7_restore_30]
    exact if_pi (show (3592 : Int32) ≤ nI 3592 by decide) rfl
  | succ d ih =>
    intro i n X hi hn
    obtain ⟨n, rfl⟩ : ∃ q, n = q + 1 := ⟨n - 1, by omega⟩
    have hc : i < 3592 := by omega
    obtain ⟨Y, eY, y2, yo, yl⟩ := ih (i + 1) n (sI X 732 i (X.1 734 (3592 * j + i))) (by omega) (by omega)
    refine ⟨Y, ?_, fun k => ?_, fun o ho => ?_, yl⟩
    · rw [fX7_restore_30]
      refine if_ni (show ¬ nI 3592 ≤ nI i from nI_ge hc (by decide)) ?_
      have en : 3592 * nI j + nI i = nI (3592 * j + i) := mulI 3592 j i
      rw [en]
      refine gd_i (ix_nI (n := 7184) (by omega) (by decide)) (gd_i (ix_nI (n := 3592) (by omega) (by decide)) (lt_i (lt_i ?_)))
      rw [nI_clamp (by omega), nI_clamp (by omega), nI_1]
      exact eY
    · have z3 : (sI X 732 i (X.1 734 (3592 * j + i))).1 734 = X.1 734 := by rw [sI_ap1, if_neg (by omega)]
      have z2 : ∀ k, (sI X 732 i (X.1 734 (3592 * j + i))).1 732 k = if k = i then X.1 734 (3592 * j + i) else X.1 732 k := fun k => by rw [sI_ap1, if_pos rfl]
      rw [y2, z3, z2]
      by_cases q : i + 1 ≤ k ∧ k < 3592
      · simp only [if_pos q, if_pos (show i ≤ k ∧ k < 3592 by omega)]
      · simp only [if_neg q]
        by_cases q2 : k = i
        · subst q2
          simp only [if_pos (show k ≤ k ∧ k < 3592 by omega)]
          rfl
        · simp only [if_neg q2, if_neg (show ¬ (i ≤ k ∧ k < 3592) by omega)]
    · rw [yo o ho, sI_ap1, if_neg ho]
theorem z_restj {T0 : Nat} {j : Nat} (hj : j < 2) {C D : mm_M} (G : Gl T0 C D) : ∃ r C' D', fX6_restore_27 (nI j) C (597 + 66 * j) = some (r, C') ∧ fX7_restore D (nI j) = some (r, D') ∧ Out T0 C D C' D' := by
  have hin : fX7_in D (nI j) 0 1 = some true := in_tt (nI_pos (by omega)) (show ¬ nI 1 < nI j from nI_nlt (by omega) (by decide))
  rcases G.sav j hj with ⟨g1, g2⟩ | ⟨g1, g2, g3⟩
  · refine ⟨-5, C, D, if_pi g1 rfl, ?_, G, fun _ _ => rfl, fun _ _ => ⟨rfl, rfl⟩⟩
    refine bn_i hin (if_pi rfl (gd_i (ix_nI hj (by decide)) ?_))
    rw [nI_clamp (by omega)]
    exact if_pi g2 rfl
  · obtain ⟨b, h, H⟩ := G.hist
    obtain ⟨C1, e1, G1, H1, hp, f1⟩ := g_prep G H
    have hm := Nat.mod_lt (b + h) (show 0 < 7 by omega)
    obtain ⟨P, K, W, T, N, hT, S⟩ := g3.frame (C' := C1) (fun o ho => f1 o (by omega))
    obtain ⟨Y, eY, SY, fY⟩ := cp_all (a0 := 1) S (by omega)
    obtain ⟨D1, ek, kp⟩ := g_keep H1.lh H1.dh
    obtain ⟨Z, eZ, z2, zo, zl⟩ := m_restl hj 3592 0 FU D1 rfl (by decide)
    have d34 : D1.1 734 = D.1 734 := kp.oth 734 (by omega) (by omega)
    have zrow : ∀ k, k < 3592 → Z.1 732 k = D.1 734 (3592 * j + k) := fun k hk => by rw [z2, if_pos (by omega), d34]
    have rT : Z.1 732 10 = nI T := by rw [zrow 10 (by omega)]; exact S.wT
    have fD : FrD D1 Z := ⟨fun o h1 h2 => zo o h2, fun k _ => by rw [zo 731 (by omega)], zl⟩
    have y1 : Y.1 1 0 = nI T := SY.cT
    refine ⟨nI T, _, Z, ?_, ?_, g_change (Nat.le_refl _) G1 H1 hp fY ⟨P, K, W, T, N, hT, SY.congr (fun k hk => zrow k hk)⟩ kp fD, fun o ho => ?_, fun o ho => ⟨?_, ?_⟩⟩
    · refine if_ni g1 (bn_i e1 (bn_i eY ?_))
      rw [y1]
      exact bn2_i (g_rec (nI_pos (by have := S.bd.lT; omega)) H1.lb H1.lh (by rw [(fY 133 (by omega)).1]; exact H1.cb) (by rw [(fY 133 (by omega)).1]; exact H1.ch)) rfl
    · refine bn_i hin (if_pi rfl (gd_i (ix_nI hj (by decide)) ?_))
      rw [nI_clamp (by omega)]
      refine if_ni g2 (bn_i ek ?_)
      rw [← rT]
      exact eZ
    · by_cases e : h = 6
      · rw [if_pos e, sI_ap1, if_neg (by omega), (fY o (by omega)).1, (f1 o (by omega)).1]
      · rw [if_neg e, sI_ap1, if_neg (by omega), (fY o (by omega)).1, (f1 o (by omega)).1]
    · rw [zo o (by omega), kp.oth o (by omega) (by omega)]
    · rw [zl, kp.lng]
theorem z_restore {T0 : Nat} (x : Int32) : Tw T0 T0 (fun C => fX6_restore C x) (fun D => fX7_restore D x) := by
  intro C D G
  by_cases c0 : x < 0
  · exact ⟨-2, C, D, if_pi c0 rfl, bn_i (in_lo c0) (if_ni (by decide) rfl), G, fun _ _ => rfl, fun _ _ => ⟨rfl, rfl⟩⟩
  · by_cases c1 : (1 : Int32) < x
    · exact ⟨-2, C, D, if_ni c0 (if_ni (fun q => b_2.mp q c1) rfl), bn_i (in_hi c1) (if_ni (by decide) rfl), G, fun _ _ => rfl, fun _ _ => ⟨rfl, rfl⟩⟩
    · rcases b_save c0 c1 with rfl | rfl
      · obtain ⟨r, C', D', e1, e2, O⟩ := z_restj (j := 0) (by omega) G
        exact ⟨r, C', D', if_ni c0 (if_pi (by decide) (if_pi rfl e1)), e2, O⟩
      · obtain ⟨r, C', D', e1, e2, O⟩ := z_restj (j := 1) (by omega) G
        exact ⟨r, C', D', if_ni c0 (if_pi (by decide) (if_ni (by decide) e1)), e2, O⟩
