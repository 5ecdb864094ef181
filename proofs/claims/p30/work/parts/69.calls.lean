/-! SIM: wipe, undo, save, restore -/
theorem Hist.frameD {T0 b h : Nat} {C D D' : mm_M} (H : Hist T0 b h C D) (f2 : D'.1 731 2 = D.1 731 2) (f3 : D'.1 733 = D.1 733) : Hist T0 b h C D' := ⟨H.lb, H.lh, H.cb, H.ch, by rw [f2]; exact H.dh, fun j hj => (H.row j hj).congr (fun k _ => by show D'.1 733 _ = _; rw [f3])⟩
theorem Sav.frameD {T0 : Nat} {C D D' : mm_M} (H : Sav T0 C D) (f4 : D'.1 734 = D.1 734) (f5 : D'.1 735 = D.1 735) : Sav T0 C D' := fun q hq => by
  rw [f5, f4]
  exact H q hq
theorem z_wipe {T0 : Nat} : Tw T0 T0 fX6_wipe fX7_wipe := by
  intro C D G
  obtain ⟨n, hn, h1, h2, h3⟩ := G.pad
  obtain ⟨b, h, H⟩ := G.hist
  have d0 : ∀ o, o ≠ 731 → (sI D 731 7 0).1 o = D.1 o := fun o ho => by rw [sI_ap1, if_neg ho]
  have c0 : ∀ o, o ≠ 729 → (sI C 729 1 0).1 o = C.1 o ∧ (sI C 729 1 0).2 o = C.2 o := fun o ho => ⟨by rw [sI_ap1, if_neg ho], rfl⟩
  have d2 : (sI D 731 7 0).1 731 2 = D.1 731 2 := by rw [sI_ap1, if_pos rfl]; rfl
  refine ⟨nI n, sI C 729 1 0, sI D 731 7 0, ?_, ?_, ⟨(G.live.frame (fun o ho => c0 o (by omega))).congr (fun k _ => by rw [d0 732 (by omega)]), ⟨b, h, (H.frame (fun o ho => c0 o (by omega))).frameD d2 (d0 733 (by omega))⟩, (G.sav.frame (fun o ho => c0 o (by omega))).frameD (d0 734 (by omega)) (d0 735 (by omega)), ⟨0, by omega, ?_, ?_, fun i hi => absurd hi (by omega)⟩⟩, fun o ho => (c0 o (by omega)).1, fun o ho => ⟨d0 o (by omega), rfl⟩⟩
  · unfold fX6_wipe
    rw [h1]; rfl
  · unfold fX7_wipe
    rw [h2]; rfl
  · rw [sI_ap1, if_pos rfl, if_pos rfl]; rfl
  · rw [sI_ap1, if_pos rfl, if_pos rfl]; rfl
theorem m_undol {h : Nat} (lh : h < 6) : ∀ (d i n : Nat) (X : mm_M), i + d = 3592 → d < n → X.1 731 2 = nI h → ∃ Y, fX7_undo_22 n X (nI i) = some (nI h, Y) ∧ (∀ k, Y.1 732 k = if i ≤ k ∧ k < 3592 then X.1 733 (3592 * h + k) else X.1 732 k) ∧ (∀ o, o ≠ 732 → Y.1 o = X.1 o) ∧ Y.2 = X.2 := by
  intro d
  induction d with
  | zero =>
    intro i n X hi hn h2
    obtain ⟨n, rfl⟩ : ∃ q, n = q + 1 := ⟨n - 1, by omega⟩
    have e : i = 3592 := by omega
    subst e
    refine ⟨X, ?_, fun k => by rw [if_neg (by omega)], fun _ _ => rfl, rfl⟩
    rw [fX7_undo_22, h2]
    exact if_pi (show (3592 : Int32) ≤ nI 3592 by decide) rfl
  | succ d ih =>
    intro i n X hi hn h2
    obtain ⟨n, rfl⟩ : ∃ q, n = q + 1 := ⟨n - 1, by omega⟩
    have hc : i < 3592 := by omega
    obtain ⟨Y, eY, y2, yo, yl⟩ := ih (i + 1) n (sI X 732 i (X.1 733 (3592 * h + i))) (by omega) (by omega) (by rw [sI_ap1, if_neg (by omega)]; exact h2)
    refine ⟨Y, ?_, fun k => ?_, fun o ho => ?_, yl⟩
    · rw [fX7_undo_22, h2]
      refine if_ni (show ¬ nI 3592 ≤ nI i from nI_ge hc (by decide)) ?_
      have en : 3592 * nI h + nI i = nI (3592 * h + i) := mulI 3592 h i
      rw [en]
      refine gd_i (ix_nI (n := 21552) (by omega) (by decide)) (gd_i (ix_nI (n := 3592) (by omega) (by decide)) (lt_i (lt_i ?_)))
      rw [nI_clamp (by omega), nI_clamp (by omega), nI_1]
      exact eY
    · have z3 : (sI X 732 i (X.1 733 (3592 * h + i))).1 733 = X.1 733 := by rw [sI_ap1, if_neg (by omega)]
      have z2 : ∀ k, (sI X 732 i (X.1 733 (3592 * h + i))).1 732 k = if k = i then X.1 733 (3592 * h + i) else X.1 732 k := fun k => by rw [sI_ap1, if_pos rfl]
      rw [y2, z3, z2]
      by_cases q : i + 1 ≤ k ∧ k < 3592
      · simp only [if_pos q, if_pos (show i ≤ k ∧ k < 3592 by omega)]
      · simp only [if_neg q]
        by_cases q2 : k = i
        · subst q2
          simp only [if_pos (show k ≤ k ∧ k < 3592 by omega)]
          rfl
        · simp only [if_neg q2, if_neg (show ¬ (i ≤ k ∧ k < 3592) by omega)]
    · rw [yo o ho, sI_ap1, if_neg ho]
theorem z_undo {T0 : Nat} : Tw T0 T0 fX6_undo fX7_undo := by
  intro C D G
  obtain ⟨b, h, H⟩ := G.hist
  have lb := H.lb
  have lh := H.lh
  by_cases h0 : h = 0
  · subst h0
    exact ⟨-5, C, D, if_pi H.ch rfl, if_pi H.dh rfl, G, fun _ _ => rfl, fun _ _ => ⟨rfl, rfl⟩⟩
  · obtain ⟨g, rfl⟩ : ∃ g, h = g + 1 := ⟨h - 1, by omega⟩
    have hg : nI (g + 1) - 1 = nI g := by rw [← nI_1, Int32.add_sub_cancel]
    have c0 : ∀ o, o ≠ 133 → (sI C 133 2 (nI g)).1 o = C.1 o ∧ (sI C 133 2 (nI g)).2 o = C.2 o := fun o ho => ⟨by rw [sI_ap1, if_neg ho], rfl⟩
    have c1 : (sI C 133 2 (nI g)).1 133 1 = nI b := by rw [sI_ap1, if_pos rfl]; exact H.cb
    have c2 : (sI C 133 2 (nI g)).1 133 2 = nI g := by rw [sI_ap1, if_pos rfl, if_pos rfl]
    have hm := Nat.mod_lt (b + g) (show 0 < 7 by omega)
    obtain ⟨P, K, W, T, N, hT, S⟩ := (H.row g (by omega)).frame (C' := sI C 133 2 (nI g)) (fun o ho => c0 o (by omega))
    obtain ⟨Y, eY, SY, fY⟩ := cp_all (a0 := 1) S (by omega)
    obtain ⟨Z, eZ, z2, zo, zl⟩ := m_undol (h := g) (by omega) 3592 0 FU (sI D 731 2 (nI g)) rfl (by decide) (by rw [sI_ap1, if_pos rfl, if_pos rfl])
    have d3 : (sI D 731 2 (nI g)).1 733 = D.1 733 := by rw [sI_ap1, if_neg (by omega)]
    have zo' : ∀ o, o ≠ 731 → o ≠ 732 → Z.1 o = D.1 o := fun o h1 h2 => by rw [zo o h2, sI_ap1, if_neg h1]
    have yo' : ∀ o, 67 ≤ o → o ≠ 133 → Y.1 o = C.1 o ∧ Y.2 o = C.2 o := fun o h1 h2 => ⟨(fY o (by omega)).1.trans (c0 o h2).1, (fY o (by omega)).2.trans (c0 o h2).2⟩
    refine ⟨nI g, Y, Z, ?_, ?_, ⟨⟨P, K, W, T, N, hT, SY.congr (fun k hk => ?_)⟩, ⟨b, g, lb, by omega, by rw [(fY 133 (by omega)).1]; exact c1, by rw [(fY 133 (by omega)).1]; exact c2, ?_, fun j hj => ?_⟩, ?_, ?_⟩, fun o ho => (yo' o (by omega) (by omega)).1, fun o ho => ⟨zo' o (by omega) (by omega), by rw [zl]; rfl⟩⟩
    · unfold fX6_undo fX2_takeBack
      rw [H.ch]
      refine if_ni (nI_ne0 (by omega) (by omega)) ?_
      refine bn_i (a := Y) (if_ni (nI_nle (by omega) (by omega)) ?_) ?_
      · rw [hg]
        refine lt_i ?_
        rw [c1, c2, nI_add, mod7 (b + g) (by omega)]
        refine gd_i (ix_nI (n := 7) hm (by decide)) ?_
        rw [nI_clamp (by omega)]
        exact bn_i eY rfl
      · rw [(fY 133 (by omega)).1, c2]
    · unfold fX7_undo
      rw [H.dh]
      refine if_ni (nI_ne0 (by omega) (by omega)) ?_
      rw [hg]
      exact lt_i eZ
    · rw [z2, if_pos (by omega), d3]
    · rw [zo 731 (by omega), sI_ap1, if_pos rfl, if_pos rfl]
    · have hm' := Nat.mod_lt (b + j) (show 0 < 7 by omega)
      refine ((H.row j (by omega)).frame (fun o ho => yo' o (by omega) (by omega))).congr (fun k _ => ?_)
      show Z.1 733 _ = _
      rw [zo' 733 (by omega) (by omega)]
    · exact (G.sav.frame (fun o ho => yo' o (by omega) (by omega))).frameD (zo' 734 (by omega) (by omega)) (zo' 735 (by omega) (by omega))
    · obtain ⟨n, hn, h1, h2, h3⟩ := G.pad
      refine ⟨n, hn, by rw [(yo' 729 (by omega) (by omega)).1]; exact h1, ?_, fun i hi => ?_⟩
      · rw [zo 731 (by omega), sI_ap1, if_pos rfl, if_neg (by omega)]; exact h2
      · rw [(yo' 730 (by omega) (by omega)).1, zo' 737 (by omega) (by omega)]; exact h3 i hi
