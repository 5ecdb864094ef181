/-! SIM: the whole State is copied -/
abbrev CE (Y : mm_M) (c : Nat) (M : mm_M) (c' : Nat) : Prop := (∀ k, k < 12 → Y.1 c k = M.1 c' k) ∧ (∀ k, k < 3 → Y.1 (c + 1) k = M.1 (c' + 1) k) ∧ (∀ k, k < 200 → Y.1 (c + 2) k = M.1 (c' + 2) k) ∧ (∀ k, k < 4 → Y.2 c (12 + k) = M.2 c' (12 + k))
theorem CE.own {Y : mm_M} {c : Nat} {M : mm_M} {c' : Nat} (h : CE Y c M c') : ∀ k, k < 12 → Y.1 c k = M.1 c' k := h.1
theorem CE.wsh {Y : mm_M} {c : Nat} {M : mm_M} {c' : Nat} (h : CE Y c M c') : ∀ k, k < 3 → Y.1 (c + 1) k = M.1 (c' + 1) k := h.2.1
theorem CE.pts {Y : mm_M} {c : Nat} {M : mm_M} {c' : Nat} (h : CE Y c M c') : ∀ k, k < 200 → Y.1 (c + 2) k = M.1 (c' + 2) k := h.2.2.1
theorem CE.lng {Y : mm_M} {c : Nat} {M : mm_M} {c' : Nat} (h : CE Y c M c') : ∀ k, k < 4 → Y.2 c (12 + k) = M.2 c' (12 + k) := h.2.2.2
theorem cp_126 {M : mm_M} {a0 a1 K : Nat} (hd : a0 + 66 ≤ a1 ∨ a1 + 66 ≤ a0) (lK : K ≤ 16) (hw : ∀ i, i < K → M.1 (a1 + 18 + 3 * i) 5 = 0 ∨ M.1 (a1 + 18 + 3 * i) 5 = 1) : ∀ (d i n : Nat) (X : mm_M), i + d = K → d < n → X.1 a0 3 = nI K → (∀ o, a1 ≤ o ∧ o < a1 + 66 → X.1 o = M.1 o ∧ X.2 o = M.2 o) → ∃ Y, fX5_copyFrom_126 a0 a1 n X (nI i) = some Y ∧ (∀ j, i ≤ j → j < K → CE Y (a0 + 18 + 3 * j) M (a1 + 18 + 3 * j)) ∧ (∀ o, ¬ (a0 + 18 + 3 * i ≤ o ∧ o < a0 + 66) → Y.1 o = X.1 o ∧ Y.2 o = X.2 o) := by
  intro d
  induction d with
  | zero =>
    intro i n X hi hn h3 hX
    obtain ⟨n, rfl⟩ : ∃ q, n = q + 1 := ⟨n - 1, by omega⟩
    have e : i = K := by omega
    subst e
    refine ⟨X, ?_, fun j h1 h2 => absurd h1 (by omega), fun _ _ => ⟨rfl, rfl⟩⟩
    rw [fX5_copyFrom_126, h3]
    exact if_pi (Int32.le_refl _) rfl
  | succ d ih =>
    intro i n X hi hn h3 hX
    obtain ⟨n, rfl⟩ : ∃ q, n = q + 1 := ⟨n - 1, by omega⟩
    have hc : i < K := by omega
    have hs := hX (a1 + 18 + 3 * i) (by omega)
    obtain ⟨Z, eZ, hZ⟩ := cp_cart (M := X) (c := a0 + 18 + 3 * i) (c' := a1 + 18 + 3 * i) (by omega) (by rw [hs.1]; exact hw i hc)
    obtain ⟨Y, eY, hY, oY⟩ := ih (i + 1) n Z (by omega) (by omega) (by rw [(hZ.oth a0 (by omega)).1, h3]) (fun o ho => by
      obtain ⟨q1, q2⟩ := hZ.oth o (by omega)
      obtain ⟨q3, q4⟩ := hX o ho
      exact ⟨q1.trans q3, q2.trans q4⟩)
    refine ⟨Y, ?_, fun j h1 h2 => ?_, fun o ho => ?_⟩
    · rw [fX5_copyFrom_126, h3]
      refine if_ni (nI_ge hc (by omega)) (gd_i (ix_nI (n := 16) (by omega) (by decide)) ?_)
      rw [nI_clamp (by omega)]
      refine bn_i eZ (lt_i ?_)
      rw [nI_1]
      exact eY
    · by_cases e : j = i
      · subst e
        have o0 := oY (a0 + 18 + 3 * j) (by omega)
        have o1 := oY (a0 + 18 + 3 * j + 1) (by omega)
        have o2 := oY (a0 + 18 + 3 * j + 2) (by omega)
        refine ⟨fun k hk => ?_, fun k hk => ?_, fun k hk => ?_, fun k hk => ?_⟩
        · rw [o0.1, hZ.own k hk, hs.1]
        · rw [o1.1, hZ.wsh k hk, (hX (a1 + 18 + 3 * j + 1) (by omega)).1]
        · rw [o2.1, hZ.pts k hk, (hX (a1 + 18 + 3 * j + 2) (by omega)).1]
        · rw [o0.2, hZ.lng k hk, hs.2]
      · exact hY j (by omega) h2
    · obtain ⟨q1, q2⟩ := oY o (by omega)
      obtain ⟨q3, q4⟩ := hZ.oth o (by omega)
      exact ⟨q1.trans q3, q2.trans q4⟩
theorem cp_95 {M : mm_M} {a0 a1 P K : Nat} (hd : a0 + 66 ≤ a1 ∨ a1 + 66 ≤ a0) (lP : P ≤ 10) (lK : K ≤ 16) (hw : ∀ i, i < K → M.1 (a1 + 18 + 3 * i) 5 = 0 ∨ M.1 (a1 + 18 + 3 * i) 5 = 1) : ∀ (d i n : Nat) (X : mm_M), i + d = P → d < n → X.1 a0 2 = nI P → X.1 a0 3 = nI K → (∀ o, a1 ≤ o ∧ o < a1 + 66 → X.1 o = M.1 o ∧ X.2 o = M.2 o) → ∃ Y, fX5_copyFrom_95 a0 a1 n X (nI i) = some Y ∧ (∀ j, i ≤ j → j < P → ∀ k, k < 4 → Y.1 (a0 + 8 + j) k = M.1 (a1 + 8 + j) k) ∧ (∀ j, j < K → CE Y (a0 + 18 + 3 * j) M (a1 + 18 + 3 * j)) ∧ (∀ o, ¬ (a0 + 8 + i ≤ o ∧ o < a0 + 66) → Y.1 o = X.1 o ∧ Y.2 o = X.2 o) := by
  intro d
  induction d with
  | zero =>
    intro i n X hi hn h2 h3 hX
    obtain ⟨n, rfl⟩ : ∃ q, n = q + 1 := ⟨n - 1, by omega⟩
    have e : i = P := by omega
    subst e
    obtain ⟨Y, eY, hY, oY⟩ := cp_126 hd lK hw K 0 FU X (by omega) (by unfold FU; omega) h3 hX
    refine ⟨Y, ?_, fun j h1 h2 => absurd h1 (by omega), fun j hj => hY j (by omega) hj, fun o ho => oY o (by omega)⟩
    rw [fX5_copyFrom_95, h2]
    exact if_pi (Int32.le_refl _) eY
  | succ d ih =>
    intro i n X hi hn h2 h3 hX
    obtain ⟨n, rfl⟩ : ∃ q, n = q + 1 := ⟨n - 1, by omega⟩
    have hc : i < P := by omega
    obtain ⟨Z, eZ, hZ⟩ := cp_pitch (M := X) (c := a0 + 8 + i) (c' := a1 + 8 + i) (by omega)
    obtain ⟨Y, eY, hY, hK, oY⟩ := ih (i + 1) n Z (by omega) (by omega) (by rw [hZ.oth a0 (by omega), h2]) (by rw [hZ.oth a0 (by omega), h3]) (fun o ho => by
      obtain ⟨q3, q4⟩ := hX o ho
      exact ⟨(hZ.oth o (by omega)).trans q3, by rw [hZ.lng]; exact q4⟩)
    refine ⟨Y, ?_, fun j h1 h2 k hk => ?_, hK, fun o ho => ?_⟩
    · rw [fX5_copyFrom_95, h2]
      refine if_ni (nI_ge hc (by omega)) (gd_i (ix_nI (n := 10) (by omega) (by decide)) ?_)
      rw [nI_clamp (by omega)]
      refine bn_i eZ (lt_i ?_)
      rw [nI_1]
      exact eY
    · by_cases e : j = i
      · subst e
        rw [(oY (a0 + 8 + j) (by omega)).1, hZ.own k hk, (hX (a1 + 8 + j) (by omega)).1]
      · exact hY j (by omega) h2 k hk
    · obtain ⟨q1, q2⟩ := oY o (by omega)
      exact ⟨q1.trans (hZ.oth o (by omega)), by rw [q2, hZ.lng]⟩
set_option maxHeartbeats 2000000 in
theorem cp_all {M : mm_M} {a0 a1 : Nat} {w : Nat → Int32} {P K W T : Nat} {N : Nat → Nat} (S : Sim okA M a1 w P K W T N) (hd : a0 + 66 ≤ a1 ∨ a1 + 66 ≤ a0) : ∃ Y, fX5_copyFrom M a0 a1 = some Y ∧ Sim okA Y a0 w P K W T N ∧ FrC M Y a0 := by
  have hn : a1 ≠ a0 := by omega
  have hw : ∀ i, i < K → M.1 (a1 + 18 + 3 * i) 5 = 0 ∨ M.1 (a1 + 18 + 3 * i) 5 = 1 := fun i hi => by
    rw [S.eq (a1 + 18 + 3 * i) 5 (72 + 20 * i + 8) (Or.inr (Or.inr (Or.inr (Or.inr (Or.inr (Or.inl ⟨i, hi, rfl, by omega, trivial, rfl⟩))))))]
    exact (S.val _).wai i hi rfl
  have h6 : Cp M a0 a1 6 (sI (sI (sI (sI (sI (sI M a0 0 (M.1 a1 0)) a0 1 (M.1 a1 1)) a0 2 (M.1 a1 2)) a0 3 (M.1 a1 3)) a0 4 (M.1 a1 4)) a0 5 (M.1 a1 5)) := Cp.z.s.s.s.s.s.s
  have h1 : Cp M a0 a1 1 (sI M a0 0 (M.1 a1 0)) := Cp.z.s
  have h2 := h1.s
  have h3 := h2.s
  have h4 := h3.s
  have h5 := h4.s
  obtain ⟨X, eX⟩ : ∃ X, X = sI (sI (sI (sI (sI (sI M a0 0 (M.1 a1 0)) a0 1 (M.1 a1 1)) a0 2 (M.1 a1 2)) a0 3 (M.1 a1 3)) a0 4 (M.1 a1 4)) a0 5 (M.1 a1 5) := ⟨_, rfl⟩
  rw [← eX] at h6
  obtain ⟨Y1, f1⟩ : ∃ Z, Z = sC X (a0 + 1) (fun j => if j < 10 then X.1 (a1 + 1) j else X.1 (a0 + 1) j) := ⟨_, rfl⟩
  obtain ⟨Y2, f2⟩ : ∃ Z, Z = sC Y1 (a0 + 4) (fun j => if j < 8 then Y1.1 (a1 + 4) j else Y1.1 (a0 + 4) j) := ⟨_, rfl⟩
  obtain ⟨Y3, f3⟩ : ∃ Z, Z = sC Y2 (a0 + 5) (fun j => if j < 8 then Y2.1 (a1 + 5) j else Y2.1 (a0 + 5) j) := ⟨_, rfl⟩
  have y1 : ∀ o, o ≠ a0 + 1 → Y1.1 o = X.1 o := fun o ho => by rw [f1, sC_ap1, if_neg ho]
  have y2 : ∀ o, o ≠ a0 + 4 → Y2.1 o = Y1.1 o := fun o ho => by rw [f2, sC_ap1, if_neg ho]
  have y3 : ∀ o, o ≠ a0 + 5 → Y3.1 o = Y2.1 o := fun o ho => by rw [f3, sC_ap1, if_neg ho]
  have yl : Y3.2 = M.2 := by rw [f3, f2, f1]; exact h6.lng
  have ya : ∀ k, Y3.1 a0 k = X.1 a0 k := fun k => by rw [y3 a0 (by omega), y2 a0 (by omega), y1 a0 (by omega)]
  have yo : ∀ o, (o < a0 ∨ a0 + 6 ≤ o) → Y3.1 o = M.1 o := fun o ho => by rw [y3 o (by omega), y2 o (by omega), y1 o (by omega), h6.oth o (by omega)]
  obtain ⟨Y, eY, hP, hK, oY⟩ := cp_95 (M := M) hd S.bd.lP S.bd.lK hw P 0 FU Y3 (by omega) (by have := S.bd.lP; unfold FU; omega) (by rw [ya, h6.own 2 (by omega), S.cP]) (by rw [ya, h6.own 3 (by omega), S.cK]) (fun o ho => ⟨yo o (by omega), by rw [yl]⟩)
  refine ⟨Y, ?_, ⟨S.bd, fun o k j h => ?_, fun i hi k hk => ?_, S.val⟩, fun o ho => ?_⟩
  · unfold fX5_copyFrom
    refine lt_i ?_
    rw [h1.r hn]
    refine lt_i ?_
    rw [h2.r hn]
    refine lt_i ?_
    rw [h3.r hn]
    refine lt_i ?_
    rw [h4.r hn]
    refine lt_i ?_
    rw [h5.r hn]
    refine lt_i ?_
    rw [← eX, ← f1]
    refine lt_i ?_
    rw [← f2]
    refine lt_i ?_
    rw [← f3]
    exact lt_i eY
  · rcases h with ⟨g1, g2, g3⟩ | ⟨g1, g2, g3⟩ | ⟨g1, g2, g3⟩ | ⟨g1, g2, g3⟩ | ⟨i, hi, g1, g2, g3⟩ | ⟨i, hi, g1, g2, go, g3⟩ | ⟨i, hi, g1, g2, g3⟩ | ⟨i, hi, g1, g2, g3⟩
    · subst g1
      rw [(oY o (by omega)).1, ya, h6.own k g2]
      exact S.eq a1 k j (Or.inl ⟨rfl, g2, g3⟩)
    · subst g1
      rw [(oY (a0 + 1) (by omega)).1, y3 (a0 + 1) (by omega), y2 (a0 + 1) (by omega), f1, sC_ap1, if_pos rfl]
      show (if k < 10 then X.1 (a1 + 1) k else X.1 (a0 + 1) k) = _
      rw [if_pos g2, h6.oth (a1 + 1) (by omega)]
      exact S.eq (a1 + 1) k j (Or.inr (Or.inl ⟨rfl, g2, g3⟩))
    · subst g1
      rw [(oY (a0 + 4) (by omega)).1, y3 (a0 + 4) (by omega), f2, sC_ap1, if_pos rfl]
      show (if k < 8 then Y1.1 (a1 + 4) k else Y1.1 (a0 + 4) k) = _
      rw [if_pos (by have := S.bd.lW; omega), y1 (a1 + 4) (by omega), h6.oth (a1 + 4) (by omega)]
      exact S.eq (a1 + 4) k j (Or.inr (Or.inr (Or.inl ⟨rfl, g2, g3⟩)))
    · subst g1
      rw [(oY (a0 + 5) (by omega)).1, f3, sC_ap1, if_pos rfl]
      show (if k < 8 then Y2.1 (a1 + 5) k else Y2.1 (a0 + 5) k) = _
      rw [if_pos (by have := S.bd.lW; omega), y2 (a1 + 5) (by omega), y1 (a1 + 5) (by omega), h6.oth (a1 + 5) (by omega)]
      exact S.eq (a1 + 5) k j (Or.inr (Or.inr (Or.inr (Or.inl ⟨rfl, g2, g3⟩))))
    · subst g1
      rw [hP i (by omega) hi k g2]
      exact S.eq (a1 + 8 + i) k j (Or.inr (Or.inr (Or.inr (Or.inr (Or.inl ⟨i, hi, rfl, g2, g3⟩)))))
    · subst g1
      rw [(hK i hi).own k g2]
      exact S.eq (a1 + 18 + 3 * i) k j (Or.inr (Or.inr (Or.inr (Or.inr (Or.inr (Or.inl ⟨i, hi, rfl, g2, go, g3⟩))))))
    · subst g1
      rw [(hK i hi).wsh k (by have := S.bd.lN i; omega)]
      exact S.eq (a1 + 18 + 3 * i + 1) k j (Or.inr (Or.inr (Or.inr (Or.inr (Or.inr (Or.inr (Or.inl ⟨i, hi, rfl, g2, g3⟩)))))))
    · subst g1
      rw [(hK i hi).pts k g2]
      exact S.eq (a1 + 18 + 3 * i + 2) k j (Or.inr (Or.inr (Or.inr (Or.inr (Or.inr (Or.inr (Or.inr ⟨i, hi, rfl, g2, g3⟩)))))))
  · rw [(hK i hi).lng k hk]
    exact S.sum i hi k hk
  · obtain ⟨q1, q2⟩ := oY o (by omega)
    exact ⟨q1.trans (yo o (by omega)), by rw [q2, yl]⟩
