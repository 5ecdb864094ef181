/-! SIM: a State is copied -/
theorem sC_ap1 (M : mm_M) (o : Nat) (f : Nat → Int32) (o' : Nat) : (sC M o f).1 o' = if o' = o then f else M.1 o' := by
  funext k'
  show (if o' = o then f k' else M.1 o' k') = _
  by_cases h : o' = o <;> simp [h]
theorem sL_ap2 (M : mm_M) (o k : Nat) (v : Int64) (o' : Nat) : (sL M o k v).2 o' = if o' = o then (fun k' => if k' = k then v else M.2 o' k') else M.2 o' := by
  funext k'
  by_cases h : o' = o <;> simp [sL, h]
/-- X is M but at the place c, where the first i ints are those of c' -/
abbrev Cp (M : mm_M) (c c' i : Nat) (X : mm_M) : Prop := (∀ k, k < i → X.1 c k = M.1 c' k) ∧ (∀ o, o ≠ c → X.1 o = M.1 o) ∧ (X.2 = M.2)
theorem Cp.own {M : mm_M} {c c' i : Nat} {X : mm_M} (h : Cp M c c' i X) : ∀ k, k < i → X.1 c k = M.1 c' k := h.1
theorem Cp.oth {M : mm_M} {c c' i : Nat} {X : mm_M} (h : Cp M c c' i X) : ∀ o, o ≠ c → X.1 o = M.1 o := h.2.1
theorem Cp.lng {M : mm_M} {c c' i : Nat} {X : mm_M} (h : Cp M c c' i X) : X.2 = M.2 := h.2.2
theorem Cp.z {M : mm_M} {c c' : Nat} : Cp M c c' 0 M := ⟨fun _ h => absurd h (by omega), fun _ _ => rfl, rfl⟩
theorem Cp.s {M X : mm_M} {c c' i : Nat} (h : Cp M c c' i X) : Cp M c c' (i + 1) (sI X c i (M.1 c' i)) := by
  refine ⟨fun k hk => ?_, fun o ho => ?_, h.lng⟩
  · rw [sI_ap1, if_pos rfl]
    by_cases e : k = i
    · subst e; rw [if_pos rfl]
    · rw [if_neg e]; exact h.own k (by omega)
  · rw [sI_ap1, if_neg ho]; exact h.oth o ho
theorem Cp.r {M X : mm_M} {c c' i : Nat} (h : Cp M c c' i X) (hne : c' ≠ c) (k : Nat) : X.1 c' k = M.1 c' k := by rw [h.oth c' hne]
/-- a pitch is copied -/
theorem cp_pitch {M : mm_M} {c c' : Nat} (hne : c' ≠ c) : ∃ X, fX4_copyFrom M c c' = some X ∧ Cp M c c' 4 X := by
  have h0 : Cp M c c' 0 M := Cp.z
  have h1 := h0.s
  have h2 := h1.s
  have h3 := h2.s
  have h4 := h3.s
  refine ⟨_, ?_, h4⟩
  unfold fX4_copyFrom
  refine lt_i ?_
  rw [h1.r hne]
  refine lt_i ?_
  rw [h2.r hne]
  refine lt_i ?_
  rw [h3.r hne]
  rfl
/-- a cart is copied -/
abbrev Cq (M : mm_M) (c c' : Nat) (X : mm_M) : Prop := (∀ k, k < 12 → X.1 c k = M.1 c' k) ∧ (∀ k, k < 3 → X.1 (c + 1) k = M.1 (c' + 1) k) ∧ (∀ k, k < 200 → X.1 (c + 2) k = M.1 (c' + 2) k) ∧ (∀ k, k < 4 → X.2 c (12 + k) = M.2 c' (12 + k)) ∧ (∀ o, (o < c ∨ c + 3 ≤ o) → X.1 o = M.1 o ∧ X.2 o = M.2 o)
theorem Cq.own {M : mm_M} {c c' : Nat} {X : mm_M} (h : Cq M c c' X) : ∀ k, k < 12 → X.1 c k = M.1 c' k := h.1
theorem Cq.wsh {M : mm_M} {c c' : Nat} {X : mm_M} (h : Cq M c c' X) : ∀ k, k < 3 → X.1 (c + 1) k = M.1 (c' + 1) k := h.2.1
theorem Cq.pts {M : mm_M} {c c' : Nat} {X : mm_M} (h : Cq M c c' X) : ∀ k, k < 200 → X.1 (c + 2) k = M.1 (c' + 2) k := h.2.2.1
theorem Cq.lng {M : mm_M} {c c' : Nat} {X : mm_M} (h : Cq M c c' X) : ∀ k, k < 4 → X.2 c (12 + k) = M.2 c' (12 + k) := h.2.2.2.1
theorem Cq.oth {M : mm_M} {c c' : Nat} {X : mm_M} (h : Cq M c c' X) : ∀ o, (o < c ∨ c + 3 ≤ o) → X.1 o = M.1 o ∧ X.2 o = M.2 o := h.2.2.2.2
set_option maxHeartbeats 2000000 in
theorem cp_cart {M : mm_M} {c c' : Nat} (hne : c + 3 ≤ c' ∨ c' + 3 ≤ c) (hw : M.1 c' 5 = 0 ∨ M.1 c' 5 = 1) : ∃ X, fX0_copyFrom M c c' = some X ∧ Cq M c c' X := by
  have hn : c' ≠ c := by omega
  unfold fX0_copyFrom
  have h0 : Cp M c c' 0 M := Cp.z
  obtain ⟨X1, e1⟩ : ∃ X, X = sI M c 0 (M.1 c' 0) := ⟨_, rfl⟩
  have h1 : Cp M c c' 1 X1 := by rw [e1]; exact h0.s
  obtain ⟨X2, e2⟩ : ∃ X, X = sI X1 c 1 (M.1 c' 1) := ⟨_, rfl⟩
  have h2 : Cp M c c' 2 X2 := by rw [e2]; exact h1.s
  obtain ⟨X3, e3⟩ : ∃ X, X = sI X2 c 2 (M.1 c' 2) := ⟨_, rfl⟩
  have h3 : Cp M c c' 3 X3 := by rw [e3]; exact h2.s
  obtain ⟨X4, e4⟩ : ∃ X, X = sI X3 c 3 (M.1 c' 3) := ⟨_, rfl⟩
  have h4 : Cp M c c' 4 X4 := by rw [e4]; exact h3.s
  obtain ⟨X5, e5⟩ : ∃ X, X = sI X4 c 4 (M.1 c' 4) := ⟨_, rfl⟩
  have h5 : Cp M c c' 5 X5 := by rw [e5]; exact h4.s
  obtain ⟨X6, e6⟩ : ∃ X, X = sI X5 c 5 (M.1 c' 5) := ⟨_, rfl⟩
  have h6 : Cp M c c' 6 X6 := by rw [e6]; exact h5.s
  obtain ⟨X7, e7⟩ : ∃ X, X = sI X6 c 6 (M.1 c' 6) := ⟨_, rfl⟩
  have h7 : Cp M c c' 7 X7 := by rw [e7]; exact h6.s
  obtain ⟨X8, e8⟩ : ∃ X, X = sI X7 c 7 (M.1 c' 7) := ⟨_, rfl⟩
  have h8 : Cp M c c' 8 X8 := by rw [e8]; exact h7.s
  obtain ⟨X9, e9⟩ : ∃ X, X = sI X8 c 8 (M.1 c' 8) := ⟨_, rfl⟩
  have h9 : Cp M c c' 9 X9 := by rw [e9]; exact h8.s
  obtain ⟨X10, e10⟩ : ∃ X, X = sI X9 c 9 (M.1 c' 9) := ⟨_, rfl⟩
  have h10 : Cp M c c' 10 X10 := by rw [e10]; exact h9.s
  obtain ⟨X11, e11⟩ : ∃ X, X = sI X10 c 10 (M.1 c' 10) := ⟨_, rfl⟩
  have h11 : Cp M c c' 11 X11 := by rw [e11]; exact h10.s
  obtain ⟨X12, e12⟩ : ∃ X, X = sI X11 c 11 (M.1 c' 11) := ⟨_, rfl⟩
  have h12 : Cp M c c' 12 X12 := by rw [e12]; exact h11.s
  obtain ⟨L1, d1⟩ : ∃ X, X = sL X12 c 12 (M.2 c' 12) := ⟨_, rfl⟩
  obtain ⟨L2, d2⟩ : ∃ X, X = sL L1 c 13 (M.2 c' 13) := ⟨_, rfl⟩
  obtain ⟨L3, d3⟩ : ∃ X, X = sL L2 c 14 (M.2 c' 14) := ⟨_, rfl⟩
  obtain ⟨L4, d4⟩ : ∃ X, X = sL L3 c 15 (M.2 c' 15) := ⟨_, rfl⟩
  have g1 : ∀ o, L1.1 o = X12.1 o := fun o => by rw [d1]; rfl
  have g2 : ∀ o, L2.1 o = X12.1 o := fun o => by rw [d2]; exact g1 o
  have g3 : ∀ o, L3.1 o = X12.1 o := fun o => by rw [d3]; exact g2 o
  have g4 : ∀ o, L4.1 o = X12.1 o := fun o => by rw [d4]; exact g3 o
  have k0 : X12.2 = M.2 := h12.lng
  have k1 : ∀ o, o ≠ c → L1.2 o = M.2 o := fun o ho => by rw [d1, sL_ap2, if_neg ho, k0]
  have k2 : ∀ o, o ≠ c → L2.2 o = M.2 o := fun o ho => by rw [d2, sL_ap2, if_neg ho, k1 o ho]
  have k3 : ∀ o, o ≠ c → L3.2 o = M.2 o := fun o ho => by rw [d3, sL_ap2, if_neg ho, k2 o ho]
  have k4 : ∀ o, o ≠ c → L4.2 o = M.2 o := fun o ho => by rw [d4, sL_ap2, if_neg ho, k3 o ho]
  have kc : ∀ k, k < 4 → L4.2 c (12 + k) = M.2 c' (12 + k) := by
    intro k hk
    rw [d4, sL_ap2, if_pos rfl, d3, sL_ap2, if_pos rfl, d2, sL_ap2, if_pos rfl, d1, sL_ap2, if_pos rfl]
    match k, hk with
    | 0, _ => rfl
    | 1, _ => rfl
    | 2, _ => rfl
    | 3, _ => rfl
    | k + 4, hk => exact absurd hk (by omega)
  obtain ⟨Y1, f1⟩ : ∃ X, X = sC L4 (c + 1) (fun j => if j < 3 then L4.1 (c' + 1) j else L4.1 (c + 1) j) := ⟨_, rfl⟩
  obtain ⟨Y2, f2⟩ : ∃ X, X = sC Y1 (c + 2) (fun j => if j < 200 then Y1.1 (c' + 2) j else Y1.1 (c + 2) j) := ⟨_, rfl⟩
  refine ⟨Y2, ?_, ?_⟩
  · rw [← e1]
    refine lt_i ?_
    rw [h1.r hn 1, ← e2]
    refine lt_i ?_
    rw [h2.r hn 2, ← e3]
    refine lt_i ?_
    rw [h3.r hn 3, ← e4]
    refine lt_i ?_
    rw [h4.r hn 4, ← e5]
    refine lt_i ?_
    rw [h5.r hn 5]
    refine gd_i hw ?_
    rw [← e6]
    refine lt_i ?_
    rw [h6.r hn 6, ← e7]
    refine lt_i ?_
    rw [h7.r hn 7, ← e8]
    refine lt_i ?_
    rw [h8.r hn 8, ← e9]
    refine lt_i ?_
    rw [h9.r hn 9, ← e10]
    refine lt_i ?_
    rw [h10.r hn 10, ← e11]
    refine lt_i ?_
    rw [h11.r hn 11, ← e12]
    refine lt_i ?_
    rw [k0, ← d1]
    refine lt_i ?_
    rw [k1 c' hn, ← d2]
    refine lt_i ?_
    rw [k2 c' hn, ← d3]
    refine lt_i ?_
    rw [k3 c' hn, ← d4]
    refine lt_i ?_
    rw [← f1]
    refine lt_i ?_
    rw [← f2]
    rfl
  · have y1 : ∀ o, o ≠ c + 1 → Y1.1 o = L4.1 o := fun o ho => by rw [f1, sC_ap1, if_neg ho]
    have y2 : ∀ o, o ≠ c + 2 → Y2.1 o = Y1.1 o := fun o ho => by rw [f2, sC_ap1, if_neg ho]
    have z2 : Y2.2 = L4.2 := by rw [f2, f1]; rfl
    refine ⟨fun k hk => ?_, fun k hk => ?_, fun k hk => ?_, fun k hk => ?_, fun o ho => ⟨?_, ?_⟩⟩
    · rw [y2 c (by omega), y1 c (by omega), g4]; exact h12.own k hk
    · rw [y2 (c + 1) (by omega), f1, sC_ap1, if_pos rfl]
      show (if k < 3 then L4.1 (c' + 1) k else L4.1 (c + 1) k) = _
      rw [if_pos hk, g4, h12.oth (c' + 1) (by omega)]
    · rw [f2, sC_ap1, if_pos rfl]
      show (if k < 200 then Y1.1 (c' + 2) k else Y1.1 (c + 2) k) = _
      rw [if_pos hk, y1 (c' + 2) (by omega), g4, h12.oth (c' + 2) (by omega)]
    · rw [z2]; exact kc k hk
    · rw [y2 o (by omega), y1 o (by omega), g4, h12.oth o (by omega)]
    · rw [z2, k4 o (by omega)]
