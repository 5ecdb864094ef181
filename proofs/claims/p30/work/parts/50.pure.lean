/-! PURE FROM HERE: what the makers' functions make -/
theorem gd_i {α : Type} {P : Prop} [Decidable P] {k : Option α} {r : Option α} (h : P) (h2 : k = r) : gd P k = r := by rw [gd_t h]; exact h2
theorem lt_i {α β : Type} {x : α} {k : α → Option β} {r : Option β} (h : k x = r) : lt x k = r := h
theorem bn_i {α β : Type} {x : Option α} {a : α} {k : α → Option β} {r : Option β} (h : x = some a) (h2 : k a = r) : bn x k = r := by subst h; exact h2
theorem bn2_i {α β γ : Type} {x : Option (α × β)} {a : α} {b : β} {k : α → β → Option γ} {r : Option γ} (h : x = some (a, b)) (h2 : k a b = r) : bn2 x k = r := by subst h; exact h2
theorem if_pi {α : Type} {P : Prop} [Decidable P] {a b r : α} (c : P) (h : a = r) : (if P then a else b) = r := by rw [if_pos c]; exact h
theorem if_ni {α : Type} {P : Prop} [Decidable P] {a b r : α} (c : ¬ P) (h : b = r) : (if P then a else b) = r := by rw [if_neg c]; exact h
theorem sR_ap (R : mm_R) (o k : Nat) (v : Option Nat) (o' : Nat) : sR R o k v o' = if o' = o then (fun k' => if k' = k then v else R o' k') else R o' := by
  funext k'
  by_cases h : o' = o <;> simp [sR, h]
theorem zR_ap (R : mm_R) (o o' : Nat) : zR R o o' = if o' = o then (fun _ => none) else R o' := by
  funext k'
  by_cases h : o' = o <;> simp [zR, h]
theorem zM_ap1 (M : mm_M) (o o' : Nat) : (zM M o).1 o' = if o' = o then (fun _ => 0) else M.1 o' := by
  funext k'
  by_cases h : o' = o <;> simp [zM, h]
theorem zM_ap2 (M : mm_M) (o o' : Nat) : (zM M o).2 o' = if o' = o then (fun _ => 0) else M.2 o' := by
  funext k'
  by_cases h : o' = o <;> simp [zM, h]
theorem sI_ap1 (M : mm_M) (o k : Nat) (v : Int32) (o' : Nat) : (sI M o k v).1 o' = if o' = o then (fun k' => if k' = k then v else M.1 o' k') else M.1 o' := by
  funext k'
  by_cases h : o' = o <;> simp [sI, h]
theorem sI_ap2 (M : mm_M) (o k : Nat) (v : Int32) (o' : Nat) : (sI M o k v).2 o' = M.2 o' := rfl
-- numbers
theorem nle_nI {k i : Nat} (h : i < k) (hk : k < 2 ^ 31) : ¬ nI k ≤ nI i := nI_ge h hk
theorem ix_nI {n i : Nat} (h : i < n) (hn : n < 2 ^ 31) : ¬ (nI i < 0 ∨ n ≤ (nI i).toNatClampNeg) := nI_in h hn
-- blocks of a State
set_option maxRecDepth 100000 in
theorem kS_at : ∀ a, a < 740 → kT a = (4, 0) → (∃ i, i < 2 ∧ a = 1 + 66 * i) ∨ ∃ i, i < 9 ∧ a = 135 + 66 * i := by decide +kernel
theorem kT_j {a j : Nat} (h : kT a = (4, 0)) (hj : j < 66) : kT (a + j) = kS j := by
  rcases kS_at a (kl h) h with ⟨i, hi, e⟩ | ⟨i, hi, e⟩
  · unfold kT
    rw [if_neg (by omega), if_pos (by omega), show (a + j - 1) % 66 = j by omega]
  · unfold kT
    rw [if_neg (by omega), if_neg (by omega), if_neg (by omega), if_neg (by omega), if_pos (by omega), show (a + j - 135) % 66 = j by omega]
theorem kR_j {a j : Nat} (h : kT a = (4, 0)) (hj : j < 66) : kR (a + j) = fun k => rS (a + j) j k := by
  rcases kS_at a (kl h) h with ⟨i, hi, e⟩ | ⟨i, hi, e⟩
  · funext k
    unfold kR
    rw [if_neg (by omega), if_pos (by omega), show (a + j - 1) % 66 = j by omega]
  · funext k
    unfold kR
    rw [if_neg (by omega), if_neg (by omega), if_neg (by omega), if_neg (by omega), if_pos (by omega), show (a + j - 135) % 66 = j by omega]
theorem kR_none {a j : Nat} (h : kT a = (4, 0)) (hj : j < 66) (h0 : j ≠ 0) (h2 : j ≠ 2) (h3 : j ≠ 3) (hc : ¬ (18 ≤ j ∧ (j - 18) % 3 = 0)) : kR (a + j) = fun _ => none := by
  rw [kR_j h hj]
  funext k
  unfold rS
  rw [if_neg h0, if_neg h2, if_neg h3, if_neg hc]
theorem kR_0 {a : Nat} (h : kT a = (4, 0)) : kR a = fun k => if 7 ≤ k ∧ k ≤ 13 then some (a + (k - 6)) else none := kR_j (j := 0) h (by omega)
theorem kR_2 {a : Nat} (h : kT a = (4, 0)) : kR (a + 2) = fun k => if k < 10 then some (a + 8 + k) else none := by
  rw [kR_j h (by omega)]
  funext k
  unfold rS
  rw [if_neg (by omega), if_pos rfl]
theorem kR_3 {a : Nat} (h : kT a = (4, 0)) : kR (a + 3) = fun k => if k < 16 then some (a + 18 + 3 * k) else none := by
  rw [kR_j h (by omega)]
  funext k
  unfold rS
  rw [if_neg (by omega), if_neg (by omega), if_pos rfl]
theorem kR_c {a c : Nat} (h : kT a = (4, 0)) (hc : c < 16) : kR (a + 18 + 3 * c) = fun k => if k = 16 then some (a + 18 + 3 * c + 1) else if k = 17 then some (a + 18 + 3 * c + 2) else none := by
  have e : a + 18 + 3 * c = a + (18 + 3 * c) := by omega
  rw [e, kR_j h (by omega)]
  funext k
  unfold rS
  rw [if_neg (by omega), if_neg (by omega), if_neg (by omega), if_pos (by omega)]
/-- what a State's block holds when it is made -/
def I_S (a o : Nat) : Nat → Int32 := fun k => if o = a then (if k = 1 then 1 else 0) else if o = a + 1 then (if k < 10 then mm_f0 k else 0) else 0
-- a Pitch is made
theorem m_X4 (R : mm_R) (N Z : Nat) (M : mm_M) (a : Nat) : fX4_init R N Z M a (N + 0) (Z + 0) = some (R, M) := by
  unfold fX4_init
  exact gd_i ⟨rfl, rfl⟩ rfl
-- a Cart is made
theorem m_X0 (R : mm_R) (Z : Nat) (M : mm_M) (a : Nat) (h1 : kT (a + 1) = (8, 3)) (h2 : kT (a + 2) = (8, 200)) : ∃ R' M', fX0_init R (a + 1) Z M a (a + 1 + 2) (Z + 203) = some (R', M') ∧ (∀ o, R' o = if o = a then (fun k => if k = 17 then some (a + 2) else if k = 16 then some (a + 1) else R a k) else if o = a + 1 ∨ o = a + 2 then (fun _ => none) else R o) ∧ (∀ o, M'.1 o = if o = a + 1 ∨ o = a + 2 then (fun _ => 0) else M.1 o) ∧ (∀ o, M'.2 o = if o = a + 1 ∨ o = a + 2 then (fun _ => 0) else M.2 o) := by
  refine ⟨sR (zR (sR (zR R (a + 1)) a 16 (some (a + 1))) (a + 2)) a 17 (some (a + 2)), zM (zM M (a + 1)) (a + 2), ?_, fun o => ?_, fun o => ?_, fun o => ?_⟩
  · unfold fX0_init
    refine gd_i ⟨h1, by omega, by omega⟩ ?_
    refine lt_i (lt_i (lt_i (lt_i (lt_i ?_))))
    refine gd_i ⟨h2, by omega, by omega⟩ ?_
    refine lt_i (lt_i (lt_i (lt_i (lt_i ?_))))
    exact gd_i ⟨by omega, by omega⟩ rfl
  · simp only [sR_ap, zR_ap]
    by_cases e0 : o = a
    · subst e0
      rw [if_pos rfl, if_pos rfl, if_neg (by omega), if_pos rfl, if_neg (by omega)]
    · rw [if_neg e0, if_neg e0, if_neg e0]
      by_cases e1 : o = a + 2
      · rw [if_pos e1, if_pos (Or.inr e1)]
      · rw [if_neg e1]
        by_cases e2 : o = a + 1
        · rw [if_pos e2, if_pos (Or.inl e2)]
        · rw [if_neg e2, if_neg (by omega)]
  · simp only [zM_ap1]
    by_cases e1 : o = a + 2
    · rw [if_pos e1, if_pos (Or.inr e1)]
    · rw [if_neg e1]
      by_cases e2 : o = a + 1
      · rw [if_pos e2, if_pos (Or.inl e2)]
      · rw [if_neg e2, if_neg (by omega)]
  · simp only [zM_ap2]
    by_cases e1 : o = a + 2
    · rw [if_pos e1, if_pos (Or.inr e1)]
    · rw [if_neg e1]
      by_cases e2 : o = a + 1
      · rw [if_pos e2, if_pos (Or.inl e2)]
      · rw [if_neg e2, if_neg (by omega)]
