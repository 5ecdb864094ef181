/-! one call on the fresh memory: the calls that change nothing -/
theorem i_succ {x n m : Int32} (h : m.toInt = n.toInt + 1) : m ≤ x ↔ n < x := by
  rw [Int32.le_iff_toInt_le, Int32.lt_iff_toInt_lt, h]
  omega
theorem sI_same {M : mm_M} {o k : Nat} {v : Int32} (h : v = M.1 o k) : sI M o k v = M := by
  refine Prod.ext (funext fun o' => ?_) rfl
  rw [sI_ap1]
  by_cases e : o' = o
  · subst e
    rw [if_pos rfl]
    funext k'
    by_cases q : k' = k
    · subst q; rw [if_pos rfl]; exact h
    · rw [if_neg q]
  · rw [if_neg e]
theorem sC_same {M : mm_M} {o : Nat} {f : Nat → Int32} (h : ∀ k, f k = M.1 o k) : sC M o f = M := by
  refine Prod.ext (funext fun o' => funext fun k' => ?_) rfl
  show (if o' = o then f k' else M.1 o' k') = M.1 o' k'
  by_cases e : o' = o
  · subst e; rw [if_pos rfl]; exact h k'
  · rw [if_neg e]
theorem lt_m {β : Type} {M x : mm_M} {k : mm_M → Option β} {r : Option β} (h : x = M) (h2 : k M = r) : lt x k = r := by subst h; exact h2
theorem FU_s : ∃ n, FU = n + 1 := ⟨999999, rfl⟩
theorem c_1_0 : mm_0.1 1 0 = 0 := by decide +kernel
theorem c_1_1 : mm_0.1 1 1 = 1 := by decide +kernel
theorem c_1_2 : mm_0.1 1 2 = 0 := by decide +kernel
theorem c_1_3 : mm_0.1 1 3 = 0 := by decide +kernel
theorem c_1_4 : mm_0.1 1 4 = 0 := by decide +kernel
theorem c_1_5 : mm_0.1 1 5 = 0 := by decide +kernel
theorem c_1_14 : mm_0.1 1 14 = 0 := by decide +kernel
theorem c_133_1 : mm_0.1 133 1 = 0 := by decide +kernel
theorem c_133_2 : mm_0.1 133 2 = 0 := by decide +kernel
theorem c_729_1 : mm_0.1 729 1 = 0 := by decide +kernel
theorem c_597_6 : mm_0.1 597 6 = 0 := by decide +kernel
theorem c_663_6 : mm_0.1 663 6 = 0 := by decide +kernel
theorem c_135_2 : mm_0.1 135 2 = 0 := by decide +kernel
theorem c_135_3 : mm_0.1 135 3 = 0 := by decide +kernel
theorem c_597_2 : mm_0.1 597 2 = 0 := by decide +kernel
theorem c_597_3 : mm_0.1 597 3 = 0 := by decide +kernel
theorem c_663_2 : mm_0.1 663 2 = 0 := by decide +kernel
theorem c_663_3 : mm_0.1 663 3 = 0 := by decide +kernel
/-- what the reference's row is in the fresh memory -/
def qE (M : mm_M) : Prop := ∀ o, 731 ≤ o → M.1 o = J_0 o
theorem qE_0 : qE mm_0 := fun _ _ => rfl
theorem qE_2 {M : mm_M} (h : qE M) (k : Nat) : M.1 732 k = at_0 k := by
  rw [h 732 (by omega)]
  unfold J_0
  rw [if_pos rfl]
theorem J_X_hi {o : Nat} (h : 731 ≤ o) : J_X o = fun _ => 0 := by
  unfold J_X
  rw [if_neg (by omega), if_neg (by omega)]
theorem qE_o {M : mm_M} (h : qE M) {o : Nat} (ho : 731 ≤ o) (h2 : o ≠ 732) (k : Nat) : M.1 o k = 0 := by
  rw [h o ho]
  unfold J_0
  rw [if_neg h2, J_X_hi ho]
theorem in_tt {M : mm_M} {x a b : Int32} (h1 : ¬ x < a) (h2 : ¬ b < x) : fX7_in M x a b = some true := if_ni h1 (if_ni h2 rfl)
theorem in_lo {M : mm_M} {x a b : Int32} (h1 : x < a) : fX7_in M x a b = some false := if_pi h1 rfl
theorem in_hi {M : mm_M} {x a b : Int32} (h2 : b < x) : fX7_in M x a b = some false := by
  by_cases c : x < a
  · exact in_lo c
  · exact if_ni c (if_pi h2 rfl)
theorem in_no {M : mm_M} {x : Int32} : fX7_in M x 0 (0 - 1) = some false := by
  by_cases c : x < 0
  · exact in_lo c
  · exact in_hi ((i_succ (m := 0) (by decide)).mp (Int32.not_lt.mp c))
-- no cart, no pitch
theorem q_nc (x : Int32) : fX5_hasCart mm_0 1 x = some false := by
  unfold fX5_hasCart
  rw [c_1_3]
  by_cases c : x < 0
  · exact if_pi c rfl
  · exact if_ni c (if_pi (Int32.not_lt.mp c) rfl)
theorem q_np (x : Int32) : fX5_hasPitch mm_0 1 x = some false := by
  unfold fX5_hasPitch
  rw [c_1_2]
  by_cases c : x < 0
  · exact if_pi c rfl
  · exact if_ni c (if_pi (Int32.not_lt.mp c) rfl)
theorem e_nc {M : mm_M} (h : M.1 732 13 = 0) (x : Int32) : fX7_isCart M x = some false := by
  unfold fX7_isCart
  rw [h]
  exact bn_i in_no rfl
theorem e_np {M : mm_M} (h : M.1 732 12 = 0) (x : Int32) : fX7_isPitch M x = some false := by
  unfold fX7_isPitch
  rw [h]
  exact bn_i in_no rfl
theorem m_nc (x : Int32) : fX7_isCart mm_0 x = some false := e_nc (by decide +kernel) x
theorem m_np (x : Int32) : fX7_isPitch mm_0 x = some false := e_np (by decide +kernel) x
-- a copy of the whole state
theorem q_126 {a : Nat} (M : mm_M) (h : M.1 a 3 = 0) : fX5_copyFrom_126 a 1 FU M 0 = some M := by
  obtain ⟨n, hn⟩ := FU_s
  rw [hn, fX5_copyFrom_126, h]
  exact if_pi (Int32.le_refl _) rfl
theorem q_95 {a : Nat} (M : mm_M) (h : M.1 a 2 = 0) (h2 : M.1 a 3 = 0) : fX5_copyFrom_95 a 1 FU M 0 = some M := by
  obtain ⟨n, hn⟩ := FU_s
  rw [hn, fX5_copyFrom_95, h]
  exact if_pi (Int32.le_refl _) (q_126 M h2)
theorem q_copy {a : Nat} (h : a = 135 ∨ a = 597 ∨ a = 663) : fX5_copyFrom mm_0 a 1 = some mm_0 := by
  unfold fX5_copyFrom
  rcases h with rfl | rfl | rfl
  · refine lt_m (sI_same (by decide +kernel)) (lt_m (sI_same (by decide +kernel)) (lt_m (sI_same (by decide +kernel)) (lt_m (sI_same (by decide +kernel)) (lt_m (sI_same (by decide +kernel)) (lt_m (sI_same (by decide +kernel)) ?_)))))
    refine lt_m (sC_same (fun k => ?_)) (lt_m (sC_same (fun k => ?_)) (lt_m (sC_same (fun k => ?_)) (q_95 mm_0 c_135_2 c_135_3)))
    · by_cases q : k < 10
      · rw [if_pos q]; rfl
      · rw [if_neg q]
    · by_cases q : k < 8
      · rw [if_pos q]; rfl
      · rw [if_neg q]
    · by_cases q : k < 8
      · rw [if_pos q]; rfl
      · rw [if_neg q]
  · refine lt_m (sI_same (by decide +kernel)) (lt_m (sI_same (by decide +kernel)) (lt_m (sI_same (by decide +kernel)) (lt_m (sI_same (by decide +kernel)) (lt_m (sI_same (by decide +kernel)) (lt_m (sI_same (by decide +kernel)) ?_)))))
    refine lt_m (sC_same (fun k => ?_)) (lt_m (sC_same (fun k => ?_)) (lt_m (sC_same (fun k => ?_)) (q_95 mm_0 c_597_2 c_597_3)))
    · by_cases q : k < 10
      · rw [if_pos q]; rfl
      · rw [if_neg q]
    · by_cases q : k < 8
      · rw [if_pos q]; rfl
      · rw [if_neg q]
    · by_cases q : k < 8
      · rw [if_pos q]; rfl
      · rw [if_neg q]
  · refine lt_m (sI_same (by decide +kernel)) (lt_m (sI_same (by decide +kernel)) (lt_m (sI_same (by decide +kernel)) (lt_m (sI_same (by decide +kernel)) (lt_m (sI_same (by decide +kernel)) (lt_m (sI_same (by decide +kernel)) ?_)))))
    refine lt_m (sC_same (fun k => ?_)) (lt_m (sC_same (fun k => ?_)) (lt_m (sC_same (fun k => ?_)) (q_95 mm_0 c_663_2 c_663_3)))
    · by_cases q : k < 10
      · rw [if_pos q]; rfl
      · rw [if_neg q]
    · by_cases q : k < 8
      · rw [if_pos q]; rfl
      · rw [if_neg q]
    · by_cases q : k < 8
      · rw [if_pos q]; rfl
      · rw [if_neg q]
theorem q_prep : fX2_prepare mm_0 133 1 = some mm_0 := by
  unfold fX2_prepare
  rw [c_133_1, c_133_2]
  refine gd_i (by decide) (bn_i (a := mm_0) ?_ rfl)
  exact q_copy (Or.inl rfl)
theorem q_rec {M : mm_M} {r : Int32} (h : r < 0) : fX6_recorded M r = some (r, M) := if_pi h rfl
/-- the two answer alike -/
def two (f : mm_M → Option (Int32 × mm_M)) (g : mm_M → Option (Int32 × mm_M)) : Prop := ∃ r M1 M2, f mm_0 = some (r, M1) ∧ g M1 = some (r, M2)
def see {α : Type} (f g : mm_M → Option α) : Prop := ∃ r, f mm_0 = some r ∧ g mm_0 = some r
theorem two_0 {f g : mm_M → Option (Int32 × mm_M)} (r : Int32) (h1 : f mm_0 = some (r, mm_0)) (h2 : g mm_0 = some (r, mm_0)) : two f g := ⟨r, mm_0, mm_0, h1, h2⟩
theorem see_0 {α : Type} {f g : mm_M → Option α} (r : α) (h1 : f mm_0 = some r) (h2 : g mm_0 = some r) : see f g := ⟨r, h1, h2⟩
theorem a_rent (x y : Int32) : two (fun M => fX6_rent M x y) (fun M => fX7_rent M x y) := by
  refine two_0 (-1) ?_ ?_
  · show fX6_rent mm_0 x y = _
    unfold fX6_rent
    refine bn_i q_prep (bn2_i (a := -1) (b := mm_0) ?_ (bn2_i (q_rec (by decide)) rfl))
    unfold fX5_changeRent
    exact bn_i (q_np x) (if_ni (show ¬ false = true by decide) rfl)
  · show fX7_rent mm_0 x y = _
    unfold fX7_rent
    exact bn_i (m_np x) (if_ni (show ¬ false = true by decide) rfl)
theorem a_wish (x y z w : Int32) : two (fun M => fX6_wish M x y z w) (fun M => fX7_wish M x y z w) := by
  refine two_0 (-1) ?_ ?_
  · show fX6_wish mm_0 x y z w = _
    unfold fX6_wish
    refine bn_i q_prep (bn2_i (a := -1) (b := mm_0) ?_ (bn2_i (q_rec (by decide)) rfl))
    unfold fX5_tellWishes
    exact bn_i (q_nc x) (if_ni (show ¬ false = true by decide) rfl)
  · show fX7_wish mm_0 x y z w = _
    unfold fX7_wish
    refine bn2_i (a := -1) (b := mm_0) ?_ rfl
    unfold fX7_tryWish
    exact bn_i (m_nc x) (if_ni (show ¬ false = true by decide) rfl)
theorem a_fine (x y : Int32) : two (fun M => fX6_fine M x y) (fun M => fX7_fine M x y) := by
  refine two_0 (-1) ?_ ?_
  · show fX6_fine mm_0 x y = _
    unfold fX6_fine
    refine bn_i q_prep (bn2_i (a := -1) (b := mm_0) ?_ (bn2_i (q_rec (by decide)) rfl))
    unfold fX5_punish
    exact bn_i (q_nc x) (if_ni (show ¬ false = true by decide) rfl)
  · show fX7_fine mm_0 x y = _
    unfold fX7_fine
    refine bn2_i (a := -1) (b := mm_0) ?_ rfl
    unfold fX7_tryFine
    exact bn_i (m_nc x) (if_ni (show ¬ false = true by decide) rfl)
theorem a_check (x : Int32) : two (fun M => fX6_check M x) (fun M => fX7_check M x) := by
  refine two_0 (-1) ?_ ?_
  · show fX6_check mm_0 x = _
    unfold fX6_check
    refine bn_i q_prep (bn2_i (a := -1) (b := mm_0) ?_ (bn2_i (q_rec (by decide)) rfl))
    unfold fX5_askCheck
    exact bn_i (q_nc x) (if_ni (show ¬ false = true by decide) rfl)
  · show fX7_check mm_0 x = _
    unfold fX7_check
    refine bn2_i (a := -1) (b := mm_0) ?_ rfl
    unfold fX7_tryCheck
    exact bn_i (m_nc x) (if_ni (show ¬ false = true by decide) rfl)
theorem a_swap (x y : Int32) : two (fun M => fX6_swap M x y) (fun M => fX7_swap M x y) := by
  refine two_0 (-1) ?_ ?_
  · show fX6_swap mm_0 x y = _
    unfold fX6_swap
    refine bn_i q_prep (bn2_i (a := -1) (b := mm_0) ?_ (bn2_i (q_rec (by decide)) rfl))
    unfold fX5_askSwap
    exact bn_i (q_nc x) (if_ni (show ¬ false = true by decide) rfl)
  · show fX7_swap mm_0 x y = _
    unfold fX7_swap
    refine bn2_i (a := -1) (b := mm_0) ?_ rfl
    unfold fX7_trySwap
    exact bn_i (m_nc x) (if_ni (show ¬ false = true by decide) rfl)
theorem a_pay (x y : Int32) : two (fun M => fX6_pay M x y) (fun M => fX7_pay M x y) := by
  refine two_0 (-1) ?_ ?_
  · show fX6_pay mm_0 x y = _
    unfold fX6_pay
    refine bn_i q_prep (bn2_i (a := -1) (b := mm_0) ?_ (bn2_i (q_rec (by decide)) rfl))
    unfold fX5_takeMoney
    exact bn_i (q_nc x) (if_ni (show ¬ false = true by decide) rfl)
  · show fX7_pay mm_0 x y = _
    unfold fX7_pay
    exact bn_i (m_nc x) (if_ni (show ¬ false = true by decide) rfl)
theorem a_wouldHave (x : Int32) : two (fun M => fX6_wouldHave M x) (fun M => fX7_wouldHave M x) := by
  refine two_0 (-1) ?_ ?_
  · show fX6_wouldHave mm_0 x = _
    unfold fX6_wouldHave
    exact bn_i (q_nc x) (if_ni (show ¬ false = true by decide) rfl)
  · show fX7_wouldHave mm_0 x = _
    unfold fX7_wouldHave
    exact bn_i (m_nc x) (if_ni (show ¬ false = true by decide) rfl)
theorem a_ifWished (x y : Int32) : two (fun M => fX6_ifWished M x y) (fun M => fX7_ifWished M x y) := by
  refine two_0 (-1) ?_ ?_
  · show fX6_ifWished mm_0 x y = _
    unfold fX6_ifWished
    exact bn_i (q_nc x) (if_ni (show ¬ false = true by decide) rfl)
  · show fX7_ifWished mm_0 x y = _
    unfold fX7_ifWished
    exact bn_i (m_nc x) (if_ni (show ¬ false = true by decide) rfl)
theorem a_firstDay (x : Int32) : two (fun M => fX6_firstDay M x) (fun M => fX7_firstDay M x) := by
  refine two_0 (-1) ?_ ?_
  · show fX6_firstDay mm_0 x = _
    unfold fX6_firstDay
    exact bn_i (q_nc x) (if_ni (show ¬ false = true by decide) rfl)
  · show fX7_firstDay mm_0 x = _
    unfold fX7_firstDay
    exact bn_i (m_nc x) (if_ni (show ¬ false = true by decide) rfl)
theorem a_daysOf (x y : Int32) : two (fun M => fX6_daysOf M x y) (fun M => fX7_daysOf M x y) := by
  refine two_0 (-1) ?_ ?_
  · show fX6_daysOf mm_0 x y = _
    unfold fX6_daysOf
    exact bn_i (q_nc x) (if_ni (show ¬ false = true by decide) rfl)
  · show fX7_daysOf mm_0 x y = _
    unfold fX7_daysOf
    exact bn_i (m_nc x) (if_ni (show ¬ false = true by decide) rfl)
theorem a_luckySeed (x y : Int32) : two (fun M => fX6_luckySeed M x y) (fun M => fX7_luckySeed M x y) := by
  refine two_0 (-1) ?_ ?_
  · show fX6_luckySeed mm_0 x y = _
    unfold fX6_luckySeed
    exact bn_i (q_nc x) (if_ni (show ¬ false = true by decide) rfl)
  · show fX7_luckySeed mm_0 x y = _
    unfold fX7_luckySeed
    exact bn_i (m_nc x) (if_ni (show ¬ false = true by decide) rfl)
theorem a_ofCart (x y : Int32) : see (fun M => fX6_ofCart M x y) (fun M => fX7_ofCart M x y) := by
  refine see_0 (-1) ?_ ?_
  · show fX6_ofCart mm_0 x y = _
    unfold fX6_ofCart
    exact bn_i (q_nc x) (if_ni (show ¬ false = true by decide) rfl)
  · show fX7_ofCart mm_0 x y = _
    unfold fX7_ofCart
    exact bn_i (m_nc x) (if_ni (show ¬ false = true by decide) rfl)
theorem a_money (x y : Int32) : see (fun M => fX6_money M x y) (fun M => fX7_money M x y) := by
  refine see_0 (-1) ?_ ?_
  · show fX6_money mm_0 x y = _
    unfold fX6_money
    exact bn_i (q_nc x) (if_ni (show ¬ false = true by decide) rfl)
  · show fX7_money mm_0 x y = _
    unfold fX7_money
    exact bn_i (m_nc x) (if_ni (show ¬ false = true by decide) rfl)
theorem a_ofPitch (x y : Int32) : see (fun M => fX6_ofPitch M x y) (fun M => fX7_ofPitch M x y) := by
  refine see_0 (-1) ?_ ?_
  · show fX6_ofPitch mm_0 x y = _
    unfold fX6_ofPitch
    exact bn_i (q_np x) (if_ni (show ¬ false = true by decide) rfl)
  · show fX7_ofPitch mm_0 x y = _
    unfold fX7_ofPitch
    exact bn_i (m_np x) (if_ni (show ¬ false = true by decide) rfl)
theorem a_pointsOn (x y : Int32) : see (fun M => fX6_pointsOn M x y) (fun M => fX7_pointsOn M x y) := by
  refine see_0 (-1) ?_ ?_
  · show fX6_pointsOn mm_0 x y = _
    unfold fX6_pointsOn
    exact bn_i (q_nc x) (if_ni (show ¬ false = true by decide) rfl)
  · show fX7_pointsOn mm_0 x y = _
    unfold fX7_pointsOn
    exact bn_i (m_nc x) (if_ni (show ¬ false = true by decide) rfl)
theorem a_whyNot (x y : Int32) : see (fun M => fX6_whyNot M x y) (fun M => fX7_whyNot M x y) := by
  refine see_0 (-1) ?_ ?_
  · show fX6_whyNot mm_0 x y = _
    unfold fX6_whyNot
    exact bn_i (q_nc x) (if_ni (show ¬ false = true by decide) rfl)
  · show fX7_whyNot mm_0 x y = _
    unfold fX7_whyNot
    exact bn_i (m_nc x) (if_ni (show ¬ false = true by decide) rfl)
theorem a_wipe : two fX6_wipe fX7_wipe := ⟨0, sI mm_0 729 1 0, sI (sI mm_0 729 1 0) 731 7 0, by
  unfold fX6_wipe
  rw [c_729_1]
  rfl, by
  unfold fX7_wipe
  have h : (sI mm_0 729 1 0).1 731 7 = 0 := by decide +kernel
  rw [h]
  rfl⟩
theorem q_find : fX3_findFault mm_0 729 = some 0 := by
  unfold fX3_findFault
  obtain ⟨n, hn⟩ := FU_s
  rw [hn, fX3_findFault_4, c_729_1]
  exact if_pi (Int32.le_refl _) (if_pi (by decide) rfl)
/-- the reference's first order of an empty pad is a fault at once -/
def mm_f : mm_M := sI (sI (sI (sI (sI (sI mm_0 731 10 0) 731 11 0) 731 12 0) 731 10 1) 731 10 0) 731 11 1
theorem m_fault : fX7_fault mm_0 = some (0, mm_f) := by
  unfold fX7_fault
  refine lt_i (lt_i (lt_i (bn_i (a := mm_f) ?_ ?_)))
  · unfold fX7_takeOrder
    refine bn_i (a := 0) (if_pi (by decide +kernel) rfl) (lt_m (M := sI (sI (sI (sI mm_0 731 10 0) 731 11 0) 731 12 0) 731 10 1) rfl ?_)
    refine if_ni (by decide) (if_ni (by decide) (if_ni (by decide) (if_ni (by decide) (if_ni (by decide) ?_))))
    refine lt_m (M := sI (sI (sI (sI (sI mm_0 731 10 0) 731 11 0) 731 12 0) 731 10 1) 731 10 0) rfl (lt_m (M := mm_f) rfl ?_)
    exact if_ni (by decide +kernel) rfl
  · obtain ⟨n, hn⟩ := FU_s
    rw [hn, fX7_fault_19]
    refine if_ni (by decide +kernel) ?_
    unfold fX7_fault_79
    refine if_ni (by decide +kernel) ?_
    rw [show mm_f.1 731 10 = 0 by decide +kernel]
theorem a_fault : ∃ r M2, fX6_fault mm_0 = some r ∧ fX7_fault mm_0 = some (r, M2) := ⟨0, mm_f, bn_i q_find rfl, m_fault⟩
theorem a_carryOut : two fX6_carryOut fX7_carryOut := ⟨-3, mm_0, mm_f, by
  unfold fX6_carryOut
  exact bn_i q_find (if_ni (by decide) rfl), by
  unfold fX7_carryOut
  exact bn2_i m_fault (if_ni (by decide) rfl)⟩
theorem a_undo : two fX6_undo fX7_undo := ⟨-5, mm_0, mm_0, if_pi c_133_2 rfl, if_pi (by decide +kernel) rfl⟩
theorem b_save {x : Int32} (h : ¬ x < 0) (h1 : ¬ (1 : Int32) < x) : x = 0 ∨ x = 1 := by
  obtain ⟨j, hj, e⟩ := nI_of2 (M := 1) (n := 1) rfl h (Int32.not_lt.mp h1)
  subst e
  match j, hj with
  | 0, _ => exact Or.inl rfl
  | 1, _ => exact Or.inr rfl
  | j + 2, hj => exact absurd hj (by omega)
theorem b_2 {x : Int32} : x < 2 ↔ ¬ (1 : Int32) < x := by
  rw [Int32.lt_iff_toInt_lt, Int32.lt_iff_toInt_lt, show (2 : Int32).toInt = 2 from rfl, show (1 : Int32).toInt = 1 from rfl]
  omega
theorem a_restore (x : Int32) : two (fun M => fX6_restore M x) (fun M => fX7_restore M x) := by
  by_cases c0 : x < 0
  · refine two_0 (-2) ?_ ?_
    · exact if_pi c0 rfl
    · exact bn_i (in_lo c0) (if_ni (by decide) rfl)
  · by_cases c1 : (1 : Int32) < x
    · refine two_0 (-2) ?_ ?_
      · exact if_ni c0 (if_ni (fun q => b_2.mp q c1) rfl)
      · exact bn_i (in_hi c1) (if_ni (by decide) rfl)
    · refine two_0 (-5) ?_ ?_
      · refine if_ni c0 (if_pi (b_2.mpr c1) ?_)
        rcases b_save c0 c1 with rfl | rfl
        · exact if_pi rfl (if_pi c_597_6 rfl)
        · exact if_ni (by decide) (if_pi c_663_6 rfl)
      · refine bn_i (in_tt c0 c1) (if_pi rfl ?_)
        rcases b_save c0 c1 with rfl | rfl
        · exact gd_i (by decide) (if_pi (by decide +kernel) rfl)
        · exact gd_i (by decide) (if_pi (by decide +kernel) rfl)
