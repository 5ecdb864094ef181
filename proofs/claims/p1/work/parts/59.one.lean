/-! the law on a script of one call -/
theorem l_end (xs : Nat → Int32) (n : Nat) (M : mm_M) : fL_law_18 xs 5 (n + 1) M (0 + 5) = some true := by
  rw [fL_law_18]
  exact if_pi (by decide) rfl
theorem l_two {xs : Nat → Int32} {n : Nat} {f g : mm_M → Option (Int32 × mm_M)} (h : two f g) : (bn2 (f mm_0) fun r7 M8 => bn2 (g M8) fun r10 M11 => if r7 = r10 then lt ((0 : Int32) + 5) fun y13 => fL_law_18 xs 5 (n + 1) M11 y13 else some false) = some true := by
  obtain ⟨r, M1, M2, e1, e2⟩ := h
  exact bn2_i e1 (bn2_i e2 (if_pi rfl (lt_i (l_end xs n M2))))
theorem l_see {xs : Nat → Int32} {n : Nat} {f g : mm_M → Option Int32} (h : see f g) : (bn (f mm_0) fun r7 => bn (g mm_0) fun r10 => if r7 = r10 then lt ((0 : Int32) + 5) fun y13 => fL_law_18 xs 5 (n + 1) mm_0 y13 else some false) = some true := by
  obtain ⟨r, e1, e2⟩ := h
  exact bn_i e1 (bn_i e2 (if_pi rfl (lt_i (l_end xs n mm_0))))
theorem l_seeL {xs : Nat → Int32} {n : Nat} {f g : mm_M → Option Int64} (h : see f g) : (bn (f mm_0) fun r7 => bn (g mm_0) fun r10 => if (lg_cmp r7 r10) = 0 then lt ((0 : Int32) + 5) fun y13 => fL_law_18 xs 5 (n + 1) mm_0 y13 else some false) = some true := by
  obtain ⟨r, e1, e2⟩ := h
  exact bn_i e1 (bn_i e2 (if_pi ((lg_cmp_eq _ _).mpr rfl) (lt_i (l_end xs n mm_0))))
set_option maxRecDepth 100000 in
set_option maxHeartbeats 8000000 in
theorem l_all (xs : Nat → Int32) {L : Nat} (hL : L ≤ 5) : fL_law_18 xs L FU mm_0 0 = some true := by
  by_cases h5 : L = 5
  · subst h5
    obtain ⟨n, hn⟩ : ∃ n, FU = n + 1 + 1 := ⟨999998, rfl⟩
    rw [hn, fL_law_18]
    refine if_ni (by decide) (gd_i (by decide) ?_)
    by_cases c0 : ((xs ((0 : Int32).toNatClampNeg)) &&& 31) = 0
    · refine if_pi c0 ?_
      exact gd_i (by decide) (gd_i (by decide) (l_two (a_set _ _)))
    refine if_ni c0 ?_
    by_cases c1 : ((xs ((0 : Int32).toNatClampNeg)) &&& 31) = 1
    · refine if_pi c1 ?_
      exact gd_i (by decide) (l_two (a_seed _))
    refine if_ni c1 ?_
    by_cases c2 : ((xs ((0 : Int32).toNatClampNeg)) &&& 31) = 2
    · refine if_pi c2 ?_
      exact gd_i (by decide) (l_two (a_pitch _))
    refine if_ni c2 ?_
    by_cases c3 : ((xs ((0 : Int32).toNatClampNeg)) &&& 31) = 3
    · refine if_pi c3 ?_
      exact gd_i (by decide) (gd_i (by decide) (l_two (a_rent _ _)))
    refine if_ni c3 ?_
    by_cases c4 : ((xs ((0 : Int32).toNatClampNeg)) &&& 31) = 4
    · refine if_pi c4 ?_
      exact gd_i (by decide) (gd_i (by decide) (l_two (a_cart _ _)))
    refine if_ni c4 ?_
    by_cases c5 : ((xs ((0 : Int32).toNatClampNeg)) &&& 31) = 5
    · refine if_pi c5 ?_
      exact gd_i (by decide) (gd_i (by decide) (gd_i (by decide) (gd_i (by decide) (l_two (a_wish _ _ _ _)))))
    refine if_ni c5 ?_
    by_cases c6 : ((xs ((0 : Int32).toNatClampNeg)) &&& 31) = 6
    · refine if_pi c6 ?_
      exact gd_i (by decide) (gd_i (by decide) (l_two (a_fine _ _)))
    refine if_ni c6 ?_
    by_cases c7 : ((xs ((0 : Int32).toNatClampNeg)) &&& 31) = 7
    · refine if_pi c7 ?_
      exact gd_i (by decide) (l_two (a_check _))
    refine if_ni c7 ?_
    by_cases c8 : ((xs ((0 : Int32).toNatClampNeg)) &&& 31) = 8
    · refine if_pi c8 ?_
      exact gd_i (by decide) (gd_i (by decide) (l_two (a_swap _ _)))
    refine if_ni c8 ?_
    by_cases c9 : ((xs ((0 : Int32).toNatClampNeg)) &&& 31) = 9
    · refine if_pi c9 ?_
      exact gd_i (by decide) (gd_i (by decide) (l_two (a_pay _ _)))
    refine if_ni c9 ?_
    by_cases c10 : ((xs ((0 : Int32).toNatClampNeg)) &&& 31) = 10
    · refine if_pi c10 ?_
      exact gd_i (by decide) (l_two (a_days _))
    refine if_ni c10 ?_
    by_cases c11 : ((xs ((0 : Int32).toNatClampNeg)) &&& 31) = 11
    · refine if_pi c11 ?_
      exact gd_i (by decide) (gd_i (by decide) (l_see (a_ofCart _ _)))
    refine if_ni c11 ?_
    by_cases c12 : ((xs ((0 : Int32).toNatClampNeg)) &&& 31) = 12
    · refine if_pi c12 ?_
      exact gd_i (by decide) (gd_i (by decide) (l_seeL (a_money _ _)))
    refine if_ni c12 ?_
    by_cases c13 : ((xs ((0 : Int32).toNatClampNeg)) &&& 31) = 13
    · refine if_pi c13 ?_
      exact gd_i (by decide) (gd_i (by decide) (l_see (a_ofPitch _ _)))
    refine if_ni c13 ?_
    by_cases c14 : ((xs ((0 : Int32).toNatClampNeg)) &&& 31) = 14
    · refine if_pi c14 ?_
      exact gd_i (by decide) (l_see (a_count _))
    refine if_ni c14 ?_
    by_cases c15 : ((xs ((0 : Int32).toNatClampNeg)) &&& 31) = 15
    · refine if_pi c15 ?_
      exact gd_i (by decide) (gd_i (by decide) (l_see (a_pointsOn _ _)))
    refine if_ni c15 ?_
    by_cases c16 : ((xs ((0 : Int32).toNatClampNeg)) &&& 31) = 16
    · refine if_pi c16 ?_
      exact gd_i (by decide) (l_two (a_wouldHave _))
    refine if_ni c16 ?_
    by_cases c17 : ((xs ((0 : Int32).toNatClampNeg)) &&& 31) = 17
    · refine if_pi c17 ?_
      exact gd_i (by decide) (gd_i (by decide) (l_two (a_ifWished _ _)))
    refine if_ni c17 ?_
    by_cases c18 : ((xs ((0 : Int32).toNatClampNeg)) &&& 31) = 18
    · refine if_pi c18 ?_
      exact gd_i (by decide) (l_two (a_firstDay _))
    refine if_ni c18 ?_
    by_cases c19 : ((xs ((0 : Int32).toNatClampNeg)) &&& 31) = 19
    · refine if_pi c19 ?_
      exact gd_i (by decide) (gd_i (by decide) (l_two (a_daysOf _ _)))
    refine if_ni c19 ?_
    by_cases c20 : ((xs ((0 : Int32).toNatClampNeg)) &&& 31) = 20
    · refine if_pi c20 ?_
      exact gd_i (by decide) (gd_i (by decide) (l_two (a_luckySeed _ _)))
    refine if_ni c20 ?_
    by_cases c21 : ((xs ((0 : Int32).toNatClampNeg)) &&& 31) = 21
    · refine if_pi c21 ?_
      exact gd_i (by decide) (gd_i (by decide) (l_see (a_whyNot _ _)))
    refine if_ni c21 ?_
    by_cases c22 : ((xs ((0 : Int32).toNatClampNeg)) &&& 31) = 22
    · refine if_pi c22 ?_
      exact gd_i (by decide) (gd_i (by decide) (l_two (a_put _)))
    refine if_ni c22 ?_
    by_cases c23 : ((xs ((0 : Int32).toNatClampNeg)) &&& 31) = 23
    · refine if_pi c23 ?_
      exact l_two (a_wipe)
    refine if_ni c23 ?_
    by_cases c24 : ((xs ((0 : Int32).toNatClampNeg)) &&& 31) = 24
    · refine if_pi c24 ?_
      exact by
        obtain ⟨r, M2, e1, e2⟩ := a_fault
        exact bn_i e1 (bn2_i e2 (if_pi rfl (lt_i (l_end xs n M2))))
    refine if_ni c24 ?_
    by_cases c25 : ((xs ((0 : Int32).toNatClampNeg)) &&& 31) = 25
    · refine if_pi c25 ?_
      exact l_two (a_carryOut)
    refine if_ni c25 ?_
    by_cases c26 : ((xs ((0 : Int32).toNatClampNeg)) &&& 31) = 26
    · refine if_pi c26 ?_
      exact l_two (a_undo)
    refine if_ni c26 ?_
    by_cases c27 : ((xs ((0 : Int32).toNatClampNeg)) &&& 31) = 27
    · refine if_pi c27 ?_
      exact gd_i (by decide) (l_two (a_save _))
    refine if_ni c27 ?_
    by_cases c28 : ((xs ((0 : Int32).toNatClampNeg)) &&& 31) = 28
    · refine if_pi c28 ?_
      exact gd_i (by decide) (l_two (a_restore _))
    refine if_ni c28 ?_
    exact lt_i (l_end xs n mm_0)
  · obtain ⟨n, hn⟩ := FU_s
    rw [hn, fL_law_18]
    refine if_pi ?_ rfl
    have h : L = 0 ∨ L = 1 ∨ L = 2 ∨ L = 3 ∨ L = 4 := by omega
    rcases h with rfl | rfl | rfl | rfl | rfl <;> decide
