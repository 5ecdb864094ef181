/-! one call on the fresh memory: the calls that change something, and the counts -/
theorem qE_sI {M : mm_M} {o k : Nat} {v : Int32} (h : qE M) (ho : o < 731) : qE (sI M o k v) := fun o' h' => by
  rw [sI_ap1, if_neg (by omega)]
  exact h o' h'
theorem q_rec2 {M : mm_M} {r : Int32} (h : ¬ r < 0) (h2 : M.1 133 2 = 0) : fX6_recorded M r = some (r, sI M 133 2 (0 + 1)) := by
  refine if_ni h (bn_i (a := sI M 133 2 (0 + 1)) ?_ rfl)
  unfold fX2_keepPrepared
  rw [h2]
  exact if_ni (by decide) rfl
theorem q_keep52 : ∀ (d i n : Nat) (M : mm_M), i + d = 3592 → d < n → M.1 731 2 = 0 → ∃ M', fX7_keep_52 n M (nI i) = some M' ∧ M'.1 732 = M.1 732 := by
  intro d
  induction d with
  | zero =>
    intro i n M hi hn h2
    obtain ⟨n, rfl⟩ : ∃ q, n = q + 1 := ⟨n - 1, by omega⟩
    have e : i = 3592 := by omega
    subst e
    refine ⟨sI M 731 2 ((M.1 731 2) + 1), ?_, ?_⟩
    · rw [fX7_keep_52]
      exact if_pi (show (3592 : Int32) ≤ nI 3592 by decide) (lt_i rfl)
    · rw [sI_ap1, if_neg (by omega)]
  | succ d ih =>
    intro i n M hi hn h2
    obtain ⟨n, rfl⟩ : ∃ q, n = q + 1 := ⟨n - 1, by omega⟩
    have hc : i < 3592 := by omega
    obtain ⟨M', e, h⟩ := ih (i + 1) n (sI M 733 i (M.1 732 i)) (by omega) (by omega) (by rw [sI_ap1, if_neg (by omega)]; exact h2)
    refine ⟨M', ?_, ?_⟩
    · rw [fX7_keep_52]
      refine if_ni (show ¬ nI 3592 ≤ nI i from nI_ge hc (by decide)) ?_
      have en : 3592 * (M.1 731 2) + nI i = nI i := by rw [h2]; simp
      rw [en]
      refine gd_i (ix_nI hc (by decide)) (gd_i (ix_nI (n := 21552) (by omega) (by decide)) (lt_i (lt_i ?_)))
      rw [nI_clamp (by omega), nI_1]
      exact e
    · rw [h, sI_ap1, if_neg (by omega)]
theorem q_keep {M : mm_M} (h : qE M) : ∃ M', fX7_keep M = some M' ∧ ∀ k, M'.1 732 k = at_0 k := by
  have h2 : M.1 731 2 = 0 := qE_o h (by omega) (by omega) 2
  obtain ⟨M', e, hk⟩ := q_keep52 3592 0 FU M rfl (by decide) h2
  refine ⟨M', ?_, fun k => by rw [hk]; exact qE_2 h k⟩
  unfold fX7_keep
  exact if_ni (by rw [h2]; decide) e
theorem a_set_0 (y : Int32) : two (fun M => fX6_set M 0 y) (fun M => fX7_set M 0 y) := by
  by_cases c0 : y < 1
  · refine two_0 (-2) ?_ ?_
    · refine bn_i q_prep (bn2_i (a := -2) (b := mm_0) ?_ (bn2_i (q_rec (by decide)) rfl))
      exact if_ni (by decide) (if_ni (by decide) (gd_i (by decide) (if_pi c0 rfl)))
    · exact bn_i (in_tt (by decide) (by decide)) (if_pi rfl (bn_i (a := 1) rfl (bn_i (a := 20) rfl (bn_i (in_lo c0) (if_ni (by decide) rfl)))))
  · by_cases c1 : (20 : Int32) < y
    · refine two_0 (-2) ?_ ?_
      · refine bn_i q_prep (bn2_i (a := -2) (b := mm_0) ?_ (bn2_i (q_rec (by decide)) rfl))
        exact if_ni (by decide) (if_ni (by decide) (gd_i (by decide) (if_ni c0 (if_ni (Int32.not_le.mpr c1) rfl))))
      · exact bn_i (in_tt (by decide) (by decide)) (if_pi rfl (bn_i (a := 1) rfl (bn_i (a := 20) rfl (bn_i (in_hi c1) (if_ni (by decide) rfl)))))
    · have hE : qE (sI (sI mm_0 2 0 y) 133 2 (0 + 1)) := qE_sI (qE_sI qE_0 (by omega)) (by omega)
      obtain ⟨K, ek, hk⟩ := q_keep hE
      refine ⟨8, sI (sI mm_0 2 0 y) 133 2 (0 + 1), sI K 732 0 y, ?_, ?_⟩
      · refine bn_i q_prep (bn2_i (a := 8) (b := sI mm_0 2 0 y) ?_ (bn2_i (q_rec2 (by decide) rfl) rfl))
        exact if_ni (by decide) (if_ni (by decide) (gd_i (by decide) (if_ni c0 (if_pi (Int32.not_lt.mp c1) rfl))))
      · refine bn_i (in_tt (by decide) (by decide)) (if_pi rfl (bn_i (a := 1) rfl (bn_i (a := 20) rfl (bn_i (in_tt c0 c1) (if_pi rfl (bn_i ek (gd_i (by decide) (lt_i (lt_i ?_)))))))))
        show some (K.1 732 0, sI K 732 0 y) = _
        rw [hk 0]
        rfl
theorem a_set_1 (y : Int32) : two (fun M => fX6_set M 1 y) (fun M => fX7_set M 1 y) := by
  by_cases c0 : y < 1
  · refine two_0 (-2) ?_ ?_
    · refine bn_i q_prep (bn2_i (a := -2) (b := mm_0) ?_ (bn2_i (q_rec (by decide)) rfl))
      exact if_ni (by decide) (if_ni (by decide) (gd_i (by decide) (if_pi c0 rfl)))
    · exact bn_i (in_tt (by decide) (by decide)) (if_pi rfl (bn_i (a := 1) rfl (bn_i (a := 200) rfl (bn_i (in_lo c0) (if_ni (by decide) rfl)))))
  · by_cases c1 : (200 : Int32) < y
    · refine two_0 (-2) ?_ ?_
      · refine bn_i q_prep (bn2_i (a := -2) (b := mm_0) ?_ (bn2_i (q_rec (by decide)) rfl))
        exact if_ni (by decide) (if_ni (by decide) (gd_i (by decide) (if_ni c0 (if_ni (Int32.not_le.mpr c1) rfl))))
      · exact bn_i (in_tt (by decide) (by decide)) (if_pi rfl (bn_i (a := 1) rfl (bn_i (a := 200) rfl (bn_i (in_hi c1) (if_ni (by decide) rfl)))))
    · have hE : qE (sI (sI mm_0 2 1 y) 133 2 (0 + 1)) := qE_sI (qE_sI qE_0 (by omega)) (by omega)
      obtain ⟨K, ek, hk⟩ := q_keep hE
      refine ⟨60, sI (sI mm_0 2 1 y) 133 2 (0 + 1), sI K 732 1 y, ?_, ?_⟩
      · refine bn_i q_prep (bn2_i (a := 60) (b := sI mm_0 2 1 y) ?_ (bn2_i (q_rec2 (by decide) rfl) rfl))
        exact if_ni (by decide) (if_ni (by decide) (gd_i (by decide) (if_ni c0 (if_pi (Int32.not_lt.mp c1) rfl))))
      · refine bn_i (in_tt (by decide) (by decide)) (if_pi rfl (bn_i (a := 1) rfl (bn_i (a := 200) rfl (bn_i (in_tt c0 c1) (if_pi rfl (bn_i ek (gd_i (by decide) (lt_i (lt_i ?_)))))))))
        show some (K.1 732 1, sI K 732 1 y) = _
        rw [hk 1]
        rfl
theorem a_set_2 (y : Int32) : two (fun M => fX6_set M 2 y) (fun M => fX7_set M 2 y) := by
  by_cases c0 : y < 1
  · refine two_0 (-2) ?_ ?_
    · refine bn_i q_prep (bn2_i (a := -2) (b := mm_0) ?_ (bn2_i (q_rec (by decide)) rfl))
      exact if_ni (by decide) (if_ni (by decide) (gd_i (by decide) (if_pi c0 rfl)))
    · exact bn_i (in_tt (by decide) (by decide)) (if_pi rfl (bn_i (a := 1) rfl (bn_i (a := 8) rfl (bn_i (in_lo c0) (if_ni (by decide) rfl)))))
  · by_cases c1 : (8 : Int32) < y
    · refine two_0 (-2) ?_ ?_
      · refine bn_i q_prep (bn2_i (a := -2) (b := mm_0) ?_ (bn2_i (q_rec (by decide)) rfl))
        exact if_ni (by decide) (if_ni (by decide) (gd_i (by decide) (if_ni c0 (if_ni (Int32.not_le.mpr c1) rfl))))
      · exact bn_i (in_tt (by decide) (by decide)) (if_pi rfl (bn_i (a := 1) rfl (bn_i (a := 8) rfl (bn_i (in_hi c1) (if_ni (by decide) rfl)))))
    · have hE : qE (sI (sI mm_0 2 2 y) 133 2 (0 + 1)) := qE_sI (qE_sI qE_0 (by omega)) (by omega)
      obtain ⟨K, ek, hk⟩ := q_keep hE
      refine ⟨2, sI (sI mm_0 2 2 y) 133 2 (0 + 1), sI K 732 2 y, ?_, ?_⟩
      · refine bn_i q_prep (bn2_i (a := 2) (b := sI mm_0 2 2 y) ?_ (bn2_i (q_rec2 (by decide) rfl) rfl))
        exact if_ni (by decide) (if_ni (by decide) (gd_i (by decide) (if_ni c0 (if_pi (Int32.not_lt.mp c1) rfl))))
      · refine bn_i (in_tt (by decide) (by decide)) (if_pi rfl (bn_i (a := 1) rfl (bn_i (a := 8) rfl (bn_i (in_tt c0 c1) (if_pi rfl (bn_i ek (gd_i (by decide) (lt_i (lt_i ?_)))))))))
        show some (K.1 732 2, sI K 732 2 y) = _
        rw [hk 2]
        rfl
theorem a_set_3 (y : Int32) : two (fun M => fX6_set M 3 y) (fun M => fX7_set M 3 y) := by
  by_cases c0 : y < 3
  · refine two_0 (-2) ?_ ?_
    · refine bn_i q_prep (bn2_i (a := -2) (b := mm_0) ?_ (bn2_i (q_rec (by decide)) rfl))
      exact if_ni (by decide) (if_ni (by decide) (gd_i (by decide) (if_pi c0 rfl)))
    · exact bn_i (in_tt (by decide) (by decide)) (if_pi rfl (bn_i (a := 3) rfl (bn_i (a := 30) rfl (bn_i (in_lo c0) (if_ni (by decide) rfl)))))
  · by_cases c1 : (30 : Int32) < y
    · refine two_0 (-2) ?_ ?_
      · refine bn_i q_prep (bn2_i (a := -2) (b := mm_0) ?_ (bn2_i (q_rec (by decide)) rfl))
        exact if_ni (by decide) (if_ni (by decide) (gd_i (by decide) (if_ni c0 (if_ni (Int32.not_le.mpr c1) rfl))))
      · exact bn_i (in_tt (by decide) (by decide)) (if_pi rfl (bn_i (a := 3) rfl (bn_i (a := 30) rfl (bn_i (in_hi c1) (if_ni (by decide) rfl)))))
    · have hE : qE (sI (sI mm_0 2 3 y) 133 2 (0 + 1)) := qE_sI (qE_sI qE_0 (by omega)) (by omega)
      obtain ⟨K, ek, hk⟩ := q_keep hE
      refine ⟨12, sI (sI mm_0 2 3 y) 133 2 (0 + 1), sI K 732 3 y, ?_, ?_⟩
      · refine bn_i q_prep (bn2_i (a := 12) (b := sI mm_0 2 3 y) ?_ (bn2_i (q_rec2 (by decide) rfl) rfl))
        exact if_ni (by decide) (if_ni (by decide) (gd_i (by decide) (if_ni c0 (if_pi (Int32.not_lt.mp c1) rfl))))
      · refine bn_i (in_tt (by decide) (by decide)) (if_pi rfl (bn_i (a := 3) rfl (bn_i (a := 30) rfl (bn_i (in_tt c0 c1) (if_pi rfl (bn_i ek (gd_i (by decide) (lt_i (lt_i ?_)))))))))
        show some (K.1 732 3, sI K 732 3 y) = _
        rw [hk 3]
        rfl
theorem a_set_4 (y : Int32) : two (fun M => fX6_set M 4 y) (fun M => fX7_set M 4 y) := by
  by_cases c0 : y < 1
  · refine two_0 (-2) ?_ ?_
    · refine bn_i q_prep (bn2_i (a := -2) (b := mm_0) ?_ (bn2_i (q_rec (by decide)) rfl))
      exact if_ni (by decide) (if_ni (by decide) (gd_i (by decide) (if_pi c0 rfl)))
    · exact bn_i (in_tt (by decide) (by decide)) (if_pi rfl (bn_i (a := 1) rfl (bn_i (a := 60) rfl (bn_i (in_lo c0) (if_ni (by decide) rfl)))))
  · by_cases c1 : (60 : Int32) < y
    · refine two_0 (-2) ?_ ?_
      · refine bn_i q_prep (bn2_i (a := -2) (b := mm_0) ?_ (bn2_i (q_rec (by decide)) rfl))
        exact if_ni (by decide) (if_ni (by decide) (gd_i (by decide) (if_ni c0 (if_ni (Int32.not_le.mpr c1) rfl))))
      · exact bn_i (in_tt (by decide) (by decide)) (if_pi rfl (bn_i (a := 1) rfl (bn_i (a := 60) rfl (bn_i (in_hi c1) (if_ni (by decide) rfl)))))
    · have hE : qE (sI (sI mm_0 2 4 y) 133 2 (0 + 1)) := qE_sI (qE_sI qE_0 (by omega)) (by omega)
      obtain ⟨K, ek, hk⟩ := q_keep hE
      refine ⟨14, sI (sI mm_0 2 4 y) 133 2 (0 + 1), sI K 732 4 y, ?_, ?_⟩
      · refine bn_i q_prep (bn2_i (a := 14) (b := sI mm_0 2 4 y) ?_ (bn2_i (q_rec2 (by decide) rfl) rfl))
        exact if_ni (by decide) (if_ni (by decide) (gd_i (by decide) (if_ni c0 (if_pi (Int32.not_lt.mp c1) rfl))))
      · refine bn_i (in_tt (by decide) (by decide)) (if_pi rfl (bn_i (a := 1) rfl (bn_i (a := 60) rfl (bn_i (in_tt c0 c1) (if_pi rfl (bn_i ek (gd_i (by decide) (lt_i (lt_i ?_)))))))))
        show some (K.1 732 4, sI K 732 4 y) = _
        rw [hk 4]
        rfl
theorem a_set_5 (y : Int32) : two (fun M => fX6_set M 5 y) (fun M => fX7_set M 5 y) := by
  by_cases c0 : y < 1
  · refine two_0 (-2) ?_ ?_
    · refine bn_i q_prep (bn2_i (a := -2) (b := mm_0) ?_ (bn2_i (q_rec (by decide)) rfl))
      exact if_ni (by decide) (if_ni (by decide) (gd_i (by decide) (if_pi c0 rfl)))
    · exact bn_i (in_tt (by decide) (by decide)) (if_pi rfl (bn_i (a := 1) rfl (bn_i (a := 200) rfl (bn_i (in_lo c0) (if_ni (by decide) rfl)))))
  · by_cases c1 : (200 : Int32) < y
    · refine two_0 (-2) ?_ ?_
      · refine bn_i q_prep (bn2_i (a := -2) (b := mm_0) ?_ (bn2_i (q_rec (by decide)) rfl))
        exact if_ni (by decide) (if_ni (by decide) (gd_i (by decide) (if_ni c0 (if_ni (Int32.not_le.mpr c1) rfl))))
      · exact bn_i (in_tt (by decide) (by decide)) (if_pi rfl (bn_i (a := 1) rfl (bn_i (a := 200) rfl (bn_i (in_hi c1) (if_ni (by decide) rfl)))))
    · have hE : qE (sI (sI mm_0 2 5 y) 133 2 (0 + 1)) := qE_sI (qE_sI qE_0 (by omega)) (by omega)
      obtain ⟨K, ek, hk⟩ := q_keep hE
      refine ⟨90, sI (sI mm_0 2 5 y) 133 2 (0 + 1), sI K 732 5 y, ?_, ?_⟩
      · refine bn_i q_prep (bn2_i (a := 90) (b := sI mm_0 2 5 y) ?_ (bn2_i (q_rec2 (by decide) rfl) rfl))
        exact if_ni (by decide) (if_ni (by decide) (gd_i (by decide) (if_ni c0 (if_pi (Int32.not_lt.mp c1) rfl))))
      · refine bn_i (in_tt (by decide) (by decide)) (if_pi rfl (bn_i (a := 1) rfl (bn_i (a := 200) rfl (bn_i (in_tt c0 c1) (if_pi rfl (bn_i ek (gd_i (by decide) (lt_i (lt_i ?_)))))))))
        show some (K.1 732 5, sI K 732 5 y) = _
        rw [hk 5]
        rfl
theorem a_set_6 (y : Int32) : two (fun M => fX6_set M 6 y) (fun M => fX7_set M 6 y) := by
  by_cases c0 : y < 0
  · refine two_0 (-2) ?_ ?_
    · refine bn_i q_prep (bn2_i (a := -2) (b := mm_0) ?_ (bn2_i (q_rec (by decide)) rfl))
      exact if_ni (by decide) (if_ni (by decide) (gd_i (by decide) (if_pi c0 rfl)))
    · exact bn_i (in_tt (by decide) (by decide)) (if_pi rfl (bn_i (a := 0) rfl (bn_i (a := 10000) rfl (bn_i (in_lo c0) (if_ni (by decide) rfl)))))
  · by_cases c1 : (10000 : Int32) < y
    · refine two_0 (-2) ?_ ?_
      · refine bn_i q_prep (bn2_i (a := -2) (b := mm_0) ?_ (bn2_i (q_rec (by decide)) rfl))
        exact if_ni (by decide) (if_ni (by decide) (gd_i (by decide) (if_ni c0 (if_ni (Int32.not_le.mpr c1) rfl))))
      · exact bn_i (in_tt (by decide) (by decide)) (if_pi rfl (bn_i (a := 0) rfl (bn_i (a := 10000) rfl (bn_i (in_hi c1) (if_ni (by decide) rfl)))))
    · have hE : qE (sI (sI mm_0 2 6 y) 133 2 (0 + 1)) := qE_sI (qE_sI qE_0 (by omega)) (by omega)
      obtain ⟨K, ek, hk⟩ := q_keep hE
      refine ⟨500, sI (sI mm_0 2 6 y) 133 2 (0 + 1), sI K 732 6 y, ?_, ?_⟩
      · refine bn_i q_prep (bn2_i (a := 500) (b := sI mm_0 2 6 y) ?_ (bn2_i (q_rec2 (by decide) rfl) rfl))
        exact if_ni (by decide) (if_ni (by decide) (gd_i (by decide) (if_ni c0 (if_pi (Int32.not_lt.mp c1) rfl))))
      · refine bn_i (in_tt (by decide) (by decide)) (if_pi rfl (bn_i (a := 0) rfl (bn_i (a := 10000) rfl (bn_i (in_tt c0 c1) (if_pi rfl (bn_i ek (gd_i (by decide) (lt_i (lt_i ?_)))))))))
        show some (K.1 732 6, sI K 732 6 y) = _
        rw [hk 6]
        rfl
theorem a_set_7 (y : Int32) : two (fun M => fX6_set M 7 y) (fun M => fX7_set M 7 y) := by
  by_cases c0 : y < 0
  · refine two_0 (-2) ?_ ?_
    · refine bn_i q_prep (bn2_i (a := -2) (b := mm_0) ?_ (bn2_i (q_rec (by decide)) rfl))
      exact if_ni (by decide) (if_ni (by decide) (gd_i (by decide) (if_pi c0 rfl)))
    · exact bn_i (in_tt (by decide) (by decide)) (if_pi rfl (bn_i (a := 0) rfl (bn_i (a := 9) rfl (bn_i (in_lo c0) (if_ni (by decide) rfl)))))
  · by_cases c1 : (9 : Int32) < y
    · refine two_0 (-2) ?_ ?_
      · refine bn_i q_prep (bn2_i (a := -2) (b := mm_0) ?_ (bn2_i (q_rec (by decide)) rfl))
        exact if_ni (by decide) (if_ni (by decide) (gd_i (by decide) (if_ni c0 (if_ni (Int32.not_le.mpr c1) rfl))))
      · exact bn_i (in_tt (by decide) (by decide)) (if_pi rfl (bn_i (a := 0) rfl (bn_i (a := 9) rfl (bn_i (in_hi c1) (if_ni (by decide) rfl)))))
    · have hE : qE (sI (sI mm_0 2 7 y) 133 2 (0 + 1)) := qE_sI (qE_sI qE_0 (by omega)) (by omega)
      obtain ⟨K, ek, hk⟩ := q_keep hE
      refine ⟨2, sI (sI mm_0 2 7 y) 133 2 (0 + 1), sI K 732 7 y, ?_, ?_⟩
      · refine bn_i q_prep (bn2_i (a := 2) (b := sI mm_0 2 7 y) ?_ (bn2_i (q_rec2 (by decide) rfl) rfl))
        exact if_ni (by decide) (if_ni (by decide) (gd_i (by decide) (if_ni c0 (if_pi (Int32.not_lt.mp c1) rfl))))
      · refine bn_i (in_tt (by decide) (by decide)) (if_pi rfl (bn_i (a := 0) rfl (bn_i (a := 9) rfl (bn_i (in_tt c0 c1) (if_pi rfl (bn_i ek (gd_i (by decide) (lt_i (lt_i ?_)))))))))
        show some (K.1 732 7, sI K 732 7 y) = _
        rw [hk 7]
        rfl
theorem a_set_8 (y : Int32) : two (fun M => fX6_set M 8 y) (fun M => fX7_set M 8 y) := by
  by_cases c0 : y < 6
  · refine two_0 (-2) ?_ ?_
    · refine bn_i q_prep (bn2_i (a := -2) (b := mm_0) ?_ (bn2_i (q_rec (by decide)) rfl))
      exact if_ni (by decide) (if_ni (by decide) (gd_i (by decide) (if_pi c0 rfl)))
    · exact bn_i (in_tt (by decide) (by decide)) (if_pi rfl (bn_i (a := 6) rfl (bn_i (a := 14) rfl (bn_i (in_lo c0) (if_ni (by decide) rfl)))))
  · by_cases c1 : (14 : Int32) < y
    · refine two_0 (-2) ?_ ?_
      · refine bn_i q_prep (bn2_i (a := -2) (b := mm_0) ?_ (bn2_i (q_rec (by decide)) rfl))
        exact if_ni (by decide) (if_ni (by decide) (gd_i (by decide) (if_ni c0 (if_ni (Int32.not_le.mpr c1) rfl))))
      · exact bn_i (in_tt (by decide) (by decide)) (if_pi rfl (bn_i (a := 6) rfl (bn_i (a := 14) rfl (bn_i (in_hi c1) (if_ni (by decide) rfl)))))
    · have hE : qE (sI (sI mm_0 2 8 y) 133 2 (0 + 1)) := qE_sI (qE_sI qE_0 (by omega)) (by omega)
      obtain ⟨K, ek, hk⟩ := q_keep hE
      refine ⟨11, sI (sI mm_0 2 8 y) 133 2 (0 + 1), sI K 732 8 y, ?_, ?_⟩
      · refine bn_i q_prep (bn2_i (a := 11) (b := sI mm_0 2 8 y) ?_ (bn2_i (q_rec2 (by decide) rfl) rfl))
        exact if_ni (by decide) (if_ni (by decide) (gd_i (by decide) (if_ni c0 (if_pi (Int32.not_lt.mp c1) rfl))))
      · refine bn_i (in_tt (by decide) (by decide)) (if_pi rfl (bn_i (a := 6) rfl (bn_i (a := 14) rfl (bn_i (in_tt c0 c1) (if_pi rfl (bn_i ek (gd_i (by decide) (lt_i (lt_i ?_)))))))))
        show some (K.1 732 8, sI K 732 8 y) = _
        rw [hk 8]
        rfl
theorem a_set_9 (y : Int32) : two (fun M => fX6_set M 9 y) (fun M => fX7_set M 9 y) := by
  by_cases c0 : y < 0
  · refine two_0 (-2) ?_ ?_
    · refine bn_i q_prep (bn2_i (a := -2) (b := mm_0) ?_ (bn2_i (q_rec (by decide)) rfl))
      exact if_ni (by decide) (if_ni (by decide) (gd_i (by decide) (if_pi c0 rfl)))
    · exact bn_i (in_tt (by decide) (by decide)) (if_pi rfl (bn_i (a := 0) rfl (bn_i (a := 5000) rfl (bn_i (in_lo c0) (if_ni (by decide) rfl)))))
  · by_cases c1 : (5000 : Int32) < y
    · refine two_0 (-2) ?_ ?_
      · refine bn_i q_prep (bn2_i (a := -2) (b := mm_0) ?_ (bn2_i (q_rec (by decide)) rfl))
        exact if_ni (by decide) (if_ni (by decide) (gd_i (by decide) (if_ni c0 (if_ni (Int32.not_le.mpr c1) rfl))))
      · exact bn_i (in_tt (by decide) (by decide)) (if_pi rfl (bn_i (a := 0) rfl (bn_i (a := 5000) rfl (bn_i (in_hi c1) (if_ni (by decide) rfl)))))
    · have hE : qE (sI (sI mm_0 2 9 y) 133 2 (0 + 1)) := qE_sI (qE_sI qE_0 (by omega)) (by omega)
      obtain ⟨K, ek, hk⟩ := q_keep hE
      refine ⟨200, sI (sI mm_0 2 9 y) 133 2 (0 + 1), sI K 732 9 y, ?_, ?_⟩
      · refine bn_i q_prep (bn2_i (a := 200) (b := sI mm_0 2 9 y) ?_ (bn2_i (q_rec2 (by decide) rfl) rfl))
        exact if_ni (by decide) (if_ni (by decide) (gd_i (by decide) (if_ni c0 (if_pi (Int32.not_lt.mp c1) rfl))))
      · refine bn_i (in_tt (by decide) (by decide)) (if_pi rfl (bn_i (a := 0) rfl (bn_i (a := 5000) rfl (bn_i (in_tt c0 c1) (if_pi rfl (bn_i ek (gd_i (by decide) (lt_i (lt_i ?_)))))))))
        show some (K.1 732 9, sI K 732 9 y) = _
        rw [hk 9]
        rfl
theorem a_set (x y : Int32) : two (fun M => fX6_set M x y) (fun M => fX7_set M x y) := by
  by_cases c0 : x < 0
  · refine two_0 (-2) ?_ ?_
    · exact bn_i q_prep (bn2_i (a := -2) (b := mm_0) (if_pi c0 rfl) (bn2_i (q_rec (by decide)) rfl))
    · exact bn_i (in_lo c0) (if_ni (by decide) rfl)
  · by_cases c1 : (9 : Int32) < x
    · refine two_0 (-2) ?_ ?_
      · exact bn_i q_prep (bn2_i (a := -2) (b := mm_0) (if_ni c0 (if_pi ((i_succ rfl).mpr c1) rfl)) (bn2_i (q_rec (by decide)) rfl))
      · exact bn_i (in_hi c1) (if_ni (by decide) rfl)
    · obtain ⟨j, hj, e⟩ := nI_of2 (M := 9) (n := 9) rfl c0 (Int32.not_lt.mp c1)
      subst e
      match j, hj with
      | 0, _ => exact a_set_0 y
      | 1, _ => exact a_set_1 y
      | 2, _ => exact a_set_2 y
      | 3, _ => exact a_set_3 y
      | 4, _ => exact a_set_4 y
      | 5, _ => exact a_set_5 y
      | 6, _ => exact a_set_6 y
      | 7, _ => exact a_set_7 y
      | 8, _ => exact a_set_8 y
      | 9, _ => exact a_set_9 y
      | j + 10, hj => exact absurd hj (by omega)
theorem a_seed (x : Int32) : two (fun M => fX6_seed M x) (fun M => fX7_seed M x) := by
  by_cases c0 : x < 0
  · refine two_0 (-2) ?_ ?_
    · exact bn_i q_prep (bn2_i (a := -2) (b := mm_0) (if_pi c0 rfl) (bn2_i (q_rec (by decide)) rfl))
    · exact bn_i (in_lo c0) (if_ni (by decide) rfl)
  · by_cases c1 : (65536 : Int32) < x
    · refine two_0 (-2) ?_ ?_
      · exact bn_i q_prep (bn2_i (a := -2) (b := mm_0) (if_ni c0 (if_ni (Int32.not_lt.mpr ((i_succ rfl).mpr c1)) rfl)) (bn2_i (q_rec (by decide)) rfl))
      · exact bn_i (in_hi c1) (if_ni (by decide) rfl)
    · have hE : qE (sI (sI mm_0 1 1 x) 133 2 (0 + 1)) := qE_sI (qE_sI qE_0 (by omega)) (by omega)
      obtain ⟨K, ek, hk⟩ := q_keep hE
      refine ⟨1, sI (sI mm_0 1 1 x) 133 2 (0 + 1), sI K 732 11 x, ?_, ?_⟩
      · refine bn_i q_prep (bn2_i (a := 1) (b := sI mm_0 1 1 x) ?_ (bn2_i (q_rec2 (by decide) rfl) rfl))
        exact if_ni c0 (if_pi (Int32.not_le.mp (fun q => c1 ((i_succ rfl).mp q))) rfl)
      · refine bn_i (in_tt c0 c1) (if_pi rfl (bn_i ek (lt_i (lt_i ?_))))
        rw [hk 11]
        rfl
def mP (x : Int32) : mm_M := sI (sI (sI (sI (sI mm_0 9 0 x) 9 1 0) 9 2 0) 9 3 (-6)) 1 2 (0 + 1)
theorem a_pitch (x : Int32) : two (fun M => fX6_pitch M x) (fun M => fX7_pitch M x) := by
  by_cases c0 : x < 0
  · refine two_0 (-2) ?_ ?_
    · exact bn_i q_prep (bn2_i (a := -2) (b := mm_0) (if_pi c0 rfl) (bn2_i (q_rec (by decide)) rfl))
    · exact bn_i (in_lo c0) (if_ni (by decide) rfl)
  · by_cases c1 : (20000 : Int32) < x
    · refine two_0 (-2) ?_ ?_
      · exact bn_i q_prep (bn2_i (a := -2) (b := mm_0) (if_ni c0 (if_ni (Int32.not_le.mpr c1) rfl)) (bn2_i (q_rec (by decide)) rfl))
      · exact bn_i (in_hi c1) (if_ni (by decide) rfl)
    · have hE : qE (sI (mP x) 133 2 (0 + 1)) := qE_sI (qE_sI (qE_sI (qE_sI (qE_sI (qE_sI qE_0 (by omega)) (by omega)) (by omega)) (by omega)) (by omega)) (by omega)
      obtain ⟨K, ek, hk⟩ := q_keep hE
      refine ⟨0, sI (mP x) 133 2 (0 + 1), sI (sI (sI (sI (sI K 732 32 x) 732 33 0) 732 34 0) 732 35 (-6)) 732 12 (0 + 1), ?_, ?_⟩
      · refine bn_i q_prep (bn2_i (a := 0) (b := mP x) ?_ (bn2_i (q_rec2 (by decide) rfl) rfl))
        unfold fX5_addPitch
        rw [c_1_2]
        refine if_ni c0 (if_pi (Int32.not_lt.mp c1) (if_pi (by decide) (gd_i (by decide) ?_)))
        refine bn_i (a := sI (sI (sI (sI mm_0 9 0 x) 9 1 0) 9 2 0) 9 3 (-6)) rfl ?_
        have e2 : (sI (sI (sI (sI mm_0 9 0 x) 9 1 0) 9 2 0) 9 3 (-6)).1 1 2 = 0 := by
          rw [sI_ap1, if_neg (by omega), sI_ap1, if_neg (by omega), sI_ap1, if_neg (by omega), sI_ap1, if_neg (by omega)]
          exact c_1_2
        rw [e2]
        refine lt_i ?_
        rw [show (sI (sI (sI (sI (sI mm_0 9 0 x) 9 1 0) 9 2 0) 9 3 (-6)) 1 2 (0 + 1)).1 1 2 = 0 + 1 from rfl]
        rfl
      · refine bn_i (in_tt c0 c1) (if_pi rfl ?_)
        rw [qE_2 hE 12]
        refine if_ni (by decide) (bn_i ek ?_)
        rw [hk 12]
        refine lt_i (gd_i (by decide) (lt_i (gd_i (by decide) (lt_i (gd_i (by decide) (lt_i (gd_i (by decide) (lt_i ?_))))))))
        have e12 : (sI (sI (sI (sI K 732 32 x) 732 33 0) 732 34 0) 732 35 (-6)).1 732 12 = 0 := by
          show K.1 732 12 = 0
          rw [hk 12]; rfl
        show lt (sI (sI (sI (sI (sI K 732 32 x) 732 33 0) 732 34 0) 732 35 (-6)) 732 12 ((sI (sI (sI (sI K 732 32 x) 732 33 0) 732 34 0) 732 35 (-6)).1 732 12 + 1)) (fun M16 => some ((M16.1 732 12) - 1, M16)) = _
        rw [e12]
        refine lt_i ?_
        rw [show (sI (sI (sI (sI (sI K 732 32 x) 732 33 0) 732 34 0) 732 35 (-6)) 732 12 (0 + 1)).1 732 12 = 0 + 1 from rfl]
        rfl
-- a cart
theorem q_drop : ∀ (d i n : Nat) (M : mm_M), i + d = 200 → d < n → ∃ M', fX0_dropAllPoints_2 19 n M (nI i) = some M' ∧ ∀ o, o ≠ 21 → M'.1 o = M.1 o := by
  intro d
  induction d with
  | zero =>
    intro i n M hi hn
    obtain ⟨n, rfl⟩ : ∃ q, n = q + 1 := ⟨n - 1, by omega⟩
    have e : i = 200 := by omega
    subst e
    refine ⟨M, ?_, fun _ _ => rfl⟩
    rw [fX0_dropAllPoints_2]
    exact if_pi (show (200 : Int32) ≤ nI 200 by decide) rfl
  | succ d ih =>
    intro i n M hi hn
    obtain ⟨n, rfl⟩ : ∃ q, n = q + 1 := ⟨n - 1, by omega⟩
    have hc : i < 200 := by omega
    obtain ⟨M', e, h⟩ := ih (i + 1) n (sI M 21 i 0) (by omega) (by omega)
    refine ⟨M', ?_, fun o ho => ?_⟩
    · rw [fX0_dropAllPoints_2]
      refine if_ni (show ¬ nI 200 ≤ nI i from nI_ge hc (by decide)) ?_
      refine gd_i (ix_nI hc (by decide)) (lt_i (lt_i ?_))
      rw [nI_clamp (by omega), nI_1]
      exact e
    · rw [h o ho, sI_ap1, if_neg ho]
theorem sL_ap1 (M : mm_M) (o k : Nat) (v : Int64) : (sL M o k v).1 = M.1 := rfl
theorem q_begin (x1 x2 x3 : Int32) : ∃ M', fX0_begin mm_0 19 x1 x2 x3 = some M' ∧ ∀ o, o ≠ 19 → o ≠ 21 → M'.1 o = mm_0.1 o := by
  obtain ⟨M', e, h⟩ := q_drop 200 0 FU (sL (sL (sL (sL (sI (sI (sI (sI (sI (sI (sI (sI mm_0 19 0 x1) 19 1 x2) 19 4 x3) 19 2 0) 19 3 0) 19 5 0) 19 6 (-6)) 19 7 0) 19 12 0) 19 13 0) 19 14 0) 19 15 0) rfl (by decide)
  refine ⟨sI (sI (sI (sI M' 19 8 (-6)) 19 9 (-6)) 19 10 0) 19 11 (-6), ?_, fun o h1 h2 => ?_⟩
  · unfold fX0_begin
    refine lt_i (lt_i (lt_i (lt_i (lt_i (lt_i (lt_i (lt_i (lt_i (lt_i (lt_i (lt_i ?_)))))))))))
    exact bn_i e (bn_i rfl rfl)
  · simp only [sI_ap1, if_neg h1]
    rw [h o h2]
    simp only [sL_ap1, sI_ap1, if_neg h1]
theorem m_76 (x1 x2 : Int32) : ∀ (d i n : Nat) (M : mm_M), i + d = 200 → d < n → ∃ M', fX7_cart_76 x1 x2 n M 0 (nI i) = some (0, M') := by
  intro d
  induction d with
  | zero =>
    intro i n M hi hn
    obtain ⟨n, rfl⟩ : ∃ q, n = q + 1 := ⟨n - 1, by omega⟩
    have e : i = 200 := by omega
    subst e
    rw [fX7_cart_76, if_pos (show (200 : Int32) ≤ nI 200 by decide)]
    refine ⟨_, bn_i (gd_i (by decide) rfl) (bn_i (gd_i (by decide) rfl) (bn_i (gd_i (by decide) rfl) (bn_i (gd_i (by decide) rfl) (bn_i (gd_i (by decide) rfl) (bn_i (gd_i (by decide) rfl) (bn_i (gd_i (by decide) rfl) rfl))))))⟩
  | succ d ih =>
    intro i n M hi hn
    obtain ⟨n, rfl⟩ : ∃ q, n = q + 1 := ⟨n - 1, by omega⟩
    have hc : i < 200 := by omega
    obtain ⟨M', e⟩ := ih (i + 1) n (sI M 732 (392 + i) 0) (by omega) (by omega)
    refine ⟨M', ?_⟩
    rw [fX7_cart_76]
    refine if_ni (show ¬ nI 200 ≤ nI i from nI_ge hc (by decide)) ?_
    have en : (392 + (200 * (0 : Int32))) + nI i = nI (392 + i) := nI_add 392 i
    rw [en]
    refine gd_i (ix_nI (n := 3592) (by omega) (by decide)) (lt_i (lt_i ?_))
    rw [nI_clamp (by omega), nI_1]
    exact e
theorem m_52 (x1 x2 : Int32) : ∀ (d i n : Nat) (M : mm_M), i + d = 20 → d < n → ∃ M', fX7_cart_52 x1 x2 n M 0 (nI i) = some (0, M') := by
  intro d
  induction d with
  | zero =>
    intro i n M hi hn
    obtain ⟨n, rfl⟩ : ∃ q, n = q + 1 := ⟨n - 1, by omega⟩
    have e : i = 20 := by omega
    subst e
    rw [fX7_cart_52, if_pos (show (20 : Int32) ≤ nI 20 by decide)]
    exact m_76 x1 x2 200 0 FU M rfl (by decide)
  | succ d ih =>
    intro i n M hi hn
    obtain ⟨n, rfl⟩ : ∃ q, n = q + 1 := ⟨n - 1, by omega⟩
    have hc : i < 20 := by omega
    obtain ⟨M', e⟩ := ih (i + 1) n (sI M 732 (72 + i) 0) (by omega) (by omega)
    refine ⟨M', ?_⟩
    rw [fX7_cart_52]
    refine if_ni (show ¬ nI 20 ≤ nI i from nI_ge hc (by decide)) ?_
    have en : (72 + (20 * (0 : Int32))) + nI i = nI (72 + i) := nI_add 72 i
    refine bn_i (a := sI M 732 (72 + i) 0) ?_ ?_
    · unfold fX7_lay
      rw [en]
      refine gd_i (ix_nI (n := 3592) (by omega) (by decide)) (lt_i ?_)
      rw [nI_clamp (by omega)]
    · refine lt_i ?_
      rw [nI_1]
      exact e
theorem a_cart (x y : Int32) : two (fun M => fX6_cart M x y) (fun M => fX7_cart M x y) := by
  by_cases c0 : x < 0
  · refine two_0 (-2) ?_ ?_
    · exact bn_i q_prep (bn2_i (a := -2) (b := mm_0) (if_pi c0 rfl) (bn2_i (q_rec (by decide)) rfl))
    · exact bn_i (in_lo c0) (if_ni (by decide) rfl)
  · by_cases c1 : (5 : Int32) < x
    · refine two_0 (-2) ?_ ?_
      · exact bn_i q_prep (bn2_i (a := -2) (b := mm_0) (if_ni c0 (if_pi c1 rfl)) (bn2_i (q_rec (by decide)) rfl))
      · exact bn_i (in_hi c1) (if_ni (by decide) rfl)
    · by_cases c2 : y < 1
      · refine two_0 (-2) ?_ ?_
        · exact bn_i q_prep (bn2_i (a := -2) (b := mm_0) (if_ni c0 (if_ni c1 (if_pi c2 rfl))) (bn2_i (q_rec (by decide)) rfl))
        · exact bn_i (in_tt c0 c1) (if_pi rfl (bn_i (in_lo c2) (if_ni (by decide) rfl)))
      · by_cases c3 : (6 : Int32) < y
        · refine two_0 (-2) ?_ ?_
          · exact bn_i q_prep (bn2_i (a := -2) (b := mm_0) (if_ni c0 (if_ni c1 (if_ni c2 (if_ni (Int32.not_le.mpr c3) rfl)))) (bn2_i (q_rec (by decide)) rfl))
          · exact bn_i (in_tt c0 c1) (if_pi rfl (bn_i (in_hi c3) (if_ni (by decide) rfl)))
        · obtain ⟨B, eB, hB⟩ := q_begin x y ((mm_0.1 1 0) + (mm_0.1 (1 + 1) 1))
          have b13 : B.1 1 3 = 0 := by rw [hB 1 (by omega) (by omega)]; exact c_1_3
          have b133 : (sI B 1 3 (0 + 1)).1 133 2 = 0 := by
            rw [sI_ap1, if_neg (by omega), hB 133 (by omega) (by omega)]; exact c_133_2
          have hE : qE (sI (sI B 1 3 (0 + 1)) 133 2 (0 + 1)) := qE_sI (qE_sI (fun o ho => by rw [hB o (by omega) (by omega)]; rfl) (by omega)) (by omega)
          obtain ⟨K, ek, hk⟩ := q_keep hE
          obtain ⟨Q, eQ⟩ := m_52 x y 20 0 FU K rfl (by decide)
          refine ⟨0, sI (sI B 1 3 (0 + 1)) 133 2 (0 + 1), Q, ?_, ?_⟩
          · refine bn_i q_prep (bn2_i (a := 0) (b := sI B 1 3 (0 + 1)) ?_ (bn2_i (q_rec2 (by decide) b133) rfl))
            unfold fX5_addCart
            rw [c_1_3]
            refine if_ni c0 (if_ni c1 (if_ni c2 (if_pi (Int32.not_lt.mp c3) (if_pi (by decide) (gd_i (by decide) (bn_i eB ?_))))))
            rw [b13]
            refine lt_i ?_
            rw [show (sI B 1 3 (0 + 1)).1 1 3 = 0 + 1 from rfl]
            rfl
          · refine bn_i (in_tt c0 c1) (if_pi rfl (bn_i (in_tt c2 c3) (if_pi rfl ?_)))
            rw [qE_2 hE 13]
            refine if_ni (by decide) (bn_i ek (lt_i ?_))
            rw [hk 13]
            exact eQ
