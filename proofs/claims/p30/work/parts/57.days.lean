/-! one call on the fresh memory: save, days, count -/
theorem m_save (j : Nat) (hj : j < 2) : ∀ (d i n : Nat) (M : mm_M), i + d = 3592 → d < n → M.1 732 10 = 0 → ∃ M', fX7_save_14 (nI j) n M (nI i) = some (0, M') := by
  intro d
  induction d with
  | zero =>
    intro i n M hi hn h0
    obtain ⟨n, rfl⟩ : ∃ q, n = q + 1 := ⟨n - 1, by omega⟩
    have e : i = 3592 := by omega
    subst e
    refine ⟨sI M 735 j 1, ?_⟩
    rw [fX7_save_14]
    refine if_pi (show (3592 : Int32) ≤ nI 3592 by decide) (gd_i (ix_nI hj (by decide)) (lt_i ?_))
    rw [nI_clamp (by omega)]
    have e2 : (sI M 735 j 1).1 732 10 = 0 := by rw [sI_ap1, if_neg (by omega)]; exact h0
    rw [e2]
  | succ d ih =>
    intro i n M hi hn h0
    obtain ⟨n, rfl⟩ : ∃ q, n = q + 1 := ⟨n - 1, by omega⟩
    have hc : i < 3592 := by omega
    obtain ⟨M', e⟩ := ih (i + 1) n (sI M 734 (3592 * j + i) (M.1 732 i)) (by omega) (by omega) (by rw [sI_ap1, if_neg (by omega)]; exact h0)
    refine ⟨M', ?_⟩
    rw [fX7_save_14]
    refine if_ni (show ¬ nI 3592 ≤ nI i from nI_ge hc (by decide)) ?_
    have en : 3592 * nI j + nI i = nI (3592 * j + i) := by
      rw [← nI_add]
      congr 1
      exact (Int32.ofNat_mul 3592 j).symm
    rw [en]
    refine gd_i (ix_nI hc (by decide)) (gd_i (ix_nI (n := 7184) (by omega) (by decide)) (lt_i (lt_i ?_)))
    rw [nI_clamp (by omega), nI_clamp (by omega), nI_1]
    exact e
theorem a_save (x : Int32) : two (fun M => fX6_save M x) (fun M => fX7_save M x) := by
  by_cases c0 : x < 0
  · refine two_0 (-2) ?_ ?_
    · exact if_pi c0 rfl
    · exact bn_i (in_lo c0) (if_ni (by decide) rfl)
  · by_cases c1 : (1 : Int32) < x
    · refine two_0 (-2) ?_ ?_
      · exact if_ni c0 (if_ni (fun q => b_2.mp q c1) rfl)
      · exact bn_i (in_hi c1) (if_ni (by decide) rfl)
    · rcases b_save c0 c1 with rfl | rfl
      · have hE : qE (sI mm_0 597 6 1) := qE_sI qE_0 (by omega)
        obtain ⟨Q, eQ⟩ := m_save 0 (by omega) 3592 0 FU (sI mm_0 597 6 1) rfl (by decide) (qE_2 hE 10)
        refine ⟨0, sI mm_0 597 6 1, Q, ?_, ?_⟩
        · exact if_ni c0 (if_pi (by decide) (if_pi rfl (bn_i (q_copy (Or.inr (Or.inl rfl))) rfl)))
        · exact bn_i (in_tt c0 c1) (if_pi rfl eQ)
      · have hE : qE (sI mm_0 663 6 1) := qE_sI qE_0 (by omega)
        obtain ⟨Q, eQ⟩ := m_save 1 (by omega) 3592 0 FU (sI mm_0 663 6 1) rfl (by decide) (qE_2 hE 10)
        refine ⟨0, sI mm_0 663 6 1, Q, ?_, ?_⟩
        · exact if_ni c0 (if_pi (by decide) (if_ni (by decide) (bn_i (q_copy (Or.inr (Or.inr rfl))) rfl)))
        · exact bn_i (in_tt c0 c1) (if_pi rfl eQ)
-- an empty day of the class
def qD (M : mm_M) (d : Nat) : Prop := M.1 1 0 = nI d ∧ M.1 1 2 = 0 ∧ M.1 1 3 = 0 ∧ M.1 1 4 = 0 ∧ M.1 133 2 = 0 ∧ qE M
theorem q_runs {M : mm_M} (h3 : M.1 1 3 = 0) : fX1_runChecks M 1 = some M := by
  unfold fX1_runChecks
  obtain ⟨n, hn⟩ := FU_s
  rw [hn, fX1_runChecks_2]
  by_cases c : M.1 (1 + 1) 2 ≤ 0
  · exact if_pi c rfl
  · refine if_ni c (bn_i (a := none) ?_ rfl)
    unfold fX1_nextToCheck
    rw [hn, fX1_nextToCheck_4, h3]
    exact if_pi (Int32.le_refl _) rfl
theorem q_clear {M : mm_M} (h2 : M.1 1 2 = 0) (h3 : M.1 1 3 = 0) : fX1_clearLastDay M 1 = some M := by
  unfold fX1_clearLastDay
  obtain ⟨n, hn⟩ := FU_s
  rw [hn, fX1_clearLastDay_2, h2]
  refine if_pi (Int32.le_refl _) ?_
  rw [hn, fX1_clearLastDay_29, h3]
  exact if_pi (Int32.le_refl _) rfl
theorem q_lots {M : mm_M} (h3 : M.1 1 3 = 0) : fX1_drawLots M 1 = some (sI M 1 14 0) := by
  unfold fX1_drawLots
  obtain ⟨n, hn⟩ := FU_s
  refine bn2_i (a := 0) (b := M) ?_ (lt_i ?_)
  · unfold fX1_handOutTickets
    rw [hn, fX1_handOutTickets_4, h3]
    exact if_pi (Int32.le_refl _) rfl
  · rw [hn, fX1_drawLots_12]
    exact if_pi (Int32.le_refl _) rfl
theorem q_share {M : mm_M} (h : M.1 1 14 = 0) : fX1_shareKitchens M 1 = some M := by
  unfold fX1_shareKitchens
  obtain ⟨n, hn⟩ := FU_s
  rw [hn, fX1_shareKitchens_6, h]
  exact if_pi (Int32.le_refl _) rfl
theorem q_swaps {M : mm_M} (h : M.1 1 4 = 0) : fX1_makeSwaps M 1 = some (sI M 1 4 0) := by
  unfold fX1_makeSwaps
  obtain ⟨n, hn⟩ := FU_s
  rw [hn, fX1_makeSwaps_2, h]
  exact if_pi (Int32.le_refl _) rfl
theorem q_trade {M : mm_M} (h : M.1 1 3 = 0) : fX1_trade M 1 = some M := by
  unfold fX1_trade
  obtain ⟨n, hn⟩ := FU_s
  rw [hn, fX1_trade_2, h]
  exact if_pi (Int32.le_refl _) rfl
theorem q_next {M : mm_M} (h : M.1 1 3 = 0) : fX5_beginNextDay M 1 = some (sI M 1 0 ((M.1 1 0) + 1)) := by
  unfold fX5_beginNextDay
  obtain ⟨n, hn⟩ := FU_s
  have h' : (sI M 1 0 ((M.1 1 0) + 1)).1 1 3 = 0 := h
  refine lt_i ?_
  rw [hn, fX5_beginNextDay_12, h']
  exact if_pi (Int32.le_refl _) rfl
theorem q_pass (N : Nat) (hN : N < 2 ^ 31) : ∀ (k i n : Nat) (M : mm_M), i + k = N → k < n → qD M i → ∃ M', fX5_passDays_16 1 (nI N) n M (nI i) = some (nI N, M') ∧ qD M' N := by
  intro k
  induction k with
  | zero =>
    intro i n M hi hn hD
    obtain ⟨n, rfl⟩ : ∃ q, n = q + 1 := ⟨n - 1, by omega⟩
    have e : i = N := by omega
    subst e
    refine ⟨M, ?_, hD⟩
    rw [fX5_passDays_16, hD.1]
    exact if_pi (Int32.le_refl _) rfl
  | succ k ih =>
    intro i n M hi hn hD
    obtain ⟨n, rfl⟩ : ∃ q, n = q + 1 := ⟨n - 1, by omega⟩
    obtain ⟨h0, h2, h3, h4, h133, hE⟩ := hD
    obtain ⟨A, eA⟩ : ∃ A, A = sI M 1 14 0 := ⟨_, rfl⟩
    obtain ⟨B, eB⟩ : ∃ B, B = sI A 1 4 0 := ⟨_, rfl⟩
    obtain ⟨Q, eQ⟩ : ∃ Q, Q = sI B 1 0 ((B.1 1 0) + 1) := ⟨_, rfl⟩
    have a14 : A.1 1 14 = 0 := by rw [eA, sI_ap1, if_pos rfl, if_pos rfl]
    have ak : ∀ k, k ≠ 14 → A.1 1 k = M.1 1 k := fun k hk => by rw [eA, sI_ap1, if_pos rfl, if_neg hk]
    have bk : ∀ k, k ≠ 4 → B.1 1 k = A.1 1 k := fun k hk => by rw [eB, sI_ap1, if_pos rfl, if_neg hk]
    have b4 : B.1 1 4 = 0 := by rw [eB, sI_ap1, if_pos rfl, if_pos rfl]
    have qk : ∀ k, k ≠ 0 → Q.1 1 k = B.1 1 k := fun k hk => by rw [eQ, sI_ap1, if_pos rfl, if_neg hk]
    have b0 : B.1 1 0 = nI i := by rw [bk 0 (by omega), ak 0 (by omega), h0]
    have q0 : Q.1 1 0 = nI (i + 1) := by rw [eQ, sI_ap1, if_pos rfl, if_pos rfl, b0, nI_1]
    have hD' : qD Q (i + 1) := ⟨q0, by rw [qk 2 (by omega), bk 2 (by omega), ak 2 (by omega), h2], by rw [qk 3 (by omega), bk 3 (by omega), ak 3 (by omega), h3], by rw [qk 4 (by omega), b4], by
      rw [eQ, sI_ap1, if_neg (by omega), eB, sI_ap1, if_neg (by omega), eA, sI_ap1, if_neg (by omega), h133], by
      rw [eQ, eB, eA]; exact qE_sI (qE_sI (qE_sI hE (by omega)) (by omega)) (by omega)⟩
    obtain ⟨M', e, hM'⟩ := ih (i + 1) n Q (by omega) (by omega) hD'
    refine ⟨M', ?_, hM'⟩
    rw [fX5_passDays_16]
    refine if_ni (nI_ge (by omega) hN) (bn_i (q_runs h3) (bn_i (q_clear h2 h3) (bn_i (a := A) ?_ (bn_i (q_share a14) (bn_i (a := B) ?_ (bn_i (q_trade ?_) (bn_i (a := Q) ?_ (lt_i ?_))))))))
    · rw [eA]; exact q_lots h3
    · rw [eB]; exact q_swaps (by rw [ak 4 (by omega), h4])
    · rw [bk 3 (by omega), ak 3 (by omega), h3]
    · rw [eQ]; exact q_next (by rw [bk 3 (by omega), ak 3 (by omega), h3])
    · rw [nI_1]; exact e
-- an empty day of the reference
def mD (M : mm_M) (d : Nat) : Prop := M.1 732 10 = nI d ∧ M.1 732 2 = 2 ∧ M.1 732 12 = 0 ∧ M.1 732 13 = 0 ∧ M.1 732 14 = 0
theorem m_checks {M : mm_M} (h2 : M.1 732 2 = 2) (h3 : M.1 732 13 = 0) : fX7_checkAll M = some M := by
  have en : fX7_nextToCheck M = some (-6) := by
    unfold fX7_nextToCheck
    obtain ⟨n, hn⟩ := FU_s
    rw [hn, fX7_nextToCheck_5, h3]
    exact if_pi (Int32.le_refl _) rfl
  unfold fX7_checkAll
  obtain ⟨n, hn⟩ : ∃ n, FU = n + 1 + 1 + 1 := ⟨999997, rfl⟩
  rw [hn, fX7_checkAll_2, h2]
  refine if_ni (by decide) (bn_i en (if_pi (by decide) (lt_i ?_)))
  rw [fX7_checkAll_2, h2]
  refine if_ni (by decide) (bn_i en (if_pi (by decide) (lt_i ?_)))
  rw [fX7_checkAll_2, h2]
  exact if_pi (by decide) rfl
theorem m_begins {M : mm_M} (h2 : M.1 732 12 = 0) (h3 : M.1 732 13 = 0) : fX7_beginDay M = some M := by
  unfold fX7_beginDay
  obtain ⟨n, hn⟩ := FU_s
  rw [hn, fX7_beginDay_2, h3]
  refine if_pi (Int32.le_refl _) ?_
  rw [hn, fX7_beginDay_80, h2]
  exact if_pi (Int32.le_refl _) rfl
theorem m_draws {M : mm_M} (h3 : M.1 732 13 = 0) : fX7_drawAll M = some M := by
  unfold fX7_drawAll
  obtain ⟨n, hn⟩ : ∃ n, FU = n + 1 + 1 := ⟨999998, rfl⟩
  rw [hn, fX7_drawAll_4]
  refine if_pi rfl ?_
  rw [hn, fX7_drawAll_13, h3]
  refine if_pi (Int32.le_refl _) (if_pi (Int32.le_refl _) ?_)
  unfold fX7_drawAll_62
  refine if_ni (by decide) ?_
  rw [fX7_drawAll_4]
  exact if_ni (by decide) rfl
theorem m_cooks {M : mm_M} (h3 : M.1 732 13 = 0) : fX7_cookAll M = some (sI (sI M 731 8 0) 731 9 0) := by
  unfold fX7_cookAll
  obtain ⟨n, hn⟩ := FU_s
  refine lt_i (lt_i (bn_i (a := -6) ?_ ?_))
  · unfold fX7_drawnAt
    rw [hn, fX7_drawnAt_2]
    have h' : (sI (sI M 731 8 0) 731 9 0).1 732 13 = 0 := by rw [sI_ap1, if_neg (by omega), sI_ap1, if_neg (by omega)]; exact h3
    rw [h']
    exact if_pi (Int32.le_refl _) rfl
  · rw [hn, fX7_cookAll_18]
    exact if_pi (by decide) rfl
theorem m_swaps {M : mm_M} (h : M.1 732 14 = 0) : fX7_swapAll M = some (sI M 732 14 0) := by
  unfold fX7_swapAll
  obtain ⟨n, hn⟩ := FU_s
  rw [hn, fX7_swapAll_2, h]
  exact if_pi (Int32.le_refl _) rfl
theorem m_trades {M : mm_M} (h : M.1 732 13 = 0) : fX7_trade M = some M := by
  unfold fX7_trade
  obtain ⟨n, hn⟩ := FU_s
  rw [hn, fX7_trade_2, h]
  exact if_pi (Int32.le_refl _) rfl
theorem m_pass {M : mm_M} {d : Nat} (hD : mD M d) : ∃ M', fX7_passDay M = some M' ∧ mD M' (d + 1) := by
  obtain ⟨h10, h2, h12, h13, h14⟩ := hD
  obtain ⟨A, eA⟩ : ∃ A, A = sI (sI M 731 8 0) 731 9 0 := ⟨_, rfl⟩
  have ak : ∀ k, A.1 732 k = M.1 732 k := fun k => by rw [eA, sI_ap1, if_neg (by omega), sI_ap1, if_neg (by omega)]
  obtain ⟨B, eB⟩ : ∃ B, B = sI A 732 14 0 := ⟨_, rfl⟩
  have bk : ∀ k, k ≠ 14 → B.1 732 k = M.1 732 k := fun k hk => by rw [eB, sI_ap1, if_pos rfl, if_neg hk, ak]
  have b14 : B.1 732 14 = 0 := by rw [eB, sI_ap1, if_pos rfl, if_pos rfl]
  obtain ⟨Q, eQ⟩ : ∃ Q, Q = sI B 732 10 ((B.1 732 10) + 1) := ⟨_, rfl⟩
  have qk : ∀ k, k ≠ 10 → Q.1 732 k = B.1 732 k := fun k hk => by rw [eQ, sI_ap1, if_pos rfl, if_neg hk]
  have q10 : Q.1 732 10 = nI (d + 1) := by rw [eQ, sI_ap1, if_pos rfl, if_pos rfl, bk 10 (by omega), h10, nI_1]
  have q13 : Q.1 732 13 = 0 := by rw [qk 13 (by omega), bk 13 (by omega), h13]
  refine ⟨Q, ?_, q10, by rw [qk 2 (by omega), bk 2 (by omega), h2], by rw [qk 12 (by omega), bk 12 (by omega), h12], q13, by rw [qk 14 (by omega), b14]⟩
  unfold fX7_passDay
  refine bn_i (m_checks h2 h13) (bn_i (m_begins h12 h13) (bn_i (m_draws h13) (bn_i (a := A) ?_ (bn_i (a := B) ?_ (bn_i (m_trades ?_) (lt_m (M := Q) eQ.symm ?_))))))
  · rw [eA]; exact m_cooks h13
  · rw [eB]; exact m_swaps (by rw [ak, h14])
  · rw [bk 13 (by omega), h13]
  · obtain ⟨n, hn⟩ := FU_s
    rw [hn, fX7_passDay_37, q13]
    exact if_pi (Int32.le_refl _) rfl
theorem m_days (N : Nat) (hN : N < 2 ^ 31) (b : Bool) : ∀ (k i n : Nat) (M : mm_M), i + k = N → k < n → mD M i → ∃ M', fX7_tryDays_20 (nI N) b n M (nI i) = some (nI N, M') := by
  intro k
  induction k with
  | zero =>
    intro i n M hi hn hD
    obtain ⟨n, rfl⟩ : ∃ q, n = q + 1 := ⟨n - 1, by omega⟩
    have e : i = N := by omega
    subst e
    refine ⟨M, ?_⟩
    rw [fX7_tryDays_20, hD.1]
    exact if_pi (Int32.le_refl _) rfl
  | succ k ih =>
    intro i n M hi hn hD
    obtain ⟨n, rfl⟩ : ∃ q, n = q + 1 := ⟨n - 1, by omega⟩
    obtain ⟨Q, eQ, hQ⟩ := m_pass hD
    obtain ⟨M', e⟩ := ih (i + 1) n Q (by omega) (by omega) hQ
    refine ⟨M', ?_⟩
    rw [fX7_tryDays_20]
    refine if_ni (nI_ge (by omega) hN) (bn_i eQ (lt_i ?_))
    rw [nI_1]; exact e
theorem a_days (x : Int32) : two (fun M => fX6_days M x) (fun M => fX7_days M x) := by
  by_cases c0 : x < 1
  · refine two_0 (-2) ?_ ?_
    · exact bn_i q_prep (bn2_i (a := -2) (b := mm_0) (if_pi c0 rfl) (bn2_i (q_rec (by decide)) rfl))
    · exact bn2_i (a := -2) (b := mm_0) (bn_i (in_lo c0) (if_ni (by decide) rfl)) rfl
  · by_cases c1 : (60 : Int32) < x
    · refine two_0 (-2) ?_ ?_
      · exact bn_i q_prep (bn2_i (a := -2) (b := mm_0) (if_ni c0 (if_ni (Int32.not_le.mpr c1) rfl)) (bn2_i (q_rec (by decide)) rfl))
      · exact bn2_i (a := -2) (b := mm_0) (bn_i (in_hi c1) (if_ni (by decide) rfl)) rfl
    · obtain ⟨N, hN, e⟩ : ∃ N : Nat, N ≤ 60 ∧ x = nI N := nI_of2 (M := 60) (n := 60) rfl (fun q => c0 (by
        rw [Int32.lt_iff_toInt_lt] at q ⊢
        have e0 : (0 : Int32).toInt = 0 := rfl
        have e1 : (1 : Int32).toInt = 1 := rfl
        omega)) (Int32.not_lt.mp c1)
      subst e
      obtain ⟨A, eA, hA⟩ := q_pass N (by omega) N 0 FU mm_0 (by omega) (by unfold FU; omega) ⟨c_1_0, c_1_2, c_1_3, c_1_4, c_133_2, qE_0⟩
      have hE : qE (sI A 133 2 (0 + 1)) := qE_sI hA.2.2.2.2.2 (by omega)
      obtain ⟨K, ek, hk⟩ := q_keep hE
      obtain ⟨Q, eQ⟩ := m_days N (by omega) true N 0 FU K (by omega) (by unfold FU; omega) ⟨hk 10, hk 2, hk 12, hk 13, hk 14⟩
      refine ⟨nI N, sI A 133 2 (0 + 1), Q, ?_, ?_⟩
      · refine bn_i q_prep (bn2_i (a := nI N) (b := A) ?_ (bn2_i (q_rec2 (nI_pos (by omega)) hA.2.2.2.2.1) rfl))
        exact if_ni c0 (if_pi (Int32.not_lt.mp c1) eA)
      · refine bn2_i (a := nI N) (b := Q) ?_ rfl
        refine bn_i (in_tt c0 c1) (if_pi rfl (bn_i (a := K) (if_pi rfl (bn_i ek rfl)) eQ))
-- the counts
theorem q_wait : fX5_countWaiting mm_0 1 = some 0 := by
  unfold fX5_countWaiting
  obtain ⟨n, hn⟩ := FU_s
  rw [hn, fX5_countWaiting_4, c_1_3]
  exact if_pi (Int32.le_refl _) rfl
theorem q_onP : fX5_countOnPitches mm_0 1 = some 0 := by
  unfold fX5_countOnPitches
  obtain ⟨n, hn⟩ := FU_s
  rw [hn, fX5_countOnPitches_4, c_1_3]
  exact if_pi (Int32.le_refl _) rfl
theorem m_wait : fX7_waiting mm_0 = some 0 := by
  unfold fX7_waiting
  obtain ⟨n, hn⟩ := FU_s
  rw [hn, fX7_waiting_4, show mm_0.1 732 13 = 0 by decide +kernel]
  exact if_pi (Int32.le_refl _) rfl
theorem m_onP : fX7_atPitches mm_0 = some 0 := by
  unfold fX7_atPitches
  obtain ⟨n, hn⟩ := FU_s
  rw [hn, fX7_atPitches_4, show mm_0.1 732 13 = 0 by decide +kernel]
  exact if_pi (Int32.le_refl _) rfl
theorem a_count_0 : see (fun M => fX6_count M 0) (fun M => fX7_count M 0) := by
  refine see_0 0 ?_ ?_
  · refine if_pi (by decide) ?_
    exact if_pi rfl (rfl)
  · refine bn_i (in_lo (by decide)) (if_ni (by decide) ?_)
    exact if_pi rfl (rfl)
theorem a_count_1 : see (fun M => fX6_count M 1) (fun M => fX7_count M 1) := by
  refine see_0 0 ?_ ?_
  · refine if_pi (by decide) ?_
    exact if_ni (by decide) (if_pi rfl (rfl))
  · refine bn_i (in_lo (by decide)) (if_ni (by decide) ?_)
    exact if_ni (by decide) (if_pi rfl (rfl))
theorem a_count_2 : see (fun M => fX6_count M 2) (fun M => fX7_count M 2) := by
  refine see_0 0 ?_ ?_
  · refine if_pi (by decide) ?_
    exact if_ni (by decide) (if_ni (by decide) (if_pi rfl (rfl)))
  · refine bn_i (in_lo (by decide)) (if_ni (by decide) ?_)
    exact if_ni (by decide) (if_ni (by decide) (if_pi rfl (rfl)))
theorem a_count_3 : see (fun M => fX6_count M 3) (fun M => fX7_count M 3) := by
  refine see_0 1 ?_ ?_
  · refine if_pi (by decide) ?_
    exact if_ni (by decide) (if_ni (by decide) (if_ni (by decide) (if_pi rfl (rfl))))
  · refine bn_i (in_lo (by decide)) (if_ni (by decide) ?_)
    exact if_ni (by decide) (if_ni (by decide) (if_ni (by decide) (if_pi rfl (rfl))))
theorem a_count_4 : see (fun M => fX6_count M 4) (fun M => fX7_count M 4) := by
  refine see_0 0 ?_ ?_
  · refine if_pi (by decide) ?_
    exact if_ni (by decide) (if_ni (by decide) (if_ni (by decide) (if_ni (by decide) (if_pi rfl (bn_i q_wait rfl)))))
  · refine bn_i (in_lo (by decide)) (if_ni (by decide) ?_)
    exact if_ni (by decide) (if_ni (by decide) (if_ni (by decide) (if_ni (by decide) (if_pi rfl (bn_i m_wait rfl)))))
theorem a_count_5 : see (fun M => fX6_count M 5) (fun M => fX7_count M 5) := by
  refine see_0 0 ?_ ?_
  · refine if_pi (by decide) ?_
    exact if_ni (by decide) (if_ni (by decide) (if_ni (by decide) (if_ni (by decide) (if_ni (by decide) (if_pi rfl (rfl))))))
  · refine bn_i (in_lo (by decide)) (if_ni (by decide) ?_)
    exact if_ni (by decide) (if_ni (by decide) (if_ni (by decide) (if_ni (by decide) (if_ni (by decide) (if_pi rfl (rfl))))))
theorem a_count_6 : see (fun M => fX6_count M 6) (fun M => fX7_count M 6) := by
  refine see_0 0 ?_ ?_
  · refine if_pi (by decide) ?_
    exact if_ni (by decide) (if_ni (by decide) (if_ni (by decide) (if_ni (by decide) (if_ni (by decide) (if_ni (by decide) (if_pi rfl (rfl)))))))
  · refine bn_i (in_lo (by decide)) (if_ni (by decide) ?_)
    exact if_ni (by decide) (if_ni (by decide) (if_ni (by decide) (if_ni (by decide) (if_ni (by decide) (if_ni (by decide) (if_pi rfl (rfl)))))))
theorem a_count_7 : see (fun M => fX6_count M 7) (fun M => fX7_count M 7) := by
  refine see_0 0 ?_ ?_
  · refine if_pi (by decide) ?_
    exact if_ni (by decide) (if_ni (by decide) (if_ni (by decide) (if_ni (by decide) (if_ni (by decide) (if_ni (by decide) (if_ni (by decide) (if_pi rfl (rfl))))))))
  · refine bn_i (in_lo (by decide)) (if_ni (by decide) ?_)
    exact if_ni (by decide) (if_ni (by decide) (if_ni (by decide) (if_ni (by decide) (if_ni (by decide) (if_ni (by decide) (if_ni (by decide) (if_pi rfl (rfl))))))))
theorem a_count_8 : see (fun M => fX6_count M 8) (fun M => fX7_count M 8) := by
  refine see_0 8 ?_ ?_
  · exact if_ni (by decide) (if_ni (by decide) (gd_i (by decide) rfl))
  · exact bn_i (in_tt (by decide) (by decide)) (if_pi rfl (gd_i (by decide) rfl))
theorem a_count_9 : see (fun M => fX6_count M 9) (fun M => fX7_count M 9) := by
  refine see_0 60 ?_ ?_
  · exact if_ni (by decide) (if_ni (by decide) (gd_i (by decide) rfl))
  · exact bn_i (in_tt (by decide) (by decide)) (if_pi rfl (gd_i (by decide) rfl))
theorem a_count_10 : see (fun M => fX6_count M 10) (fun M => fX7_count M 10) := by
  refine see_0 2 ?_ ?_
  · exact if_ni (by decide) (if_ni (by decide) (gd_i (by decide) rfl))
  · exact bn_i (in_tt (by decide) (by decide)) (if_pi rfl (gd_i (by decide) rfl))
theorem a_count_11 : see (fun M => fX6_count M 11) (fun M => fX7_count M 11) := by
  refine see_0 12 ?_ ?_
  · exact if_ni (by decide) (if_ni (by decide) (gd_i (by decide) rfl))
  · exact bn_i (in_tt (by decide) (by decide)) (if_pi rfl (gd_i (by decide) rfl))
theorem a_count_12 : see (fun M => fX6_count M 12) (fun M => fX7_count M 12) := by
  refine see_0 14 ?_ ?_
  · exact if_ni (by decide) (if_ni (by decide) (gd_i (by decide) rfl))
  · exact bn_i (in_tt (by decide) (by decide)) (if_pi rfl (gd_i (by decide) rfl))
theorem a_count_13 : see (fun M => fX6_count M 13) (fun M => fX7_count M 13) := by
  refine see_0 90 ?_ ?_
  · exact if_ni (by decide) (if_ni (by decide) (gd_i (by decide) rfl))
  · exact bn_i (in_tt (by decide) (by decide)) (if_pi rfl (gd_i (by decide) rfl))
theorem a_count_14 : see (fun M => fX6_count M 14) (fun M => fX7_count M 14) := by
  refine see_0 500 ?_ ?_
  · exact if_ni (by decide) (if_ni (by decide) (gd_i (by decide) rfl))
  · exact bn_i (in_tt (by decide) (by decide)) (if_pi rfl (gd_i (by decide) rfl))
theorem a_count_15 : see (fun M => fX6_count M 15) (fun M => fX7_count M 15) := by
  refine see_0 2 ?_ ?_
  · exact if_ni (by decide) (if_ni (by decide) (gd_i (by decide) rfl))
  · exact bn_i (in_tt (by decide) (by decide)) (if_pi rfl (gd_i (by decide) rfl))
theorem a_count_16 : see (fun M => fX6_count M 16) (fun M => fX7_count M 16) := by
  refine see_0 11 ?_ ?_
  · exact if_ni (by decide) (if_ni (by decide) (gd_i (by decide) rfl))
  · exact bn_i (in_tt (by decide) (by decide)) (if_pi rfl (gd_i (by decide) rfl))
theorem a_count_17 : see (fun M => fX6_count M 17) (fun M => fX7_count M 17) := by
  refine see_0 200 ?_ ?_
  · exact if_ni (by decide) (if_ni (by decide) (gd_i (by decide) rfl))
  · exact bn_i (in_tt (by decide) (by decide)) (if_pi rfl (gd_i (by decide) rfl))
theorem a_count_18 : see (fun M => fX6_count M 18) (fun M => fX7_count M 18) := by
  refine see_0 0 ?_ ?_
  · refine if_ni (by decide) (if_pi (by decide) ?_)
    exact if_ni (by decide) (if_ni (by decide) (if_ni (by decide) (if_ni (by decide) (if_ni (by decide) (if_ni (by decide) (if_ni (by decide) (if_ni (by decide) (if_ni (by decide) (if_ni (by decide) (if_ni (by decide) (if_ni (by decide) (if_ni (by decide) (if_ni (by decide) (if_ni (by decide) (if_ni (by decide) (if_ni (by decide) (if_ni (by decide) (if_pi rfl (bn_i q_onP rfl)))))))))))))))))))
  · refine bn_i (in_hi (by decide)) (if_ni (by decide) ?_)
    exact if_ni (by decide) (if_ni (by decide) (if_ni (by decide) (if_ni (by decide) (if_ni (by decide) (if_ni (by decide) (if_ni (by decide) (if_ni (by decide) (if_ni (by decide) (if_ni (by decide) (if_ni (by decide) (if_ni (by decide) (if_ni (by decide) (if_ni (by decide) (if_ni (by decide) (if_ni (by decide) (if_ni (by decide) (if_ni (by decide) (if_pi rfl (bn_i m_onP rfl)))))))))))))))))))
theorem a_count_19 : see (fun M => fX6_count M 19) (fun M => fX7_count M 19) := by
  refine see_0 0 ?_ ?_
  · refine if_ni (by decide) (if_pi (by decide) ?_)
    exact if_ni (by decide) (if_ni (by decide) (if_ni (by decide) (if_ni (by decide) (if_ni (by decide) (if_ni (by decide) (if_ni (by decide) (if_ni (by decide) (if_ni (by decide) (if_ni (by decide) (if_ni (by decide) (if_ni (by decide) (if_ni (by decide) (if_ni (by decide) (if_ni (by decide) (if_ni (by decide) (if_ni (by decide) (if_ni (by decide) (if_ni (by decide) (if_pi rfl (rfl))))))))))))))))))))
  · refine bn_i (in_hi (by decide)) (if_ni (by decide) ?_)
    exact if_ni (by decide) (if_ni (by decide) (if_ni (by decide) (if_ni (by decide) (if_ni (by decide) (if_ni (by decide) (if_ni (by decide) (if_ni (by decide) (if_ni (by decide) (if_ni (by decide) (if_ni (by decide) (if_ni (by decide) (if_ni (by decide) (if_ni (by decide) (if_ni (by decide) (if_ni (by decide) (if_ni (by decide) (if_ni (by decide) (if_ni (by decide) (if_pi rfl (rfl))))))))))))))))))))
theorem a_count (x : Int32) : see (fun M => fX6_count M x) (fun M => fX7_count M x) := by
  by_cases c0 : x < 0
  · have hne : ∀ k : Int32, ¬ k < 0 → ¬ x = k := fun k hk e => hk (e ▸ c0)
    have c8 : x < 8 := by
      rw [Int32.lt_iff_toInt_lt] at c0 ⊢
      have e0 : (0 : Int32).toInt = 0 := rfl
      have e1 : (8 : Int32).toInt = 8 := rfl
      omega
    refine see_0 (-2) ?_ ?_
    · refine if_pi c8 ?_
      exact if_ni (hne 0 (by decide)) (if_ni (hne 1 (by decide)) (if_ni (hne 2 (by decide)) (if_ni (hne 3 (by decide)) (if_ni (hne 4 (by decide)) (if_ni (hne 5 (by decide)) (if_ni (hne 6 (by decide)) (if_ni (hne 7 (by decide)) (if_ni (hne 8 (by decide)) (if_ni (hne 9 (by decide)) (if_ni (hne 10 (by decide)) (if_ni (hne 11 (by decide)) (if_ni (hne 12 (by decide)) (if_ni (hne 13 (by decide)) (if_ni (hne 14 (by decide)) (if_ni (hne 15 (by decide)) (if_ni (hne 16 (by decide)) (if_ni (hne 17 (by decide)) (if_ni (hne 18 (by decide)) (if_ni (hne 19 (by decide)) (rfl))))))))))))))))))))
    · refine bn_i (in_lo c8) (if_ni (by decide) ?_)
      exact if_ni (hne 0 (by decide)) (if_ni (hne 1 (by decide)) (if_ni (hne 2 (by decide)) (if_ni (hne 3 (by decide)) (if_ni (hne 4 (by decide)) (if_ni (hne 5 (by decide)) (if_ni (hne 6 (by decide)) (if_ni (hne 7 (by decide)) (if_ni (hne 8 (by decide)) (if_ni (hne 9 (by decide)) (if_ni (hne 10 (by decide)) (if_ni (hne 11 (by decide)) (if_ni (hne 12 (by decide)) (if_ni (hne 13 (by decide)) (if_ni (hne 14 (by decide)) (if_ni (hne 15 (by decide)) (if_ni (hne 16 (by decide)) (if_ni (hne 17 (by decide)) (if_ni (hne 18 (by decide)) (if_ni (hne 19 (by decide)) (rfl))))))))))))))))))))
  · by_cases c1 : (19 : Int32) < x
    · have hne : ∀ k : Int32, ¬ (19 : Int32) < k → ¬ x = k := fun k hk e => hk (e ▸ c1)
      have c8 : ¬ x < 8 := by
        rw [Int32.lt_iff_toInt_lt] at c1 ⊢
        have e0 : (19 : Int32).toInt = 19 := rfl
        have e1 : (8 : Int32).toInt = 8 := rfl
        omega
      have c18 : (17 : Int32) < x := by
        rw [Int32.lt_iff_toInt_lt] at c1 ⊢
        have e0 : (19 : Int32).toInt = 19 := rfl
        have e1 : (17 : Int32).toInt = 17 := rfl
        omega
      refine see_0 (-2) ?_ ?_
      · refine if_ni c8 (if_pi ((i_succ rfl).mpr c18) ?_)
        exact if_ni (hne 0 (by decide)) (if_ni (hne 1 (by decide)) (if_ni (hne 2 (by decide)) (if_ni (hne 3 (by decide)) (if_ni (hne 4 (by decide)) (if_ni (hne 5 (by decide)) (if_ni (hne 6 (by decide)) (if_ni (hne 7 (by decide)) (if_ni (hne 8 (by decide)) (if_ni (hne 9 (by decide)) (if_ni (hne 10 (by decide)) (if_ni (hne 11 (by decide)) (if_ni (hne 12 (by decide)) (if_ni (hne 13 (by decide)) (if_ni (hne 14 (by decide)) (if_ni (hne 15 (by decide)) (if_ni (hne 16 (by decide)) (if_ni (hne 17 (by decide)) (if_ni (hne 18 (by decide)) (if_ni (hne 19 (by decide)) (rfl))))))))))))))))))))
      · refine bn_i (in_hi c18) (if_ni (by decide) ?_)
        exact if_ni (hne 0 (by decide)) (if_ni (hne 1 (by decide)) (if_ni (hne 2 (by decide)) (if_ni (hne 3 (by decide)) (if_ni (hne 4 (by decide)) (if_ni (hne 5 (by decide)) (if_ni (hne 6 (by decide)) (if_ni (hne 7 (by decide)) (if_ni (hne 8 (by decide)) (if_ni (hne 9 (by decide)) (if_ni (hne 10 (by decide)) (if_ni (hne 11 (by decide)) (if_ni (hne 12 (by decide)) (if_ni (hne 13 (by decide)) (if_ni (hne 14 (by decide)) (if_ni (hne 15 (by decide)) (if_ni (hne 16 (by decide)) (if_ni (hne 17 (by decide)) (if_ni (hne 18 (by decide)) (if_ni (hne 19 (by decide)) (rfl))))))))))))))))))))
    · obtain ⟨j, hj, e⟩ := nI_of2 (M := 19) (n := 19) rfl c0 (Int32.not_lt.mp c1)
      subst e
      match j, hj with
      | 0, _ => exact a_count_0
      | 1, _ => exact a_count_1
      | 2, _ => exact a_count_2
      | 3, _ => exact a_count_3
      | 4, _ => exact a_count_4
      | 5, _ => exact a_count_5
      | 6, _ => exact a_count_6
      | 7, _ => exact a_count_7
      | 8, _ => exact a_count_8
      | 9, _ => exact a_count_9
      | 10, _ => exact a_count_10
      | 11, _ => exact a_count_11
      | 12, _ => exact a_count_12
      | 13, _ => exact a_count_13
      | 14, _ => exact a_count_14
      | 15, _ => exact a_count_15
      | 16, _ => exact a_count_16
      | 17, _ => exact a_count_17
      | 18, _ => exact a_count_18
      | 19, _ => exact a_count_19
      | j + 20, hj => exact absurd hj (by omega)
