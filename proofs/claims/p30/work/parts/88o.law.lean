/-! THE LAW: by induction over the calls -/
set_option maxRecDepth 100000 in
set_option maxHeartbeats 16000000 in
theorem l_run (xs : Nat → Int32) {L : Nat} (hL : L ≤ 2560) : ∀ (d i n T0 : Nat) (M : mm_M), L ≤ 5 * (i + d) + 4 → d < n → i ≤ 512 → T0 ≤ 2000 * i → Gl T0 M M → fL_law_18 xs L n M (nI (5 * i)) = some true := by
  intro d
  induction d with
  | zero =>
    intro i n T0 M hd hn hi hT G
    obtain ⟨n, rfl⟩ : ∃ q, n = q + 1 := ⟨n - 1, by omega⟩
    rw [fL_law_18]
    exact if_pi ((L5 hL hi).mpr (by omega)) rfl
  | succ d ih =>
    intro i n T0 M hd hn hi hT G
    obtain ⟨n, rfl⟩ : ∃ q, n = q + 1 := ⟨n - 1, by omega⟩
    rw [fL_law_18]
    by_cases c : L < 5 * i + 5
    · exact if_pi ((L5 hL hi).mpr c) rfl
    · have q0 : ¬ (nI (5 * i) < 0 ∨ L ≤ (nI (5 * i)).toNatClampNeg) := ix_nI (by omega) (by omega)
      have q1 : ¬ (nI (5 * i) + 1 < 0 ∨ L ≤ (nI (5 * i) + 1).toNatClampNeg) := by rw [nI_1]; exact ix_nI (by omega) (by omega)
      have q2 : ¬ (nI (5 * i) + 2 < 0 ∨ L ≤ (nI (5 * i) + 2).toNatClampNeg) := by rw [show nI (5 * i) + 2 = nI (5 * i + 2) from nI_add _ 2]; exact ix_nI (by omega) (by omega)
      have q3 : ¬ (nI (5 * i) + 3 < 0 ∨ L ≤ (nI (5 * i) + 3).toNatClampNeg) := by rw [show nI (5 * i) + 3 = nI (5 * i + 3) from nI_add _ 3]; exact ix_nI (by omega) (by omega)
      have q4 : ¬ (nI (5 * i) + 4 < 0 ∨ L ≤ (nI (5 * i) + 4).toNatClampNeg) := by rw [show nI (5 * i) + 4 = nI (5 * i + 4) from nI_add _ 4]; exact ix_nI (by omega) (by omega)
      have q5 : nI (5 * i) + 5 = nI (5 * (i + 1)) := nI_add _ 5
      have h60 : T0 + 60 < 2 ^ 30 := by omega
      have h2000 : T0 + 2000 < 2 ^ 30 := by omega
      have nxt : ∀ (T1 : Nat) (M2 : mm_M), T1 ≤ T0 + 2000 → Gl T1 M2 M2 → (lt (nI (5 * i) + 5) fun y13 => fL_law_18 xs L n M2 y13) = some true := fun T1 M2 h1 G2 => by
        refine lt_i ?_
        rw [q5]
        exact ih (i + 1) n (T0 + 2000) M2 (by omega) (by omega) (by omega) (by omega) (G2.mono h1)
      refine if_ni (fun z => c ((L5 hL hi).mp z)) (gd_i q0 ?_)
      by_cases c0 : ((xs ((nI (5 * i)).toNatClampNeg)) &&& 31) = 0
      · refine if_pi c0 ?_
        exact gd_i q1 (gd_i q2 (s_no (z_set _ _) G (fun M2 G2 => nxt _ M2 (by omega) G2)))
      refine if_ni c0 ?_
      by_cases c1 : ((xs ((nI (5 * i)).toNatClampNeg)) &&& 31) = 1
      · refine if_pi c1 ?_
        exact gd_i q1 (s_no (z_seed _) G (fun M2 G2 => nxt _ M2 (by omega) G2))
      refine if_ni c1 ?_
      by_cases c2 : ((xs ((nI (5 * i)).toNatClampNeg)) &&& 31) = 2
      · refine if_pi c2 ?_
        exact gd_i q1 (s_no (z_pitch _) G (fun M2 G2 => nxt _ M2 (by omega) G2))
      refine if_ni c2 ?_
      by_cases c3 : ((xs ((nI (5 * i)).toNatClampNeg)) &&& 31) = 3
      · refine if_pi c3 ?_
        exact gd_i q1 (gd_i q2 (s_no (z_rent _ _) G (fun M2 G2 => nxt _ M2 (by omega) G2)))
      refine if_ni c3 ?_
      by_cases c4 : ((xs ((nI (5 * i)).toNatClampNeg)) &&& 31) = 4
      · refine if_pi c4 ?_
        exact gd_i q1 (gd_i q2 (s_no (z_cart _ _) G (fun M2 G2 => nxt _ M2 (by omega) G2)))
      refine if_ni c4 ?_
      by_cases c5 : ((xs ((nI (5 * i)).toNatClampNeg)) &&& 31) = 5
      · refine if_pi c5 ?_
        exact gd_i q1 (gd_i q2 (gd_i q3 (gd_i q4 (s_no (z_wish _ _ _ _) G (fun M2 G2 => nxt _ M2 (by omega) G2)))))
      refine if_ni c5 ?_
      by_cases c6 : ((xs ((nI (5 * i)).toNatClampNeg)) &&& 31) = 6
      · refine if_pi c6 ?_
        exact gd_i q1 (gd_i q2 (s_no (z_fine _ _) G (fun M2 G2 => nxt _ M2 (by omega) G2)))
      refine if_ni c6 ?_
      by_cases c7 : ((xs ((nI (5 * i)).toNatClampNeg)) &&& 31) = 7
      · refine if_pi c7 ?_
        exact gd_i q1 (s_no (z_check _) G (fun M2 G2 => nxt _ M2 (by omega) G2))
      refine if_ni c7 ?_
      by_cases c8 : ((xs ((nI (5 * i)).toNatClampNeg)) &&& 31) = 8
      · refine if_pi c8 ?_
        exact gd_i q1 (gd_i q2 (s_no (z_swap _ _) G (fun M2 G2 => nxt _ M2 (by omega) G2)))
      refine if_ni c8 ?_
      by_cases c9 : ((xs ((nI (5 * i)).toNatClampNeg)) &&& 31) = 9
      · refine if_pi c9 ?_
        exact gd_i q1 (gd_i q2 (s_noR (z_pay _ _) G (fun M2 G2 => nxt _ M2 (by omega) G2)))
      refine if_ni c9 ?_
      by_cases c10 : ((xs ((nI (5 * i)).toNatClampNeg)) &&& 31) = 10
      · refine if_pi c10 ?_
        exact gd_i q1 (s_no (z_days h60 _) G (fun M2 G2 => nxt _ M2 (by omega) G2))
      refine if_ni c10 ?_
      by_cases c11 : ((xs ((nI (5 * i)).toNatClampNeg)) &&& 31) = 11
      · refine if_pi c11 ?_
        exact gd_i q1 (gd_i q2 (s_vn (Vw.s (z_ofCart _ _)) G (fun G2 => nxt _ M (by omega) G2)))
      refine if_ni c11 ?_
      by_cases c12 : ((xs ((nI (5 * i)).toNatClampNeg)) &&& 31) = 12
      · refine if_pi c12 ?_
        exact gd_i q1 (gd_i q2 (s_vn (z_money _ _) G (fun G2 => nxt _ M (by omega) G2)))
      refine if_ni c12 ?_
      by_cases c13 : ((xs ((nI (5 * i)).toNatClampNeg)) &&& 31) = 13
      · refine if_pi c13 ?_
        exact gd_i q1 (gd_i q2 (s_vn (Vw.s (z_ofPitch _ _)) G (fun G2 => nxt _ M (by omega) G2)))
      refine if_ni c13 ?_
      by_cases c14 : ((xs ((nI (5 * i)).toNatClampNeg)) &&& 31) = 14
      · refine if_pi c14 ?_
        exact gd_i q1 (s_vn (Vw.s (z_count _)) G (fun G2 => nxt _ M (by omega) G2))
      refine if_ni c14 ?_
      by_cases c15 : ((xs ((nI (5 * i)).toNatClampNeg)) &&& 31) = 15
      · refine if_pi c15 ?_
        exact gd_i q1 (gd_i q2 (s_vn (Vw.s (z_pointsOn _ _)) G (fun G2 => nxt _ M (by omega) G2)))
      refine if_ni c15 ?_
      by_cases c16 : ((xs ((nI (5 * i)).toNatClampNeg)) &&& 31) = 16
      · refine if_pi c16 ?_
        exact gd_i q1 (s_no (z_wouldHave h60 _) G (fun M2 G2 => nxt _ M2 (by omega) G2))
      refine if_ni c16 ?_
      by_cases c17 : ((xs ((nI (5 * i)).toNatClampNeg)) &&& 31) = 17
      · refine if_pi c17 ?_
        exact gd_i q1 (gd_i q2 (s_no (z_ifWished h60 _ _) G (fun M2 G2 => nxt _ M2 (by omega) G2)))
      refine if_ni c17 ?_
      by_cases c18 : ((xs ((nI (5 * i)).toNatClampNeg)) &&& 31) = 18
      · refine if_pi c18 ?_
        exact gd_i q1 (s_no (z_firstDay h60 _) G (fun M2 G2 => nxt _ M2 (by omega) G2))
      refine if_ni c18 ?_
      by_cases c19 : ((xs ((nI (5 * i)).toNatClampNeg)) &&& 31) = 19
      · refine if_pi c19 ?_
        exact gd_i q1 (gd_i q2 (s_no (z_daysOf h60 _ _) G (fun M2 G2 => nxt _ M2 (by omega) G2)))
      refine if_ni c19 ?_
      by_cases c20 : ((xs ((nI (5 * i)).toNatClampNeg)) &&& 31) = 20
      · refine if_pi c20 ?_
        exact gd_i q1 (gd_i q2 (s_no (z_luckySeed h60 _ _) G (fun M2 G2 => nxt _ M2 (by omega) G2)))
      refine if_ni c20 ?_
      by_cases c21 : ((xs ((nI (5 * i)).toNatClampNeg)) &&& 31) = 21
      · refine if_pi c21 ?_
        exact gd_i q1 (gd_i q2 (s_vn (Vw.s (z_whyNot _ _)) G (fun G2 => nxt _ M (by omega) G2)))
      refine if_ni c21 ?_
      by_cases c22 : ((xs ((nI (5 * i)).toNatClampNeg)) &&& 31) = 22
      · refine if_pi c22 ?_
        exact gd_i q1 (gd_i q2 (s_no (z_put _) G (fun M2 G2 => nxt _ M2 (by omega) G2)))
      refine if_ni c22 ?_
      by_cases c23 : ((xs ((nI (5 * i)).toNatClampNeg)) &&& 31) = 23
      · refine if_pi c23 ?_
        exact s_no z_wipe G (fun M2 G2 => nxt _ M2 (by omega) G2)
      refine if_ni c23 ?_
      by_cases c24 : ((xs ((nI (5 * i)).toNatClampNeg)) &&& 31) = 24
      · refine if_pi c24 ?_
        exact s_fn z_fault G (fun M2 G2 => nxt _ M2 (by omega) G2)
      refine if_ni c24 ?_
      by_cases c25 : ((xs ((nI (5 * i)).toNatClampNeg)) &&& 31) = 25
      · refine if_pi c25 ?_
        exact s_no (z_carryOut h2000) G (fun M2 G2 => nxt _ M2 (by omega) G2)
      refine if_ni c25 ?_
      by_cases c26 : ((xs ((nI (5 * i)).toNatClampNeg)) &&& 31) = 26
      · refine if_pi c26 ?_
        exact s_no z_undo G (fun M2 G2 => nxt _ M2 (by omega) G2)
      refine if_ni c26 ?_
      by_cases c27 : ((xs ((nI (5 * i)).toNatClampNeg)) &&& 31) = 27
      · refine if_pi c27 ?_
        exact gd_i q1 (s_no (z_save _) G (fun M2 G2 => nxt _ M2 (by omega) G2))
      refine if_ni c27 ?_
      by_cases c28 : ((xs ((nI (5 * i)).toNatClampNeg)) &&& 31) = 28
      · refine if_pi c28 ?_
        exact gd_i q1 (s_cmp (z_restore _) G (fun M2 G2 => nxt _ M2 (by omega) G2))
      refine if_ni c28 ?_
      exact nxt T0 M (by omega) G
theorem l_all (xs : Nat → Int32) {L : Nat} (hL : L ≤ 2560) : fL_law_18 xs L FU mm_0 0 = some true := l_run xs (show L ≤ 2560 by omega) 512 0 FU 0 mm_0 (by omega) (by unfold FU; omega) (by omega) (by omega) s_gl
