/-- the whole object's ints when it is made; then the model's row -/
def J_X (o : Nat) : Nat → Int32 := if 1 ≤ o ∧ o < 133 then I_S (1 + 66 * ((o - 1) / 66)) o else if 135 ≤ o ∧ o < 729 then I_S (135 + 66 * ((o - 135) / 66)) o else fun _ => 0
set_option maxHeartbeats 4000000 in
theorem m_X6 : ∃ R' M', fX6_init (zR R_0 0) 1 0 (zM M_0 0) (1 + 730) (0 + 40517) = some (R', M') ∧ (∀ o, o < 731 → R' o = kR o) ∧ (∀ o, M'.1 o = J_X o) ∧ (∀ o, M'.2 o = fun _ => 0) := by
  obtain ⟨R1, M1, e1, r1, m1, l1⟩ := m_new (a := 1) rfl (zR R_0 0) (0 + 15) (zM M_0 0)
  obtain ⟨R2, M2, e2, r2, m2, l2⟩ := m_new (a := 67) rfl (sR R1 0 0 (some 1)) (0 + 15 + 3660 + 15) M1
  obtain ⟨R3, M3, e3, r3, m3, l3⟩ := m_X2 (zR (sR R2 0 1 (some 67)) 133) (0 + 15 + 3660 + 15 + 3660 + 3) (zM M2 133) (by rw [zR_ap, if_pos rfl])
  obtain ⟨R4, M4, e4, r4, m4, l4⟩ := m_new (a := 597) rfl (sR R3 0 2 (some 133)) (0 + 15 + 3660 + 15 + 3660 + 3 + 25732 + 15) M3
  obtain ⟨R5, M5, e5, r5, m5, l5⟩ := m_new (a := 663) rfl (sR R4 0 3 (some 597)) (0 + 15 + 3660 + 15 + 3660 + 3 + 25732 + 15 + 3660 + 15) M4
  obtain ⟨R6, M6, e6, r6, m6, l6⟩ := m_X3 (zR (sR R5 0 4 (some 663)) 729) (0 + 15 + 3660 + 15 + 3660 + 3 + 25732 + 15 + 3660 + 15 + 3660 + 2) (zM M5 729) (by rw [zR_ap, if_pos rfl])
  refine ⟨sR R6 0 5 (some 729), M6, ?_, fun o ho => ?_, fun o => ?_, fun o => ?_⟩
  · unfold fX6_init
    refine gd_i ⟨rfl, by omega, by omega⟩ (lt_i (lt_i (lt_i (lt_i (gd_i ⟨by omega, by omega⟩ (bn2_i e1 (lt_i (lt_i (lt_i ?_)))))))))
    refine gd_i ⟨rfl, by omega, by omega⟩ (lt_i (lt_i (lt_i (lt_i (gd_i ⟨by omega, by omega⟩ (bn2_i e2 (lt_i (lt_i (lt_i ?_)))))))))
    refine gd_i ⟨rfl, by omega, by omega⟩ (lt_i (lt_i (lt_i (lt_i (gd_i ⟨by omega, by omega⟩ (bn2_i e3 (lt_i (lt_i (lt_i ?_)))))))))
    refine gd_i ⟨rfl, by omega, by omega⟩ (lt_i (lt_i (lt_i (lt_i (gd_i ⟨by omega, by omega⟩ (bn2_i e4 (lt_i (lt_i (lt_i ?_)))))))))
    refine gd_i ⟨rfl, by omega, by omega⟩ (lt_i (lt_i (lt_i (lt_i (gd_i ⟨by omega, by omega⟩ (bn2_i e5 (lt_i (lt_i (lt_i ?_)))))))))
    refine gd_i ⟨rfl, by omega, by omega⟩ (lt_i (lt_i (lt_i (lt_i (gd_i ⟨by omega, by omega⟩ (bn2_i e6 (lt_i (lt_i (lt_i ?_)))))))))
    exact gd_i ⟨rfl, rfl⟩ rfl
  · by_cases h0 : o = 0
    · subst h0
      have z0 : zR R_0 0 0 = fun _ => none := by rw [zR_ap, if_pos rfl]
      have z1 : R1 0 = fun _ => none := by rw [r1, if_neg (by omega), z0]
      have z2 : R2 0 = fun k => if k = 0 then some 1 else none := by rw [r2, if_neg (by omega), sR_ap, if_pos rfl, z1]
      have z3 : R3 0 = fun k => if k = 1 then some 67 else if k = 0 then some 1 else none := by rw [r3, if_neg (by omega), zR_ap, if_neg (by omega), sR_ap, if_pos rfl, z2]
      have z4 : R4 0 = fun k => if k = 2 then some 133 else if k = 1 then some 67 else if k = 0 then some 1 else none := by rw [r4, if_neg (by omega), sR_ap, if_pos rfl, z3]
      have z5 : R5 0 = fun k => if k = 3 then some 597 else if k = 2 then some 133 else if k = 1 then some 67 else if k = 0 then some 1 else none := by rw [r5, if_neg (by omega), sR_ap, if_pos rfl, z4]
      have z6 : R6 0 = fun k => if k = 4 then some 663 else if k = 3 then some 597 else if k = 2 then some 133 else if k = 1 then some 67 else if k = 0 then some 1 else none := by rw [r6, if_neg (by omega), zR_ap, if_neg (by omega), sR_ap, if_pos rfl, z5]
      rw [sR_ap, if_pos rfl, z6]
      funext k
      show _ = if k = 0 then some 1 else if k = 1 then some 67 else if k = 2 then some 133 else if k = 3 then some 597 else if k = 4 then some 663 else if k = 5 then some 729 else none
      match k with
      | 0 => rfl
      | 1 => rfl
      | 2 => rfl
      | 3 => rfl
      | 4 => rfl
      | 5 => rfl
      | k + 6 => simp
    · rw [sR_ap, if_neg h0, r6]
      by_cases h6 : o = 729 ∨ o = 730
      · rw [if_pos h6]
      · rw [if_neg h6, zR_ap, if_neg (by omega), sR_ap, if_neg h0, r5]
        by_cases h5 : 663 ≤ o ∧ o < 663 + 66
        · rw [if_pos h5]
        · rw [if_neg h5, sR_ap, if_neg h0, r4]
          by_cases h4 : 597 ≤ o ∧ o < 597 + 66
          · rw [if_pos h4]
          · rw [if_neg h4, sR_ap, if_neg h0, r3]
            by_cases h3 : 133 ≤ o ∧ o < 597
            · rw [if_pos h3]
            · rw [if_neg h3, zR_ap, if_neg (by omega), sR_ap, if_neg h0, r2]
              by_cases h2 : 67 ≤ o ∧ o < 67 + 66
              · rw [if_pos h2]
              · rw [if_neg h2, sR_ap, if_neg h0, r1, if_pos (by omega)]
  · have a0 : ∀ o, M_0.1 o = fun _ => 0 := fun _ => rfl
    rw [m6, zM_ap1, m5, m4, m3, zM_ap1, m2, m1, zM_ap1, a0]
    unfold J_X
    by_cases h1 : 1 ≤ o ∧ o < 133
    · rw [if_neg (by omega), if_neg (by omega), if_neg (by omega), if_neg (by omega), if_neg (by omega), if_neg (by omega), if_neg (by omega), if_pos h1]
      by_cases h2 : 67 ≤ o ∧ o < 67 + 66
      · rw [if_pos h2, show 1 + 66 * ((o - 1) / 66) = 67 by omega]
      · rw [if_neg h2, if_pos (by omega), show 1 + 66 * ((o - 1) / 66) = 1 by omega]
    · rw [if_neg h1]
      by_cases h2 : 135 ≤ o ∧ o < 729
      · rw [if_neg (by omega), if_neg (by omega), if_pos h2]
        by_cases h3 : 663 ≤ o ∧ o < 663 + 66
        · rw [if_pos h3, show 135 + 66 * ((o - 135) / 66) = 663 by omega]
        · rw [if_neg h3]
          by_cases h4 : 597 ≤ o ∧ o < 597 + 66
          · rw [if_pos h4, show 135 + 66 * ((o - 135) / 66) = 597 by omega]
          · rw [if_neg h4, if_pos (by omega)]
      · rw [if_neg h2]
        refine fn_if (fun _ => rfl) (fun q1 => fn_if (fun _ => rfl) (fun q2 => ?_))
        rw [if_neg (by omega), if_neg (by omega), if_neg (by omega)]
        refine fn_if (fun _ => rfl) (fun q3 => fn_if (fun _ => rfl) (fun q4 => ?_))
        rw [if_neg (by omega), if_neg (by omega)]
        exact fn_if (fun _ => rfl) (fun _ => rfl)
  · have a0 : ∀ o, M_0.2 o = fun _ => 0 := fun _ => rfl
    rw [l6, zM_ap2, l5, l4, l3, zM_ap2, l2, l1, zM_ap2, a0]
    exact fn_if (fun _ => rfl) (fun _ => fn_if (fun _ => rfl) (fun _ => fn_if (fun _ => rfl) (fun _ => fn_if (fun _ => rfl) (fun _ => fn_if (fun _ => rfl) (fun _ => fn_if (fun _ => rfl) (fun _ => fn_if (fun _ => rfl) (fun _ => fn_if (fun _ => rfl) (fun _ => fn_if (fun _ => rfl) (fun _ => rfl)))))))))
def at_0 (k : Nat) : Int32 := if k = 11 then 1 else if k = 9 then 200 else if k = 8 then 11 else if k = 7 then 2 else if k = 6 then 500 else if k = 5 then 90 else if k = 4 then 14 else if k = 3 then 12 else if k = 2 then 2 else if k = 1 then 60 else if k = 0 then 8 else 0
def J_0 (o : Nat) : Nat → Int32 := if o = 732 then at_0 else J_X o
set_option maxHeartbeats 4000000 in
theorem m_X7 (R : mm_R) (M : mm_M) (hR : ∀ o, o < 731 → R o = kR o) (hM1 : ∀ o, M.1 o = J_X o) (hM2 : ∀ o, M.2 o = fun _ => 0) : ∃ R' M', fX7_init (zR R 731) 732 0 (zM M 731) (732 + 8) (0 + 36147) = some (R', M') ∧ (∀ o, o < 740 → R' o = kR o) ∧ (∀ o, M'.1 o = J_0 o) ∧ (∀ o, M'.2 o = fun _ => 0) := by
  obtain ⟨Ra, ha⟩ : ∃ Ra, Ra = sR (zR (sR (zR (sR (zR (sR (zR (sR (zR (sR (zR (sR (zR (sR (zR (zR R 731) 732) 731 0 (some 732)) 733) 731 1 (some 733)) 734) 731 3 (some 734)) 735) 731 4 (some 735)) 736) 731 5 (some 736)) 737) 731 6 (some 737)) 738) 731 13 (some 738)) 739) 731 14 (some 739) := ⟨_, rfl⟩
  obtain ⟨Ma, hMa⟩ : ∃ Ma, Ma = zM (zM (zM (zM (zM (zM (zM (zM (zM M 731) 732) 733) 734) 735) 736) 737) 738) 739 := ⟨_, rfl⟩
  have z0 : zR R 731 731 = fun _ => none := by rw [zR_ap, if_pos rfl]
  have hRa : Ra 731 = kR 731 := by
    rw [ha, stp_a _ _ (by omega), stp_a _ _ (by omega), stp_a _ _ (by omega), stp_a _ _ (by omega), stp_a _ _ (by omega), stp_a _ _ (by omega), stp_a _ _ (by omega), stp_a _ _ (by omega), z0]
    funext k
    show _ = if k = 0 then some 732 else if k = 1 then some 733 else if k = 3 then some 734 else if k = 4 then some 735 else if k = 5 then some 736 else if k = 6 then some 737 else if k = 13 then some 738 else if k = 14 then some 739 else none
    match k with
    | 0 => rfl
    | 1 => rfl
    | 2 => rfl
    | 3 => rfl
    | 4 => rfl
    | 5 => rfl
    | 6 => rfl
    | 7 => rfl
    | 8 => rfl
    | 9 => rfl
    | 10 => rfl
    | 11 => rfl
    | 12 => rfl
    | 13 => rfl
    | 14 => rfl
    | k + 15 => simp
  have g0 : Ra 731 0 = some 732 ∧ 732 < 740 := ⟨by rw [hRa]; rfl, by omega⟩
  refine ⟨Ra, sI (sI (sI (sI (sI (sI (sI (sI (sI (sI (sI Ma 732 0 8) 732 1 60) 732 2 2) 732 3 12) 732 4 14) 732 5 90) 732 6 500) 732 7 2) 732 8 11) 732 9 200) 732 11 1, ?_, fun o ho => ?_, fun o => ?_, fun o => ?_⟩
  · subst ha
    subst hMa
    unfold fX7_init
    refine gd_i ⟨rfl, by omega, by omega⟩ (lt_i (lt_i (lt_i (lt_i (lt_i ?_)))))
    refine gd_i ⟨rfl, by omega, by omega⟩ (lt_i (lt_i (lt_i (lt_i (lt_i ?_)))))
    refine gd_i ⟨rfl, by omega, by omega⟩ (lt_i (lt_i (lt_i (lt_i (lt_i ?_)))))
    refine gd_i ⟨rfl, by omega, by omega⟩ (lt_i (lt_i (lt_i (lt_i (lt_i ?_)))))
    refine gd_i ⟨rfl, by omega, by omega⟩ (lt_i (lt_i (lt_i (lt_i (lt_i ?_)))))
    refine gd_i ⟨rfl, by omega, by omega⟩ (lt_i (lt_i (lt_i (lt_i (lt_i ?_)))))
    refine gd_i ⟨rfl, by omega, by omega⟩ (lt_i (lt_i (lt_i (lt_i (lt_i ?_)))))
    refine gd_i ⟨rfl, by omega, by omega⟩ (lt_i (lt_i (lt_i (lt_i (lt_i ?_)))))
    refine gd_i g0 (lt_i (gd_i g0 (lt_i (gd_i g0 (lt_i (gd_i g0 (lt_i (gd_i g0 (lt_i (gd_i g0 (lt_i ?_)))))))))))
    refine gd_i g0 (lt_i (gd_i g0 (lt_i (gd_i g0 (lt_i (gd_i g0 (lt_i (gd_i g0 (lt_i ?_)))))))))
    exact gd_i ⟨rfl, rfl⟩ rfl
  · by_cases h0 : o = 731
    · subst h0; exact hRa
    · rw [ha]
      by_cases h1 : o < 731
      · rw [stp_ap _ _ (by omega), if_neg (by omega), if_neg h0, stp_ap _ _ (by omega), if_neg (by omega), if_neg h0, stp_ap _ _ (by omega), if_neg (by omega), if_neg h0, stp_ap _ _ (by omega), if_neg (by omega), if_neg h0, stp_ap _ _ (by omega), if_neg (by omega), if_neg h0, stp_ap _ _ (by omega), if_neg (by omega), if_neg h0, stp_ap _ _ (by omega), if_neg (by omega), if_neg h0, stp_ap _ _ (by omega), if_neg (by omega), if_neg h0, zR_ap, if_neg h0, hR o h1]
      · have hk : kR o = fun _ => none := by
          funext k
          unfold kR
          rw [if_neg (by omega), if_neg (by omega), if_neg (by omega), if_neg (by omega), if_neg (by omega), if_neg (by omega), if_neg h0]
        rw [hk, stp_ap _ _ (by omega)]
        refine fn_if (fun _ => rfl) (fun q1 => ?_)
        rw [if_neg h0, stp_ap _ _ (by omega)]
        refine fn_if (fun _ => rfl) (fun q1 => ?_)
        rw [if_neg h0, stp_ap _ _ (by omega)]
        refine fn_if (fun _ => rfl) (fun q1 => ?_)
        rw [if_neg h0, stp_ap _ _ (by omega)]
        refine fn_if (fun _ => rfl) (fun q1 => ?_)
        rw [if_neg h0, stp_ap _ _ (by omega)]
        refine fn_if (fun _ => rfl) (fun q1 => ?_)
        rw [if_neg h0, stp_ap _ _ (by omega)]
        refine fn_if (fun _ => rfl) (fun q1 => ?_)
        rw [if_neg h0, stp_ap _ _ (by omega)]
        refine fn_if (fun _ => rfl) (fun q1 => ?_)
        rw [if_neg h0, stp_ap _ _ (by omega), if_pos (by omega)]
  · have hJ : 731 ≤ o → J_X o = fun _ => 0 := by
      intro h
      unfold J_X
      rw [if_neg (by omega), if_neg (by omega)]
    simp only [sI_ap1]
    rw [hMa]
    simp only [zM_ap1]
    rw [hM1]
    unfold J_0
    by_cases h : o = 732
    · simp only [if_pos h, h]
      funext k
      simp [at_0]
    · simp only [if_neg h]
      by_cases h2 : 731 ≤ o
      · rw [hJ h2]
        simp
      · rw [if_neg (by omega), if_neg (by omega), if_neg (by omega), if_neg (by omega), if_neg (by omega), if_neg (by omega), if_neg (by omega), if_neg (by omega)]
  · simp only [sI_ap2]
    rw [hMa]
    simp only [zM_ap2]
    rw [hM2]
    simp
/-- the memory at the law's loop -/
def mm_0 : mm_M := (J_0, fun _ _ => 0)
theorem m_all : ∃ R1 R2 M1, fX6_init (zR R_0 0) 1 0 (zM M_0 0) (1 + 730) (0 + 40517) = some (R1, M1) ∧ fX7_init (zR R1 731) 732 0 (zM M1 731) (732 + 8) (0 + 36147) = some (R2, mm_0) ∧ ∀ o, o < 740 → R2 o = kR o := by
  obtain ⟨R1, M1, e1, r1, m1, l1⟩ := m_X6
  obtain ⟨R2, M2, e2, r2, m2, l2⟩ := m_X7 R1 M1 r1 m1 l1
  have e : M2 = mm_0 := Prod.ext (funext m2) (funext l2)
  subst e
  exact ⟨R1, R2, M1, e1, e2, r2⟩
