/-! the whole object, and the model: as they are at the law's loop -/
theorem m_new {a : Nat} (ha : kT a = (4, 0)) (R : mm_R) (Z : Nat) (M : mm_M) : ∃ R' M', fX5_init (zR R a) (a + 1) Z (zM M a) a (a + 1 + 65) (Z + 3660) = some (R', M') ∧ (∀ o, R' o = if a ≤ o ∧ o < a + 66 then kR o else R o) ∧ (∀ o, M'.1 o = if a ≤ o ∧ o < a + 66 then I_S a o else M.1 o) ∧ (∀ o, M'.2 o = if a ≤ o ∧ o < a + 66 then (fun _ => 0) else M.2 o) := by
  obtain ⟨R', M', e, r, m, l⟩ := m_X5 ha (zR R a) Z (zM M a) (by rw [zR_ap, if_pos rfl]) (by rw [zM_ap1, if_pos rfl]) (by rw [zM_ap2, if_pos rfl])
  refine ⟨R', M', e, fun o => ?_, fun o => ?_, fun o => ?_⟩
  · rw [r, zR_ap]
    by_cases h : a ≤ o ∧ o < a + 66
    · rw [if_pos h, if_pos h]
    · rw [if_neg h, if_neg h, if_neg (by omega)]
  · rw [m, zM_ap1]
    by_cases h : a ≤ o ∧ o < a + 66
    · rw [if_pos h, if_pos h]
    · rw [if_neg h, if_neg h, if_neg (by omega)]
  · rw [l, zM_ap2]
    by_cases h : a ≤ o ∧ o < a + 66
    · rw [if_pos h, if_pos h]
    · rw [if_neg h, if_neg h, if_neg (by omega)]
theorem m_X2 (R : mm_R) (Z : Nat) (M : mm_M) (hR : R 133 = fun _ => none) : ∃ R' M', fX2_init R 134 Z M 133 (134 + 463) (Z + 25732) = some (R', M') ∧ (∀ o, R' o = if 133 ≤ o ∧ o < 597 then kR o else R o) ∧ (∀ o, M'.1 o = if 135 ≤ o ∧ o < 597 then I_S (135 + 66 * ((o - 135) / 66)) o else if o = 134 then (fun _ => 0) else M.1 o) ∧ (∀ o, M'.2 o = if 134 ≤ o ∧ o < 597 then (fun _ => 0) else M.2 o) := by
  obtain ⟨R2, M2, e2, r2, m2, l2⟩ := m_15 (NB := 134 + 463) (ZB := Z + 25732) rfl 7 0 FU (Z + 7) (sR (zR R 134) 133 0 (some 134)) (zM M 134) rfl (by decide) (by omega) (by rw [sR_ap, if_pos rfl]; rfl)
  refine ⟨R2, M2, ?_, fun o => ?_, fun o => ?_, fun o => ?_⟩
  · unfold fX2_init
    exact gd_i ⟨rfl, by omega, by omega⟩ (lt_i (lt_i (lt_i (lt_i (lt_i e2)))))
  · rw [r2]
    by_cases e : o = 134
    · subst e
      rw [if_pos rfl, if_pos (by omega)]
      have h1 : sR (zR R 134) 133 0 (some 134) 134 = fun _ => none := by rw [sR_ap, if_neg (by omega), zR_ap, if_pos rfl]
      funext k
      rw [h1]
      show _ = if k < 7 then some (135 + 66 * k) else none
      by_cases q : k < 7
      · rw [if_pos (by omega), if_pos q]
      · rw [if_neg (by omega), if_neg q]
    · rw [if_neg e]
      by_cases q : 135 ≤ o ∧ o < 597
      · rw [if_pos (by omega), if_pos (by omega)]
      · rw [if_neg (by omega), sR_ap]
        by_cases q2 : o = 133
        · subst q2
          have h1 : zR R 134 133 = fun _ => none := by rw [zR_ap, if_neg (by omega), hR]
          rw [if_pos rfl, h1, if_pos (show 133 ≤ 133 ∧ 133 < 597 by omega)]
          rfl
        · rw [if_neg q2, zR_ap, if_neg e, if_neg (by omega)]
  · rw [m2, zM_ap1]
  · rw [l2, zM_ap2]
    by_cases q : 134 ≤ o ∧ o < 597
    · rw [if_pos q]
      exact fn_if (fun _ => rfl) (fun q1 => by rw [if_pos (by omega)])
    · rw [if_neg q, if_neg (by omega), if_neg (by omega)]
theorem m_X3 (R : mm_R) (Z : Nat) (M : mm_M) (hR : R 729 = fun _ => none) : ∃ R' M', fX3_init R 730 Z M 729 (730 + 1) (Z + 80) = some (R', M') ∧ (∀ o, R' o = if o = 729 ∨ o = 730 then kR o else R o) ∧ (∀ o, M'.1 o = if o = 730 then (fun _ => 0) else M.1 o) ∧ (∀ o, M'.2 o = if o = 730 then (fun _ => 0) else M.2 o) := by
  refine ⟨sR (zR R 730) 729 0 (some 730), zM M 730, ?_, fun o => ?_, fun o => ?_, fun o => ?_⟩
  · unfold fX3_init
    exact gd_i ⟨rfl, by omega, by omega⟩ (lt_i (lt_i (lt_i (lt_i (lt_i (gd_i ⟨rfl, rfl⟩ rfl))))))
  · rw [stp_ap R 0 (by omega)]
    by_cases e : o = 730
    · subst e; rw [if_pos rfl, if_pos (Or.inr rfl)]; rfl
    · rw [if_neg e]
      by_cases e2 : o = 729
      · subst e2; rw [if_pos rfl, if_pos (Or.inl rfl), hR]; rfl
      · rw [if_neg e2, if_neg (by omega)]
  · exact zM_ap1 M 730 o
  · exact zM_ap2 M 730 o
