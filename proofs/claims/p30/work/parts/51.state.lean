/-! a State is made: three loops -/
theorem fn_if {α : Type} {c : Prop} [Decidable c] {f g h : Nat → α} (h1 : c → f = h) (h2 : ¬ c → g = h) : (if c then f else g) = h := by
  by_cases q : c
  · rw [if_pos q]; exact h1 q
  · rw [if_neg q]; exact h2 q
set_option maxHeartbeats 1000000 in
theorem m_121 {a NB ZB : Nat} (ha : kT a = (4, 0)) (hN : NB = a + 66) : ∀ (d i n Z : Nat) (R : mm_R) (M : mm_M), i + d = 16 → d < n → ZB = Z + 221 * d → R a 9 = some (a + 3) → ∃ R' M', fX5_init_121 a NB ZB n R (a + 18 + 3 * i) Z M (nI i) = some (R', M') ∧ (∀ o, R' o = if o = a + 3 then (fun k => if i ≤ k ∧ k < 16 then some (a + 18 + 3 * k) else R o k) else if a + 18 + 3 * i ≤ o ∧ o < a + 66 then kR o else R o) ∧ (∀ o, M'.1 o = if a + 18 + 3 * i ≤ o ∧ o < a + 66 then (fun _ => 0) else M.1 o) ∧ (∀ o, M'.2 o = if a + 18 + 3 * i ≤ o ∧ o < a + 66 then (fun _ => 0) else M.2 o) := by
  intro d
  induction d with
  | zero =>
    intro i n Z R M hi hn hZ h9
    obtain ⟨n, rfl⟩ : ∃ q, n = q + 1 := ⟨n - 1, by omega⟩
    have e : i = 16 := by omega
    subst e
    refine ⟨R, M, ?_, fun o => ?_, fun o => ?_, fun o => ?_⟩
    · rw [fX5_init_121]
      refine if_pi (show (16 : Int32) ≤ nI 16 by decide) (gd_i ⟨by omega, by omega⟩ rfl)
    · by_cases e0 : o = a + 3
      · rw [if_pos e0]; funext k; rw [if_neg (by omega)]
      · rw [if_neg e0, if_neg (by omega)]
    · rw [if_neg (by omega)]
    · rw [if_neg (by omega)]
  | succ d ih =>
    intro i n Z R M hi hn hZ h9
    obtain ⟨n, rfl⟩ : ∃ q, n = q + 1 := ⟨n - 1, by omega⟩
    have hc : i < 16 := by omega
    have k0 := kS_cart ha hc
    have k1 : kT (a + 18 + 3 * i + 1) = (8, 3) := kC_16 k0
    have k2 : kT (a + 18 + 3 * i + 2) = (8, 200) := kC_17 k0
    obtain ⟨R1, M1, e1, r1, m1, l1⟩ := m_X0 (zR R (a + 18 + 3 * i)) (Z + 18) (zM M (a + 18 + 3 * i)) (a + 18 + 3 * i) k1 k2
    obtain ⟨R2, M2, e2, r2, m2, l2⟩ := ih (i + 1) n (Z + 18 + 203) (sR R1 (a + 3) i (some (a + 18 + 3 * i))) M1 (by omega) (by omega) (by omega) (by
      rw [sR_ap, if_neg (by omega), r1, if_neg (by omega), if_neg (by omega), zR_ap, if_neg (by omega)]; exact h9)
    refine ⟨R2, M2, ?_, fun o => ?_, fun o => ?_, fun o => ?_⟩
    · rw [fX5_init_121]
      refine if_ni (show ¬ nI 16 ≤ nI i from nI_ge hc (by decide)) ?_
      refine gd_i ⟨h9, by omega⟩ ?_
      refine gd_i ⟨k0, by omega, by omega⟩ ?_
      refine lt_i (lt_i (lt_i (lt_i ?_)))
      refine gd_i ⟨by omega, by omega⟩ ?_
      refine bn2_i e1 ?_
      refine lt_i (lt_i ?_)
      refine gd_i (ix_nI hc (by decide)) ?_
      refine lt_i (lt_i ?_)
      rw [nI_clamp (by omega), nI_1]
      exact e2
    · rw [r2]
      by_cases e0 : o = a + 3
      · subst e0
        rw [if_pos rfl, if_pos rfl]
        have hx : ∀ k, sR R1 (a + 3) i (some (a + 18 + 3 * i)) (a + 3) k = if k = i then some (a + 18 + 3 * i) else R (a + 3) k := by
          intro k
          have hy : R1 (a + 3) = R (a + 3) := by rw [r1, if_neg (by omega), if_neg (by omega), zR_ap, if_neg (by omega)]
          rw [sR_ap, if_pos rfl, hy]
        funext k
        rw [hx]
        by_cases q : k = i
        · subst q
          rw [if_neg (by omega), if_pos rfl, if_pos (by omega)]
        · rw [if_neg q]
          by_cases q2 : i + 1 ≤ k ∧ k < 16
          · rw [if_pos q2, if_pos (by omega)]
          · rw [if_neg q2, if_neg (by omega)]
      · rw [if_neg e0, if_neg e0, sR_ap, if_neg e0, r1]
        by_cases q : a + 18 + 3 * (i + 1) ≤ o ∧ o < a + 66
        · rw [if_pos q, if_pos (by omega)]
        · rw [if_neg q]
          by_cases q1 : o = a + 18 + 3 * i
          · subst q1
            rw [if_pos rfl, if_pos (by omega), kR_c ha hc, zR_ap, if_pos rfl]
            funext k
            by_cases q3 : k = 17
            · subst q3
              rw [if_pos rfl, if_neg (by omega), if_pos rfl]
            · rw [if_neg q3]
              by_cases q4 : k = 16
              · rw [if_pos q4, if_pos q4]
              · rw [if_neg q4, if_neg q4, if_neg q3]
          · rw [if_neg q1]
            by_cases q2 : o = a + 18 + 3 * i + 1 ∨ o = a + 18 + 3 * i + 2
            · rw [if_pos q2, if_pos (by omega)]
              obtain ⟨j, hj, ej⟩ : ∃ j, (j = 18 + 3 * i + 1 ∨ j = 18 + 3 * i + 2) ∧ o = a + j := ⟨o - a, by omega, by omega⟩
              rw [ej, kR_none ha (by omega) (by omega) (by omega) (by omega) (by omega)]
            · rw [if_neg q2, zR_ap, if_neg q1, if_neg (by omega)]
    · rw [m2, m1]
      by_cases q : a + 18 + 3 * (i + 1) ≤ o ∧ o < a + 66
      · rw [if_pos q, if_pos (by omega)]
      · rw [if_neg q]
        by_cases q2 : o = a + 18 + 3 * i + 1 ∨ o = a + 18 + 3 * i + 2
        · rw [if_pos q2, if_pos (by omega)]
        · rw [if_neg q2, zM_ap1]
          by_cases q1 : o = a + 18 + 3 * i
          · rw [if_pos q1, if_pos (by omega)]
          · rw [if_neg q1, if_neg (by omega)]
    · rw [l2, l1]
      by_cases q : a + 18 + 3 * (i + 1) ≤ o ∧ o < a + 66
      · rw [if_pos q, if_pos (by omega)]
      · rw [if_neg q]
        by_cases q2 : o = a + 18 + 3 * i + 1 ∨ o = a + 18 + 3 * i + 2
        · rw [if_pos q2, if_pos (by omega)]
        · rw [if_neg q2, zM_ap2]
          by_cases q1 : o = a + 18 + 3 * i
          · rw [if_pos q1, if_pos (by omega)]
          · rw [if_neg q1, if_neg (by omega)]
set_option maxHeartbeats 1000000 in
theorem m_94 {a NB ZB : Nat} (ha : kT a = (4, 0)) (hN : NB = a + 66) : ∀ (d i n Z : Nat) (R : mm_R) (M : mm_M), i + d = 10 → d < n → ZB = Z + 4 * d + 3536 → R a 8 = some (a + 2) → R a 9 = some (a + 3) → (∀ k, R (a + 3) k = none) → ∃ R' M', fX5_init_94 a NB ZB n R (a + 8 + i) Z M (nI i) = some (R', M') ∧ (∀ o, R' o = if o = a + 2 then (fun k => if i ≤ k ∧ k < 10 then some (a + 8 + k) else R o k) else if o = a + 3 ∨ (a + 8 + i ≤ o ∧ o < a + 66) then kR o else R o) ∧ (∀ o, M'.1 o = if a + 8 + i ≤ o ∧ o < a + 66 then (fun _ => 0) else M.1 o) ∧ (∀ o, M'.2 o = if a + 8 + i ≤ o ∧ o < a + 66 then (fun _ => 0) else M.2 o) := by
  intro d
  induction d with
  | zero =>
    intro i n Z R M hi hn hZ h8 h9 h3
    obtain ⟨n, rfl⟩ : ∃ q, n = q + 1 := ⟨n - 1, by omega⟩
    have e : i = 10 := by omega
    subst e
    obtain ⟨R2, M2, e2, r2, m2, l2⟩ := m_121 (ZB := ZB) ha hN 16 0 FU Z R M rfl (by decide) (by omega) h9
    refine ⟨R2, M2, ?_, fun o => ?_, fun o => ?_, fun o => ?_⟩
    · rw [fX5_init_94]
      exact if_pi (show (10 : Int32) ≤ nI 10 by decide) e2
    · rw [r2]
      by_cases e0 : o = a + 2
      · rw [if_neg (by omega), if_neg (by omega), if_pos e0]
        funext k
        rw [if_neg (by omega)]
      · rw [if_neg e0]
        by_cases e3 : o = a + 3
        · subst e3
          rw [if_pos rfl, if_pos (Or.inl rfl), kR_3 ha]
          funext k
          by_cases q : k < 16
          · rw [if_pos (by omega), if_pos q]
          · rw [if_neg (by omega), if_neg q, h3]
        · rw [if_neg e3]
          by_cases q : a + 18 ≤ o ∧ o < a + 66
          · rw [if_pos (by omega), if_pos (by omega)]
          · rw [if_neg (by omega), if_neg (by omega)]
    · rw [m2]
    · rw [l2]
  | succ d ih =>
    intro i n Z R M hi hn hZ h8 h9 h3
    obtain ⟨n, rfl⟩ : ∃ q, n = q + 1 := ⟨n - 1, by omega⟩
    have hc : i < 10 := by omega
    have k0 := kS_pitch ha hc
    obtain ⟨R2, M2, e2, r2, m2, l2⟩ := ih (i + 1) n (Z + 4 + 0) (sR (zR R (a + 8 + i)) (a + 2) i (some (a + 8 + i))) (zM M (a + 8 + i)) (by omega) (by omega) (by omega) (by
      rw [sR_ap, if_neg (by omega), zR_ap, if_neg (by omega)]; exact h8) (by
      rw [sR_ap, if_neg (by omega), zR_ap, if_neg (by omega)]; exact h9) (by
      intro k; rw [sR_ap, if_neg (by omega), zR_ap, if_neg (by omega)]; exact h3 k)
    refine ⟨R2, M2, ?_, fun o => ?_, fun o => ?_, fun o => ?_⟩
    · rw [fX5_init_94]
      refine if_ni (show ¬ nI 10 ≤ nI i from nI_ge hc (by decide)) ?_
      refine gd_i ⟨h8, by omega⟩ ?_
      refine gd_i ⟨k0, by omega, by omega⟩ ?_
      refine lt_i (lt_i (lt_i (lt_i ?_)))
      refine gd_i ⟨by omega, by omega⟩ ?_
      refine bn2_i (m_X4 _ _ _ _ _) ?_
      refine lt_i (lt_i ?_)
      refine gd_i (ix_nI hc (by decide)) ?_
      refine lt_i (lt_i ?_)
      rw [nI_clamp (by omega), nI_1]
      exact e2
    · rw [r2]
      by_cases e0 : o = a + 2
      · subst e0
        rw [if_pos rfl, if_pos rfl]
        have hx : ∀ k, sR (zR R (a + 8 + i)) (a + 2) i (some (a + 8 + i)) (a + 2) k = if k = i then some (a + 8 + i) else R (a + 2) k := by
          intro k
          have hy : zR R (a + 8 + i) (a + 2) = R (a + 2) := by rw [zR_ap, if_neg (by omega)]
          rw [sR_ap, if_pos rfl, hy]
        funext k
        rw [hx]
        by_cases q : k = i
        · subst q
          rw [if_neg (by omega), if_pos rfl, if_pos (by omega)]
        · rw [if_neg q]
          by_cases q2 : i + 1 ≤ k ∧ k < 10
          · rw [if_pos q2, if_pos (by omega)]
          · rw [if_neg q2, if_neg (by omega)]
      · rw [if_neg e0, if_neg e0, sR_ap, if_neg e0, zR_ap]
        by_cases q : o = a + 3 ∨ (a + 8 + (i + 1) ≤ o ∧ o < a + 66)
        · rw [if_pos q, if_pos (by omega)]
        · rw [if_neg q]
          by_cases q1 : o = a + 8 + i
          · subst q1
            rw [if_pos rfl, if_pos (by omega), show a + 8 + i = a + (8 + i) by omega, kR_none ha (by omega) (by omega) (by omega) (by omega) (by omega)]
          · rw [if_neg q1, if_neg (by omega)]
    · rw [m2, zM_ap1]
      by_cases q : a + 8 + (i + 1) ≤ o ∧ o < a + 66
      · rw [if_pos q, if_pos (by omega)]
      · rw [if_neg q]
        by_cases q1 : o = a + 8 + i
        · rw [if_pos q1, if_pos (by omega)]
        · rw [if_neg q1, if_neg (by omega)]
    · rw [l2, zM_ap2]
      by_cases q : a + 8 + (i + 1) ≤ o ∧ o < a + 66
      · rw [if_pos q, if_pos (by omega)]
      · rw [if_neg q]
        by_cases q1 : o = a + 8 + i
        · rw [if_pos q1, if_pos (by omega)]
        · rw [if_neg q1, if_neg (by omega)]
set_option maxHeartbeats 1000000 in
theorem m_69 {a NB ZB : Nat} (ha : kT a = (4, 0)) (hN : NB = a + 66) : ∀ (d i n Z : Nat) (R : mm_R) (M : mm_M), i + d = 10 → d < n → ZB = Z + 3576 → R a 7 = some (a + 1) → R a 8 = some (a + 2) → R a 9 = some (a + 3) → (∀ k, R (a + 2) k = none) → (∀ k, R (a + 3) k = none) → ∃ R' M', fX5_init_69 a NB ZB n R (a + 8) Z M (nI i) = some (R', M') ∧ (∀ o, R' o = if o = a + 2 ∨ o = a + 3 ∨ (a + 8 ≤ o ∧ o < a + 66) then kR o else R o) ∧ (∀ o, M'.1 o = if o = a + 1 then (fun k => if i ≤ k ∧ k < 10 then mm_f0 k else M.1 o k) else if a + 8 ≤ o ∧ o < a + 66 then (fun _ => 0) else M.1 o) ∧ (∀ o, M'.2 o = if a + 8 ≤ o ∧ o < a + 66 then (fun _ => 0) else M.2 o) := by
  intro d
  induction d with
  | zero =>
    intro i n Z R M hi hn hZ h7 h8 h9 h2 h3
    obtain ⟨n, rfl⟩ : ∃ q, n = q + 1 := ⟨n - 1, by omega⟩
    have e : i = 10 := by omega
    subst e
    obtain ⟨R2, M2, e2, r2, m2, l2⟩ := m_94 (ZB := ZB) ha hN 10 0 FU Z R M rfl (by decide) (by omega) h8 h9 h3
    refine ⟨R2, M2, ?_, fun o => ?_, fun o => ?_, fun o => ?_⟩
    · rw [fX5_init_69]
      exact if_pi (show (10 : Int32) ≤ nI 10 by decide) e2
    · rw [r2]
      by_cases e0 : o = a + 2
      · subst e0
        rw [if_pos rfl, if_pos (Or.inl rfl), kR_2 ha]
        funext k
        by_cases q : k < 10
        · rw [if_pos (by omega), if_pos q]
        · rw [if_neg (by omega), if_neg q, h2]
      · rw [if_neg e0]
        by_cases q : o = a + 3 ∨ (a + 8 ≤ o ∧ o < a + 66)
        · rw [if_pos (by omega), if_pos (by omega)]
        · rw [if_neg (by omega), if_neg (by omega)]
    · rw [m2]
      by_cases e1 : o = a + 1
      · rw [if_pos e1, if_neg (by omega)]
        funext k
        rw [if_neg (by omega)]
      · rw [if_neg e1]
    · rw [l2]
  | succ d ih =>
    intro i n Z R M hi hn hZ h7 h8 h9 h2 h3
    obtain ⟨n, rfl⟩ : ∃ q, n = q + 1 := ⟨n - 1, by omega⟩
    have hc : i < 10 := by omega
    obtain ⟨R2, M2, e2, r2, m2, l2⟩ := ih (i + 1) n Z R (sI M (a + 1) i (mm_f0 i)) (by omega) (by omega) hZ h7 h8 h9 h2 h3
    refine ⟨R2, M2, ?_, r2, fun o => ?_, l2⟩
    · rw [fX5_init_69]
      refine if_ni (show ¬ nI 10 ≤ nI i from nI_ge hc (by decide)) ?_
      refine gd_i ⟨h7, by omega⟩ ?_
      refine gd_i (ix_nI hc (by decide)) ?_
      refine lt_i (lt_i ?_)
      rw [nI_clamp (by omega), nI_1]
      exact e2
    · rw [m2, sI_ap1]
      by_cases e1 : o = a + 1
      · rw [if_pos e1, if_pos e1, if_pos e1]
        funext k
        by_cases q : k = i
        · subst q
          rw [if_neg (by omega), if_pos rfl, if_pos (by omega)]
        · rw [if_neg q]
          by_cases q2 : i + 1 ≤ k ∧ k < 10
          · rw [if_pos q2, if_pos (by omega)]
          · rw [if_neg q2, if_neg (by omega)]
      · rw [if_neg e1, if_neg e1, if_neg e1]
