/-! a State, a History, a Pad, the class, the model: what they are when made -/
theorem stp_ap (R : mm_R) {a N : Nat} (k : Nat) (h : N ≠ a) (o : Nat) : sR (zR R N) a k (some N) o = if o = N then (fun _ => none) else if o = a then (fun k' => if k' = k then some N else R a k') else R o := by
  rw [sR_ap, zR_ap]
  by_cases e : o = a
  · subst e
    rw [if_pos rfl, if_neg (Ne.symm h), if_neg (Ne.symm h), if_pos rfl]
  · rw [if_neg e, if_neg e]
def made7 (R : mm_R) (a : Nat) : mm_R := sR (zR (sR (zR (sR (zR (sR (zR (sR (zR (sR (zR (sR (zR R (a + 1)) a 7 (some (a + 1))) (a + 2)) a 8 (some (a + 2))) (a + 3)) a 9 (some (a + 3))) (a + 4)) a 10 (some (a + 4))) (a + 5)) a 11 (some (a + 5))) (a + 6)) a 12 (some (a + 6))) (a + 7)) a 13 (some (a + 7))
theorem made7_o (R : mm_R) (a o : Nat) (h : o < a ∨ a + 8 ≤ o) : made7 R a o = R o := by
  unfold made7
  rw [stp_ap _ _ (by omega), if_neg (by omega), if_neg (by omega), stp_ap _ _ (by omega), if_neg (by omega), if_neg (by omega), stp_ap _ _ (by omega), if_neg (by omega), if_neg (by omega), stp_ap _ _ (by omega), if_neg (by omega), if_neg (by omega), stp_ap _ _ (by omega), if_neg (by omega), if_neg (by omega), stp_ap _ _ (by omega), if_neg (by omega), if_neg (by omega), stp_ap _ _ (by omega), if_neg (by omega), if_neg (by omega)]
theorem made7_n (R : mm_R) (a o : Nat) (h : a < o ∧ o < a + 8) : made7 R a o = fun _ => none := by
  unfold made7
  rw [stp_ap _ _ (by omega)]
  refine fn_if (fun _ => rfl) (fun h7 => ?_)
  rw [if_neg (by omega), stp_ap _ _ (by omega)]
  refine fn_if (fun _ => rfl) (fun h6 => ?_)
  rw [if_neg (by omega), stp_ap _ _ (by omega)]
  refine fn_if (fun _ => rfl) (fun h5 => ?_)
  rw [if_neg (by omega), stp_ap _ _ (by omega)]
  refine fn_if (fun _ => rfl) (fun h4 => ?_)
  rw [if_neg (by omega), stp_ap _ _ (by omega)]
  refine fn_if (fun _ => rfl) (fun h3 => ?_)
  rw [if_neg (by omega), stp_ap _ _ (by omega)]
  refine fn_if (fun _ => rfl) (fun h2 => ?_)
  rw [if_neg (by omega), stp_ap _ _ (by omega), if_pos (by omega)]
theorem stp_a (R : mm_R) {a N : Nat} (k : Nat) (h : N ≠ a) : sR (zR R N) a k (some N) a = fun k' => if k' = k then some N else R a k' := by
  rw [stp_ap R k h, if_neg (Ne.symm h), if_pos rfl]
theorem made7_a (R : mm_R) (a : Nat) (h : R a = fun _ => none) : made7 R a a = fun k => if 7 ≤ k ∧ k ≤ 13 then some (a + (k - 6)) else none := by
  unfold made7
  rw [stp_a _ _ (by omega), stp_a _ _ (by omega), stp_a _ _ (by omega), stp_a _ _ (by omega), stp_a _ _ (by omega), stp_a _ _ (by omega), stp_a _ _ (by omega), h]
  funext k
  by_cases e : 7 ≤ k ∧ k ≤ 13
  · rw [if_pos e]
    obtain ⟨j, hj, rfl⟩ : ∃ j, j < 7 ∧ k = 7 + j := ⟨k - 7, by omega, by omega⟩
    match j, hj with
    | 0, _ => rfl
    | 1, _ => rfl
    | 2, _ => rfl
    | 3, _ => rfl
    | 4, _ => rfl
    | 5, _ => rfl
    | 6, _ => rfl
    | j + 7, h => exact absurd h (by omega)
  · rw [if_neg e]
    dsimp only
    rw [if_neg (by omega), if_neg (by omega), if_neg (by omega), if_neg (by omega), if_neg (by omega), if_neg (by omega), if_neg (by omega)]
def madeM (M : mm_M) (a : Nat) : mm_M := zM (zM (zM (zM (zM (zM (zM (sI M a 1 1) (a + 1)) (a + 2)) (a + 3)) (a + 4)) (a + 5)) (a + 6)) (a + 7)
theorem madeM_1 (M : mm_M) (a o : Nat) : (madeM M a).1 o = if a < o ∧ o < a + 8 then (fun _ => 0) else if o = a then (fun k => if k = 1 then 1 else M.1 a k) else M.1 o := by
  unfold madeM
  simp only [zM_ap1, sI_ap1]
  by_cases h : a < o ∧ o < a + 8
  · rw [if_pos h]
    refine fn_if (fun _ => rfl) (fun h7 => fn_if (fun _ => rfl) (fun h6 => fn_if (fun _ => rfl) (fun h5 => fn_if (fun _ => rfl) (fun h4 => fn_if (fun _ => rfl) (fun h3 => fn_if (fun _ => rfl) (fun h2 => fn_if (fun _ => rfl) (fun h1 => absurd h (by omega))))))))
  · rw [if_neg h, if_neg (by omega), if_neg (by omega), if_neg (by omega), if_neg (by omega), if_neg (by omega), if_neg (by omega), if_neg (by omega)]
    by_cases e : o = a
    · subst e; rw [if_pos rfl]
    · rw [if_neg e, if_neg e]
theorem madeM_2 (M : mm_M) (a o : Nat) : (madeM M a).2 o = if a < o ∧ o < a + 8 then (fun _ => 0) else M.2 o := by
  unfold madeM
  simp only [zM_ap2, sI_ap2]
  by_cases h : a < o ∧ o < a + 8
  · rw [if_pos h]
    refine fn_if (fun _ => rfl) (fun h7 => fn_if (fun _ => rfl) (fun h6 => fn_if (fun _ => rfl) (fun h5 => fn_if (fun _ => rfl) (fun h4 => fn_if (fun _ => rfl) (fun h3 => fn_if (fun _ => rfl) (fun h2 => fn_if (fun _ => rfl) (fun h1 => absurd h (by omega))))))))
  · rw [if_neg h, if_neg (by omega), if_neg (by omega), if_neg (by omega), if_neg (by omega), if_neg (by omega), if_neg (by omega), if_neg (by omega)]
set_option maxHeartbeats 1000000 in
theorem m_X5 {a : Nat} (ha : kT a = (4, 0)) (R : mm_R) (Z : Nat) (M : mm_M) (hR : R a = fun _ => none) (hM1 : M.1 a = fun _ => 0) (hM2 : M.2 a = fun _ => 0) : ∃ R' M', fX5_init R (a + 1) Z M a (a + 1 + 65) (Z + 3660) = some (R', M') ∧ (∀ o, R' o = if a ≤ o ∧ o < a + 66 then kR o else R o) ∧ (∀ o, M'.1 o = if a ≤ o ∧ o < a + 66 then I_S a o else M.1 o) ∧ (∀ o, M'.2 o = if a ≤ o ∧ o < a + 66 then (fun _ => 0) else M.2 o) := by
  have ea := made7_a R a hR
  have n2 := made7_n R a (a + 2) (by omega)
  have n3 := made7_n R a (a + 3) (by omega)
  obtain ⟨R2, M2, e2, r2, m2, l2⟩ := m_69 (NB := a + 1 + 65) (ZB := Z + 3660) ha (by omega) 10 0 FU (Z + 10 + 10 + 16 + 8 + 8 + 16 + 16) (made7 R a) (madeM M a) rfl (by decide) (by omega) (by rw [ea]; rfl) (by rw [ea]; rfl) (by rw [ea]; rfl) (fun k => by rw [n2]) (fun k => by rw [n3])
  refine ⟨R2, M2, ?_, fun o => ?_, fun o => ?_, fun o => ?_⟩
  · unfold fX5_init
    refine lt_i ?_
    refine gd_i ⟨kS_7 ha, by omega, by omega⟩ (lt_i (lt_i (lt_i (lt_i (lt_i ?_)))))
    refine gd_i ⟨kS_8 ha, by omega, by omega⟩ (lt_i (lt_i (lt_i (lt_i (lt_i ?_)))))
    refine gd_i ⟨kS_9 ha, by omega, by omega⟩ (lt_i (lt_i (lt_i (lt_i (lt_i ?_)))))
    refine gd_i ⟨kS_10 ha, by omega, by omega⟩ (lt_i (lt_i (lt_i (lt_i (lt_i ?_)))))
    refine gd_i ⟨kS_11 ha, by omega, by omega⟩ (lt_i (lt_i (lt_i (lt_i (lt_i ?_)))))
    refine gd_i ⟨kS_12 ha, by omega, by omega⟩ (lt_i (lt_i (lt_i (lt_i (lt_i ?_)))))
    refine gd_i ⟨kS_13 ha, by omega, by omega⟩ (lt_i (lt_i (lt_i (lt_i (lt_i ?_)))))
    exact e2
  · rw [r2]
    by_cases h : a ≤ o ∧ o < a + 66
    · rw [if_pos h]
      by_cases q : o = a + 2 ∨ o = a + 3 ∨ (a + 8 ≤ o ∧ o < a + 66)
      · rw [if_pos q]
      · rw [if_neg q]
        by_cases e : o = a
        · subst e; rw [ea, kR_0 ha]
        · rw [made7_n R a o (by omega)]
          obtain ⟨j, hj, ej⟩ : ∃ j, (j = 1 ∨ j = 4 ∨ j = 5 ∨ j = 6 ∨ j = 7) ∧ o = a + j := ⟨o - a, by omega, by omega⟩
          rw [ej, kR_none ha (by omega) (by omega) (by omega) (by omega) (by omega)]
    · rw [if_neg h, if_neg (by omega), made7_o R a o (by omega)]
  · rw [m2, madeM_1]
    by_cases h : a ≤ o ∧ o < a + 66
    · rw [if_pos h]
      funext k
      unfold I_S
      by_cases e1 : o = a + 1
      · rw [if_pos e1]
        by_cases q : k < 10
        · rw [if_pos (show 0 ≤ k ∧ k < 10 from ⟨Nat.zero_le _, q⟩), if_neg (show ¬ o = a by omega), if_pos e1, if_pos q]
        · rw [if_neg (show ¬ (0 ≤ k ∧ k < 10) from fun z => q z.2), if_pos (show a < o ∧ o < a + 8 by omega), if_neg (show ¬ o = a by omega), if_pos e1, if_neg q]
      · rw [if_neg e1]
        by_cases e2 : o = a
        · rw [if_neg (by omega), if_neg (by omega), if_pos e2, if_pos e2, hM1]
        · rw [if_neg e2, if_neg e1]
          by_cases q : a + 8 ≤ o ∧ o < a + 66
          · rw [if_pos q, if_neg e2]
          · rw [if_neg q, if_pos (by omega), if_neg e2]
    · rw [if_neg h, if_neg (by omega), if_neg (by omega), if_neg (by omega), if_neg (by omega)]
  · rw [l2, madeM_2]
    by_cases h : a ≤ o ∧ o < a + 66
    · rw [if_pos h]
      refine fn_if (fun _ => rfl) (fun q => fn_if (fun _ => rfl) (fun q2 => ?_))
      rw [show o = a by omega, hM2]
    · rw [if_neg h, if_neg (by omega), if_neg (by omega)]
-- seven States in a row
set_option maxHeartbeats 1000000 in
theorem m_15 {NB ZB : Nat} (hN : NB = 597) : ∀ (d i n Z : Nat) (R : mm_R) (M : mm_M), i + d = 7 → d < n → ZB = Z + 3675 * d → R 133 0 = some 134 → ∃ R' M', fX2_init_15 133 NB ZB n R (135 + 66 * i) Z M (nI i) = some (R', M') ∧ (∀ o, R' o = if o = 134 then (fun k => if i ≤ k ∧ k < 7 then some (135 + 66 * k) else R o k) else if 135 + 66 * i ≤ o ∧ o < 597 then kR o else R o) ∧ (∀ o, M'.1 o = if 135 + 66 * i ≤ o ∧ o < 597 then I_S (135 + 66 * ((o - 135) / 66)) o else M.1 o) ∧ (∀ o, M'.2 o = if 135 + 66 * i ≤ o ∧ o < 597 then (fun _ => 0) else M.2 o) := by
  intro d
  induction d with
  | zero =>
    intro i n Z R M hi hn hZ h0
    obtain ⟨n, rfl⟩ : ∃ q, n = q + 1 := ⟨n - 1, by omega⟩
    have e : i = 7 := by omega
    subst e
    refine ⟨R, M, ?_, fun o => ?_, fun o => ?_, fun o => ?_⟩
    · rw [fX2_init_15]
      exact if_pi (show (7 : Int32) ≤ nI 7 by decide) (gd_i ⟨by omega, by omega⟩ rfl)
    · by_cases e0 : o = 134
      · rw [if_pos e0]; funext k; rw [if_neg (by omega)]
      · rw [if_neg e0, if_neg (by omega)]
    · rw [if_neg (by omega)]
    · rw [if_neg (by omega)]
  | succ d ih =>
    intro i n Z R M hi hn hZ h0
    obtain ⟨n, rfl⟩ : ∃ q, n = q + 1 := ⟨n - 1, by omega⟩
    have hc : i < 7 := by omega
    have k0 := kH_row hc
    obtain ⟨a, ea⟩ : ∃ a, a = 135 + 66 * i := ⟨_, rfl⟩
    rw [← ea] at k0
    obtain ⟨R1, M1, e1, r1, m1, l1⟩ := m_X5 k0 (zR R a) (Z + 15) (zM M a) (by rw [zR_ap, if_pos rfl]) (by rw [zM_ap1, if_pos rfl]) (by rw [zM_ap2, if_pos rfl])
    obtain ⟨R2, M2, e2, r2, m2, l2⟩ := ih (i + 1) n (Z + 15 + 3660) (sR R1 134 i (some a)) M1 (by omega) (by omega) (by omega) (by
      rw [sR_ap, if_neg (by omega), r1, if_neg (by omega), zR_ap, if_neg (by omega)]; exact h0)
    have en : 135 + 66 * (i + 1) = a + 1 + 65 := by omega
    rw [en] at e2
    refine ⟨R2, M2, ?_, fun o => ?_, fun o => ?_, fun o => ?_⟩
    · rw [← ea, fX2_init_15]
      refine if_ni (show ¬ nI 7 ≤ nI i from nI_ge hc (by decide)) ?_
      refine gd_i ⟨h0, by omega⟩ ?_
      refine gd_i ⟨k0, by omega, by omega⟩ ?_
      refine lt_i (lt_i (lt_i (lt_i ?_)))
      refine gd_i ⟨by omega, by omega⟩ ?_
      refine bn2_i e1 ?_
      refine lt_i (lt_i ?_)
      refine gd_i (ix_nI hc (by decide)) ?_
      refine lt_i (lt_i ?_)
      rw [nI_clamp (by omega), nI_1]
      exact e2
    · rw [r2]
      by_cases e0 : o = 134
      · subst e0
        rw [if_pos rfl, if_pos rfl]
        have hx : ∀ k, sR R1 134 i (some a) 134 k = if k = i then some a else R 134 k := by
          intro k
          have hy : R1 134 = R 134 := by rw [r1, if_neg (by omega), zR_ap, if_neg (by omega)]
          rw [sR_ap, if_pos rfl, hy]
        funext k
        rw [hx]
        by_cases q : k = i
        · subst q
          rw [if_neg (by omega), if_pos rfl, if_pos (by omega), ea]
        · rw [if_neg q]
          by_cases q2 : i + 1 ≤ k ∧ k < 7
          · rw [if_pos q2, if_pos (by omega)]
          · rw [if_neg q2, if_neg (by omega)]
      · rw [if_neg e0, if_neg e0, sR_ap, if_neg e0, r1, zR_ap]
        by_cases q : 135 + 66 * (i + 1) ≤ o ∧ o < 597
        · rw [if_pos q, if_pos (by omega)]
        · rw [if_neg q]
          by_cases q1 : a ≤ o ∧ o < a + 66
          · rw [if_pos q1, if_pos (by omega)]
          · rw [if_neg q1, if_neg (by omega), if_neg (by omega)]
    · rw [m2, m1, zM_ap1]
      by_cases q : 135 + 66 * (i + 1) ≤ o ∧ o < 597
      · rw [if_pos q, if_pos (by omega)]
      · rw [if_neg q]
        by_cases q1 : a ≤ o ∧ o < a + 66
        · rw [if_pos q1, if_pos (by omega), show 135 + 66 * ((o - 135) / 66) = a by omega]
        · rw [if_neg q1, if_neg (by omega), if_neg (by omega)]
    · rw [l2, l1, zM_ap2]
      by_cases q : 135 + 66 * (i + 1) ≤ o ∧ o < 597
      · rw [if_pos q, if_pos (by omega)]
      · rw [if_neg q]
        by_cases q1 : a ≤ o ∧ o < a + 66
        · rw [if_pos q1, if_pos (by omega)]
        · rw [if_neg q1, if_neg (by omega), if_neg (by omega)]
