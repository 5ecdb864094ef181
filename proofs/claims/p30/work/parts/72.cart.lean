/-! SIM: cart, the call -/
theorem q_dropK (c : Nat) : ∀ (d i n : Nat) (M : mm_M), i + d = 200 → d < n → ∃ Y, fX0_dropAllPoints_2 c n M (nI i) = some Y ∧ (∀ k, Y.1 (c + 2) k = if i ≤ k ∧ k < 200 then 0 else M.1 (c + 2) k) ∧ (∀ o, o ≠ c + 2 → Y.1 o = M.1 o) ∧ Y.2 = M.2 := by
  intro d
  induction d with
  | zero =>
    intro i n M hi hn
    obtain ⟨n, rfl⟩ : ∃ q, n = q + 1 := ⟨n - 1, by omega⟩
    have e : i = 200 := by omega
    subst e
    refine ⟨M, ?_, fun k => by rw [if_neg (by omega)], fun _ _ => rfl, rfl⟩
    rw [fX0_dropAllPoints_2]
    exact if_pi (show (200 : Int32) ≤ nI 200 by decide) rfl
  | succ d ih =>
    intro i n M hi hn
    obtain ⟨n, rfl⟩ : ∃ q, n = q + 1 := ⟨n - 1, by omega⟩
    have hc : i < 200 := by omega
    obtain ⟨Y, e, y2, yo, yl⟩ := ih (i + 1) n (sI M (c + 2) i 0) (by omega) (by omega)
    refine ⟨Y, ?_, fun k => ?_, fun o ho => ?_, yl⟩
    · rw [fX0_dropAllPoints_2]
      refine if_ni (show ¬ nI 200 ≤ nI i from nI_ge hc (by decide)) ?_
      refine gd_i (ix_nI hc (by decide)) (lt_i (lt_i ?_))
      rw [nI_clamp (by omega), nI_1]
      exact e
    · have z2 : ∀ k, (sI M (c + 2) i 0).1 (c + 2) k = if k = i then 0 else M.1 (c + 2) k := fun k => by rw [sI_ap1, if_pos rfl]
      rw [y2, z2]
      by_cases q : i + 1 ≤ k ∧ k < 200
      · simp only [if_pos q, if_pos (show i ≤ k ∧ k < 200 by omega)]
      · simp only [if_neg q]
        by_cases q2 : k = i
        · subst q2
          simp only [if_pos (show k ≤ k ∧ k < 200 by omega)]
          rfl
        · simp only [if_neg q2, if_neg (show ¬ (i ≤ k ∧ k < 200) by omega)]
    · rw [yo o ho, sI_ap1, if_neg ho]
def vK (x1 x2 x3 : Int32) (k : Nat) : Int32 := if k = 11 then -6 else if k = 10 then 0 else if k = 9 then -6 else if k = 8 then -6 else if k = 7 then 0 else if k = 6 then -6 else if k = 5 then 0 else if k = 3 then 0 else if k = 2 then 0 else if k = 4 then x3 else if k = 1 then x2 else x1
theorem q_beginK (M : mm_M) (c : Nat) (x1 x2 x3 : Int32) : ∃ Y, fX0_begin M c x1 x2 x3 = some Y ∧ (∀ k, k < 12 → Y.1 c k = vK x1 x2 x3 k) ∧ (∀ d, d < 200 → Y.1 (c + 2) d = 0) ∧ (∀ k, k < 4 → Y.2 c (12 + k) = 0) ∧ (∀ o, o ≠ c → o ≠ c + 2 → Y.1 o = M.1 o) ∧ (∀ o, o ≠ c → Y.2 o = M.2 o) := by
  obtain ⟨X, eX⟩ : ∃ X, X = sL (sL (sL (sL (sI (sI (sI (sI (sI (sI (sI (sI M c 0 x1) c 1 x2) c 4 x3) c 2 0) c 3 0) c 5 0) c 6 (-6)) c 7 0) c 12 0) c 13 0) c 14 0) c 15 0 := ⟨_, rfl⟩
  obtain ⟨Z, eZ, z2, zo, zl⟩ := q_dropK c 200 0 FU X rfl (by decide)
  have hne : c ≠ c + 2 := by omega
  have hne2 : c + 2 ≠ c := by omega
  refine ⟨sI (sI (sI (sI Z c 8 (-6)) c 9 (-6)) c 10 0) c 11 (-6), ?_, fun k hk => ?_, fun d hd => ?_, fun k hk => ?_, fun o h1 h2 => ?_, fun o h1 => ?_⟩
  · unfold fX0_begin
    refine lt_i (lt_i (lt_i (lt_i (lt_i (lt_i (lt_i (lt_i (lt_i (lt_i (lt_i (lt_i ?_)))))))))))
    rw [← eX]
    exact bn_i eZ (bn_i rfl rfl)
  · simp only [sI_ap1, if_pos]
    rw [zo c hne, eX]
    simp only [sL_ap1, sI_ap1, if_pos]
    match k, hk with
    | 0, _ => rfl
    | 1, _ => rfl
    | 2, _ => rfl
    | 3, _ => rfl
    | 4, _ => rfl
    | 5, _ => rfl
    | 6, _ => rfl
    | 7, _ => rfl
    | 8, _ => rfl
    | 9, _ => rfl
    | 10, _ => rfl
    | 11, _ => rfl
    | k + 12, h => exact absurd h (by omega)
  · simp only [sI_ap1, if_neg hne2]
    rw [z2, if_pos (by omega)]
  · show Z.2 c (12 + k) = 0
    rw [zl, eX]
    simp only [sL_ap2, if_pos]
    match k, hk with
    | 0, _ => rfl
    | 1, _ => rfl
    | 2, _ => rfl
    | 3, _ => rfl
    | k + 4, h => exact absurd h (by omega)
  · simp only [sI_ap1, if_neg h1]
    rw [zo o h2, eX]
    simp only [sL_ap1, sI_ap1, if_neg h1]
  · show Z.2 o = M.2 o
    rw [zl, eX]
    simp only [sL_ap2, if_neg h1]
    rfl
/-- the reference's row behind its loops -/
def fK (K : Nat) (x1 x2 : Int32) (u : Nat → Int32) : Nat → Int32 := up (up (up (up (up (up (up (up u (72 + 20 * K + 0) x1) (72 + 20 * K + 1) x2) (72 + 20 * K + 7) (u 10 + u 1)) (72 + 20 * K + 9) (-6)) (72 + 20 * K + 11) (-6)) (72 + 20 * K + 12) (-6)) (72 + 20 * K + 14) (-6)) 13 (nI (K + 1))
theorem m_76K {K : Nat} (hK : K < 16) (x1 x2 : Int32) : ∀ (d i n : Nat) (X : mm_M), i + d = 200 → d < n → X.1 732 13 = nI K → ∃ Y, fX7_cart_76 x1 x2 n X (nI K) (nI i) = some (nI K, Y) ∧ Y.1 732 = fK K x1 x2 (fun k => if 392 + 200 * K + i ≤ k ∧ k < 392 + 200 * K + 200 then 0 else X.1 732 k) ∧ FrD X Y := by
  intro d
  induction d with
  | zero =>
    intro i n X hi hn h13
    obtain ⟨n, rfl⟩ : ∃ q, n = q + 1 := ⟨n - 1, by omega⟩
    have e : i = 200 := by omega
    subst e
    have eu : (fun k => if 392 + 200 * K + 200 ≤ k ∧ k < 392 + 200 * K + 200 then 0 else X.1 732 k) = X.1 732 := by
      funext k; rw [if_neg (by omega)]
    rw [eu, fX7_cart_76, if_pos (show (200 : Int32) ≤ nI 200 by decide)]
    refine ⟨_, bn_i (lay_i (k := 0) x1 hK (by omega)) (bn_i (lay_i (k := 1) x2 hK (by omega)) (bn_i (lay_i (k := 7) _ hK (by omega)) (bn_i (lay_i (k := 9) (-6) hK (by omega)) (bn_i (lay_i (k := 11) (-6) hK (by omega)) (bn_i (lay_i (k := 12) (-6) hK (by omega)) (bn_i (lay_i (k := 14) (-6) hK (by omega)) rfl)))))), ?_, FrD.w.tr (FrD.w.tr (FrD.w.tr (FrD.w.tr (FrD.w.tr (FrD.w.tr (FrD.w.tr FrD.w))))))⟩
    simp only [sI_row]
    have a10 : up (up (X.1 732) (72 + 20 * K + 0) x1) (72 + 20 * K + 1) x2 10 = X.1 732 10 := by rw [up_ne (by omega), up_ne (by omega)]
    have a1 : up (up (X.1 732) (72 + 20 * K + 0) x1) (72 + 20 * K + 1) x2 1 = X.1 732 1 := by rw [up_ne (by omega), up_ne (by omega)]
    rw [a10, a1, up_ne (show 13 ≠ 72 + 20 * K + 14 by omega), up_ne (show 13 ≠ 72 + 20 * K + 12 by omega), up_ne (show 13 ≠ 72 + 20 * K + 11 by omega), up_ne (show 13 ≠ 72 + 20 * K + 9 by omega), up_ne (show 13 ≠ 72 + 20 * K + 7 by omega), up_ne (show 13 ≠ 72 + 20 * K + 1 by omega), up_ne (show 13 ≠ 72 + 20 * K + 0 by omega), h13, nI_1]
    rfl
  | succ d ih =>
    intro i n X hi hn h13
    obtain ⟨n, rfl⟩ : ∃ q, n = q + 1 := ⟨n - 1, by omega⟩
    have hc : i < 200 := by omega
    obtain ⟨Y, eY, y2, yF⟩ := ih (i + 1) n (sI X 732 (392 + 200 * K + i) 0) (by omega) (by omega) (by rw [sI_row, up_ne (by omega)]; exact h13)
    refine ⟨Y, ?_, ?_, FrD.w.tr yF⟩
    · rw [fX7_cart_76]
      refine if_ni (show ¬ nI 200 ≤ nI i from nI_ge hc (by decide)) ?_
      have en : (392 + (200 * nI K)) + nI i = nI (392 + 200 * K + i) := by
        rw [show (392 : Int32) = nI 392 from rfl, show (200 : Int32) = nI 200 from rfl, Int32.add_comm (nI 392), mulI, nI_add, Nat.add_comm (200 * K)]
      rw [en]
      refine gd_i (ix_nI (n := 3592) (by omega) (by decide)) (lt_i (lt_i ?_))
      rw [nI_clamp (by omega), nI_1]
      exact eY
    · rw [y2, sI_row]
      congr 1
      funext k
      by_cases q : 392 + 200 * K + (i + 1) ≤ k ∧ k < 392 + 200 * K + 200
      · rw [if_pos q, if_pos (by omega)]
      · rw [if_neg q]
        by_cases q2 : k = 392 + 200 * K + i
        · subst q2; rw [up_eq, if_pos (by omega)]
        · rw [up_ne q2, if_neg (by omega)]
theorem m_52K {K : Nat} (hK : K < 16) (x1 x2 : Int32) : ∀ (d i n : Nat) (X : mm_M), i + d = 20 → d < n → X.1 732 13 = nI K → ∃ Y, fX7_cart_52 x1 x2 n X (nI K) (nI i) = some (nI K, Y) ∧ Y.1 732 = fK K x1 x2 (fun k => if 392 + 200 * K ≤ k ∧ k < 392 + 200 * K + 200 then 0 else if 72 + 20 * K + i ≤ k ∧ k < 72 + 20 * K + 20 then 0 else X.1 732 k) ∧ FrD X Y := by
  intro d
  induction d with
  | zero =>
    intro i n X hi hn h13
    obtain ⟨n, rfl⟩ : ∃ q, n = q + 1 := ⟨n - 1, by omega⟩
    have e : i = 20 := by omega
    subst e
    obtain ⟨Y, eY, y2, yF⟩ := m_76K hK x1 x2 200 0 FU X rfl (by decide) h13
    refine ⟨Y, ?_, ?_, yF⟩
    · rw [fX7_cart_52]
      exact if_pi (show (20 : Int32) ≤ nI 20 by decide) eY
    · rw [y2]
      congr 1
      funext k
      by_cases q : 392 + 200 * K ≤ k ∧ k < 392 + 200 * K + 200
      · rw [if_pos (by omega), if_pos q]
      · rw [if_neg (by omega), if_neg q, if_neg (by omega)]
  | succ d ih =>
    intro i n X hi hn h13
    obtain ⟨n, rfl⟩ : ∃ q, n = q + 1 := ⟨n - 1, by omega⟩
    have hc : i < 20 := by omega
    obtain ⟨Y, eY, y2, yF⟩ := ih (i + 1) n (sI X 732 (72 + 20 * K + i) 0) (by omega) (by omega) (by rw [sI_row, up_ne (by omega)]; exact h13)
    refine ⟨Y, ?_, ?_, FrD.w.tr yF⟩
    · rw [fX7_cart_52]
      refine if_ni (show ¬ nI 20 ≤ nI i from nI_ge hc (by decide)) (bn_i (lay_i 0 hK hc) (lt_i ?_))
      rw [nI_1]
      exact eY
    · rw [y2, sI_row]
      congr 1
      funext k
      by_cases q : 392 + 200 * K ≤ k ∧ k < 392 + 200 * K + 200
      · rw [if_pos q, if_pos q]
      · rw [if_neg q, if_neg q]
        by_cases q1 : 72 + 20 * K + (i + 1) ≤ k ∧ k < 72 + 20 * K + 20
        · rw [if_pos q1, if_pos (by omega)]
        · rw [if_neg q1]
          by_cases q2 : k = 72 + 20 * K + i
          · subst q2; rw [up_eq, if_pos (by omega)]
          · rw [up_ne q2, if_neg (by omega)]
theorem fK_lo {K : Nat} {x1 x2 : Int32} {u : Nat → Int32} {j : Nat} (h : j ≠ 13) (hr : j < 72 + 20 * K ∨ 72 + 20 * K + 20 ≤ j) : fK K x1 x2 u j = u j := by
  unfold fK
  rw [up_ne h, up_ne (by omega), up_ne (by omega), up_ne (by omega), up_ne (by omega), up_ne (by omega), up_ne (by omega), up_ne (by omega)]
theorem fK_r {K : Nat} {x1 x2 : Int32} {u : Nat → Int32} {t : Nat} (hK : K < 16) (ht : t < 20) (hu : u (72 + 20 * K + t) = 0) : fK K x1 x2 u (72 + 20 * K + t) = if t = 0 then x1 else if t = 1 then x2 else if t = 7 then u 10 + u 1 else if t = 9 then -6 else if t = 11 then -6 else if t = 12 then -6 else if t = 14 then -6 else 0 := by
  have hx : ∀ s, (72 + 20 * K + t = 72 + 20 * K + s) = (t = s) := fun s => propext ⟨fun q => by omega, fun q => by omega⟩
  unfold fK
  rw [up_ne (show 72 + 20 * K + t ≠ 13 by omega)]
  simp only [up, hx, hu]
  by_cases h0 : t = 0
  · subst h0; rfl
  · by_cases h1 : t = 1
    · subst h1; rfl
    · simp only [if_neg h0, if_neg h1]
      by_cases h7 : t = 7
      · subst h7; rfl
      · by_cases h9 : t = 9
        · subst h9; rfl
        · by_cases h11 : t = 11
          · subst h11; rfl
          · by_cases h12 : t = 12
            · subst h12; rfl
            · by_cases h14 : t = 14
              · subst h14; rfl
              · simp only [if_neg h7, if_neg h9, if_neg h11, if_neg h12, if_neg h14]
