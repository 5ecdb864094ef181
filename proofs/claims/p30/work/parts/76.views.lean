/-! SIM: views: count -/
theorem nn_neg {x : Int32} {P : Nat} (hP : P ≤ 10) (h : nn x P) : x < 0 ↔ x = -6 := by
  rcases h with h | ⟨j, hj, e⟩
  · subst h; decide
  · subst e
    have h1 : ¬ nI j < 0 := nI_pos (by omega)
    exact ⟨fun q => absurd q h1, fun q => absurd (show nI j < 0 by rw [q]; decide) h1⟩
theorem z_onPl {C D : mm_M} {a P K W T : Nat} {N : Nat → Nat} (S : Sim okA C a (D.1 732) P K W T N) : ∀ (d i n n' : Nat) (c : Int32), i + d = K → d < n → d < n' → ∃ c', fX5_countOnPitches_4 a C n c (nI i) = some c' ∧ fX7_atPitches_4 D n' c (nI i) = some c' := by
  have lK := S.bd.lK
  intro d
  induction d with
  | zero =>
    intro i n n' c hi hn hn'
    obtain ⟨n, rfl⟩ : ∃ q, n = q + 1 := ⟨n - 1, by omega⟩
    obtain ⟨n', rfl⟩ : ∃ q, n' = q + 1 := ⟨n' - 1, by omega⟩
    have e : i = K := by omega
    subst e
    refine ⟨c, ?_, ?_⟩
    · rw [fX5_countOnPitches_4, S.cK]; exact if_pi (Int32.le_refl _) rfl
    · rw [fX7_atPitches_4, S.wK]; exact if_pi (Int32.le_refl _) rfl
  | succ d ih =>
    intro i n n' c hi hn hn'
    obtain ⟨n, rfl⟩ : ∃ q, n = q + 1 := ⟨n - 1, by omega⟩
    obtain ⟨n', rfl⟩ : ∃ q, n' = q + 1 := ⟨n' - 1, by omega⟩
    have hK : i < K := by omega
    have h8 : C.1 (a + 18 + 3 * i) 8 = D.1 732 (72 + 20 * i + 11) := S_cart S hK (by omega)
    have ho : fX7_of D (nI i) 11 = some (D.1 732 (72 + 20 * i + 11)) := of_i (k := 11) (by omega) (by omega)
    have hq := nn_neg S.bd.lP ((S.val _).at_ i hK rfl)
    by_cases c0 : D.1 732 (72 + 20 * i + 11) = -6
    · obtain ⟨c', e1, e2⟩ := ih (i + 1) n n' c (by omega) (by omega) (by omega)
      refine ⟨c', ?_, ?_⟩
      · rw [fX5_countOnPitches_4, S.cK]
        refine if_ni (nI_ge hK (by omega)) (gd_i (ix_nI (n := 16) (by omega) (by decide)) ?_)
        rw [nI_clamp (by omega), h8]
        refine if_pi c0 (lt_i ?_)
        rw [nI_1]; exact e1
      · rw [fX7_atPitches_4, S.wK]
        refine if_ni (nI_ge hK (by omega)) (bn_i ho (if_pi (hq.mpr c0) ?_))
        rw [Int32.add_zero]
        refine lt_i (lt_i ?_)
        rw [nI_1]; exact e2
    · obtain ⟨c', e1, e2⟩ := ih (i + 1) n n' (c + 1) (by omega) (by omega) (by omega)
      refine ⟨c', ?_, ?_⟩
      · rw [fX5_countOnPitches_4, S.cK]
        refine if_ni (nI_ge hK (by omega)) (gd_i (ix_nI (n := 16) (by omega) (by decide)) ?_)
        rw [nI_clamp (by omega), h8]
        refine if_ni c0 (lt_i (lt_i ?_))
        rw [nI_1]; exact e1
      · rw [fX7_atPitches_4, S.wK]
        refine if_ni (nI_ge hK (by omega)) (bn_i ho (if_ni (fun q => c0 (hq.mp q)) (lt_i (lt_i ?_))))
        rw [nI_1]; exact e2
theorem z_onP {C D : mm_M} {a P K W T : Nat} {N : Nat → Nat} (S : Sim okA C a (D.1 732) P K W T N) : ∃ c, fX5_countOnPitches C a = some c ∧ fX7_atPitches D = some c := z_onPl S K 0 FU FU 0 (by omega) (by have := S.bd.lK; unfold FU; omega) (by have := S.bd.lK; unfold FU; omega)
theorem z_count {T0 : Nat} (x : Int32) : Vw T0 (fun C => fX6_count C x) (fun D => fX7_count D x) := by
  intro C D G
  obtain ⟨P, K, W, T, N, hT, S⟩ := G.live
  obtain ⟨b, h, H⟩ := G.hist
  obtain ⟨n, hn, p1, p2, -⟩ := G.pad
  obtain ⟨c, hc, w1, w2⟩ := z_wait S
  obtain ⟨o, o1, o2⟩ := z_onP S
  by_cases c0 : x < 0
  · have hne : ∀ k : Int32, ¬ k < 0 → ¬ x = k := fun k hk e => hk (e ▸ c0)
    have c8 : x < 8 := by
      rw [Int32.lt_iff_toInt_lt] at c0 ⊢
      have e0 : (0 : Int32).toInt = 0 := rfl
      have e1 : (8 : Int32).toInt = 8 := rfl
      omega
    refine ⟨-2, if_pi c8 ?_, bn_i (in_lo c8) (if_ni (by decide) ?_)⟩
    · exact if_ni (hne 0 (by decide)) (if_ni (hne 1 (by decide)) (if_ni (hne 2 (by decide)) (if_ni (hne 3 (by decide)) (if_ni (hne 4 (by decide)) (if_ni (hne 5 (by decide)) (if_ni (hne 6 (by decide)) (if_ni (hne 7 (by decide)) (if_ni (hne 8 (by decide)) (if_ni (hne 9 (by decide)) (if_ni (hne 10 (by decide)) (if_ni (hne 11 (by decide)) (if_ni (hne 12 (by decide)) (if_ni (hne 13 (by decide)) (if_ni (hne 14 (by decide)) (if_ni (hne 15 (by decide)) (if_ni (hne 16 (by decide)) (if_ni (hne 17 (by decide)) (if_ni (hne 18 (by decide)) (if_ni (hne 19 (by decide)) (rfl))))))))))))))))))))
    · exact if_ni (hne 0 (by decide)) (if_ni (hne 1 (by decide)) (if_ni (hne 2 (by decide)) (if_ni (hne 3 (by decide)) (if_ni (hne 4 (by decide)) (if_ni (hne 5 (by decide)) (if_ni (hne 6 (by decide)) (if_ni (hne 7 (by decide)) (if_ni (hne 8 (by decide)) (if_ni (hne 9 (by decide)) (if_ni (hne 10 (by decide)) (if_ni (hne 11 (by decide)) (if_ni (hne 12 (by decide)) (if_ni (hne 13 (by decide)) (if_ni (hne 14 (by decide)) (if_ni (hne 15 (by decide)) (if_ni (hne 16 (by decide)) (if_ni (hne 17 (by decide)) (if_ni (hne 18 (by decide)) (if_ni (hne 19 (by decide)) (rfl))))))))))))))))))))
  · by_cases c1 : (19 : Int32) < x
    · have hne : ∀ k : Int32, ¬ (19 : Int32) < k → ¬ x = k := fun k hk e => hk (e ▸ c1)
      have c8 : ¬ x < 8 := by
        rw [Int32.lt_iff_toInt_lt] at c1 ⊢
        have e0 : (19 : Int32).toInt = 19 := rfl
        have e1 : (8 : Int32).toInt = 8 := rfl
        omega
      have c18 : (17 : Int32) < x := by
        rw [Int32.lt_iff_toInt_lt] at c1 ⊢
        have e0 : (19 : Int32).toInt = 19 := rfl
        have e1 : (17 : Int32).toInt = 17 := rfl
        omega
      refine ⟨-2, if_ni c8 (if_pi ((i_succ rfl).mpr c18) ?_), bn_i (in_hi c18) (if_ni (by decide) ?_)⟩
      · exact if_ni (hne 0 (by decide)) (if_ni (hne 1 (by decide)) (if_ni (hne 2 (by decide)) (if_ni (hne 3 (by decide)) (if_ni (hne 4 (by decide)) (if_ni (hne 5 (by decide)) (if_ni (hne 6 (by decide)) (if_ni (hne 7 (by decide)) (if_ni (hne 8 (by decide)) (if_ni (hne 9 (by decide)) (if_ni (hne 10 (by decide)) (if_ni (hne 11 (by decide)) (if_ni (hne 12 (by decide)) (if_ni (hne 13 (by decide)) (if_ni (hne 14 (by decide)) (if_ni (hne 15 (by decide)) (if_ni (hne 16 (by decide)) (if_ni (hne 17 (by decide)) (if_ni (hne 18 (by decide)) (if_ni (hne 19 (by decide)) (rfl))))))))))))))))))))
      · exact if_ni (hne 0 (by decide)) (if_ni (hne 1 (by decide)) (if_ni (hne 2 (by decide)) (if_ni (hne 3 (by decide)) (if_ni (hne 4 (by decide)) (if_ni (hne 5 (by decide)) (if_ni (hne 6 (by decide)) (if_ni (hne 7 (by decide)) (if_ni (hne 8 (by decide)) (if_ni (hne 9 (by decide)) (if_ni (hne 10 (by decide)) (if_ni (hne 11 (by decide)) (if_ni (hne 12 (by decide)) (if_ni (hne 13 (by decide)) (if_ni (hne 14 (by decide)) (if_ni (hne 15 (by decide)) (if_ni (hne 16 (by decide)) (if_ni (hne 17 (by decide)) (if_ni (hne 18 (by decide)) (if_ni (hne 19 (by decide)) (rfl))))))))))))))))))))
    · obtain ⟨j, hj, e⟩ := nI_of2 (M := 19) (n := 19) rfl c0 (Int32.not_lt.mp c1)
      subst e
      match j, hj with
      | 0, _ => exact ⟨D.1 732 10, if_pi (by decide) (if_pi rfl (by rw [S.hd (k := 0) (by omega)])), bn_i (in_lo (by decide)) (if_ni (by decide) (if_pi rfl (rfl)))⟩
      | 1, _ => exact ⟨D.1 732 13, if_pi (by decide) (if_ni (by decide) (if_pi rfl (by rw [S.hd (k := 3) (by omega)]))), bn_i (in_lo (by decide)) (if_ni (by decide) (if_ni (by decide) (if_pi rfl (rfl))))⟩
      | 2, _ => exact ⟨D.1 732 12, if_pi (by decide) (if_ni (by decide) (if_ni (by decide) (if_pi rfl (by rw [S.hd (k := 2) (by omega)])))), bn_i (in_lo (by decide)) (if_ni (by decide) (if_ni (by decide) (if_ni (by decide) (if_pi rfl (rfl)))))⟩
      | 3, _ => exact ⟨D.1 732 11, if_pi (by decide) (if_ni (by decide) (if_ni (by decide) (if_ni (by decide) (if_pi rfl (by rw [S.hd (k := 1) (by omega)]))))), bn_i (in_lo (by decide)) (if_ni (by decide) (if_ni (by decide) (if_ni (by decide) (if_ni (by decide) (if_pi rfl (rfl))))))⟩
      | 4, _ => exact ⟨nI c, if_pi (by decide) (if_ni (by decide) (if_ni (by decide) (if_ni (by decide) (if_ni (by decide) (if_pi rfl (bn_i w1 rfl)))))), bn_i (in_lo (by decide)) (if_ni (by decide) (if_ni (by decide) (if_ni (by decide) (if_ni (by decide) (if_ni (by decide) (if_pi rfl (bn_i w2 rfl)))))))⟩
      | 5, _ => exact ⟨D.1 732 14, if_pi (by decide) (if_ni (by decide) (if_ni (by decide) (if_ni (by decide) (if_ni (by decide) (if_ni (by decide) (if_pi rfl (by rw [S.hd (k := 4) (by omega)]))))))), bn_i (in_lo (by decide)) (if_ni (by decide) (if_ni (by decide) (if_ni (by decide) (if_ni (by decide) (if_ni (by decide) (if_ni (by decide) (if_pi rfl (rfl))))))))⟩
      | 6, _ => exact ⟨nI n, if_pi (by decide) (if_ni (by decide) (if_ni (by decide) (if_ni (by decide) (if_ni (by decide) (if_ni (by decide) (if_ni (by decide) (if_pi rfl (by rw [p1])))))))), bn_i (in_lo (by decide)) (if_ni (by decide) (if_ni (by decide) (if_ni (by decide) (if_ni (by decide) (if_ni (by decide) (if_ni (by decide) (if_ni (by decide) (if_pi rfl (by rw [p2])))))))))⟩
      | 7, _ => exact ⟨nI h, if_pi (by decide) (if_ni (by decide) (if_ni (by decide) (if_ni (by decide) (if_ni (by decide) (if_ni (by decide) (if_ni (by decide) (if_ni (by decide) (if_pi rfl (by rw [H.ch]))))))))), bn_i (in_lo (by decide)) (if_ni (by decide) (if_ni (by decide) (if_ni (by decide) (if_ni (by decide) (if_ni (by decide) (if_ni (by decide) (if_ni (by decide) (if_ni (by decide) (if_pi rfl (by rw [H.dh]))))))))))⟩
      | 8, _ => exact ⟨D.1 732 0, if_ni (by decide) (if_ni (by decide) (gd_i (by decide) (by rw [← S.eq (1 + 1) 0 0 (Or.inr (Or.inl ⟨rfl, by omega, rfl⟩))]; rfl))), bn_i (in_tt (by decide) (by decide)) (if_pi rfl (gd_i (by decide) rfl))⟩
      | 9, _ => exact ⟨D.1 732 1, if_ni (by decide) (if_ni (by decide) (gd_i (by decide) (by rw [← S.eq (1 + 1) 1 1 (Or.inr (Or.inl ⟨rfl, by omega, rfl⟩))]; rfl))), bn_i (in_tt (by decide) (by decide)) (if_pi rfl (gd_i (by decide) rfl))⟩
      | 10, _ => exact ⟨D.1 732 2, if_ni (by decide) (if_ni (by decide) (gd_i (by decide) (by rw [← S.eq (1 + 1) 2 2 (Or.inr (Or.inl ⟨rfl, by omega, rfl⟩))]; rfl))), bn_i (in_tt (by decide) (by decide)) (if_pi rfl (gd_i (by decide) rfl))⟩
      | 11, _ => exact ⟨D.1 732 3, if_ni (by decide) (if_ni (by decide) (gd_i (by decide) (by rw [← S.eq (1 + 1) 3 3 (Or.inr (Or.inl ⟨rfl, by omega, rfl⟩))]; rfl))), bn_i (in_tt (by decide) (by decide)) (if_pi rfl (gd_i (by decide) rfl))⟩
      | 12, _ => exact ⟨D.1 732 4, if_ni (by decide) (if_ni (by decide) (gd_i (by decide) (by rw [← S.eq (1 + 1) 4 4 (Or.inr (Or.inl ⟨rfl, by omega, rfl⟩))]; rfl))), bn_i (in_tt (by decide) (by decide)) (if_pi rfl (gd_i (by decide) rfl))⟩
      | 13, _ => exact ⟨D.1 732 5, if_ni (by decide) (if_ni (by decide) (gd_i (by decide) (by rw [← S.eq (1 + 1) 5 5 (Or.inr (Or.inl ⟨rfl, by omega, rfl⟩))]; rfl))), bn_i (in_tt (by decide) (by decide)) (if_pi rfl (gd_i (by decide) rfl))⟩
      | 14, _ => exact ⟨D.1 732 6, if_ni (by decide) (if_ni (by decide) (gd_i (by decide) (by rw [← S.eq (1 + 1) 6 6 (Or.inr (Or.inl ⟨rfl, by omega, rfl⟩))]; rfl))), bn_i (in_tt (by decide) (by decide)) (if_pi rfl (gd_i (by decide) rfl))⟩
      | 15, _ => exact ⟨D.1 732 7, if_ni (by decide) (if_ni (by decide) (gd_i (by decide) (by rw [← S.eq (1 + 1) 7 7 (Or.inr (Or.inl ⟨rfl, by omega, rfl⟩))]; rfl))), bn_i (in_tt (by decide) (by decide)) (if_pi rfl (gd_i (by decide) rfl))⟩
      | 16, _ => exact ⟨D.1 732 8, if_ni (by decide) (if_ni (by decide) (gd_i (by decide) (by rw [← S.eq (1 + 1) 8 8 (Or.inr (Or.inl ⟨rfl, by omega, rfl⟩))]; rfl))), bn_i (in_tt (by decide) (by decide)) (if_pi rfl (gd_i (by decide) rfl))⟩
      | 17, _ => exact ⟨D.1 732 9, if_ni (by decide) (if_ni (by decide) (gd_i (by decide) (by rw [← S.eq (1 + 1) 9 9 (Or.inr (Or.inl ⟨rfl, by omega, rfl⟩))]; rfl))), bn_i (in_tt (by decide) (by decide)) (if_pi rfl (gd_i (by decide) rfl))⟩
      | 18, _ => exact ⟨o, if_ni (by decide) (if_pi (by decide) (if_ni (by decide) (if_ni (by decide) (if_ni (by decide) (if_ni (by decide) (if_ni (by decide) (if_ni (by decide) (if_ni (by decide) (if_ni (by decide) (if_ni (by decide) (if_ni (by decide) (if_ni (by decide) (if_ni (by decide) (if_ni (by decide) (if_ni (by decide) (if_ni (by decide) (if_ni (by decide) (if_ni (by decide) (if_ni (by decide) (if_pi rfl (bn_i o1 rfl))))))))))))))))))))), bn_i (in_hi (by decide)) (if_ni (by decide) (if_ni (by decide) (if_ni (by decide) (if_ni (by decide) (if_ni (by decide) (if_ni (by decide) (if_ni (by decide) (if_ni (by decide) (if_ni (by decide) (if_ni (by decide) (if_ni (by decide) (if_ni (by decide) (if_ni (by decide) (if_ni (by decide) (if_ni (by decide) (if_ni (by decide) (if_ni (by decide) (if_ni (by decide) (if_ni (by decide) (if_pi rfl (bn_i o2 rfl)))))))))))))))))))))⟩
      | 19, _ => exact ⟨D.1 732 15, if_ni (by decide) (if_pi (by decide) (if_ni (by decide) (if_ni (by decide) (if_ni (by decide) (if_ni (by decide) (if_ni (by decide) (if_ni (by decide) (if_ni (by decide) (if_ni (by decide) (if_ni (by decide) (if_ni (by decide) (if_ni (by decide) (if_ni (by decide) (if_ni (by decide) (if_ni (by decide) (if_ni (by decide) (if_ni (by decide) (if_ni (by decide) (if_ni (by decide) (if_ni (by decide) (if_pi rfl (by rw [S.hd (k := 5) (by omega)])))))))))))))))))))))), bn_i (in_hi (by decide)) (if_ni (by decide) (if_ni (by decide) (if_ni (by decide) (if_ni (by decide) (if_ni (by decide) (if_ni (by decide) (if_ni (by decide) (if_ni (by decide) (if_ni (by decide) (if_ni (by decide) (if_ni (by decide) (if_ni (by decide) (if_ni (by decide) (if_ni (by decide) (if_ni (by decide) (if_ni (by decide) (if_ni (by decide) (if_ni (by decide) (if_ni (by decide) (if_ni (by decide) (if_pi rfl (rfl))))))))))))))))))))))⟩
      | j + 20, hj => exact absurd hj (by omega)
