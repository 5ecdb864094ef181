/-! one call on the fresh memory: put -/
def wN (x : Int64) : Nat := x.toUInt64.toNat
theorem wN_lt (x : Int64) : wN x < 2 ^ 64 := x.toUInt64.toNat_lt
theorem wN_shr (x : Int64) (s : UInt64) : wN (x.toUInt64 >>> s).toInt64 = wN x / 2 ^ (s.toNat % 64) := by
  show (x.toUInt64 >>> s).toNat = _
  rw [UInt64.toNat_shiftRight, Nat.shiftRight_eq_div_pow]
  rfl
theorem wN_and (x : Int64) : wN (x &&& 255) = wN x % 256 := by
  show (x.toUInt64 &&& Int64.toUInt64 255).toNat = _
  rw [UInt64.toNat_and, show (Int64.toUInt64 255).toNat = 2 ^ 8 - 1 by decide, Nat.and_two_pow_sub_one_eq_mod]
  rfl
theorem wN_0 (x : Int64) : x = 0 ↔ wN x = 0 := by
  constructor
  · intro h; subst h; rfl
  · intro h
    have e : x.toUInt64 = 0 := UInt64.toNat_inj.mp h
    have e2 : x.toUInt64.toInt64 = (0 : UInt64).toInt64 := by rw [e]
    exact e2
theorem w255 : ∀ i, i < 32 → (255 : Int32).toBitVec.getLsbD i = decide (i < 8) := by decide
theorem w255l : ∀ i, i < 64 → (255 : Int64).toBitVec.getLsbD i = decide (i < 8) := by decide
theorem wbit (x : Int64) (i : Nat) : (wN x).testBit i = x.toBitVec.getLsbD i := rfl
theorem nbit (n i : Nat) (hi : i < 32) : (nI (n % 256)).toBitVec.getLsbD i = (decide (i < 8) && n.testBit i) := by
  show (BitVec.ofNat 32 (n % 256)).getLsbD i = _
  rw [BitVec.getLsbD_ofNat, show (256 : Nat) = 2 ^ 8 from rfl, Nat.testBit_mod_two_pow]
  simp [hi]
theorem w_code (z : Int64) : z.toInt32 &&& 255 = nI (wN z % 256) := by
  apply Int32.toBitVec_inj.mp
  apply BitVec.eq_of_getLsbD_eq
  intro i hi
  rw [nbit _ _ hi, wbit, Int32.toBitVec_and, BitVec.getLsbD_and, w255 i hi]
  have e : z.toInt32.toBitVec.getLsbD i = z.toBitVec.getLsbD i := by
    show (z.toBitVec.signExtend 32).getLsbD i = _
    rw [BitVec.getLsbD_signExtend, if_pos (by omega)]
    simp [hi]
  rw [e, Bool.and_comm]
theorem w_code2 (z : Int64) : (z &&& 255).toInt32 = nI (wN z % 256) := by
  apply Int32.toBitVec_inj.mp
  apply BitVec.eq_of_getLsbD_eq
  intro i hi
  rw [nbit _ _ hi, wbit]
  have e : (z &&& 255).toInt32.toBitVec.getLsbD i = (z &&& 255).toBitVec.getLsbD i := by
    show ((z &&& 255).toBitVec.signExtend 32).getLsbD i = _
    rw [BitVec.getLsbD_signExtend, if_pos (by omega)]
    simp [hi]
  rw [e, Int64.toBitVec_and, BitVec.getLsbD_and, w255l i (by omega), Bool.and_comm]
theorem s_8 : ∀ i, i < 8 → ((8 * nI i).toInt64.toUInt64 &&& Int64.toUInt64 63).toNat % 64 = 8 * i := by decide +kernel
theorem q_code (M : mm_M) (x : Int64) (i : Nat) (hi : i < 8) : fX3_codeAt M x (nI i) = some (nI (wN x / 2 ^ (8 * i) % 256)) := by
  unfold fX3_codeAt
  rw [w_code, wN_shr, s_8 i hi]
theorem div8 (w i : Nat) : w / 2 ^ (8 * (i + 1)) = w / 2 ^ (8 * i) / 256 := by
  rw [Nat.div_div_eq_div_mul, show 8 * (i + 1) = 8 * i + 8 by omega, Nat.pow_add]
/-- what put answers, and how many signs it counts -/
def gP (w : Nat) : Nat → Nat → Int32
  | 0, i => nI i
  | d + 1, i => if w / 2 ^ (8 * i) % 256 = 0 then (if w / 2 ^ (8 * i) = 0 then nI i else -2) else if w / 2 ^ (8 * i) % 256 < 33 then -2 else if 126 < w / 2 ^ (8 * i) % 256 then -2 else gP w d (i + 1)
theorem gP_of (w : Nat) : ∀ d i, gP w d i = -2 ∨ ∃ c, c ≤ i + d ∧ gP w d i = nI c := by
  intro d
  induction d with
  | zero => exact fun i => Or.inr ⟨i, by omega, rfl⟩
  | succ d ih =>
    intro i
    unfold gP
    by_cases c1 : w / 2 ^ (8 * i) % 256 = 0
    · rw [if_pos c1]
      by_cases c2 : w / 2 ^ (8 * i) = 0
      · rw [if_pos c2]; exact Or.inr ⟨i, by omega, rfl⟩
      · rw [if_neg c2]; exact Or.inl rfl
    · rw [if_neg c1]
      by_cases c2 : w / 2 ^ (8 * i) % 256 < 33
      · rw [if_pos c2]; exact Or.inl rfl
      · rw [if_neg c2]
        by_cases c3 : 126 < w / 2 ^ (8 * i) % 256
        · rw [if_pos c3]; exact Or.inl rfl
        · rw [if_neg c3]
          rcases ih (i + 1) with h | ⟨c, hc, h⟩
          · exact Or.inl h
          · exact Or.inr ⟨c, by omega, h⟩
-- the class counts: behind the first gap
theorem q_gap (x : Int64) (M : mm_M) (c : Nat) : ∀ (d i n : Nat), i + d = 8 → d < n → c < i → fX3_countGiven_4 x M n (nI c) (nI i) = some (if wN x / 2 ^ (8 * i) = 0 then nI c else -2) := by
  intro d
  induction d with
  | zero =>
    intro i n hi hn hc
    obtain ⟨n, rfl⟩ : ∃ q, n = q + 1 := ⟨n - 1, by omega⟩
    have e : i = 8 := by omega
    subst e
    rw [fX3_countGiven_4]
    refine if_pi (show (8 : Int32) ≤ nI 8 by decide) ?_
    rw [if_pos (Nat.div_eq_of_lt (wN_lt x))]
  | succ d ih =>
    intro i n hi hn hc
    obtain ⟨n, rfl⟩ : ∃ q, n = q + 1 := ⟨n - 1, by omega⟩
    have h8 : i < 8 := by omega
    have hw : wN x / 2 ^ (8 * i) % 256 < 256 := Nat.mod_lt _ (by omega)
    rw [fX3_countGiven_4]
    refine if_ni (show ¬ nI 8 ≤ nI i from nI_ge h8 (by decide)) (bn_i (q_code M x i h8) ?_)
    by_cases c1 : wN x / 2 ^ (8 * i) % 256 = 0
    · refine if_pi (show nI (wN x / 2 ^ (8 * i) % 256) = nI 0 by rw [c1]) (lt_i ?_)
      rw [nI_1, ih (i + 1) n (by omega) (by omega) (by omega), div8]
      by_cases c2 : wN x / 2 ^ (8 * i) = 0
      · rw [if_pos (by omega), if_pos c2]
      · rw [if_neg (by omega), if_neg c2]
    · refine if_ni (show ¬ nI (wN x / 2 ^ (8 * i) % 256) = nI 0 from fun q => c1 ((nI_eq (by omega) (by omega)).mp q)) ?_
      rw [if_neg (show ¬ wN x / 2 ^ (8 * i) = 0 by intro q; rw [q] at c1; exact c1 rfl)]
      by_cases c2 : nI (wN x / 2 ^ (8 * i) % 256) < 33
      · exact if_pi c2 rfl
      · refine if_ni c2 ?_
        by_cases c3 : 126 < nI (wN x / 2 ^ (8 * i) % 256)
        · exact if_pi c3 rfl
        · exact if_ni c3 (if_ni (nI_ge hc (by omega)) rfl)
theorem q_count (x : Int64) (M : mm_M) : ∀ (d i n : Nat), i + d = 8 → d < n → fX3_countGiven_4 x M n (nI i) (nI i) = some (gP (wN x) d i) := by
  intro d
  induction d with
  | zero =>
    intro i n hi hn
    obtain ⟨n, rfl⟩ : ∃ q, n = q + 1 := ⟨n - 1, by omega⟩
    have e : i = 8 := by omega
    subst e
    rw [fX3_countGiven_4]
    exact if_pi (show (8 : Int32) ≤ nI 8 by decide) rfl
  | succ d ih =>
    intro i n hi hn
    obtain ⟨n, rfl⟩ : ∃ q, n = q + 1 := ⟨n - 1, by omega⟩
    have h8 : i < 8 := by omega
    have hw : wN x / 2 ^ (8 * i) % 256 < 256 := Nat.mod_lt _ (by omega)
    rw [fX3_countGiven_4]
    unfold gP
    refine if_ni (show ¬ nI 8 ≤ nI i from nI_ge h8 (by decide)) (bn_i (q_code M x i h8) ?_)
    by_cases c1 : wN x / 2 ^ (8 * i) % 256 = 0
    · rw [if_pos c1]
      refine if_pi (show nI (wN x / 2 ^ (8 * i) % 256) = nI 0 by rw [c1]) (lt_i ?_)
      rw [nI_1, q_gap x M i d (i + 1) n (by omega) (by omega) (by omega), div8]
      by_cases c2 : wN x / 2 ^ (8 * i) = 0
      · rw [if_pos (by omega), if_pos c2]
      · rw [if_neg (by omega), if_neg c2]
    · rw [if_neg c1]
      refine if_ni (show ¬ nI (wN x / 2 ^ (8 * i) % 256) = nI 0 from fun q => c1 ((nI_eq (by omega) (by omega)).mp q)) ?_
      by_cases c2 : wN x / 2 ^ (8 * i) % 256 < 33
      · rw [if_pos c2]
        exact if_pi (show nI (wN x / 2 ^ (8 * i) % 256) < nI 33 from nI_lt c2 (by omega)) rfl
      · rw [if_neg c2]
        refine if_ni (show ¬ nI (wN x / 2 ^ (8 * i) % 256) < nI 33 from nI_nlt (by omega) (by omega)) ?_
        by_cases c3 : 126 < wN x / 2 ^ (8 * i) % 256
        · rw [if_pos c3]
          exact if_pi (show nI 126 < nI (wN x / 2 ^ (8 * i) % 256) from nI_lt c3 (by omega)) rfl
        · rw [if_neg c3]
          refine if_ni (show ¬ nI 126 < nI (wN x / 2 ^ (8 * i) % 256) from nI_nlt (by omega) (by omega)) (if_pi (Int32.le_refl _) (lt_i (lt_i ?_)))
          rw [nI_1]
          exact ih (i + 1) n (by omega) (by omega)
-- the class lays the signs down
theorem q_app (x : Int64) : ∀ (k n j : Nat) (M : mm_M), k < n → k ≤ 8 → j + k ≤ 8 → M.1 729 1 = nI j → ∃ M', fX3_append_32 729 x n M (nI k + (-1)) = some (nI (j + k), M') ∧ ∀ o, o ≠ 729 → o ≠ 730 → M'.1 o = M.1 o := by
  intro k
  induction k with
  | zero =>
    intro n j M hn hk hj h1
    obtain ⟨n, rfl⟩ : ∃ q, n = q + 1 := ⟨n - 1, by omega⟩
    refine ⟨M, ?_, fun _ _ _ => rfl⟩
    rw [fX3_append_32, h1]
    exact if_pi (by decide) rfl
  | succ k ih =>
    intro n j M hn hk hj h1
    obtain ⟨n, rfl⟩ : ∃ q, n = q + 1 := ⟨n - 1, by omega⟩
    have e : nI (k + 1) + (-1) = nI k := by
      rw [← nI_1, Int32.add_assoc, show (1 : Int32) + (-1) = 0 by decide, Int32.add_zero]
    obtain ⟨M', e2, h⟩ := ih n (j + 1) (sI (sI M 730 j (((nI (wN x / 2 ^ (8 * k) % 256)).toUInt32 % 65536).toInt32)) 729 1 (nI (j + 1))) (by omega) (by omega) (by omega) (by rw [sI_ap1, if_pos rfl, if_pos rfl])
    refine ⟨M', ?_, fun o h1 h2 => ?_⟩
    · rw [e, fX3_append_32]
      refine if_ni (nI_pos (by omega)) (bn_i (q_code M x k (by omega)) ?_)
      rw [h1]
      refine gd_i (ix_nI (n := 80) (by omega) (by decide)) (lt_i ?_)
      have e3 : (sI M (729 + 1) (nI j).toNatClampNeg (((nI (wN x / 2 ^ (8 * k) % 256)).toUInt32 % 65536).toInt32)).1 729 1 = nI j := by
        rw [sI_ap1, if_neg (by omega)]; exact h1
      rw [e3, nI_1, nI_clamp (by omega)]
      refine lt_i (lt_i ?_)
      rw [show j + (k + 1) = j + 1 + k by omega]
      exact e2
    · rw [h o h1 h2, sI_ap1, if_neg h1, sI_ap1, if_neg h2]
-- the reference lays them down
theorem m_86 (x : Int64) (c : Nat) (hc : c ≤ 8) : ∀ (d i n : Nat) (M : mm_M), i + d = c → d < n → M.1 731 7 = 0 → ∃ M', fX7_put__86 x n M (nI c) (nI i) = some (nI c, M') := by
  intro d
  induction d with
  | zero =>
    intro i n M hi hn h7
    obtain ⟨n, rfl⟩ : ∃ q, n = q + 1 := ⟨n - 1, by omega⟩
    have e : i = c := by omega
    subst e
    refine ⟨sI M 731 7 (nI i), ?_⟩
    rw [fX7_put__86, h7, Int32.zero_add]
    refine if_pi (Int32.le_refl _) (lt_i ?_)
    rw [show (sI M 731 7 (nI i)).1 731 7 = nI i by rw [sI_ap1, if_pos rfl, if_pos rfl]]
  | succ d ih =>
    intro i n M hi hn h7
    obtain ⟨n, rfl⟩ : ∃ q, n = q + 1 := ⟨n - 1, by omega⟩
    obtain ⟨M', e⟩ := ih (i + 1) n (sI M 737 i (((x >>> ((8 * ((nI c - 1) - nI i)).toInt64 &&& 63)) &&& (255 : Int64)).toInt32)) (by omega) (by omega) (by rw [sI_ap1, if_neg (by omega)]; exact h7)
    refine ⟨M', ?_⟩
    rw [fX7_put__86, h7, Int32.zero_add, Int32.zero_add]
    refine if_ni (nI_ge (by omega) (by omega)) (gd_i (ix_nI (n := 80) (by omega) (by decide)) (lt_i (lt_i ?_)))
    rw [nI_clamp (by omega), nI_1]
    exact e
theorem m_55 (x v4 : Int64) (c : Nat) (hc : c ≤ 8) (M : mm_M) (h7 : M.1 731 7 = 0) : ∃ M', fX7_put__55 x M (nI c) v4 = some (if 1 ≤ (if wN v4 = 0 then nI c else -2 : Int32) then (if wN v4 = 0 then nI c else -2) else -2, M') := by
  by_cases c1 : wN v4 = 0
  · rw [if_pos c1]
    by_cases c0 : c = 0
    · subst c0
      exact ⟨M, if_pi rfl rfl⟩
    · obtain ⟨M', e⟩ := m_86 x c hc c 0 FU M (by omega) (by unfold FU; omega) h7
      refine ⟨M', ?_⟩
      have k1 : (1 : Int32) ≤ nI c := show nI 1 ≤ nI c from nI_le (by omega) (by omega)
      rw [if_pos k1]
      unfold fX7_put__55
      rw [h7, Int32.zero_add]
      refine if_ni (nI_ne0 (by omega) (by omega)) (if_pi ((lg_cmp_eq _ _).mpr ((wN_0 v4).mpr c1)) (if_pi (show nI c ≤ nI 80 from nI_le (by omega) (by omega)) e))
  · rw [if_neg c1, if_neg (by decide)]
    refine ⟨M, ?_⟩
    unfold fX7_put__55
    by_cases c0 : nI c = 0
    · exact if_pi c0 rfl
    · exact if_ni c0 (if_ni (fun q => c1 ((wN_0 v4).mp ((lg_cmp_eq _ _).mp q))) rfl)
theorem m_put (x : Int64) (w : Nat) (hw : w < 2 ^ 64) (M : mm_M) (h7 : M.1 731 7 = 0) : ∀ (d i n : Nat) (v4 : Int64), i + d = 8 → d < n → wN v4 = w / 2 ^ (8 * i) → ∃ M', fX7_put__5 x n M (nI i) v4 = some (if 1 ≤ gP w d i then gP w d i else -2, M') := by
  intro d
  induction d with
  | zero =>
    intro i n v4 hi hn hv
    obtain ⟨n, rfl⟩ : ∃ q, n = q + 1 := ⟨n - 1, by omega⟩
    have e : i = 8 := by omega
    subst e
    have h0 : wN v4 = 0 := by rw [hv]; exact Nat.div_eq_of_lt hw
    obtain ⟨M', e⟩ := m_55 x v4 8 (by omega) M h7
    rw [if_pos h0] at e
    refine ⟨M', ?_⟩
    rw [fX7_put__5]
    exact if_pi (show (8 : Int32) ≤ nI 8 by decide) e
  | succ d ih =>
    intro i n v4 hi hn hv
    obtain ⟨n, rfl⟩ : ∃ q, n = q + 1 := ⟨n - 1, by omega⟩
    have h8 : i < 8 := by omega
    have hm : wN v4 % 256 < 256 := Nat.mod_lt _ (by omega)
    unfold gP
    have k8 : ¬ (8 : Int32) ≤ nI i := show ¬ nI 8 ≤ nI i from nI_ge h8 (by decide)
    rw [← hv, fX7_put__5, if_neg k8]
    by_cases c1 : wN v4 % 256 = 0
    · rw [if_pos c1]
      obtain ⟨M', e⟩ := m_55 x v4 i (by omega) M h7
      exact ⟨M', if_pi ((lg_cmp_eq _ _).mpr ((wN_0 _).mpr (by rw [wN_and]; exact c1))) e⟩
    · rw [if_neg c1, if_neg (fun q => c1 (by rw [← wN_and]; exact (wN_0 _).mp ((lg_cmp_eq _ _).mp q))), w_code2]
      by_cases c2 : wN v4 % 256 < 33
      · rw [if_pos c2, if_neg (by decide)]
        exact ⟨M, bn_i (in_lo (show nI (wN v4 % 256) < nI 33 from nI_lt c2 (by omega))) (if_ni (by decide) rfl)⟩
      · rw [if_neg c2]
        by_cases c3 : 126 < wN v4 % 256
        · rw [if_pos c3, if_neg (by decide)]
          exact ⟨M, bn_i (in_hi (show nI 126 < nI (wN v4 % 256) from nI_lt c3 (by omega))) (if_ni (by decide) rfl)⟩
        · rw [if_neg c3]
          obtain ⟨M', e⟩ := ih (i + 1) n ((v4.toUInt64 >>> ((8 : Int32).toInt64.toUInt64 &&& Int64.toUInt64 63)).toInt64) (by omega) (by omega) (by
            rw [wN_shr, show ((8 : Int32).toInt64.toUInt64 &&& Int64.toUInt64 63).toNat % 64 = 8 by decide, hv, div8])
          refine ⟨M', bn_i (in_tt (show ¬ nI (wN v4 % 256) < nI 33 from nI_nlt (by omega) (by omega)) (show ¬ nI 126 < nI (wN v4 % 256) from nI_nlt (by omega) (by omega))) (if_pi rfl (lt_i (lt_i ?_)))⟩
          rw [nI_1]
          exact e
theorem a_put (x : Int64) : two (fun M => fX6_put M x) (fun M => fX7_put_ M x) := by
  have h729 : mm_0.1 729 1 = nI 0 := c_729_1
  have ec : fX3_countGiven mm_0 x = some (gP (wN x) 8 0) := q_count x mm_0 8 0 FU rfl (by decide)
  have hcl : ∃ M', fX6_put mm_0 x = some (if 1 ≤ gP (wN x) 8 0 then gP (wN x) 8 0 else -2, M') ∧ qE M' := by
    rcases gP_of (wN x) 8 0 with h | ⟨c, hc, h⟩
    · rw [h] at ec ⊢
      rw [if_neg (by decide)]
      refine ⟨mm_0, ?_, qE_0⟩
      unfold fX6_put fX3_append
      exact bn2_i (bn_i ec (if_ni (by decide) rfl)) rfl
    · rw [h] at ec ⊢
      by_cases c0 : c = 0
      · subst c0
        rw [if_neg (by decide)]
        refine ⟨mm_0, ?_, qE_0⟩
        unfold fX6_put fX3_append
        exact bn2_i (bn_i ec (if_ni (by decide) rfl)) rfl
      · have c1 : (1 : Int32) ≤ nI c := show nI 1 ≤ nI c from nI_le (by omega) (by omega)
        rw [if_pos c1]
        obtain ⟨M', e, hM⟩ := q_app x c FU 0 mm_0 (by unfold FU; omega) (by omega) (by omega) h729
        rw [Nat.zero_add] at e
        refine ⟨M', ?_, fun o ho => by rw [hM o (by omega) (by omega)]; rfl⟩
        unfold fX6_put fX3_append
        refine bn2_i (bn_i ec (if_pi c1 ?_)) rfl
        rw [c_729_1, Int32.zero_add]
        refine if_pi (show nI c ≤ nI 80 from nI_le (by omega) (by omega)) (lt_i ?_)
        rw [Int32.sub_eq_add_neg]
        exact e
  obtain ⟨M1, e1, hE⟩ := hcl
  obtain ⟨M2, e2⟩ := m_put x (wN x) (wN_lt x) M1 (qE_o hE (by omega) (by omega) 7) 8 0 FU x rfl (by decide) (by
    rw [Nat.mul_zero, Nat.pow_zero, Nat.div_one])
  exact ⟨_, M1, M2, e1, e2⟩
