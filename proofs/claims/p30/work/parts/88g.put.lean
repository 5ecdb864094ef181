/-! SIM: put -/
def cdx (w k : Nat) : Nat := w / 2 ^ (8 * k) % 256
theorem cdx_lt (w k : Nat) : cdx w k < 256 := Nat.mod_lt _ (by omega)
theorem chr256 {c : Nat} (h : c < 256) : ((nI c).toUInt32 % 65536).toInt32 = nI c := by
  rw [pk_char, pk_tn (by omega), Nat.mod_eq_of_lt (by omega)]
theorem shr_k : ∀ k, k < 8 → ((8 * nI k).toInt64 &&& 63).toBitVec.smod 64 = BitVec.ofNat 64 (8 * k) := by decide +kernel
theorem w_shr (x : Int64) {k : Nat} (hk : k < 8) : wN (x >>> ((8 * nI k).toInt64 &&& 63)) % 256 = cdx (wN x) k := by
  unfold cdx
  apply Nat.eq_of_testBit_eq
  intro i
  rw [show (256 : Nat) = 2 ^ 8 from rfl, Nat.testBit_mod_two_pow, Nat.testBit_mod_two_pow, Nat.testBit_div_two_pow]
  by_cases hi : i < 8
  · rw [wbit, wbit, Int64.toBitVec_shiftRight, shr_k k hk, BitVec.sshiftRight_eq', BitVec.getLsbD_sshiftRight, BitVec.toNat_ofNat, Nat.mod_eq_of_lt (show 8 * k < 2 ^ 64 by omega), if_pos (show 8 * k + i < 64 by omega), Nat.add_comm i]
    simp [show ¬ 64 ≤ i by omega]
  · simp [hi]
theorem gP_ok (w : Nat) : ∀ d i c, c < 2 ^ 31 → i + d ≤ 8 → gP w d i = nI c → i ≤ c ∧ c ≤ i + d ∧ ∀ k, i ≤ k → k < c → 33 ≤ cdx w k ∧ cdx w k ≤ 126 := by
  intro d
  induction d with
  | zero =>
    intro i c hc h8 h
    have e : i = c := (nI_eq (by omega) hc).mp h
    exact ⟨by omega, by omega, fun k h1 h2 => by omega⟩
  | succ d ih =>
    intro i c hc h8 h
    have n2 : ¬ (-2 : Int32) = nI c := fun q => nI_pos hc (by rw [← q]; decide)
    unfold gP at h
    by_cases c1 : w / 2 ^ (8 * i) % 256 = 0
    · rw [if_pos c1] at h
      by_cases c2 : w / 2 ^ (8 * i) = 0
      · rw [if_pos c2] at h
        have e : i = c := (nI_eq (by omega) hc).mp h
        exact ⟨by omega, by omega, fun k h1 h2 => by omega⟩
      · rw [if_neg c2] at h; exact absurd h n2
    · rw [if_neg c1] at h
      by_cases c2 : w / 2 ^ (8 * i) % 256 < 33
      · rw [if_pos c2] at h; exact absurd h n2
      · rw [if_neg c2] at h
        by_cases c3 : 126 < w / 2 ^ (8 * i) % 256
        · rw [if_pos c3] at h; exact absurd h n2
        · rw [if_neg c3] at h
          obtain ⟨g1, g2, g3⟩ := ih (i + 1) c hc (by omega) h
          refine ⟨by omega, by omega, fun k h1 h2 => ?_⟩
          by_cases e : k = i
          · subst e
            unfold cdx
            omega
          · exact g3 k (by omega) h2
/-- the class lays the signs down behind those that lie -/
theorem q_appG (x : Int64) : ∀ (k n j : Nat) (M : mm_M), k < n → k ≤ 8 → j + k ≤ 80 → M.1 729 1 = nI j → ∃ M', fX3_append_32 729 x n M (nI k + (-1)) = some (nI (j + k), M') ∧ M'.1 729 1 = nI (j + k) ∧ (∀ i, j ≤ i → i < j + k → M'.1 730 i = nI (cdx (wN x) (k - 1 - (i - j)))) ∧ (∀ i, i < j → M'.1 730 i = M.1 730 i) ∧ (∀ o, o ≠ 729 → o ≠ 730 → M'.1 o = M.1 o) ∧ M'.2 = M.2 := by
  intro k
  induction k with
  | zero =>
    intro n j M hn hk hj h1
    obtain ⟨n, rfl⟩ : ∃ q, n = q + 1 := ⟨n - 1, by omega⟩
    refine ⟨M, ?_, h1, fun i h2 h3 => by omega, fun _ _ => rfl, fun _ _ _ => rfl, rfl⟩
    rw [fX3_append_32, h1]
    exact if_pi (by decide) rfl
  | succ k ih =>
    intro n j M hn hk hj h1
    obtain ⟨n, rfl⟩ : ∃ q, n = q + 1 := ⟨n - 1, by omega⟩
    have hcd := cdx_lt (wN x) k
    obtain ⟨M1, e1⟩ : ∃ X, X = sI M 730 j (nI (cdx (wN x) k)) := ⟨_, rfl⟩
    obtain ⟨M2, e2⟩ : ∃ X, X = sI M1 729 1 (nI (j + 1)) := ⟨_, rfl⟩
    have c1 : M1.1 729 1 = nI j := by rw [e1, sI_ap1, if_neg (by omega)]; exact h1
    obtain ⟨M', q1, q2, q3, q4, q5, q6⟩ := ih n (j + 1) M2 (by omega) (by omega) (by omega) (by rw [e2, sI_ap1, if_pos rfl]; exact if_pos rfl)
    have m2 : ∀ i, M2.1 730 i = if i = j then nI (cdx (wN x) k) else M.1 730 i := fun i => by
      rw [e2, sI_ap1, if_neg (by omega), e1, sI_ap1, if_pos rfl]
    rw [show j + 1 + k = j + (k + 1) by omega] at q1 q2
    refine ⟨M', ?_, q2, fun i h2 h3 => ?_, fun i hi => ?_, fun o h2 h3 => ?_, by rw [q6, e2, e1]; rfl⟩
    · rw [pk_m1, fX3_append_32]
      refine if_ni (nI_pos (by omega)) (bn_i (q_code M x k (by omega)) ?_)
      rw [h1, show wN x / 2 ^ (8 * k) % 256 = cdx (wN x) k from rfl, chr256 hcd]
      refine gd_i (ix_nI (n := 80) (by omega) (by decide)) ?_
      rw [nI_clamp (by omega), ← e1]
      refine lt_i ?_
      rw [c1, nI_1, ← e2]
      exact lt_i (lt_i q1)
    · by_cases e : i = j
      · rw [q4 i (by omega), m2, if_pos e, e, show k + 1 - 1 - (j - j) = k by omega]
      · rw [q3 i (by omega) (by omega), show k - 1 - (i - (j + 1)) = k + 1 - 1 - (i - j) by omega]
    · rw [q4 i (by omega), m2, if_neg (by omega)]
    · rw [q5 o h2 h3, e2, sI_ap1, if_neg h2, e1, sI_ap1, if_neg h3]
/-- the reference lays them down -/
theorem m_86G (x : Int64) {c j : Nat} (hc : c ≤ 8) (hj : j + c ≤ 80) : ∀ (d t n : Nat) (M : mm_M), t + d = c → d < n → M.1 731 7 = nI j → ∃ M', fX7_put__86 x n M (nI c) (nI t) = some (nI (j + c), M') ∧ M'.1 731 7 = nI (j + c) ∧ (∀ k, k ≠ 7 → M'.1 731 k = M.1 731 k) ∧ (∀ i, j + t ≤ i → i < j + c → M'.1 737 i = nI (cdx (wN x) (c - 1 - (i - j)))) ∧ (∀ i, i < j + t → M'.1 737 i = M.1 737 i) ∧ (∀ o, o ≠ 731 → o ≠ 737 → M'.1 o = M.1 o) ∧ M'.2 = M.2 := by
  intro d
  induction d with
  | zero =>
    intro t n M ht hn h7
    obtain ⟨n, rfl⟩ : ∃ q, n = q + 1 := ⟨n - 1, by omega⟩
    have e : t = c := by omega
    subst e
    refine ⟨sI M 731 7 (nI (j + t)), ?_, ?_, fun k hk => ?_, fun i h1 h2 => by omega, fun i hi => ?_, fun o h1 h2 => ?_, rfl⟩
    · rw [fX7_put__86, h7, nI_add]
      refine if_pi (Int32.le_refl _) (lt_i ?_)
      rw [show (sI M 731 7 (nI (j + t))).1 731 7 = nI (j + t) by rw [sI_ap1, if_pos rfl, if_pos rfl]]
    · rw [sI_ap1, if_pos rfl, if_pos rfl]
    · rw [sI_ap1, if_pos rfl, if_neg hk]
    · rw [sI_ap1, if_neg (by omega)]
    · rw [sI_ap1, if_neg h1]
  | succ d ih =>
    intro t n M ht hn h7
    obtain ⟨n, rfl⟩ : ∃ q, n = q + 1 := ⟨n - 1, by omega⟩
    have e1 : (nI c - 1) - nI t = nI (c - 1 - t) := by
      have h : nI c - 1 = nI (c - 1) := pk_sub (a := c) (b := 1) (by omega)
      rw [h, pk_sub (by omega)]
    obtain ⟨M', q1, q2, q3, q4, q5, q6, q7⟩ := ih (t + 1) n (sI M 737 (j + t) (nI (cdx (wN x) (c - 1 - t)))) (by omega) (by omega) (by rw [sI_ap1, if_neg (by omega)]; exact h7)
    refine ⟨M', ?_, q2, fun k hk => ?_, fun i h1 h2 => ?_, fun i hi => ?_, fun o h1 h2 => ?_, q7⟩
    · rw [fX7_put__86, h7, e1, w_code2, w_shr x (by omega), nI_add j t]
      refine if_ni (nI_ge (by omega) (by omega)) (gd_i (ix_nI (n := 80) (by omega) (by decide)) ?_)
      rw [nI_clamp (by omega)]
      refine lt_i (lt_i ?_)
      rw [nI_1]
      exact q1
    · rw [q3 k hk, sI_ap1, if_neg (by omega)]
    · by_cases e : i = j + t
      · rw [q5 i (by omega), sI_ap1, if_pos rfl, e, if_pos rfl, show j + t - j = t by omega]
      · exact q4 i (by omega) h2
    · rw [q5 i (by omega), sI_ap1, if_pos rfl]
      exact if_neg (by omega)
    · rw [q6 o h1 h2, sI_ap1, if_neg h2]
/-- what put comes to, of a pad of j signs -/
def gQ (w j : Nat) : Int32 := if 1 ≤ gP w 8 0 then (if nI j + gP w 8 0 ≤ 80 then nI j + gP w 8 0 else -4) else -2
theorem m_55G (x v4 : Int64) {j : Nat} (hj : j ≤ 80) (c : Nat) (hc : c ≤ 8) (M : mm_M) (h7 : M.1 731 7 = nI j) {g : Int32} (hg : g = if wN v4 = 0 then nI c else -2) : (g = nI c ∧ 1 ≤ c ∧ j + c ≤ 80 ∧ fX7_put__55 x M (nI c) v4 = fX7_put__86 x FU M (nI c) 0) ∨ fX7_put__55 x M (nI c) v4 = some (if 1 ≤ g then -4 else -2, M) ∧ (1 ≤ g → ¬ nI j + g ≤ 80) := by
  by_cases c1 : wN v4 = 0
  · rw [if_pos c1] at hg
    subst hg
    by_cases c0 : c = 0
    · subst c0
      refine Or.inr ⟨?_, fun q => absurd q (by decide)⟩
      rw [if_neg (by decide)]
      exact if_pi rfl rfl
    · have k1 : (1 : Int32) ≤ nI c := show nI 1 ≤ nI c from nI_le (by omega) (by omega)
      by_cases c8 : j + c ≤ 80
      · refine Or.inl ⟨rfl, by omega, c8, ?_⟩
        unfold fX7_put__55
        rw [h7, nI_add]
        exact if_ni (nI_ne0 (by omega) (by omega)) (if_pi ((lg_cmp_eq _ _).mpr ((wN_0 v4).mpr c1)) (if_pi (show nI (j + c) ≤ nI 80 from nI_le (by omega) (by omega)) rfl))
      · have k8 : ¬ nI (j + c) ≤ 80 := show ¬ nI (j + c) ≤ nI 80 from nI_ge (by omega) (by omega)
        refine Or.inr ⟨?_, fun _ => by rw [nI_add]; exact k8⟩
        rw [if_pos k1]
        unfold fX7_put__55
        rw [h7, nI_add]
        exact if_ni (nI_ne0 (by omega) (by omega)) (if_pi ((lg_cmp_eq _ _).mpr ((wN_0 v4).mpr c1)) (if_ni k8 rfl))
  · rw [if_neg c1] at hg
    subst hg
    refine Or.inr ⟨?_, fun q => absurd q (by decide)⟩
    rw [if_neg (by decide)]
    unfold fX7_put__55
    by_cases c0 : nI c = 0
    · exact if_pi c0 rfl
    · exact if_ni c0 (if_ni (fun q => c1 ((wN_0 v4).mp ((lg_cmp_eq _ _).mp q))) rfl)
theorem m_putG (x : Int64) (w : Nat) (hw : w < 2 ^ 64) {j : Nat} (hj : j ≤ 80) (M : mm_M) (h7 : M.1 731 7 = nI j) : ∀ (d i n : Nat) (v4 : Int64), i + d = 8 → d < n → wN v4 = w / 2 ^ (8 * i) → (∃ c, gP w d i = nI c ∧ 1 ≤ c ∧ c ≤ 8 ∧ j + c ≤ 80 ∧ fX7_put__5 x n M (nI i) v4 = fX7_put__86 x FU M (nI c) 0) ∨ fX7_put__5 x n M (nI i) v4 = some (if 1 ≤ gP w d i then -4 else -2, M) ∧ (1 ≤ gP w d i → ¬ nI j + gP w d i ≤ 80) := by
  intro d
  induction d with
  | zero =>
    intro i n v4 hi hn hv
    obtain ⟨n, rfl⟩ : ∃ q, n = q + 1 := ⟨n - 1, by omega⟩
    have e : i = 8 := by omega
    subst e
    have h0 : wN v4 = 0 := by rw [hv]; exact Nat.div_eq_of_lt hw
    have e5 : fX7_put__5 x (n + 1) M (nI 8) v4 = fX7_put__55 x M (nI 8) v4 := by
      rw [fX7_put__5]
      exact if_pi (show (8 : Int32) ≤ nI 8 by decide) rfl
    rw [e5]
    rcases m_55G x v4 hj 8 (by omega) M h7 (g := gP w 0 8) (if_pos h0).symm with ⟨g1, g2, g3, g4⟩ | h
    · exact Or.inl ⟨8, g1, g2, by omega, g3, g4⟩
    · exact Or.inr h
  | succ d ih =>
    intro i n v4 hi hn hv
    obtain ⟨n, rfl⟩ : ∃ q, n = q + 1 := ⟨n - 1, by omega⟩
    have h8 : i < 8 := by omega
    have hm : wN v4 % 256 < 256 := Nat.mod_lt _ (by omega)
    unfold gP
    have k8 : ¬ (8 : Int32) ≤ nI i := show ¬ nI 8 ≤ nI i from nI_ge h8 (by decide)
    rw [← hv, fX7_put__5, if_neg k8]
    by_cases c1 : wN v4 % 256 = 0
    · rw [if_pos c1, if_pos ((lg_cmp_eq _ _).mpr ((wN_0 _).mpr (by rw [wN_and]; exact c1)))]
      rcases m_55G x v4 hj i (by omega) M h7 (g := if wN v4 = 0 then nI i else -2) rfl with ⟨g1, g2, g3, g4⟩ | h
      · exact Or.inl ⟨i, g1, g2, by omega, g3, g4⟩
      · exact Or.inr h
    · have nz : ¬ lg_cmp (v4 &&& 255) 0 = 0 := fun q => c1 (by rw [← wN_and]; exact (wN_0 _).mp ((lg_cmp_eq _ _).mp q))
      rw [if_neg c1, if_neg nz, w_code2]
      by_cases c2 : wN v4 % 256 < 33
      · rw [if_pos c2]
        refine Or.inr ⟨?_, fun q => absurd q (by decide)⟩
        rw [if_neg (by decide)]
        exact bn_i (in_lo (show nI (wN v4 % 256) < nI 33 from nI_lt c2 (by omega))) (if_ni (by decide) rfl)
      · rw [if_neg c2]
        by_cases c3 : 126 < wN v4 % 256
        · rw [if_pos c3]
          refine Or.inr ⟨?_, fun q => absurd q (by decide)⟩
          rw [if_neg (by decide)]
          exact bn_i (in_hi (show nI 126 < nI (wN v4 % 256) from nI_lt c3 (by omega))) (if_ni (by decide) rfl)
        · rw [if_neg c3]
          have hs := ih (i + 1) n ((v4.toUInt64 >>> ((8 : Int32).toInt64.toUInt64 &&& Int64.toUInt64 63)).toInt64) (by omega) (by omega) (by
            rw [wN_shr, show ((8 : Int32).toInt64.toUInt64 &&& Int64.toUInt64 63).toNat % 64 = 8 by decide, hv, div8])
          have e : ∀ r, fX7_put__5 x n M (nI (i + 1)) ((v4.toUInt64 >>> ((8 : Int32).toInt64.toUInt64 &&& Int64.toUInt64 63)).toInt64) = r → (bn (fX7_in M (nI (wN v4 % 256)) 33 126) fun r4 => if r4 = true then lt (nI i + 1) fun y6 => lt ((v4.toUInt64 >>> ((8 : Int32).toInt64.toUInt64 &&& Int64.toUInt64 63)).toInt64) fun y7 => fX7_put__5 x n M y6 y7 else some ((-2), M)) = r := fun r hr => by
            refine bn_i (in_tt (show ¬ nI (wN v4 % 256) < nI 33 from nI_nlt (by omega) (by omega)) (show ¬ nI 126 < nI (wN v4 % 256) from nI_nlt (by omega) (by omega))) (if_pi rfl (lt_i (lt_i ?_)))
            rw [nI_1]
            exact hr
          rcases hs with ⟨c, g1, g2, g3, g4, g5⟩ | ⟨g1, g2⟩
          · exact Or.inl ⟨c, g1, g2, g3, g4, e _ g5⟩
          · exact Or.inr ⟨e _ g1, g2⟩
theorem z_put {T0 : Nat} (x : Int64) : Tw T0 T0 (fun C => fX6_put C x) (fun D => fX7_put_ D x) := by
  intro C D G
  obtain ⟨j, hj, p1, p2, p3⟩ := G.pad
  obtain ⟨b, h, H⟩ := G.hist
  have hc := q_count x C 8 0 FU rfl (by unfold FU; omega)
  have cl : ∀ r, (if 1 ≤ gP (wN x) 8 0 then (if nI j + gP (wN x) 8 0 ≤ 80 then fX3_append_32 729 x FU C (gP (wN x) 8 0 - 1) else some (-4, C)) else some (-2, C)) = some r → fX6_put C x = some r := fun r hr => by
    unfold fX6_put
    refine bn2_i (a := r.1) (b := r.2) ?_ rfl
    unfold fX3_append
    refine bn_i hc ?_
    rw [p1]
    exact hr
  have same : ∀ r : Int32, fX6_put C x = some (r, C) → fX7_put_ D x = some (r, D) → ∃ r C' D', fX6_put C x = some (r, C') ∧ fX7_put_ D x = some (r, D') ∧ Out T0 C D C' D' := fun r z1 z2 => ⟨r, C, D, z1, z2, G, fun _ _ => rfl, fun _ _ => ⟨rfl, rfl⟩⟩
  rcases m_putG x (wN x) (wN_lt x) hj D p2 8 0 FU x rfl (by unfold FU; omega) (by rw [show 8 * 0 = 0 from rfl, Nat.pow_zero, Nat.div_one]) with ⟨c, g1, g2, g3, g4, g5⟩ | ⟨g1, g2⟩
  · obtain ⟨-, -, hsg⟩ := gP_ok (wN x) 8 0 c (by omega) (by omega) g1
    obtain ⟨c, rfl⟩ : ∃ q, c = q + 1 := ⟨c - 1, by omega⟩
    obtain ⟨C', q1, q2, q3, q4, q5, q6⟩ := q_appG x (c + 1) FU j C (by unfold FU; omega) g3 g4 p1
    obtain ⟨D', r1, r2, r3, r4, r5, r6, r7⟩ := m_86G x (c := c + 1) (j := j) g3 g4 (c + 1) 0 FU D (by omega) (by unfold FU; omega) p2
    have fC : ∀ o, o < 729 → C'.1 o = C.1 o ∧ C'.2 o = C.2 o := fun o ho => ⟨q5 o (by omega) (by omega), by rw [q6]⟩
    refine ⟨nI (j + (c + 1)), C', D', cl _ ?_, g5.trans r1, ⟨(G.live.frame (fun o ho => fC o (by omega))).congr (fun k _ => by rw [r6 732 (by omega) (by omega)]), ⟨b, h, (H.frame (fun o ho => fC o (by omega))).frameD (r3 2 (by omega)) (r6 733 (by omega) (by omega))⟩, (G.sav.frame (fun o ho => fC o (by omega))).frameD (r6 734 (by omega) (by omega)) (r6 735 (by omega) (by omega)), j + (c + 1), g4, q2, r2, fun i hi => ?_⟩, fun o ho => q5 o (by omega) (by omega), fun o ho => ⟨r6 o (by omega) (by omega), by rw [r7]⟩⟩
    · rw [g1, if_pos (show (1 : Int32) ≤ nI (c + 1) from nI_le (a := 1) (by omega) (by omega)), nI_add, if_pos (show nI (j + (c + 1)) ≤ (80 : Int32) from nI_le (b := 80) (by omega) (by omega)), nI_pred, ← pk_m1]
      exact q1
    · by_cases e : i < j
      · obtain ⟨v, v1, v2, v3, v4⟩ := p3 i e
        exact ⟨v, v1, v2, by rw [q4 i e]; exact v3, by rw [r5 i (by omega)]; exact v4⟩
      · obtain ⟨v1, v2⟩ := hsg (c + 1 - 1 - (i - j)) (by omega) (by omega)
        exact ⟨_, v1, v2, q3 i (by omega) hi, r4 i (by omega) hi⟩
  · by_cases e : 1 ≤ gP (wN x) 8 0
    · rw [if_pos e] at g1 cl
      rw [if_neg (g2 e)] at cl
      exact same (-4) (cl _ rfl) g1
    · rw [if_neg e] at g1 cl
      exact same (-2) (cl _ rfl) g1
