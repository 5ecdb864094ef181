/-! SIM: texts: one order, both sides -/
abbrev Kc (c : Nat) : Prop := 65 ≤ c ∧ c ≤ 80
abbrev Gc (c : Nat) : Prop := 48 ≤ c ∧ c ≤ 57
/-- an order from b to e: its sort and its numbers -/
def OrdOk (sg : Nat → Nat) (b e : Nat) (kd a0 a1 a2 a3 : Int32) : Prop :=
  (kd = 99 ∧ sg b = 99 ∧ e = b + 2 ∧ Kc (sg (b + 1)) ∧ a0 = nI (sg (b + 1) - 65)) ∨
  (kd = 102 ∧ sg b = 102 ∧ e = b + 3 ∧ Kc (sg (b + 1)) ∧ (49 ≤ sg (b + 2) ∧ sg (b + 2) ≤ 57) ∧ a0 = nI (sg (b + 1) - 65) ∧ a1 = nI (sg (b + 2) - 49)) ∨
  (kd = 115 ∧ sg b = 115 ∧ e = b + 3 ∧ Kc (sg (b + 1)) ∧ Kc (sg (b + 2)) ∧ a0 = nI (sg (b + 1) - 65) ∧ a1 = nI (sg (b + 2) - 65)) ∨
  (kd = 119 ∧ sg b = 119 ∧ Kc (sg (b + 1)) ∧ a0 = nI (sg (b + 1) - 65) ∧ ∃ m, m ≤ 3 ∧ e = b + 2 + m ∧ (∀ q, q < m → Gc (sg (b + 2 + q))) ∧ a1 = (if 0 < m then nI (sg (b + 2) - 48) else -6) ∧ a2 = (if 1 < m then nI (sg (b + 3) - 48) else -6) ∧ a3 = (if 2 < m then nI (sg (b + 4) - 48) else -6)) ∨
  (kd = 100 ∧ sg b = 100 ∧ Gc (sg (b + 1)) ∧ ((e = b + 2 ∧ a0 = nI (sg (b + 1) - 48)) ∨ (e = b + 3 ∧ Gc (sg (b + 2)) ∧ a0 = nI (10 * (sg (b + 1) - 48) + (sg (b + 2) - 48)))))
/-- what reading an order from i on comes to -/
def Rd (sg : Nat → Nat) (n i o : Nat) (D D' : mm_M) : Prop := Pf D D' o ∧ ((∃ e, e ≤ n ∧ Ps D' sg n e 1 o ∧ AF sg n i 4 = nI e) ∨ ∃ e, e ≤ n ∧ i + 2 ≤ e ∧ Ps D' sg n e 0 (o + 1) ∧ AF sg n i 4 = EF sg n e ∧ OrdOk sg i e (D'.1 738 o) (D'.1 739 (4 * o)) (D'.1 739 (4 * o + 1)) (D'.1 739 (4 * o + 2)) (D'.1 739 (4 * o + 3)))
theorem r_bad {sg : Nat → Nat} {n i o e : Nat} {D D2 D3 : mm_M} {v : Int32} (he : e ≤ n) (h : AF sg n i 4 = nI e) (p : Ps D3 sg n e 1 o) (f : Pf D D3 o) : ∃ D', fX7_takeOrder_151 D3 v = some D' ∧ Rd sg n i o D D' := ⟨D3, m_fin1 p, f, Or.inl ⟨e, he, p, h⟩⟩
/-- behind the sort: a cart, then -/
theorem aB_c4 {c st : Nat} (h : (c = 99 ∧ st = 9) ∨ (c = 100 ∧ st = 10) ∨ (c = 102 ∧ st = 6) ∨ (c = 115 ∧ st = 8) ∨ (c = 119 ∧ st = 5)) : aB 4 c = st := by
  rcases h with ⟨h1, h2⟩ | ⟨h1, h2⟩ | ⟨h1, h2⟩ | ⟨h1, h2⟩ | ⟨h1, h2⟩ <;> subst h1 <;> subst h2 <;> rfl
theorem aB_k {st c : Nat} (h : st = 5 ∨ st = 6 ∨ st = 8 ∨ st = 9) (q : ¬ Kc c) : aB st c = 11 := by
  unfold aB
  rcases h with h | h | h | h
  · subst h; rw [if_neg (show ¬ 5 = 4 by omega), if_pos rfl, if_neg q]
  · subst h; rw [if_neg (show ¬ 6 = 4 by omega), if_neg (show ¬ 6 = 5 by omega), if_pos rfl, if_neg q]
  · subst h; rw [if_neg (show ¬ 8 = 4 by omega), if_neg (show ¬ 8 = 5 by omega), if_neg (show ¬ 8 = 6 by omega), if_neg (show ¬ 8 = 7 by omega), if_pos rfl, if_neg q]
  · subst h; rw [if_neg (show ¬ 9 = 4 by omega), if_neg (show ¬ 9 = 5 by omega), if_neg (show ¬ 9 = 6 by omega), if_neg (show ¬ 9 = 7 by omega), if_neg (show ¬ 9 = 8 by omega), if_pos rfl, if_neg q]
theorem aB_5 {c : Nat} (q : Kc c) : aB 5 c = 3 := by
  unfold aB
  rw [if_neg (by omega), if_pos rfl, if_pos q]
theorem aB_6 {c : Nat} (q : Kc c) : aB 6 c = 7 := by
  unfold aB
  rw [if_neg (by omega), if_neg (by omega), if_pos rfl, if_pos q]
theorem aB_8 {c : Nat} (q : Kc c) : aB 8 c = 9 := by
  unfold aB
  rw [if_neg (by omega), if_neg (by omega), if_neg (by omega), if_neg (by omega), if_pos rfl, if_pos q]
theorem aB_9 {c : Nat} (q : Kc c) : aB 9 c = 0 := by
  unfold aB
  rw [if_neg (by omega), if_neg (by omega), if_neg (by omega), if_neg (by omega), if_neg (by omega), if_pos rfl, if_pos q]
theorem aB_7 (c : Nat) : aB 7 c = if 49 ≤ c ∧ c ≤ 57 then 0 else 11 := by
  unfold aB
  rw [if_neg (by omega), if_neg (by omega), if_neg (by omega), if_pos rfl]
theorem aB_10 (c : Nat) : aB 10 c = if 48 ≤ c ∧ c ≤ 57 then (if c = 48 then 0 else 1) else 11 := by
  unfold aB
  rw [if_neg (by omega), if_neg (by omega), if_neg (by omega), if_neg (by omega), if_neg (by omega), if_neg (by omega), if_pos rfl]
theorem m_num {D : mm_M} {sg : Nat → Nat} {n i o : Nat} (p : Ps D sg n i 0 o) (hi : i ≤ n) (ho : o ≤ 26) (v : Int32) (hv : v = 100) {i0 : Nat} (h0 : i = i0 + 1) (hs : sg i0 = 100) (hA : AF sg n i0 4 = AF sg n i 10) : ∃ D2 D', fX7_takeNumber D = some D2 ∧ fX7_takeOrder_151 D2 v = some D' ∧ Rd sg n i0 o D D' := by
  have hl := nx_le p i
  by_cases c : 48 ≤ nx sg n i ∧ nx sg n i ≤ 57
  · obtain ⟨hin, hx⟩ := nx_in (sg := sg) (n := n) (k := i) (by omega)
    obtain ⟨D1, q1, p1, v1, s1, g1, f1⟩ := m_oneT (pl := 0) p c (by omega) (by omega) ho (by omega)
    have v1' : D1.1 739 (4 * o) = nI (nx sg n i - 48) := v1
    have e4 : (4 : Int32) * nI o = nI (4 * o) := pk_mul 4 o
    have run : ∀ r, (if D1.1 739 (4 * o) ≤ 0 then some D1 else (if (decide (48 ≤ nx sg n (i + 1) ∧ nx sg n (i + 1) ≤ 57)) = true then
        lt (sI D1 739 (4 * o) (((10 * (D1.1 739 (4 * o))) + nI (nx sg n (i + 1))) - 48)) fun M14 =>
        lt (sI M14 731 10 ((M14.1 731 10) + 1)) fun M15 =>
        bn (fX7_next M15) fun r17 =>
        bn (fX7_in M15 r17 48 57) fun r19 =>
        lt (sI M15 731 11 (b2i r19)) fun M20 =>
        some M20 else some D1)) = r → fX7_takeNumber D = r := fun r hr => by
      unfold fX7_takeNumber
      refine bn_i q1 ?_
      rw [p1.2.2.2.1, e4]
      refine lt_i ?_
      rw [p1.2.2.1]
      refine if_pi rfl (gd_i (ix_nI (n := 116) (by omega) (by decide)) ?_)
      rw [nI_clamp (by omega)]
      by_cases z : D1.1 739 (4 * o) ≤ 0
      · rw [if_pos z] at hr ⊢; exact hr
      · rw [if_neg z] at hr ⊢
        refine bn_i (m_next p1 (by omega)) (bn_i (z_in D1 (lo := 48) (hi := 57) (by have := nx_le p (i + 1); omega) (by omega) (by omega)) ?_)
        by_cases z2 : decide (48 ≤ nx sg n (i + 1) ∧ nx sg n (i + 1) ≤ 57) = true
        · rw [if_pos z2] at hr ⊢
          exact bn_i (m_next p1 (by omega)) hr
        · rw [if_neg z2] at hr ⊢
          exact hr
    rw [v1'] at run
    have ok : ∀ st, (st = 0 ∨ ¬ (48 ≤ nx sg n (i + 1) ∧ nx sg n (i + 1) ≤ 57)) → st ≤ 1 → aB 10 (nx sg n i) = st → fX7_takeNumber D = some D1 → ∃ D2 D', fX7_takeNumber D = some D2 ∧ fX7_takeOrder_151 D2 v = some D' ∧ Rd sg n i0 o D D' := fun st h1 h2 h3 h4 => by
      obtain ⟨D', r1, r2, r3, r4, r5⟩ := m_fin0 (v := v) p1 ho
      refine ⟨D1, D', h4, r1, f1.tr r5, Or.inr ⟨i + 1, by omega, by omega, r2, ?_, ?_⟩⟩
      · rw [hA, AF_yes hi (by omega) h3 (by omega), AF_e (by omega) (by omega) h1]
      · refine Or.inr (Or.inr (Or.inr (Or.inr ⟨by rw [r3, hv], hs, by rw [← h0, ← hx]; exact c, Or.inl ⟨by omega, ?_⟩⟩)))
        rw [r4, v1', hx, h0]
    by_cases z : nx sg n i = 48
    · refine ok 0 (Or.inl rfl) (by omega) (by rw [aB_10, if_pos c, if_pos z]) (run _ ?_)
      rw [z]
      exact if_pos (by decide)
    · have nz : ¬ nI (nx sg n i - 48) ≤ 0 := nI_nle (by omega) (by omega)
      rw [if_neg nz] at run
      have h10 : aB 10 (nx sg n i) = 1 := by rw [aB_10, if_pos c, if_neg z]
      by_cases c2 : 48 ≤ nx sg n (i + 1) ∧ nx sg n (i + 1) ≤ 57
      · obtain ⟨hin2, hx2⟩ := nx_in (sg := sg) (n := n) (k := i + 1) (by omega)
        have hl3 := nx_le p (i + 1 + 1)
        rw [decide_eq_true c2, if_pos rfl] at run
        have ev : ((10 * nI (nx sg n i - 48)) + nI (nx sg n (i + 1))) - 48 = nI (10 * (nx sg n i - 48) + (nx sg n (i + 1) - 48)) := by
          have e1 : (10 : Int32) * nI (nx sg n i - 48) + nI (nx sg n (i + 1)) = nI (10 * (nx sg n i - 48) + nx sg n (i + 1)) := mulI 10 _ _
          have e2 : nI (10 * (nx sg n i - 48) + nx sg n (i + 1)) - 48 = nI (10 * (nx sg n i - 48) + nx sg n (i + 1) - 48) := pk_sub (b := 48) (by omega)
          rw [e1, e2, show 10 * (nx sg n i - 48) + nx sg n (i + 1) - 48 = 10 * (nx sg n i - 48) + (nx sg n (i + 1) - 48) by omega]
        obtain ⟨D2, e2⟩ : ∃ X, X = sI D1 739 (4 * o) (nI (10 * (nx sg n i - 48) + (nx sg n (i + 1) - 48))) := ⟨_, rfl⟩
        have p2 : Ps D2 sg n (i + 1) 0 o := by rw [e2]; exact p1.oth (Or.inr rfl)
        obtain ⟨D3, e3⟩ : ∃ X, X = sI D2 731 10 (nI (i + 1 + 1)) := ⟨_, rfl⟩
        have p3 : Ps D3 sg n (i + 1 + 1) 0 o := by rw [e3]; exact p2.spot _
        have f3 : Pf D D3 o := by rw [e3, e2]; exact (f1.tr (Pf.n (Nat.le_refl _))).tr (Pf.i (by omega))
        have w3 : D3.1 739 (4 * o) = nI (10 * (nx sg n i - 48) + (nx sg n (i + 1) - 48)) := by
          rw [e3, sI_ap1, if_neg (by omega), e2, sI_ap1, if_pos rfl]; exact if_pos rfl
        have run2 : fX7_takeNumber D = some (sI D3 731 11 (b2i (decide (48 ≤ nx sg n (i + 1 + 1) ∧ nx sg n (i + 1 + 1) ≤ 57)))) := run _ (by
          rw [ev, ← e2]
          refine lt_i ?_
          rw [p2.2.1, nI_1, ← e3]
          refine lt_i (bn_i (m_next p3 (by omega)) (bn_i (z_in D3 (lo := 48) (hi := 57) (by omega) (by omega) (by omega)) rfl)))
        have hA2 : AF sg n i0 4 = AF sg n (i + 1 + 1) 0 := by
          rw [hA, AF_yes hi (by omega) h10 (by omega), AF_g (by omega) (by omega) c2]
        by_cases c3 : 48 ≤ nx sg n (i + 1 + 1) ∧ nx sg n (i + 1 + 1) ≤ 57
        · rw [decide_eq_true c3, show b2i true = nI 1 from rfl] at run2
          have p4 : Ps (sI D3 731 11 (nI 1)) sg n (i + 1 + 1) 1 o := p3.wr 1
          obtain ⟨hin3, hx3⟩ := nx_in (sg := sg) (n := n) (k := i + 1 + 1) (by omega)
          refine ⟨_, _, run2, m_fin1 p4, f3.tr (Pf.i (by omega)), Or.inl ⟨i + 1 + 1, by omega, p4, ?_⟩⟩
          rw [hA2, AF_e (by omega) (by omega) (Or.inl rfl)]
          unfold EF
          rw [if_pos hin3, if_neg (by omega)]
        · rw [decide_eq_false c3, show b2i false = nI 0 from rfl] at run2
          have p4 : Ps (sI D3 731 11 (nI 0)) sg n (i + 1 + 1) 0 o := p3.wr 0
          obtain ⟨D', r1, r2, r3, r4, r5⟩ := m_fin0 (v := v) p4 ho
          refine ⟨_, D', run2, r1, (f3.tr (Pf.i (by omega))).tr r5, Or.inr ⟨i + 1 + 1, by omega, by omega, r2, ?_, ?_⟩⟩
          · rw [hA2, AF_e (by omega) (by omega) (Or.inl rfl)]
          · refine Or.inr (Or.inr (Or.inr (Or.inr ⟨by rw [r3, hv], hs, by rw [← h0, ← hx]; exact c, Or.inr ⟨by omega, ?_, ?_⟩⟩)))
            · rw [show i0 + 2 = i + 1 by omega, ← hx2]; exact c2
            · rw [r4, sI_ap1, if_neg (by omega), w3, hx, hx2, h0]
      · rw [decide_eq_false c2, if_neg (by decide)] at run
        exact ok 1 (Or.inr c2) (by omega) h10 (run _ rfl)
  · have p1 : Ps (sI D 731 11 (nI 1)) sg n i 1 o := p.wr 1
    refine ⟨sI D 731 11 (nI 1), sI D 731 11 (nI 1), ?_, m_fin1 p1, Pf.i (by omega), Or.inl ⟨i, hi, p1, ?_⟩⟩
    · unfold fX7_takeNumber
      refine bn_i (m_oneF (lo := 48) (hi := 57) p hi c (by omega) (by omega)) (lt_i ?_)
      rw [r7, if_pos rfl]
      exact if_ni (by decide) rfl
    · rw [hA]
      exact AF_no hi (by omega) (by rw [aB_10, if_neg c])
set_option maxHeartbeats 2000000 in
theorem m_order {D : mm_M} {sg : Nat → Nat} {n i o : Nat} (p : Ps D sg n i 0 o) (hi : i ≤ n) (ho : o ≤ 26) : ∃ D', fX7_takeOrder D = some D' ∧ Rd sg n i o D D' := by
  have hl := nx_le p i
  obtain ⟨c, ec⟩ : ∃ c, c = nx sg n i := ⟨_, rfl⟩
  obtain ⟨D1, e1⟩ : ∃ X, X = sI D 731 10 (nI (i + 1)) := ⟨_, rfl⟩
  have p1 : Ps D1 sg n (i + 1) 0 o := by rw [e1]; exact p.spot _
  have f1 : Pf D D1 o := by rw [e1]; exact Pf.i (by omega)
  have run : ∀ r, (if nI c = 99 then
    bn (fX7_takeOne D1 0 65 80) fun M6 =>
    fX7_takeOrder_151 M6 (nI c)
  else if nI c = 100 then
    bn (fX7_takeNumber D1) fun M9 =>
    fX7_takeOrder_151 M9 (nI c)
  else if nI c = 102 then
    bn (fX7_takeOne D1 0 65 80) fun M12 =>
    bn (fX7_takeOne M12 1 49 57) fun M14 =>
    fX7_takeOrder_151 M14 (nI c)
  else if nI c = 115 then
    bn (fX7_takeOne D1 0 65 80) fun M17 =>
    bn (fX7_takeOne M17 1 65 80) fun M19 =>
    fX7_takeOrder_151 M19 (nI c)
  else if nI c = 119 then
    bn (fX7_takeWishes D1) fun M22 =>
    fX7_takeOrder_151 M22 (nI c)
  else
    lt (sI D1 731 10 (nI (i + 1) - 1)) fun M23 =>
    lt (sI M23 731 11 1) fun M24 =>
    fX7_takeOrder_151 M24 (nI c)) = r → fX7_takeOrder D = r := fun r hr => by
    unfold fX7_takeOrder
    refine bn_i (m_next p hi) ?_
    rw [p.2.1, nI_1, ← e1, ← ec]
    refine lt_i ?_
    rw [p1.2.1]
    exact hr
  have ne : ∀ k, k < 2 ^ 31 → c ≠ k → ¬ nI c = nI k := fun k hk h q => h ((nI_eq (by omega) hk).mp q)
  by_cases c99 : c = 99
  · obtain ⟨hin, hx⟩ := nx_in (sg := sg) (n := n) (k := i) (by omega)
    have hA : AF sg n i 4 = AF sg n (i + 1) 9 := AF_yes hi (by omega) (by rw [← ec]; exact aB_c4 (Or.inl ⟨c99, rfl⟩)) (by omega)
    rw [if_pos (show nI c = 99 by rw [c99]; rfl)] at run
    by_cases k1 : Kc (nx sg n (i + 1))
    · obtain ⟨hin1, hx1⟩ := nx_in (sg := sg) (n := n) (k := i + 1) (by omega)
      obtain ⟨D2, q2, p2, v2, s2, g2, f2⟩ := m_oneT (pl := 0) p1 k1 (by omega) (by omega) ho (by omega)
      obtain ⟨D', r1, r2, r3, r4, r5⟩ := m_fin0 (v := nI c) p2 ho
      refine ⟨D', run _ (bn_i q2 r1), (f1.tr f2).tr r5, Or.inr ⟨i + 1 + 1, by omega, by omega, r2, ?_, Or.inl ⟨by rw [r3, c99]; rfl, by omega, by omega, by rw [← hx1]; exact k1, ?_⟩⟩⟩
      · rw [hA, AF_yes (by omega) (by omega) (aB_9 k1) (by omega), AF_e (by omega) (by omega) (Or.inl rfl)]
      · rw [r4, ← hx1]; exact v2
    · have p2 : Ps (sI D1 731 11 (nI 1)) sg n (i + 1) 1 o := p1.wr 1
      obtain ⟨D', r1, r2⟩ := r_bad (v := nI c) (D := D) (D2 := D) (by omega) (hA.trans (AF_no (by omega) (by omega) (aB_k (by omega) k1))) p2 (f1.tr (Pf.i (by omega)))
      exact ⟨D', run _ (bn_i (m_oneF (lo := 65) (hi := 80) p1 (by omega) k1 (by omega) (by omega)) r1), r2⟩
  · rw [if_neg (show ¬ nI c = 99 from ne 99 (by omega) c99)] at run
    by_cases c100 : c = 100
    · obtain ⟨hin, hx⟩ := nx_in (sg := sg) (n := n) (k := i) (by omega)
      have hA : AF sg n i 4 = AF sg n (i + 1) 10 := AF_yes hi (by omega) (by rw [← ec]; exact aB_c4 (Or.inr (Or.inl ⟨c100, rfl⟩))) (by omega)
      rw [if_pos (show nI c = 100 by rw [c100]; rfl)] at run
      obtain ⟨D2, D', r1, r2, r3, r4⟩ := m_num p1 (by omega) ho (nI c) (by rw [c100]; rfl) (i0 := i) rfl (by omega) hA
      exact ⟨D', run _ (bn_i r1 r2), f1.tr r3, r4⟩
    · rw [if_neg (show ¬ nI c = 100 from ne 100 (by omega) c100)] at run
      by_cases c102 : c = 102
      · obtain ⟨hin, hx⟩ := nx_in (sg := sg) (n := n) (k := i) (by omega)
        have hA : AF sg n i 4 = AF sg n (i + 1) 6 := AF_yes hi (by omega) (by rw [← ec]; exact aB_c4 (Or.inr (Or.inr (Or.inl ⟨c102, rfl⟩)))) (by omega)
        rw [if_pos (show nI c = 102 by rw [c102]; rfl)] at run
        by_cases k1 : Kc (nx sg n (i + 1))
        · obtain ⟨hin1, hx1⟩ := nx_in (sg := sg) (n := n) (k := i + 1) (by omega)
          obtain ⟨D2, q2, p2, v2, s2, g2, f2⟩ := m_oneT (pl := 0) p1 k1 (by omega) (by omega) ho (by omega)
          have hA2 : AF sg n i 4 = AF sg n (i + 1 + 1) 7 := hA.trans (AF_yes (by omega) (by omega) (aB_6 k1) (by omega))
          by_cases k2 : 49 ≤ nx sg n (i + 1 + 1) ∧ nx sg n (i + 1 + 1) ≤ 57
          · obtain ⟨hin2, hx2⟩ := nx_in (sg := sg) (n := n) (k := i + 1 + 1) (by omega)
            obtain ⟨D3, q3, p3, v3, s3, g3, f3⟩ := m_oneT (pl := 1) p2 k2 (by omega) (by omega) ho (by omega)
            obtain ⟨D', r1, r2, r3, r4, r5⟩ := m_fin0 (v := nI c) p3 ho
            refine ⟨D', run _ (bn_i q2 (bn_i q3 r1)), ((f1.tr f2).tr f3).tr r5, Or.inr ⟨i + 1 + 1 + 1, by omega, by omega, r2, ?_, Or.inr (Or.inl ⟨by rw [r3, c102]; rfl, by omega, by omega, by rw [← hx1]; exact k1, by rw [← hx2]; exact k2, ?_, ?_⟩)⟩⟩
            · rw [hA2, AF_yes (by omega) (by omega) (by rw [aB_7, if_pos k2]) (by omega), AF_e (by omega) (by omega) (Or.inl rfl)]
            · rw [r4, s3 _ (by omega), ← hx1]; exact v2
            · rw [r4, ← hx2]; exact v3
          · have p3 : Ps (sI D2 731 11 (nI 1)) sg n (i + 1 + 1) 1 o := p2.wr 1
            obtain ⟨D', r1, r2⟩ := r_bad (v := nI c) (D := D) (D2 := D) (by omega) (hA2.trans (AF_no (by omega) (by omega) (by rw [aB_7, if_neg k2]))) p3 ((f1.tr f2).tr (Pf.i (by omega)))
            exact ⟨D', run _ (bn_i q2 (bn_i (m_oneF (lo := 49) (hi := 57) p2 (by omega) k2 (by omega) (by omega)) r1)), r2⟩
        · have p2 : Ps (sI D1 731 11 (nI 1)) sg n (i + 1) 1 o := p1.wr 1
          obtain ⟨D', r1, r2⟩ := r_bad (v := nI c) (D := D) (D2 := D) (by omega) (hA.trans (AF_no (by omega) (by omega) (aB_k (by omega) k1))) (p2.wr 1) ((f1.tr (Pf.i (by omega))).tr (Pf.i (by omega)))
          exact ⟨D', run _ (bn_i (m_oneF (lo := 65) (hi := 80) p1 (by omega) k1 (by omega) (by omega)) (bn_i (m_oneW p2) r1)), r2⟩
      · rw [if_neg (show ¬ nI c = 102 from ne 102 (by omega) c102)] at run
        by_cases c115 : c = 115
        · obtain ⟨hin, hx⟩ := nx_in (sg := sg) (n := n) (k := i) (by omega)
          have hA : AF sg n i 4 = AF sg n (i + 1) 8 := AF_yes hi (by omega) (by rw [← ec]; exact aB_c4 (Or.inr (Or.inr (Or.inr (Or.inl ⟨c115, rfl⟩))))) (by omega)
          rw [if_pos (show nI c = 115 by rw [c115]; rfl)] at run
          by_cases k1 : Kc (nx sg n (i + 1))
          · obtain ⟨hin1, hx1⟩ := nx_in (sg := sg) (n := n) (k := i + 1) (by omega)
            obtain ⟨D2, q2, p2, v2, s2, g2, f2⟩ := m_oneT (pl := 0) p1 k1 (by omega) (by omega) ho (by omega)
            have hA2 : AF sg n i 4 = AF sg n (i + 1 + 1) 9 := hA.trans (AF_yes (by omega) (by omega) (aB_8 k1) (by omega))
            by_cases k2 : Kc (nx sg n (i + 1 + 1))
            · obtain ⟨hin2, hx2⟩ := nx_in (sg := sg) (n := n) (k := i + 1 + 1) (by omega)
              obtain ⟨D3, q3, p3, v3, s3, g3, f3⟩ := m_oneT (pl := 1) p2 k2 (by omega) (by omega) ho (by omega)
              obtain ⟨D', r1, r2, r3, r4, r5⟩ := m_fin0 (v := nI c) p3 ho
              refine ⟨D', run _ (bn_i q2 (bn_i q3 r1)), ((f1.tr f2).tr f3).tr r5, Or.inr ⟨i + 1 + 1 + 1, by omega, by omega, r2, ?_, Or.inr (Or.inr (Or.inl ⟨by rw [r3, c115]; rfl, by omega, by omega, by rw [← hx1]; exact k1, by rw [← hx2]; exact k2, ?_, ?_⟩))⟩⟩
              · rw [hA2, AF_yes (by omega) (by omega) (aB_9 k2) (by omega), AF_e (by omega) (by omega) (Or.inl rfl)]
              · rw [r4, s3 _ (by omega), ← hx1]; exact v2
              · rw [r4, ← hx2]; exact v3
            · have p3 : Ps (sI D2 731 11 (nI 1)) sg n (i + 1 + 1) 1 o := p2.wr 1
              obtain ⟨D', r1, r2⟩ := r_bad (v := nI c) (D := D) (D2 := D) (by omega) (hA2.trans (AF_no (by omega) (by omega) (aB_k (by omega) k2))) p3 ((f1.tr f2).tr (Pf.i (by omega)))
              exact ⟨D', run _ (bn_i q2 (bn_i (m_oneF (lo := 65) (hi := 80) p2 (by omega) k2 (by omega) (by omega)) r1)), r2⟩
          · have p2 : Ps (sI D1 731 11 (nI 1)) sg n (i + 1) 1 o := p1.wr 1
            obtain ⟨D', r1, r2⟩ := r_bad (v := nI c) (D := D) (D2 := D) (by omega) (hA.trans (AF_no (by omega) (by omega) (aB_k (by omega) k1))) (p2.wr 1) ((f1.tr (Pf.i (by omega))).tr (Pf.i (by omega)))
            exact ⟨D', run _ (bn_i (m_oneF (lo := 65) (hi := 80) p1 (by omega) k1 (by omega) (by omega)) (bn_i (m_oneW p2) r1)), r2⟩
        · rw [if_neg (show ¬ nI c = 115 from ne 115 (by omega) c115)] at run
          by_cases c119 : c = 119
          · obtain ⟨hin, hx⟩ := nx_in (sg := sg) (n := n) (k := i) (by omega)
            have hA : AF sg n i 4 = AF sg n (i + 1) 5 := AF_yes hi (by omega) (by rw [← ec]; exact aB_c4 (Or.inr (Or.inr (Or.inr (Or.inr ⟨c119, rfl⟩))))) (by omega)
            rw [if_pos (show nI c = 119 by rw [c119]; rfl)] at run
            by_cases k1 : Kc (nx sg n (i + 1))
            · obtain ⟨hin1, hx1⟩ := nx_in (sg := sg) (n := n) (k := i + 1) (by omega)
              obtain ⟨D2, q2, p2, v2, s2, g2, f2⟩ := m_oneT (pl := 0) p1 k1 (by omega) (by omega) ho (by omega)
              have hA2 : AF sg n i 4 = AF sg n (i + 1 + 1) 3 := hA.trans (AF_yes (by omega) (by omega) (aB_5 k1) (by omega))
              obtain ⟨D3, m, q3, m3, mn, p3, y1, y2, y3, y4, y5, f3⟩ := m_wl (sg := sg) (n := n) ho 3 1 FU (i + 1 + 1) D2 (by omega) (by omega) (by unfold FU; omega) (by omega) p2
              obtain ⟨D', r1, r2, r3, r4, r5⟩ := m_fin0 (v := nI c) p3 ho
              have hw : fX7_takeWishes D1 = some D3 := bn_i q2 q3
              have gx : ∀ q, q < m → nx sg n (i + 1 + 1 + q) = sg (i + 2 + q) := fun q hq => by
                obtain ⟨g, -⟩ := y1 q hq
                have := (nx_in (sg := sg) (n := n) (k := i + 1 + 1 + q) (by omega)).2
                rw [this, show i + 1 + 1 + q = i + 2 + q by omega]
              have hA3 : AF sg n (i + 1 + 1) 3 = AF sg n (i + 1 + 1 + m) (3 - m) := by
                match m, m3, y1 with
                | 0, _, _ => rfl
                | 1, _, y1 => exact AF_g (by omega) (by omega) (y1 0 (by omega)).1
                | 2, _, y1 => exact (AF_g (by omega) (by omega) (y1 0 (by omega)).1).trans (AF_g (by omega) (by omega) (y1 1 (by omega)).1)
                | 3, _, y1 => exact ((AF_g (by omega) (by omega) (y1 0 (by omega)).1).trans (AF_g (by omega) (by omega) (y1 1 (by omega)).1)).trans (AF_g (by omega) (by omega) (y1 2 (by omega)).1)
                | m + 4, h, _ => exact absurd h (by omega)
              have wv : ∀ q, q < 3 → D3.1 739 (4 * o + 1 + q) = if q < m then nI (sg (i + 2 + q) - 48) else -6 := fun q hq => by
                by_cases z : q < m
                · rw [if_pos z, (y1 q z).2, gx q z]
                · rw [if_neg z, y2 q (by omega) hq]
              refine ⟨D', run _ (bn_i hw r1), ((f1.tr f2).tr f3).tr r5, Or.inr ⟨i + 1 + 1 + m, by omega, by omega, r2, ?_, Or.inr (Or.inr (Or.inr (Or.inl ⟨by rw [r3, c119]; rfl, by omega, by rw [← hx1]; exact k1, ?_, m, m3, by omega, fun q hq => ?_, ?_, ?_, ?_⟩)))⟩⟩
              · rw [hA2, hA3]
                refine AF_e (by omega) (by omega) ?_
                by_cases z : m < 3
                · exact Or.inr (y3 z)
                · exact Or.inl (by omega)
              · rw [r4, y4 _ (by omega), ← hx1]; exact v2
              · rw [← gx q hq]; exact (y1 q hq).1
              · rw [r4]; exact wv 0 (by omega)
              · rw [r4]; exact wv 1 (by omega)
              · rw [r4]; exact wv 2 (by omega)
            · have p2 : Ps (sI D1 731 11 (nI 1)) sg n (i + 1) 1 o := p1.wr 1
              obtain ⟨D3, q3, p3, f3⟩ := m_wlW (sg := sg) (n := n) (i := i + 1) ho 3 1 FU (sI D1 731 11 (nI 1)) (by omega) (by omega) (by unfold FU; omega) p2
              obtain ⟨D', r1, r2⟩ := r_bad (v := nI c) (D := D) (D2 := D) (by omega) (hA.trans (AF_no (by omega) (by omega) (aB_k (by omega) k1))) p3 ((f1.tr (Pf.i (by omega))).tr f3)
              have hw : fX7_takeWishes D1 = some D3 := bn_i (m_oneF (lo := 65) (hi := 80) p1 (by omega) k1 (by omega) (by omega)) q3
              exact ⟨D', run _ (bn_i hw r1), r2⟩
          · rw [if_neg (show ¬ nI c = 119 from ne 119 (by omega) c119)] at run
            have e2 : nI (i + 1) - 1 = nI i := nI_pred i
            have p2 : Ps (sI (sI D1 731 10 (nI i)) 731 11 (nI 1)) sg n i 1 o := (p1.spot i).wr 1
            have h4 : aB 4 c = 11 := by
              unfold aB
              rw [if_pos rfl, if_neg c99, if_neg c100, if_neg c102, if_neg c115, if_neg c119]
            obtain ⟨D', r1, r2⟩ := r_bad (v := nI c) (D := D) (D2 := D) hi (AF_no hi (by omega) (by rw [← ec]; exact h4)) p2 ((f1.tr (Pf.i (by omega))).tr (Pf.i (by omega)))
            refine ⟨D', run _ ?_, r2⟩
            rw [e2]
            exact lt_i (lt_i r1)
