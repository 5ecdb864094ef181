/-! SIM: texts: the reference reads an order -/
/-- the reference while it reads: n signs, at the spot i, wr: whether it is wrong, o orders so far -/
abbrev Ps (D : mm_M) (sg : Nat → Nat) (n i wr o : Nat) : Prop := D.1 731 7 = nI n ∧ D.1 731 10 = nI i ∧ D.1 731 11 = nI wr ∧ D.1 731 12 = nI o ∧ (∀ k, k < n → D.1 737 k = nI (sg k)) ∧ n ≤ 80 ∧ ∀ k, k < n → 33 ≤ sg k ∧ sg k ≤ 126
/-- only the reader's own is written, and of the orders those from o on -/
abbrev Pf (D D' : mm_M) (o : Nat) : Prop := (∀ x, x ≠ 731 → x ≠ 738 → x ≠ 739 → D'.1 x = D.1 x) ∧ (∀ k, k ≠ 10 → k ≠ 11 → k ≠ 12 → D'.1 731 k = D.1 731 k) ∧ (∀ k, k < o → D'.1 738 k = D.1 738 k) ∧ (∀ k, k < 4 * o → D'.1 739 k = D.1 739 k) ∧ D'.2 = D.2
theorem Pf.rf (D : mm_M) (o : Nat) : Pf D D o := ⟨fun _ _ _ _ => rfl, fun _ _ _ _ => rfl, fun _ _ => rfl, fun _ _ => rfl, rfl⟩
theorem Pf.tr {D D1 D2 : mm_M} {o : Nat} (h1 : Pf D D1 o) (h2 : Pf D1 D2 o) : Pf D D2 o := ⟨fun x a b c => (h2.1 x a b c).trans (h1.1 x a b c), fun k a b c => (h2.2.1 k a b c).trans (h1.2.1 k a b c), fun k hk => (h2.2.2.1 k hk).trans (h1.2.2.1 k hk), fun k hk => (h2.2.2.2.1 k hk).trans (h1.2.2.2.1 k hk), h2.2.2.2.2.trans h1.2.2.2.2⟩
theorem Pf.le {D D1 : mm_M} {o o' : Nat} (h : Pf D D1 o') (ho : o ≤ o') : Pf D D1 o := ⟨h.1, h.2.1, fun k hk => h.2.2.1 k (by omega), fun k hk => h.2.2.2.1 k (by omega), h.2.2.2.2⟩
theorem Pf.i {D : mm_M} {o k : Nat} {v : Int32} (h : k = 10 ∨ k = 11 ∨ k = 12) : Pf D (sI D 731 k v) o := ⟨fun x a b c => by rw [sI_ap1, if_neg a], fun j a b c => by rw [sI_ap1, if_pos rfl]; exact if_neg (by omega), fun j hj => by rw [sI_ap1, if_neg (by omega)], fun j hj => by rw [sI_ap1, if_neg (by omega)], rfl⟩
theorem Pf.n {D : mm_M} {o k : Nat} {v : Int32} (h : 4 * o ≤ k) : Pf D (sI D 739 k v) o := ⟨fun x a b c => by rw [sI_ap1, if_neg c], fun j a b c => by rw [sI_ap1, if_neg (by omega)], fun j hj => by rw [sI_ap1, if_neg (by omega)], fun j hj => by rw [sI_ap1, if_pos rfl]; exact if_neg (by omega), rfl⟩
theorem Pf.s {D : mm_M} {o k : Nat} {v : Int32} (h : o ≤ k) : Pf D (sI D 738 k v) o := ⟨fun x a b c => by rw [sI_ap1, if_neg b], fun j a b c => by rw [sI_ap1, if_neg (by omega)], fun j hj => by rw [sI_ap1, if_pos rfl]; exact if_neg (by omega), fun j hj => by rw [sI_ap1, if_neg (by omega)], rfl⟩
theorem r7 {D : mm_M} {k : Nat} {v : Int32} {j : Nat} : (sI D 731 k v).1 731 j = if j = k then v else D.1 731 j := by rw [sI_ap1, if_pos rfl]
theorem r7o {D : mm_M} {o k : Nat} {v : Int32} {j : Nat} (h : o ≠ 731) : (sI D o k v).1 731 j = D.1 731 j := by rw [sI_ap1, if_neg (by omega)]
theorem Ps.spot {D : mm_M} {sg : Nat → Nat} {n i wr o : Nat} (p : Ps D sg n i wr o) (i' : Nat) : Ps (sI D 731 10 (nI i')) sg n i' wr o := ⟨by rw [r7]; exact (if_neg (by omega)).trans p.1, by rw [r7]; exact if_pos rfl, by rw [r7]; exact (if_neg (by omega)).trans p.2.2.1, by rw [r7]; exact (if_neg (by omega)).trans p.2.2.2.1, fun k hk => by rw [sI_ap1, if_neg (by omega)]; exact p.2.2.2.2.1 k hk, p.2.2.2.2.2⟩
theorem Ps.wr {D : mm_M} {sg : Nat → Nat} {n i wr o : Nat} (p : Ps D sg n i wr o) (w : Nat) : Ps (sI D 731 11 (nI w)) sg n i w o := ⟨by rw [r7]; exact (if_neg (by omega)).trans p.1, by rw [r7]; exact (if_neg (by omega)).trans p.2.1, by rw [r7]; exact if_pos rfl, by rw [r7]; exact (if_neg (by omega)).trans p.2.2.2.1, fun k hk => by rw [sI_ap1, if_neg (by omega)]; exact p.2.2.2.2.1 k hk, p.2.2.2.2.2⟩
theorem Ps.ord {D : mm_M} {sg : Nat → Nat} {n i wr o : Nat} (p : Ps D sg n i wr o) (w : Nat) : Ps (sI D 731 12 (nI w)) sg n i wr w := ⟨by rw [r7]; exact (if_neg (by omega)).trans p.1, by rw [r7]; exact (if_neg (by omega)).trans p.2.1, by rw [r7]; exact (if_neg (by omega)).trans p.2.2.1, by rw [r7]; exact if_pos rfl, fun k hk => by rw [sI_ap1, if_neg (by omega)]; exact p.2.2.2.2.1 k hk, p.2.2.2.2.2⟩
theorem Ps.oth {D : mm_M} {sg : Nat → Nat} {n i wr o : Nat} (p : Ps D sg n i wr o) {x k : Nat} {v : Int32} (h : x = 738 ∨ x = 739) : Ps (sI D x k v) sg n i wr o := ⟨by rw [r7o (by omega)]; exact p.1, by rw [r7o (by omega)]; exact p.2.1, by rw [r7o (by omega)]; exact p.2.2.1, by rw [r7o (by omega)]; exact p.2.2.2.1, fun j hj => by rw [sI_ap1, if_neg (by omega)]; exact p.2.2.2.2.1 j hj, p.2.2.2.2.2⟩
theorem nx_le {D : mm_M} {sg : Nat → Nat} {n i wr o : Nat} (p : Ps D sg n i wr o) (k : Nat) : nx sg n k ≤ 126 := by
  unfold nx
  by_cases c : k < n
  · rw [if_pos c]; exact (p.2.2.2.2.2.2 k c).2
  · rw [if_neg c]; omega
theorem nx_in {sg : Nat → Nat} {n k : Nat} (h : 0 < nx sg n k) : k < n ∧ nx sg n k = sg k := by
  unfold nx at h ⊢
  by_cases c : k < n
  · rw [if_pos c]; exact ⟨c, rfl⟩
  · rw [if_neg c] at h; omega
theorem m_next {D : mm_M} {sg : Nat → Nat} {n i wr o : Nat} (p : Ps D sg n i wr o) (hi : i ≤ n) : fX7_next D = some (nI (nx sg n i)) := by
  obtain ⟨p1, p2, p3, p4, p5, p6, p7⟩ := p
  unfold fX7_next nx
  rw [p1, p2]
  by_cases c : i < n
  · rw [if_pos c]
    refine if_ni (nI_ge c (by omega)) (gd_i (ix_nI (n := 80) (by omega) (by decide)) ?_)
    rw [nI_clamp (by omega), p5 i c]
  · rw [if_neg c]
    exact if_pi (nI_le (by omega) (by omega)) rfl
theorem z_in (D : mm_M) {c lo hi : Nat} (h1 : c < 2 ^ 31) (h2 : lo < 2 ^ 31) (h3 : hi < 2 ^ 31) : fX7_in D (nI c) (nI lo) (nI hi) = some (decide (lo ≤ c ∧ c ≤ hi)) := by
  by_cases q1 : lo ≤ c
  · by_cases q2 : c ≤ hi
    · rw [decide_eq_true (And.intro q1 q2)]
      exact in_tt (nI_nlt q1 h1) (nI_nlt q2 h3)
    · rw [decide_eq_false (fun q : lo ≤ c ∧ c ≤ hi => q2 q.2)]
      exact in_hi (nI_lt (by omega) h1)
  · rw [decide_eq_false (fun q : lo ≤ c ∧ c ≤ hi => q1 q.1)]
    exact in_lo (nI_lt (by omega) h2)
theorem i4 (o pl : Nat) : (4 * nI o) + nI pl = nI (4 * o + pl) := mulI 4 o pl
theorem m_oneT {D : mm_M} {sg : Nat → Nat} {n i o pl lo hi : Nat} (p : Ps D sg n i 0 o) (h : lo ≤ nx sg n i ∧ nx sg n i ≤ hi) (hlo : 1 ≤ lo) (hh : hi < 2 ^ 31) (ho : o ≤ 26) (hpl : pl ≤ 3) : ∃ D', fX7_takeOne D (nI pl) (nI lo) (nI hi) = some D' ∧ Ps D' sg n (i + 1) 0 o ∧ D'.1 739 (4 * o + pl) = nI (nx sg n i - lo) ∧ (∀ s, s ≠ 4 * o + pl → D'.1 739 s = D.1 739 s) ∧ D'.1 738 = D.1 738 ∧ Pf D D' o := by
  have hl := nx_le p i
  obtain ⟨hin, -⟩ := nx_in (sg := sg) (n := n) (k := i) (by omega)
  obtain ⟨D1, e1⟩ : ∃ X, X = sI D 731 11 (nI 0) := ⟨_, rfl⟩
  have p1 : Ps D1 sg n i 0 o := by rw [e1]; exact p.wr 0
  obtain ⟨D2, e2⟩ : ∃ X, X = sI D1 739 (4 * o + pl) (nI (nx sg n i - lo)) := ⟨_, rfl⟩
  have p2 : Ps D2 sg n i 0 o := by rw [e2]; exact p1.oth (Or.inr rfl)
  refine ⟨sI D2 731 10 (nI (i + 1)), ?_, p2.spot _, ?_, fun s hs => ?_, ?_, ?_⟩
  · unfold fX7_takeOne
    rw [p.2.2.1]
    refine if_pi rfl (bn_i (m_next p (by omega)) (bn_i (z_in D (by omega) (by omega) hh) ?_))
    rw [decide_eq_true h]
    refine if_pi rfl ?_
    unfold fX7_takeOne_25
    rw [show b2i false = nI 0 from rfl, ← e1]
    refine lt_i ?_
    rw [p1.2.2.1]
    refine if_pi rfl (bn_i (m_next p1 (by omega)) ?_)
    rw [p1.2.2.2.1, i4, pk_sub h.1]
    refine gd_i (ix_nI (n := 116) (by omega) (by decide)) ?_
    rw [nI_clamp (by omega), ← e2]
    refine lt_i ?_
    rw [p2.2.1, nI_1]
    rfl
  · rw [sI_ap1, if_neg (by omega), e2, sI_ap1, if_pos rfl]; exact if_pos rfl
  · rw [sI_ap1, if_neg (by omega), e2, sI_ap1, if_pos rfl]
    refine (if_neg hs).trans ?_
    rw [e1, sI_ap1, if_neg (by omega)]
  · rw [sI_ap1, if_neg (by omega), e2, sI_ap1, if_neg (by omega), e1, sI_ap1, if_neg (by omega)]
  · rw [e2, e1]
    exact ((Pf.i (by omega)).tr (Pf.n (by omega))).tr (Pf.i (by omega))
theorem m_oneF {D : mm_M} {sg : Nat → Nat} {n i o lo hi : Nat} {x1 : Int32} (p : Ps D sg n i 0 o) (hi' : i ≤ n) (h : ¬ (lo ≤ nx sg n i ∧ nx sg n i ≤ hi)) (hlo : lo < 2 ^ 31) (hh : hi < 2 ^ 31) : fX7_takeOne D x1 (nI lo) (nI hi) = some (sI D 731 11 (nI 1)) := by
  have hl := nx_le p i
  unfold fX7_takeOne
  rw [p.2.2.1]
  refine if_pi rfl (bn_i (m_next p hi') (bn_i (z_in D (by omega) hlo hh) ?_))
  rw [decide_eq_false h]
  refine if_ni (by decide) ?_
  unfold fX7_takeOne_20 fX7_takeOne_25
  refine lt_i (if_ni ?_ rfl)
  rw [r7, if_pos rfl]
  decide
theorem m_oneW {D : mm_M} {sg : Nat → Nat} {n i o : Nat} {x1 x2 x3 : Int32} (p : Ps D sg n i 1 o) : fX7_takeOne D x1 x2 x3 = some (sI D 731 11 (nI 1)) := by
  unfold fX7_takeOne
  rw [p.2.2.1]
  refine if_ni (by decide) ?_
  unfold fX7_takeOne_20 fX7_takeOne_25
  refine lt_i (if_ni ?_ rfl)
  rw [r7, if_pos rfl]
  decide
theorem m_fin0 {D : mm_M} {sg : Nat → Nat} {n e o : Nat} {v : Int32} (p : Ps D sg n e 0 o) (ho : o ≤ 26) : ∃ D', fX7_takeOrder_151 D v = some D' ∧ Ps D' sg n e 0 (o + 1) ∧ D'.1 738 o = v ∧ D'.1 739 = D.1 739 ∧ Pf D D' o := by
  obtain ⟨D1, e1⟩ : ∃ X, X = sI D 738 o v := ⟨_, rfl⟩
  have p1 : Ps D1 sg n e 0 o := by rw [e1]; exact p.oth (Or.inl rfl)
  refine ⟨sI D1 731 12 (nI (o + 1)), ?_, p1.ord _, ?_, ?_, ?_⟩
  · unfold fX7_takeOrder_151
    rw [p.2.2.1, p.2.2.2.1]
    refine if_pi rfl (gd_i (ix_nI (n := 29) (by omega) (by decide)) ?_)
    rw [nI_clamp (by omega), ← e1]
    refine lt_i ?_
    rw [p1.2.2.2.1, nI_1]
    rfl
  · rw [sI_ap1, if_neg (by omega), e1, sI_ap1, if_pos rfl]; exact if_pos rfl
  · rw [sI_ap1, if_neg (by omega), e1, sI_ap1, if_neg (by omega)]
  · rw [e1]; exact (Pf.s (Nat.le_refl _)).tr (Pf.i (by omega))
theorem m_fin1 {D : mm_M} {sg : Nat → Nat} {n e o : Nat} {v : Int32} (p : Ps D sg n e 1 o) : fX7_takeOrder_151 D v = some D := by
  unfold fX7_takeOrder_151
  rw [p.2.2.1]
  exact if_ni (by decide) rfl
/-- the wishes' digits -/
theorem m_wl {sg : Nat → Nat} {n o : Nat} (ho : o ≤ 26) : ∀ (d t f i : Nat) (D : mm_M), t + d = 4 → 1 ≤ t → d < f → i ≤ n → Ps D sg n i 0 o → ∃ D' m, fX7_takeWishes_11 f D (nI t) = some D' ∧ m ≤ d ∧ i + m ≤ n ∧ Ps D' sg n (i + m) 0 o ∧ (∀ q, q < m → (48 ≤ nx sg n (i + q) ∧ nx sg n (i + q) ≤ 57) ∧ D'.1 739 (4 * o + t + q) = nI (nx sg n (i + q) - 48)) ∧ (∀ q, m ≤ q → q < d → D'.1 739 (4 * o + t + q) = -6) ∧ (m < d → ¬ (48 ≤ nx sg n (i + m) ∧ nx sg n (i + m) ≤ 57)) ∧ (∀ s, s < 4 * o + t → D'.1 739 s = D.1 739 s) ∧ D'.1 738 = D.1 738 ∧ Pf D D' o := by
  intro d
  induction d with
  | zero =>
    intro t f i D ht h1 hf hi p
    obtain ⟨f, rfl⟩ : ∃ q, f = q + 1 := ⟨f - 1, by omega⟩
    refine ⟨D, 0, ?_, by omega, hi, p, fun q hq => by omega, fun q h1 h2 => by omega, fun h => by omega, fun _ _ => rfl, rfl, Pf.rf _ _⟩
    rw [fX7_takeWishes_11]
    exact if_pi (show nI 3 < nI t from nI_lt (by omega) (by omega)) rfl
  | succ d ih =>
    intro t f i D ht h1 hf hi p
    obtain ⟨f, rfl⟩ : ∃ q, f = q + 1 := ⟨f - 1, by omega⟩
    have hl := nx_le p i
    obtain ⟨D1, e1⟩ : ∃ X, X = sI D 739 (4 * o + t) (-6) := ⟨_, rfl⟩
    have p1 : Ps D1 sg n i 0 o := by rw [e1]; exact p.oth (Or.inr rfl)
    have f1 : Pf D D1 o := by rw [e1]; exact Pf.n (by omega)
    have s1 : ∀ s, s ≠ 4 * o + t → D1.1 739 s = D.1 739 s := fun s hs => by rw [e1, sI_ap1, if_pos rfl]; exact if_neg hs
    have g1 : D1.1 738 = D.1 738 := by rw [e1, sI_ap1, if_neg (by omega)]
    have run : ∀ r, (if (decide (48 ≤ nx sg n i ∧ nx sg n i ≤ 57)) = true then (bn (fX7_takeOne D1 (nI t) 48 57) fun M13 => fX7_takeWishes_11 f M13 (nI (t + 1))) else fX7_takeWishes_11 f D1 (nI (t + 1))) = r → fX7_takeWishes_11 (f + 1) D (nI t) = r := fun r hr => by
      rw [fX7_takeWishes_11, p.2.2.2.1, i4]
      refine if_ni (show ¬ nI 3 < nI t from nI_nlt (by omega) (by omega)) (gd_i (ix_nI (n := 116) (by omega) (by decide)) ?_)
      rw [nI_clamp (by omega), ← e1]
      refine lt_i ?_
      rw [p1.2.2.1]
      refine if_pi rfl (bn_i (m_next p1 hi) (bn_i (z_in D1 (lo := 48) (hi := 57) (by omega) (by omega) (by omega)) ?_))
      rw [nI_1]
      exact hr
    by_cases c : 48 ≤ nx sg n i ∧ nx sg n i ≤ 57
    · obtain ⟨hin, -⟩ := nx_in (sg := sg) (n := n) (k := i) (by omega)
      obtain ⟨D2, q1, p2, v2, s2, g2, f2⟩ := m_oneT (pl := t) p1 c (by omega) (by omega) ho (by omega)
      obtain ⟨D', m, r1, r2, r3, r4, r5, r6, r7', r8, r9, r10⟩ := ih (t + 1) f (i + 1) D2 (by omega) (by omega) (by omega) (by omega) p2
      refine ⟨D', m + 1, run _ ?_, by omega, by omega, ?_, fun q hq => ?_, fun q h2 h3 => ?_, fun h => ?_, fun s hs => ?_, r9.trans (g2.trans g1), (f1.tr f2).tr r10⟩
      · rw [decide_eq_true c, if_pos rfl]
        exact bn_i q1 r1
      · rw [show i + (m + 1) = i + 1 + m by omega]; exact r4
      · by_cases e : q = 0
        · subst e
          refine ⟨c, ?_⟩
          rw [r8 _ (by omega)]
          exact v2
        · obtain ⟨z1, z2⟩ := r5 (q - 1) (by omega)
          rw [show i + 1 + (q - 1) = i + q by omega] at z1 z2
          rw [show 4 * o + (t + 1) + (q - 1) = 4 * o + t + q by omega] at z2
          exact ⟨z1, z2⟩
      · have z := r6 (q - 1) (by omega) (by omega)
        rw [show 4 * o + (t + 1) + (q - 1) = 4 * o + t + q by omega] at z
        exact z
      · have z := r7' (by omega)
        rw [show i + 1 + m = i + (m + 1) by omega] at z
        exact z
      · rw [r8 s (by omega), s2 s (by omega), s1 s (by omega)]
    · obtain ⟨D', m, r1, r2, r3, r4, r5, r6, r7', r8, r9, r10⟩ := ih (t + 1) f i D1 (by omega) (by omega) (by omega) hi p1
      have m0 : m = 0 := by
        rcases Nat.eq_zero_or_pos m with q | q
        · exact q
        · exact absurd (r5 0 q).1 c
      subst m0
      refine ⟨D', 0, run _ ?_, by omega, hi, r4, fun q hq => by omega, fun q h2 h3 => ?_, fun h => c, fun s hs => ?_, r9.trans g1, f1.tr r10⟩
      · rw [decide_eq_false c, if_neg (by decide)]
        exact r1
      · by_cases e : q = 0
        · subst e
          rw [r8 _ (by omega), e1, sI_ap1, if_pos rfl]
          exact if_pos rfl
        · have z := r6 (q - 1) (by omega) (by omega)
          rw [show 4 * o + (t + 1) + (q - 1) = 4 * o + t + q by omega] at z
          exact z
      · rw [r8 s (by omega), s1 s (by omega)]
theorem m_wlW {sg : Nat → Nat} {n o i : Nat} (ho : o ≤ 26) : ∀ (d t f : Nat) (D : mm_M), t + d = 4 → 1 ≤ t → d < f → Ps D sg n i 1 o → ∃ D', fX7_takeWishes_11 f D (nI t) = some D' ∧ Ps D' sg n i 1 o ∧ Pf D D' o := by
  intro d
  induction d with
  | zero =>
    intro t f D ht h1 hf p
    obtain ⟨f, rfl⟩ : ∃ q, f = q + 1 := ⟨f - 1, by omega⟩
    refine ⟨D, ?_, p, Pf.rf _ _⟩
    rw [fX7_takeWishes_11]
    exact if_pi (show nI 3 < nI t from nI_lt (by omega) (by omega)) rfl
  | succ d ih =>
    intro t f D ht h1 hf p
    obtain ⟨f, rfl⟩ : ∃ q, f = q + 1 := ⟨f - 1, by omega⟩
    obtain ⟨D1, e1⟩ : ∃ X, X = sI D 739 (4 * o + t) (-6) := ⟨_, rfl⟩
    have p1 : Ps D1 sg n i 1 o := by rw [e1]; exact p.oth (Or.inr rfl)
    have f1 : Pf D D1 o := by rw [e1]; exact Pf.n (by omega)
    obtain ⟨D', r1, r2, r3⟩ := ih (t + 1) f D1 (by omega) (by omega) (by omega) p1
    refine ⟨D', ?_, r2, f1.tr r3⟩
    rw [fX7_takeWishes_11, p.2.2.2.1, i4]
    refine if_ni (show ¬ nI 3 < nI t from nI_nlt (by omega) (by omega)) (gd_i (ix_nI (n := 116) (by omega) (by decide)) ?_)
    rw [nI_clamp (by omega), ← e1]
    refine lt_i ?_
    rw [p1.2.2.1]
    refine if_ni (by decide) (lt_i ?_)
    rw [nI_1]
    exact r1
