/-! SIM: texts: carryOut, the loop and the call -/
theorem FF_of (sg : Nat → Nat) (n : Nat) : ∀ d i st, i + d = n → FF sg n d i st = -6 ∨ ∃ j, j ≤ n ∧ FF sg n d i st = nI j
  | 0, i, st => fun h => by
    show (if 3 < st then nI n else -6) = -6 ∨ ∃ j, j ≤ n ∧ (if 3 < st then nI n else -6) = nI j
    by_cases c : 3 < st
    · rw [if_pos c]; exact Or.inr ⟨n, by omega, rfl⟩
    · rw [if_neg c]; exact Or.inl rfl
  | d + 1, i, st => fun h => by
    show (if aB st (sg i) = 11 then nI i else FF sg n d (i + 1) (aB st (sg i))) = -6 ∨ ∃ j, j ≤ n ∧ (if aB st (sg i) = 11 then nI i else FF sg n d (i + 1) (aB st (sg i))) = nI j
    by_cases c : aB st (sg i) = 11
    · rw [if_pos c]; exact Or.inr ⟨i, by omega, rfl⟩
    · rw [if_neg c]; exact FF_of sg n d (i + 1) _ (by omega)
theorem AF_of (sg : Nat → Nat) (n : Nat) : AF sg n 0 4 = -6 ∨ ∃ j, j ≤ n ∧ AF sg n 0 4 = nI j := by
  unfold AF
  rw [Nat.sub_zero]
  exact FF_of sg n n 0 4 (by omega)
theorem PdC.of {C C' : mm_M} {sg : Nat → Nat} {n : Nat} (p : PdC C sg n) (h : ∀ o, 729 ≤ o → o < 731 → C'.1 o = C.1 o) : PdC C' sg n := ⟨p.1, by rw [h 729 (by omega) (by omega)]; exact p.2.1, fun i hi => by rw [h 730 (by omega) (by omega)]; exact p.2.2.1 i hi, p.2.2.2⟩
theorem q_ends {C : mm_M} {sg : Nat → Nat} {n q : Nat} (p : PdC C sg n) (hq : q ≤ n) : fX3_endsOrder C 729 (nI q) = some (decide (q = n ∨ sg q = 59)) := by
  have p1 := p.1
  unfold fX3_endsOrder
  rw [p.2.1]
  by_cases c : q = n
  · rw [decide_eq_true (show q = n ∨ sg q = 59 from Or.inl c)]
    exact if_pi (by rw [c]) rfl
  · have hs := p.2.2.2 q (by omega)
    refine if_ni (fun z => c ((nI_eq (by omega) (by omega)).mp z)) (bn_i (q_sign p (by omega)) ?_)
    rw [show nx sg n q = sg q from if_pos (by omega)]
    by_cases c2 : sg q = 59
    · rw [decide_eq_true (show q = n ∨ sg q = 59 from Or.inr c2)]
      exact if_pi (by rw [c2]; rfl) rfl
    · rw [decide_eq_false (show ¬ (q = n ∨ sg q = 59) by omega)]
      exact if_ni (fun z => c2 ((nI_eq (b := 59) (by omega) (by omega)).mp z)) rfl
theorem q_skip {C : mm_M} {sg : Nat → Nat} {n e : Nat} (p : PdC C sg n) (he : e ≤ n) (v1 v2 : Int32) : ∀ (t q f : Nat), q + t = e → (∀ x, q ≤ x → x < e → sg x ≠ 59) → fX6_carryOut_32 (f + t) C v1 v2 (nI q) = fX6_carryOut_32 f C v1 v2 (nI e) := by
  intro t
  induction t with
  | zero =>
    intro q f hq h
    rw [show q = e by omega, Nat.add_zero]
  | succ t ih =>
    intro q f hq h
    have p1 := p.1
    have e1 := q_ends p (show q ≤ n by omega)
    rw [decide_eq_false (show ¬ (q = n ∨ sg q = 59) from fun z => z.elim (fun z => by omega) (h q (Nat.le_refl _) (by omega)))] at e1
    rw [show f + (t + 1) = f + t + 1 by omega, fX6_carryOut_32, p.2.1]
    refine if_ni (nI_nlt (by omega) (by omega)) (bn_i e1 (if_ni (by decide) (lt_i ?_)))
    rw [nI_1]
    exact ih (q + 1) f (by omega) (fun x h1 h2 => h x (by omega) h2)
set_option maxHeartbeats 1000000 in
theorem z_col {sg b e : Nat → Nat} {n m : Nat} (hm : m ≤ 27) (hm0 : 0 < m) (hen : e (m - 1) = n) : ∀ (d k f f' T1 : Nat) (C D : mm_M), k + d = m → n + 2 ≤ f + b k → d < f' → T1 + 60 * d < 2 ^ 30 → SimX C 1 (D.1 732) T1 → PdC C sg n → Lst D sg n m b e → D.1 731 12 = nI m → ∃ r C' D', fX6_carryOut_32 f C (nI k) (nI (b k)) (nI (b k)) = fX6_carryOut_82 C' (nI r) ∧ fX7_carryOut_16 f' D (nI k) = some (nI r, sI D' 731 7 0) ∧ SimX C' 1 (D'.1 732) (T1 + 60 * d) ∧ FrC C C' 1 ∧ FrD D D' ∧ r ≤ m := by
  intro d
  induction d with
  | zero =>
    intro k f f' T1 C D hk hf hf' hT S p L h12
    have p1 := p.1
    have hb : b k = n + 1 := by
      obtain ⟨-, -, -, h4, -⟩ := L.2 (m - 1) (by omega)
      rw [show k = m - 1 + 1 by omega, h4, hen]
    obtain ⟨f, rfl⟩ : ∃ q, f = q + 1 := ⟨f - 1, by omega⟩
    obtain ⟨f', rfl⟩ : ∃ q, f' = q + 1 := ⟨f' - 1, by omega⟩
    refine ⟨k, C, D, ?_, ?_, S, FrC.rf _ _, FrD.rf _, by omega⟩
    · rw [fX6_carryOut_32, p.2.1, hb]
      exact if_pi (nI_lt (by omega) (by omega)) rfl
    · rw [fX7_carryOut_16, h12]
      exact if_pi (nI_le (by omega) (by omega)) rfl
  | succ d ih =>
    intro k f f' T1 C D hk hf hf' hT S p L h12
    have p1 := p.1
    have hkm : k < m := by omega
    obtain ⟨O, g2, g3, g4, g5⟩ := L.2 k hkm
    have hend : e k = n ∨ sg (e k) = 59 := by
      by_cases c : k + 1 < m
      · exact Or.inr (g5 c).2
      · exact Or.inl (by rw [show k = m - 1 by omega]; exact hen)
    obtain ⟨f, rfl⟩ : ∃ q, f = q + 1 + (e k - b k) := ⟨f - 1 - (e k - b k), by omega⟩
    obtain ⟨f', rfl⟩ : ∃ q, f' = q + 1 := ⟨f' - 1, by omega⟩
    have hs := q_skip p g2 (nI k) (nI (b k)) (e k - b k) (b k) (f + 1) (by omega) (Ord59 O)
    have e1 := q_ends p g2
    rw [decide_eq_true hend] at e1
    obtain ⟨op, g, hC, q1, q2⟩ := z_perf (T0 := T1) (by omega) p (show k ≤ 26 by omega) g2 g3 O
    have cl : ∀ r, (bn2 (op C) fun r6 M7 => if 0 ≤ r6 then fX6_carryOut_32 f M7 (nI (k + 1)) (nI (e k + 1)) (nI (e k + 1)) else fX6_carryOut_82 M7 (nI k)) = r → fX6_carryOut_32 (f + 1 + (e k - b k)) C (nI k) (nI (b k)) (nI (b k)) = r := fun r hr => by
      rw [hs, fX6_carryOut_32, p.2.1]
      refine if_ni (nI_nlt (by omega) (by omega)) (bn_i e1 (if_pi rfl ?_))
      rw [q1, nI_1, nI_1]
      exact hr
    have ml : ∀ r, (bn2 (g D false) fun r4 M5 => if r4 < 0 then lt (sI M5 731 7 0) fun M7 => some (nI k, M7) else fX7_carryOut_16 f' M5 (nI (k + 1))) = r → fX7_carryOut_16 (f' + 1) D (nI k) = r := fun r hr => by
      rw [fX7_carryOut_16, h12]
      refine if_ni (nI_ge hkm (by omega)) ?_
      rw [q2, nI_1]
      exact hr
    obtain ⟨P, K, W, T, N, ht, S0⟩ := S
    rcases hC C D P K W T N ht S0 with ⟨r, hr, z1, z2⟩ | ⟨r, C2, hr, z1, z2, z3⟩
    · refine ⟨k, C, D, cl _ (bn2_i z1 (if_ni (fun z => Int32.not_le.mpr hr z) rfl)), ml _ (bn2_i (z2 false) (if_pi hr rfl)), ⟨P, K, W, T, N, by omega, S0⟩, FrC.rf _ _, FrD.rf _, by omega⟩
    · obtain ⟨D2, y1, y2, y3⟩ := z3 false D rfl (kIf_f D)
      have p2 : PdC C2 sg n := p.of (fun o h1 h2 => (z2 o (by omega)).1)
      have L2 : Lst D2 sg n m b e := ⟨L.1, fun j hj => by
        rw [y2.oth 738 (by omega) (by omega), y2.oth 739 (by omega) (by omega)]
        exact L.2 j hj⟩
      obtain ⟨r', C', D', x1, x2, x3, x4, x5, x6⟩ := ih (k + 1) f f' (T1 + 60) C2 D2 (by omega) (by omega) (by omega) (by omega) y3 p2 L2 (by rw [y2.own 12 (by omega)]; exact h12)
      rw [g4] at x1
      refine ⟨r', C', D', cl _ (bn2_i z1 (if_pi (Int32.not_lt.mp hr) x1)), ml _ (bn2_i y1 (if_ni hr x2)), ?_, z2.tr x4, y2.tr x5, x6⟩
      rw [show T1 + 60 * (d + 1) = T1 + 60 + 60 * d by omega]
      exact x3
theorem g_wipe {T0 : Nat} {C D : mm_M} (G : Gl T0 C D) : Gl T0 (sI C 729 1 0) (sI D 731 7 0) := by
  obtain ⟨r, C', D', e1, e2, O⟩ := z_wipe C D G
  have h1 : some (C.1 729 1, sI C 729 1 0) = some (r, C') := e1
  have h2 : some (D.1 731 7, sI D 731 7 0) = some (r, D') := e2
  have h3 : sI C 729 1 0 = C' := congrArg Prod.snd (Option.some.inj h1)
  have h4 : sI D 731 7 0 = D' := congrArg Prod.snd (Option.some.inj h2)
  rw [h3, h4]
  exact O.1
set_option maxHeartbeats 1000000 in
theorem z_carryOut {T0 : Nat} (hT0 : T0 + 2000 < 2 ^ 30) : Tw T0 (T0 + 2000) fX6_carryOut fX7_carryOut := by
  intro C D G
  obtain ⟨n, sg, pC, h7, hs⟩ := pad_s G.pad
  obtain ⟨D1, r, r1, r2, r3, r4⟩ := m_fault1 pC.1 h7 hs pC.2.2.2
  have hf : fX3_findFault C 729 = some r := by rw [r2]; exact q_findF pC
  have O1 := z_readG G r3
  by_cases c : r < 0
  · have r6 : r = -6 := by
      rcases AF_of sg n with h | ⟨j, hj, h⟩
      · rw [r2, h]
      · have := pC.1
        exact absurd (show nI j < 0 by rw [← h, ← r2]; exact c) (nI_pos (by omega))
    obtain ⟨o, b', e', L, hen, h12, ho⟩ := r4.elim (fun q => absurd c q) id
    have G1 := O1.1
    obtain ⟨b, h, H⟩ := G1.hist
    obtain ⟨C1, e1, G2, H2, hp, f1⟩ := g_prep G1 H
    have hm7 := Nat.mod_lt (b + h) (show 0 < 7 by omega)
    obtain ⟨D2, ek, kp⟩ := g_keep H2.lh H2.dh
    have d732 : D2.1 732 = D1.1 732 := kp.oth 732 (by omega) (by omega)
    have p1 : PdC C1 sg n := pC.of (fun o h1 h2 => (f1 o (by omega)).1)
    have L2 : Lst D2 sg n (o + 1) b' e' := ⟨L.1, fun j hj => by
      rw [kp.oth 738 (by omega) (by omega), kp.oth 739 (by omega) (by omega)]
      exact L.2 j hj⟩
    obtain ⟨v, C3, D3, x1, x2, x3, x4, x5, x6⟩ := z_col (m := o + 1) (by omega) (by omega) hen (o + 1) 0 FU FU T0 C1 D2 (by omega) (by have := pC.1; unfold FU; omega) (by unfold FU; omega) (by omega) (by rw [d732]; exact G2.live) p1 L2 (by rw [kp.own 12 (by omega)]; exact h12)
    rw [L.1] at x1
    have G3 := g_change (T1 := T0 + 2000) (by omega) G2 H2 hp x4 (x3.mono (by omega)) kp x5
    have G4 := g_wipe G3
    obtain ⟨X, eX⟩ : ∃ X, X = sI C3 729 1 0 := ⟨_, rfl⟩
    have c3 : ∀ o, o ≠ 729 → X.1 o = C3.1 o := fun o ho => by rw [eX, sI_ap1, if_neg ho]
    have hrc := g_rec (b := b) (h := h) (C := X) (r := nI v) (nI_pos (by omega)) H2.lb H2.lh (by rw [c3 133 (by omega), (x4 133 (by omega)).1]; exact H2.cb) (by rw [c3 133 (by omega), (x4 133 (by omega)).1]; exact H2.ch)
    obtain ⟨Y, eY⟩ : ∃ Y, Y = (if h = 6 then sI X 133 1 (nI ((b + 1) % 7)) else sI X 133 2 (nI (h + 1))) := ⟨_, rfl⟩
    rw [← eY] at hrc
    have eYG : Y = sI (if h = 6 then sI C3 133 1 (nI ((b + 1) % 7)) else sI C3 133 2 (nI (h + 1))) 729 1 0 := by
      rw [eY, eX]
      by_cases e : h = 6
      · rw [if_pos e, if_pos e]; exact sI_comm (by omega)
      · rw [if_neg e, if_neg e]; exact sI_comm (by omega)
    refine ⟨nI v, Y, sI D3 731 7 0, ?_, ?_, by rw [eYG]; exact G4, fun o ho => ?_, fun o ho => ⟨?_, ?_⟩⟩
    · unfold fX6_carryOut
      refine bn_i hf (if_pi r6 (bn_i e1 (Eq.trans x1 ?_)))
      unfold fX6_carryOut_82
      rw [← eX]
      exact lt_i (bn2_i hrc rfl)
    · exact bn2_i r1 (if_pi c (bn_i ek x2))
    · have hy : Y.1 o = X.1 o := by
        rw [eY]
        by_cases e : h = 6
        · rw [if_pos e, sI_ap1, if_neg (by omega)]
        · rw [if_neg e, sI_ap1, if_neg (by omega)]
      rw [hy, c3 o (by omega), (x4 o (by omega)).1, (f1 o (by omega)).1]
    · rw [sI_ap1, if_neg (by omega), x5.oth o (by omega) (by omega), kp.oth o (by omega) (by omega), r3.1 o (by omega) (by omega) (by omega)]
    · show D3.2 o = D.2 o
      rw [x5.lng, kp.lng, r3.2.2.2.2]
  · refine ⟨-3, C, D1, bn_i hf (if_ni (fun q => c (by rw [q]; decide)) rfl), bn2_i r1 (if_ni c rfl), O1.1.mono (by omega), O1.2.1, O1.2.2⟩
