/-! SIM: texts: the fault; the orders that were read -/
def Lst (D : mm_M) (sg : Nat → Nat) (n m : Nat) (b e : Nat → Nat) : Prop := b 0 = 0 ∧ ∀ k, k < m → OrdOk sg (b k) (e k) (D.1 738 k) (D.1 739 (4 * k)) (D.1 739 (4 * k + 1)) (D.1 739 (4 * k + 2)) (D.1 739 (4 * k + 3)) ∧ e k ≤ n ∧ b k + 2 ≤ e k ∧ b (k + 1) = e k + 1 ∧ (k + 1 < m → e k < n ∧ sg (e k) = 59)
theorem Lst.of {D D' : mm_M} {sg : Nat → Nat} {n m : Nat} {b e : Nat → Nat} (h : Lst D sg n m b e) (f : Pf D D' m) : Lst D' sg n m b e := by
  refine ⟨h.1, fun k hk => ?_⟩
  rw [f.2.2.1 k hk, f.2.2.2.1 _ (by omega), f.2.2.2.1 _ (by omega), f.2.2.2.1 _ (by omega), f.2.2.2.1 _ (by omega)]
  exact h.2 k hk
theorem Lst.snoc {D : mm_M} {sg : Nat → Nat} {n m e' : Nat} {b e : Nat → Nat} (h : Lst D sg n m b e) (hm : 0 < m) (he : e (m - 1) < n ∧ sg (e (m - 1)) = 59) (o : OrdOk sg (b m) e' (D.1 738 m) (D.1 739 (4 * m)) (D.1 739 (4 * m + 1)) (D.1 739 (4 * m + 2)) (D.1 739 (4 * m + 3))) (h1 : e' ≤ n) (h2 : b m + 2 ≤ e') : Lst D sg n (m + 1) (fun k => if k = m + 1 then e' + 1 else b k) (fun k => if k = m then e' else e k) := by
  refine ⟨(if_neg (by omega)).trans h.1, fun k hk => ?_⟩
  by_cases c : k = m
  · subst c
    simp only [if_pos, if_neg (show ¬ k = k + 1 by omega)]
    exact ⟨o, h1, h2, trivial, fun z => by omega⟩
  · obtain ⟨g1, g2, g3, g4, g5⟩ := h.2 k (by omega)
    simp only [if_neg c, if_neg (show ¬ k = m + 1 by omega), if_neg (show ¬ k + 1 = m + 1 by omega)]
    refine ⟨g1, g2, g3, g4, fun z => ?_⟩
    by_cases c2 : k + 1 < m
    · exact g5 c2
    · rw [show k = m - 1 by omega]
      exact he
theorem m_19w {D : mm_M} {sg : Nat → Nat} {n e o f : Nat} (p : Ps D sg n e 1 o) : fX7_fault_19 (f + 1) D = some (nI e, D) := by
  rw [fX7_fault_19, p.2.2.1]
  refine if_ni (by decide) ?_
  unfold fX7_fault_79
  rw [p.2.2.1, p.2.1]
  exact if_ni (by decide) rfl
theorem m_fl {sg : Nat → Nat} {n : Nat} : ∀ (d o f : Nat) (D : mm_M) (b e : Nat → Nat), n - e o ≤ d → d + 2 ≤ f → Ps D sg n (e o) 0 (o + 1) → Lst D sg n (o + 1) b e → e o ≤ n → 3 * (o + 1) ≤ e o + 1 → ∃ D' r, fX7_fault_19 f D = some (r, D') ∧ r = EF sg n (e o) ∧ Pf D D' 0 ∧ (¬ r < 0 ∨ ∃ o' b' e', Lst D' sg n (o' + 1) b' e' ∧ e' o' = n ∧ D'.1 731 12 = nI (o' + 1) ∧ o' ≤ 26) := by
  intro d
  induction d with
  | zero =>
    intro o f D b e hd hf p L he h3
    obtain ⟨f, rfl⟩ : ∃ q, f = q + 1 := ⟨f - 1, by omega⟩
    have hn := p.2.2.2.2.2.1
    refine ⟨D, -6, ?_, by unfold EF; rw [if_neg (by omega)], Pf.rf _ _, Or.inr ⟨o, b, e, L, by omega, p.2.2.2.1, by omega⟩⟩
    rw [fX7_fault_19, p.2.2.1, p.1, p.2.1]
    refine if_pi rfl (if_pi (nI_le (by omega) (by omega)) ?_)
    unfold fX7_fault_79
    rw [p.2.2.1]
    exact if_pi rfl rfl
  | succ d ih =>
    intro o f D b e hd hf p L he h3
    obtain ⟨f, rfl⟩ : ∃ q, f = q + 1 + 1 := ⟨f - 2, by omega⟩
    have hn := p.2.2.2.2.2.1
    by_cases c : e o < n
    · have hx : nx sg n (e o) = sg (e o) := if_pos c
      have hl := p.2.2.2.2.2.2 (e o) c
      have run : ∀ r, (if nI (sg (e o)) = 59 then fX7_fault_52 (fX7_fault_19 (f + 1)) D false else fX7_fault_52 (fX7_fault_19 (f + 1)) D true) = r → fX7_fault_19 (f + 1 + 1) D = r := fun r hr => by
        rw [fX7_fault_19, p.2.2.1, p.1, p.2.1]
        refine if_pi rfl (if_ni (nI_ge c (by omega)) (bn_i (m_next p he) ?_))
        rw [hx]
        exact hr
      by_cases c2 : sg (e o) = 59
      · rw [if_pos (show nI (sg (e o)) = 59 by rw [c2]; rfl)] at run
        obtain ⟨D1, e1⟩ : ∃ X, X = sI D 731 11 (nI 0) := ⟨_, rfl⟩
        have p1 : Ps D1 sg n (e o) 0 (o + 1) := by rw [e1]; exact p.wr 0
        obtain ⟨D2, e2⟩ : ∃ X, X = sI D1 731 10 (nI (e o + 1)) := ⟨_, rfl⟩
        have p2 : Ps D2 sg n (e o + 1) 0 (o + 1) := by rw [e2]; exact p1.spot _
        have f2 : Pf D D2 (o + 1) := by rw [e2, e1]; exact (Pf.i (by omega)).tr (Pf.i (by omega))
        obtain ⟨D3, q3, f3, q4⟩ := m_order p2 (by omega) (by omega)
        have run2 : fX7_fault_19 (f + 1 + 1) D = fX7_fault_19 (f + 1) D3 := run _ (by
          unfold fX7_fault_52
          rw [show b2i false = nI 0 from rfl, ← e1]
          refine lt_i ?_
          rw [p1.2.2.1, p1.2.1, nI_1, ← e2]
          exact if_pi rfl (lt_i (bn_i q3 rfl)))
        have eE : EF sg n (e o) = AF sg n (e o + 1) 4 := by
          unfold EF
          rw [if_pos c, if_pos c2]
        rcases q4 with ⟨x, hx1, px, hA⟩ | ⟨x, hx1, hx2, px, hA, ox⟩
        · refine ⟨D3, nI x, run2.trans (m_19w px), by rw [eE, hA], (f2.tr f3).le (by omega), Or.inl (nI_pos (by omega))⟩
        · have hb : b (o + 1) = e o + 1 := (L.2 o (by omega)).2.2.2.1
          have L' := Lst.snoc (L.of (f2.tr f3)) (by omega) (e' := x) ⟨by rw [show o + 1 - 1 = o by omega]; exact c, by rw [show o + 1 - 1 = o by omega]; exact c2⟩ (by rw [hb]; exact ox) hx1 (by omega)
          obtain ⟨E, hE⟩ : ∃ E : Nat → Nat, E = fun k => if k = o + 1 then x else e k := ⟨_, rfl⟩
          rw [← hE] at L'
          have ex : E (o + 1) = x := by rw [hE]; exact if_pos rfl
          obtain ⟨D', r, r1, r2, r3, r4⟩ := ih (o + 1) (f + 1) D3 _ E (by rw [ex]; omega) (by omega) (by rw [ex]; exact px) L' (by rw [ex]; exact hx1) (by rw [ex]; omega)
          refine ⟨D', r, run2.trans r1, ?_, ((f2.tr f3).le (by omega)).tr r3, r4⟩
          rw [r2, ex, eE, hA]
      · rw [if_neg (show ¬ nI (sg (e o)) = 59 from fun q => c2 ((nI_eq (b := 59) (by omega) (by omega)).mp q))] at run
        have p1 : Ps (sI D 731 11 (nI 1)) sg n (e o) 1 (o + 1) := p.wr 1
        refine ⟨sI D 731 11 (nI 1), nI (e o), run _ ?_, ?_, Pf.i (by omega), Or.inl (nI_pos (by omega))⟩
        · unfold fX7_fault_52
          refine lt_i ?_
          rw [show b2i true = nI 1 from rfl, p1.2.2.1]
          exact if_ni (by decide) (m_19w p1)
        · unfold EF
          rw [if_pos c, if_neg c2]
    · refine ⟨D, -6, ?_, by unfold EF; rw [if_neg (by omega)], Pf.rf _ _, Or.inr ⟨o, b, e, L, by omega, p.2.2.2.1, by omega⟩⟩
      rw [fX7_fault_19, p.2.2.1, p.1, p.2.1]
      refine if_pi rfl (if_pi (nI_le (by omega) (by omega)) ?_)
      unfold fX7_fault_79
      rw [p.2.2.1]
      exact if_pi rfl rfl
theorem m_fault1 {D : mm_M} {sg : Nat → Nat} {n : Nat} (hn : n ≤ 80) (h7 : D.1 731 7 = nI n) (hs : ∀ k, k < n → D.1 737 k = nI (sg k)) (hb : ∀ k, k < n → 33 ≤ sg k ∧ sg k ≤ 126) : ∃ D' r, fX7_fault D = some (r, D') ∧ r = AF sg n 0 4 ∧ Pf D D' 0 ∧ (¬ r < 0 ∨ ∃ o' b' e', Lst D' sg n (o' + 1) b' e' ∧ e' o' = n ∧ D'.1 731 12 = nI (o' + 1) ∧ o' ≤ 26) := by
  obtain ⟨D1, e1⟩ : ∃ X, X = sI (sI (sI D 731 10 (nI 0)) 731 11 (nI 0)) 731 12 (nI 0) := ⟨_, rfl⟩
  have p1 : Ps D1 sg n 0 0 0 := by
    rw [e1]
    refine ⟨?_, ?_, ?_, ?_, fun k hk => ?_, hn, hb⟩
    · rw [r7, if_neg (by omega), r7, if_neg (by omega), r7, if_neg (by omega)]; exact h7
    · rw [r7, if_neg (by omega), r7, if_neg (by omega), r7, if_pos rfl]
    · rw [r7, if_neg (by omega), r7, if_pos rfl]
    · rw [r7, if_pos rfl]
    · rw [sI_ap1, if_neg (by omega), sI_ap1, if_neg (by omega), sI_ap1, if_neg (by omega)]; exact hs k hk
  have f1 : Pf D D1 0 := by rw [e1]; exact ((Pf.i (by omega)).tr (Pf.i (by omega))).tr (Pf.i (by omega))
  obtain ⟨D2, q2, f2, q4⟩ := m_order p1 (by omega) (by omega)
  have run : fX7_fault D = fX7_fault_19 FU D2 := by
    unfold fX7_fault
    refine lt_i (lt_i ?_)
    refine lt_i ?_
    show bn (fX7_takeOrder (sI (sI (sI D 731 10 (nI 0)) 731 11 (nI 0)) 731 12 (nI 0))) _ = _
    rw [← e1]
    exact bn_i q2 (Eq.refl _)
  rcases q4 with ⟨x, hx1, px, hA⟩ | ⟨x, hx1, hx2, px, hA, ox⟩
  · obtain ⟨f, hf⟩ : ∃ f, FU = f + 1 := ⟨999999, rfl⟩
    refine ⟨D2, nI x, run.trans (by rw [hf]; exact m_19w px), hA.symm, f1.tr f2, Or.inl (nI_pos (by omega))⟩
  · have L : Lst D2 sg n (0 + 1) (fun k => if k = 0 then 0 else x + 1) (fun _ => x) := ⟨rfl, fun k hk => by
      have k0 : k = 0 := by omega
      subst k0
      exact ⟨ox, hx1, hx2, rfl, fun z => by omega⟩⟩
    obtain ⟨D', r, r1, r2, r3, r4⟩ := m_fl (n - x) 0 FU D2 _ (fun _ => x) (Nat.le_refl _) (by unfold FU; omega) px L hx1 (by show 3 * (0 + 1) ≤ x + 1; omega)
    exact ⟨D', r, run.trans r1, by rw [r2, hA], (f1.tr f2).tr r3, r4⟩
/-- what reading leaves of both -/
theorem z_readG {T0 : Nat} {C D D' : mm_M} (G : Gl T0 C D) (f : Pf D D' 0) : Out T0 C D C D' := by
  obtain ⟨b, h, H⟩ := G.hist
  obtain ⟨f1, f2, -, -, f5⟩ := f
  refine ⟨⟨G.live.congr (fun k _ => by rw [f1 732 (by omega) (by omega) (by omega)]), ⟨b, h, H.frameD (f2 2 (by omega) (by omega) (by omega)) (f1 733 (by omega) (by omega) (by omega))⟩, G.sav.frameD (f1 734 (by omega) (by omega) (by omega)) (f1 735 (by omega) (by omega) (by omega)), ?_⟩, fun _ _ => rfl, fun o ho => ⟨f1 o (by omega) (by omega) (by omega), by rw [f5]⟩⟩
  obtain ⟨n, hn, h1, h2, h3⟩ := G.pad
  exact ⟨n, hn, h1, by rw [f2 7 (by omega) (by omega) (by omega)]; exact h2, fun i hi => by rw [f1 737 (by omega) (by omega) (by omega)]; exact h3 i hi⟩
theorem pad_s {C D : mm_M} (h : Pad C D) : ∃ n sg, PdC C sg n ∧ D.1 731 7 = nI n ∧ ∀ k, k < n → D.1 737 k = nI (sg k) := by
  obtain ⟨n, hn, h1, h2, h3⟩ := h
  have hh : ∀ k, ∃ c, k < n → 33 ≤ c ∧ c ≤ 126 ∧ C.1 730 k = nI c ∧ D.1 737 k = nI c := fun k => by
    by_cases c : k < n
    · obtain ⟨v, hv⟩ := h3 k c
      exact ⟨v, fun _ => hv⟩
    · exact ⟨0, fun q => absurd q c⟩
  exact ⟨n, fun k => (hh k).choose, ⟨hn, h1, fun i hi => ((hh i).choose_spec hi).2.2.1, fun i hi => ⟨((hh i).choose_spec hi).1, ((hh i).choose_spec hi).2.1⟩⟩, h2, fun k hk => ((hh k).choose_spec hk).2.2.2⟩
def TwF (T0 : Nat) (f : mm_M → Option Int32) (g : mm_M → Option (Int32 × mm_M)) : Prop := ∀ C D, Gl T0 C D → ∃ r D', f C = some r ∧ g D = some (r, D') ∧ Out T0 C D C D'
theorem z_fault {T0 : Nat} : TwF T0 fX6_fault fX7_fault := by
  intro C D G
  obtain ⟨n, sg, pC, h7, hs⟩ := pad_s G.pad
  obtain ⟨D', r, r1, r2, r3, -⟩ := m_fault1 pC.1 h7 hs pC.2.2.2
  refine ⟨r, D', ?_, r1, z_readG G r3⟩
  rw [r2]
  exact bn_i (q_findF pC) rfl
