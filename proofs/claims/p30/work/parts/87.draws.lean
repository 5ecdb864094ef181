/-! SIM: a day: the lots, the loop -/
theorem lots_x {x : Nat} (hx : x ≤ 65536) : ((75 * nI x) + 74) - ((75 * nI x) + 74) / 65537 * 65537 = nI ((75 * x + 74) % 65537) := by
  have e : (75 * nI x) + 74 = nI (75 * x + 74) := mulI 75 x 74
  rw [e]
  exact pk_rem (d := 65537) (by omega) (by decide) (by decide)
set_option maxHeartbeats 4000000 in
theorem z_drawl {a P K W T : Nat} {N : Nat → Nat} : ∀ (m : Nat) (n n' p : Nat) (tv ord : Nat → Nat) (C D : mm_M), sm (pos tv) 0 K = m → m < n → m + 1 < n' → Dr C a (D.1 732) P K W T N tv ord p → ∃ C' D' ord' p' tv', fX1_drawLots_12 a n C (nI (sm tv 0 K)) (nI p) = some C' ∧ fX7_drawAll_4 n' D (nI p) true = some D' ∧ Dr C' a (D'.1 732) P K W T N tv' ord' p' ∧ (∀ i, i < K → tv' i = 0) ∧ FrC C C' a ∧ FrD D D' ∧ Kd D D' := by
  intro m
  induction m with
  | zero =>
    intro n n' p tv ord C D hm hn hn' d
    obtain ⟨n, rfl⟩ : ∃ q, n = q + 1 := ⟨n - 1, by omega⟩
    obtain ⟨n', rfl⟩ : ∃ q, n' = q + 1 + 1 := ⟨n' - 2, by omega⟩
    have z : ∀ i, i < K → tv i = 0 := fun i hi => by
      have h := sm_z hm (k := i) (by omega) (by omega)
      rcases Nat.eq_zero_or_pos (tv i) with q | q
      · exact q
      · rw [pos_1 q] at h; omega
    have s0 : sm tv 0 K = 0 := by
      rcases Nat.eq_zero_or_pos (sm tv 0 K) with q | q
      · exact q
      · obtain ⟨k, h1, h2, h3⟩ := sm_p K 0 q
        have := z k (by omega)
        omega
    refine ⟨C, D, ord, p, tv, ?_, ?_, d, z, FrC.rf _ _, FrD.rf _, Kd.rf _⟩
    · rw [fX1_drawLots_12, s0]
      exact if_pi (Int32.le_refl _) rfl
    · rw [fX7_drawAll_4]
      refine if_pi rfl ?_
      have h := m_13 d (fX7_drawAll_4 (n' + 1)) (nI p) K 0 FU 0 (by omega) (by have := d.1.bd.lK; unfold FU; omega) (by omega)
      rw [s0] at h
      refine Eq.trans h ?_
      unfold fX7_drawAll_62
      refine if_ni (by decide) ?_
      rw [fX7_drawAll_4]
      exact if_ni (by decide) rfl
  | succ m ih =>
    intro n n' p tv ord C D hm hn hn' d
    obtain ⟨n, rfl⟩ : ∃ q, n = q + 1 := ⟨n - 1, by omega⟩
    obtain ⟨n', rfl⟩ : ∃ q, n' = q + 1 := ⟨n' - 1, by omega⟩
    have dd := d
    obtain ⟨S, d2, d3, d4, d5, d6, d7, d8⟩ := d
    have lK := S.bd.lK
    have lP := S.bd.lP
    obtain ⟨i0, -, hi0, hp0⟩ := sm_p (g := pos tv) K 0 (by omega)
    have ti0 : 0 < tv i0 := by
      unfold pos at hp0
      by_cases q : 0 < tv i0
      · exact q
      · rw [if_neg q] at hp0; omega
    have hpK : p < K := by omega
    obtain ⟨tot, et⟩ : ∃ tot, tot = sm tv 0 K := ⟨_, rfl⟩
    have tot0 : 0 < tot := by
      have := sm_mem tv (k := i0) K 0 (by omega) (by omega)
      omega
    have totb : tot ≤ 320 := by
      have h := sm_le (g := fun k => if k < K then tv k else 0) (B := 20) (fun k => by
        show (if k < K then tv k else 0) ≤ 20
        by_cases q : k < K
        · rw [if_pos q]; exact (d2 k q).2
        · rw [if_neg q]; omega) K 0
      rw [sm_ext (g := tv) (g' := fun k => if k < K then tv k else 0) K 0 (fun k h1 h2 => if_pos (show k < K by omega))] at h
      omega
    obtain ⟨x, hx, ex⟩ := (S.val 11).sd rfl
    obtain ⟨y, ey⟩ : ∃ y, y = (75 * x + 74) % 65537 := ⟨_, rfl⟩
    have hy : y ≤ 65536 := by omega
    obtain ⟨t, eT⟩ : ∃ t, t = y % tot := ⟨_, rfl⟩
    have htt : t < tot := by rw [eT]; exact Nat.mod_lt _ tot0
    have c11 : C.1 a 1 = nI x := (S.hd (k := 1) (by omega)).trans ex
    obtain ⟨C1, e1⟩ : ∃ X, X = sI C a 1 (nI y) := ⟨_, rfl⟩
    obtain ⟨D1, f1⟩ : ∃ X, X = sI D 732 11 (nI y) := ⟨_, rfl⟩
    have hrow : ∀ s, s ≠ 11 → D1.1 732 s = D.1 732 s := fun s hs => by rw [f1, sI_row, up_ne hs]
    have hC16 : C1.1 (a + 6) = C.1 (a + 6) := by rw [e1, sI_ap1, if_neg (by omega)]
    have hC13 : C1.1 a 3 = nI K := by
      rw [e1, sI_ap1, if_pos rfl]
      exact (if_neg (by omega)).trans S.cK
    have remt : nI y - nI y / nI tot * nI tot = nI t := by rw [eT]; exact pk_rem (by omega) tot0 (by omega)
    obtain ⟨c, hc, tc, q1, q2⟩ := z_hold dd hC16 hC13 hrow (x := t) (by omega) (x1 := nI tot) K 0 FU FU 0 (by omega) (by unfold FU; omega) (by unfold FU; omega) (by omega) (by omega)
    rw [Nat.sub_zero] at q2
    obtain ⟨ct, cb⟩ := d2 c hc
    obtain ⟨g10, g13, g14, g19, gt⟩ := d4 c hc tc
    obtain ⟨C2, e2⟩ : ∃ X, X = sI C1 (a + 6) c 0 := ⟨_, rfl⟩
    obtain ⟨C3, e3⟩ : ∃ X, X = sI C2 (a + 7) p (nI c) := ⟨_, rfl⟩
    obtain ⟨C4, e4⟩ : ∃ X, X = sI C3 a 14 (nI (p + 1)) := ⟨_, rfl⟩
    obtain ⟨C5, e5⟩ : ∃ X, X = sI C4 (a + 18 + 3 * c) 11 (nI p) := ⟨_, rfl⟩
    obtain ⟨D2, f2⟩ : ∃ X, X = sI D1 732 (72 + 20 * c + 14) (nI p) := ⟨_, rfl⟩
    have S5 : Sim (okU tv) C5 a (D2.1 732) P K W T N := by
      rw [e5, e4, e3, e2, e1, f2, sI_row, f1, sI_row]
      exact ((((S.up (Or.inl ⟨rfl, by omega, rfl⟩) (Ok_11 hy)).un 0 (Or.inl rfl)).un (nI c) (Or.inr (Or.inl rfl))).un (nI (p + 1)) (Or.inr (Or.inr ⟨rfl, by omega⟩))).up (Lk_c (k := 11) hc (by omega) (fun q => absurd q (by omega))) (Ok_free S.bd0 (t := 14) (by omega) (by omega))
    have k5c : ∀ i, i < K → ∀ k, k ≠ 11 → C5.1 (a + 18 + 3 * i) k = C.1 (a + 18 + 3 * i) k := fun i hi k hk => by
      have h4 : C4.1 (a + 18 + 3 * i) = C.1 (a + 18 + 3 * i) := by
        rw [e4, sI_ap1, if_neg (by omega), e3, sI_ap1, if_neg (by omega), e2, sI_ap1, if_neg (by omega), e1, sI_ap1, if_neg (by omega)]
      rw [e5, sI_ap1]
      by_cases e : a + 18 + 3 * i = a + 18 + 3 * c
      · rw [if_pos e]
        show (if k = 11 then nI p else C4.1 (a + 18 + 3 * i) k) = _
        rw [if_neg hk, h4]
      · rw [if_neg e, h4]
    have k56 : ∀ i, C5.1 (a + 6) i = if i = c then 0 else C.1 (a + 6) i := fun i => by
      rw [e5, sI_ap1, if_neg (by omega), e4, sI_ap1, if_neg (by omega), e3, sI_ap1, if_neg (by omega), e2, sI_ap1, if_pos rfl, hC16]
    have k57 : ∀ q, C5.1 (a + 7) q = if q = p then nI c else C.1 (a + 7) q := fun q => by
      have h2 : C2.1 (a + 7) = C.1 (a + 7) := by rw [e2, sI_ap1, if_neg (by omega), e1, sI_ap1, if_neg (by omega)]
      rw [e5, sI_ap1, if_neg (by omega), e4, sI_ap1, if_neg (by omega), e3, sI_ap1, if_pos rfl, h2]
    have k5a : C5.1 a 14 = nI (p + 1) := by
      rw [e5, sI_ap1, if_neg (by omega), e4, sI_ap1, if_pos rfl]
      exact if_pos rfl
    have k53 : C5.1 a 3 = nI K := S5.cK
    have r2 : ∀ s, s ≠ 11 → s ≠ 72 + 20 * c + 14 → D2.1 732 s = D.1 732 s := fun s h1 h2 => by rw [f2, sI_row, up_ne h2, hrow s h1]
    obtain ⟨C6, D3, s1, s2, S6, F⟩ := z_choose S5 hc (by rw [k5c c hc 10 (by omega)]; exact g10) (by rw [r2 _ (by omega) (by omega)]; exact g13)
    obtain ⟨fC, fD, fK, ⟨ka, k6, k7⟩, kr, kw, k0⟩ := F
    have w3 : ∀ i t, i < 16 → t < 20 → t ≠ 11 → (t ≠ 13 ∨ i ≠ c) → (t ≠ 14 ∨ i ≠ c) → D3.1 732 (72 + 20 * i + t) = D.1 732 (72 + 20 * i + t) := fun i t hi ht h1 h2 h3 => by
      rw [kw i t hi ht h1 h2, r2 _ (by omega) (by omega)]
    have w314 : D3.1 732 (72 + 20 * c + 14) = nI p := by
      rw [kw c 14 (by omega) (by omega) (by omega) (by omega), f2, sI_row, up_eq]
    have hsum : sm (u0 tv c) 0 K + tv c = tot := by rw [et]; exact sm_u0 tv K 0 (by omega) (by omega)
    have hpos : sm (pos (u0 tv c)) 0 K + 1 = sm (pos tv) 0 K := by
      have h := sm_u0 (pos tv) (c := c) K 0 (by omega) (by omega)
      rw [pos_1 tc] at h
      rw [pos_u0]
      exact h
    have u0c : u0 tv c c = 0 := if_pos rfl
    have u0n : ∀ i, i ≠ c → u0 tv c i = tv i := fun i hi => if_neg hi
    have ocp : ∀ q, q < p → ord q ≠ c := fun q hq e => by
      obtain ⟨-, h14, -⟩ := d6 q hq
      rw [e, g14] at h14
      exact nI_pos (n := q) (by omega) (by rw [← h14]; decide)
    have tkeq : ∀ i, i < K → tkl (D3.1 732) i = tkl (D.1 732) i := fun i hi => by
      unfold tkl
      rw [k0, r2 0 (by omega) (by omega), w3 i 6 (by omega) (by omega) (by omega) (by omega) (by omega)]
    have d' : Dr C6 a (D3.1 732) P K W T N (u0 tv c) (fun q => if q = p then c else ord q) (p + 1) := by
      refine ⟨S6, fun i hi => ?_, ?_, fun i hi ht => ?_, fun i hi ht => ?_, fun q hq => ?_, fun i hi => ?_, by omega⟩
      · rw [k6, k56]
        by_cases e : i = c
        · rw [if_pos e, e, u0c]; exact ⟨rfl, by omega⟩
        · rw [if_neg e, u0n i e]; exact d2 i hi
      · rw [ka]; exact k5a
      · have e : i ≠ c := fun q => by rw [q, u0c] at ht; omega
        rw [u0n i e] at ht ⊢
        obtain ⟨x1, x2, x3, x4, x5⟩ := d4 i hi ht
        refine ⟨?_, ?_, ?_, ?_, ?_⟩
        · rw [kr i (by omega) e, k5c i hi 10 (by omega)]; exact x1
        · rw [w3 i 13 (by omega) (by omega) (by omega) (by omega) (by omega)]; exact x2
        · rw [w3 i 14 (by omega) (by omega) (by omega) (by omega) (by omega)]; exact x3
        · rw [w3 i 19 (by omega) (by omega) (by omega) (by omega) (by omega)]; exact x4
        · rw [tkeq i hi]; exact x5
      · by_cases e : i = c
        · refine Or.inr ⟨?_, p, by omega, ?_, ?_⟩
          · rw [e, w3 c 19 (by omega) (by omega) (by omega) (by omega) (by omega)]; exact g19
          · rw [e]; exact w314
          · show (if p = p then c else ord p) = i
            rw [if_pos rfl, e]
        · rw [u0n i e] at ht
          rcases d5 i hi ht with ⟨x1, x2⟩ | ⟨x1, q, hq, x2, x3⟩
          · refine Or.inl ⟨?_, ?_⟩
            · rw [w3 i 19 (by omega) (by omega) (by omega) (by omega) (by omega)]; exact x1
            · rw [w3 i 14 (by omega) (by omega) (by omega) (by omega) (by omega)]; exact x2
          · refine Or.inr ⟨?_, q, by omega, ?_, ?_⟩
            · rw [w3 i 19 (by omega) (by omega) (by omega) (by omega) (by omega)]; exact x1
            · rw [w3 i 14 (by omega) (by omega) (by omega) (by omega) (by omega)]; exact x2
            · show (if q = p then c else ord q) = i
              rw [if_neg (by omega)]; exact x3
      · by_cases e : q = p
        · subst e
          have e9 : (fun z => if z = q then c else ord z) q = c := if_pos rfl
          rw [e9, k7, k57, if_pos rfl]
          exact ⟨hc, w314, rfl⟩
        · have e9 : (fun z => if z = p then c else ord z) q = ord q := if_neg e
          obtain ⟨x1, x2, x3⟩ := d6 q (by omega)
          have hne := ocp q (by omega)
          rw [e9, k7, k57, if_neg e]
          refine ⟨x1, ?_, x3⟩
          rw [w3 _ 14 (by omega) (by omega) (by omega) (by omega) (by omega)]
          exact x2
      · rw [w3 i 12 (by omega) (by omega) (by omega) (by omega) (by omega)]
        exact d7 i hi
    obtain ⟨C', D', ord', p', tv', i1, i2, i3, i4, i5, i6, i7⟩ := ih n n' (p + 1) (u0 tv c) (fun q => if q = p then c else ord q) C6 D3 (by omega) (by omega) (by omega) d'
    have hcC : fX5_hasCart C1 a (nI c) = some true := by
      unfold fX5_hasCart
      rw [hC13]
      exact if_ni (nI_pos (by omega)) (if_ni (nI_ge hc (by omega)) (if_ni (show ¬ nI 16 ≤ nI c from nI_ge (by omega) (by decide)) rfl))
    have fr5 : FrC C C5 a := by
      rw [e5, e4, e3, e2, e1]
      exact ((((FrC.w (by omega)).tr (FrC.w (by omega))).tr (FrC.w (by omega))).tr (FrC.w (by omega))).tr (FrC.w (by omega))
    have fd2 : FrD D D2 := by rw [f2, f1]; exact FrD.w.tr FrD.w
    have fk2 : Kd D D2 := by rw [f2, f1]; exact (Kd.o (by omega)).tr (Kd.w (by omega) (by omega))
    refine ⟨C', D', ord', p', tv', ?_, ?_, i3, i4, (fr5.tr fC).tr i5, (fd2.tr fD).tr i6, (fk2.tr fK).tr i7⟩
    · rw [fX1_drawLots_12, ← et, S.cK, c11]
      refine if_ni (nI_nle tot0 (by omega)) (if_ni (nI_ge hpK (by omega)) ?_)
      rw [lots_x hx, ← ey, ← e1]
      refine lt_i (gd_i (nI_ne0 tot0 (by omega)) ?_)
      rw [show C1.1 a 1 = nI y by rw [e1, sI_ap1, if_pos rfl]; exact if_pos rfl, remt]
      refine bn_i q1 (bn_i hcC (if_pi rfl (gd_i (ix_nI (n := 16) (by omega) (by decide)) ?_)))
      rw [nI_clamp (by omega), hC16, ct, pk_sub (show tv c ≤ tot by omega), ← e2, show tot - tv c = sm (u0 tv c) 0 K by omega]
      refine lt_i (lt_i (gd_i (ix_nI (n := 16) (by omega) (by decide)) ?_))
      rw [nI_clamp (by omega), ← e3, nI_1]
      refine lt_i ?_
      rw [← e4]
      refine lt_i ?_
      rw [← e5]
      refine lt_i (bn_i s1 (lt_i ?_))
      exact i1
    · rw [fX7_drawAll_4]
      refine if_pi rfl ?_
      have h := m_13 dd (fX7_drawAll_4 n') (nI p) K 0 FU 0 (by omega) (by unfold FU; omega) (by omega)
      rw [Nat.zero_add, ← et, decide_eq_true tot0] at h
      refine Eq.trans h ?_
      unfold fX7_drawAll_62
      refine if_pi rfl (bn2_i (a := nI c) (b := D1) ?_ ?_)
      · unfold fX7_drawOne
        rw [ex, lots_x hx, ← ey, ← f1]
        refine lt_i (gd_i (nI_ne0 tot0 (by omega)) ?_)
        rw [show D1.1 732 11 = nI y by rw [f1, sI_row, up_eq], remt]
        exact lt_i q2
      · refine bn_i (lay_i (k := 14) (nI p) (by omega) (by omega)) ?_
        rw [← f2, nI_1]
        exact lt_i (bn_i s2 i2)
