/-! p32: comes -/
theorem ab_day1 {T0 h n P K : Nat} {C : mm_M} {w : Nat → Int32} {tp : Nat → Nat → Int32} {sv : Nat → Option (Nat → Int32)} {sg : Nat → Nat} (A : Ab T0 C w h tp sv n sg) (hP : w 12 = nI P) (hK : w 13 = nI K) (lP : P < 100) (lK : K < 100) (hT9 : T0 + 60 < 26843) : ∃ C', fX6_days C 1 = some (w 10 + 1, C') ∧ Ab (T0 + 1) C' (dayR w) (hpp h) (psh w tp) sv n sg ∧ dayR w 12 = nI P ∧ dayR w 13 = nI K ∧ (∀ j, j < K → (dayR w (72 + 20 * j + 10) = if dayR w (72 + 20 * j + 11) = -6 then w (72 + 20 * j + 10) else w (72 + 20 * j + 10) + 1) ∧ nn (dayR w (72 + 20 * j + 11)) P ∧ fX6_ofCart C' (nI j) 12 = some (dayR w (72 + 20 * j + 11)) ∧ fX6_ofCart C' (nI j) 11 = some (dayR w (72 + 20 * j + 10))) := by
  obtain ⟨W, T, N, xS, hT, S⟩ := A.1.sim hP hK lP lK
  have hTT := hT.1
  have lT := S.bd.lT
  obtain ⟨C1, e1, A1⟩ := ab_chg (r := nI (T + 1)) (w2 := dayR w) (T1 := T0 + 1) (op := fun X => fX5_passDays X 1 (nI 1)) A hT S (nI_pos (by omega)) (by omega) (fun X SX => by
    obtain ⟨C2, xS2, a1, a2, a3, a4⟩ := s_days kT1 (by omega) hT SX (v := 1) (by omega) (by omega)
    exact ⟨C2, a1, a2, P, K, 0, _, N, xS2, a3, a4⟩)
  obtain ⟨C9, xS9, -, -, S9, -, cn, -⟩ := d_day kT1 S (by omega)
  obtain ⟨W1, T1, N1, xS1, hT1, S1⟩ := A1.1.sim S9.wP S9.wK lP lK
  refine ⟨C1, ?_, A1, S9.wP, S9.wK, fun j hj => ⟨cn j hj, (S9.val _).at_ j hj rfl, v_ofCart S1 hj (t := 12) (by omega), v_ofCart S1 hj (t := 11) (by omega)⟩⟩
  rw [S.wT, nI_1]
  exact e1
theorem ab_seed {T0 h n P K s : Nat} {C : mm_M} {w : Nat → Int32} {tp : Nat → Nat → Int32} {sv : Nat → Option (Nat → Int32)} {sg : Nat → Nat} (A : Ab T0 C w h tp sv n sg) (hP : w 12 = nI P) (hK : w 13 = nI K) (lP : P < 100) (lK : K < 100) (hs : s ≤ 65536) : ∃ C', fX6_seed C (nI s) = some (w 11, C') ∧ Ab T0 C' (up w 11 (nI s)) (hpp h) (psh w tp) sv n sg ∧ up w 11 (nI s) 12 = nI P ∧ up w 11 (nI s) 13 = nI K := by
  obtain ⟨W, T, N, xS, hT, S⟩ := A.1.sim hP hK lP lK
  obtain ⟨x0, hx0, ex0⟩ := (S.val 11).sd rfl
  obtain ⟨C1, e1, A1⟩ := ab_chg (r := w 11) (w2 := up w 11 (nI s)) (op := fun X => fX5_changeLots X 1 (nI s)) A hT S (by rw [ex0]; exact nI_pos (by omega)) (Nat.le_refl _) (fun X SX => by
    obtain ⟨C2, a1, a2, a3, a4⟩ := s_seed hT SX (v := s) hs
    exact ⟨C2, a1, a2, P, K, W, T, N, xS, a3, a4⟩)
  exact ⟨C1, e1, A1, by rw [up_ne (by omega)]; exact hP, by rw [up_ne (by omega)]; exact hK⟩
theorem l_lucky {T0 h n P K c s : Nat} {C : mm_M} {w : Nat → Int32} {tp : Nat → Nat → Int32} {sv : Nat → Option (Nat → Int32)} {sg : Nat → Nat} {y : Int32} (A : Ab T0 C w h tp sv n sg) (hP : w 12 = nI P) (hK : w 13 = nI K) (lP : P < 100) (lK : K < 100) (hT9 : T0 + 60 < 26843) (hc : c < K) (hs : s ≤ 65536) (hy : nn y P) : ∃ C' b w' h' tp', fL_lucky C (nI c) y (nI s) = some (b, C') ∧ (b = true ↔ lkP w c y s) ∧ Ab (T0 + 1) C' w' h' tp' sv n sg := by
  obtain ⟨C1, e1, A1, hP1, hK1⟩ := ab_seed A hP hK lP lK hs
  obtain ⟨C2, e2, A2, hP2, hK2, dd⟩ := ab_day1 A1 hP1 hK1 lP lK hT9
  obtain ⟨-, d2, d3, -⟩ := dd c hc
  have c12 : ∀ r, (if dayR (up w 11 (nI s)) (72 + 20 * c + 11) < 0 then some (false, C2) else if y < 0 then some (true, C2) else bn (fX6_ofCart C2 (nI c) 12) fun r12 => if r12 = y then some (true, C2) else some (false, C2)) = r → fL_lucky C (nI c) y (nI s) = r := fun r hr => by
    unfold fL_lucky
    exact bn2_i e1 (bn2_i e2 (bn_i d3 hr))
  rcases d2 with h6 | ⟨p, hp, h6⟩
  · refine ⟨C2, false, _, _, _, c12 _ (if_pi (by rw [h6]; decide) rfl), ⟨fun q => (by cases q), fun q => absurd h6 q.1⟩, A2⟩
  · have n0 : ¬ dayR (up w 11 (nI s)) (72 + 20 * c + 11) < 0 := by rw [h6]; exact nI_pos (by omega)
    have n6' : ¬ dayR (up w 11 (nI s)) (72 + 20 * c + 11) = -6 := by rw [h6]; exact n6 (by omega)
    rcases hy with h | ⟨q, hq, h⟩
    · refine ⟨C2, true, _, _, _, c12 _ (if_ni n0 (if_pi (by rw [h]; decide) rfl)), ⟨fun _ => ⟨n6', Or.inl h⟩, fun _ => rfl⟩, A2⟩
    · have y0 : ¬ y < 0 := by rw [h]; exact nI_pos (by omega)
      have y6 : ¬ y = -6 := by rw [h]; exact n6 (by omega)
      by_cases z : dayR (up w 11 (nI s)) (72 + 20 * c + 11) = y
      · exact ⟨C2, true, _, _, _, c12 _ (if_ni n0 (if_ni y0 (bn_i d3 (if_pi z rfl)))), ⟨fun _ => ⟨n6', Or.inr z⟩, fun _ => rfl⟩, A2⟩
      · exact ⟨C2, false, _, _, _, c12 _ (if_ni n0 (if_ni y0 (bn_i d3 (if_ni z rfl)))), ⟨fun q => (by cases q), fun q => q.2.elim (fun q => absurd q y6) (fun q => absurd q z)⟩, A2⟩
theorem fdF_of (c : Nat) : ∀ d i w, fdF c d i w = -6 ∨ ∃ s, i ≤ s ∧ s < i + d ∧ fdF c d i w = nI s
  | 0, i, w => Or.inl rfl
  | d + 1, i, w => by
    have ef : fdF c (d + 1) i w = if dayR w (72 + 20 * c + 11) = -6 then fdF c d (i + 1) (dayR w) else nI i := rfl
    rw [ef]
    by_cases q : dayR w (72 + 20 * c + 11) = -6
    · rw [if_pos q]
      rcases fdF_of c d (i + 1) (dayR w) with h | ⟨s, h1, h2, h3⟩
      · exact Or.inl h
      · exact Or.inr ⟨s, by omega, by omega, h3⟩
    · rw [if_neg q]
      exact Or.inr ⟨i, Nat.le_refl _, by omega, rfl⟩
/-- the last part: seeds that are not lucky -/
theorem co_389 {P K c : Nat} {w : Nat → Int32} {sv : Nat → Option (Nat → Int32)} {n : Nat} {sg : Nat → Nat} {p y v10 x : Int32} (hP : w 12 = nI P) (hK : w 13 = nI K) (lP : P < 100) (lK : K < 100) (hc : c < K) (hy : nn y P) (ey : ∀ M, ∃ r, fL_up M x 2 = some r ∧ (if r = 0 then y = -6 else y = p)) (hsv : sv 0 = some w) (hv : (v10 = -6 ∧ ∀ s, s < 200 → ¬ lkP w c y s) ∨ ∃ s, s < 200 ∧ v10 = nI s ∧ ∀ s', s' < s → ¬ lkP w c y s') : ∀ (d k f T0 h : Nat) (C : mm_M) (tp : Nat → Nat → Int32), k + d = 5 → d < f → T0 + d + 60 < 26843 → Ab T0 C w h tp sv n sg → ∃ C' h' tp', fL_comes_389 x f C (w 10) (nI c) p v10 (w 11) (nI k) = some (true, C') ∧ Ab (T0 + d) C' w h' tp' sv n sg := by
  intro d
  induction d with
  | zero =>
    intro k f T0 h C tp hk hf hT9 A
    obtain ⟨f, rfl⟩ : ∃ q, f = q + 1 := ⟨f - 1, by omega⟩
    have e : k = 5 := by omega
    subst e
    obtain ⟨W, T, N, xS, hT, S⟩ := A.1.sim hP hK lP lK
    have c3 : fX6_count C 3 = some (w 11) := v_count S (k := 3) (by omega) (by omega) (by omega)
    refine ⟨C, h, tp, ?_, A⟩
    rw [fL_comes_389]
    exact if_pi (by decide) (bn_i c3 (if_pi rfl rfl))
  | succ d ih =>
    intro k f T0 h C tp hk hf hT9 A
    obtain ⟨f, rfl⟩ : ∃ q, f = q + 1 := ⟨f - 1, by omega⟩
    have k5 : ¬ (5 : Int32) ≤ nI k := show ¬ nI 5 ≤ nI k from nI_ge (by omega) (by decide)
    -- a seed that is tried
    have one : ∀ s, s < 200 → ¬ lkP w c y s → ∃ C' h' tp', fL_comes_420 x (fL_comes_389 x f) C (w 10) (nI c) p v10 (w 11) (nI k) (nI s) = some (true, C') ∧ Ab (T0 + (d + 1)) C' w h' tp' sv n sg := by
      intro s hs hn
      obtain ⟨C1, b, w1, h1, tp1, e1, eb, A1⟩ := l_lucky (s := s) (y := y) A hP hK lP lK (by omega) hc (by omega) hy
      have bf : b = false := by
        cases b
        · rfl
        · exact absurd (eb.mp rfl) hn
      subst bf
      obtain ⟨C2, e2, A2⟩ := ab_rest (q := 0) (u := w) A1 (by omega) hsv
      obtain ⟨C3, h3, tp3, e3, A3⟩ := ih (k + 1) f (T0 + 1) _ C2 _ (by omega) (by omega) (by omega) A2
      have g454 : fL_comes_454 x (fL_comes_389 x f) C1 (w 10) (nI c) p v10 (w 11) (nI k) (nI s) = some (true, C3) := by
        unfold fL_comes_454
        refine if_ni (nI_pos (by omega)) (bn2_i e2 (if_pi rfl (lt_i ?_)))
        rw [nI_1]
        exact e3
      have g444 : fL_comes_444 x (fL_comes_389 x f) C (w 10) (nI c) p v10 (w 11) (nI k) (nI s) (nI c) y = some (true, C3) := by
        unfold fL_comes_444
        exact bn2_i e1 (if_ni (by decide) g454)
      refine ⟨C3, h3, tp3, ?_, by rw [show T0 + (d + 1) = T0 + 1 + d by omega]; exact A3⟩
      obtain ⟨r, er, ery⟩ := ey C
      unfold fL_comes_420
      refine if_ni (nI_pos (by omega)) (bn_i er ?_)
      by_cases z : r = 0
      · rw [if_pos z] at ery
        rw [ery] at g444
        exact if_pi z g444
      · rw [if_neg z] at ery
        rw [ery] at g444
        exact if_ni z g444
    rw [fL_comes_389, if_neg k5]
    rcases hv with ⟨v6, vn⟩ | ⟨s, hs, ev, vn⟩
    · obtain ⟨u, hu, eu⟩ := l_upA (x >>> (nI k &&& 31)) (m := 200) (by omega) (by omega)
      obtain ⟨C', h', tp', r1, r2⟩ := one u hu (vn u hu)
      exact ⟨C', h', tp', if_ni (by rw [v6]; decide) (bn_i (eu C) r1), r2⟩
    · have v0 : 0 ≤ v10 := by rw [ev]; exact nI_pos' (by omega)
      by_cases z : k + 1 ≤ s
      · obtain ⟨C', h', tp', r1, r2⟩ := one (s - 1 - k) (by omega) (vn _ (by omega))
        refine ⟨C', h', tp', if_pi v0 ?_, r2⟩
        rw [ev, show nI s - 1 = nI (s - 1) from pk_sub (b := 1) (by omega), pk_sub (by omega), ← ev]
        exact r1
      · obtain ⟨C3, h3, tp3, e3, A3⟩ := ih (k + 1) f T0 h C tp (by omega) (by omega) (by omega) A
        refine ⟨C3, h3, tp3, if_pi v0 ?_, A3.mono (by omega)⟩
        have neg : v10 - 1 - nI k < 0 := by
          rw [ev, Int32.lt_iff_toInt_lt, Int32.toInt_sub, show (1 : Int32) = nI 1 from rfl, sub_toInt (by omega) (by omega), nI_toInt (by omega), show (0 : Int32).toInt = 0 from rfl, Int.bmod_eq_of_le (by omega) (by omega)]
          omega
        unfold fL_comes_420 fL_comes_454
        refine if_pi neg (if_pi neg (lt_i ?_))
        rw [nI_1]
        exact e3
set_option maxHeartbeats 1000000 in
/-- behind the days: a wish comes, a seed -/
theorem co_277 {P K c p T0 h n : Nat} {C : mm_M} {w u : Nat → Int32} {tp : Nat → Nat → Int32} {sv : Nat → Option (Nat → Int32)} {sg : Nat → Nat} {y v10 x : Int32} (hP : w 12 = nI P) (hK : w 13 = nI K) (lP : P < 100) (lK : K < 100) (hc : c < K) (hp : p < P) (hy : nn y P) (ey : ∀ M, ∃ r, fL_up M x 2 = some r ∧ (if r = 0 then y = -6 else y = nI p)) (hsv : sv 0 = some w) (hv : (v10 = -6 ∧ ∀ s, s < 200 → ¬ lkP w c y s) ∨ ∃ s, s < 200 ∧ v10 = nI s ∧ lkP w c y s ∧ ∀ s', s' < s → ¬ lkP w c y s') (hT9 : T0 + 100 < 26843) (A : Ab T0 C u h tp sv n sg) : ∃ C' h' tp', fL_comes_277 x C (w 10) (nI c) (nI p) (dayR (wsR w c (nI p) (-6) (-6)) (72 + 20 * c + 11)) v10 (w 11) = some (true, C') ∧ Ab (T0 + 10) C' w h' tp' sv n sg := by
  obtain ⟨C1, e1, A1⟩ := ab_rest (q := 0) (u := w) A (by omega) hsv
  obtain ⟨W, T, N, xS, hT, S⟩ := A1.1.sim hP hK lP lK
  obtain ⟨C2, e2, A2⟩ := ab_chg (r := 1) (w2 := wsR w c (nI p) (-6) (-6)) (op := fun X => fX5_tellWishes X 1 (nI c) (nI p) (-6) (-6)) A1 hT S (by decide) (Nat.le_refl _) (fun X SX => by
    obtain ⟨C2, N2, a1, a2, a3, a4⟩ := s_wish hT SX hc (y := nI p) (z := -6) (u := -6) (Or.inr ⟨p, hp, rfl⟩) (Or.inl rfl) (Or.inl rfl) (by rw [nw1 (by omega)]; omega)
    rw [nw1 (by omega)] at a1
    exact ⟨C2, a1, a2, P, K, W, T, N2, xS, a3, a4⟩)
  have hP2 : wsR w c (nI p) (-6) (-6) 12 = nI P := by rw [wsR_o (by omega)]; exact hP
  have hK2 : wsR w c (nI p) (-6) (-6) 13 = nI K := by rw [wsR_o (by omega)]; exact hK
  have h10 : wsR w c (nI p) (-6) (-6) 10 = w 10 := wsR_o (by omega)
  obtain ⟨C3, e3, A3, -, -, dd⟩ := ab_day1 A2 hP2 hK2 lP lK (by omega)
  rw [h10] at e3
  obtain ⟨-, -, d3, -⟩ := dd c hc
  obtain ⟨C4, e4, A4⟩ := ab_rest (q := 0) (u := w) A3 (by omega) hsv
  have run : ∀ r, (if v10 < 0 then fL_comes_389 x FU C4 (w 10) (nI c) (nI p) v10 (w 11) 0 else if 199 < v10 then some (false, C4) else bn (fL_up C4 x 2) fun r23 => if r23 = 0 then fL_comes_367 x C4 (w 10) (nI c) (nI p) v10 (w 11) (nI c) (-6) else fL_comes_367 x C4 (w 10) (nI c) (nI p) v10 (w 11) (nI c) (nI p)) = r → fL_comes_277 x C (w 10) (nI c) (nI p) (dayR (wsR w c (nI p) (-6) (-6)) (72 + 20 * c + 11)) v10 (w 11) = r := fun r hr => by
    unfold fL_comes_277
    exact bn2_i e1 (if_pi rfl (bn2_i e2 (if_pi rfl (bn2_i e3 (if_pi rfl (bn_i d3 (if_pi rfl (bn2_i e4 (if_pi rfl hr)))))))))
  have hv2 : (v10 = -6 ∧ ∀ s, s < 200 → ¬ lkP w c y s) ∨ ∃ s, s < 200 ∧ v10 = nI s ∧ ∀ s', s' < s → ¬ lkP w c y s' := by
    rcases hv with z | ⟨s, z1, z2, -, z3⟩
    · exact Or.inl z
    · exact Or.inr ⟨s, z1, z2, z3⟩
  rcases hv with ⟨v6, -⟩ | ⟨s, hs, ev, lk, -⟩
  · obtain ⟨C5, h5, tp5, e5, A5⟩ := co_389 (p := nI p) hP hK lP lK hc hy ey hsv hv2 5 0 FU (T0 + 1) _ C4 _ (by omega) (by unfold FU; omega) (by omega) A4
    exact ⟨C5, h5, tp5, run _ (if_pi (by rw [v6]; decide) e5), A5.mono (by omega)⟩
  · obtain ⟨C5, b, w5, h5, tp5, e5, eb, A5⟩ := l_lucky (s := s) (y := y) A4 hP hK lP lK (by omega) hc (by omega) hy
    have bt := eb.mpr lk
    subst bt
    obtain ⟨C6, e6, A6⟩ := ab_rest (q := 0) (u := w) A5 (by omega) hsv
    obtain ⟨C7, h7, tp7, e7, A7⟩ := co_389 (p := nI p) hP hK lP lK hc hy ey hsv hv2 5 0 FU (T0 + 1 + 1) _ C6 _ (by omega) (by unfold FU; omega) (by omega) A6
    have g367 : fL_comes_367 x C4 (w 10) (nI c) (nI p) v10 (w 11) (nI c) y = some (true, C7) := by
      unfold fL_comes_367
      rw [ev] at e7 ⊢
      exact bn2_i e5 (if_pi rfl (bn2_i e6 (if_pi rfl e7)))
    refine ⟨C7, h7, tp7, run _ ?_, A7.mono (by omega)⟩
    obtain ⟨r, er, ery⟩ := ey C4
    rw [ev] at g367 ⊢
    refine if_ni (nI_pos (by omega)) (if_ni (show ¬ nI 199 < nI s from nI_nlt (by omega) (by omega)) (bn_i er ?_))
    by_cases z : r = 0
    · rw [if_pos z] at ery
      rw [ery] at g367
      exact if_pi z g367
    · rw [if_neg z] at ery
      rw [ery] at g367
      exact if_ni z g367
set_option maxHeartbeats 1000000 in
/-- the days one by one -/
theorem co_173 {P K c p m : Nat} {w : Nat → Int32} {sv : Nat → Option (Nat → Int32)} {n : Nat} {sg : Nat → Nat} {y v10 x : Int32} (hP : w 12 = nI P) (hK : w 13 = nI K) (lP : P < 100) (lK : K < 100) (hc : c < K) (hp : p < P) (hm : m ≤ 20) (hy : nn y P) (ey : ∀ M, ∃ r, fL_up M x 2 = some r ∧ (if r = 0 then y = -6 else y = nI p)) (hsv : sv 0 = some w) (hv : (v10 = -6 ∧ ∀ s, s < 200 → ¬ lkP w c y s) ∨ ∃ s, s < 200 ∧ v10 = nI s ∧ lkP w c y s ∧ ∀ s', s' < s → ¬ lkP w c y s') {was v8 : Int32} : ∀ (d k f T0 h g : Nat) (C : mm_M) (u : Nat → Int32) (tp : Nat → Nat → Int32) (v13 : Int32), k + d = m → d < f → T0 + d + 160 < 26843 → Ab T0 C u h tp sv n sg → u 12 = nI P → u 13 = nI K → (k = 0 → u = w) → u (72 + 20 * c + 10) = was + nI g → g + dcF c d u = dcF c m w → ((v13 = -1 ∧ v8 = fdF c (60 - k) k u) ∨ ∃ i, i < k ∧ v13 = nI i ∧ v8 = nI i) → ∃ C' h' tp', fL_comes_173 x f C (w 10) (nI c) (nI p) (nI m) (dayR w (72 + 20 * c + 11)) (dayR (wsR w c (nI p) (-6) (-6)) (72 + 20 * c + 11)) v8 (nI (dcF c m w)) v10 (w 11) was v13 (nI k) = some (true, C') ∧ Ab (T0 + d + 10) C' w h' tp' sv n sg := by
  intro d
  induction d with
  | zero =>
    intro k f T0 h g C u tp v13 hk hf hT9 A hP' hK' h0 hg hd h13
    obtain ⟨f, rfl⟩ : ∃ q, f = q + 1 := ⟨f - 1, by omega⟩
    have e : k = m := by omega
    subst e
    obtain ⟨W, T, N, xS, hT, S⟩ := A.1.sim hP' hK' lP lK
    have c11 : fX6_ofCart C (nI c) 11 = some (u (72 + 20 * c + 10)) := v_ofCart S hc (t := 11) (by omega)
    obtain ⟨C1, h1, tp1, e1, A1⟩ := co_277 hP hK lP lK hc hp hy ey hsv hv (by omega) A
    refine ⟨C1, h1, tp1, ?_, by rw [Nat.add_zero]; exact A1⟩
    have eg : g = dcF c k w := hd
    rw [fL_comes_173]
    refine if_pi (Int32.le_refl _) (bn_i c11 (if_pi ?_ ?_))
    · rw [hg, Int32.add_comm, Int32.add_sub_cancel, eg]
    · rcases h13 with ⟨z1, z2⟩ | ⟨i, hi, z1, z2⟩
      · rw [z1]
        refine if_pi (by decide) ?_
        rcases fdF_of c (60 - k) k u with z | ⟨s, s1, s2, z⟩
        · rw [z2, z]
          exact if_pi (by decide) e1
        · rw [z2, z]
          exact if_ni (nI_pos (by omega)) (if_ni (nI_nlt s1 (by omega)) e1)
      · rw [z1, z2]
        exact if_ni (nI_pos (by omega)) (if_pi rfl e1)
  | succ d ih =>
    intro k f T0 h g C u tp v13 hk hf hT9 A hP' hK' h0 hg hd h13
    obtain ⟨f, rfl⟩ : ∃ q, f = q + 1 := ⟨f - 1, by omega⟩
    obtain ⟨C1, e1, A1, hP1, hK1, dd⟩ := ab_day1 A hP' hK' lP lK (by omega)
    obtain ⟨d1, d2, d3, -⟩ := dd c hc
    have ed : dcF c (d + 1) u = (if dayR u (72 + 20 * c + 11) = -6 then 0 else 1) + dcF c d (dayR u) := rfl
    have ef : fdF c (60 - k) k u = if dayR u (72 + 20 * c + 11) = -6 then fdF c (60 - (k + 1)) (k + 1) (dayR u) else nI k := by
      rw [show 60 - k = (60 - (k + 1)) + 1 by omega]
      rfl
    rw [ed] at hd
    -- behind the day
    have go : ∀ v13', ((v13' = -1 ∧ v8 = fdF c (60 - (k + 1)) (k + 1) (dayR u)) ∨ ∃ i, i < k + 1 ∧ v13' = nI i ∧ v8 = nI i) → ∃ C' h' tp', fL_comes_173 x f C1 (w 10) (nI c) (nI p) (nI m) (dayR w (72 + 20 * c + 11)) (dayR (wsR w c (nI p) (-6) (-6)) (72 + 20 * c + 11)) v8 (nI (dcF c m w)) v10 (w 11) was v13' (nI (k + 1)) = some (true, C') ∧ Ab (T0 + (d + 1) + 10) C' w h' tp' sv n sg := by
      intro v13' hz
      by_cases q : dayR u (72 + 20 * c + 11) = -6
      · rw [if_pos q] at d1 hd
        obtain ⟨C', h', tp', r1, r2⟩ := ih (k + 1) f (T0 + 1) _ g C1 (dayR u) _ v13' (by omega) (by omega) (by omega) A1 hP1 hK1 (fun z => absurd z (by omega)) (by rw [d1]; exact hg) (by omega) hz
        exact ⟨C', h', tp', r1, by rw [show T0 + (d + 1) + 10 = T0 + 1 + d + 10 by omega]; exact r2⟩
      · rw [if_neg q] at d1 hd
        obtain ⟨C', h', tp', r1, r2⟩ := ih (k + 1) f (T0 + 1) _ (g + 1) C1 (dayR u) _ v13' (by omega) (by omega) (by omega) A1 hP1 hK1 (fun z => absurd z (by omega)) (by rw [d1, hg, Int32.add_assoc, nI_1]) (by omega) hz
        exact ⟨C', h', tp', r1, by rw [show T0 + (d + 1) + 10 = T0 + 1 + d + 10 by omega]; exact r2⟩
    have g205 : ∃ C' h' tp', fL_comes_205 x (fL_comes_173 x f) C1 (w 10) (nI c) (nI p) (nI m) (dayR w (72 + 20 * c + 11)) (dayR (wsR w c (nI p) (-6) (-6)) (72 + 20 * c + 11)) v8 (nI (dcF c m w)) v10 (w 11) was v13 (nI k) = some (true, C') ∧ Ab (T0 + (d + 1) + 10) C' w h' tp' sv n sg := by
      unfold fL_comes_205
      rcases h13 with ⟨z1, z2⟩ | ⟨i, hi, z1, z2⟩
      · by_cases q : dayR u (72 + 20 * c + 11) = -6
        · rw [ef, if_pos q] at z2
          obtain ⟨C', h', tp', r1, r2⟩ := go (-1) (Or.inl ⟨rfl, z2⟩)
          refine ⟨C', h', tp', if_ni (by rw [z1]; decide) (bn_i d3 (if_pi (by rw [q]; decide) (lt_i ?_))), r2⟩
          rw [z1, nI_1]
          exact r1
        · rw [ef, if_neg q] at z2
          obtain ⟨C', h', tp', r1, r2⟩ := go (nI k) (Or.inr ⟨k, by omega, rfl, z2⟩)
          have n0 : ¬ dayR u (72 + 20 * c + 11) < 0 := by
            rcases d2 with y | ⟨p', hp', y⟩
            · exact absurd y q
            · rw [y]; exact nI_pos (by omega)
          refine ⟨C', h', tp', if_ni (by rw [z1]; decide) (bn_i d3 (if_ni n0 (lt_i ?_))), r2⟩
          rw [nI_1]
          exact r1
      · obtain ⟨C', h', tp', r1, r2⟩ := go v13 (Or.inr ⟨i, by omega, z1, z2⟩)
        refine ⟨C', h', tp', if_pi (by rw [z1]; exact nI_pos' (by omega)) (lt_i ?_), r2⟩
        rw [nI_1]
        exact r1
    obtain ⟨C', h', tp', r1, r2⟩ := g205
    refine ⟨C', h', tp', ?_, r2⟩
    rw [fL_comes_173]
    refine if_ni (nI_ge (by omega) (by omega)) (bn2_i e1 ?_)
    by_cases q : k = 0
    · have eu := h0 q
      rw [eu] at d3
      exact if_pi (by rw [q]; rfl) (bn_i d3 (if_pi rfl r1))
    · exact if_ni (nI_ne0 (by omega) (by omega)) r1
set_option maxHeartbeats 1000000 in
theorem l_comes {T0 P K : Nat} {C : mm_M} (L : LA T0 C P K) (lP : P < 100) (lK : K < 100) (P0 : 0 < P) (K0 : 0 < K) (hT9 : T0 + 200 < 26843) (x : Int32) : ∃ C', fL_comes C x = some (true, C') ∧ LA (T0 + 40) C' P K := by
  obtain ⟨w, h, tp, sv, n, sg, A, hP, hK⟩ := L
  obtain ⟨W, T, N, xS, hT, S⟩ := A.1.sim hP hK lP lK
  have hTT := hT.1
  have lT := S.bd.lT
  obtain ⟨c, hc, ec⟩ := l_upA x (m := K) K0 (by omega)
  obtain ⟨p, hp, ep⟩ := l_upA (x >>> (3 &&& 31)) (m := P) P0 (by omega)
  obtain ⟨u, hu, eu⟩ := l_upA (x >>> (6 &&& 31)) (m := 20) (by omega) (by omega)
  obtain ⟨q2, hq2, e2⟩ := l_upA x (m := 2) (by omega) (by omega)
  obtain ⟨y, ey, hy⟩ : ∃ y, (if nI q2 = 0 then y = -6 else y = nI p) ∧ nn y P := by
    by_cases z : nI q2 = 0
    · exact ⟨-6, by rw [if_pos z], Or.inl rfl⟩
    · exact ⟨nI p, by rw [if_neg z], Or.inr ⟨p, hp, rfl⟩⟩
  have c0 : fX6_count C 0 = some (w 10) := v_count S (k := 0) (by omega) (by omega) (by omega)
  have c1 : fX6_count C 1 = some (nI K) := (v_count S (k := 1) (by omega) (by omega) (by omega)).trans (congrArg some hK)
  have c2 : fX6_count C 2 = some (nI P) := (v_count S (k := 2) (by omega) (by omega) (by omega)).trans (congrArg some hP)
  obtain ⟨C1, f1, n1, g1⟩ := t_would S (by omega) hc
  have A1 := A.fr g1
  obtain ⟨W1, T1, N1, xS1, hT1, S1⟩ := A1.1.sim hP hK lP lK
  have hTT1 := hT1.1
  obtain ⟨C2, f2, g2⟩ := t_wished hT1 S1 (by omega) hc hp
  have A2 := A1.fr g2
  obtain ⟨W2, T2, N2, xS2, hT2, S2⟩ := A2.1.sim hP hK lP lK
  have hTT2 := hT2.1
  obtain ⟨C3, f3, g3⟩ := t_first S2 (by omega) hc
  have A3 := A2.fr g3
  obtain ⟨W3, T3, N3, xS3, hT3, S3⟩ := A3.1.sim hP hK lP lK
  have hTT3 := hT3.1
  obtain ⟨C4, f4, g4⟩ := t_daysOf S3 (by omega) (x := 1 + u) hc (by omega) (by omega)
  have A4 := A3.fr g4
  obtain ⟨W4, T4, N4, xS4, hT4, S4⟩ := A4.1.sim hP hK lP lK
  have hTT4 := hT4.1
  obtain ⟨C5, f5, g5⟩ := t_lucky (y := y) hT4 S4 (by omega) hc hy
  have A5 := A4.fr g5
  obtain ⟨W5, T5, N5, xS5, hT5, S5⟩ := A5.1.sim hP hK lP lK
  have c3 : fX6_count C5 3 = some (w 11) := v_count S5 (k := 3) (by omega) (by omega) (by omega)
  have c05 : fX6_count C5 0 = some (w 10) := v_count S5 (k := 0) (by omega) (by omega) (by omega)
  have k11 : fX6_ofCart C5 (nI c) 11 = some (w (72 + 20 * c + 10)) := v_ofCart S5 hc (t := 11) (by omega)
  have e61 := t_daysOfE S5 hc
  obtain ⟨C6, e6, A6⟩ := ab_save A5 (q := 0) (by omega)
  have hv : (lsF w c y 200 0 = -6 ∧ ∀ s, s < 200 → ¬ lkP w c y s) ∨ ∃ s, s < 200 ∧ lsF w c y 200 0 = nI s ∧ lkP w c y s ∧ ∀ s', s' < s → ¬ lkP w c y s' := by
    rcases lsF_of w c y 200 0 with ⟨z1, z2⟩ | ⟨s, -, z1, z2, z3, z4⟩
    · exact Or.inl ⟨z1, fun s hs => z2 s (by omega) (by omega)⟩
    · exact Or.inr ⟨s, by omega, z2, z3, fun s' hs' => z4 s' (by omega) hs'⟩
  obtain ⟨C7, h7, tp7, e7, A7⟩ := co_173 (m := 1 + u) (was := w (72 + 20 * c + 10)) (v8 := fdF c 60 0 w) hP hK lP lK hc hp (by omega) hy (fun M => ⟨nI q2, e2 M, ey⟩) (if_pos rfl) hv (1 + u) 0 FU T0 h 0 C6 w tp (-1) (by omega) (by unfold FU; omega) (by omega) A6 hP hK (fun _ => rfl) (Int32.add_zero _).symm (Nat.zero_add _) (Or.inl ⟨rfl, rfl⟩)
  refine ⟨C7, ?_, w, h7, tp7, _, n, sg, A7.mono (by omega), hP, hK⟩
  have efd : fdF c 60 0 w = if dayR w (72 + 20 * c + 11) = -6 then fdF c 59 1 (dayR w) else nI 0 := rfl
  have g153 : ∀ b, fL_comes_153 x C5 (w 10) (nI c) (nI p) (nI (1 + u)) (dayR w (72 + 20 * c + 11)) (dayR (wsR w c (nI p) (-6) (-6)) (72 + 20 * c + 11)) (fdF c 60 0 w) (nI (dcF c (1 + u) w)) (lsF w c y 200 0) (w 11) (w (72 + 20 * c + 10)) b b = some (true, C7) := fun b => if_pi rfl (bn2_i e6 (if_pi rfl e7))
  have g91 : fL_comes_91 x C4 (w 10) (nI c) (nI p) (nI (1 + u)) (dayR w (72 + 20 * c + 11)) (dayR (wsR w c (nI p) (-6) (-6)) (72 + 20 * c + 11)) (fdF c 60 0 w) (nI (dcF c (1 + u) w)) (nI c) y = some (true, C7) := by
    unfold fL_comes_91
    refine bn2_i f5 (bn_i c3 (bn_i k11 (bn_i c05 (if_pi rfl (bn2_i e61 (if_pi rfl ?_))))))
    rcases n1 with z | ⟨q, hq, z⟩
    · refine if_pi (by rw [z]; decide) ?_
      unfold fL_comes_143
      refine if_ni ?_ (g153 false)
      rw [efd, if_pos z]
      rcases fdF_of c 59 1 (dayR w) with y1 | ⟨s, s1, s2, y1⟩
      · rw [y1]; decide
      · rw [y1]; exact nI_ne0 (by omega) (by omega)
    · refine if_ni (by rw [z]; exact nI_pos (by omega)) ?_
      unfold fL_comes_143
      refine if_pi ?_ (g153 true)
      rw [efd, if_neg (by rw [z]; exact n6 (by omega))]
      rfl
  unfold fL_comes
  refine bn_i c0 (bn_i c1 (bn_i (ec C) (bn_i c2 (bn_i (ep C) (bn_i (eu C) ?_)))))
  rw [show (1 : Int32) + nI u = nI (1 + u) from nI_add 1 u]
  refine lt_i (bn2_i f1 (bn2_i f2 (bn2_i f3 (bn2_i f4 (bn_i (e2 C4) ?_)))))
  by_cases z : nI q2 = 0
  · rw [if_pos z] at ey
    rw [ey] at g91
    exact if_pi z g91
  · rw [if_neg z] at ey
    rw [ey] at g91
    exact if_ni z g91
