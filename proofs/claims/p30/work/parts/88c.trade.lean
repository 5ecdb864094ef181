/-! SIM: a day: trade, the next day -/
theorem sI_comm {M : mm_M} {o k o' k' : Nat} {v v' : Int32} (h : o ≠ o' ∨ k ≠ k') : sI (sI M o k v) o' k' v' = sI (sI M o' k' v') o k v := by
  refine Prod.ext (funext fun x => funext fun y => ?_) rfl
  show (if x = o' ∧ y = k' then v' else if x = o ∧ y = k then v else M.1 x y) = if x = o ∧ y = k then v else if x = o' ∧ y = k' then v' else M.1 x y
  by_cases c1 : x = o' ∧ y = k'
  · rw [if_pos c1, if_neg (show ¬ (x = o ∧ y = k) by omega), if_pos c1]
  · rw [if_neg c1]
    by_cases c2 : x = o ∧ y = k
    · rw [if_pos c2, if_pos c2]
    · rw [if_neg c2, if_neg c2, if_neg c1]
theorem Ok_10 {P K W T : Nat} {N : Nat → Nat} : Ok P K W T N 10 (nI T) := by
  refine ⟨?_, ?_, ?_, ?_, ?_, fun _ => rfl, ?_, ?_, ?_, ?_, ?_, ?_, ?_, ?_, ?_, ?_, ?_, ?_, ?_, ?_⟩ <;> intros <;> omega
theorem Ok_los {P K W T : Nat} {N : Nat → Nat} {j x : Nat} (B : Bd P K W 0 N) (hj : j < 16) (hx : x ≤ T) : Ok P K W T N (72 + 20 * j + 6) (nI x) := by
  obtain ⟨lP, lK, lW, -, lN⟩ := B
  refine ⟨?_, ?_, ?_, ?_, ?_, ?_, ?_, ?_, ?_, ?_, ?_, ?_, ?_, ?_, ?_, fun _ _ _ => ⟨x, hx, rfl⟩, ?_, ?_, ?_, ?_⟩ <;> intros <;> (try (rename_i i' hi' k hk e; have := lN i')) <;> omega
/-- a day later, on both sides -/
theorem z_bump {C : mm_M} {a : Nat} {w : Nat → Int32} {P K W T : Nat} {N : Nat → Nat} (S : Sim okA C a w P K W T N) (hT : T + 1 < 2 ^ 30) : Sim okA (sI C a 0 (nI (T + 1))) a (up w 10 (nI (T + 1))) P K W (T + 1) N := by
  have L0 : Lk okA a P K W N a 0 10 := Or.inl ⟨rfl, by omega, rfl⟩
  have lK := S.bd.lK
  refine ⟨⟨S.bd.lP, lK, S.bd.lW, hT, S.bd.lN⟩, fun o k j hl => ?_, fun i hi k hk => ?_, fun j => ?_⟩
  · have q := Lk_inj S.bd0 L0 hl
    by_cases e : j = 10
    · obtain ⟨e1, e2⟩ := q.mpr e
      subst e; subst e1; subst e2
      rw [up_eq, sI_ap1, if_pos rfl, if_pos rfl]
    · rw [up_ne e, ← S.eq o k j hl, sI_ap1]
      by_cases e1 : o = a
      · subst e1
        rw [if_pos rfl, if_neg (fun e2 => e (q.mp ⟨rfl, e2⟩))]
      · rw [if_neg e1]
  · rw [up_ne (by omega)]; exact S.sum i hi k hk
  · by_cases e : j = 10
    · subst e; rw [up_eq]; exact Ok_10
    · rw [up_ne e]
      have h := S.val j
      exact ⟨h.rng, h.r0, h.r2, h.r5, h.r8, fun q => absurd q e, h.sd, h.nP, h.nK, h.nW, h.swp, h.pn, h.hrs, h.wc, h.wp, fun i hi q => by
        obtain ⟨x, hx, ex⟩ := h.los i hi q
        exact ⟨x, by omega, ex⟩, h.wai, h.at_, h.rnt, h.pts⟩
set_option maxHeartbeats 4000000 in
theorem z_trl {a P K W T p : Nat} {N ord : Nat → Nat} {t : Int32} (et : t = nI (T + 1)) : ∀ (d i n n' : Nat) (C D : mm_M), i + d = K → d < n → d < n' → Sim okA (sI C a 0 t) a (up (D.1 732) 10 t) P K W (T + 1) N → (∀ j, i ≤ j → j < K → ∃ x, x ≤ T ∧ D.1 732 (72 + 20 * j + 6) = nI x) → Od (D.1 732) K ord p → ∃ C' D', fX1_trade_2 a n C (nI i) = some C' ∧ fX7_trade_2 n' D (nI i) = some D' ∧ Sim okA (sI C' a 0 t) a (up (D'.1 732) 10 t) P K W (T + 1) N ∧ FrC C C' a ∧ FrD D D' ∧ C'.1 a = C.1 a ∧ D'.1 732 10 = D.1 732 10 ∧ (∀ j, i ≤ j → j < K → D'.1 732 (72 + 20 * j + 10) = if D.1 732 (72 + 20 * j + 11) = -6 then D.1 732 (72 + 20 * j + 10) else D.1 732 (72 + 20 * j + 10) + 1) ∧ (∀ j, j < i → D'.1 732 (72 + 20 * j + 10) = D.1 732 (72 + 20 * j + 10)) ∧ ∀ j, j < 16 → D'.1 732 (72 + 20 * j + 11) = D.1 732 (72 + 20 * j + 11) := by
  intro d
  induction d with
  | zero =>
    intro i n n' C D hi hn hn' S hl O
    obtain ⟨n, rfl⟩ : ∃ q, n = q + 1 := ⟨n - 1, by omega⟩
    obtain ⟨n', rfl⟩ : ∃ q, n' = q + 1 := ⟨n' - 1, by omega⟩
    have lK := S.bd.lK
    have c3 : C.1 a 3 = nI K := by
      have h := S.cK
      rw [sI_ap1, if_pos rfl] at h
      exact (if_neg (by omega)).symm.trans h
    have d13 : D.1 732 13 = nI K := by
      have h := S.wK
      rw [up_ne (by omega)] at h
      exact h
    refine ⟨C, D, ?_, ?_, S, FrC.rf _ _, FrD.rf _, rfl, rfl, fun j h1 h2 => by omega, fun _ _ => rfl, fun _ _ => rfl⟩
    · rw [fX1_trade_2, c3]; exact if_pi (nI_le (by omega) (by omega)) rfl
    · rw [fX7_trade_2, d13]; exact if_pi (nI_le (by omega) (by omega)) rfl
  | succ d ih =>
    intro i n n' C D hi hn hn' S hl O
    obtain ⟨n, rfl⟩ : ∃ q, n = q + 1 := ⟨n - 1, by omega⟩
    obtain ⟨n', rfl⟩ : ∃ q, n' = q + 1 := ⟨n' - 1, by omega⟩
    have lK := S.bd.lK
    have lP := S.bd.lP
    have lW := S.bd.lW
    have hK : i < K := by omega
    have c3 : C.1 a 3 = nI K := by
      have h := S.cK
      rw [sI_ap1, if_pos rfl] at h
      exact (if_neg (by omega)).symm.trans h
    have d13 : D.1 732 13 = nI K := by
      have h := S.wK
      rw [up_ne (by omega)] at h
      exact h
    have rd : ∀ o k j, Lk okA a P K W N o k j → o ≠ a → j ≠ 10 → C.1 o k = D.1 732 j := fun o k j L h1 h2 => by
      have h := S.eq o k j L
      rw [sI_ap1, if_neg h1, up_ne h2] at h
      exact h
    have vl : ∀ j, j ≠ 10 → Ok P K W (T + 1) N j (D.1 732 j) := fun j hj => by
      have h := S.val j
      rw [up_ne hj] at h
      exact h
    have rc : ∀ k, k < 12 → C.1 (a + 18 + 3 * i) k = D.1 732 (72 + 20 * i + sf k) := fun k hk => rd _ _ _ (Lk_cart hK hk) (by omega) (by omega)
    have c8 : C.1 (a + 18 + 3 * i) 8 = D.1 732 (72 + 20 * i + 11) := rc 8 (by omega)
    have o11 : fX7_of D (nI i) 11 = some (D.1 732 (72 + 20 * i + 11)) := of_i (k := 11) (by omega) (by omega)
    have o6 : fX7_of D (nI i) 6 = some (D.1 732 (72 + 20 * i + 6)) := of_i (k := 6) (by omega) (by omega)
    have o19 : fX7_of D (nI i) 19 = some (D.1 732 (72 + 20 * i + 19)) := of_i (k := 19) (by omega) (by omega)
    obtain ⟨l, hl1, hl2⟩ := hl i (Nat.le_refl _) hK
    have hasP : ∀ x, nn x P → fX5_hasPitch C a x = some (decide (¬ x = -6)) := fun x hx => by
      have h := z_hasP S hx
      unfold fX5_hasPitch at h ⊢
      rw [sI_ap1, if_pos rfl] at h
      exact h
    have at0 := (vl (72 + 20 * i + 11) (by omega)).at_ i hK rfl
    have go : ∀ (C1 D1 : mm_M), Sim okA (sI C1 a 0 t) a (up (D1.1 732) 10 t) P K W (T + 1) N → FrC C C1 a → FrD D D1 → C1.1 a = C.1 a → (∀ s, s < 16 → D1.1 732 s = D.1 732 s) → (∀ j u, j < 16 → u < 20 → (j ≠ i ∨ u = 11 ∨ u = 14 ∨ u = 19) → D1.1 732 (72 + 20 * j + u) = D.1 732 (72 + 20 * j + u)) → (D1.1 732 (72 + 20 * i + 10) = if D.1 732 (72 + 20 * i + 11) = -6 then D.1 732 (72 + 20 * i + 10) else D.1 732 (72 + 20 * i + 10) + 1) → ∃ C' D', fX1_trade_2 a n C1 (nI (i + 1)) = some C' ∧ fX7_trade_2 n' D1 (nI (i + 1)) = some D' ∧ Sim okA (sI C' a 0 t) a (up (D'.1 732) 10 t) P K W (T + 1) N ∧ FrC C C' a ∧ FrD D D' ∧ C'.1 a = C.1 a ∧ D'.1 732 10 = D.1 732 10 ∧ (∀ j, i ≤ j → j < K → D'.1 732 (72 + 20 * j + 10) = if D.1 732 (72 + 20 * j + 11) = -6 then D.1 732 (72 + 20 * j + 10) else D.1 732 (72 + 20 * j + 10) + 1) ∧ (∀ j, j < i → D'.1 732 (72 + 20 * j + 10) = D.1 732 (72 + 20 * j + 10)) ∧ ∀ j, j < 16 → D'.1 732 (72 + 20 * j + 11) = D.1 732 (72 + 20 * j + 11) := by
      intro C1 D1 S1 f1 f2 a1 wl w1 w10
      obtain ⟨C', D', q1, q2, q3, q4, q5, q6, q7, q8, q9, q10⟩ := ih (i + 1) n n' C1 D1 (by omega) (by omega) (by omega) S1 (fun j h1 h2 => by
        rw [w1 j 6 (by omega) (by omega) (by omega)]
        exact hl j (by omega) h2) (O.of (fun j u hj hu => w1 j u (by omega) (by omega) (by omega)))
      refine ⟨C', D', q1, q2, q3, f1.tr q4, f2.tr q5, q6.trans a1, q7.trans (wl 10 (by omega)), fun j h1 h2 => ?_, fun j h1 => ?_, fun j hj => ?_⟩
      · by_cases e : j = i
        · rw [e, q9 i (by omega)]; exact w10
        · rw [q8 j (by omega) h2, w1 j 10 (by omega) (by omega) (by omega), w1 j 11 (by omega) (by omega) (by omega)]
      · rw [q9 j (by omega), w1 j 10 (by omega) (by omega) (by omega)]
      · rw [q10 j hj, w1 j 11 hj (by omega) (by omega)]
    rcases at0 with h | ⟨pp, hpp, h⟩
    · have cl : ∀ r, (if D.1 732 (72 + 20 * i + 14) = -6 then fX1_trade_2 a n C (nI (i + 1)) else fX1_trade_2 a n (sI C (a + 18 + 3 * i) 3 (nI (l + 1))) (nI (i + 1))) = r → fX1_trade_2 a (n + 1) C (nI i) = r := fun r hr => by
        rw [fX1_trade_2, c3]
        refine if_ni (nI_ge hK (by omega)) (gd_i (ix_nI (n := 16) (by omega) (by decide)) ?_)
        rw [nI_clamp (by omega), c8, h]
        refine bn_i (hasP _ (Or.inl rfl)) (if_ni (by decide) ?_)
        rw [rc 11 (by omega), rc 3 (by omega), show D.1 732 (72 + 20 * i + sf 3) = nI l from hl2, nI_1, nI_1]
        exact hr
      have ml : ∀ v r, D.1 732 (72 + 20 * i + 19) = v → fX7_trade_2 n' (sI D 732 (72 + 20 * i + 6) (nI l + v)) (nI (i + 1)) = r → fX7_trade_2 (n' + 1) D (nI i) = r := fun v r hv hr => by
        rw [fX7_trade_2, d13]
        refine if_ni (nI_ge hK (by omega)) (bn_i o11 ?_)
        rw [h]
        refine if_pi (by decide) (bn_i o6 (bn_i o19 ?_))
        rw [hl2, hv]
        refine bn_i (lay_i (k := 6) _ (by omega) (by omega)) (lt_i ?_)
        rw [nI_1]
        exact hr
      rcases O.2.1 i hK with ⟨z19, z14⟩ | ⟨z19, q, hq, z14, -⟩
      · have row : (sI D 732 (72 + 20 * i + 6) (nI l + 0)).1 732 = D.1 732 := by
          rw [sI_row, Int32.add_zero]
          exact up_same hl2
        obtain ⟨C', D', q1, q2, q3⟩ := go C (sI D 732 (72 + 20 * i + 6) (nI l + 0)) (by rw [row]; exact S) (FrC.rf _ _) FrD.w rfl (fun s hs => by rw [row]) (fun j u hj hu hh => by rw [row]) (by rw [row, if_pos h])
        exact ⟨C', D', cl _ (by rw [if_pos z14]; exact q1), ml 0 _ z19 q2, q3⟩
      · have hn6 : ¬ D.1 732 (72 + 20 * i + 14) = -6 := fun z => nI_pos (n := q) (by have := O.2.2; omega) (by rw [← z14, z]; decide)
        have e1 : nI l + 1 = nI (l + 1) := nI_1 l
        obtain ⟨C', D', q1, q2, q3⟩ := go (sI C (a + 18 + 3 * i) 3 (nI (l + 1))) (sI D 732 (72 + 20 * i + 6) (nI l + 1)) (by
          rw [sI_comm (by omega), sI_row, e1, up_comm _ _ _ (by omega)]
          exact S.up (Lk_cart hK (k := 3) (by omega)) (Ok_los S.bd0 (by omega) (by omega))) (FrC.w (by omega)) FrD.w (by rw [sI_ap1, if_neg (by omega)]) (fun s hs => by rw [sI_row, up_ne (by omega)]) (fun j u hj hu hh => by rw [sI_row, up_ne (by omega)]) (by rw [sI_row, up_ne (by omega), if_pos h])
        exact ⟨C', D', cl _ (by rw [if_neg hn6]; exact q1), ml 1 _ z19 q2, q3⟩
    · have hn6 : ¬ nI pp = -6 := fun z => nI_pos (n := pp) (by omega) (by rw [z]; decide)
      obtain ⟨pr, epr⟩ : ∃ pr, pr = D.1 732 (32 + 4 * pp + 0) := ⟨_, rfl⟩
      have rp : ∀ k, k < 4 → C.1 (a + 8 + pp) k = D.1 732 (32 + 4 * pp + k) := fun k hk => rd _ _ _ (Lk_p hpp hk) (by omega) (by omega)
      obtain ⟨lv, elv⟩ : ∃ v, v = C.2 (a + 18 + 3 * i) 13 + pr.toInt64 := ⟨_, rfl⟩
      obtain ⟨r13, e13⟩ : ∃ v, v = D.1 732 (72 + 20 * i + 16) := ⟨_, rfl⟩
      have hlv : lv.toInt32 = r13 + pr := by
        have h1 := S.sum i hK 1 (by omega)
        rw [up_ne (by omega)] at h1
        rw [elv, Int64.toInt32_add, Int32.toInt32_toInt64, e13]
        exact congrArg (fun z => z + pr) h1
      obtain ⟨dv, edv⟩ : ∃ v, v = D.1 732 (72 + 20 * i + 10) := ⟨_, rfl⟩
      obtain ⟨y1, ey1⟩ : ∃ v, v = D.1 732 (32 + 4 * pp + 1) := ⟨_, rfl⟩
      obtain ⟨y2, ey2⟩ : ∃ v, v = D.1 732 (32 + 4 * pp + 2) := ⟨_, rfl⟩
      obtain ⟨C1, g1⟩ : ∃ X, X = sL C (a + 18 + 3 * i) 13 lv := ⟨_, rfl⟩
      obtain ⟨C2, g2⟩ : ∃ X, X = sI C1 (a + 18 + 3 * i) 7 (dv + 1) := ⟨_, rfl⟩
      obtain ⟨C3, g3⟩ : ∃ X, X = sI C2 (a + 18 + 3 * i) 3 0 := ⟨_, rfl⟩
      obtain ⟨C4, g4⟩ : ∃ X, X = sI C3 (a + 8 + pp) 2 (y2 + pr) := ⟨_, rfl⟩
      obtain ⟨C5, g5⟩ : ∃ X, X = sI C4 (a + 8 + pp) 1 (y1 + 1) := ⟨_, rfl⟩
      obtain ⟨D1, f1⟩ : ∃ X, X = sI D 732 (72 + 20 * i + 16) (r13 + pr) := ⟨_, rfl⟩
      obtain ⟨D2, f2⟩ : ∃ X, X = sI D1 732 (72 + 20 * i + 10) (dv + 1) := ⟨_, rfl⟩
      obtain ⟨D3, f3⟩ : ∃ X, X = sI D2 732 (72 + 20 * i + 6) 0 := ⟨_, rfl⟩
      obtain ⟨D4, f4⟩ : ∃ X, X = sI D3 732 (32 + 4 * pp + 1) (y1 + 1) := ⟨_, rfl⟩
      obtain ⟨D5, f5⟩ : ∃ X, X = sI D4 732 (32 + 4 * pp + 2) (y2 + pr) := ⟨_, rfl⟩
      have S5 : Sim okA (sI C5 a 0 t) a (up (D5.1 732) 10 t) P K W (T + 1) N := by
        have hS := ((((z_upL S hK (k := 1) (by omega) lv).up (Lk_cart hK (k := 7) (by omega)) (v := dv + 1) (Ok_free S.bd0 (t := 10) (by omega) (by omega))).up (Lk_cart hK (k := 3) (by omega)) (v := nI 0) (Ok_los S.bd0 (by omega) (by omega))).up (Lk_p hpp (k := 1) (by omega)) (v := y1 + 1) (Ok_pf lW (by omega) (Or.inl rfl))).up (Lk_p hpp (k := 2) (by omega)) (v := y2 + pr) (Ok_pf lW (by omega) (Or.inr rfl))
        have eC : sI C5 a 0 t = sI (sI (sI (sI (sL (sI C a 0 t) (a + 18 + 3 * i) (12 + 1) lv) (a + 18 + 3 * i) 7 (dv + 1)) (a + 18 + 3 * i) 3 (nI 0)) (a + 8 + pp) 1 (y1 + 1)) (a + 8 + pp) 2 (y2 + pr) := by
          rw [g5, g4, g3, g2, g1, sI_comm (M := sI (sI (sI (sL C (a + 18 + 3 * i) 13 lv) (a + 18 + 3 * i) 7 (dv + 1)) (a + 18 + 3 * i) 3 0) (a + 8 + pp) 2 (y2 + pr)) (o' := a) (by omega), sI_comm (M := sI (sI (sL C (a + 18 + 3 * i) 13 lv) (a + 18 + 3 * i) 7 (dv + 1)) (a + 18 + 3 * i) 3 0) (o' := a) (by omega), sI_comm (M := sI (sL C (a + 18 + 3 * i) 13 lv) (a + 18 + 3 * i) 7 (dv + 1)) (o' := a) (by omega), sI_comm (M := sL C (a + 18 + 3 * i) 13 lv) (o' := a) (by omega), sI_comm (o := a + 8 + pp) (k := 2) (o' := a + 8 + pp) (k' := 1) (by omega)]
          rfl
        have eD : up (D5.1 732) 10 t = up (up (up (up (up (up (D.1 732) 10 t) (72 + 20 * i + 15 + 1) lv.toInt32) (72 + 20 * i + sf 7) (dv + 1)) (72 + 20 * i + sf 3) (nI 0)) (32 + 4 * pp + 1) (y1 + 1)) (32 + 4 * pp + 2) (y2 + pr) := by
          rw [f5, sI_row, f4, sI_row, f3, sI_row, f2, sI_row, f1, sI_row, up_comm _ _ _ (show 32 + 4 * pp + 2 ≠ 10 by omega), up_comm _ _ _ (show 32 + 4 * pp + 1 ≠ 10 by omega), up_comm _ _ _ (show 72 + 20 * i + 6 ≠ 10 by omega), up_comm _ _ _ (show 72 + 20 * i + 10 ≠ 10 by omega), up_comm _ _ _ (show 72 + 20 * i + 16 ≠ 10 by omega), hlv]
          rfl
        rw [eC, eD]
        exact hS
      obtain ⟨C', D', q1, q2, q3⟩ := go C5 D5 S5 (by rw [g5, g4, g3, g2, g1]; exact ((((FrC.wl (by omega)).tr (FrC.w (by omega))).tr (FrC.w (by omega))).tr (FrC.w (by omega))).tr (FrC.w (by omega))) (by rw [f5, f4, f3, f2, f1]; exact (((FrD.w.tr FrD.w).tr FrD.w).tr FrD.w).tr FrD.w) (by rw [g5, sI_ap1, if_neg (by omega), g4, sI_ap1, if_neg (by omega), g3, sI_ap1, if_neg (by omega), g2, sI_ap1, if_neg (by omega), g1]; rfl) (fun s hs => by rw [f5, sI_row, up_ne (by omega), f4, sI_row, up_ne (by omega), f3, sI_row, up_ne (by omega), f2, sI_row, up_ne (by omega), f1, sI_row, up_ne (by omega)]) (fun j u hj hu hh => by rw [f5, sI_row, up_ne (by omega), f4, sI_row, up_ne (by omega), f3, sI_row, up_ne (by omega), f2, sI_row, up_ne (by omega), f1, sI_row, up_ne (by omega)]) (by rw [f5, sI_row, up_ne (by omega), f4, sI_row, up_ne (by omega), f3, sI_row, up_ne (by omega), f2, sI_row, up_eq, h, if_neg hn6, edv])
      refine ⟨C', D', ?_, ?_, q3⟩
      · rw [fX1_trade_2, c3]
        refine if_ni (nI_ge hK (by omega)) (gd_i (ix_nI (n := 16) (by omega) (by decide)) ?_)
        rw [nI_clamp (by omega), c8, h]
        refine bn_i (hasP _ (Or.inr ⟨pp, hpp, rfl⟩)) ?_
        rw [decide_eq_true hn6]
        refine if_pi rfl (gd_i (ix_nI (n := 10) (by omega) (by decide)) ?_)
        rw [nI_clamp (by omega), rp 0 (by omega), ← epr, ← elv, ← g1]
        refine lt_i ?_
        rw [show C1.1 (a + 18 + 3 * i) 7 = dv by rw [g1, edv]; exact rc 7 (by omega), ← g2]
        refine lt_i ?_
        rw [← g3]
        have p3 : C3.1 (a + 8 + pp) = C.1 (a + 8 + pp) := by rw [g3, sI_ap1, if_neg (by omega), g2, sI_ap1, if_neg (by omega), g1]; rfl
        refine lt_i ?_
        rw [p3, rp 2 (by omega), rp 0 (by omega), ← epr, ← ey2, ← g4]
        refine lt_i ?_
        rw [show C4.1 (a + 8 + pp) 1 = y1 by rw [g4, sI_ap1, if_pos rfl, p3, ey1]; exact (if_neg (by omega)).trans (rp 1 (by omega)), ← g5, nI_1]
        exact lt_i (lt_i q1)
      · rw [fX7_trade_2, d13]
        refine if_ni (nI_ge hK (by omega)) (bn_i o11 ?_)
        rw [h]
        refine if_ni (nI_pos (by omega)) (bn_i (of_i (k := 16) (by omega) (by omega)) (bn_i (ofP_i (k := 0) (by omega) (by omega)) ?_))
        rw [← e13, ← epr]
        refine bn_i (lay_i (k := 16) _ (by omega) (by omega)) ?_
        rw [← f1]
        refine bn_i (of_i (k := 10) (by omega) (by omega)) ?_
        rw [show D1.1 732 (72 + 20 * i + 10) = dv by rw [f1, sI_row, up_ne (by omega), edv]]
        refine bn_i (lay_i (k := 10) _ (by omega) (by omega)) ?_
        rw [← f2]
        refine bn_i (lay_i (k := 6) _ (by omega) (by omega)) ?_
        have i1 : (32 + (4 * nI pp)) + 1 = nI (32 + 4 * pp + 1) := by
          rw [Int32.add_comm 32, show (32 : Int32) = nI 32 from rfl, show (4 : Int32) = nI 4 from rfl, mulI, Nat.add_comm (4 * pp)]
          exact nI_add _ 1
        have i2 : (32 + (4 * nI pp)) + 2 = nI (32 + 4 * pp + 2) := by
          rw [Int32.add_comm 32, show (32 : Int32) = nI 32 from rfl, show (4 : Int32) = nI 4 from rfl, mulI, Nat.add_comm (4 * pp)]
          exact nI_add _ 2
        rw [← f3, i1, i2]
        have w3 : ∀ s, s < 72 → D3.1 732 s = D.1 732 s := fun s hs => by rw [f3, sI_row, up_ne (by omega), f2, sI_row, up_ne (by omega), f1, sI_row, up_ne (by omega)]
        refine gd_i (ix_nI (n := 3592) (by omega) (by decide)) ?_
        rw [nI_clamp (by omega), w3 _ (by omega), ← ey1, ← f4]
        refine lt_i (gd_i (fun q => q.elim (nI_pos (by omega)) (fun q2 => by rw [nI_clamp (by omega)] at q2; omega)) (bn_i (ofP_i (k := 0) (by omega) (by omega)) ?_))
        rw [nI_clamp (by omega), show D4.1 732 (32 + 4 * pp + 2) = y2 by rw [f4, sI_row, up_ne (by omega), w3 _ (by omega), ey2], show D4.1 732 (32 + 4 * pp + 0) = pr by rw [f4, sI_row, up_ne (by omega), w3 _ (by omega), epr], ← f5, nI_1]
        exact lt_i (lt_i q2)
