/-! p32: a fine; days, by the row alone -/
/-- one more point on the day T -/
theorem sm_one {f g : Nat → Nat} {T p b m : Nat} (hb : b + m = T + 1) (m1 : 1 ≤ m) (m2 : m ≤ 200) (gx : g (T % 200) = f (T % 200) + p) (go : ∀ k, k ≠ T % 200 → g k = f k) : sm (fun k => g (k % 200)) b m = sm (fun k => f (k % 200)) b m + p := by
  obtain ⟨m, rfl⟩ : ∃ q, m = q + 1 := ⟨m - 1, by omega⟩
  rw [sm_hi, sm_hi, sm_ext (g := fun k => f (k % 200)) (g' := fun k => g (k % 200)) m b (fun k h1 h2 => go _ (by omega)), show b + m = T by omega]
  show _ + g (T % 200) = _ + f (T % 200) + p
  rw [gx]
  omega
set_option maxHeartbeats 1000000 in
/-- what giving points comes to -/
theorem s_giveC {C : mm_M} {a : Nat} {w : Nat → Int32} {P K W T : Nat} {N : Nat → Nat} {xS : Nat → Nat → Nat} (S : Sim okA C a w P K W T N xS) {j p : Nat} (hj : j < K) (hp : p ≤ 10000) : ∃ M, fX5_givePoints C a (a + 18 + 3 * j) (nI p) = some (if ptF w j T + p < (w 3).toNatClampNeg then nI (ptF w j T + p) else 0, M) ∧ (¬ ptF w j T + p < (w 3).toNatClampNeg → M.1 (a + 18 + 3 * j) 6 = w 10 + w 4) := by
  have lK := S.bd.lK
  have lT := S.bd.lT
  obtain ⟨l, l1, l2, el⟩ := (S.val 5).r5 rfl
  obtain ⟨L, hL, eL⟩ := (S.val 3).rng (by omega)
  have cs : ∀ k, k < 10 → C.1 (a + 1) k = w k := fun k hk => S.eq (a + 1) k k (Or.inr (Or.inl ⟨rfl, hk, rfl⟩))
  obtain ⟨x, ex⟩ : ∃ x, x = T % 200 := ⟨_, rfl⟩
  have hx : x < 200 := by omega
  obtain ⟨f, ef⟩ : ∃ f, f = ptw w j := ⟨_, rfl⟩
  have fc : ∀ k, k < 200 → C.1 (a + 18 + 3 * j + 2) k = nI (f k) := fun k hk => by
    rw [ef]
    exact (S.eq (a + 18 + 3 * j + 2) k (392 + 200 * j + k) (Or.inr (Or.inr (Or.inr (Or.inr (Or.inr (Or.inr (Or.inr ⟨j, hj, rfl, hk, rfl⟩)))))))).trans (ptw_e S hj hk).1
  have fb : ∀ k, k < 200 → f k ≤ 10000 := fun k hk => by rw [ef]; exact (ptw_e S hj hk).2
  obtain ⟨g, eg⟩ : ∃ g : Nat → Nat, g = fun k => if k = x then f x + p else f k := ⟨_, rfl⟩
  have gx : g x = f x + p := by rw [eg]; exact if_pos rfl
  have go : ∀ k, k ≠ x → g k = f k := fun k h => by rw [eg]; exact if_neg h
  obtain ⟨v, ev⟩ : ∃ v, v = C.2 (a + 18 + 3 * j) 14 + (nI p).toInt64 * (C.1 (a + 1) 6).toInt64 := ⟨_, rfl⟩
  obtain ⟨C1, e1⟩ : ∃ X, X = sL C (a + 18 + 3 * j) 14 v := ⟨_, rfl⟩
  obtain ⟨C2, e2⟩ : ∃ X, X = sI C1 (a + 18 + 3 * j + 2) x (nI (f x + p)) := ⟨_, rfl⟩
  have a1 : C1.1 = C.1 := by rw [e1]; rfl
  have a2 : ∀ o, o ≠ a + 18 + 3 * j + 2 → C2.1 o = C.1 o := fun o h => by rw [e2, sI_ap1, if_neg h, a1]
  have c2 : ∀ k, k < 200 → C2.1 (a + 18 + 3 * j + 2) k = nI (g k) := fun k hk => by
    rw [e2, sI_ap1, if_pos rfl, a1]
    show (if k = x then nI (f x + p) else C.1 (a + 18 + 3 * j + 2) k) = _
    by_cases e : k = x
    · rw [if_pos e, e, gx]
    · rw [if_neg e, go k e, fc k hk]
  have hs0 : ptF w j T = sm (fun k => f (k % 200)) (T + 1 - l) (T + 1 - (T + 1 - l)) := by
    unfold ptF
    rw [el, S.wT, nI_clamp (by omega), nI_clamp (by omega), ef]
  have hs : sm (fun k => g (k % 200)) (T + 1 - l) (T + 1 - (T + 1 - l)) = ptF w j T + p := by
    rw [hs0]
    exact sm_one (f := f) (g := g) (T := T) (by omega) (by omega) (by omega) (by rw [← ex]; exact gx) (fun k hk => go k (by rw [ex]; exact hk))
  have hb := ptF_le S hj (Nat.le_refl T)
  have pC : fX0_pointsLeft C2 (a + 18 + 3 * j) (C2.1 a 0) (C2.1 a 0) (C2.1 (a + 1) 5) = some (nI (ptF w j T + p)) := by
    rw [a2 a (by omega), a2 (a + 1) (by omega), S.cT, cs 5 (by omega), el, ← hs]
    exact q_at c2 lT (Nat.le_refl _) (by omega) l2
  have mk : ∀ r, (if C2.1 (a + 1) 3 ≤ nI (ptF w j T + p) then (lt (sI C2 (a + 18 + 3 * j) 6 (C2.1 a 0 + C2.1 (a + 1) 4)) fun M7 => bn (fX0_dropAllPoints M7 (a + 18 + 3 * j)) fun M9 => some ((0 : Int32), M9)) else some (nI (ptF w j T + p), C2)) = r → fX5_givePoints C a (a + 18 + 3 * j) (nI p) = r := fun r hr => by
    unfold fX5_givePoints
    rw [← ev, ← e1]
    refine lt_i (bn_i (a := C2) ?_ (bn_i pC hr))
    unfold fX0_addPoints
    rw [show C1.1 a 0 = nI T by rw [a1]; exact S.cT, mod200 (by omega), ← ex]
    refine lt_i (if_ni (nI_pos (by omega)) (gd_i (ix_nI (n := 200) hx (by decide)) ?_))
    rw [nI_clamp (by omega), show C1.1 (a + 18 + 3 * j + 2) x = nI (f x) by rw [a1]; exact fc x hx, nI_add, ← e2]
    rfl
  have hcL : C2.1 (a + 1) 3 = nI L := by rw [a2 _ (by omega), cs 3 (by omega), eL]
  rw [hcL] at mk
  rw [eL, nI_clamp (by omega)]
  by_cases c : ptF w j T + p < L
  · refine ⟨C2, ?_, fun q => absurd c q⟩
    rw [if_pos c]
    exact mk _ (if_neg (nI_ge c (by omega)))
  · obtain ⟨y, ey⟩ : ∃ y, y = w 10 + w 4 := ⟨_, rfl⟩
    obtain ⟨C3, e3⟩ : ∃ X, X = sI C2 (a + 18 + 3 * j) 6 y := ⟨_, rfl⟩
    obtain ⟨Y, eY, y2, yo, yl⟩ := q_dropK (a + 18 + 3 * j) 200 0 FU C3 rfl (by unfold FU; omega)
    have hcy : C2.1 a 0 + C2.1 (a + 1) 4 = y := by rw [a2 _ (by omega), a2 _ (by omega), S.hd (k := 0) (by omega), cs 4 (by omega), ey]
    refine ⟨Y, ?_, fun _ => ?_⟩
    · rw [if_neg c]
      refine mk _ ?_
      rw [hcy, ← e3]
      exact if_pi (nI_le (by omega) (by omega)) (lt_i (bn_i eY rfl))
    · rw [yo _ (by omega), e3, sI_ap1, if_pos rfl, if_pos rfl, ey]
/-- a memory of the reference that holds the row w alone -/
def mw (w : Nat → Int32) : mm_M := (fun o => if o = 732 then w else fun _ => 0, fun _ _ => 0)
theorem mw_r (w : Nat → Int32) : (mw w).1 732 = w := by
  show (if (732 : Nat) = 732 then w else fun _ => 0) = w
  exact if_pos rfl
/-- a fine -/
theorem s_fine {C : mm_M} {w : Nat → Int32} {P K W T T0 : Nat} {N : Nat → Nat} {xS : Nat → Nat → Nat} (hT : TX T xS T0 w K P) (S : Sim okA C 1 w P K W T N xS) {j p : Nat} (hj : j < K) (p1 : 1 ≤ p) (p9 : p ≤ 9) : ∃ C2 w2 fi, fX5_punish C 1 (nI j) (nI p) = some (nI (if ptF w j T + p < (w 3).toNatClampNeg then ptF w j T + p else 0), C2) ∧ FrC C C2 1 ∧ w 6 = nI fi ∧ fi ≤ 10000 ∧ TX T (xU xS j 2 (xS j 2 + p * fi)) (T0 + 1) w2 K P ∧ Sim okA C2 1 w2 P K W T N (xU xS j 2 (xS j 2 + p * fi)) ∧ ptF w2 j T = (if ptF w j T + p < (w 3).toNatClampNeg then ptF w j T + p else 0) ∧ w2 6 = w 6 ∧ w2 10 = w 10 ∧ w2 4 = w 4 ∧ (¬ ptF w j T + p < (w 3).toNatClampNeg → w2 (72 + 20 * j + 9) = w 10 + w 4) := by
  have lK := S.bd.lK
  have lT := S.bd.lT
  obtain ⟨M, m1, m2⟩ := s_giveC S hj (p := p) (by omega)
  have S0 : Sim okA C 1 ((mw w).1 732) P K W T N xS := by rw [mw_r]; exact S
  obtain ⟨C', D', s, fi, hfi, hs, g1, g2, g3, S', fC, fD, -, -, gw, gd, w6, g16⟩ := z_give S0 hj (p := p) (by omega)
  rw [mw_r] at gd w6 g16
  rw [m1] at g1
  have q4 := Option.some.inj g1
  have q5 : (if ptF w j T + p < (w 3).toNatClampNeg then nI (ptF w j T + p) else 0) = nI s := congrArg Prod.fst q4
  have q6 : M = C' := congrArg Prod.snd q4
  subst q6
  have hb := ptF_le S hj (Nat.le_refl T)
  obtain ⟨v, ev⟩ : ∃ v, v = (if ptF w j T + p < (w 3).toNatClampNeg then ptF w j T + p else 0) := ⟨_, rfl⟩
  have hv : v ≤ 2000009 := by
    rw [ev]
    by_cases c : ptF w j T + p < (w 3).toNatClampNeg
    · rw [if_pos c]; omega
    · rw [if_neg c]; omega
  have q7 : nI v = nI s := by
    rw [← q5, ev]
    by_cases c : ptF w j T + p < (w 3).toNatClampNeg
    · rw [if_pos c, if_pos c]
    · rw [if_neg c, if_neg c]; rfl
  have esv : v = s := (nI_eq (by omega) (by omega)).mp q7
  rw [← ev]
  -- the points in the new row
  have hd5 : D'.1 732 10 = nI T := S'.wT
  have pv : ptF (D'.1 732) j T = v := by
    have h := v_left S' hj (Nat.le_refl T) (by omega)
    have h2 : fX7_pointsAt D' (nI j) (nI T) = some (nI s) := by rw [← hd5]; exact g3
    obtain ⟨s', hs', z1, z2⟩ := z_left S' hj (Nat.le_refl T) (by omega)
    rw [h2] at z2
    rw [h] at z1
    have e1 : nI s = nI s' := Option.some.inj z2
    have e2 : nI (ptF (D'.1 732) j T) = nI s' := Option.some.inj z1
    have := (nI_eq (by have := ptF_le S' hj (Nat.le_refl T); omega) (by omega)).mp (e2.trans e1.symm)
    omega
  refine ⟨M, D'.1 732, fi, ?_, fC, w6, hfi, (hT.up (Nat.le_add_right _ _) (by have : p * fi ≤ 9 * 10000 := Nat.mul_le_mul p9 hfi; omega)).row S.bd.lK S.bd.lP gd, S', pv, g16 6 (by omega), g16 10 (by omega), g16 4 (by omega), fun c => ?_⟩
  · refine bn_i (z_hasC S hj) (if_pi rfl (if_ni (show ¬ nI p < nI 1 from nI_nlt p1 (by omega)) (if_pi (show nI p ≤ nI 9 from nI_le p9 (by omega)) (gd_i (ix_nI (n := 16) (by omega) (by decide)) ?_))))
    rw [nI_clamp (by omega)]
    refine bn2_i m1 ?_
    rw [q5, q7]
  · rw [← m2 c]
    exact (S_cart S' hj (k := 6) (by omega)).symm
/-- the row behind a day -/
def dayR (w : Nat → Int32) : Nat → Int32 := match fX7_passDay (mw w) with
  | some D => D.1 732
  | none => w
def dysR : Nat → (Nat → Int32) → Nat → Int32
  | 0, w => w
  | n + 1, w => dysR n (dayR w)
theorem d_day {C : mm_M} {a P K W T : Nat} {w : Nat → Int32} {N : Nat → Nat} {xS : Nat → Nat → Nat} (ha : kT a = (4, 0)) (S : Sim okA C a w P K W T N xS) (hT : T + 1 < 2 ^ 30) : ∃ C' xS', dayC a C = some C' ∧ (∀ i k, xS' i k ≤ xS i k + 160000) ∧ Sim okA C' a (dayR w) P K 0 (T + 1) N xS' ∧ FrC C C' a ∧ (∀ j, j < K → dayR w (72 + 20 * j + 10) = if dayR w (72 + 20 * j + 11) = -6 then w (72 + 20 * j + 10) else w (72 + 20 * j + 10) + 1) ∧ (DI w K P → DI (dayR w) K P) := by
  obtain ⟨C', D', xS', e1, e2, x1, S1, f1, g1, cn, di⟩ := z_day (D := mw w) ha (by rw [mw_r]; exact S) hT
  have e : dayR w = D'.1 732 := by unfold dayR; rw [e2]
  rw [mw_r] at di
  unfold Cnt at cn
  rw [mw_r] at cn
  rw [e]
  exact ⟨C', xS', e1, x1, S1, f1, cn, di⟩
theorem d_daysl {a P K x : Nat} {N : Nat → Nat} (ha : kT a = (4, 0)) (hx : x ≤ 60) : ∀ (d i n W T : Nat) (w : Nat → Int32) (C : mm_M) (xS : Nat → Nat → Nat), i + d = x → d < n → T + d < 2 ^ 30 → Sim okA C a w P K W T N xS → ∃ C' W' xS', fX5_passDays_16 a (nI x) n C (nI i) = some (nI (T + d), C') ∧ (0 < d → W' = 0) ∧ (∀ i k, xS' i k ≤ xS i k + 160000 * d) ∧ Sim okA C' a (dysR d w) P K W' (T + d) N xS' ∧ FrC C C' a ∧ (DI w K P → DI (dysR d w) K P) := by
  intro d
  induction d with
  | zero =>
    intro i n W T w C xS hi hn hT S
    obtain ⟨n, rfl⟩ : ∃ q, n = q + 1 := ⟨n - 1, by omega⟩
    refine ⟨C, W, xS, ?_, fun h => absurd h (by omega), fun _ _ => Nat.le_add_right _ _, S, FrC.rf _ _, fun h => h⟩
    rw [passD, S.cT]; exact if_pi (nI_le (by omega) (by omega)) rfl
  | succ d ih =>
    intro i n W T w C xS hi hn hT S
    obtain ⟨n, rfl⟩ : ∃ q, n = q + 1 := ⟨n - 1, by omega⟩
    obtain ⟨C1, xS1, e1, x1, S1, f1, -, d1⟩ := d_day ha S (by omega)
    obtain ⟨C', W', xS', q1, q2, qx, q3, q4, q6⟩ := ih (i + 1) n 0 (T + 1) (dayR w) C1 xS1 (by omega) (by omega) (by omega) S1
    rw [show T + 1 + d = T + (d + 1) by omega] at q1 q3
    have w0 : W' = 0 := by
      rcases Nat.eq_zero_or_pos d with z | z
      · subst z
        have h1 := q3.wW
        have h2 : dysR 0 (dayR w) = dayR w := rfl
        rw [h2, S1.wW] at h1
        exact ((nI_eq (by omega) (by have := q3.bd.lW; omega)).mp h1).symm
      · exact q2 z
    refine ⟨C', W', xS', ?_, fun _ => w0, fun i k => (by have h1 := x1 i k; have h2 := qx i k; omega), q3, f1.tr q4, fun h => q6 (d1 h)⟩
    rw [passD]
    refine if_ni (nI_ge (by omega) (by omega)) (bn_i e1 (lt_i ?_))
    rw [nI_1]; exact q1
theorem s_days {a P K W T T0 v : Nat} {N : Nat → Nat} {w : Nat → Int32} {C : mm_M} {xS : Nat → Nat → Nat} (ha : kT a = (4, 0)) (hT0 : T0 + 60 < 2 ^ 30) (hT : TX T xS T0 w K P) (S : Sim okA C a w P K W T N xS) (v1 : 1 ≤ v) (hv : v ≤ 60) : ∃ C2 xS2, fX5_passDays C a (nI v) = some (nI (T + v), C2) ∧ FrC C C2 a ∧ TX (T + v) xS2 (T0 + v) (dysR v w) K P ∧ Sim okA C2 a (dysR v w) P K 0 (T + v) N xS2 := by
  have hT9 := hT.1
  obtain ⟨C', W', xS', q1, q2, qx, q3, q4, q6⟩ := d_daysl ha hv v 0 FU W T w C xS (by omega) (by unfold FU; omega) (by omega) S
  rw [q2 (by omega)] at q3
  exact ⟨C', xS', if_ni (show ¬ nI v < nI 1 from nI_nlt v1 (by omega)) (if_pi (show nI v ≤ nI 60 from nI_le hv (by omega)) q1), q4, ⟨by omega, fun i k => by have h1 := hT.2.1 i k; have h2 := qx i k; omega, q6 hT.2.2⟩, q3⟩
