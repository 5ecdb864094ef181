/-! SIM: points are given -/
theorem sm_0 (b m : Nat) : sm (fun k => (fun _ => 0) (k % 200)) b m = 0 := by
  have := sm_le (g := fun k => (fun _ => 0) (k % 200)) (B := 0) (fun _ => Nat.le_refl _) m b
  omega
theorem up3 (w : Nat → Int32) {A B E k : Nat} (x u y : Int32) (h : k ≠ A) : up (up (up w A x) B u) E y k = up (up w B u) E y k := by
  by_cases e : k = E
  · rw [e, up_eq, up_eq]
  · rw [up_ne e, up_ne e]
    by_cases e2 : k = B
    · rw [e2, up_eq, up_eq]
    · rw [up_ne e2, up_ne e2, up_ne h]
set_option maxHeartbeats 4000000 in
theorem z_give {C D : mm_M} {a P K W T : Nat} {N : Nat → Nat} (S : Sim okA C a (D.1 732) P K W T N) {j p : Nat} (hj : j < K) (hp : p ≤ 10000) : ∃ C' D' s, s ≤ 4000000 ∧ fX5_givePoints C a (a + 18 + 3 * j) (nI p) = some (nI s, C') ∧ fX7_give D (nI j) (nI p) = some D' ∧ fX7_pointsAt D' (nI j) (D'.1 732 10) = some (nI s) ∧ Sim okA C' a (D'.1 732) P K W T N ∧ FrC C C' a ∧ FrD D D' ∧ (C'.1 a = C.1 a ∧ C'.1 (a + 7) = C.1 (a + 7)) ∧ D'.1 731 = D.1 731 ∧ ∀ i t, i < 16 → t < 20 → t ≠ 9 → t ≠ 17 → D'.1 732 (72 + 20 * i + t) = D.1 732 (72 + 20 * i + t) := by
  have lK := S.bd.lK
  have lT := S.bd.lT
  obtain ⟨f, fb, fw, fc⟩ := pts_f S hj
  obtain ⟨l, l1, l2, el⟩ := (S.val 5).r5 rfl
  obtain ⟨L, hL, eL⟩ := (S.val 3).rng (by omega)
  have cs : ∀ k, k < 10 → C.1 (a + 1) k = D.1 732 k := fun k hk => S.eq (a + 1) k k (Or.inr (Or.inl ⟨rfl, hk, rfl⟩))
  obtain ⟨x, ex⟩ : ∃ x, x = T % 200 := ⟨_, rfl⟩
  have hx : x < 200 := by omega
  obtain ⟨g, eg⟩ : ∃ g : Nat → Nat, g = fun k => if k = x then f x + p else f k := ⟨_, rfl⟩
  have gx : g x = f x + p := by rw [eg]; exact if_pos rfl
  have go : ∀ k, k ≠ x → g k = f k := fun k h => by rw [eg]; exact if_neg h
  have gb : ∀ k, g k ≤ 20000 := fun k => by
    have h1 := fb k
    have h2 := fb x
    by_cases e : k = x
    · rw [e, gx]; omega
    · rw [go k e]; omega
  obtain ⟨v, ev⟩ : ∃ v, v = C.2 (a + 18 + 3 * j) 14 + (nI p).toInt64 * (C.1 (a + 1) 6).toInt64 := ⟨_, rfl⟩
  obtain ⟨C1, e1⟩ : ∃ X, X = sL C (a + 18 + 3 * j) 14 v := ⟨_, rfl⟩
  obtain ⟨C2, e2⟩ : ∃ X, X = sI C1 (a + 18 + 3 * j + 2) x (nI (f x + p)) := ⟨_, rfl⟩
  have a1 : C1.1 = C.1 := by rw [e1]; rfl
  have a2 : ∀ o, o ≠ a + 18 + 3 * j + 2 → C2.1 o = C.1 o := fun o h => by rw [e2, sI_ap1, if_neg h, a1]
  have c2 : ∀ k, k < 200 → C2.1 (a + 18 + 3 * j + 2) k = nI (g k) := fun k hk => by
    rw [e2, sI_ap1, if_pos rfl, a1]
    show (if k = x then nI (f x + p) else C.1 (a + 18 + 3 * j + 2) k) = _
    by_cases e : k = x
    · rw [if_pos e, e, gx]
    · rw [if_neg e, go k e, fc k hk]
  obtain ⟨D1, d1⟩ : ∃ X, X = sI D 732 (392 + 200 * j + x) (nI (f x + p)) := ⟨_, rfl⟩
  obtain ⟨u, eu⟩ : ∃ u, u = D1.1 732 (72 + 20 * j + 17) + nI p * D1.1 732 6 := ⟨_, rfl⟩
  obtain ⟨D2, d2⟩ : ∃ X, X = sI D1 732 (72 + 20 * j + 17) u := ⟨_, rfl⟩
  have r1 : ∀ k, k ≠ 392 + 200 * j + x → D1.1 732 k = D.1 732 k := fun k h => by rw [d1, sI_row, up_ne h]
  have r2 : ∀ k, k ≠ 392 + 200 * j + x → k ≠ 72 + 20 * j + 17 → D2.1 732 k = D.1 732 k := fun k h h2 => by rw [d2, sI_row, up_ne h2, r1 k h]
  have w2 : ∀ k, k < 200 → D2.1 732 (392 + 200 * j + k) = nI (g k) := fun k hk => by
    rw [d2, sI_row, up_ne (by omega), d1, sI_row]
    by_cases e : k = x
    · rw [e, up_eq, gx]
    · rw [up_ne (by omega), go k e, fw k hk]
  have uv : v.toInt32 = u := by
    rw [ev, eu, r1 _ (by omega), r1 _ (by omega), cs 6 (by omega), Int64.toInt32_add, Int64.toInt32_mul, Int32.toInt32_toInt64, Int32.toInt32_toInt64, show (C.2 (a + 18 + 3 * j) 14).toInt32 = D.1 732 (72 + 20 * j + 17) from S.sum j hj 2 (by omega)]
  obtain ⟨s, es⟩ : ∃ s, s = sm (fun k => g (k % 200)) (T + 1 - l) (T + 1 - (T + 1 - l)) := ⟨_, rfl⟩
  have hs : s ≤ 4000000 := by
    have q := sm_le (g := fun k => g (k % 200)) (B := 20000) (fun k => gb _) (T + 1 - (T + 1 - l)) (T + 1 - l)
    have q2 : (T + 1 - (T + 1 - l)) * 20000 ≤ 200 * 20000 := Nat.mul_le_mul_right _ (by omega)
    omega
  have hgx : f x + p ≤ s := by
    rw [es, ← gx, ex]
    exact sm_mem (fun k => g (k % 200)) (k := T) _ _ (by omega) (by omega)
  have pC : fX0_pointsLeft C2 (a + 18 + 3 * j) (C2.1 a 0) (C2.1 a 0) (C2.1 (a + 1) 5) = some (nI s) := by
    rw [a2 a (by omega), a2 (a + 1) (by omega), S.cT, cs 5 (by omega), el, es]
    exact q_at c2 lT (Nat.le_refl _) (by omega) l2
  have t2 : D2.1 732 10 = nI T := by rw [r2 10 (by omega) (by omega)]; exact S.wT
  have pD : fX7_pointsAt D2 (nI j) (D2.1 732 10) = some (nI s) := by
    rw [t2, es]
    exact m_at (by omega) w2 (by rw [r2 5 (by omega) (by omega)]; exact el) t2 l2 lT (Nat.le_refl _) (by omega)
  have mk : ∀ r, (if C2.1 (a + 1) 3 ≤ nI s then (lt (sI C2 (a + 18 + 3 * j) 6 (C2.1 a 0 + C2.1 (a + 1) 4)) fun M7 => bn (fX0_dropAllPoints M7 (a + 18 + 3 * j)) fun M9 => some ((0 : Int32), M9)) else some (nI s, C2)) = r → fX5_givePoints C a (a + 18 + 3 * j) (nI p) = r := fun r hr => by
    unfold fX5_givePoints
    rw [← ev, ← e1]
    refine lt_i (bn_i (a := C2) ?_ (bn_i pC hr))
    unfold fX0_addPoints
    rw [show C1.1 a 0 = nI T by rw [a1]; exact S.cT, mod200 (by omega), ← ex]
    refine lt_i (if_ni (nI_pos (by omega)) (gd_i (ix_nI (n := 200) hx (by decide)) ?_))
    rw [nI_clamp (by omega), show C1.1 (a + 18 + 3 * j + 2) x = nI (f x) by rw [a1]; exact fc x hx, nI_add, ← e2]
    rfl
  have md : ∀ r, (if nI s < D2.1 732 3 then some D2 else bn (fX7_lay D2 (nI j) 9 (D2.1 732 10 + D2.1 732 4)) fun M11 => fX7_give_98 (nI j) (nI p) FU M11 0) = r → fX7_give D (nI j) (nI p) = r := fun r hr => by
    unfold fX7_give
    have en : (392 + (200 * nI j)) + nI x = nI (392 + 200 * j + x) := by
      rw [show (392 : Int32) = nI 392 from rfl, show (200 : Int32) = nI 200 from rfl, Int32.add_comm (nI 392), mulI, nI_add, Nat.add_comm (200 * j)]
    rw [S.wT, mod200 (by omega), ← ex, en]
    refine gd_i (ix_nI (n := 3592) (by omega) (by decide)) ?_
    rw [nI_clamp (by omega), fw x hx, nI_add, ← d1]
    refine lt_i (bn_i (of_i (k := 17) (by omega) (by omega)) ?_)
    rw [← eu]
    refine bn_i (lay_i (k := 17) u (by omega) (by omega)) ?_
    rw [← d2]
    exact bn_i pD hr
  have hcL : C2.1 (a + 1) 3 = nI L := by rw [a2 _ (by omega), cs 3 (by omega), eL]
  have hdL : D2.1 732 3 = nI L := by rw [r2 _ (by omega) (by omega), eL]
  have f1 : FrC C C2 a := by rw [e2, e1]; exact (FrC.wl (by omega)).tr (FrC.w (by omega))
  have g1 : FrD D D2 := by rw [d2, d1]; exact FrD.w.tr FrD.w
  have o2 : ∀ o, o ≠ 732 → D2.1 o = D.1 o := fun o ho => by rw [d2, sI_ap1, if_neg ho, d1, sI_ap1, if_neg ho]
  by_cases c : s < L
  · refine ⟨C2, D2, s, hs, mk _ (by rw [hcL]; exact if_neg (nI_ge c (by omega))), md _ (by rw [hdL]; exact if_pos (nI_lt c (by omega))), pD, ?_, f1, g1, ⟨a2 _ (by omega), a2 _ (by omega)⟩, o2 731 (by omega), fun i t hi ht h1 h2 => r2 _ (by omega) (by omega)⟩
    rw [d2, sI_row, d1, sI_row, up_comm _ _ _ (by omega), ← uv, e2, e1]
    exact (z_upL S hj (k := 2) (by omega) v).up (Lk_pts hj hx) (Ok_pts S.bd0 (by omega) (by omega))
  · obtain ⟨y, ey⟩ : ∃ y, y = D.1 732 10 + D.1 732 4 := ⟨_, rfl⟩
    obtain ⟨C3, e3⟩ : ∃ X, X = sI C2 (a + 18 + 3 * j) 6 y := ⟨_, rfl⟩
    obtain ⟨Y, eY, y2, yo, yl⟩ := q_dropK (a + 18 + 3 * j) 200 0 FU C3 rfl (by unfold FU; omega)
    obtain ⟨D3, d3⟩ : ∃ X, X = sI D2 732 (72 + 20 * j + 9) y := ⟨_, rfl⟩
    obtain ⟨Z, eZ, z2, zo, zl⟩ := m_98 (j := j) (by omega) (nI p) 200 0 FU D3 rfl (by unfold FU; omega)
    have hcy : C2.1 a 0 + C2.1 (a + 1) 4 = y := by rw [a2 _ (by omega), a2 _ (by omega), S.hd (k := 0) (by omega), cs 4 (by omega), ey]
    have hdy : D2.1 732 10 + D2.1 732 4 = y := by rw [r2 _ (by omega) (by omega), r2 _ (by omega) (by omega), ey]
    have z3 : ∀ k, (k < 392 + 200 * j ∨ 392 + 200 * j + 200 ≤ k) → Z.1 732 k = up (up (D.1 732) (72 + 20 * j + 17) u) (72 + 20 * j + 9) y k := fun k hk => by
      rw [z2, if_neg (by omega), d3, sI_row, d2, sI_row, d1, sI_row]
      exact up3 _ _ _ _ (by omega)
    have z0 : ∀ k, k < 200 → Z.1 732 (392 + 200 * j + k) = 0 := fun k hk => by rw [z2, if_pos (by omega)]
    have zT : Z.1 732 10 = nI T := by rw [z3 10 (by omega), up_ne (by omega), up_ne (by omega)]; exact S.wT
    have z5 : Z.1 732 5 = nI l := by rw [z3 5 (by omega), up_ne (by omega), up_ne (by omega)]; exact el
    refine ⟨Y, Z, 0, by omega, mk _ ?_, md _ ?_, ?_, ?_, fun o ho => ⟨?_, ?_⟩, ⟨fun o h1 h2 => ?_, fun k hk => ?_, ?_⟩, ⟨?_, ?_⟩, ?_, fun i t hi ht h1 h2 => ?_⟩
    · rw [hcL, hcy, ← e3]
      exact if_pi (nI_le (by omega) (by omega)) (lt_i (bn_i eY rfl))
    · rw [hdL, hdy]
      refine if_ni (nI_nlt (by omega) (by omega)) (bn_i (lay_i (k := 9) y (by omega) (by omega)) ?_)
      rw [← d3]
      exact eZ
    · rw [zT]
      have q := m_at (D := Z) (i := j) (T := T) (d := T) (l := l) (f := fun _ => 0) (by omega) z0 z5 zT l2 lT (Nat.le_refl _) (by omega)
      rw [sm_0] at q
      exact q
    · have S1 := (z_upL S hj (k := 2) (by omega) v).up (Lk_cart hj (k := 6) (by omega)) (v := y) (Ok_free S.bd0 (t := 9) (by omega) (by omega))
      refine z_zero S1 hj (fun k hk => by rw [y2, if_pos (by omega)]) (fun o ho => ?_) ?_ z0 (fun k hk => ?_)
      · rw [yo o ho, e3, sI_ap1, sI_ap1, a2 o ho]
        rfl
      · rw [yl, e3, e2, e1]; rfl
      · rw [z3 k hk, uv]; rfl
    · rw [yo o (by omega), e3, sI_ap1, if_neg (by omega), a2 o (by omega)]
    · rw [yl, e3]; exact (f1 o ho).2
    · rw [zo o h2, d3, sI_ap1, if_neg h2, o2 o h2]
    · rw [zo 731 (by omega), d3, sI_ap1, if_neg (by omega), o2 731 (by omega)]
    · rw [zl, d3]; exact g1.lng
    · rw [yo a (by omega), e3, sI_ap1, if_neg (by omega), a2 a (by omega)]
    · rw [yo (a + 7) (by omega), e3, sI_ap1, if_neg (by omega), a2 (a + 7) (by omega)]
    · rw [zo 731 (by omega), d3, sI_ap1, if_neg (by omega), o2 731 (by omega)]
    · rw [z3 _ (by omega), up_ne (by omega), up_ne (by omega)]
/-- what a call does when it is done, and when an order of a text does it: b says whether the reference keeps -/
def Core (a T0 T1 : Nat) (op : mm_M → Option (Int32 × mm_M)) (g : mm_M → Bool → Option (Int32 × mm_M)) : Prop := ∀ C D P K W T N, T ≤ T0 → Sim okA C a (D.1 732) P K W T N → (∃ r, r < 0 ∧ op C = some (r, C) ∧ ∀ b, g D b = some (r, D)) ∨ (∃ r C2, ¬ r < 0 ∧ op C = some (r, C2) ∧ FrC C C2 a ∧ ∀ b D1, D1.1 732 = D.1 732 → fX7_keepIf D b = some D1 → ∃ D2, g D b = some (r, D2) ∧ FrD D1 D2 ∧ SimX C2 a (D2.1 732) T1)
theorem kIf_f (D : mm_M) : fX7_keepIf D false = some D := if_ni (by decide) rfl
theorem Core.tw {T0 T1 : Nat} {op : mm_M → Option (Int32 × mm_M)} {g : mm_M → Bool → Option (Int32 × mm_M)} {g1 : mm_M → Option (Int32 × mm_M)} (hT : T0 ≤ T1) (h : Core 1 T0 T1 op g) (hg : ∀ D r, g D true = some r → g1 D = some r) : Tw T0 T1 (fun C => chg C op) g1 := by
  refine g_op hT (fun C1 D h' P K W T N lh hT' S => ?_)
  rcases h C1 D P K W T N hT' S with ⟨r, hr, h1, h2⟩ | ⟨r, C2, hr, h1, h2, h3⟩
  · exact Or.inl ⟨r, hr, h1, hg _ _ (h2 true)⟩
  · refine Or.inr ⟨r, C2, hr, h1, h2, fun D1 e1 ek => ?_⟩
    obtain ⟨D2, e2, f2, s2⟩ := h3 true D1 e1 (kIf ek)
    exact ⟨D2, hg _ _ e2, f2, s2⟩
theorem ge0 {y : Int32} (c0 : ¬ y < 1) : ¬ y < 0 := fun q => c0 (by
  rw [Int32.lt_iff_toInt_lt] at q ⊢
  have e0 : (0 : Int32).toInt = 0 := rfl
  have e1 : (1 : Int32).toInt = 1 := rfl
  omega)
theorem z_fineC {a T0 : Nat} (x y : Int32) : Core a T0 T0 (fun M => fX5_punish M a x y) (fun D b => fX7_tryFine D x y b) := by
  intro C D P K W T N hT S
  have lK := S.bd.lK
  rcases S.cart2 x with ⟨j, hj, e, h1, h2⟩ | ⟨h1, h2⟩
  · subst e
    by_cases c0 : y < 1
    · exact Or.inl ⟨-2, by decide, bn_i h1 (if_pi rfl (if_pi c0 rfl)), fun b => bn_i h2 (if_pi rfl (bn_i (in_lo c0) (if_ni (by decide) rfl)))⟩
    · by_cases c1 : (9 : Int32) < y
      · exact Or.inl ⟨-2, by decide, bn_i h1 (if_pi rfl (if_ni c0 (if_ni (Int32.not_le.mpr c1) rfl))), fun b => bn_i h2 (if_pi rfl (bn_i (in_hi c1) (if_ni (by decide) rfl)))⟩
      · obtain ⟨p, hp, ep⟩ := nI_of2 (M := 9) (n := 9) rfl (ge0 c0) (Int32.not_lt.mp c1)
        subst ep
        obtain ⟨C', D', s, hs, g1, g2, g3, S', fC, fD, -⟩ := z_give S hj (p := p) (by omega)
        refine Or.inr ⟨nI s, C', nI_pos (by omega), ?_, fC, fun b D1 e1 ek => ?_⟩
        · refine bn_i h1 (if_pi rfl (if_ni c0 (if_pi (Int32.not_lt.mp c1) (gd_i (ix_nI (n := 16) (by omega) (by decide)) ?_))))
          rw [nI_clamp (by omega)]
          exact bn2_i g1 rfl
        · obtain ⟨C2, D2, s2, hs2, q1, q2, q3, S2, fC2, fD2, -⟩ := z_give (C := C) (D := D1) (by rw [e1]; exact S) hj (p := p) (by omega)
          rw [g1] at q1
          have q4 : (nI s, C') = (nI s2, C2) := Option.some.inj q1
          have q5 : nI s = nI s2 := congrArg Prod.fst q4
          have q6 : C' = C2 := congrArg Prod.snd q4
          subst q6
          refine ⟨D2, ?_, fD2, P, K, W, T, N, hT, S2⟩
          rw [q5]
          exact bn_i h2 (if_pi rfl (bn_i (in_tt c0 c1) (if_pi rfl (bn_i ek (bn_i q2 (bn_i q3 rfl))))))
  · exact Or.inl ⟨-1, by decide, bn_i h1 (if_ni (by decide) rfl), fun b => bn_i h2 (if_ni (by decide) rfl)⟩
theorem z_fine {T0 : Nat} (x y : Int32) : Tw T0 T0 (fun C => fX6_fine C x y) (fun D => fX7_fine D x y) := Core.tw (g := fun D b => fX7_tryFine D x y b) (Nat.le_refl _) (z_fineC x y) (fun D r h => bn2_i (a := r.1) (b := r.2) h rfl)
