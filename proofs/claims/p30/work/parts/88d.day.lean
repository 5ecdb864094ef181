/-! SIM: a day as a whole, days -/
theorem m_ptx {T i : Nat} : (392 + (200 * nI i)) + nI (T % 200) = nI (392 + 200 * i + T % 200) := by
  rw [show (392 : Int32) = nI 392 from rfl, show (200 : Int32) = nI 200 from rfl, Int32.add_comm (nI 392), mulI, nI_add, Nat.add_comm (200 * i)]
theorem z_ndl {a P K W T : Nat} {N : Nat → Nat} : ∀ (d i n n' : Nat) (C D : mm_M), i + d = K → d < n → d < n' → Sim okA C a (D.1 732) P K W T N → ∃ C' D', fX5_beginNextDay_12 a n C (nI i) = some C' ∧ fX7_passDay_37 n' D (nI i) = some D' ∧ Sim okA C' a (D'.1 732) P K W T N ∧ FrC C C' a ∧ FrD D D' ∧ ∀ s, s < 392 → D'.1 732 s = D.1 732 s := by
  intro d
  induction d with
  | zero =>
    intro i n n' C D hi hn hn' S
    obtain ⟨n, rfl⟩ : ∃ q, n = q + 1 := ⟨n - 1, by omega⟩
    obtain ⟨n', rfl⟩ : ∃ q, n' = q + 1 := ⟨n' - 1, by omega⟩
    have lK := S.bd.lK
    refine ⟨C, D, ?_, ?_, S, FrC.rf _ _, FrD.rf _, fun _ _ => rfl⟩
    · rw [fX5_beginNextDay_12, S.cK]; exact if_pi (nI_le (by omega) (by omega)) rfl
    · rw [fX7_passDay_37, S.wK]; exact if_pi (nI_le (by omega) (by omega)) rfl
  | succ d ih =>
    intro i n n' C D hi hn hn' S
    obtain ⟨n, rfl⟩ : ∃ q, n = q + 1 := ⟨n - 1, by omega⟩
    obtain ⟨n', rfl⟩ : ∃ q, n' = q + 1 := ⟨n' - 1, by omega⟩
    have lK := S.bd.lK
    have lT := S.bd.lT
    have hK : i < K := by omega
    have hx : T % 200 < 200 := Nat.mod_lt _ (by omega)
    have S1 : Sim okA (sI C (a + 18 + 3 * i + 2) (T % 200) 0) a ((sI D 732 (392 + 200 * i + T % 200) 0).1 732) P K W T N := by
      rw [sI_row]
      exact S.up (Lk_pts hK hx) (Ok_pt0 S.bd0 (by omega))
    obtain ⟨C', D', q1, q2, q3, q4, q5, q6⟩ := ih (i + 1) n n' _ _ (by omega) (by omega) (by omega) S1
    refine ⟨C', D', ?_, ?_, q3, (FrC.w (by omega)).tr q4, FrD.w.tr q5, fun s hs => ?_⟩
    · rw [fX5_beginNextDay_12, S.cK, S.cT]
      refine if_ni (nI_ge hK (by omega)) (gd_i (ix_nI (n := 16) (by omega) (by decide)) ?_)
      rw [nI_clamp (by omega)]
      refine bn_i (a := sI C (a + 18 + 3 * i + 2) (T % 200) 0) ?_ ?_
      · unfold fX0_dropPointsOfSameSpot
        rw [mod200 (by omega)]
        refine lt_i (if_ni (nI_pos (by omega)) (gd_i (ix_nI (n := 200) hx (by decide)) ?_))
        rw [nI_clamp (by omega)]
        rfl
      · rw [nI_1]
        exact lt_i q1
    · rw [fX7_passDay_37, S.wK, S.wT, mod200 (by omega), m_ptx]
      refine if_ni (nI_ge hK (by omega)) (gd_i (ix_nI (n := 3592) (by omega) (by decide)) ?_)
      rw [nI_clamp (by omega)]
      refine lt_i ?_
      rw [nI_1]
      exact lt_i q2
    · rw [q6 s hs, sI_row, up_ne (by omega)]
/-- a day of the class's State at a -/
def dayC (a : Nat) (C : mm_M) : Option mm_M :=
  bn (fX1_runChecks C a) fun M3 => bn (fX1_clearLastDay M3 a) fun M5 => bn (fX1_drawLots M5 a) fun M7 => bn (fX1_shareKitchens M7 a) fun M9 => bn (fX1_makeSwaps M9 a) fun M11 => bn (fX1_trade M11 a) fun M13 => fX5_beginNextDay M13 a
/-- who had a pitch on the day counts it -/
def Cnt (K : Nat) (D D' : mm_M) : Prop := ∀ j, j < K → D'.1 732 (72 + 20 * j + 10) = if D'.1 732 (72 + 20 * j + 11) = -6 then D.1 732 (72 + 20 * j + 10) else D.1 732 (72 + 20 * j + 10) + 1
set_option maxHeartbeats 1000000 in
theorem z_day {C D : mm_M} {a P K W T : Nat} {N : Nat → Nat} (ha : kT a = (4, 0)) (S : Sim okA C a (D.1 732) P K W T N) (hT : T + 1 < 2 ^ 30) : ∃ C' D', dayC a C = some C' ∧ fX7_passDay D = some D' ∧ Sim okA C' a (D'.1 732) P K 0 (T + 1) N ∧ FrC C C' a ∧ FrD D D' ∧ Cnt K D D' := by
  have lK := S.bd.lK
  obtain ⟨C1, D1, a1, b1, S1, f1, g1, k1⟩ := z_checks ha S
  obtain ⟨C2, C2', D2, a2, a2', b2, R2, f2, g2, k2⟩ := z_begin S1
  obtain ⟨C3, D3, ord, p, tv, a3, b3, R3, z3, f3, g3, k3⟩ := z_drawl (sm (pos (tkt (D1.1 732))) 0 K) FU FU 0 (tkt (D1.1 732)) (fun _ => 0) (sI C2' a 14 0) D2 rfl (by
    have := R2.2.2.2.2.2.2.2
    unfold FU
    omega) (by
    have := R2.2.2.2.2.2.2.2
    unfold FU
    omega) R2
  obtain ⟨C4, D4, a4, b4, S4, O4, f4, g4, k4⟩ := z_kit R3 z3
  obtain ⟨C5, D5, a5, b5, S5, f5, g5, k5⟩ := z_swaps S4
  have O5 : Od (D5.1 732) K ord p := O4.of (fun i t hi ht => k5 i t (by omega) (by omega) (by omega) (by omega))
  obtain ⟨C6, D6, a6, b6, S6, f6, g6, h1, h2, h3, -, h5⟩ := z_trl (T := T) rfl K 0 FU FU C5 D5 (by omega) (by unfold FU; omega) (by unfold FU; omega) (z_bump S5 hT) (fun j _ hj => (S5.val (72 + 20 * j + 6)).los j hj rfl) O5
  have c60 : C6.1 a 0 = nI T := by rw [h1]; exact S5.cT
  have d60 : D6.1 732 10 = nI T := by rw [h2]; exact S5.wT
  obtain ⟨C7, D7, a7, b7, S7, f7, g7, k7⟩ := z_ndl (a := a) (P := P) (K := K) (W := 0) (T := T + 1) (N := N) K 0 FU FU (sI C6 a 0 (nI (T + 1))) (sI D6 732 10 (nI (T + 1))) (by omega) (by unfold FU; omega) (by unfold FU; omega) (by rw [sI_row]; exact S6)
  refine ⟨C7, D7, ?_, ?_, S7, ((((((f1.tr f2).tr f3).tr f4).tr f5).tr f6).tr (FrC.w (by omega))).tr f7, ((((((g1.tr g2).tr g3).tr g4).tr g5).tr g6).tr FrD.w).tr g7, fun j hj => ?_⟩
  · unfold dayC
    refine bn_i a1 (bn_i a2 (bn_i (a := C3) ?_ (bn_i a4 (bn_i a5 (bn_i a6 ?_)))))
    · unfold fX1_drawLots
      exact bn2_i a2' (lt_i a3)
    · unfold fX5_beginNextDay
      rw [c60, nI_1]
      exact lt_i a7
  · unfold fX7_passDay
    refine bn_i b1 (bn_i b2 (bn_i b3 (bn_i b4 (bn_i b5 (bn_i b6 ?_)))))
    rw [d60, nI_1]
    exact lt_i b7
  · have kj : ∀ u, u < 20 → D7.1 732 (72 + 20 * j + u) = D6.1 732 (72 + 20 * j + u) := fun u hu => by
      rw [k7 _ (by omega), sI_row, up_ne (by omega)]
    rw [kj 10 (by omega), kj 11 (by omega), h3 j (by omega) hj, h5 j (by omega), k5 j 10 (by omega) (by omega) (by omega) (by omega), k4 j (by omega), k3 j (by omega), k2 j (by omega), k1 j (by omega)]
theorem passD (a : Nat) (x1 : Int32) (n : Nat) (M : mm_M) (v2 : Int32) : fX5_passDays_16 a x1 (n + 1) M v2 = if x1 ≤ v2 then some ((M.1 a 0), M) else bn (dayC a M) fun M15 => lt (v2 + 1) fun y16 => fX5_passDays_16 a x1 n M15 y16 := by
  rw [fX5_passDays_16]
  by_cases c : x1 ≤ v2
  · rw [if_pos c, if_pos c]
  · rw [if_neg c, if_neg c]
    unfold dayC
    cases fX1_runChecks M a with
    | none => rfl
    | some M3 =>
      show bn (fX1_clearLastDay M3 a) _ = bn (bn (fX1_clearLastDay M3 a) _) _
      cases fX1_clearLastDay M3 a with
      | none => rfl
      | some M5 =>
        show bn (fX1_drawLots M5 a) _ = bn (bn (fX1_drawLots M5 a) _) _
        cases fX1_drawLots M5 a with
        | none => rfl
        | some M7 =>
          show bn (fX1_shareKitchens M7 a) _ = bn (bn (fX1_shareKitchens M7 a) _) _
          cases fX1_shareKitchens M7 a with
          | none => rfl
          | some M9 =>
            show bn (fX1_makeSwaps M9 a) _ = bn (bn (fX1_makeSwaps M9 a) _) _
            cases fX1_makeSwaps M9 a with
            | none => rfl
            | some M11 =>
              show bn (fX1_trade M11 a) _ = bn (bn (fX1_trade M11 a) _) _
              cases fX1_trade M11 a with
              | none => rfl
              | some M13 => rfl
theorem z_daysl {a P K x : Nat} {N : Nat → Nat} (ha : kT a = (4, 0)) (hx : x ≤ 60) (b : Bool) : ∀ (d i n n' W T : Nat) (C D : mm_M), i + d = x → d < n → d < n' → T + d < 2 ^ 30 → Sim okA C a (D.1 732) P K W T N → ∃ C' D' W', fX5_passDays_16 a (nI x) n C (nI i) = some (nI (T + d), C') ∧ fX7_tryDays_20 (nI x) b n' D (nI i) = some (nI (T + d), D') ∧ Sim okA C' a (D'.1 732) P K W' (T + d) N ∧ FrC C C' a ∧ FrD D D' := by
  intro d
  induction d with
  | zero =>
    intro i n n' W T C D hi hn hn' hT S
    obtain ⟨n, rfl⟩ : ∃ q, n = q + 1 := ⟨n - 1, by omega⟩
    obtain ⟨n', rfl⟩ : ∃ q, n' = q + 1 := ⟨n' - 1, by omega⟩
    refine ⟨C, D, W, ?_, ?_, S, FrC.rf _ _, FrD.rf _⟩
    · rw [passD, S.cT]; exact if_pi (nI_le (by omega) (by omega)) rfl
    · rw [fX7_tryDays_20, S.wT]; exact if_pi (nI_le (by omega) (by omega)) rfl
  | succ d ih =>
    intro i n n' W T C D hi hn hn' hT S
    obtain ⟨n, rfl⟩ : ∃ q, n = q + 1 := ⟨n - 1, by omega⟩
    obtain ⟨n', rfl⟩ : ∃ q, n' = q + 1 := ⟨n' - 1, by omega⟩
    obtain ⟨C1, D1, e1, e2, S1, f1, g1, -⟩ := z_day ha S (by omega)
    obtain ⟨C', D', W', q1, q2, q3, q4, q5⟩ := ih (i + 1) n n' 0 (T + 1) C1 D1 (by omega) (by omega) (by omega) (by omega) S1
    rw [show T + 1 + d = T + (d + 1) by omega] at q1 q2 q3
    refine ⟨C', D', W', ?_, ?_, q3, f1.tr q4, g1.tr q5⟩
    · rw [passD]
      refine if_ni (nI_ge (by omega) (by omega)) (bn_i e1 (lt_i ?_))
      rw [nI_1]; exact q1
    · rw [fX7_tryDays_20]
      refine if_ni (nI_ge (by omega) (by omega)) (bn_i e2 (lt_i ?_))
      rw [nI_1]; exact q2
theorem z_daysC {a T0 : Nat} (ha : kT a = (4, 0)) (hT0 : T0 + 60 < 2 ^ 30) (x : Int32) : Core a T0 (T0 + 60) (fun M => fX5_passDays M a x) (fun D b => fX7_tryDays D x b) := by
  intro C D P K W T N hT S
  by_cases c0 : x < 1
  · exact Or.inl ⟨-2, by decide, if_pi c0 rfl, fun b => bn_i (in_lo c0) (if_ni (by decide) rfl)⟩
  · by_cases c1 : (60 : Int32) < x
    · exact Or.inl ⟨-2, by decide, if_ni c0 (if_ni (Int32.not_le.mpr c1) rfl), fun b => bn_i (in_hi c1) (if_ni (by decide) rfl)⟩
    · obtain ⟨v, hv, ev⟩ := nI_of2 (M := 60) (n := 60) rfl (ge0 c0) (Int32.not_lt.mp c1)
      subst ev
      obtain ⟨C', D', W', q1, q2, q3, q4, q5⟩ := z_daysl ha hv true v 0 FU FU W T C D (by omega) (by unfold FU; omega) (by unfold FU; omega) (by omega) S
      refine Or.inr ⟨nI (T + v), C', nI_pos (by omega), if_ni c0 (if_pi (Int32.not_lt.mp c1) q1), q4, fun b D1 e1 ek => ?_⟩
      obtain ⟨C2, D2, W2, r1, r2, r3, r4, r5⟩ := z_daysl ha hv b v 0 FU FU W T C D1 (by omega) (by unfold FU; omega) (by unfold FU; omega) (by omega) (by rw [e1]; exact S)
      rw [q1] at r1
      have e2 : (nI (T + v), C') = (nI (T + v), C2) := Option.some.inj r1
      have e3 : C' = C2 := congrArg Prod.snd e2
      subst e3
      exact ⟨D2, bn_i (in_tt c0 c1) (if_pi rfl (bn_i ek r2)), r5, P, K, W2, T + v, N, by omega, r3⟩
theorem kT1 : kT 1 = (4, 0) := by decide
theorem kT67 : kT 67 = (4, 0) := by decide
theorem z_days {T0 : Nat} (hT0 : T0 + 60 < 2 ^ 30) (x : Int32) : Tw T0 (T0 + 60) (fun C => fX6_days C x) (fun D => fX7_days D x) := Core.tw (g := fun D b => fX7_tryDays D x b) (by omega) (z_daysC kT1 hT0 x) (fun D r h => bn2_i (a := r.1) (b := r.2) h rfl)
