/-! SIM: a day: checks -/
/-- the days on which carts had a pitch stay -/
def Kd (D D' : mm_M) : Prop := ∀ i, i < 16 → D'.1 732 (72 + 20 * i + 10) = D.1 732 (72 + 20 * i + 10)
theorem Kd.rf (D : mm_M) : Kd D D := fun _ _ => rfl
theorem Kd.tr {D D1 D2 : mm_M} (h1 : Kd D D1) (h2 : Kd D1 D2) : Kd D D2 := fun i hi => (h2 i hi).trans (h1 i hi)
theorem Kd.w {D : mm_M} {j t : Nat} {v : Int32} (ht : t < 20) (h : t ≠ 10) : Kd D (sI D 732 (72 + 20 * j + t) v) := fun i hi => by rw [sI_row, up_ne (by omega)]
theorem Kd.o {D : mm_M} {s : Nat} {v : Int32} (h : s < 72 ∨ 392 ≤ s) : Kd D (sI D 732 s v) := fun i hi => by rw [sI_row, up_ne (by omega)]
theorem Kd.n {D : mm_M} {o s : Nat} {v : Int32} (h : o ≠ 732) : Kd D (sI D o s v) := fun i hi => by rw [sI_ap1, if_neg (by omega)]
theorem z_nextl {C D : mm_M} {a P K W T : Nat} {N : Nat → Nat} (ha : kT a = (4, 0)) (S : Sim okA C a (D.1 732) P K W T N) : ∀ (d i n n' : Nat) (v : Option Nat) (b : Int32), i + d = K → d < n → d < n' → ((v = none ∧ b = -6) ∨ ∃ c, c < K ∧ v = some (a + 18 + 3 * c) ∧ b = nI c) → ∃ v' b', fX1_nextToCheck_4 a C n v (nI i) = some v' ∧ fX7_nextToCheck_5 D n' b (nI i) = some b' ∧ ((v' = none ∧ b' = -6) ∨ ∃ c, c < K ∧ v' = some (a + 18 + 3 * c) ∧ b' = nI c) := by
  have lK := S.bd.lK
  intro d
  induction d with
  | zero =>
    intro i n n' v b hi hn hn' hv
    obtain ⟨n, rfl⟩ : ∃ q, n = q + 1 := ⟨n - 1, by omega⟩
    obtain ⟨n', rfl⟩ : ∃ q, n' = q + 1 := ⟨n' - 1, by omega⟩
    have e : i = K := by omega
    subst e
    refine ⟨v, b, ?_, ?_, hv⟩
    · rw [fX1_nextToCheck_4, S.cK]; exact if_pi (Int32.le_refl _) rfl
    · rw [fX7_nextToCheck_5, S.wK]; exact if_pi (Int32.le_refl _) rfl
  | succ d ih =>
    intro i n n' v b hi hn hn' hv
    obtain ⟨n, rfl⟩ : ∃ q, n = q + 1 := ⟨n - 1, by omega⟩
    obtain ⟨n', rfl⟩ : ∃ q, n' = q + 1 := ⟨n' - 1, by omega⟩
    have hK : i < K := by omega
    have h5 : C.1 (a + 18 + 3 * i) 5 = D.1 732 (72 + 20 * i + 8) := S_cart S hK (by omega)
    have ho : fX7_of D (nI i) 8 = some (D.1 732 (72 + 20 * i + 8)) := of_i (k := 8) (by omega) (by omega)
    have mk : ∀ v' b', fX1_nextToCheck_4 a C n v' (nI (i + 1)) = fX1_nextToCheck_4 a C n v' (nI i + 1) ∧ fX7_nextToCheck_5 D n' b' (nI (i + 1)) = fX7_nextToCheck_5 D n' b' (nI i + 1) := fun v' b' => by rw [nI_1]; exact ⟨rfl, rfl⟩
    have cl : ∀ r, (if D.1 732 (72 + 20 * i + 8) = 0 then fX1_nextToCheck_4 a C n v (nI (i + 1)) else om v (fX1_nextToCheck_4 a C n (some (a + 18 + 3 * i)) (nI (i + 1))) (fun b5 => gd (kT b5 = (0, 0)) <| if (C.1 b5 4) ≤ (C.1 (a + 18 + 3 * i) 4) then fX1_nextToCheck_4 a C n (some b5) (nI (i + 1)) else fX1_nextToCheck_4 a C n (some (a + 18 + 3 * i)) (nI (i + 1)))) = r → fX1_nextToCheck_4 a C (n + 1) v (nI i) = r := fun r hr => by
      rw [fX1_nextToCheck_4, S.cK]
      refine if_ni (nI_ge hK (by omega)) (gd_i (ix_nI (n := 16) (by omega) (by decide)) ?_)
      rw [nI_clamp (by omega), h5, nI_1]
      exact hr
    have ml : ∀ r, fX7_nextToCheck_32 D (fX7_nextToCheck_5 D n') b (nI i) (decide (D.1 732 (72 + 20 * i + 8) = 1)) = r → fX7_nextToCheck_5 D (n' + 1) b (nI i) = r := fun r hr => by
      rw [fX7_nextToCheck_5, S.wK]
      refine if_ni (nI_ge hK (by omega)) (bn_i ho ?_)
      by_cases q : D.1 732 (72 + 20 * i + 8) = 1
      · rw [decide_eq_true q] at hr; exact if_pi q hr
      · rw [decide_eq_false q] at hr; exact if_ni q hr
    rcases (S.val _).wai i hK rfl with w0 | w1
    · obtain ⟨v', b', e1, e2, hv'⟩ := ih (i + 1) n n' v b (by omega) (by omega) (by omega) hv
      refine ⟨v', b', cl _ (by rw [if_pos w0]; exact e1), ml _ ?_, hv'⟩
      rw [decide_eq_false (by rw [w0]; decide)]
      refine if_ni (by decide) (lt_i ?_)
      rw [nI_1]; exact e2
    · have n0 : ¬ D.1 732 (72 + 20 * i + 8) = 0 := by rw [w1]; decide
      rcases hv with ⟨hv1, hv2⟩ | ⟨c, hc, hv1, hv2⟩
      · subst hv1
        subst hv2
        obtain ⟨v', b', e1, e2, hv'⟩ := ih (i + 1) n n' (some (a + 18 + 3 * i)) (nI i) (by omega) (by omega) (by omega) (Or.inr ⟨i, hK, rfl, rfl⟩)
        refine ⟨v', b', cl _ (by rw [if_neg n0]; exact e1), ml _ ?_, hv'⟩
        rw [decide_eq_true w1]
        refine if_pi rfl (if_pi (by decide) (lt_i ?_))
        rw [nI_1]; exact e2
      · subst hv1
        subst hv2
        have k0 := kS_cart ha (show c < 16 by omega)
        have c4 : C.1 (a + 18 + 3 * c) 4 = D.1 732 (72 + 20 * c + 7) := S_cart S hc (k := 4) (by omega)
        have i4 : C.1 (a + 18 + 3 * i) 4 = D.1 732 (72 + 20 * i + 7) := S_cart S hK (k := 4) (by omega)
        have o1 : fX7_of D (nI i) 7 = some (D.1 732 (72 + 20 * i + 7)) := of_i (k := 7) (by omega) (by omega)
        have o2 : fX7_of D (nI c) 7 = some (D.1 732 (72 + 20 * c + 7)) := of_i (k := 7) (by omega) (by omega)
        by_cases q : D.1 732 (72 + 20 * c + 7) ≤ D.1 732 (72 + 20 * i + 7)
        · obtain ⟨v', b', e1, e2, hv'⟩ := ih (i + 1) n n' (some (a + 18 + 3 * c)) (nI c) (by omega) (by omega) (by omega) (Or.inr ⟨c, hc, rfl, rfl⟩)
          refine ⟨v', b', cl _ ?_, ml _ ?_, hv'⟩
          · rw [if_neg n0]
            show gd _ _ = _
            rw [c4, i4]
            exact gd_i k0 (if_pi q e1)
          · rw [decide_eq_true w1]
            refine if_pi rfl (if_ni (nI_pos (by omega)) (bn_i o1 (bn_i o2 (if_pi q (lt_i ?_)))))
            rw [nI_1]; exact e2
        · obtain ⟨v', b', e1, e2, hv'⟩ := ih (i + 1) n n' (some (a + 18 + 3 * i)) (nI i) (by omega) (by omega) (by omega) (Or.inr ⟨i, hK, rfl, rfl⟩)
          refine ⟨v', b', cl _ ?_, ml _ ?_, hv'⟩
          · rw [if_neg n0]
            show gd _ _ = _
            rw [c4, i4]
            exact gd_i k0 (if_ni q e1)
          · rw [decide_eq_true w1]
            refine if_pi rfl (if_ni (nI_pos (by omega)) (bn_i o1 (bn_i o2 (if_ni q (lt_i ?_)))))
            rw [nI_1]; exact e2
theorem z_next {C D : mm_M} {a P K W T : Nat} {N : Nat → Nat} (ha : kT a = (4, 0)) (S : Sim okA C a (D.1 732) P K W T N) : (fX1_nextToCheck C a = some none ∧ fX7_nextToCheck D = some (-6)) ∨ ∃ c, c < K ∧ fX1_nextToCheck C a = some (some (a + 18 + 3 * c)) ∧ fX7_nextToCheck D = some (nI c) := by
  obtain ⟨v', b', e1, e2, h⟩ := z_nextl ha S K 0 FU FU none (-6) (by omega) (by have := S.bd.lK; unfold FU; omega) (by have := S.bd.lK; unfold FU; omega) (Or.inl ⟨rfl, rfl⟩)
  rcases h with ⟨h1, h2⟩ | ⟨c, hc, h1, h2⟩
  · subst h1; subst h2; exact Or.inl ⟨e1, e2⟩
  · subst h1; subst h2; exact Or.inr ⟨c, hc, e1, e2⟩
theorem m_idle {D : mm_M} {x : Nat} (hx : x ≤ 8) (h : fX7_nextToCheck D = some (-6)) (h2 : D.1 732 2 = nI x) : ∀ (d i n : Nat), i + d = x → d < n → fX7_checkAll_2 n D (nI i) = some D := by
  intro d
  induction d with
  | zero =>
    intro i n hi hn
    obtain ⟨n, rfl⟩ : ∃ q, n = q + 1 := ⟨n - 1, by omega⟩
    rw [fX7_checkAll_2, h2]
    exact if_pi (nI_le (by omega) (by omega)) rfl
  | succ d ih =>
    intro i n hi hn
    obtain ⟨n, rfl⟩ : ∃ q, n = q + 1 := ⟨n - 1, by omega⟩
    rw [fX7_checkAll_2, h2]
    refine if_ni (nI_ge (by omega) (by omega)) (bn_i h (if_pi (by decide) (lt_i ?_)))
    rw [nI_1]
    exact ih (i + 1) n (by omega) (by omega)
theorem z_checksl {a P K W T x : Nat} {N : Nat → Nat} (ha : kT a = (4, 0)) (hx : x ≤ 8) : ∀ (d i n n' : Nat) (C D : mm_M), i + d = x → d < n → d < n' → D.1 732 2 = nI x → Sim okA C a (D.1 732) P K W T N → ∃ C' D', fX1_runChecks_2 a n C (nI i) = some C' ∧ fX7_checkAll_2 n' D (nI i) = some D' ∧ Sim okA C' a (D'.1 732) P K W T N ∧ FrC C C' a ∧ FrD D D' ∧ Kd D D' := by
  intro d
  induction d with
  | zero =>
    intro i n n' C D hi hn hn' h2 S
    obtain ⟨n, rfl⟩ : ∃ q, n = q + 1 := ⟨n - 1, by omega⟩
    obtain ⟨n', rfl⟩ : ∃ q, n' = q + 1 := ⟨n' - 1, by omega⟩
    have c2 : C.1 (a + 1) 2 = nI x := (S.eq (a + 1) 2 2 (Or.inr (Or.inl ⟨rfl, by omega, rfl⟩))).trans h2
    refine ⟨C, D, ?_, ?_, S, FrC.rf _ _, FrD.rf _, Kd.rf _⟩
    · rw [fX1_runChecks_2, c2]; exact if_pi (nI_le (by omega) (by omega)) rfl
    · rw [fX7_checkAll_2, h2]; exact if_pi (nI_le (by omega) (by omega)) rfl
  | succ d ih =>
    intro i n n' C D hi hn hn' h2 S
    obtain ⟨n, rfl⟩ : ∃ q, n = q + 1 := ⟨n - 1, by omega⟩
    obtain ⟨n', rfl⟩ : ∃ q, n' = q + 1 := ⟨n' - 1, by omega⟩
    have lK := S.bd.lK
    have c2 : C.1 (a + 1) 2 = nI x := (S.eq (a + 1) 2 2 (Or.inr (Or.inl ⟨rfl, by omega, rfl⟩))).trans h2
    rcases z_next ha S with ⟨e1, e2⟩ | ⟨c, hc, e1, e2⟩
    · refine ⟨C, D, ?_, m_idle hx e2 h2 (d + 1) i (n' + 1) hi hn', S, FrC.rf _ _, FrD.rf _, Kd.rf _⟩
      rw [fX1_runChecks_2, c2]
      exact if_ni (nI_ge (by omega) (by omega)) (bn_i e1 rfl)
    · obtain ⟨y, ey⟩ : ∃ y, y = D.1 732 10 + D.1 732 1 := ⟨_, rfl⟩
      have cy : C.1 a 0 + C.1 (a + 1) 1 = y := by rw [S.hd (k := 0) (by omega), S.eq (a + 1) 1 1 (Or.inr (Or.inl ⟨rfl, by omega, rfl⟩)), ey]
      have S1 := S.up (Lk_cart hc (k := 4) (by omega)) (v := y) (Ok_free S.bd0 (t := 7) (by omega) (by omega))
      have S2 := S1.up (Lk_cart hc (k := 5) (by omega)) (v := 0) (Ok_wai S.bd0 (by omega) (Or.inl rfl))
      obtain ⟨D1, d1⟩ : ∃ X, X = sI (sI D 732 (72 + 20 * c + 7) y) 732 (72 + 20 * c + 8) 0 := ⟨_, rfl⟩
      have S3 : Sim okA (sI (sI C (a + 18 + 3 * c) 4 y) (a + 18 + 3 * c) 5 0) a (D1.1 732) P K W T N := by
        rw [d1, sI_row, sI_row]; exact S2
      obtain ⟨C', D', q1, q2, q3, q4, q5, q6⟩ := ih (i + 1) n n' _ D1 (by omega) (by omega) (by omega) (by rw [d1, sI_row, sI_row, up_ne (by omega), up_ne (by omega)]; exact h2) S3
      refine ⟨C', D', ?_, ?_, q3, ((FrC.w (by omega)).tr (FrC.w (by omega))).tr q4, FrD.tr (by rw [d1]; exact FrD.w.tr FrD.w) q5, Kd.tr (by rw [d1]; exact (Kd.w (by omega) (by omega)).tr (Kd.w (by omega) (by omega))) q6⟩
      · rw [fX1_runChecks_2, c2]
        refine if_ni (nI_ge (by omega) (by omega)) (bn_i e1 (gd_i (kS_cart ha (show c < 16 by omega)) ?_))
        rw [cy]
        refine lt_i (lt_i (lt_i ?_))
        rw [nI_1]
        exact q1
      · rw [fX7_checkAll_2, h2]
        refine if_ni (nI_ge (by omega) (by omega)) (bn_i e2 (if_ni (nI_pos (by omega)) ?_))
        rw [← ey]
        refine bn_i (lay_i (k := 7) y (by omega) (by omega)) (bn_i (lay_i (k := 8) 0 (by omega) (by omega)) (lt_i ?_))
        rw [nI_1, ← d1]
        exact q2
theorem z_checks {C D : mm_M} {a P K W T : Nat} {N : Nat → Nat} (ha : kT a = (4, 0)) (S : Sim okA C a (D.1 732) P K W T N) : ∃ C' D', fX1_runChecks C a = some C' ∧ fX7_checkAll D = some D' ∧ Sim okA C' a (D'.1 732) P K W T N ∧ FrC C C' a ∧ FrD D D' ∧ Kd D D' := by
  obtain ⟨x, hx, ex⟩ := (S.val 2).r2 rfl
  exact z_checksl ha hx x 0 FU FU C D (by omega) (by unfold FU; omega) (by unfold FU; omega) ex S
