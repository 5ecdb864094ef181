/-! SIM: wish, the call -/
abbrev dup (n : Nat) (y z u : Int32) : Prop := (2 ≤ n ∧ y = z) ∨ (n = 3 ∧ (y = u ∨ z = u))
theorem dup_2 {y z u : Int32} (c : y = z) : dup 2 y z u := Or.inl ⟨by omega, c⟩
theorem dup_3 {y z u : Int32} (c : y = z) : dup 3 y z u := Or.inl ⟨by omega, c⟩
theorem dup_4 {y z u : Int32} (c : y = u) : dup 3 y z u := Or.inr ⟨rfl, Or.inl c⟩
theorem dup_5 {y z u : Int32} (c : z = u) : dup 3 y z u := Or.inr ⟨rfl, Or.inr c⟩
theorem m36 (x y z u : Int32) (b : Bool) (M : mm_M) {n : Nat} (hn : n ≤ 3) : fX7_tryWish_36 x y z u b M (nI n) = fX7_tryWish_72 x y z u b M (nI n) (decide (dup n y z u)) := by
  unfold fX7_tryWish_36 fX7_tryWish_49 fX7_tryWish_67 fX7_tryWish_71
  match n, hn with
  | 0, _ =>
    rw [if_pos (by decide), if_pos (by decide), decide_eq_false (by unfold dup; omega)]
  | 1, _ =>
    rw [if_pos (by decide), if_pos (by decide), decide_eq_false (by unfold dup; omega)]
  | 2, _ =>
    rw [if_neg (by decide)]
    by_cases c : y = z
    · rw [if_pos c, decide_eq_true (dup_2 c)]
    · rw [if_neg c, if_pos (by decide), decide_eq_false (fun q : dup 2 y z u => q.elim (fun q => c q.2) (fun q => absurd q.1 (by omega)))]
  | 3, _ =>
    rw [if_neg (by decide)]
    by_cases c : y = z
    · rw [if_pos c, decide_eq_true (dup_3 c)]
    · rw [if_neg c, if_neg (by decide)]
      by_cases c2 : y = u
      · rw [if_pos c2, decide_eq_true (dup_4 c2)]
      · rw [if_neg c2]
        by_cases c3 : z = u
        · rw [if_pos c3, decide_eq_true (dup_5 c3)]
        · rw [if_neg c3, decide_eq_false (fun q : dup 3 y z u => q.elim (fun q => c q.2) (fun q => q.2.elim c2 c3))]
theorem q70 (a : Nat) (x y z u : Int32) (M : mm_M) {n : Nat} (hn : n ≤ 3) : fX5_tellWishes_70 a x y z u M (nI n) = if dup n y z u then some (-2, M) else fX5_tellWishes_104 a x y z u M (nI n) := by
  unfold fX5_tellWishes_70 fX5_tellWishes_83
  match n, hn with
  | 0, _ =>
    rw [if_pos (by decide), if_neg (by decide), if_neg (by unfold dup; omega)]
  | 1, _ =>
    rw [if_pos (by decide), if_neg (by decide), if_neg (by unfold dup; omega)]
  | 2, _ =>
    rw [if_neg (by decide)]
    by_cases c : y = z
    · rw [if_pos c, if_pos (dup_2 c)]
    · rw [if_neg c, if_neg (by decide), if_neg (fun q : dup 2 y z u => q.elim (fun q => c q.2) (fun q => absurd q.1 (by omega)))]
  | 3, _ =>
    rw [if_neg (by decide)]
    by_cases c : y = z
    · rw [if_pos c, if_pos (dup_3 c)]
    · rw [if_neg c, if_pos (by decide)]
      by_cases c2 : y = u
      · rw [if_pos c2, if_pos (dup_4 c2)]
      · rw [if_neg c2]
        by_cases c3 : z = u
        · rw [if_pos c3, if_pos (dup_5 c3)]
        · rw [if_neg c3, if_neg (fun q : dup 3 y z u => q.elim (fun q => c q.2) (fun q => q.2.elim c2 c3))]
theorem z_none {C D : mm_M} {a P K W T : Nat} {N : Nat → Nat} (S : Sim okA C a (D.1 732) P K W T N) (x : Int32) : (nn x P ∧ fX5_isPitchOrNone C a x = some true ∧ fX7_isNumber D x = some true) ∨ (¬ nn x P ∧ fX5_isPitchOrNone C a x = some false ∧ fX7_isNumber D x = some false) := by
  by_cases c : x = -6
  · exact Or.inl ⟨Or.inl c, if_pi c rfl, if_pi c rfl⟩
  · rcases S.hasPitch x with ⟨j, hj, e, h⟩ | ⟨hne, h⟩
    · rcases S.isPitch x with ⟨j', hj', e', h'⟩ | ⟨hne', h'⟩
      · exact Or.inl ⟨Or.inr ⟨j, hj, e⟩, if_ni c (bn_i h (if_pi rfl rfl)), if_ni c (bn_i h' (if_pi rfl rfl))⟩
      · exact absurd e (hne' j hj)
    · rcases S.isPitch x with ⟨j', hj', e', h'⟩ | ⟨hne', h'⟩
      · exact absurd e' (hne j' hj')
      · exact Or.inr ⟨fun q => q.elim c (fun ⟨j, hj, e⟩ => hne j hj e), if_ni c (bn_i h (if_ni (by decide) rfl)), if_ni c (bn_i h' (if_ni (by decide) rfl))⟩
theorem m72_bad {C D : mm_M} {a P K W T : Nat} {N : Nat → Nat} (S : Sim okA C a (D.1 732) P K W T N) (x y z u : Int32) (b fl : Bool) (v : Int32) (h : ¬ (nn y P ∧ nn z P ∧ nn u P)) : fX7_tryWish_72 x y z u b D v fl = some (-2, D) := by
  unfold fX7_tryWish_72
  rcases z_none S y with ⟨n1, -, e1⟩ | ⟨n1, -, e1⟩
  · refine bn_i e1 (if_pi rfl ?_)
    rcases z_none S z with ⟨n2, -, e2⟩ | ⟨n2, -, e2⟩
    · refine bn_i e2 (if_pi rfl ?_)
      rcases z_none S u with ⟨n3, -, e3⟩ | ⟨n3, -, e3⟩
      · exact absurd ⟨n1, n2, n3⟩ h
      · exact bn_i e3 (if_ni (by decide) rfl)
    · exact bn_i e2 (if_ni (by decide) rfl)
  · exact bn_i e1 (if_ni (by decide) rfl)
/-- how many wishes -/
def nw (y z u : Int32) : Nat := if y = -6 then 0 else if z = -6 then 1 else if u = -6 then 2 else 3
theorem nw_le (y z u : Int32) : nw y z u ≤ 3 := by
  unfold nw
  by_cases c : y = -6
  · rw [if_pos c]; omega
  · rw [if_neg c]
    by_cases c : z = -6
    · rw [if_pos c]; omega
    · rw [if_neg c]
      by_cases c : u = -6
      · rw [if_pos c]; omega
      · rw [if_neg c]; omega
theorem nn_0 {x : Int32} {P : Nat} (hP : P ≤ 10) (h : nn x P) : 0 ≤ x ↔ ¬ x = -6 := by
  rcases h with h | ⟨j, hj, e⟩
  · subst h; decide
  · subst e
    have h1 : (0 : Int32) ≤ nI j := Int32.not_lt.mp (nI_pos (by omega))
    exact ⟨fun _ q => absurd (q ▸ h1) (by decide), fun _ => h1⟩
theorem m_head {P : Nat} (hP : P ≤ 10) (x y z u : Int32) (b : Bool) (D : mm_M) (h1 : nn y P) (h2 : nn z P) (h3 : nn u P) : (if 0 ≤ y then if 0 ≤ z then if 0 ≤ u then fX7_tryWish_36 x y z u b D 3 else fX7_tryWish_36 x y z u b D 2 else fX7_tryWish_36 x y z u b D 1 else fX7_tryWish_36 x y z u b D 0) = fX7_tryWish_36 x y z u b D (nI (nw y z u)) := by
  unfold nw
  by_cases c1 : y = -6
  · rw [if_pos c1, if_neg (fun q => (nn_0 hP h1).mp q c1)]; rfl
  · rw [if_neg c1, if_pos ((nn_0 hP h1).mpr c1)]
    by_cases c2 : z = -6
    · rw [if_pos c2, if_neg (fun q => (nn_0 hP h2).mp q c2)]; rfl
    · rw [if_neg c2, if_pos ((nn_0 hP h2).mpr c2)]
      by_cases c3 : u = -6
      · rw [if_pos c3, if_neg (fun q => (nn_0 hP h3).mp q c3)]; rfl
      · rw [if_neg c3, if_pos ((nn_0 hP h3).mpr c3)]; rfl
theorem m_head_any (x y z u : Int32) (b : Bool) (D : mm_M) : ∃ n, n ≤ 3 ∧ (if 0 ≤ y then if 0 ≤ z then if 0 ≤ u then fX7_tryWish_36 x y z u b D 3 else fX7_tryWish_36 x y z u b D 2 else fX7_tryWish_36 x y z u b D 1 else fX7_tryWish_36 x y z u b D 0) = fX7_tryWish_36 x y z u b D (nI n) := by
  by_cases c1 : 0 ≤ y
  · rw [if_pos c1]
    by_cases c2 : 0 ≤ z
    · rw [if_pos c2]
      by_cases c3 : 0 ≤ u
      · rw [if_pos c3]; exact ⟨3, by omega, rfl⟩
      · rw [if_neg c3]; exact ⟨2, by omega, rfl⟩
    · rw [if_neg c2]; exact ⟨1, by omega, rfl⟩
  · rw [if_neg c1]; exact ⟨0, by omega, rfl⟩
theorem q_head (a : Nat) (x y z u : Int32) (C : mm_M) : (if y = (-6) then fX5_tellWishes_70 a x y z u C 0 else if z = (-6) then fX5_tellWishes_70 a x y z u C 1 else if u = (-6) then fX5_tellWishes_70 a x y z u C 2 else fX5_tellWishes_70 a x y z u C 3) = fX5_tellWishes_70 a x y z u C (nI (nw y z u)) := by
  unfold nw
  by_cases c1 : y = -6
  · rw [if_pos c1, if_pos c1]; rfl
  · rw [if_neg c1, if_neg c1]
    by_cases c2 : z = -6
    · rw [if_pos c2, if_pos c2]; rfl
    · rw [if_neg c2, if_neg c2]
      by_cases c3 : u = -6
      · rw [if_pos c3, if_pos c3]; rfl
      · rw [if_neg c3, if_neg c3]; rfl
theorem nw_x {P : Nat} {y z u : Int32} (h1 : nn y P) (h2 : nn z P) (h3 : nn u P) : ∀ k, k < nw y z u → ∃ p, p < P ∧ (fun k => if k = 0 then y else if k = 1 then z else u) k = nI p := by
  have nx : ∀ {v : Int32}, nn v P → ¬ v = -6 → ∃ p, p < P ∧ v = nI p := fun h c => h.elim (fun q => absurd q c) id
  intro k hk
  unfold nw at hk
  by_cases c1 : y = -6
  · rw [if_pos c1] at hk; omega
  · rw [if_neg c1] at hk
    by_cases c2 : z = -6
    · rw [if_pos c2] at hk
      have e : k = 0 := by omega
      subst e
      exact nx h1 c1
    · rw [if_neg c2] at hk
      by_cases c3 : u = -6
      · rw [if_pos c3] at hk
        match k, hk with
        | 0, _ => exact nx h1 c1
        | 1, _ => exact nx h2 c2
        | k + 2, h => exact absurd h (by omega)
      · rw [if_neg c3] at hk
        match k, hk with
        | 0, _ => exact nx h1 c1
        | 1, _ => exact nx h2 c2
        | 2, _ => exact nx h3 c3
        | k + 3, h => exact absurd h (by omega)
theorem z_wish {T0 : Nat} (x y z u : Int32) : Tw T0 T0 (fun C => fX6_wish C x y z u) (fun D => fX7_wish D x y z u) := by
  refine g_op (op := fun M2 => fX5_tellWishes M2 1 x y z u) (Nat.le_refl _) (fun C1 D h P K W T N lh hT S => ?_)
  have lK := S.bd.lK
  have lP := S.bd.lP
  have hn := nw_le y z u
  rcases S.cart2 x with ⟨j, hj, e, h1, h2⟩ | ⟨h1, h2⟩
  · subst e
    by_cases hv : nn y P ∧ nn z P ∧ nn u P
    · obtain ⟨v1, v2, v3⟩ := hv
      have t1 : fX5_isPitchOrNone C1 1 y = some true ∧ fX7_isNumber D y = some true := (z_none S y).elim (fun q => q.2) (fun q => absurd v1 q.1)
      have t2 : fX5_isPitchOrNone C1 1 z = some true ∧ fX7_isNumber D z = some true := (z_none S z).elim (fun q => q.2) (fun q => absurd v2 q.1)
      have t3 : fX5_isPitchOrNone C1 1 u = some true ∧ fX7_isNumber D u = some true := (z_none S u).elim (fun q => q.2) (fun q => absurd v3 q.1)
      have hc : ∀ r, fX5_tellWishes_70 1 (nI j) y z u C1 (nI (nw y z u)) = r → fX5_tellWishes C1 1 (nI j) y z u = r := fun r hr => by
        unfold fX5_tellWishes
        refine bn_i h1 (if_pi rfl (bn_i t1.1 (if_pi rfl (bn_i t2.1 (if_pi rfl (bn_i t3.1 (if_pi rfl ?_)))))))
        rw [q_head]; exact hr
      have hm : ∀ r, fX7_tryWish_72 (nI j) y z u true D (nI (nw y z u)) (decide (dup (nw y z u) y z u)) = some r → fX7_wish D (nI j) y z u = some r := fun r hr => by
        refine bn2_i (a := r.1) (b := r.2) ?_ rfl
        unfold fX7_tryWish
        refine bn_i h2 (if_pi rfl ?_)
        rw [m_head lP (nI j) y z u true D v1 v2 v3, m36 _ _ _ _ _ _ hn]
        exact hr
      by_cases hd : dup (nw y z u) y z u
      · refine Or.inl ⟨-2, by decide, hc _ (by rw [q70 _ _ _ _ _ _ hn, if_pos hd]), hm _ ?_⟩
        unfold fX7_tryWish_72
        exact bn_i t1.2 (if_pi rfl (bn_i t2.2 (if_pi rfl (bn_i t3.2 (if_pi rfl (if_pi (decide_eq_true hd) rfl))))))
      · refine Or.inr ⟨nI (nw y z u), sI (sI (sI (sI C1 (1 + 18 + 3 * j) 2 (nI (nw y z u))) (1 + 18 + 3 * j + 1) 0 y) (1 + 18 + 3 * j + 1) 1 z) (1 + 18 + 3 * j + 1) 2 u, nI_pos (by omega), hc _ ?_, (FrC.w (by omega)).tr ((FrC.w (by omega)).tr ((FrC.w (by omega)).tr (FrC.w (by omega)))), fun D1 e1 ek => ?_⟩
        · rw [q70 _ _ _ _ _ _ hn, if_neg hd]
          unfold fX5_tellWishes_104
          refine gd_i (ix_nI (n := 16) (by omega) (by decide)) ?_
          rw [nI_clamp (by omega)]
          rfl
        · refine ⟨sI (sI (sI (sI D1 732 (72 + 20 * j + 2) (nI (nw y z u))) 732 (72 + 20 * j + 3) y) 732 (72 + 20 * j + 4) z) 732 (72 + 20 * j + 5) u, hm _ ?_, FrD.w.tr (FrD.w.tr (FrD.w.tr FrD.w)), P, K, W, T, (fun i => if i = j then nw y z u else N i), hT, ?_⟩
          · unfold fX7_tryWish_72
            refine bn_i t1.2 (if_pi rfl (bn_i t2.2 (if_pi rfl (bn_i t3.2 (if_pi rfl (if_ni (fun q => hd (of_decide_eq_true q)) ?_))))))
            exact bn_i (kIf ek) (bn_i (lay_i (k := 2) _ (by omega) (by omega)) (bn_i (lay_i (k := 3) _ (by omega) (by omega)) (bn_i (lay_i (k := 4) _ (by omega) (by omega)) (bn_i (lay_i (k := 5) _ (by omega) (by omega)) rfl))))
          · rw [sI_row, sI_row, sI_row, sI_row, e1]
            exact z_setN S hj hn (fun k => if k = 0 then y else if k = 1 then z else u) (nw_x v1 v2 v3)
    · refine Or.inl ⟨-2, by decide, ?_, ?_⟩
      · show fX5_tellWishes C1 1 (nI j) y z u = _
        unfold fX5_tellWishes
        refine bn_i h1 (if_pi rfl ?_)
        rcases z_none S y with ⟨n1, e1, -⟩ | ⟨n1, e1, -⟩
        · refine bn_i e1 (if_pi rfl ?_)
          rcases z_none S z with ⟨n2, e2, -⟩ | ⟨n2, e2, -⟩
          · refine bn_i e2 (if_pi rfl ?_)
            rcases z_none S u with ⟨n3, e3, -⟩ | ⟨n3, e3, -⟩
            · exact absurd ⟨n1, n2, n3⟩ hv
            · exact bn_i e3 (if_ni (by decide) rfl)
          · exact bn_i e2 (if_ni (by decide) rfl)
        · exact bn_i e1 (if_ni (by decide) rfl)
      · refine bn2_i (a := -2) (b := D) ?_ rfl
        unfold fX7_tryWish
        refine bn_i h2 (if_pi rfl ?_)
        obtain ⟨n, hn', e⟩ := m_head_any (nI j) y z u true D
        rw [e, m36 _ _ _ _ _ _ hn']
        exact m72_bad S _ _ _ _ _ _ _ hv
  · exact Or.inl ⟨-1, by decide, bn_i h1 (if_ni (by decide) rfl), bn2_i (a := -1) (b := D) (bn_i h2 (if_ni (by decide) rfl)) rfl⟩
