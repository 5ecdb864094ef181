/-! SIM: a day: the last day is cleared, who takes part -/
/-- the reference's reason ahead of the lots -/
def wy (w : Nat → Int32) (j : Nat) : Nat := if w (72 + 20 * j + 2) = 0 then 1 else if w 10 ≤ w (72 + 20 * j + 7) then (if w (72 + 20 * j + 9) < w 10 then 0 else 3) else 2
def wyC (w : Nat → Int32) (j : Nat) : Nat := if wy w j = 0 then 4 else wy w j
def tkt (w : Nat → Int32) (j : Nat) : Nat := if wy w j = 0 then (if (w 0).toNatClampNeg < 1 + (w (72 + 20 * j + 6)).toNatClampNeg then (w 0).toNatClampNeg else 1 + (w (72 + 20 * j + 6)).toNatClampNeg) else 0
theorem wy_le (w : Nat → Int32) (j : Nat) : wy w j ≤ 3 := by
  unfold wy
  by_cases c1 : w (72 + 20 * j + 2) = 0
  · rw [if_pos c1]; omega
  · rw [if_neg c1]
    by_cases c2 : w 10 ≤ w (72 + 20 * j + 7)
    · rw [if_pos c2]
      by_cases c3 : w (72 + 20 * j + 9) < w 10
      · rw [if_pos c3]; omega
      · rw [if_neg c3]; omega
    · rw [if_neg c2]; omega
theorem q_rs {M : mm_M} {c j : Nat} {w : Nat → Int32} (h2 : M.1 c 2 = w (72 + 20 * j + 2)) (h4 : M.1 c 4 = w (72 + 20 * j + 7)) (h6 : M.1 c 6 = w (72 + 20 * j + 9)) : fX0_reasonBeforeLots M c (w 10) = some (nI (wyC w j)) := by
  unfold fX0_reasonBeforeLots wyC wy
  rw [h2, h4, h6]
  by_cases c1 : w (72 + 20 * j + 2) = 0
  · rw [if_pos c1, if_pos c1]; rfl
  · rw [if_neg c1, if_neg c1]
    by_cases c2 : w 10 ≤ w (72 + 20 * j + 7)
    · rw [if_pos c2, if_pos c2]
      by_cases c3 : w (72 + 20 * j + 9) < w 10
      · rw [if_pos c3, if_pos c3]; rfl
      · rw [if_neg c3, if_neg c3]; rfl
    · rw [if_neg c2, if_neg c2]; rfl
theorem m_why {D : mm_M} {j : Nat} {w : Nat → Int32} (hj : j < 16) (h2 : D.1 732 (72 + 20 * j + 2) = w (72 + 20 * j + 2)) (h7 : D.1 732 (72 + 20 * j + 7) = w (72 + 20 * j + 7)) (h9 : D.1 732 (72 + 20 * j + 9) = w (72 + 20 * j + 9)) (h10 : D.1 732 10 = w 10) : fX7_whyOut D (nI j) = some (nI (wy w j)) := by
  unfold fX7_whyOut wy
  refine bn_i (of_i (k := 2) hj (by omega)) ?_
  rw [h2]
  by_cases c1 : w (72 + 20 * j + 2) = 0
  · rw [if_pos c1, if_pos c1]; rfl
  · rw [if_neg c1, if_neg c1]
    refine bn_i (of_i (k := 7) hj (by omega)) ?_
    rw [h7, h10]
    by_cases c2 : w 10 ≤ w (72 + 20 * j + 7)
    · rw [if_pos c2, if_pos c2]
      refine bn_i (of_i (k := 9) hj (by omega)) ?_
      rw [h9]
      by_cases c3 : w (72 + 20 * j + 9) < w 10
      · rw [if_pos c3, if_pos c3]; rfl
      · rw [if_neg c3, if_neg c3]; rfl
    · rw [if_neg c2, if_neg c2]; rfl
/-- the class's carts are cleared -/
theorem q_29 {a K : Nat} (lK : K ≤ 16) : ∀ (d i n : Nat) (X : mm_M), i + d = K → d < n → X.1 a 3 = nI K → ∃ Y, fX1_clearLastDay_29 a n X (nI i) = some Y ∧ (∀ j, i ≤ j → j < K → ∀ k, k < 12 → Y.1 (a + 18 + 3 * j) k = if k = 8 ∨ k = 9 ∨ k = 11 then -6 else if k = 10 then 0 else X.1 (a + 18 + 3 * j) k) ∧ (∀ o, (∀ j, i ≤ j → j < K → o ≠ a + 18 + 3 * j) → Y.1 o = X.1 o) ∧ Y.2 = X.2 := by
  intro d
  induction d with
  | zero =>
    intro i n X hi hn h3
    obtain ⟨n, rfl⟩ : ∃ q, n = q + 1 := ⟨n - 1, by omega⟩
    have e : i = K := by omega
    subst e
    refine ⟨X, ?_, fun j h1 h2 => by omega, fun _ _ => rfl, rfl⟩
    rw [fX1_clearLastDay_29, h3]
    exact if_pi (Int32.le_refl _) rfl
  | succ d ih =>
    intro i n X hi hn h3
    obtain ⟨n, rfl⟩ : ∃ q, n = q + 1 := ⟨n - 1, by omega⟩
    obtain ⟨Z, eZ⟩ : ∃ Z, Z = sI (sI (sI (sI X (a + 18 + 3 * i) 8 (-6)) (a + 18 + 3 * i) 9 (-6)) (a + 18 + 3 * i) 10 0) (a + 18 + 3 * i) 11 (-6) := ⟨_, rfl⟩
    have zo : ∀ o, o ≠ a + 18 + 3 * i → Z.1 o = X.1 o := fun o ho => by
      rw [eZ]; simp only [sI_ap1, if_neg ho]
    have zc : ∀ k, k < 12 → Z.1 (a + 18 + 3 * i) k = if k = 8 ∨ k = 9 ∨ k = 11 then -6 else if k = 10 then 0 else X.1 (a + 18 + 3 * i) k := fun k hk => by
      rw [eZ]; simp only [sI_ap1, if_pos]
      match k, hk with
      | 0, _ => rfl
      | 1, _ => rfl
      | 2, _ => rfl
      | 3, _ => rfl
      | 4, _ => rfl
      | 5, _ => rfl
      | 6, _ => rfl
      | 7, _ => rfl
      | 8, _ => rfl
      | 9, _ => rfl
      | 10, _ => rfl
      | 11, _ => rfl
      | k + 12, h => exact absurd h (by omega)
    obtain ⟨Y, eY, yc, yo, yl⟩ := ih (i + 1) n Z (by omega) (by omega) (by rw [zo a (by omega)]; exact h3)
    refine ⟨Y, ?_, fun j h1 h2 k hk => ?_, fun o ho => ?_, yl.trans (by rw [eZ]; rfl)⟩
    · rw [fX1_clearLastDay_29, h3]
      refine if_ni (nI_ge (by omega) (by omega)) (gd_i (ix_nI (n := 16) (by omega) (by decide)) ?_)
      rw [nI_clamp (by omega)]
      refine bn_i (a := Z) (by rw [eZ]; rfl) (lt_i ?_)
      rw [nI_1]
      exact eY
    · by_cases e : j = i
      · subst e
        rw [yo _ (fun j' h1' h2' => by omega)]
        exact zc k hk
      · rw [yc j (by omega) h2 k hk, zo _ (by omega)]
    · rw [yo o (fun j h1 h2 => ho j (by omega) h2), zo o (ho i (Nat.le_refl _) (by omega))]
theorem q_clr {a P K : Nat} (lP : P ≤ 10) (lK : K ≤ 16) : ∀ (d i n : Nat) (X : mm_M), i + d = P → d < n → X.1 a 2 = nI P → X.1 a 3 = nI K → ∃ Y, fX1_clearLastDay_2 a n X (nI i) = some Y ∧ (∀ j, j < K → ∀ k, k < 12 → Y.1 (a + 18 + 3 * j) k = if k = 8 ∨ k = 9 ∨ k = 11 then -6 else if k = 10 then 0 else X.1 (a + 18 + 3 * j) k) ∧ (∀ j, i ≤ j → j < P → ∀ k, Y.1 (a + 8 + j) k = if k = 3 then -6 else X.1 (a + 8 + j) k) ∧ (∀ o, (∀ j, j < K → o ≠ a + 18 + 3 * j) → (∀ j, i ≤ j → j < P → o ≠ a + 8 + j) → Y.1 o = X.1 o) ∧ Y.2 = X.2 := by
  intro d
  induction d with
  | zero =>
    intro i n X hi hn h2 h3
    obtain ⟨n, rfl⟩ : ∃ q, n = q + 1 := ⟨n - 1, by omega⟩
    obtain ⟨Y, eY, yc, yo, yl⟩ := q_29 (a := a) lK K 0 FU X (by omega) (by unfold FU; omega) h3
    refine ⟨Y, ?_, fun j hj k hk => yc j (by omega) hj k hk, fun j h1 h2 => by omega, fun o ho _ => yo o (fun j _ hj => ho j hj), yl⟩
    rw [fX1_clearLastDay_2, h2]
    exact if_pi (nI_le (by omega) (by omega)) eY
  | succ d ih =>
    intro i n X hi hn h2 h3
    obtain ⟨n, rfl⟩ : ∃ q, n = q + 1 := ⟨n - 1, by omega⟩
    obtain ⟨Y, eY, yc, yp, yo, yl⟩ := ih (i + 1) n (sI X (a + 8 + i) 3 (-6)) (by omega) (by omega) (by rw [sI_ap1, if_neg (by omega)]; exact h2) (by rw [sI_ap1, if_neg (by omega)]; exact h3)
    have zo : ∀ o, o ≠ a + 8 + i → (sI X (a + 8 + i) 3 (-6)).1 o = X.1 o := fun o ho => by rw [sI_ap1, if_neg ho]
    refine ⟨Y, ?_, fun j hj k hk => ?_, fun j h1 h2 k => ?_, fun o ho hp => ?_, yl⟩
    · rw [fX1_clearLastDay_2, h2]
      refine if_ni (nI_ge (by omega) (by omega)) (gd_i (ix_nI (n := 10) (by omega) (by decide)) ?_)
      rw [nI_clamp (by omega)]
      refine lt_i (lt_i ?_)
      rw [nI_1]
      exact eY
    · rw [yc j hj k hk, zo _ (by omega)]
    · by_cases e : j = i
      · subst e
        rw [yo _ (fun j' h' => by omega) (fun j' h1' h2' => by omega), sI_ap1, if_pos rfl]
      · rw [yp j (by omega) h2 k, zo _ (by omega)]
    · rw [yo o ho (fun j h1 h2 => hp j (by omega) h2), zo o (hp i (Nat.le_refl _) (by omega))]
/-- the class's tickets -/
theorem q_hand {a K tk : Nat} {w : Nat → Int32} {l : Nat → Nat} (lK : K ≤ 16) (htk : tk ≤ 20) (w0 : w 0 = nI tk) (hl : ∀ j, j < K → w (72 + 20 * j + 6) = nI (l j) ∧ l j < 2 ^ 30) : ∀ (d i n all : Nat) (X : mm_M), i + d = K → d < n → X.1 a 3 = nI K → X.1 a 0 = w 10 → X.1 (a + 1) 0 = nI tk → (∀ j, j < K → X.1 (a + 18 + 3 * j) 2 = w (72 + 20 * j + 2) ∧ X.1 (a + 18 + 3 * j) 3 = w (72 + 20 * j + 6) ∧ X.1 (a + 18 + 3 * j) 4 = w (72 + 20 * j + 7) ∧ X.1 (a + 18 + 3 * j) 6 = w (72 + 20 * j + 9)) → ∃ Y, fX1_handOutTickets_4 a n X (nI all) (nI i) = some (nI (all + sm (tkt w) i d), Y) ∧ (∀ j, i ≤ j → j < K → Y.1 (a + 18 + 3 * j) 10 = nI (wyC w j) ∧ Y.1 (a + 6) j = nI (tkt w j)) ∧ (∀ j, j < i → Y.1 (a + 6) j = X.1 (a + 6) j) ∧ (∀ o k, o ≠ a + 6 → k ≠ 10 → Y.1 o k = X.1 o k) ∧ (∀ o, o ≠ a + 6 → (∀ j, i ≤ j → j < K → o ≠ a + 18 + 3 * j) → Y.1 o = X.1 o) ∧ Y.2 = X.2 := by
  intro d
  induction d with
  | zero =>
    intro i n all X hi hn h3 h0 ht hf
    obtain ⟨n, rfl⟩ : ∃ q, n = q + 1 := ⟨n - 1, by omega⟩
    have e : i = K := by omega
    subst e
    refine ⟨X, ?_, fun j h1 h2 => by omega, fun _ _ => rfl, fun _ _ _ _ => rfl, fun _ _ _ => rfl, rfl⟩
    rw [fX1_handOutTickets_4, h3]
    exact if_pi (Int32.le_refl _) rfl
  | succ d ih =>
    intro i n all X hi hn h3 h0 ht hf
    obtain ⟨n, rfl⟩ : ∃ q, n = q + 1 := ⟨n - 1, by omega⟩
    have hc : i < K := by omega
    obtain ⟨f2, f3, f4, f6⟩ := hf i hc
    obtain ⟨hl1, hl2⟩ := hl i hc
    obtain ⟨X1, e1⟩ : ∃ Z, Z = sI X (a + 18 + 3 * i) 10 (nI (wyC w i)) := ⟨_, rfl⟩
    obtain ⟨X2, e2⟩ : ∃ Z, Z = sI X1 (a + 6) i (nI (tkt w i)) := ⟨_, rfl⟩
    have x1 : ∀ o k, (o ≠ a + 18 + 3 * i ∨ k ≠ 10) → X1.1 o k = X.1 o k := fun o k h => by
      rw [e1, sI_ap1]
      by_cases q : o = a + 18 + 3 * i
      · subst q
        rw [if_pos rfl]
        exact if_neg (by omega)
      · rw [if_neg q]
    have x2 : ∀ o k, (o ≠ a + 18 + 3 * i ∨ k ≠ 10) → o ≠ a + 6 → X2.1 o k = X.1 o k := fun o k h h2 => by
      rw [e2, sI_ap1, if_neg h2, x1 o k h]
    obtain ⟨Y, eY, yc, yt, yk, yo, yl⟩ := ih (i + 1) n (all + tkt w i) X2 (by omega) (by omega) (by rw [x2 _ _ (by omega) (by omega)]; exact h3) (by rw [x2 _ _ (by omega) (by omega)]; exact h0) (by rw [x2 _ _ (by omega) (by omega)]; exact ht) (fun j hj => by
      rw [x2 _ 2 (by omega) (by omega), x2 _ 3 (by omega) (by omega), x2 _ 4 (by omega) (by omega), x2 _ 6 (by omega) (by omega)]
      exact hf j hj)
    have x26 : X2.1 (a + 6) i = nI (tkt w i) := by rw [e2, sI_ap1, if_pos rfl]; exact if_pos rfl
    have e75 : fX1_handOutTickets_75 a (fX1_handOutTickets_4 a n) X1 (nI all) (nI i) (a + 6) (nI i) (nI (tkt w i)) = some (nI (all + tkt w i + sm (tkt w) (i + 1) d), Y) := by
      unfold fX1_handOutTickets_75
      refine gd_i (ix_nI (n := 16) (by omega) (by decide)) ?_
      rw [nI_clamp (by omega), ← e2]
      refine lt_i ?_
      refine gd_i (fun q => q.elim (nI_pos (by omega)) (fun q2 => by omega)) ?_
      rw [x26, nI_add]
      refine lt_i (lt_i ?_)
      rw [nI_1]
      exact eY
    refine ⟨Y, ?_, fun j h1 h2 => ?_, fun j hj => ?_, fun o k h1 h2 => ?_, fun o h1 h2 => ?_, by rw [yl, e2, e1]; rfl⟩
    · have es : sm (tkt w) i (d + 1) = tkt w i + sm (tkt w) (i + 1) d := rfl
      rw [es, ← Nat.add_assoc, fX1_handOutTickets_4, h3]
      refine if_ni (nI_ge hc (by omega)) (gd_i (ix_nI (n := 16) (by omega) (by decide)) ?_)
      rw [nI_clamp (by omega), h0]
      refine bn_i (q_rs f2 f4 f6) ?_
      rw [← e1]
      refine lt_i ?_
      rw [show X1.1 (a + 18 + 3 * i) 10 = nI (wyC w i) by rw [e1, sI_ap1, if_pos rfl]; exact if_pos rfl]
      by_cases q : wy w i = 0
      · have q4 : wyC w i = 4 := if_pos q
        rw [q4]
        refine if_pi rfl ?_
        unfold fX1_handOutTickets_44
        refine if_pi rfl ?_
        have et : (if (X1.1 (a + 1) 0) < (1 + (X1.1 (a + 18 + 3 * i) 3)) then (X1.1 (a + 1) 0) else (1 + (X1.1 (a + 18 + 3 * i) 3))) = nI (tkt w i) := by
          rw [x1 _ _ (by omega), x1 _ _ (by omega), ht, f3, hl1]
          have e3 : 1 + nI (l i) = nI (1 + l i) := nI_add 1 (l i)
          unfold tkt
          rw [e3, if_pos q, w0, hl1, nI_clamp (by omega), nI_clamp (by omega)]
          by_cases c : tk < 1 + l i
          · rw [if_pos (nI_lt c (by omega)), if_pos c]
          · rw [if_neg (nI_nlt (by omega) (by omega)), if_neg c]
        rw [et]
        exact e75
      · have q4 : wyC w i = wy w i := if_neg q
        have := wy_le w i
        refine if_ni (fun z => ?_) ?_
        · rw [q4] at z
          have z2 := (nI_eq (a := wy w i) (b := 4) (by omega) (by omega)).mp z
          omega
        · unfold fX1_handOutTickets_44
          refine if_ni (by decide) ?_
          have et : (0 : Int32) = nI (tkt w i) := by
            unfold tkt
            rw [if_neg q]
            rfl
          rw [et]
          exact e75
    · by_cases e : j = i
      · subst e
        rw [yo _ (by omega) (fun j' h1' h2' => by omega), yt j (by omega), x26]
        refine ⟨?_, rfl⟩
        rw [e2, sI_ap1, if_neg (by omega), e1, sI_ap1, if_pos rfl]
        exact if_pos rfl
      · exact yc j (by omega) h2
    · rw [yt j (by omega), e2, sI_ap1, if_pos rfl]
      show (if j = i then _ else X1.1 (a + 6) j) = _
      rw [if_neg (by omega), x1 _ _ (by omega)]
    · rw [yk o k h1 h2, x2 o k (Or.inr h2) h1]
    · rw [yo o h1 (fun j h1' h2' => h2 j (by omega) h2')]
      funext k
      exact x2 o k (Or.inl (h2 i (Nat.le_refl _) hc)) h1
