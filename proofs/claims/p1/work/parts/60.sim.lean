/-! SIM: a State of the class and a row of the reference -/
/-- a class's cart field, and its slot in the reference's row of a cart -/
def sf (k : Nat) : Nat := if k = 0 then 0 else if k = 1 then 1 else if k = 2 then 2 else if k = 3 then 6 else if k = 4 then 7 else if k = 5 then 8 else if k = 6 then 9 else if k = 7 then 10 else if k = 8 then 11 else if k = 9 then 12 else if k = 10 then 13 else 14
theorem sf_inj : ∀ k, k < 12 → ∀ j, j < 12 → sf k = sf j → k = j := by decide
theorem sf_lt : ∀ k, k < 12 → sf k < 15 ∧ sf k ≠ 3 ∧ sf k ≠ 4 ∧ sf k ≠ 5 := by decide
def up (w : Nat → Int32) (k : Nat) (v : Int32) : Nat → Int32 := fun j => if j = k then v else w j
theorem up_eq (w : Nat → Int32) (k : Nat) (v : Int32) : up w k v k = v := if_pos rfl
theorem up_ne {w : Nat → Int32} {k : Nat} {v : Int32} {j : Nat} (h : j ≠ k) : up w k v j = w j := if_neg h
theorem sI_row (D : mm_M) (o k : Nat) (v : Int32) : (sI D o k v).1 o = up (D.1 o) k v := by rw [sI_ap1, if_pos rfl]; rfl
/-- none, or a number below n -/
def nn (v : Int32) (n : Nat) : Prop := v = -6 ∨ ∃ j, j < n ∧ v = nI j
/-- the State at the place a of C is the row w: P pitches, K carts, W swaps, day T; ok: the cart fields that are alike -/
structure Sim (ok : Nat → Nat → Prop) (C : mm_M) (a : Nat) (w : Nat → Int32) (P K W T : Nat) : Prop where
  lP : P ≤ 10
  lK : K ≤ 16
  lW : W ≤ 8
  lT : T < 2 ^ 30
  cP : C.1 a 2 = nI P
  wP : w 12 = nI P
  cK : C.1 a 3 = nI K
  wK : w 13 = nI K
  cW : C.1 a 4 = nI W
  wW : w 14 = nI W
  cT : C.1 a 0 = nI T
  wT : w 10 = nI T
  seed : C.1 a 1 = w 11
  made : C.1 a 5 = w 15
  sets : ∀ i, i < 10 → C.1 (a + 1) i = w i
  rng : ∀ i, i < 10 → ∃ j, j ≤ 10000 ∧ w i = nI j
  r0 : ∃ j, 1 ≤ j ∧ j ≤ 20 ∧ w 0 = nI j
  r2 : ∃ j, j ≤ 8 ∧ w 2 = nI j
  r5 : ∃ j, 1 ≤ j ∧ j ≤ 200 ∧ w 5 = nI j
  r8 : ∃ j, j ≤ 14 ∧ w 8 = nI j
  sd : ∃ j, j ≤ 65536 ∧ w 11 = nI j
  pit : ∀ i, i < P → ∀ k, k < 4 → C.1 (a + 8 + i) k = w (32 + 4 * i + k)
  pn : ∀ i, i < P → nn (w (32 + 4 * i + 3)) K
  crt : ∀ i, i < K → ∀ k, k < 12 → ok i k → C.1 (a + 18 + 3 * i) k = w (72 + 20 * i + sf k)
  wsh : ∀ i, i < K → ∀ k, k < 3 → nI k < w (72 + 20 * i + 2) → C.1 (a + 18 + 3 * i + 1) k = w (72 + 20 * i + 3 + k)
  wc : ∀ i, i < K → ∃ j, j ≤ 3 ∧ w (72 + 20 * i + 2) = nI j
  wp : ∀ i, i < K → ∀ k, k < 3 → nI k < w (72 + 20 * i + 2) → ∃ j, j < P ∧ w (72 + 20 * i + 3 + k) = nI j
  hrs : ∀ i, i < K → ∃ j, 1 ≤ j ∧ j ≤ 6 ∧ w (72 + 20 * i + 1) = nI j
  los : ∀ i, i < K → ∃ j, j ≤ T ∧ w (72 + 20 * i + 6) = nI j
  wai : ∀ i, i < K → w (72 + 20 * i + 8) = 0 ∨ w (72 + 20 * i + 8) = 1
  cwai : ∀ i, i < K → C.1 (a + 18 + 3 * i) 5 = w (72 + 20 * i + 8)
  at_ : ∀ i, i < K → nn (w (72 + 20 * i + 11)) P
  sums : ∀ i, i < K → ∀ k, k < 4 → (C.2 (a + 18 + 3 * i) (12 + k)).toInt32 = w (72 + 20 * i + 15 + k)
  pts : ∀ i, i < K → ∀ d, d < 200 → C.1 (a + 18 + 3 * i + 2) d = w (392 + 200 * i + d)
  swx : ∀ i, i < W → C.1 (a + 4) i = w (16 + 2 * i) ∧ ∃ j, j < K ∧ w (16 + 2 * i) = nI j
  swy : ∀ i, i < W → C.1 (a + 5) i = w (16 + 2 * i + 1) ∧ ∃ j, j < K ∧ w (16 + 2 * i + 1) = nI j
def okA (_ _ : Nat) : Prop := True
/-- a class's function on the State at a writes nothing else -/
def FrC (C C' : mm_M) (a : Nat) : Prop := ∀ o, (o < a ∨ a + 66 ≤ o) → C'.1 o = C.1 o ∧ C'.2 o = C.2 o
theorem FrC.rf (C : mm_M) (a : Nat) : FrC C C a := fun _ _ => ⟨rfl, rfl⟩
theorem FrC.tr {C C1 C2 : mm_M} {a : Nat} (h1 : FrC C C1 a) (h2 : FrC C1 C2 a) : FrC C C2 a := fun o h => ⟨(h2 o h).1.trans (h1 o h).1, (h2 o h).2.trans (h1 o h).2⟩
theorem FrC.sI {C : mm_M} {a o k : Nat} {v : Int32} (h : a ≤ o ∧ o < a + 66) : FrC C (sI C o k v) a := fun o' h' => ⟨by rw [sI_ap1, if_neg (by omega)], rfl⟩
/-- a reference's function writes only the row and its own numbers -/
def FrD (D D' : mm_M) : Prop := ∀ o, o ≠ 732 → D'.1 o = D.1 o
theorem FrD.rf (D : mm_M) : FrD D D := fun _ _ => rfl
theorem FrD.tr {D D1 D2 : mm_M} (h1 : FrD D D1) (h2 : FrD D1 D2) : FrD D D2 := fun o h => (h2 o h).trans (h1 o h)
theorem FrD.sI {D : mm_M} {k : Nat} {v : Int32} : FrD D (sI D 732 k v) := fun o' h' => by rw [sI_ap1, if_neg h']
/-- numbers: a cart, a pitch -/
theorem nn_lt {x : Int32} {n : Nat} (hn : n ≤ 16) : (¬ x < 0 ∧ ¬ nI n ≤ x) ↔ ∃ j, j < n ∧ x = nI j := by
  constructor
  · intro ⟨h0, h1⟩
    obtain ⟨j, hj, e⟩ := nI_of h0
    subst e
    refine ⟨j, ?_, rfl⟩
    rcases Nat.lt_or_ge j n with h | h
    · exact h
    · exact absurd (nI_le h hj) h1
  · rintro ⟨j, hj, rfl⟩
    exact ⟨nI_pos (by omega), nI_ge hj (by omega)⟩
theorem Sim.hasCart {ok : Nat → Nat → Prop} {C : mm_M} {a : Nat} {w : Nat → Int32} {P K W T : Nat} (S : Sim ok C a w P K W T) (x : Int32) : (∃ j, j < K ∧ x = nI j ∧ fX5_hasCart C a x = some true) ∨ ((∀ j, j < K → x ≠ nI j) ∧ fX5_hasCart C a x = some false) := by
  unfold fX5_hasCart
  rw [S.cK]
  by_cases h0 : x < 0
  · exact Or.inr ⟨fun j hj e => by subst e; exact nI_pos (by have := S.lK; omega) h0, if_pi h0 rfl⟩
  · by_cases h1 : nI K ≤ x
    · exact Or.inr ⟨fun j hj e => by subst e; exact nI_ge hj (by have := S.lK; omega) h1, if_ni h0 (if_pi h1 rfl)⟩
    · obtain ⟨j, hj, e⟩ := (nn_lt S.lK).mp ⟨h0, h1⟩
      subst e
      exact Or.inl ⟨j, hj, rfl, if_ni h0 (if_ni h1 (if_ni (show ¬ nI 16 ≤ nI j from nI_ge (by have := S.lK; omega) (by decide)) rfl))⟩
theorem Sim.hasPitch {ok : Nat → Nat → Prop} {C : mm_M} {a : Nat} {w : Nat → Int32} {P K W T : Nat} (S : Sim ok C a w P K W T) (x : Int32) : (∃ j, j < P ∧ x = nI j ∧ fX5_hasPitch C a x = some true) ∨ ((∀ j, j < P → x ≠ nI j) ∧ fX5_hasPitch C a x = some false) := by
  unfold fX5_hasPitch
  rw [S.cP]
  by_cases h0 : x < 0
  · exact Or.inr ⟨fun j hj e => by subst e; exact nI_pos (by have := S.lP; omega) h0, if_pi h0 rfl⟩
  · by_cases h1 : nI P ≤ x
    · exact Or.inr ⟨fun j hj e => by subst e; exact nI_ge hj (by have := S.lP; omega) h1, if_ni h0 (if_pi h1 rfl)⟩
    · obtain ⟨j, hj, e⟩ := (nn_lt (by have := S.lP; omega)).mp ⟨h0, h1⟩
      subst e
      exact Or.inl ⟨j, hj, rfl, if_ni h0 (if_ni h1 (if_ni (show ¬ nI 10 ≤ nI j from nI_ge (by have := S.lP; omega) (by decide)) rfl))⟩
theorem in_row {D : mm_M} {x : Int32} {n : Nat} (hn : n ≤ 16) : (∃ j, j < n ∧ x = nI j ∧ fX7_in D x 0 (nI n - 1) = some true) ∨ ((∀ j, j < n → x ≠ nI j) ∧ fX7_in D x 0 (nI n - 1) = some false) := by
  have e : (nI n - 1).toInt = (n : Int) - 1 := by
    match n, hn with
    | 0, _ => rfl
    | n + 1, h =>
      rw [← nI_1, Int32.add_sub_cancel, nI_toInt (by omega)]
      omega
  by_cases h0 : x < 0
  · exact Or.inr ⟨fun j hj e => by subst e; exact nI_pos (by omega) h0, in_lo h0⟩
  · by_cases h1 : nI n - 1 < x
    · refine Or.inr ⟨fun j hj e2 => ?_, in_hi h1⟩
      subst e2
      rw [Int32.lt_iff_toInt_lt, e, nI_toInt (by omega)] at h1
      omega
    · obtain ⟨j, hj, e2⟩ := nI_of h0
      subst e2
      refine Or.inl ⟨j, ?_, rfl, in_tt h0 h1⟩
      rw [Int32.lt_iff_toInt_lt, e, nI_toInt hj] at h1
      omega
theorem Sim.isCart {ok : Nat → Nat → Prop} {C D : mm_M} {a : Nat} {P K W T : Nat} (S : Sim ok C a (D.1 732) P K W T) (x : Int32) : (∃ j, j < K ∧ x = nI j ∧ fX7_isCart D x = some true) ∨ ((∀ j, j < K → x ≠ nI j) ∧ fX7_isCart D x = some false) := by
  unfold fX7_isCart
  rw [S.wK]
  rcases in_row (D := D) (x := x) S.lK with ⟨j, hj, e, h⟩ | ⟨h1, h⟩
  · exact Or.inl ⟨j, hj, e, bn_i h rfl⟩
  · exact Or.inr ⟨h1, bn_i h rfl⟩
theorem Sim.isPitch {ok : Nat → Nat → Prop} {C D : mm_M} {a : Nat} {P K W T : Nat} (S : Sim ok C a (D.1 732) P K W T) (x : Int32) : (∃ j, j < P ∧ x = nI j ∧ fX7_isPitch D x = some true) ∨ ((∀ j, j < P → x ≠ nI j) ∧ fX7_isPitch D x = some false) := by
  unfold fX7_isPitch
  rw [S.wP]
  rcases in_row (D := D) (x := x) (show P ≤ 16 by have := S.lP; omega) with ⟨j, hj, e, h⟩ | ⟨h1, h⟩
  · exact Or.inl ⟨j, hj, e, bn_i h rfl⟩
  · exact Or.inr ⟨h1, bn_i h rfl⟩
/-- both have the cart, or neither -/
theorem Sim.cart2 {ok : Nat → Nat → Prop} {C D : mm_M} {a : Nat} {P K W T : Nat} (S : Sim ok C a (D.1 732) P K W T) (x : Int32) : (∃ j, j < K ∧ x = nI j ∧ fX5_hasCart C a x = some true ∧ fX7_isCart D x = some true) ∨ (fX5_hasCart C a x = some false ∧ fX7_isCart D x = some false) := by
  rcases S.hasCart x with ⟨j, hj, e, h⟩ | ⟨h1, h⟩
  · rcases S.isCart x with ⟨j', hj', e', h'⟩ | ⟨h1', h'⟩
    · exact Or.inl ⟨j, hj, e, h, h'⟩
    · exact absurd e (h1' j hj)
  · rcases S.isCart x with ⟨j', hj', e', h'⟩ | ⟨h1', h'⟩
    · exact absurd e' (h1 j' hj')
    · exact Or.inr ⟨h, h'⟩
theorem Sim.pitch2 {ok : Nat → Nat → Prop} {C D : mm_M} {a : Nat} {P K W T : Nat} (S : Sim ok C a (D.1 732) P K W T) (x : Int32) : (∃ j, j < P ∧ x = nI j ∧ fX5_hasPitch C a x = some true ∧ fX7_isPitch D x = some true) ∨ (fX5_hasPitch C a x = some false ∧ fX7_isPitch D x = some false) := by
  rcases S.hasPitch x with ⟨j, hj, e, h⟩ | ⟨h1, h⟩
  · rcases S.isPitch x with ⟨j', hj', e', h'⟩ | ⟨h1', h'⟩
    · exact Or.inl ⟨j, hj, e, h, h'⟩
    · exact absurd e (h1' j hj)
  · rcases S.isPitch x with ⟨j', hj', e', h'⟩ | ⟨h1', h'⟩
    · exact absurd e' (h1 j' hj')
    · exact Or.inr ⟨h, h'⟩
/-- the reference's slots -/
theorem of_i {D : mm_M} {i k : Nat} (hi : i < 16) (hk : k < 20) : fX7_of D (nI i) (nI k) = some (D.1 732 (72 + 20 * i + k)) := by
  unfold fX7_of
  have e : (72 + (20 * nI i)) + nI k = nI (72 + 20 * i + k) := by
    rw [← nI_add, ← nI_add]
    congr 2
    exact (Int32.ofNat_mul 20 i).symm
  rw [e]
  refine gd_i (ix_nI (n := 3592) (by omega) (by decide)) ?_
  rw [nI_clamp (by omega)]
theorem lay_i {D : mm_M} {i k : Nat} (v : Int32) (hi : i < 16) (hk : k < 20) : fX7_lay D (nI i) (nI k) v = some (sI D 732 (72 + 20 * i + k) v) := by
  unfold fX7_lay
  have e : (72 + (20 * nI i)) + nI k = nI (72 + 20 * i + k) := by
    rw [← nI_add, ← nI_add]
    congr 2
    exact (Int32.ofNat_mul 20 i).symm
  rw [e]
  refine gd_i (ix_nI (n := 3592) (by omega) (by decide)) (lt_i ?_)
  rw [nI_clamp (by omega)]
theorem ofP_i {D : mm_M} {i k : Nat} (hi : i < 10) (hk : k < 4) : fX7_ofP D (nI i) (nI k) = some (D.1 732 (32 + 4 * i + k)) := by
  unfold fX7_ofP
  have e : (32 + (4 * nI i)) + nI k = nI (32 + 4 * i + k) := by
    rw [← nI_add, ← nI_add]
    congr 2
    exact (Int32.ofNat_mul 4 i).symm
  rw [e]
  refine gd_i (ix_nI (n := 3592) (by omega) (by decide)) ?_
  rw [nI_clamp (by omega)]
