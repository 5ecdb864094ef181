/-! SIM: a State of the class and a row of the reference -/
/-- a class's cart field, and its slot in the reference's row of a cart -/
def sf (k : Nat) : Nat := if k = 0 then 0 else if k = 1 then 1 else if k = 2 then 2 else if k = 3 then 6 else if k = 4 then 7 else if k = 5 then 8 else if k = 6 then 9 else if k = 7 then 10 else if k = 8 then 11 else if k = 9 then 12 else if k = 10 then 13 else 14
theorem sf_inj : ∀ k, k < 12 → ∀ j, j < 12 → sf k = sf j → k = j := by decide
theorem sf_lt : ∀ k, k < 12 → sf k < 15 ∧ sf k ≠ 3 ∧ sf k ≠ 4 ∧ sf k ≠ 5 := by decide
def up (w : Nat → Int32) (k : Nat) (v : Int32) : Nat → Int32 := fun j => if j = k then v else w j
theorem up_eq (w : Nat → Int32) (k : Nat) (v : Int32) : up w k v k = v := if_pos rfl
theorem up_ne {w : Nat → Int32} {k : Nat} {v : Int32} {j : Nat} (h : j ≠ k) : up w k v j = w j := if_neg h
theorem sI_row (D : mm_M) (o k : Nat) (v : Int32) : (sI D o k v).1 o = up (D.1 o) k v := by rw [sI_ap1, if_pos rfl]; rfl
/-- none, or a number below n -/
def nn (v : Int32) (n : Nat) : Prop := v = -6 ∨ ∃ j, j < n ∧ v = nI j
/-- what the slot j of a row holds: P pitches, K carts, W swaps, N wishes of each cart, day T -/
abbrev Ok (P K W T : Nat) (N : Nat → Nat) (j : Nat) (v : Int32) : Prop := (j < 10 → ∃ x, x ≤ 10000 ∧ v = nI x) ∧ (j = 0 → ∃ x, 1 ≤ x ∧ x ≤ 20 ∧ v = nI x) ∧ (j = 2 → ∃ x, x ≤ 8 ∧ v = nI x) ∧ (j = 5 → ∃ x, 1 ≤ x ∧ x ≤ 200 ∧ v = nI x) ∧ (j = 8 → ∃ x, x ≤ 14 ∧ v = nI x) ∧ (j = 10 → v = nI T) ∧ (j = 11 → ∃ x, x ≤ 65536 ∧ v = nI x) ∧ (j = 12 → v = nI P) ∧ (j = 13 → v = nI K) ∧ (j = 14 → v = nI W) ∧ (∀ i, i < W → (j = 16 + 2 * i ∨ j = 17 + 2 * i) → ∃ x, x < K ∧ v = nI x) ∧ (∀ i, i < P → j = 32 + 4 * i + 3 → nn v K) ∧ (∀ i, i < K → j = 72 + 20 * i + 1 → ∃ x, 1 ≤ x ∧ x ≤ 6 ∧ v = nI x) ∧ (∀ i, i < K → j = 72 + 20 * i + 2 → v = nI (N i)) ∧ (∀ i, i < K → ∀ k, k < N i → j = 72 + 20 * i + 3 + k → ∃ x, x < P ∧ v = nI x) ∧ (∀ i, i < K → j = 72 + 20 * i + 6 → ∃ x, x ≤ T ∧ v = nI x) ∧ (∀ i, i < K → j = 72 + 20 * i + 8 → v = 0 ∨ v = 1) ∧ (∀ i, i < K → j = 72 + 20 * i + 11 → nn v P) ∧ (∀ i, i < P → j = 32 + 4 * i → ∃ x, x ≤ 20000 ∧ v = nI x) ∧ (∀ i, i < K → ∀ d, d < 200 → j = 392 + 200 * i + d → ∃ x, x ≤ 10000 ∧ v = nI x)
theorem Ok.rng {P K W T : Nat} {N : Nat → Nat} {j : Nat} {v : Int32} (h : Ok P K W T N j v) : j < 10 → ∃ x, x ≤ 10000 ∧ v = nI x := h.1
theorem Ok.r0 {P K W T : Nat} {N : Nat → Nat} {j : Nat} {v : Int32} (h : Ok P K W T N j v) : j = 0 → ∃ x, 1 ≤ x ∧ x ≤ 20 ∧ v = nI x := h.2.1
theorem Ok.r2 {P K W T : Nat} {N : Nat → Nat} {j : Nat} {v : Int32} (h : Ok P K W T N j v) : j = 2 → ∃ x, x ≤ 8 ∧ v = nI x := h.2.2.1
theorem Ok.r5 {P K W T : Nat} {N : Nat → Nat} {j : Nat} {v : Int32} (h : Ok P K W T N j v) : j = 5 → ∃ x, 1 ≤ x ∧ x ≤ 200 ∧ v = nI x := h.2.2.2.1
theorem Ok.r8 {P K W T : Nat} {N : Nat → Nat} {j : Nat} {v : Int32} (h : Ok P K W T N j v) : j = 8 → ∃ x, x ≤ 14 ∧ v = nI x := h.2.2.2.2.1
theorem Ok.day {P K W T : Nat} {N : Nat → Nat} {j : Nat} {v : Int32} (h : Ok P K W T N j v) : j = 10 → v = nI T := h.2.2.2.2.2.1
theorem Ok.sd {P K W T : Nat} {N : Nat → Nat} {j : Nat} {v : Int32} (h : Ok P K W T N j v) : j = 11 → ∃ x, x ≤ 65536 ∧ v = nI x := h.2.2.2.2.2.2.1
theorem Ok.nP {P K W T : Nat} {N : Nat → Nat} {j : Nat} {v : Int32} (h : Ok P K W T N j v) : j = 12 → v = nI P := h.2.2.2.2.2.2.2.1
theorem Ok.nK {P K W T : Nat} {N : Nat → Nat} {j : Nat} {v : Int32} (h : Ok P K W T N j v) : j = 13 → v = nI K := h.2.2.2.2.2.2.2.2.1
theorem Ok.nW {P K W T : Nat} {N : Nat → Nat} {j : Nat} {v : Int32} (h : Ok P K W T N j v) : j = 14 → v = nI W := h.2.2.2.2.2.2.2.2.2.1
theorem Ok.swp {P K W T : Nat} {N : Nat → Nat} {j : Nat} {v : Int32} (h : Ok P K W T N j v) : ∀ i, i < W → (j = 16 + 2 * i ∨ j = 17 + 2 * i) → ∃ x, x < K ∧ v = nI x := h.2.2.2.2.2.2.2.2.2.2.1
theorem Ok.pn {P K W T : Nat} {N : Nat → Nat} {j : Nat} {v : Int32} (h : Ok P K W T N j v) : ∀ i, i < P → j = 32 + 4 * i + 3 → nn v K := h.2.2.2.2.2.2.2.2.2.2.2.1
theorem Ok.hrs {P K W T : Nat} {N : Nat → Nat} {j : Nat} {v : Int32} (h : Ok P K W T N j v) : ∀ i, i < K → j = 72 + 20 * i + 1 → ∃ x, 1 ≤ x ∧ x ≤ 6 ∧ v = nI x := h.2.2.2.2.2.2.2.2.2.2.2.2.1
theorem Ok.wc {P K W T : Nat} {N : Nat → Nat} {j : Nat} {v : Int32} (h : Ok P K W T N j v) : ∀ i, i < K → j = 72 + 20 * i + 2 → v = nI (N i) := h.2.2.2.2.2.2.2.2.2.2.2.2.2.1
theorem Ok.wp {P K W T : Nat} {N : Nat → Nat} {j : Nat} {v : Int32} (h : Ok P K W T N j v) : ∀ i, i < K → ∀ k, k < N i → j = 72 + 20 * i + 3 + k → ∃ x, x < P ∧ v = nI x := h.2.2.2.2.2.2.2.2.2.2.2.2.2.2.1
theorem Ok.los {P K W T : Nat} {N : Nat → Nat} {j : Nat} {v : Int32} (h : Ok P K W T N j v) : ∀ i, i < K → j = 72 + 20 * i + 6 → ∃ x, x ≤ T ∧ v = nI x := h.2.2.2.2.2.2.2.2.2.2.2.2.2.2.2.1
theorem Ok.wai {P K W T : Nat} {N : Nat → Nat} {j : Nat} {v : Int32} (h : Ok P K W T N j v) : ∀ i, i < K → j = 72 + 20 * i + 8 → v = 0 ∨ v = 1 := h.2.2.2.2.2.2.2.2.2.2.2.2.2.2.2.2.1
theorem Ok.at_ {P K W T : Nat} {N : Nat → Nat} {j : Nat} {v : Int32} (h : Ok P K W T N j v) : ∀ i, i < K → j = 72 + 20 * i + 11 → nn v P := h.2.2.2.2.2.2.2.2.2.2.2.2.2.2.2.2.2.1
theorem Ok.rnt {P K W T : Nat} {N : Nat → Nat} {j : Nat} {v : Int32} (h : Ok P K W T N j v) : ∀ i, i < P → j = 32 + 4 * i → ∃ x, x ≤ 20000 ∧ v = nI x := h.2.2.2.2.2.2.2.2.2.2.2.2.2.2.2.2.2.2.1
theorem Ok.pts {P K W T : Nat} {N : Nat → Nat} {j : Nat} {v : Int32} (h : Ok P K W T N j v) : ∀ i, i < K → ∀ d, d < 200 → j = 392 + 200 * i + d → ∃ x, x ≤ 10000 ∧ v = nI x := h.2.2.2.2.2.2.2.2.2.2.2.2.2.2.2.2.2.2.2
/-- the place o, slot k of the class is the row's slot j; ok: the cart fields that are alike -/
def Lk (ok : Nat → Nat → Prop) (a P K W : Nat) (N : Nat → Nat) (o k j : Nat) : Prop :=
  (o = a ∧ k < 6 ∧ j = 10 + k) ∨ (o = a + 1 ∧ k < 10 ∧ j = k) ∨ (o = a + 4 ∧ k < W ∧ j = 16 + 2 * k) ∨ (o = a + 5 ∧ k < W ∧ j = 17 + 2 * k) ∨ (∃ i, i < P ∧ o = a + 8 + i ∧ k < 4 ∧ j = 32 + 4 * i + k) ∨ (∃ i, i < K ∧ o = a + 18 + 3 * i ∧ k < 12 ∧ ok i k ∧ j = 72 + 20 * i + sf k) ∨ (∃ i, i < K ∧ o = a + 18 + 3 * i + 1 ∧ k < N i ∧ j = 72 + 20 * i + 3 + k) ∨ (∃ i, i < K ∧ o = a + 18 + 3 * i + 2 ∧ k < 200 ∧ j = 392 + 200 * i + k)
/-- counts within their bounds -/
abbrev Bd (P K W T : Nat) (N : Nat → Nat) : Prop := (P ≤ 10) ∧ (K ≤ 16) ∧ (W ≤ 8) ∧ (T < 2 ^ 30) ∧ (∀ i, N i ≤ 3)
theorem Bd.lP {P K W T : Nat} {N : Nat → Nat} (h : Bd P K W T N) : P ≤ 10 := h.1
theorem Bd.lK {P K W T : Nat} {N : Nat → Nat} (h : Bd P K W T N) : K ≤ 16 := h.2.1
theorem Bd.lW {P K W T : Nat} {N : Nat → Nat} (h : Bd P K W T N) : W ≤ 8 := h.2.2.1
theorem Bd.lT {P K W T : Nat} {N : Nat → Nat} (h : Bd P K W T N) : T < 2 ^ 30 := h.2.2.2.1
theorem Bd.lN {P K W T : Nat} {N : Nat → Nat} (h : Bd P K W T N) : ∀ i, N i ≤ 3 := h.2.2.2.2
/-- the State at the place a of C is the row w -/
abbrev Sim (ok : Nat → Nat → Prop) (C : mm_M) (a : Nat) (w : Nat → Int32) (P K W T : Nat) (N : Nat → Nat) : Prop := (Bd P K W T N) ∧ (∀ o k j, Lk ok a P K W N o k j → C.1 o k = w j) ∧ (∀ i, i < K → ∀ k, k < 4 → (C.2 (a + 18 + 3 * i) (12 + k)).toInt32 = w (72 + 20 * i + 15 + k)) ∧ (∀ j, Ok P K W T N j (w j))
theorem Sim.bd {ok : Nat → Nat → Prop} {C : mm_M} {a : Nat} {w : Nat → Int32} {P K W T : Nat} {N : Nat → Nat} (h : Sim ok C a w P K W T N) : Bd P K W T N := h.1
theorem Sim.eq {ok : Nat → Nat → Prop} {C : mm_M} {a : Nat} {w : Nat → Int32} {P K W T : Nat} {N : Nat → Nat} (h : Sim ok C a w P K W T N) : ∀ o k j, Lk ok a P K W N o k j → C.1 o k = w j := h.2.1
theorem Sim.sum {ok : Nat → Nat → Prop} {C : mm_M} {a : Nat} {w : Nat → Int32} {P K W T : Nat} {N : Nat → Nat} (h : Sim ok C a w P K W T N) : ∀ i, i < K → ∀ k, k < 4 → (C.2 (a + 18 + 3 * i) (12 + k)).toInt32 = w (72 + 20 * i + 15 + k) := h.2.2.1
theorem Sim.val {ok : Nat → Nat → Prop} {C : mm_M} {a : Nat} {w : Nat → Int32} {P K W T : Nat} {N : Nat → Nat} (h : Sim ok C a w P K W T N) : ∀ j, Ok P K W T N j (w j) := h.2.2.2
def okA (_ _ : Nat) : Prop := True
theorem Lk_inj {ok : Nat → Nat → Prop} {a P K W : Nat} {N : Nat → Nat} (B : Bd P K W 0 N) {o k j o' k' j' : Nat} (h : Lk ok a P K W N o k j) (h' : Lk ok a P K W N o' k' j') : (o' = o ∧ k' = k) ↔ j' = j := by
  obtain ⟨lP, lK, lW, -, lN⟩ := B
  rcases h with ⟨h1, h2, h3⟩ | ⟨h1, h2, h3⟩ | ⟨h1, h2, h3⟩ | ⟨h1, h2, h3⟩ | ⟨i, hi, h1, h2, h3⟩ | ⟨i, hi, h1, h2, ho, h3⟩ | ⟨i, hi, h1, h2, h3⟩ | ⟨i, hi, h1, h2, h3⟩ <;>
  rcases h' with ⟨g1, g2, g3⟩ | ⟨g1, g2, g3⟩ | ⟨g1, g2, g3⟩ | ⟨g1, g2, g3⟩ | ⟨i', hi', g1, g2, g3⟩ | ⟨i', hi', g1, g2, go, g3⟩ | ⟨i', hi', g1, g2, g3⟩ | ⟨i', hi', g1, g2, g3⟩ <;>
  (try have n1 := lN i) <;> (try have n2 := lN i') <;> (try have s1 := sf_lt k h2) <;> (try have s2 := sf_lt k' g2) <;>
  first
  | omega
  | (constructor
     · rintro ⟨e1, e2⟩
       subst e2
       have e3 : i' = i := by omega
       subst e3
       omega
     · intro e
       have e3 : i' = i := by omega
       subst e3
       have e4 := sf_inj k' g2 k h2 (by omega)
       omega)
theorem Lk_ns {ok : Nat → Nat → Prop} {a P K W : Nat} {N : Nat → Nat} (B : Bd P K W 0 N) {o k j : Nat} (h : Lk ok a P K W N o k j) {i t : Nat} (hi : i < 16) (ht : 15 ≤ t ∧ t < 20) : j ≠ 72 + 20 * i + t := by
  obtain ⟨lP, lK, lW, -, lN⟩ := B
  rcases h with ⟨h1, h2, h3⟩ | ⟨h1, h2, h3⟩ | ⟨h1, h2, h3⟩ | ⟨h1, h2, h3⟩ | ⟨i', hi', h1, h2, h3⟩ | ⟨i', hi', h1, h2, ho, h3⟩ | ⟨i', hi', h1, h2, h3⟩ | ⟨i', hi', h1, h2, h3⟩ <;>
  (try have n1 := lN i') <;> (try have s1 := sf_lt k h2) <;>
  first
  | omega
/-- a class's function on the State at a writes nothing else -/
def FrC (C C' : mm_M) (a : Nat) : Prop := ∀ o, (o < a ∨ a + 66 ≤ o) → C'.1 o = C.1 o ∧ C'.2 o = C.2 o
theorem FrC.rf (C : mm_M) (a : Nat) : FrC C C a := fun _ _ => ⟨rfl, rfl⟩
theorem FrC.tr {C C1 C2 : mm_M} {a : Nat} (h1 : FrC C C1 a) (h2 : FrC C1 C2 a) : FrC C C2 a := fun o h => ⟨(h2 o h).1.trans (h1 o h).1, (h2 o h).2.trans (h1 o h).2⟩
theorem FrC.w {C : mm_M} {a o k : Nat} {v : Int32} (h : a ≤ o ∧ o < a + 66) : FrC C (sI C o k v) a := fun o' h' => ⟨by rw [sI_ap1, if_neg (by omega)], rfl⟩
/-- a reference's function writes only the row and its own numbers -/
abbrev FrD (D D' : mm_M) : Prop := (∀ o, o ≠ 731 → o ≠ 732 → D'.1 o = D.1 o) ∧ (∀ k, (k < 8 ∨ 10 ≤ k) → D'.1 731 k = D.1 731 k) ∧ (D'.2 = D.2)
theorem FrD.oth {D D' : mm_M} (h : FrD D D') : ∀ o, o ≠ 731 → o ≠ 732 → D'.1 o = D.1 o := h.1
theorem FrD.own {D D' : mm_M} (h : FrD D D') : ∀ k, (k < 8 ∨ 10 ≤ k) → D'.1 731 k = D.1 731 k := h.2.1
theorem FrD.lng {D D' : mm_M} (h : FrD D D') : D'.2 = D.2 := h.2.2
theorem FrD.rf (D : mm_M) : FrD D D := ⟨fun _ _ _ => rfl, fun _ _ => rfl, rfl⟩
theorem FrD.tr {D D1 D2 : mm_M} (h1 : FrD D D1) (h2 : FrD D1 D2) : FrD D D2 := ⟨fun o h g => (h2.oth o h g).trans (h1.oth o h g), fun k h => (h2.own k h).trans (h1.own k h), h2.lng.trans h1.lng⟩
theorem FrD.w {D : mm_M} {k : Nat} {v : Int32} : FrD D (sI D 732 k v) := ⟨fun o' h' g' => by rw [sI_ap1, if_neg g'], fun k' h' => by rw [sI_ap1, if_neg (by omega)], rfl⟩
theorem FrD.s8 {D : mm_M} {k : Nat} {v : Int32} (h : k = 8 ∨ k = 9) : FrD D (sI D 731 k v) := ⟨fun o' h' g' => by rw [sI_ap1, if_neg h'], fun k' h' => by rw [sI_ap1, if_pos rfl, if_neg (by omega)], rfl⟩
/-- numbers: a cart, a pitch -/
theorem nn_lt {x : Int32} {n : Nat} (hn : n ≤ 16) : (¬ x < 0 ∧ ¬ nI n ≤ x) ↔ ∃ j, j < n ∧ x = nI j := by
  constructor
  · intro ⟨h0, h1⟩
    obtain ⟨j, hj, e⟩ := nI_of h0
    subst e
    refine ⟨j, ?_, rfl⟩
    rcases Nat.lt_or_ge j n with h | h
    · exact h
    · exact absurd (nI_le h hj) h1
  · rintro ⟨j, hj, rfl⟩
    exact ⟨nI_pos (by omega), nI_ge hj (by omega)⟩
/-- one slot changes on both sides -/
theorem Sim.bd0 {ok : Nat → Nat → Prop} {C : mm_M} {a : Nat} {w : Nat → Int32} {P K W T : Nat} {N : Nat → Nat} (S : Sim ok C a w P K W T N) : Bd P K W 0 N := ⟨S.bd.lP, S.bd.lK, S.bd.lW, by omega, S.bd.lN⟩
theorem Sim.up {ok : Nat → Nat → Prop} {C : mm_M} {a : Nat} {w : Nat → Int32} {P K W T : Nat} {N : Nat → Nat} (S : Sim ok C a w P K W T N) {o k j : Nat} {v : Int32} (h : Lk ok a P K W N o k j) (hv : Ok P K W T N j v) : Sim ok (sI C o k v) a (up w j v) P K W T N := by
  refine ⟨S.bd, fun o' k' j' h' => ?_, fun i hi k' hk' => ?_, fun j' => ?_⟩
  · have q := Lk_inj S.bd0 h h'
    by_cases e : j' = j
    · obtain ⟨e1, e2⟩ := q.mpr e
      subst e; subst e1; subst e2
      rw [up_eq, sI_ap1, if_pos rfl, if_pos rfl]
    · rw [up_ne e, ← S.eq o' k' j' h', sI_ap1]
      by_cases e1 : o' = o
      · subst e1
        rw [if_pos rfl, if_neg (fun e2 => e (q.mp ⟨rfl, e2⟩))]
      · rw [if_neg e1]
  · rw [up_ne (show 72 + 20 * i + 15 + k' ≠ j from fun e => Lk_ns S.bd0 h (i := i) (t := 15 + k') (by have := S.bd.lK; omega) (by omega) (by omega))]
    exact S.sum i hi k' hk'
  · by_cases e : j' = j
    · subst e; rw [up_eq]; exact hv
    · rw [up_ne e]; exact S.val j'
theorem Sim.hd {ok : Nat → Nat → Prop} {C : mm_M} {a : Nat} {w : Nat → Int32} {P K W T : Nat} {N : Nat → Nat} (S : Sim ok C a w P K W T N) {k : Nat} (hk : k < 6) : C.1 a k = w (10 + k) := S.eq a k _ (Or.inl ⟨rfl, hk, rfl⟩)
theorem Sim.wP {ok : Nat → Nat → Prop} {C : mm_M} {a : Nat} {w : Nat → Int32} {P K W T : Nat} {N : Nat → Nat} (S : Sim ok C a w P K W T N) : w 12 = nI P := (S.val 12).nP rfl
theorem Sim.wK {ok : Nat → Nat → Prop} {C : mm_M} {a : Nat} {w : Nat → Int32} {P K W T : Nat} {N : Nat → Nat} (S : Sim ok C a w P K W T N) : w 13 = nI K := (S.val 13).nK rfl
theorem Sim.wW {ok : Nat → Nat → Prop} {C : mm_M} {a : Nat} {w : Nat → Int32} {P K W T : Nat} {N : Nat → Nat} (S : Sim ok C a w P K W T N) : w 14 = nI W := (S.val 14).nW rfl
theorem Sim.wT {ok : Nat → Nat → Prop} {C : mm_M} {a : Nat} {w : Nat → Int32} {P K W T : Nat} {N : Nat → Nat} (S : Sim ok C a w P K W T N) : w 10 = nI T := (S.val 10).day rfl
theorem Sim.cP {ok : Nat → Nat → Prop} {C : mm_M} {a : Nat} {w : Nat → Int32} {P K W T : Nat} {N : Nat → Nat} (S : Sim ok C a w P K W T N) : C.1 a 2 = nI P := (S.hd (k := 2) (by omega)).trans S.wP
theorem Sim.cK {ok : Nat → Nat → Prop} {C : mm_M} {a : Nat} {w : Nat → Int32} {P K W T : Nat} {N : Nat → Nat} (S : Sim ok C a w P K W T N) : C.1 a 3 = nI K := (S.hd (k := 3) (by omega)).trans S.wK
theorem Sim.cW {ok : Nat → Nat → Prop} {C : mm_M} {a : Nat} {w : Nat → Int32} {P K W T : Nat} {N : Nat → Nat} (S : Sim ok C a w P K W T N) : C.1 a 4 = nI W := (S.hd (k := 4) (by omega)).trans S.wW
theorem Sim.cT {ok : Nat → Nat → Prop} {C : mm_M} {a : Nat} {w : Nat → Int32} {P K W T : Nat} {N : Nat → Nat} (S : Sim ok C a w P K W T N) : C.1 a 0 = nI T := (S.hd (k := 0) (by omega)).trans S.wT
theorem Sim.hasCart {ok : Nat → Nat → Prop} {C : mm_M} {a : Nat} {w : Nat → Int32} {P K W T : Nat} {N : Nat → Nat} (S : Sim ok C a w P K W T N) (x : Int32) : (∃ j, j < K ∧ x = nI j ∧ fX5_hasCart C a x = some true) ∨ ((∀ j, j < K → x ≠ nI j) ∧ fX5_hasCart C a x = some false) := by
  unfold fX5_hasCart
  rw [S.cK]
  by_cases h0 : x < 0
  · exact Or.inr ⟨fun j hj e => by subst e; exact nI_pos (by have := S.bd.lK; omega) h0, if_pi h0 rfl⟩
  · by_cases h1 : nI K ≤ x
    · exact Or.inr ⟨fun j hj e => by subst e; exact nI_ge hj (by have := S.bd.lK; omega) h1, if_ni h0 (if_pi h1 rfl)⟩
    · obtain ⟨j, hj, e⟩ := (nn_lt S.bd.lK).mp ⟨h0, h1⟩
      subst e
      exact Or.inl ⟨j, hj, rfl, if_ni h0 (if_ni h1 (if_ni (show ¬ nI 16 ≤ nI j from nI_ge (by have := S.bd.lK; omega) (by decide)) rfl))⟩
theorem Sim.hasPitch {ok : Nat → Nat → Prop} {C : mm_M} {a : Nat} {w : Nat → Int32} {P K W T : Nat} {N : Nat → Nat} (S : Sim ok C a w P K W T N) (x : Int32) : (∃ j, j < P ∧ x = nI j ∧ fX5_hasPitch C a x = some true) ∨ ((∀ j, j < P → x ≠ nI j) ∧ fX5_hasPitch C a x = some false) := by
  unfold fX5_hasPitch
  rw [S.cP]
  by_cases h0 : x < 0
  · exact Or.inr ⟨fun j hj e => by subst e; exact nI_pos (by have := S.bd.lP; omega) h0, if_pi h0 rfl⟩
  · by_cases h1 : nI P ≤ x
    · exact Or.inr ⟨fun j hj e => by subst e; exact nI_ge hj (by have := S.bd.lP; omega) h1, if_ni h0 (if_pi h1 rfl)⟩
    · obtain ⟨j, hj, e⟩ := (nn_lt (by have := S.bd.lP; omega)).mp ⟨h0, h1⟩
      subst e
      exact Or.inl ⟨j, hj, rfl, if_ni h0 (if_ni h1 (if_ni (show ¬ nI 10 ≤ nI j from nI_ge (by have := S.bd.lP; omega) (by decide)) rfl))⟩
theorem in_row {D : mm_M} {x : Int32} {n : Nat} (hn : n ≤ 16) : (∃ j, j < n ∧ x = nI j ∧ fX7_in D x 0 (nI n - 1) = some true) ∨ ((∀ j, j < n → x ≠ nI j) ∧ fX7_in D x 0 (nI n - 1) = some false) := by
  have e : (nI n - 1).toInt = (n : Int) - 1 := by
    match n, hn with
    | 0, _ => rfl
    | n + 1, h =>
      rw [← nI_1, Int32.add_sub_cancel, nI_toInt (by omega)]
      omega
  by_cases h0 : x < 0
  · exact Or.inr ⟨fun j hj e => by subst e; exact nI_pos (by omega) h0, in_lo h0⟩
  · by_cases h1 : nI n - 1 < x
    · refine Or.inr ⟨fun j hj e2 => ?_, in_hi h1⟩
      subst e2
      rw [Int32.lt_iff_toInt_lt, e, nI_toInt (by omega)] at h1
      omega
    · obtain ⟨j, hj, e2⟩ := nI_of h0
      subst e2
      refine Or.inl ⟨j, ?_, rfl, in_tt h0 h1⟩
      rw [Int32.lt_iff_toInt_lt, e, nI_toInt hj] at h1
      omega
theorem Sim.isCart {ok : Nat → Nat → Prop} {C D : mm_M} {a : Nat} {P K W T : Nat} {N : Nat → Nat} (S : Sim ok C a (D.1 732) P K W T N) (x : Int32) : (∃ j, j < K ∧ x = nI j ∧ fX7_isCart D x = some true) ∨ ((∀ j, j < K → x ≠ nI j) ∧ fX7_isCart D x = some false) := by
  unfold fX7_isCart
  rw [S.wK]
  rcases in_row (D := D) (x := x) S.bd.lK with ⟨j, hj, e, h⟩ | ⟨h1, h⟩
  · exact Or.inl ⟨j, hj, e, bn_i h rfl⟩
  · exact Or.inr ⟨h1, bn_i h rfl⟩
theorem Sim.isPitch {ok : Nat → Nat → Prop} {C D : mm_M} {a : Nat} {P K W T : Nat} {N : Nat → Nat} (S : Sim ok C a (D.1 732) P K W T N) (x : Int32) : (∃ j, j < P ∧ x = nI j ∧ fX7_isPitch D x = some true) ∨ ((∀ j, j < P → x ≠ nI j) ∧ fX7_isPitch D x = some false) := by
  unfold fX7_isPitch
  rw [S.wP]
  rcases in_row (D := D) (x := x) (show P ≤ 16 by have := S.bd.lP; omega) with ⟨j, hj, e, h⟩ | ⟨h1, h⟩
  · exact Or.inl ⟨j, hj, e, bn_i h rfl⟩
  · exact Or.inr ⟨h1, bn_i h rfl⟩
/-- both have the cart, or neither -/
theorem Sim.cart2 {ok : Nat → Nat → Prop} {C D : mm_M} {a : Nat} {P K W T : Nat} {N : Nat → Nat} (S : Sim ok C a (D.1 732) P K W T N) (x : Int32) : (∃ j, j < K ∧ x = nI j ∧ fX5_hasCart C a x = some true ∧ fX7_isCart D x = some true) ∨ (fX5_hasCart C a x = some false ∧ fX7_isCart D x = some false) := by
  rcases S.hasCart x with ⟨j, hj, e, h⟩ | ⟨h1, h⟩
  · rcases S.isCart x with ⟨j', hj', e', h'⟩ | ⟨h1', h'⟩
    · exact Or.inl ⟨j, hj, e, h, h'⟩
    · exact absurd e (h1' j hj)
  · rcases S.isCart x with ⟨j', hj', e', h'⟩ | ⟨h1', h'⟩
    · exact absurd e' (h1 j' hj')
    · exact Or.inr ⟨h, h'⟩
theorem Sim.pitch2 {ok : Nat → Nat → Prop} {C D : mm_M} {a : Nat} {P K W T : Nat} {N : Nat → Nat} (S : Sim ok C a (D.1 732) P K W T N) (x : Int32) : (∃ j, j < P ∧ x = nI j ∧ fX5_hasPitch C a x = some true ∧ fX7_isPitch D x = some true) ∨ (fX5_hasPitch C a x = some false ∧ fX7_isPitch D x = some false) := by
  rcases S.hasPitch x with ⟨j, hj, e, h⟩ | ⟨h1, h⟩
  · rcases S.isPitch x with ⟨j', hj', e', h'⟩ | ⟨h1', h'⟩
    · exact Or.inl ⟨j, hj, e, h, h'⟩
    · exact absurd e (h1' j hj)
  · rcases S.isPitch x with ⟨j', hj', e', h'⟩ | ⟨h1', h'⟩
    · exact absurd e' (h1 j' hj')
    · exact Or.inr ⟨h, h'⟩
/-- the reference's slots -/
theorem of_i {D : mm_M} {i k : Nat} (hi : i < 16) (hk : k < 20) : fX7_of D (nI i) (nI k) = some (D.1 732 (72 + 20 * i + k)) := by
  unfold fX7_of
  have e : (72 + (20 * nI i)) + nI k = nI (72 + 20 * i + k) := by
    rw [← nI_add, ← nI_add]
    congr 2
    exact (Int32.ofNat_mul 20 i).symm
  rw [e]
  refine gd_i (ix_nI (n := 3592) (by omega) (by decide)) ?_
  rw [nI_clamp (by omega)]
theorem lay_i {D : mm_M} {i k : Nat} (v : Int32) (hi : i < 16) (hk : k < 20) : fX7_lay D (nI i) (nI k) v = some (sI D 732 (72 + 20 * i + k) v) := by
  unfold fX7_lay
  have e : (72 + (20 * nI i)) + nI k = nI (72 + 20 * i + k) := by
    rw [← nI_add, ← nI_add]
    congr 2
    exact (Int32.ofNat_mul 20 i).symm
  rw [e]
  refine gd_i (ix_nI (n := 3592) (by omega) (by decide)) (lt_i ?_)
  rw [nI_clamp (by omega)]
theorem ofP_i {D : mm_M} {i k : Nat} (hi : i < 10) (hk : k < 4) : fX7_ofP D (nI i) (nI k) = some (D.1 732 (32 + 4 * i + k)) := by
  unfold fX7_ofP
  have e : (32 + (4 * nI i)) + nI k = nI (32 + 4 * i + k) := by
    rw [← nI_add, ← nI_add]
    congr 2
    exact (Int32.ofNat_mul 4 i).symm
  rw [e]
  refine gd_i (ix_nI (n := 3592) (by omega) (by decide)) ?_
  rw [nI_clamp (by omega)]
