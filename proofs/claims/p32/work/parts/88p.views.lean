/-! p32: what the class answers, told by the row -/
def cnB (p : Nat → Bool) : Nat → Nat
  | 0 => 0
  | n + 1 => cnB p n + (if p n = true then 1 else 0)
theorem cnB_le (p : Nat → Bool) (n : Nat) : cnB p n ≤ n := by
  induction n with
  | zero => exact Nat.le_refl _
  | succ n ih =>
    show cnB p n + (if p n = true then 1 else 0) ≤ n + 1
    by_cases q : p n = true
    · rw [if_pos q]; omega
    · rw [if_neg q]; omega
theorem cnB_congr {p q : Nat → Bool} {n : Nat} (h : ∀ i, i < n → p i = q i) : cnB p n = cnB q n := by
  induction n with
  | zero => rfl
  | succ n ih =>
    show cnB p n + (if p n = true then 1 else 0) = cnB q n + (if q n = true then 1 else 0)
    rw [ih (fun i hi => h i (by omega)), h n (by omega)]
/-- who waits, who has a pitch -/
def wb (w : Nat → Int32) (i : Nat) : Bool := decide (¬ w (72 + 20 * i + 8) = 0)
def sb (w : Nat → Int32) (i : Nat) : Bool := decide (¬ w (72 + 20 * i + 11) = -6)
theorem v_waitl {C : mm_M} {a : Nat} {w : Nat → Int32} {P K W T : Nat} {N : Nat → Nat} {xS : Nat → Nat → Nat} (S : Sim okA C a w P K W T N xS) : ∀ (d i n : Nat), i + d = K → d < n → fX5_countWaiting_4 a C n (nI (cnB (wb w) i)) (nI i) = some (nI (cnB (wb w) K)) := by
  have lK := S.bd.lK
  intro d
  induction d with
  | zero =>
    intro i n hi hn
    obtain ⟨n, rfl⟩ : ∃ q, n = q + 1 := ⟨n - 1, by omega⟩
    have e : i = K := by omega
    subst e
    rw [fX5_countWaiting_4, S.cK]
    exact if_pi (Int32.le_refl _) rfl
  | succ d ih =>
    intro i n hi hn
    obtain ⟨n, rfl⟩ : ∃ q, n = q + 1 := ⟨n - 1, by omega⟩
    have hK : i < K := by omega
    have h := S_cart S hK (k := 5) (by omega)
    have h : C.1 (a + 18 + 3 * i) 5 = w (72 + 20 * i + 8) := h
    have e := ih (i + 1) n (by omega) (by omega)
    have es : cnB (wb w) (i + 1) = cnB (wb w) i + (if wb w i = true then 1 else 0) := rfl
    rw [es] at e
    rw [fX5_countWaiting_4, S.cK]
    refine if_ni (nI_ge hK (by omega)) (gd_i (ix_nI (n := 16) (by omega) (by decide)) ?_)
    rw [nI_clamp (by omega), h]
    by_cases c : w (72 + 20 * i + 8) = 0
    · have eb : wb w i = false := decide_eq_false (fun q => q c)
      rw [eb, if_neg (by decide), Nat.add_zero] at e
      refine if_pi c (lt_i ?_)
      rw [nI_1]; exact e
    · have eb : wb w i = true := decide_eq_true c
      rw [eb, if_pos rfl] at e
      refine if_ni c (lt_i ?_)
      rw [nI_1]
      refine lt_i ?_
      rw [nI_1]; exact e
theorem v_wait {C : mm_M} {a : Nat} {w : Nat → Int32} {P K W T : Nat} {N : Nat → Nat} {xS : Nat → Nat → Nat} (S : Sim okA C a w P K W T N xS) : fX5_countWaiting C a = some (nI (cnB (wb w) K)) := v_waitl S K 0 FU (by omega) (by have := S.bd.lK; unfold FU; omega)
theorem v_seatl {C : mm_M} {a : Nat} {w : Nat → Int32} {P K W T : Nat} {N : Nat → Nat} {xS : Nat → Nat → Nat} (S : Sim okA C a w P K W T N xS) : ∀ (d i n : Nat), i + d = K → d < n → fX5_countOnPitches_4 a C n (nI (cnB (sb w) i)) (nI i) = some (nI (cnB (sb w) K)) := by
  have lK := S.bd.lK
  intro d
  induction d with
  | zero =>
    intro i n hi hn
    obtain ⟨n, rfl⟩ : ∃ q, n = q + 1 := ⟨n - 1, by omega⟩
    have e : i = K := by omega
    subst e
    rw [fX5_countOnPitches_4, S.cK]
    exact if_pi (Int32.le_refl _) rfl
  | succ d ih =>
    intro i n hi hn
    obtain ⟨n, rfl⟩ : ∃ q, n = q + 1 := ⟨n - 1, by omega⟩
    have hK : i < K := by omega
    have h := S_cart S hK (k := 8) (by omega)
    have h : C.1 (a + 18 + 3 * i) 8 = w (72 + 20 * i + 11) := h
    have e := ih (i + 1) n (by omega) (by omega)
    have es : cnB (sb w) (i + 1) = cnB (sb w) i + (if sb w i = true then 1 else 0) := rfl
    rw [es] at e
    rw [fX5_countOnPitches_4, S.cK]
    refine if_ni (nI_ge hK (by omega)) (gd_i (ix_nI (n := 16) (by omega) (by decide)) ?_)
    rw [nI_clamp (by omega), h]
    by_cases c : w (72 + 20 * i + 11) = -6
    · have eb : sb w i = false := decide_eq_false (fun q => q c)
      rw [eb, if_neg (by decide), Nat.add_zero] at e
      refine if_pi c (lt_i ?_)
      rw [nI_1]; exact e
    · have eb : sb w i = true := decide_eq_true c
      rw [eb, if_pos rfl] at e
      refine if_ni c (lt_i ?_)
      rw [nI_1]
      refine lt_i ?_
      rw [nI_1]; exact e
theorem v_seat {C : mm_M} {a : Nat} {w : Nat → Int32} {P K W T : Nat} {N : Nat → Nat} {xS : Nat → Nat → Nat} (S : Sim okA C a w P K W T N xS) : fX5_countOnPitches C a = some (nI (cnB (sb w) K)) := v_seatl S K 0 FU (by omega) (by have := S.bd.lK; unfold FU; omega)
def ctF (w : Nat → Int32) (K k : Nat) : Int32 := if k = 4 then nI (cnB (wb w) K) else if k = 18 then nI (cnB (sb w) K) else if k = 0 then w 10 else if k = 1 then w 13 else if k = 2 then w 12 else if k = 3 then w 11 else if k = 5 then w 14 else if k = 19 then w 15 else w (k - 8)
set_option maxRecDepth 4000 in
theorem v_count {C : mm_M} {w : Nat → Int32} {P K W T : Nat} {N : Nat → Nat} {xS : Nat → Nat → Nat} (S : Sim okA C 1 w P K W T N xS) {k : Nat} (hk : k < 20) (h6 : k ≠ 6) (h7 : k ≠ 7) : fX6_count C (nI k) = some (ctF w K k) := by
  match k, hk with
  | 0, _ => exact if_pi (by decide) (if_pi rfl (congrArg some (S.hd (k := 0) (by omega))))
  | 1, _ => exact if_pi (by decide) (if_ni (by decide) (if_pi rfl (congrArg some (S.hd (k := 3) (by omega)))))
  | 2, _ => exact if_pi (by decide) (if_ni (by decide) (if_ni (by decide) (if_pi rfl (congrArg some (S.hd (k := 2) (by omega))))))
  | 3, _ => exact if_pi (by decide) (if_ni (by decide) (if_ni (by decide) (if_ni (by decide) (if_pi rfl (congrArg some (S.hd (k := 1) (by omega)))))))
  | 4, _ => exact if_pi (by decide) (if_ni (by decide) (if_ni (by decide) (if_ni (by decide) (if_ni (by decide) (if_pi rfl (bn_i (v_wait S) rfl))))))
  | 5, _ => exact if_pi (by decide) (if_ni (by decide) (if_ni (by decide) (if_ni (by decide) (if_ni (by decide) (if_ni (by decide) (if_pi rfl (congrArg some (S.hd (k := 4) (by omega)))))))))
  | 6, _ => exact absurd rfl h6
  | 7, _ => exact absurd rfl h7
  | 8, _ => exact if_ni (by decide) (if_ni (by decide) (gd_i (by decide) (congrArg some (S.eq (1 + 1) 0 0 (Or.inr (Or.inl ⟨rfl, by omega, rfl⟩))))))
  | 9, _ => exact if_ni (by decide) (if_ni (by decide) (gd_i (by decide) (congrArg some (S.eq (1 + 1) 1 1 (Or.inr (Or.inl ⟨rfl, by omega, rfl⟩))))))
  | 10, _ => exact if_ni (by decide) (if_ni (by decide) (gd_i (by decide) (congrArg some (S.eq (1 + 1) 2 2 (Or.inr (Or.inl ⟨rfl, by omega, rfl⟩))))))
  | 11, _ => exact if_ni (by decide) (if_ni (by decide) (gd_i (by decide) (congrArg some (S.eq (1 + 1) 3 3 (Or.inr (Or.inl ⟨rfl, by omega, rfl⟩))))))
  | 12, _ => exact if_ni (by decide) (if_ni (by decide) (gd_i (by decide) (congrArg some (S.eq (1 + 1) 4 4 (Or.inr (Or.inl ⟨rfl, by omega, rfl⟩))))))
  | 13, _ => exact if_ni (by decide) (if_ni (by decide) (gd_i (by decide) (congrArg some (S.eq (1 + 1) 5 5 (Or.inr (Or.inl ⟨rfl, by omega, rfl⟩))))))
  | 14, _ => exact if_ni (by decide) (if_ni (by decide) (gd_i (by decide) (congrArg some (S.eq (1 + 1) 6 6 (Or.inr (Or.inl ⟨rfl, by omega, rfl⟩))))))
  | 15, _ => exact if_ni (by decide) (if_ni (by decide) (gd_i (by decide) (congrArg some (S.eq (1 + 1) 7 7 (Or.inr (Or.inl ⟨rfl, by omega, rfl⟩))))))
  | 16, _ => exact if_ni (by decide) (if_ni (by decide) (gd_i (by decide) (congrArg some (S.eq (1 + 1) 8 8 (Or.inr (Or.inl ⟨rfl, by omega, rfl⟩))))))
  | 17, _ => exact if_ni (by decide) (if_ni (by decide) (gd_i (by decide) (congrArg some (S.eq (1 + 1) 9 9 (Or.inr (Or.inl ⟨rfl, by omega, rfl⟩))))))
  | 18, _ => exact if_ni (by decide) (if_pi (by decide) (if_ni (by decide) (if_ni (by decide) (if_ni (by decide) (if_ni (by decide) (if_ni (by decide) (if_ni (by decide) (if_ni (by decide) (if_ni (by decide) (if_ni (by decide) (if_ni (by decide) (if_ni (by decide) (if_ni (by decide) (if_ni (by decide) (if_ni (by decide) (if_ni (by decide) (if_ni (by decide) (if_ni (by decide) (if_ni (by decide) (if_pi rfl (bn_i (v_seat S) rfl)))))))))))))))))))))
  | 19, _ => exact if_ni (by decide) (if_pi (by decide) (if_ni (by decide) (if_ni (by decide) (if_ni (by decide) (if_ni (by decide) (if_ni (by decide) (if_ni (by decide) (if_ni (by decide) (if_ni (by decide) (if_ni (by decide) (if_ni (by decide) (if_ni (by decide) (if_ni (by decide) (if_ni (by decide) (if_ni (by decide) (if_ni (by decide) (if_ni (by decide) (if_ni (by decide) (if_ni (by decide) (if_ni (by decide) (if_pi rfl (congrArg some (S.hd (k := 5) (by omega))))))))))))))))))))))))
  | k + 20, h => exact absurd h (by omega)
theorem v_count6 (C : mm_M) : fX6_count C 6 = some (C.1 729 1) := rfl
theorem v_count7 (C : mm_M) : fX6_count C 7 = some (C.1 133 2) := rfl
def ptw (w : Nat → Int32) (j k : Nat) : Nat := (w (392 + 200 * j + k)).toNatClampNeg
/-- the points of the cart j on the day d -/
def ptF (w : Nat → Int32) (j d : Nat) : Nat := sm (fun k => ptw w j (k % 200)) (d + 1 - (w 5).toNatClampNeg) ((w 10).toNatClampNeg + 1 - (d + 1 - (w 5).toNatClampNeg))
theorem ptw_e {C : mm_M} {a : Nat} {w : Nat → Int32} {P K W T : Nat} {N : Nat → Nat} {xS : Nat → Nat → Nat} (S : Sim okA C a w P K W T N xS) {j k : Nat} (hj : j < K) (hk : k < 200) : w (392 + 200 * j + k) = nI (ptw w j k) ∧ ptw w j k ≤ 10000 := by
  obtain ⟨x, hx, e⟩ := (S.val (392 + 200 * j + k)).pts j hj k hk rfl
  unfold ptw
  rw [e, nI_clamp (by omega)]
  exact ⟨rfl, hx⟩
theorem v_left {C : mm_M} {a : Nat} {w : Nat → Int32} {P K W T : Nat} {N : Nat → Nat} {xS : Nat → Nat → Nat} (S : Sim okA C a w P K W T N xS) {j d : Nat} (hj : j < K) (h1 : T ≤ d) (h2 : d ≤ T + 400) : fX0_pointsLeft C (a + 18 + 3 * j) (nI d) (nI T) (C.1 (a + 1) 5) = some (nI (ptF w j d)) := by
  obtain ⟨l, l1, l2, el⟩ := (S.val 5).r5 rfl
  have lT := S.bd.lT
  have ec : C.1 (a + 1) 5 = nI l := (S.eq (a + 1) 5 5 (Or.inr (Or.inl ⟨rfl, by omega, rfl⟩))).trans el
  rw [ec, q_at (f := ptw w j) (fun k hk => (S.eq (a + 18 + 3 * j + 2) k (392 + 200 * j + k) (Or.inr (Or.inr (Or.inr (Or.inr (Or.inr (Or.inr (Or.inr ⟨j, hj, rfl, hk, rfl⟩)))))))).trans (ptw_e S hj hk).1) lT h1 h2 l2]
  unfold ptF
  rw [el, S.wT, nI_clamp (by omega), nI_clamp (by omega)]
theorem ptF_le {C : mm_M} {a : Nat} {w : Nat → Int32} {P K W T : Nat} {N : Nat → Nat} {xS : Nat → Nat → Nat} (S : Sim okA C a w P K W T N xS) {j d : Nat} (hj : j < K) (h1 : T ≤ d) : ptF w j d ≤ 2000000 := by
  obtain ⟨l, l1, l2, el⟩ := (S.val 5).r5 rfl
  have lT := S.bd.lT
  unfold ptF
  rw [el, S.wT, nI_clamp (by omega), nI_clamp (by omega)]
  have q := sm_le (g := fun k => ptw w j (k % 200)) (B := 10000) (fun k => (ptw_e S hj (Nat.mod_lt _ (by omega))).2) (T + 1 - (d + 1 - l)) (d + 1 - l)
  have q2 : (T + 1 - (d + 1 - l)) * 10000 ≤ 200 * 10000 := Nat.mul_le_mul_right _ (by omega)
  omega
/-- points lapse -/
theorem sm_dec (g : Nat → Nat) : ∀ m b k, sm g (b + k) (m - k) ≤ sm g b m
  | m, b, 0 => Nat.le_refl _
  | 0, b, k + 1 => by rw [Nat.zero_sub]; exact Nat.le_refl _
  | m + 1, b, k + 1 => by
    show sm g (b + (k + 1)) (m + 1 - (k + 1)) ≤ g b + sm g (b + 1) m
    have h := sm_dec g m (b + 1) k
    rw [show b + (k + 1) = b + 1 + k by omega, show m + 1 - (k + 1) = m - k by omega]
    omega
theorem ptF_dec (w : Nat → Int32) (j : Nat) {d e : Nat} (h : d ≤ e) : ptF w j e ≤ ptF w j d := by
  unfold ptF
  obtain ⟨k, hk⟩ : ∃ k, e + 1 - (w 5).toNatClampNeg = d + 1 - (w 5).toNatClampNeg + k := ⟨e + 1 - (w 5).toNatClampNeg - (d + 1 - (w 5).toNatClampNeg), by omega⟩
  rw [hk, show (w 10).toNatClampNeg + 1 - (d + 1 - (w 5).toNatClampNeg + k) = (w 10).toNatClampNeg + 1 - (d + 1 - (w 5).toNatClampNeg) - k by omega]
  exact sm_dec _ _ _ _
theorem ptF_0 (w : Nat → Int32) (j : Nat) {d : Nat} (h : (w 10).toNatClampNeg + (w 5).toNatClampNeg ≤ d) : ptF w j d = 0 := by
  unfold ptF
  rw [show (w 10).toNatClampNeg + 1 - (d + 1 - (w 5).toNatClampNeg) = 0 by omega]
  rfl
/-- the wish i of the cart j -/
def wsF (w : Nat → Int32) (j i : Nat) : Int32 := if i < (w (72 + 20 * j + 2)).toNatClampNeg then w (72 + 20 * j + 3 + i) else -6
theorem v_wAt {C : mm_M} {a : Nat} {w : Nat → Int32} {P K W T : Nat} {N : Nat → Nat} {xS : Nat → Nat → Nat} (S : Sim okA C a w P K W T N xS) {j i : Nat} (hj : j < K) (hi : i < 3) : fX0_wishAt C (a + 18 + 3 * j) (nI i) = some (wsF w j i) := by
  have lN := S.bd.lN j
  have hN := (S.val (72 + 20 * j + 2)).wc j hj rfl
  have h2 : C.1 (a + 18 + 3 * j) 2 = nI (N j) := (S_cart S hj (k := 2) (by omega)).trans hN
  unfold fX0_wishAt wsF
  rw [h2, hN, nI_clamp (show N j < 2 ^ 31 by omega)]
  refine if_ni (nI_pos (by omega)) ?_
  by_cases c : i < N j
  · rw [if_pos c]
    refine if_ni (nI_ge c (by omega)) (if_ni (show ¬ nI 3 ≤ nI i from nI_ge hi (by decide)) (gd_i (ix_nI (n := 3) hi (by decide)) ?_))
    rw [nI_clamp (by omega), S.eq (a + 18 + 3 * j + 1) i (72 + 20 * j + 3 + i) (Or.inr (Or.inr (Or.inr (Or.inr (Or.inr (Or.inr (Or.inl ⟨j, hj, rfl, c, rfl⟩)))))))]
  · rw [if_neg c]
    exact if_pi (nI_le (by omega) (by omega)) rfl
def ocF (w : Nat → Int32) (j t : Nat) : Int32 := if t < 3 then w (72 + 20 * j + t) else if t < 6 then wsF w j (t - 3) else if t < 9 then w (72 + 20 * j + t) else if t = 9 then nI (ptF w j (w 10).toNatClampNeg) else w (72 + 20 * j + (t - 1))
theorem v_ofCart {C : mm_M} {w : Nat → Int32} {P K W T : Nat} {N : Nat → Nat} {xS : Nat → Nat → Nat} (S : Sim okA C 1 w P K W T N xS) {j t : Nat} (hj : j < K) (ht : t < 16) : fX6_ofCart C (nI j) (nI t) = some (ocF w j t) := by
  have lK := S.bd.lK
  have lT := S.bd.lT
  have h1 := z_hasC S hj
  have hab : ∀ y r, (if 9 ≤ y then (bn (fX6_aboutPastOfCart C (1 + 18 + 3 * j) y) fun r9 => some r9) else (bn (fX6_aboutCart C (1 + 18 + 3 * j) y) fun r11 => some r11)) = r → ¬ y < 0 → y ≤ 15 → fX6_ofCart C (nI j) y = r := fun y r hr c0 c1 => by
    unfold fX6_ofCart
    refine bn_i h1 (if_pi rfl (if_ni c0 (if_pi c1 (gd_i (ix_nI (n := 16) (by omega) (by decide)) ?_))))
    rw [nI_clamp (by omega)]
    exact hr
  match t, ht with
  | 0, _ => exact hab _ _ (if_ni (by decide) (bn_i (if_pi rfl (congrArg some (S_cart S hj (k := 0) (by omega)))) rfl)) (by decide) (by decide)
  | 1, _ => exact hab _ _ (if_ni (by decide) (bn_i (if_ni (by decide) (if_pi rfl (congrArg some (S_cart S hj (k := 1) (by omega))))) rfl)) (by decide) (by decide)
  | 2, _ => exact hab _ _ (if_ni (by decide) (bn_i (if_ni (by decide) (if_ni (by decide) (if_pi rfl (congrArg some (S_cart S hj (k := 2) (by omega)))))) rfl)) (by decide) (by decide)
  | 3, _ => exact hab _ _ (if_ni (by decide) (bn_i (if_ni (by decide) (if_ni (by decide) (if_ni (by decide) (if_pi rfl (bn_i (v_wAt S hj (i := 0) (by omega)) rfl))))) rfl)) (by decide) (by decide)
  | 4, _ => exact hab _ _ (if_ni (by decide) (bn_i (if_ni (by decide) (if_ni (by decide) (if_ni (by decide) (if_ni (by decide) (if_pi rfl (bn_i (v_wAt S hj (i := 1) (by omega)) rfl)))))) rfl)) (by decide) (by decide)
  | 5, _ => exact hab _ _ (if_ni (by decide) (bn_i (if_ni (by decide) (if_ni (by decide) (if_ni (by decide) (if_ni (by decide) (if_ni (by decide) (if_pi rfl (bn_i (v_wAt S hj (i := 2) (by omega)) rfl))))))) rfl)) (by decide) (by decide)
  | 6, _ => exact hab _ _ (if_ni (by decide) (bn_i (if_ni (by decide) (if_ni (by decide) (if_ni (by decide) (if_ni (by decide) (if_ni (by decide) (if_ni (by decide) (if_pi rfl (congrArg some (S_cart S hj (k := 3) (by omega)))))))))) rfl)) (by decide) (by decide)
  | 7, _ => exact hab _ _ (if_ni (by decide) (bn_i (if_ni (by decide) (if_ni (by decide) (if_ni (by decide) (if_ni (by decide) (if_ni (by decide) (if_ni (by decide) (if_ni (by decide) (if_pi rfl (congrArg some (S_cart S hj (k := 4) (by omega))))))))))) rfl)) (by decide) (by decide)
  | 8, _ =>
    have h5 : C.1 (1 + 18 + 3 * j) 5 = w (72 + 20 * j + 8) := S_cart S hj (k := 5) (by omega)
    have hw : ocF w j 8 = w (72 + 20 * j + 8) := rfl
    rcases (S.val _).wai j hj rfl with w0 | w1
    · rw [hw, w0]
      exact hab _ _ (if_ni (by decide) (bn_i (if_ni (by decide) (if_ni (by decide) (if_ni (by decide) (if_ni (by decide) (if_ni (by decide) (if_ni (by decide) (if_ni (by decide) (if_ni (by decide) (if_pi (h5.trans w0) rfl))))))))) rfl)) (by decide) (by decide)
    · rw [hw, w1]
      exact hab _ _ (if_ni (by decide) (bn_i (if_ni (by decide) (if_ni (by decide) (if_ni (by decide) (if_ni (by decide) (if_ni (by decide) (if_ni (by decide) (if_ni (by decide) (if_ni (by decide) (if_ni (fun q => absurd ((h5.trans w1).symm.trans q) (by decide)) rfl))))))))) rfl)) (by decide) (by decide)
  | 9, _ =>
    have hw : ocF w j 9 = nI (ptF w j T) := by
      show nI (ptF w j (w 10).toNatClampNeg) = _
      rw [S.wT, nI_clamp (by omega)]
    rw [hw]
    refine hab _ _ (if_pi (by decide) (bn_i (if_pi rfl (bn_i ?_ rfl)) rfl)) (by decide) (by decide)
    rw [S.cT]
    exact v_left S hj (Nat.le_refl T) (by omega)
  | 10, _ => exact hab _ _ (if_pi (by decide) (bn_i (if_ni (by decide) (if_pi rfl (congrArg some (S_cart S hj (k := 6) (by omega))))) rfl)) (by decide) (by decide)
  | 11, _ => exact hab _ _ (if_pi (by decide) (bn_i (if_ni (by decide) (if_ni (by decide) (if_pi rfl (congrArg some (S_cart S hj (k := 7) (by omega)))))) rfl)) (by decide) (by decide)
  | 12, _ => exact hab _ _ (if_pi (by decide) (bn_i (if_ni (by decide) (if_ni (by decide) (if_ni (by decide) (if_pi rfl (congrArg some (S_cart S hj (k := 8) (by omega))))))) rfl)) (by decide) (by decide)
  | 13, _ => exact hab _ _ (if_pi (by decide) (bn_i (if_ni (by decide) (if_ni (by decide) (if_ni (by decide) (if_ni (by decide) (if_pi rfl (congrArg some (S_cart S hj (k := 9) (by omega)))))))) rfl)) (by decide) (by decide)
  | 14, _ => exact hab _ _ (if_pi (by decide) (bn_i (if_ni (by decide) (if_ni (by decide) (if_ni (by decide) (if_ni (by decide) (if_ni (by decide) (if_pi rfl (congrArg some (S_cart S hj (k := 10) (by omega))))))))) rfl)) (by decide) (by decide)
  | 15, _ => exact hab _ _ (if_pi (by decide) (bn_i (if_ni (by decide) (if_ni (by decide) (if_ni (by decide) (if_ni (by decide) (if_ni (by decide) (if_ni (by decide) (congrArg some (S_cart S hj (k := 11) (by omega))))))))) rfl)) (by decide) (by decide)
  | t + 16, h => exact absurd h (by omega)
theorem v_noCart {C : mm_M} {w : Nat → Int32} {P K W T : Nat} {N : Nat → Nat} {xS : Nat → Nat → Nat} (S : Sim okA C 1 w P K W T N xS) (t : Int32) : fX6_ofCart C (nI K) t = some (-1) := by
  have lK := S.bd.lK
  rcases S.hasCart (nI K) with ⟨j, hj, e, h⟩ | ⟨h1, h⟩
  · have := (nI_eq (by omega) (by omega)).mp e
    omega
  · exact bn_i h (if_ni (by decide) rfl)
def moF (xS : Nat → Nat → Nat) (j t : Nat) : Int64 := if t = 0 then lN (xS j 0) - lN (xS j 1) - lN (xS j 2) - lN (xS j 3) else lN (xS j (t - 1))
theorem v_money {C : mm_M} {w : Nat → Int32} {P K W T : Nat} {N : Nat → Nat} {xS : Nat → Nat → Nat} (S : Sim okA C 1 w P K W T N xS) {j t : Nat} (hj : j < K) (ht : t < 5) : fX6_money C (nI j) (nI t) = some (moF xS j t) := by
  have lK := S.bd.lK
  have e := fun k hk => (S.sumE j hj k hk).1
  have hh : ∀ y r, (if y = 0 then (bn (fX0_balance C (1 + 18 + 3 * j)) fun r7 => some r7) else if y = 1 then some (C.2 (1 + 18 + 3 * j) 12) else if y = 2 then some (C.2 (1 + 18 + 3 * j) 13) else if y = 3 then some (C.2 (1 + 18 + 3 * j) 14) else if y = 4 then some (C.2 (1 + 18 + 3 * j) 15) else some ((-2) : Int64)) = r → fX6_money C (nI j) y = r := fun y r hr => by
    unfold fX6_money
    refine bn_i (z_hasC S hj) (if_pi rfl (gd_i (ix_nI (n := 16) (by omega) (by decide)) ?_))
    rw [nI_clamp (by omega)]
    exact hr
  have e0 : C.2 (1 + 18 + 3 * j) 12 = lN (xS j 0) := e 0 (by omega)
  have e1 : C.2 (1 + 18 + 3 * j) 13 = lN (xS j 1) := e 1 (by omega)
  have e2 : C.2 (1 + 18 + 3 * j) 14 = lN (xS j 2) := e 2 (by omega)
  have e3 : C.2 (1 + 18 + 3 * j) 15 = lN (xS j 3) := e 3 (by omega)
  match t, ht with
  | 0, _ =>
    refine hh _ _ (if_pi rfl ?_)
    unfold fX0_balance
    rw [e0, e1, e2, e3]
    rfl
  | 1, _ => exact hh _ _ (if_ni (by decide) (if_pi rfl (congrArg some e0)))
  | 2, _ => exact hh _ _ (if_ni (by decide) (if_ni (by decide) (if_pi rfl (congrArg some e1))))
  | 3, _ => exact hh _ _ (if_ni (by decide) (if_ni (by decide) (if_ni (by decide) (if_pi rfl (congrArg some e2)))))
  | 4, _ => exact hh _ _ (if_ni (by decide) (if_ni (by decide) (if_ni (by decide) (if_ni (by decide) (if_pi rfl (congrArg some e3))))))
  | t + 5, h => exact absurd h (by omega)
theorem v_ofPitch {C : mm_M} {w : Nat → Int32} {P K W T : Nat} {N : Nat → Nat} {xS : Nat → Nat → Nat} (S : Sim okA C 1 w P K W T N xS) {p t : Nat} (hp : p < P) (ht : t < 4) : fX6_ofPitch C (nI p) (nI t) = some (w (32 + 4 * p + t)) := by
  have lP := S.bd.lP
  have hP := z_hasP S (x := nI p) (Or.inr ⟨p, hp, rfl⟩)
  rw [decide_eq_true (n6 (by omega))] at hP
  have hcl : ∀ y r, (if y = 0 then some (C.1 (1 + 8 + p) 0) else if y = 1 then some (C.1 (1 + 8 + p) 1) else if y = 2 then some (C.1 (1 + 8 + p) 2) else if y = 3 then some (C.1 (1 + 8 + p) 3) else some (-2)) = r → fX6_ofPitch C (nI p) y = r := fun y r hr => by
    unfold fX6_ofPitch
    refine bn_i hP (if_pi rfl (gd_i (ix_nI (n := 10) (by omega) (by decide)) ?_))
    rw [nI_clamp (by omega)]
    exact hr
  match t, ht with
  | 0, _ => exact hcl _ _ (if_pi rfl (by rw [S_pit S hp (by omega)]))
  | 1, _ => exact hcl _ _ (if_ni (by decide) (if_pi rfl (by rw [S_pit S hp (by omega)])))
  | 2, _ => exact hcl _ _ (if_ni (by decide) (if_ni (by decide) (if_pi rfl (by rw [S_pit S hp (by omega)]))))
  | 3, _ => exact hcl _ _ (if_ni (by decide) (if_ni (by decide) (if_ni (by decide) (if_pi rfl (by rw [S_pit S hp (by omega)])))))
  | t + 4, h => exact absurd h (by omega)
theorem v_noPitch {C : mm_M} {w : Nat → Int32} {P K W T : Nat} {N : Nat → Nat} {xS : Nat → Nat → Nat} (S : Sim okA C 1 w P K W T N xS) (t : Int32) : fX6_ofPitch C (nI P) t = some (-1) := by
  have lP := S.bd.lP
  rcases S.hasPitch (nI P) with ⟨j, hj, e, h⟩ | ⟨h1, h⟩
  · have := (nI_eq (by omega) (by omega)).mp e
    omega
  · exact bn_i h (if_ni (by decide) rfl)
theorem v_pointsOn {C : mm_M} {w : Nat → Int32} {P K W T : Nat} {N : Nat → Nat} {xS : Nat → Nat → Nat} (S : Sim okA C 1 w P K W T N xS) {j d : Nat} (hj : j < K) (h1 : T ≤ d) (h2 : d ≤ T + 400) : fX6_pointsOn C (nI j) (nI d) = some (nI (ptF w j d)) := by
  have lK := S.bd.lK
  have lT := S.bd.lT
  have e4 : nI T + 400 = nI (T + 400) := nI_add T 400
  unfold fX6_pointsOn
  refine bn_i (z_hasC S hj) (if_pi rfl ?_)
  rw [S.cT, e4]
  refine if_ni (nI_nlt h1 (by omega)) (if_pi (nI_le h2 (by omega)) (gd_i (ix_nI (n := 16) (by omega) (by decide)) ?_))
  rw [nI_clamp (by omega)]
  exact bn_i (v_left S hj h1 h2) rfl
theorem v_pointsB {C : mm_M} {w : Nat → Int32} {P K W T : Nat} {N : Nat → Nat} {xS : Nat → Nat → Nat} (S : Sim okA C 1 w P K W T N xS) {j : Nat} (hj : j < K) {d : Int32} (h : d < nI T ∨ nI (T + 400) < d) : fX6_pointsOn C (nI j) d = some (-2) := by
  have lK := S.bd.lK
  have lT := S.bd.lT
  have e4 : nI T + 400 = nI (T + 400) := nI_add T 400
  unfold fX6_pointsOn
  refine bn_i (z_hasC S hj) (if_pi rfl ?_)
  rw [S.cT, e4]
  by_cases c : d < nI T
  · exact if_pi c rfl
  · exact if_ni c (if_ni (Int32.not_le.mpr (h.elim (fun q => absurd q c) (fun q => q))) rfl)
/-- the cart at t0 is another than j, and of its kind -/
def skF (w : Nat → Int32) (j : Nat) (t0 : Int32) : Bool := decide (¬ t0 < 0 ∧ ¬ t0 = nI j ∧ w (72 + 20 * t0.toNatClampNeg) = w (72 + 20 * j))
/-- who has the pitch that is told by x, none if there is no such pitch -/
def atF (w : Nat → Int32) (P : Nat) (x : Int32) : Int32 := if x < 0 then -6 else if nI P ≤ x then -6 else w (32 + 4 * x.toNatClampNeg + 3)
theorem v_43 {C : mm_M} {a : Nat} {w : Nat → Int32} {P K W T : Nat} {N : Nat → Nat} {xS : Nat → Nat → Nat} (S : Sim okA C a w P K W T N xS) {j : Nat} (hj : j < K) {t0 : Int32} (ht : nn t0 K) (k14 : Int32 → Option Bool) (v3 x2 : Int32) : fX5_sameKindBeside_43 a (nI j) x2 C k14 v3 t0 = if skF w j t0 = true then some true else k14 (v3 + 2) := by
  have lK := S.bd.lK
  have kd : ∀ i, i < K → C.1 (a + 18 + 3 * i) 0 = w (72 + 20 * i) := fun i hi => S_cart S hi (k := 0) (by omega)
  rcases ht with h | ⟨c, hc, h⟩
  · subst h
    have e : skF w j (-6) = false := decide_eq_false (fun q => q.1 (by decide))
    rw [e, if_neg (by decide)]
    have hn : ¬ (-6 : Int32) = nI j := n6' (by omega)
    rcases S.hasCart (-6) with ⟨i, hi, e, h⟩ | ⟨-, h⟩
    · exact absurd e (n6' (by omega))
    · unfold fX5_sameKindBeside_43
      exact if_ni hn (bn_i h (if_ni (by decide) rfl))
  · subst h
    by_cases e : c = j
    · subst e
      have e : skF w c (nI c) = false := decide_eq_false (fun q => q.2.1 rfl)
      rw [e, if_neg (by decide)]
      exact if_pi rfl rfl
    · have hne : ¬ nI c = nI j := fun q => e ((nI_eq (by omega) (by omega)).mp q)
      unfold fX5_sameKindBeside_43
      refine if_ni hne (bn_i (z_hasC S hc) (if_pi rfl (gd_i (ix_nI (n := 16) (by omega) (by decide)) (gd_i (ix_nI (n := 16) (by omega) (by decide)) ?_))))
      rw [nI_clamp (by omega), nI_clamp (by omega), kd c hc, kd j hj]
      by_cases q : w (72 + 20 * c) = w (72 + 20 * j)
      · have e : skF w j (nI c) = true := decide_eq_true ⟨nI_pos (by omega), hne, by rw [nI_clamp (by omega)]; exact q⟩
        rw [e, if_pos rfl]
        exact if_pi q rfl
      · have e : skF w j (nI c) = false := decide_eq_false (fun z => q (by have := z.2.2; rw [nI_clamp (by omega)] at this; exact this))
        rw [e, if_neg (show ¬ false = true by decide)]
        exact if_ni q rfl
theorem atF_nn {C : mm_M} {a : Nat} {w : Nat → Int32} {P K W T : Nat} {N : Nat → Nat} {xS : Nat → Nat → Nat} (S : Sim okA C a w P K W T N xS) (x : Int32) : nn (atF w P x) K := by
  have lP := S.bd.lP
  unfold atF
  by_cases c0 : x < 0
  · rw [if_pos c0]; exact Or.inl rfl
  · rw [if_neg c0]
    by_cases c1 : nI P ≤ x
    · rw [if_pos c1]; exact Or.inl rfl
    · rw [if_neg c1]
      obtain ⟨q, hq, e⟩ := (nn_lt (by omega)).mp ⟨c0, c1⟩
      rw [e, nI_clamp (by omega)]
      exact (S.val _).pn q hq rfl
theorem v_side {C : mm_M} {a : Nat} {w : Nat → Int32} {P K W T : Nat} {N : Nat → Nat} {xS : Nat → Nat → Nat} (S : Sim okA C a w P K W T N xS) {j : Nat} (hj : j < K) (x : Int32) (k14 : Int32 → Option Bool) (x2 : Int32) : (bn (fX5_hasPitch C a x) fun r3 => if r3 = true then gd (¬ (x < 0 ∨ 10 ≤ x.toNatClampNeg)) <| fX5_sameKindBeside_43 a (nI j) x2 C k14 x (C.1 (a + 8 + x.toNatClampNeg) 3) else fX5_sameKindBeside_43 a (nI j) x2 C k14 x (-6)) = if skF w j (atF w P x) = true then some true else k14 (x + 2) := by
  have lP := S.bd.lP
  have nnn := atF_nn S x
  rcases S.hasPitch x with ⟨q, hq, e, h1⟩ | ⟨h1, h2⟩
  · subst e
    have ea : atF w P (nI q) = w (32 + 4 * q + 3) := by
      unfold atF
      rw [if_neg (nI_pos (by omega)), if_neg (nI_ge hq (by omega)), nI_clamp (by omega)]
    have hh : C.1 (a + 8 + q) 3 = w (32 + 4 * q + 3) := S_pit S hq (by omega)
    refine bn_i h1 (if_pi rfl (gd_i (ix_nI (n := 10) (by omega) (by decide)) ?_))
    rw [nI_clamp (by omega), hh]
    rw [ea] at nnn ⊢
    exact v_43 S hj nnn _ _ _
  · have ea : atF w P x = -6 := by
      unfold atF
      by_cases c0 : x < 0
      · rw [if_pos c0]
      · rw [if_neg c0]
        by_cases c1 : nI P ≤ x
        · rw [if_pos c1]
        · obtain ⟨q, hq, e⟩ := (nn_lt (by omega)).mp ⟨c0, c1⟩
          exact absurd e (h1 q hq)
    refine bn_i h2 (if_ni (by decide) ?_)
    rw [ea]
    exact v_43 S hj (Or.inl rfl) _ _ _
theorem v_beside {C : mm_M} {a : Nat} {w : Nat → Int32} {P K W T : Nat} {N : Nat → Nat} {xS : Nat → Nat → Nat} (S : Sim okA C a w P K W T N xS) {j p : Nat} (hj : j < K) (hp : p < P) : fX5_sameKindBeside C a (nI j) (nI p) = some (skF w j (atF w P (nI p - 1)) || skF w j (atF w P (nI p + 1))) := by
  have lP := S.bd.lP
  obtain ⟨p1, p2, p3, p4⟩ := pm p (by omega)
  obtain ⟨n, hn⟩ : ∃ n, FU = n + 1 + 1 + 1 := ⟨999997, rfl⟩
  unfold fX5_sameKindBeside
  refine bn_i (z_hasC S hj) (if_pi rfl (lt_i ?_))
  rw [hn, fX5_sameKindBeside_14]
  refine if_ni p1 ?_
  rw [v_side S hj, p2]
  cases skF w j (atF w P (nI p - 1))
  · rw [if_neg (by decide), fX5_sameKindBeside_14]
    refine if_ni p3 ?_
    rw [v_side S hj]
    cases skF w j (atF w P (nI p + 1))
    · rw [if_neg (by decide), fX5_sameKindBeside_14]
      exact if_pi p4 rfl
    · rw [if_pos rfl]; rfl
  · rw [if_pos rfl]; rfl
/-- why the cart j could not be put on p -/
def whF (w : Nat → Int32) (P j p : Nat) : Int32 := if w (32 + 4 * p + 3) = -6 ∨ w (32 + 4 * p + 3) = nI j then (if (skF w j (atF w P (nI p - 1)) || skF w j (atF w P (nI p + 1))) = true then 2 else 0) else 1
theorem v_whyNot {C : mm_M} {w : Nat → Int32} {P K W T : Nat} {N : Nat → Nat} {xS : Nat → Nat → Nat} (S : Sim okA C 1 w P K W T N xS) {j p : Nat} (hj : j < K) (hp : p < P) : fX6_whyNot C (nI j) (nI p) = some (whF w P j p) := by
  have lP := S.bd.lP
  have hP := z_hasP S (x := nI p) (Or.inr ⟨p, hp, rfl⟩)
  rw [decide_eq_true (n6 (by omega))] at hP
  have hh : C.1 (1 + 8 + p) 3 = w (32 + 4 * p + 3) := S_pit S hp (by omega)
  have c50 : fX6_whyNot_50 (nI j) (nI p) C = some (if (skF w j (atF w P (nI p - 1)) || skF w j (atF w P (nI p + 1))) = true then 2 else 0) := by
    refine bn_i (v_beside S hj hp) ?_
    cases (skF w j (atF w P (nI p - 1)) || skF w j (atF w P (nI p + 1)))
    · rfl
    · rfl
  refine bn_i (z_hasC S hj) (if_pi rfl (bn_i hP (if_pi rfl (gd_i (ix_nI (n := 10) (by omega) (by decide)) ?_))))
  rw [nI_clamp (by omega), hh]
  unfold whF
  refine lt_i ?_
  by_cases q : w (32 + 4 * p + 3) = -6
  · rw [if_pos (Or.inl q)]
    exact if_pi q c50
  · by_cases q2 : w (32 + 4 * p + 3) = nI j
    · rw [if_pos (Or.inr q2)]
      exact if_ni q (if_pi q2 c50)
    · rw [if_neg (show ¬ (w (32 + 4 * p + 3) = -6 ∨ w (32 + 4 * p + 3) = nI j) from fun z => z.elim q q2)]
      exact if_ni q (if_ni q2 rfl)
theorem v_noWhy {C : mm_M} {w : Nat → Int32} {P K W T : Nat} {N : Nat → Nat} {xS : Nat → Nat → Nat} (S : Sim okA C 1 w P K W T N xS) (y : Int32) : fX6_whyNot C (nI K) y = some (-1) := by
  have lK := S.bd.lK
  rcases S.hasCart (nI K) with ⟨j, hj, e, h⟩ | ⟨h1, h⟩
  · have := (nI_eq (by omega) (by omega)).mp e
    omega
  · exact bn_i h (if_ni (by decide) rfl)
