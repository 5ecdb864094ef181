/-! p32: sound -/
abbrev k38T := mm_M → (Nat → Int32) → Int32 → Int32 → Int32 → Int32 → Int32 → Int32 → Int32 → Int32 → Int32 → Option (Bool × mm_M)
theorem tm1 {T : Nat} (h : T < 2 ^ 30) : nI T - 1 < nI T := by
  rw [Int32.lt_iff_toInt_lt, show (1 : Int32) = nI 1 from rfl, sub_toInt (by omega) (by omega), nI_toInt (by omega)]
  omega
section
variable {C : mm_M} {w : Nat → Int32} {P K W T : Nat} {N : Nat → Nat} {xS : Nat → Nat → Nat}
theorem so_387 (S : Sim okA C 1 w P K W T N xS) {c : Nat} (hc : c < K) {k38 : k38T} {F : Nat → Int32} {v1 v2 v3 v4 v5 v6 v7 v8 : Int32} {r : Option (Bool × mm_M)} (hk : k38 C F v1 v2 v3 v4 v5 v6 v7 v8 (nI (c + 1)) = r) : ∀ (d i n b : Nat), i + d = 4 → d < n → b ≤ 2000000 → ptF w c (T + (1 + 3 * i)) ≤ b → fL_sound_387 k38 n C F v1 v2 v3 v4 v5 v6 v7 v8 (nI c) (nI b) (nI (1 + 3 * i)) = r := by
  have lT := S.bd.lT
  have c0 : fX6_count C 0 = some (nI T) := by
    have := v_count S (k := 0) (by omega) (by omega) (by omega)
    rw [show ctF w K 0 = w 10 from rfl, S.wT] at this
    exact this
  obtain ⟨l, l1, l2, el⟩ := (S.val 5).r5 rfl
  have c13 : fX6_count C 13 = some (nI l) := by
    have := v_count S (k := 13) (by omega) (by omega) (by omega)
    rw [show ctF w K 13 = w 5 from rfl, el] at this
    exact this
  intro d
  induction d with
  | zero =>
    intro i n b hi hn hb h
    obtain ⟨n, rfl⟩ : ∃ q, n = q + 1 := ⟨n - 1, by omega⟩
    have e : i = 4 := by omega
    subst e
    have e1 : nI T + nI l = nI (T + l) := nI_add T l
    have e2 : nI T + 401 = nI (T + 401) := nI_add T 401
    have p0 : fX6_pointsOn C (nI c) (nI (T + l)) = some (nI 0) := by
      rw [v_pointsOn S hc (by omega) (by omega), ptF_0 w c (by rw [S.wT, el, nI_clamp (by omega), nI_clamp (by omega)]; omega)]
    have p1 : fX6_pointsOn C (nI c) (nI T - 1) = some (-2) := v_pointsB S hc (Or.inl (tm1 lT))
    have p2 : fX6_pointsOn C (nI c) (nI (T + 401)) = some (-2) := v_pointsB S hc (Or.inr (nI_lt (by omega) (by omega)))
    rw [fL_sound_387]
    refine if_pi (by decide) (bn_i c0 (bn_i c13 ?_))
    rw [e1]
    refine bn_i p0 (if_pi rfl (bn_i c0 (bn_i p1 (if_pi rfl (bn_i c0 ?_)))))
    rw [e2]
    refine bn_i p2 (if_pi rfl (lt_i ?_))
    rw [nI_1]
    exact hk
  | succ d ih =>
    intro i n b hi hn hb h
    obtain ⟨n, rfl⟩ : ∃ q, n = q + 1 := ⟨n - 1, by omega⟩
    have hl := ptF_le S hc (d := T + (1 + 3 * i)) (by omega)
    have e3 : nI (1 + 3 * i) + 3 = nI (1 + 3 * (i + 1)) := by
      have := nI_add (1 + 3 * i) 3
      rw [show 1 + 3 * i + 3 = 1 + 3 * (i + 1) by omega] at this
      exact this
    rw [fL_sound_387]
    refine if_ni (show ¬ nI 13 ≤ nI (1 + 3 * i) from nI_ge (by omega) (by decide)) (bn_i c0 ?_)
    rw [nI_add]
    refine bn_i (v_pointsOn S hc (by omega) (by omega)) (if_ni (nI_pos (by omega)) (if_pi (nI_le h (by omega)) (lt_i ?_)))
    rw [e3]
    exact ih (i + 1) n _ (by omega) (by omega) hl (ptF_dec w c (by omega))
theorem so_308 (S : Sim okA C 1 w P K W T N xS) {c : Nat} (hc : c < K) {k38 : k38T} {F : Nat → Int32} {v1 v2 v3 v4 v5 v6 v7 v8 : Int32} {r : Option (Bool × mm_M)} (hk : k38 C F v1 v2 v3 v4 v5 v6 v7 v8 (nI (c + 1)) = r) : fL_sound_308 k38 C F v1 v2 v3 v4 v5 v6 v7 v8 (nI c) = r := by
  have lT := S.bd.lT
  have c0 : fX6_count C 0 = some (nI T) := by
    have := v_count S (k := 0) (by omega) (by omega) (by omega)
    rw [show ctF w K 0 = w 10 from rfl, S.wT] at this
    exact this
  have k9 : fX6_ofCart C (nI c) 9 = some (nI (ptF w c T)) := by
    have := v_ofCart S hc (t := 9) (by omega)
    have e : ocF w c 9 = nI (ptF w c (w 10).toNatClampNeg) := rfl
    rw [e, S.wT, nI_clamp (by omega)] at this
    exact this
  have m := fun t ht => v_money S hc (t := t) ht
  unfold fL_sound_308
  refine bn_i (m 0 (by omega)) (bn_i (m 1 (by omega)) (bn_i (m 2 (by omega)) (bn_i (m 3 (by omega)) (bn_i (m 4 (by omega)) (if_pi ((lg_cmp_eq _ _).mpr rfl) (bn_i c0 (bn_i (v_pointsOn S hc (Nat.le_refl T) (by omega)) (bn_i k9 (if_pi rfl (bn_i k9 ?_))))))))))
  exact so_387 S hc hk 4 0 FU (ptF w c T) (by omega) (by unfold FU; omega) (ptF_le S hc (Nat.le_refl T)) (ptF_dec w c (by omega))
/-- a cart's hours, and where they begin -/
def gg (w : Nat → Int32) (i : Nat) : Nat := (w (72 + 20 * i + 1)).toNatClampNeg
def bb (w : Nat → Int32) (i : Nat) : Nat := (w (72 + 20 * i + 12)).toNatClampNeg
/-- the cart i is in a kitchen at the hour h -/
def cov (w : Nat → Int32) (h i : Nat) : Bool := decide (¬ w (72 + 20 * i + 11) = -6 ∧ bb w i ≤ h ∧ h < bb w i + gg w i)
theorem cnB_1 {q : Nat → Bool} : ∀ n, (∀ i j, i < n → j < n → i ≠ j → ¬ (q i = true ∧ q j = true)) → cnB q n ≤ 1 := by
  intro n
  induction n with
  | zero => intro _; exact Nat.zero_le _
  | succ n ih =>
    intro h
    have h0 := ih (fun i j hi hj => h i j (by omega) (by omega))
    show cnB q n + (if q n = true then 1 else 0) ≤ 1
    by_cases c : q n = true
    · have z : ∀ m, m ≤ n → cnB q m = 0 := by
        intro m
        induction m with
        | zero => intro _; rfl
        | succ m im =>
          intro hm
          show cnB q m + (if q m = true then 1 else 0) = 0
          rw [im (by omega), if_neg (fun z => h m n (by omega) (by omega) (by omega) ⟨z, c⟩)]
      rw [z n (Nat.le_refl _), if_pos c]
      exact Nat.le_refl _
    · rw [if_neg c]; exact h0
theorem cnB_split (q t : Nat → Bool) (n : Nat) : cnB q n = cnB (fun i => q i && t i) n + cnB (fun i => q i && !t i) n := by
  induction n with
  | zero => rfl
  | succ n ih =>
    show cnB q n + (if q n = true then 1 else 0) = cnB (fun i => q i && t i) n + (if (q n && t n) = true then 1 else 0) + (cnB (fun i => q i && !t i) n + (if (q n && !t n) = true then 1 else 0))
    rw [ih]
    cases q n <;> cases t n <;> simp <;> omega
theorem cov_2 (S : Sim okA C 1 w P K W T N xS) (hk : Kch w K) (h : Nat) : cnB (cov w h) K ≤ 2 := by
  obtain ⟨kt, bg, k1, k2⟩ := hk
  have lK := S.bd.lK
  have ex : ∀ i, i < K → cov w h i = true → ¬ w (72 + 20 * i + 11) = -6 ∧ bg i ≤ h ∧ h < bg i + gg w i ∧ w (72 + 20 * i + 1) = nI (gg w i) ∧ gg w i ≤ 6 := fun i hi q => by
    have q' := of_decide_eq_true q
    obtain ⟨g, g1, g2, g3, g4⟩ := k1 i hi q'.1
    obtain ⟨x, x1, x2, x3⟩ := (S.val _).hrs i hi rfl
    have e1 : gg w i = g := by unfold gg; rw [g2, nI_clamp (by omega)]
    have e2 : bb w i = bg i := by unfold bb; rw [g3, nI_clamp (by omega)]
    have e3 : g = x := (nI_eq (by omega) (by omega)).mp (g2.symm.trans x3)
    rw [e1, e2] at q'
    rw [e1]
    exact ⟨q'.1, q'.2.1, q'.2.2, g2, by omega⟩
  have one : ∀ b : Bool, cnB (fun i => cov w h i && (kt i == b)) K ≤ 1 := fun b => cnB_1 K (fun i j hi hj hne q => by
    have a1 := ex i hi (by have := q.1; simp at this; exact this.1)
    have a2 := ex j hj (by have := q.2; simp at this; exact this.1)
    have t1 : kt i = b := by have := q.1; simp at this; exact this.2
    have t2 : kt j = b := by have := q.2; simp at this; exact this.2
    have := k2 i j hi hj hne a1.1 a2.1 (t1.trans t2.symm) _ _ a1.2.2.2.1 a2.2.2.2.1 a1.2.2.2.2 a2.2.2.2.2
    omega)
  have e := cnB_split (cov w h) (fun i => kt i == true) K
  have h1 := one true
  have h2 := one false
  have e2 : cnB (fun i => cov w h i && !(kt i == true)) K = cnB (fun i => cov w h i && (kt i == false)) K := cnB_congr (fun i _ => by cases kt i <;> rfl)
  rw [e2] at e
  omega
theorem cnB_mono (q : Nat → Bool) {n m : Nat} (h : n ≤ m) : cnB q n ≤ cnB q m := by
  induction m with
  | zero => rw [show n = 0 by omega]; exact Nat.le_refl _
  | succ m ih =>
    show cnB q n ≤ cnB q m + (if q m = true then 1 else 0)
    by_cases e : n = m + 1
    · rw [e]; exact Nat.le_refl _
    · have := ih (by omega)
      omega
/-- the hours of a cart that has a pitch -/
theorem so_215 (S : Sim okA C 1 w P K W T N xS) (hkc : Kch w K) {c : Nat} (hc : c < K) (h11 : ¬ w (72 + 20 * c + 11) = -6) {k38 : k38T} {v1 v2 v3 v4 v5 v6 v7 v8 : Int32} {r : Option (Bool × mm_M)} (hk : ∀ F, (∀ x, x < 16 → F x = nI (cnB (cov w x) (c + 1))) → k38 C F v1 v2 v3 v4 v5 v6 v7 v8 (nI (c + 1)) = r) : ∀ (d t n : Nat) (F : Nat → Int32), t + d = bb w c + gg w c → bb w c ≤ t → d < n → (∀ x, x < 16 → F x = nI (cnB (cov w x) c + (if bb w c ≤ x ∧ x < t then 1 else 0))) → fL_sound_215 k38 n C F v1 v2 v3 v4 v5 v6 v7 v8 (nI c) (nI (bb w c)) (nI t) = r := by
  have lK := S.bd.lK
  have hkc0 := hkc
  obtain ⟨kt, bg, k1, k2⟩ := hkc
  obtain ⟨g, g1, g2, g3, g4⟩ := k1 c hc h11
  have e1 : gg w c = g := by unfold gg; rw [g2, nI_clamp (by omega)]
  have e2 : bb w c = bg c := by unfold bb; rw [g3, nI_clamp (by omega)]
  have o1 : fX6_ofCart C (nI c) 1 = some (nI (gg w c)) := by
    have := v_ofCart S hc (t := 1) (by omega)
    have e : ocF w c 1 = w (72 + 20 * c + 1) := rfl
    rw [e, g2, ← e1] at this
    exact this
  have cs : ∀ x, cnB (cov w x) (c + 1) = cnB (cov w x) c + (if bb w c ≤ x ∧ x < bb w c + gg w c then 1 else 0) := fun x => by
    show cnB (cov w x) c + (if cov w x c = true then 1 else 0) = _
    by_cases q : bb w c ≤ x ∧ x < bb w c + gg w c
    · rw [if_pos q, if_pos (show cov w x c = true from decide_eq_true ⟨h11, q⟩)]
    · rw [if_neg q, if_neg (fun z => q (of_decide_eq_true z).2)]
  intro d
  induction d with
  | zero =>
    intro t n F ht hb hn hF
    obtain ⟨n, rfl⟩ : ∃ q, n = q + 1 := ⟨n - 1, by omega⟩
    rw [fL_sound_215]
    refine bn_i o1 ?_
    rw [nI_add]
    refine if_pi (nI_le (by omega) (by omega)) (so_308 S hc (hk F (fun x hx => ?_)))
    rw [hF x hx, cs x, show t = bb w c + gg w c by omega]
  | succ d ih =>
    intro t n F ht hb hn hF
    obtain ⟨n, rfl⟩ : ∃ q, n = q + 1 := ⟨n - 1, by omega⟩
    have h2 : cnB (cov w t) (c + 1) ≤ 2 := Nat.le_trans (cnB_mono _ (by omega)) (cov_2 S hkc0 t)
    have ct := cs t
    rw [if_pos (by omega)] at ct
    rw [fL_sound_215]
    refine bn_i o1 ?_
    rw [nI_add]
    refine if_ni (nI_ge (by omega) (by omega)) (gd_i (ix_nI (n := 16) (by omega) (by decide)) ?_)
    rw [nI_clamp (by omega), hF t (by omega), if_neg (by omega), Nat.add_zero, nI_1, nI_1]
    refine lt_i (if_ni (show ¬ nI 13 < nI t from nI_nlt (by omega) (by omega)) ?_)
    rw [show aS F t (nI (cnB (cov w t) c + 1)) t = nI (cnB (cov w t) c + 1) from if_pos rfl]
    refine if_pi (show nI (cnB (cov w t) c + 1) ≤ nI 2 from nI_le (by omega) (by omega)) (lt_i ?_)
    refine ih (t + 1) n _ (by omega) (by omega) (by omega) (fun x hx => ?_)
    show (if x = t then nI (cnB (cov w t) c + 1) else F x) = _
    by_cases q : x = t
    · rw [if_pos q, q, if_pos (by omega)]
    · rw [if_neg q, hF x hx]
      by_cases q2 : bb w c ≤ x ∧ x < t
      · rw [if_pos q2, if_pos (by omega)]
      · rw [if_neg q2, if_neg (by omega)]
/-- how far the lots went -/
def hiF (w : Nat → Int32) : Nat → Nat
  | 0 => 0
  | c + 1 => if w (72 + 20 * c + 14) = -6 then hiF w c else if hiF w c ≤ (w (72 + 20 * c + 14)).toNatClampNeg then (w (72 + 20 * c + 14)).toNatClampNeg + 1 else hiF w c
/-- who was drawn -/
def db (w : Nat → Int32) (i : Nat) : Bool := decide (¬ w (72 + 20 * i + 14) = -6)
theorem so_drawn (O : Odr w K) (lK : K ≤ 16) : cnB (db w) K = hiF w K := by
  obtain ⟨ord, p, o1, o2, o3⟩ := O
  have v : ∀ c, c < K → ¬ w (72 + 20 * c + 14) = -6 → (w (72 + 20 * c + 14)).toNatClampNeg < p ∧ ord (w (72 + 20 * c + 14)).toNatClampNeg = c := fun c hc h => by
    rcases o3 c hc with q | ⟨q, hq, e, eo⟩
    · exact absurd q h
    · rw [e, nI_clamp (by omega)]
      exact ⟨hq, eo⟩
  have up1 : ∀ c, c ≤ K → hiF w c ≤ p := by
    intro c
    induction c with
    | zero => intro _; exact Nat.zero_le _
    | succ c ih =>
      intro hc
      have h0 := ih (by omega)
      show (if w (72 + 20 * c + 14) = -6 then hiF w c else if hiF w c ≤ (w (72 + 20 * c + 14)).toNatClampNeg then (w (72 + 20 * c + 14)).toNatClampNeg + 1 else hiF w c) ≤ p
      by_cases q : w (72 + 20 * c + 14) = -6
      · rw [if_pos q]; exact h0
      · have := (v c (by omega) q).1
        rw [if_neg q]
        by_cases q2 : hiF w c ≤ (w (72 + 20 * c + 14)).toNatClampNeg
        · rw [if_pos q2]; omega
        · rw [if_neg q2]; exact h0
  have lo : ∀ c, c ≤ K → ∀ i, i < c → ¬ w (72 + 20 * i + 14) = -6 → (w (72 + 20 * i + 14)).toNatClampNeg < hiF w c := by
    intro c
    induction c with
    | zero => intro _ i hi; omega
    | succ c ih =>
      intro hc i hi h
      show _ < (if w (72 + 20 * c + 14) = -6 then hiF w c else if hiF w c ≤ (w (72 + 20 * c + 14)).toNatClampNeg then (w (72 + 20 * c + 14)).toNatClampNeg + 1 else hiF w c)
      by_cases e : i = c
      · subst e
        rw [if_neg h]
        by_cases q2 : hiF w i ≤ (w (72 + 20 * i + 14)).toNatClampNeg
        · rw [if_pos q2]; omega
        · rw [if_neg q2]; omega
      · have h0 := ih (by omega) i (by omega) h
        by_cases q : w (72 + 20 * c + 14) = -6
        · rw [if_pos q]; exact h0
        · rw [if_neg q]
          by_cases q2 : hiF w c ≤ (w (72 + 20 * c + 14)).toNatClampNeg
          · rw [if_pos q2]; omega
          · rw [if_neg q2]; exact h0
  have hp : hiF w K = p := by
    have h1 := up1 K (Nat.le_refl _)
    rcases Nat.eq_zero_or_pos p with z | z
    · omega
    · obtain ⟨a1, a2⟩ := o2 (p - 1) (by omega)
      have h2 := lo K (Nat.le_refl _) (ord (p - 1)) a1 (by rw [a2]; exact n6 (by omega))
      rw [a2, nI_clamp (by omega)] at h2
      omega
  rw [hp]
  have go : ∀ m, m ≤ p → cnB (fun i => decide (¬ w (72 + 20 * i + 14) = -6 ∧ (w (72 + 20 * i + 14)).toNatClampNeg < m)) K = m := by
    intro m
    induction m with
    | zero =>
      intro _
      have : ∀ n, cnB (fun i => decide (¬ w (72 + 20 * i + 14) = -6 ∧ (w (72 + 20 * i + 14)).toNatClampNeg < 0)) n = 0 := by
        intro n
        induction n with
        | zero => rfl
        | succ n ih =>
          show cnB _ n + (if decide (¬ w (72 + 20 * n + 14) = -6 ∧ (w (72 + 20 * n + 14)).toNatClampNeg < 0) = true then 1 else 0) = 0
          rw [ih, if_neg (fun z => by have := (of_decide_eq_true z).2; omega)]
      exact this K
    | succ m ih =>
      intro hm
      have h0 := ih (by omega)
      obtain ⟨a1, a2⟩ := o2 m (by omega)
      have key : ∀ n, cnB (fun i => decide (¬ w (72 + 20 * i + 14) = -6 ∧ (w (72 + 20 * i + 14)).toNatClampNeg < m + 1)) n = cnB (fun i => decide (¬ w (72 + 20 * i + 14) = -6 ∧ (w (72 + 20 * i + 14)).toNatClampNeg < m)) n + (if ord m < n ∧ n ≤ K then 1 else 0) ∨ K < n := by
        intro n
        induction n with
        | zero => exact Or.inl (by rw [if_neg (by omega)]; rfl)
        | succ n ih2 =>
          by_cases hn : K < n + 1
          · exact Or.inr hn
          · rcases ih2 with ih2 | ih2
            · refine Or.inl ?_
              show cnB _ n + (if decide (¬ w (72 + 20 * n + 14) = -6 ∧ (w (72 + 20 * n + 14)).toNatClampNeg < m + 1) = true then 1 else 0) = cnB _ n + (if decide (¬ w (72 + 20 * n + 14) = -6 ∧ (w (72 + 20 * n + 14)).toNatClampNeg < m) = true then 1 else 0) + _
              rw [ih2]
              by_cases e : n = ord m
              · rw [e, a2, nI_clamp (by omega)]
                rw [if_pos (decide_eq_true ⟨n6 (by omega), by omega⟩), if_neg (show ¬ (ord m < ord m ∧ ord m ≤ K) by omega), if_neg (fun z => by have := (of_decide_eq_true z).2; omega), if_pos (show ord m < ord m + 1 ∧ ord m + 1 ≤ K by omega)]
              · have same : decide (¬ w (72 + 20 * n + 14) = -6 ∧ (w (72 + 20 * n + 14)).toNatClampNeg < m + 1) = decide (¬ w (72 + 20 * n + 14) = -6 ∧ (w (72 + 20 * n + 14)).toNatClampNeg < m) := by
                  refine decide_eq_decide.mpr ⟨fun z => ⟨z.1, ?_⟩, fun z => ⟨z.1, by omega⟩⟩
                  have h1 := (v n (by omega) z.1).2
                  have h2 := z.2
                  by_cases z3 : (w (72 + 20 * n + 14)).toNatClampNeg = m
                  · rw [z3] at h1; exact absurd h1.symm e
                  · omega
                rw [same]
                by_cases z : ord m < n ∧ n ≤ K
                · rw [if_pos z, if_pos (show ord m < n + 1 ∧ n + 1 ≤ K by omega)]; omega
                · rw [if_neg z, if_neg (show ¬ (ord m < n + 1 ∧ n + 1 ≤ K) by omega)]
                  omega
            · omega
      rcases key K with q | q
      · rw [q, h0, if_pos ⟨a1, Nat.le_refl _⟩]
      · omega
  rw [← go p (Nat.le_refl _)]
  refine cnB_congr (fun i hi => decide_eq_decide.mpr ⟨fun z => ⟨z, (v i hi z).1⟩, fun z => z.1⟩)
end
