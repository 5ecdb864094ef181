/-! SIM: a day: the lots -/
theorem sm_ext {g g' : Nat → Nat} : ∀ m b, (∀ k, b ≤ k → k < b + m → g' k = g k) → sm g' b m = sm g b m
  | 0, b => fun _ => rfl
  | m + 1, b => fun h => by
    show g' b + sm g' (b + 1) m = g b + sm g (b + 1) m
    rw [h b (by omega) (by omega), sm_ext m (b + 1) (fun k h1 h2 => h k (by omega) (by omega))]
theorem sm_u0 (g : Nat → Nat) {c : Nat} : ∀ m b, b ≤ c → c < b + m → sm (u0 g c) b m + g c = sm g b m
  | 0, b => fun h1 h2 => by omega
  | m + 1, b => fun h1 h2 => by
    show u0 g c b + sm (u0 g c) (b + 1) m + g c = g b + sm g (b + 1) m
    by_cases e : c = b
    · subst e
      rw [show u0 g c c = 0 from if_pos rfl, sm_ext (g := g) (g' := u0 g c) m (c + 1) (fun k h3 h4 => if_neg (show ¬ k = c by omega))]
      omega
    · rw [show u0 g c b = g b from if_neg (by omega)]
      have := sm_u0 g (c := c) m (b + 1) (by omega) (by omega)
      omega
theorem pos_u0 (tv : Nat → Nat) (c : Nat) : pos (u0 tv c) = u0 (pos tv) c := by
  funext i
  unfold pos u0
  by_cases e : i = c
  · rw [if_pos e, if_pos e, if_neg (by omega)]
  · rw [if_neg e, if_neg e]
theorem pos_1 {tv : Nat → Nat} {c : Nat} (h : 0 < tv c) : pos tv c = 1 := if_pos h
theorem sm_z {g : Nat → Nat} {m b : Nat} (h : sm g b m = 0) {k : Nat} (h1 : b ≤ k) (h2 : k < b + m) : g k = 0 := by
  have := sm_mem g (k := k) m b h1 h2
  omega
theorem sm_p {g : Nat → Nat} : ∀ m b, 0 < sm g b m → ∃ k, b ≤ k ∧ k < b + m ∧ 0 < g k
  | 0, b => fun h => absurd h (by show ¬ 0 < 0; omega)
  | m + 1, b => fun h => by
    have h' : 0 < g b + sm g (b + 1) m := h
    by_cases q : 0 < g b
    · exact ⟨b, by omega, by omega, q⟩
    · obtain ⟨k, h1, h2, h3⟩ := sm_p (g := g) m (b + 1) (by omega)
      exact ⟨k, by omega, by omega, h3⟩
/-- who is to draw, and with how many tickets, in the reference -/
theorem m_toD {C D : mm_M} {a P K W T p : Nat} {N tv ord : Nat → Nat} (d : Dr C a (D.1 732) P K W T N tv ord p) {D1 : mm_M} (hrow : ∀ s, s ≠ 11 → D1.1 732 s = D.1 732 s) {i : Nat} (hi : i < K) : fX7_isToDraw D1 (nI i) = some (decide (0 < tv i)) := by
  obtain ⟨S, d2, d3, d4, d5, d6, d7, d8⟩ := d
  have lK := S.bd.lK
  have o19 : fX7_of D1 (nI i) 19 = some (D.1 732 (72 + 20 * i + 19)) := by rw [← hrow _ (by omega)]; exact of_i (k := 19) (by omega) (by omega)
  have o14 : fX7_of D1 (nI i) 14 = some (D.1 732 (72 + 20 * i + 14)) := by rw [← hrow _ (by omega)]; exact of_i (k := 14) (by omega) (by omega)
  unfold fX7_isToDraw
  refine bn_i o19 ?_
  by_cases q : 0 < tv i
  · obtain ⟨-, -, h14, h19, -⟩ := d4 i hi q
    rw [h19, decide_eq_true q]
    refine if_pi rfl (bn_i o14 ?_)
    rw [h14]
    exact if_ni (by decide) rfl
  · rw [decide_eq_false q]
    rcases d5 i hi (by omega) with ⟨h19, h14⟩ | ⟨h19, x, hx, h14, -⟩
    · rw [h19]
      exact if_ni (by decide) rfl
    · rw [h19]
      refine if_pi rfl (bn_i o14 ?_)
      rw [h14]
      exact if_pi (nI_pos' (by omega)) rfl
theorem m_tick {C D : mm_M} {a P K W T p : Nat} {N tv ord : Nat → Nat} (d : Dr C a (D.1 732) P K W T N tv ord p) {D1 : mm_M} (hrow : ∀ s, s ≠ 11 → D1.1 732 s = D.1 732 s) {i : Nat} (hi : i < K) (q : 0 < tv i) : fX7_ticketsOf D1 (nI i) = some (nI (tv i)) := by
  obtain ⟨S, d2, d3, d4, d5, d6, d7, d8⟩ := d
  have lK := S.bd.lK
  have lT := S.bd.lT
  obtain ⟨-, -, -, -, e⟩ := d4 i hi q
  obtain ⟨tk, t1, t2, et⟩ := (S.val 0).r0 rfl
  obtain ⟨l, hl, el⟩ := (S.val (72 + 20 * i + 6)).los i hi rfl
  have o6 : fX7_of D1 (nI i) 6 = some (nI l) := by rw [← el, ← hrow _ (by omega)]; exact of_i (k := 6) (by omega) (by omega)
  have e1 : 1 + nI l = nI (1 + l) := nI_add 1 l
  unfold tkl at e
  rw [et, el, nI_clamp (by omega), nI_clamp (by omega)] at e
  unfold fX7_ticketsOf
  refine bn_i o6 (lt_i ?_)
  rw [e1, hrow 0 (by omega), et]
  by_cases c : tk < 1 + l
  · rw [if_pos c] at e
    rw [e]
    exact if_pi (nI_le (by omega) (by omega)) rfl
  · rw [if_neg c] at e
    by_cases c2 : tk = 1 + l
    · rw [e, c2]
      exact if_pi (Int32.le_refl _) rfl
    · rw [e]
      exact if_ni (nI_ge (by omega) (by omega)) rfl
/-- whose ticket it is -/
theorem z_hold {C D : mm_M} {a P K W T p : Nat} {N tv ord : Nat → Nat} (d : Dr C a (D.1 732) P K W T N tv ord p) {C1 D1 : mm_M} (hC1 : C1.1 (a + 6) = C.1 (a + 6)) (hC3 : C1.1 a 3 = nI K) (hrow : ∀ s, s ≠ 11 → D1.1 732 s = D.1 732 s) {x : Nat} (hx : x < 1000) {x1 : Int32} : ∀ (m i n n' cnt : Nat), i + m = K → m < n → m < n' → cnt ≤ x → x < cnt + sm tv i m → ∃ c, c < K ∧ 0 < tv c ∧ fX1_holderOfTicket_4 a (nI x) C1 n (nI cnt) (nI i) = some (nI c) ∧ fX7_drawOne_35 x1 n' D1 (nI (x - cnt)) (nI i) = some (nI c, D1) := by
  have lK := d.1.bd.lK
  intro m
  induction m with
  | zero =>
    intro i n n' cnt hi hn hn' h1 h2
    have : x < cnt + 0 := h2
    omega
  | succ m ih =>
    intro i n n' cnt hi hn hn' h1 h2
    obtain ⟨n, rfl⟩ : ∃ q, n = q + 1 := ⟨n - 1, by omega⟩
    obtain ⟨n', rfl⟩ : ∃ q, n' = q + 1 := ⟨n' - 1, by omega⟩
    have hK : i < K := by omega
    have es : sm tv i (m + 1) = tv i + sm tv (i + 1) m := rfl
    obtain ⟨ct, cb⟩ := d.2.1 i hK
    have td := m_toD d hrow hK
    have cl : ∀ r, (if nI (cnt + tv i) ≤ nI x then fX1_holderOfTicket_4 a (nI x) C1 n (nI (cnt + tv i)) (nI (i + 1)) else some (nI i)) = r → fX1_holderOfTicket_4 a (nI x) C1 (n + 1) (nI cnt) (nI i) = r := fun r hr => by
      rw [fX1_holderOfTicket_4, hC3]
      refine if_ni (nI_ge hK (by omega)) (gd_i (ix_nI (n := 16) (by omega) (by decide)) ?_)
      rw [nI_clamp (by omega), hC1, ct, nI_add, nI_1]
      exact hr
    by_cases q : 0 < tv i
    · have tt := m_tick d hrow hK q
      rw [decide_eq_true q] at td
      by_cases c : x < cnt + tv i
      · refine ⟨i, hK, q, cl _ (if_neg (nI_ge c (by omega))), ?_⟩
        rw [fX7_drawOne_35]
        exact bn_i td (if_pi rfl (bn_i tt (if_pi (nI_lt (by omega) (by omega)) rfl)))
      · obtain ⟨c', hc', hp', q1, q2⟩ := ih (i + 1) n n' (cnt + tv i) (by omega) (by omega) (by omega) (by omega) (by omega)
        refine ⟨c', hc', hp', cl _ ((if_pos (nI_le (by omega) (by omega))).trans q1), ?_⟩
        rw [fX7_drawOne_35]
        refine bn_i td (if_pi rfl (bn_i tt (if_ni (nI_nlt (by omega) (by omega)) ?_)))
        unfold fX7_drawOne_52
        refine bn_i td (if_pi rfl (bn_i tt ?_))
        rw [pk_sub (show tv i ≤ x - cnt by omega), show x - cnt - tv i = x - (cnt + tv i) by omega]
        refine lt_i (lt_i ?_)
        rw [nI_1]
        exact q2
    · rw [decide_eq_false q] at td
      have z0 : tv i = 0 := by omega
      obtain ⟨c', hc', hp', q1, q2⟩ := ih (i + 1) n n' (cnt + tv i) (by omega) (by omega) (by omega) (by omega) (by omega)
      refine ⟨c', hc', hp', cl _ ((if_pos (nI_le (by omega) (by omega))).trans q1), ?_⟩
      rw [fX7_drawOne_35]
      refine bn_i td (if_ni (by decide) ?_)
      unfold fX7_drawOne_52
      refine bn_i td (if_ni (by decide) ?_)
      rw [Int32.sub_zero]
      refine lt_i (lt_i ?_)
      rw [nI_1]
      rw [show x - (cnt + tv i) = x - cnt by omega] at q2
      exact q2
/-- the reference counts all tickets -/
theorem m_13 {C D : mm_M} {a P K W T p : Nat} {N tv ord : Nat → Nat} (d : Dr C a (D.1 732) P K W T N tv ord p) (k4 : mm_M → Int32 → Bool → Option mm_M) (v1 : Int32) : ∀ (m i n acc : Nat), i + m = K → m < n → acc + sm tv i m ≤ 1000 → fX7_drawAll_13 k4 n D v1 (nI acc) (nI i) = fX7_drawAll_62 k4 D v1 (nI (acc + sm tv i m)) (decide (0 < acc + sm tv i m)) := by
  have lK := d.1.bd.lK
  have S := d.1
  intro m
  induction m with
  | zero =>
    intro i n acc hi hn hb
    obtain ⟨n, rfl⟩ : ∃ q, n = q + 1 := ⟨n - 1, by omega⟩
    have e : i = K := by omega
    subst e
    have es : acc + sm tv i 0 = acc := rfl
    rw [fX7_drawAll_13, S.wK, es]
    refine if_pi (Int32.le_refl _) ?_
    by_cases q : 0 < acc
    · rw [decide_eq_true q]
      exact if_ni (nI_nle q (by omega)) rfl
    · rw [decide_eq_false q, show acc = 0 by omega]
      exact if_pi (Int32.le_refl _) rfl
  | succ m ih =>
    intro i n acc hi hn hb
    obtain ⟨n, rfl⟩ : ∃ q, n = q + 1 := ⟨n - 1, by omega⟩
    have hK : i < K := by omega
    have es : sm tv i (m + 1) = tv i + sm tv (i + 1) m := rfl
    have td := m_toD d (D1 := D) (fun _ _ => rfl) hK
    have h := ih (i + 1) n (acc + tv i) (by omega) (by omega) (by omega)
    rw [es, ← Nat.add_assoc, fX7_drawAll_13, S.wK]
    refine if_ni (nI_ge hK (by omega)) (bn_i td ?_)
    by_cases q : 0 < tv i
    · have tt := m_tick d (D1 := D) (fun _ _ => rfl) hK q
      rw [decide_eq_true q]
      refine if_pi rfl (bn_i tt ?_)
      rw [nI_add]
      refine lt_i (lt_i ?_)
      rw [nI_1]
      exact h
    · rw [decide_eq_false q]
      refine if_ni (by decide) ?_
      rw [Int32.add_zero]
      refine lt_i (lt_i ?_)
      rw [nI_1]
      rw [show acc + tv i = acc by omega] at h
      rw [show acc + tv i = acc by omega]
      exact h
