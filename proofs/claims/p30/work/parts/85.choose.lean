/-! SIM: a day: who is drawn chooses -/
theorem up_same {w : Nat → Int32} {k : Nat} {v : Int32} (h : w k = v) : up w k v = w := by
  funext j
  by_cases e : j = k
  · rw [e, up_eq, h]
  · rw [up_ne e]
theorem Lk.mono {ok ok' : Nat → Nat → Prop} {a P K W : Nat} {N : Nat → Nat} {o k j : Nat} (h : ∀ i k, ok i k → ok' i k) (L : Lk ok a P K W N o k j) : Lk ok' a P K W N o k j := by
  rcases L with g | g | g | g | g | ⟨i, hi, g1, g2, go, g3⟩ | g | g
  · exact Or.inl g
  · exact Or.inr (Or.inl g)
  · exact Or.inr (Or.inr (Or.inl g))
  · exact Or.inr (Or.inr (Or.inr (Or.inl g)))
  · exact Or.inr (Or.inr (Or.inr (Or.inr (Or.inl g))))
  · exact Or.inr (Or.inr (Or.inr (Or.inr (Or.inr (Or.inl ⟨i, hi, g1, g2, h i k go, g3⟩)))))
  · exact Or.inr (Or.inr (Or.inr (Or.inr (Or.inr (Or.inr (Or.inl g))))))
  · exact Or.inr (Or.inr (Or.inr (Or.inr (Or.inr (Or.inr (Or.inr g))))))
theorem Lk_c {ok : Nat → Nat → Prop} {a P K W : Nat} {N : Nat → Nat} {i k : Nat} (hi : i < K) (hk : k < 12) (h : ok i k) : Lk ok a P K W N (a + 18 + 3 * i) k (72 + 20 * i + sf k) := Or.inr (Or.inr (Or.inr (Or.inr (Or.inr (Or.inl ⟨i, hi, rfl, hk, h, rfl⟩)))))
theorem Lk_p {ok : Nat → Nat → Prop} {a P K W : Nat} {N : Nat → Nat} {i k : Nat} (hi : i < P) (hk : k < 4) : Lk ok a P K W N (a + 8 + i) k (32 + 4 * i + k) := Or.inr (Or.inr (Or.inr (Or.inr (Or.inl ⟨i, hi, rfl, hk, rfl⟩))))
theorem Lk_w {ok : Nat → Nat → Prop} {a P K W : Nat} {N : Nat → Nat} {i k : Nat} (hi : i < K) (hk : k < N i) : Lk ok a P K W N (a + 18 + 3 * i + 1) k (72 + 20 * i + 3 + k) := Or.inr (Or.inr (Or.inr (Or.inr (Or.inr (Or.inr (Or.inl ⟨i, hi, rfl, hk, rfl⟩))))))
/-- a slot that nothing links -/
theorem Sim.un {ok : Nat → Nat → Prop} {C : mm_M} {a : Nat} {w : Nat → Int32} {P K W T : Nat} {N : Nat → Nat} (S : Sim ok C a w P K W T N) {o k : Nat} (v : Int32) (h : o = a + 6 ∨ o = a + 7 ∨ (o = a ∧ 6 ≤ k)) : Sim ok (sI C o k v) a w P K W T N := by
  have lP := S.bd.lP
  have lK := S.bd.lK
  refine ⟨S.bd, fun o' k' j' hl => ?_, S.sum, S.val⟩
  rw [sI_ap1]
  by_cases e : o' = o
  · subst e
    rw [if_pos rfl]
    show (if k' = k then v else C.1 o' k') = _
    rw [if_neg (by rcases hl with ⟨g1, g2, g3⟩ | ⟨g1, g2, g3⟩ | ⟨g1, g2, g3⟩ | ⟨g1, g2, g3⟩ | ⟨i, hi, g1, g2, g3⟩ | ⟨i, hi, g1, g2, go, g3⟩ | ⟨i, hi, g1, g2, g3⟩ | ⟨i, hi, g1, g2, g3⟩ <;> omega)]
    exact S.eq o' k' j' hl
  · rw [if_neg e]
    exact S.eq o' k' j' hl
/-- the reason of a cart is the same again -/
theorem z_fix {tv : Nat → Nat} {C : mm_M} {a : Nat} {w : Nat → Int32} {P K W T : Nat} {N : Nat → Nat} (S : Sim (okU tv) C a w P K W T N) {c : Nat} (hc : c < K) (v : Int32) : Sim (okU (u0 tv c)) (sI C (a + 18 + 3 * c) 10 v) a (up w (72 + 20 * c + 13) v) P K W T N := by
  have lK := S.bd.lK
  have L0 : Lk okA a P K W N (a + 18 + 3 * c) 10 (72 + 20 * c + 13) := Lk_cart (k := 10) hc (by omega)
  refine ⟨S.bd, fun o k j hl => ?_, fun i hi k hk => ?_, fun s => ?_⟩
  · have q := Lk_inj S.bd0 L0 (hl.mono (ok' := okA) (fun _ _ _ => trivial))
    by_cases e : j = 72 + 20 * c + 13
    · obtain ⟨e1, e2⟩ := q.mpr e
      rw [e, up_eq, e1, e2, sI_ap1, if_pos rfl]
      exact if_pos rfl
    · rw [up_ne e]
      have hl' : Lk (okU tv) a P K W N o k j := by
        rcases hl with g | g | g | g | g | ⟨i, hi, g1, g2, go, g3⟩ | g | g
        · exact Or.inl g
        · exact Or.inr (Or.inl g)
        · exact Or.inr (Or.inr (Or.inl g))
        · exact Or.inr (Or.inr (Or.inr (Or.inl g)))
        · exact Or.inr (Or.inr (Or.inr (Or.inr (Or.inl g))))
        · refine Or.inr (Or.inr (Or.inr (Or.inr (Or.inr (Or.inl ⟨i, hi, g1, g2, fun h10 => ?_, g3⟩)))))
          have h0 : u0 tv c i = 0 := go h10
          have hne : i ≠ c := fun q2 => e (by rw [g3, q2, h10]; rfl)
          unfold u0 at h0
          rw [if_neg hne] at h0
          exact h0
        · exact Or.inr (Or.inr (Or.inr (Or.inr (Or.inr (Or.inr (Or.inl g))))))
        · exact Or.inr (Or.inr (Or.inr (Or.inr (Or.inr (Or.inr (Or.inr g))))))
      rw [← S.eq o k j hl', sI_ap1]
      by_cases e1 : o = a + 18 + 3 * c
      · rw [if_pos e1]
        show (if k = 10 then v else C.1 o k) = _
        rw [if_neg (fun e2 => e (q.mp ⟨e1, e2⟩))]
      · rw [if_neg e1]
  · rw [up_ne (by omega)]; exact S.sum i hi k hk
  · by_cases e : s = 72 + 20 * c + 13
    · rw [e, up_eq]; exact Ok_free S.bd0 (t := 13) (by omega) (by omega)
    · rw [up_ne e]; exact S.val s
theorem q_seat {ok : Nat → Nat → Prop} {C : mm_M} {a : Nat} {w : Nat → Int32} {P K W T : Nat} {N : Nat → Nat} (S : Sim ok C a w P K W T N) {c p : Nat} (hc : c < K) (hp : p < P) : fX5_seat C a (nI c) (nI p) = some (sI (sI C (a + 8 + p) 3 (nI c)) (a + 18 + 3 * c) 8 (nI p)) := by
  have lP := S.bd.lP
  have lK := S.bd.lK
  have h1 : fX5_hasCart C a (nI c) = some true := by
    rcases S.hasCart (nI c) with ⟨i, hi, e, h⟩ | ⟨h, -⟩
    · exact h
    · exact absurd rfl (h c hc)
  have h2 : fX5_hasPitch C a (nI p) = some true := by
    rcases S.hasPitch (nI p) with ⟨i, hi, e, h⟩ | ⟨h, -⟩
    · exact h
    · exact absurd rfl (h p hp)
  unfold fX5_seat
  refine bn_i h1 (if_pi rfl (bn_i h2 (if_pi rfl (gd_i (ix_nI (n := 10) (by omega) (by decide)) ?_))))
  rw [nI_clamp (by omega)]
  refine lt_i (gd_i (ix_nI (n := 16) (by omega) (by decide)) ?_)
  rw [nI_clamp (by omega)]
  rfl
theorem m_putP {D : mm_M} {c p : Nat} (hc : c < 16) (hp : p < 10) : fX7_put D (nI c) (nI p) = some (sI (sI D 732 (72 + 20 * c + 11) (nI p)) 732 (32 + 4 * p + 3) (nI c)) := by
  unfold fX7_put
  refine bn_i (lay_i (k := 11) _ hc (by omega)) ?_
  rw [p3idx]
  refine gd_i (ix_nI (n := 3592) (by omega) (by decide)) ?_
  rw [nI_clamp (by omega)]
  rfl
/-- a cart is put on a pitch, both sides -/
theorem z_seat {ok : Nat → Nat → Prop} {C : mm_M} {a : Nat} {w : Nat → Int32} {P K W T : Nat} {N : Nat → Nat} (S : Sim ok C a w P K W T N) {c p : Nat} (hc : c < K) (hp : p < P) (h8 : ok c 8) : Sim ok (sI (sI C (a + 8 + p) 3 (nI c)) (a + 18 + 3 * c) 8 (nI p)) a (up (up w (72 + 20 * c + 11) (nI p)) (32 + 4 * p + 3) (nI c)) P K W T N := by
  have lP := S.bd.lP
  have lK := S.bd.lK
  rw [up_comm _ _ _ (by omega)]
  exact (S.up (Lk_p hp (by omega)) (Ok_p3 S.bd.lW (by omega) (Or.inr ⟨c, hc, rfl⟩))).up (Lk_c (k := 8) hc (by omega) h8) (Ok_at S.bd0 (by omega) (Or.inr ⟨p, hp, rfl⟩))
abbrev Ch (C D C' D' : mm_M) (a c : Nat) : Prop := FrC C C' a ∧ FrD D D' ∧ Kd D D' ∧ (C'.1 a = C.1 a ∧ C'.1 (a + 6) = C.1 (a + 6) ∧ C'.1 (a + 7) = C.1 (a + 7)) ∧ (∀ i, i < 16 → i ≠ c → C'.1 (a + 18 + 3 * i) 10 = C.1 (a + 18 + 3 * i) 10) ∧ (∀ i t, i < 16 → t < 20 → t ≠ 11 → (t ≠ 13 ∨ i ≠ c) → D'.1 732 (72 + 20 * i + t) = D.1 732 (72 + 20 * i + t)) ∧ D'.1 732 0 = D.1 732 0
set_option maxHeartbeats 1000000 in
theorem z_chool {C D : mm_M} {a P K W T : Nat} {N tv : Nat → Nat} (S : Sim (okU tv) C a (D.1 732) P K W T N) {c : Nat} (hc : c < K) (hr : C.1 (a + 18 + 3 * c) 10 = 4) (hr2 : D.1 732 (72 + 20 * c + 13) = 0) : ∀ (d k n n' : Nat), k + d = N c → d < n → d < n' → ∃ C' D', fX1_choosePitch_18 a (nI c) n C (a + 18 + 3 * c) (nI k) = some C' ∧ fX7_choose_2 (nI c) n' D (nI k) = some D' ∧ Sim (okU (u0 tv c)) C' a (D'.1 732) P K W T N ∧ Ch C D C' D' a c := by
  have lP := S.bd.lP
  have lK := S.bd.lK
  have lN := S.bd.lN c
  have hN : D.1 732 (72 + 20 * c + 2) = nI (N c) := (S.val _).wc c hc rfl
  have c2 : C.1 (a + 18 + 3 * c) 2 = nI (N c) := (S.eq _ _ _ (Lk_c (k := 2) hc (by omega) (fun q => absurd q (by omega)))).trans hN
  have ho2 : fX7_of D (nI c) 2 = some (nI (N c)) := by rw [← hN]; exact of_i (k := 2) (by omega) (by omega)
  have ok0 : ∀ i, i < K → okU tv i 0 := fun i _ q => absurd q (by omega)
  intro d
  induction d with
  | zero =>
    intro k n n' hk hn hn'
    obtain ⟨n, rfl⟩ : ∃ q, n = q + 1 := ⟨n - 1, by omega⟩
    obtain ⟨n', rfl⟩ : ∃ q, n' = q + 1 := ⟨n' - 1, by omega⟩
    refine ⟨C, sI D 732 (72 + 20 * c + 13) 4, ?_, ?_, ?_, FrC.rf _ _, FrD.w, Kd.w (by omega) (by omega), ⟨rfl, rfl, rfl⟩, fun _ _ _ => rfl, fun i t hi ht h1 h2 => ?_, ?_⟩
    · rw [fX1_choosePitch_18, c2]
      exact if_pi (nI_le (by omega) (by omega)) rfl
    · rw [fX7_choose_2]
      exact bn_i ho2 (if_pi (nI_le (by omega) (by omega)) (bn_i (lay_i (k := 13) 4 (by omega) (by omega)) rfl))
    · have h := z_fix S hc 4
      rw [sI_same hr.symm] at h
      rw [sI_row]
      exact h
    · rw [sI_row, up_ne (by omega)]
    · rw [sI_row, up_ne (by omega)]
  | succ d ih =>
    intro k n n' hk hn hn'
    obtain ⟨n, rfl⟩ : ∃ q, n = q + 1 := ⟨n - 1, by omega⟩
    obtain ⟨n', rfl⟩ : ∃ q, n' = q + 1 := ⟨n' - 1, by omega⟩
    have hkN : k < N c := by omega
    obtain ⟨p, hp, ep⟩ := (S.val (72 + 20 * c + 3 + k)).wp c hc k hkN rfl
    have cw : C.1 (a + 18 + 3 * c + 1) k = nI p := (S.eq _ _ _ (Lk_w hc hkN)).trans ep
    have hw : fX0_wishAt C (a + 18 + 3 * c) (nI k) = some (nI p) := by
      unfold fX0_wishAt
      rw [c2]
      refine if_ni (nI_pos (by omega)) (if_ni (nI_ge hkN (by omega)) (if_ni (show ¬ nI 3 ≤ nI k from nI_ge (by omega) (by decide)) (gd_i (ix_nI (n := 3) (by omega) (by decide)) ?_)))
      rw [nI_clamp (by omega), cw]
    have hP : fX5_hasPitch C a (nI p) = some true := by
      rcases S.hasPitch (nI p) with ⟨i, hi, e, h⟩ | ⟨h, -⟩
      · exact h
      · exact absurd rfl (h p hp)
    have ho3 : fX7_of D (nI c) (3 + nI k) = some (nI p) := by
      have e3 : 3 + nI k = nI (3 + k) := nI_add 3 k
      rw [e3, of_i (k := 3 + k) (by omega) (by omega), show 72 + 20 * c + (3 + k) = 72 + 20 * c + 3 + k by omega, ep]
    have hop : fX7_ofP D (nI p) 3 = some (D.1 732 (32 + 4 * p + 3)) := ofP_i (k := 3) (by omega) (by omega)
    have ch : C.1 (a + 8 + p) 3 = D.1 732 (32 + 4 * p + 3) := S.eq _ _ _ (Lk_p hp (by omega))
    obtain ⟨b, b1, b2⟩ := z_beside S ok0 hc hp
    have cl : ∀ r, (if D.1 732 (32 + 4 * p + 3) = -6 then (if b = true then fX1_choosePitch_18 a (nI c) n C (a + 18 + 3 * c) (nI (k + 1)) else some (sI (sI (sI C (a + 8 + p) 3 (nI c)) (a + 18 + 3 * c) 8 (nI p)) (a + 18 + 3 * c) 10 0)) else fX1_choosePitch_18 a (nI c) n C (a + 18 + 3 * c) (nI (k + 1))) = r → fX1_choosePitch_18 a (nI c) (n + 1) C (a + 18 + 3 * c) (nI k) = r := fun r hr => by
      rw [fX1_choosePitch_18, c2]
      refine if_ni (nI_ge hkN (by omega)) (bn_i hw (bn_i hP (if_pi rfl (gd_i (ix_nI (n := 10) (by omega) (by decide)) ?_))))
      rw [nI_clamp (by omega), ch, nI_1]
      by_cases q : D.1 732 (32 + 4 * p + 3) = -6
      · rw [if_pos q] at hr ⊢
        refine bn_i b1 ?_
        cases b
        · rw [if_neg (by decide)] at hr ⊢
          exact bn_i (q_seat S hc hp) hr
        · rw [if_pos rfl] at hr ⊢
          exact hr
      · rw [if_neg q] at hr ⊢
        exact hr
    have ml : ∀ r, (if 0 ≤ D.1 732 (32 + 4 * p + 3) then fX7_choose_2 (nI c) n' D (nI (k + 1)) else (if (!b) = true then some (sI (sI D 732 (72 + 20 * c + 11) (nI p)) 732 (32 + 4 * p + 3) (nI c)) else fX7_choose_2 (nI c) n' D (nI (k + 1)))) = r → fX7_choose_2 (nI c) (n' + 1) D (nI k) = r := fun r hr => by
      rw [fX7_choose_2]
      refine bn_i ho2 (if_ni (nI_ge hkN (by omega)) (bn_i ho3 (bn_i hop ?_)))
      rw [nI_1]
      by_cases q : 0 ≤ D.1 732 (32 + 4 * p + 3)
      · rw [if_pos q] at hr ⊢
        exact hr
      · rw [if_neg q] at hr ⊢
        refine bn_i b2 ?_
        cases b
        · rw [if_pos (by decide)] at hr ⊢
          exact bn_i (m_putP (by omega) (by omega)) hr
        · rw [if_neg (by decide)] at hr ⊢
          exact hr
    obtain ⟨C', D', i1, i2, i3, i4⟩ := ih (k + 1) n n' (by omega) (by omega) (by omega)
    rcases (S.val _).pn p hp rfl with h | ⟨x, hx, h⟩
    · cases b
      · have S1 := z_fix (z_seat S hc hp (fun q => absurd q (by omega))) hc 0
        have u13 : up (up (D.1 732) (72 + 20 * c + 11) (nI p)) (32 + 4 * p + 3) (nI c) (72 + 20 * c + 13) = 0 := by rw [up_ne (by omega), up_ne (by omega)]; exact hr2
        rw [up_same u13] at S1
        refine ⟨_, _, cl _ (by rw [if_pos h, if_neg (by decide)]), ml _ (by rw [if_neg (by rw [h]; decide), if_pos (by decide)]), ?_, ((FrC.w (by omega)).tr (FrC.w (by omega))).tr (FrC.w (by omega)), FrD.w.tr FrD.w, (Kd.w (by omega) (by omega)).tr (Kd.o (by omega)), ⟨?_, ?_, ?_⟩, fun i hi hne => ?_, fun i t hi ht h1 h2 => ?_, ?_⟩
        · rw [sI_row, sI_row]
          exact S1
        · rw [sI_ap1, if_neg (by omega), sI_ap1, if_neg (by omega), sI_ap1, if_neg (by omega)]
        · rw [sI_ap1, if_neg (by omega), sI_ap1, if_neg (by omega), sI_ap1, if_neg (by omega)]
        · rw [sI_ap1, if_neg (by omega), sI_ap1, if_neg (by omega), sI_ap1, if_neg (by omega)]
        · rw [sI_ap1, if_neg (by omega), sI_ap1, if_neg (by omega), sI_ap1, if_neg (by omega)]
        · rw [sI_row, sI_row, up_ne (by omega), up_ne (by omega)]
        · rw [sI_row, sI_row, up_ne (by omega), up_ne (by omega)]
      · exact ⟨C', D', cl _ (by rw [if_pos h, if_pos rfl]; exact i1), ml _ (by rw [if_neg (by rw [h]; decide), if_neg (by decide)]; exact i2), i3, i4⟩
    · have hn6 : ¬ D.1 732 (32 + 4 * p + 3) = -6 := fun q => nI_pos (n := x) (by omega) (by rw [← h, q]; decide)
      exact ⟨C', D', cl _ (by rw [if_neg hn6]; exact i1), ml _ (by rw [if_pos (by rw [h]; exact nI_pos' (by omega))]; exact i2), i3, i4⟩
theorem z_choose {C D : mm_M} {a P K W T : Nat} {N tv : Nat → Nat} (S : Sim (okU tv) C a (D.1 732) P K W T N) {c : Nat} (hc : c < K) (hr : C.1 (a + 18 + 3 * c) 10 = 4) (hr2 : D.1 732 (72 + 20 * c + 13) = 0) : ∃ C' D', fX1_choosePitch C a (nI c) = some C' ∧ fX7_choose D (nI c) = some D' ∧ Sim (okU (u0 tv c)) C' a (D'.1 732) P K W T N ∧ Ch C D C' D' a c := by
  have lN := S.bd.lN c
  have lK := S.bd.lK
  obtain ⟨C', D', e1, e2, e3, e4⟩ := z_chool S hc hr hr2 (N c) 0 FU FU (by omega) (by unfold FU; omega) (by unfold FU; omega)
  have h1 : fX5_hasCart C a (nI c) = some true := by
    rcases S.hasCart (nI c) with ⟨i, hi, e, h⟩ | ⟨h, -⟩
    · exact h
    · exact absurd rfl (h c hc)
  refine ⟨C', D', ?_, e2, e3, e4⟩
  unfold fX1_choosePitch
  refine bn_i h1 (if_pi rfl (gd_i (ix_nI (n := 16) (by omega) (by decide)) ?_))
  rw [nI_clamp (by omega)]
  exact e1
