/-! SIM: check, swap -/
theorem S_cart {C : mm_M} {a : Nat} {w : Nat → Int32} {P K W T : Nat} {N : Nat → Nat} (S : Sim okA C a w P K W T N) {i k : Nat} (hi : i < K) (hk : k < 12) : C.1 (a + 18 + 3 * i) k = w (72 + 20 * i + sf k) := S.eq _ _ _ (Or.inr (Or.inr (Or.inr (Or.inr (Or.inr (Or.inl ⟨i, hi, rfl, hk, trivial, rfl⟩))))))
theorem Lk_cart {a P K W : Nat} {N : Nat → Nat} {i k : Nat} (hi : i < K) (hk : k < 12) : Lk okA a P K W N (a + 18 + 3 * i) k (72 + 20 * i + sf k) := Or.inr (Or.inr (Or.inr (Or.inr (Or.inr (Or.inl ⟨i, hi, rfl, hk, trivial, rfl⟩)))))
theorem z_waitl {C D : mm_M} {a P K W T : Nat} {N : Nat → Nat} (S : Sim okA C a (D.1 732) P K W T N) : ∀ (d i n n' c : Nat), i + d = K → d < n → d < n' → c ≤ i → ∃ c', c' ≤ K ∧ fX5_countWaiting_4 a C n (nI c) (nI i) = some (nI c') ∧ fX7_waiting_4 D n' (nI c) (nI i) = some (nI c') := by
  have lK := S.bd.lK
  intro d
  induction d with
  | zero =>
    intro i n n' c hi hn hn' hc
    obtain ⟨n, rfl⟩ : ∃ q, n = q + 1 := ⟨n - 1, by omega⟩
    obtain ⟨n', rfl⟩ : ∃ q, n' = q + 1 := ⟨n' - 1, by omega⟩
    have e : i = K := by omega
    subst e
    refine ⟨c, hc, ?_, ?_⟩
    · rw [fX5_countWaiting_4, S.cK]; exact if_pi (Int32.le_refl _) rfl
    · rw [fX7_waiting_4, S.wK]; exact if_pi (Int32.le_refl _) rfl
  | succ d ih =>
    intro i n n' c hi hn hn' hc
    obtain ⟨n, rfl⟩ : ∃ q, n = q + 1 := ⟨n - 1, by omega⟩
    obtain ⟨n', rfl⟩ : ∃ q, n' = q + 1 := ⟨n' - 1, by omega⟩
    have hK : i < K := by omega
    have h5 : C.1 (a + 18 + 3 * i) 5 = D.1 732 (72 + 20 * i + 8) := S_cart S hK (by omega)
    have ho : fX7_of D (nI i) 8 = some (D.1 732 (72 + 20 * i + 8)) := of_i (k := 8) (by omega) (by omega)
    rcases (S.val _).wai i hK rfl with w0 | w1
    · obtain ⟨c', hc', e1, e2⟩ := ih (i + 1) n n' c (by omega) (by omega) (by omega) (by omega)
      refine ⟨c', hc', ?_, ?_⟩
      · rw [fX5_countWaiting_4, S.cK]
        refine if_ni (nI_ge hK (by omega)) (gd_i (ix_nI (n := 16) (by omega) (by decide)) ?_)
        rw [nI_clamp (by omega), h5, w0]
        refine if_pi rfl (lt_i ?_)
        rw [nI_1]; exact e1
      · rw [fX7_waiting_4, S.wK]
        refine if_ni (nI_ge hK (by omega)) (bn_i ho ?_)
        rw [w0, Int32.add_zero]
        refine lt_i (lt_i ?_)
        rw [nI_1]; exact e2
    · obtain ⟨c', hc', e1, e2⟩ := ih (i + 1) n n' (c + 1) (by omega) (by omega) (by omega) (by omega)
      refine ⟨c', hc', ?_, ?_⟩
      · rw [fX5_countWaiting_4, S.cK]
        refine if_ni (nI_ge hK (by omega)) (gd_i (ix_nI (n := 16) (by omega) (by decide)) ?_)
        rw [nI_clamp (by omega), h5, w1]
        refine if_ni (by decide) (lt_i (lt_i ?_))
        rw [nI_1, nI_1]; exact e1
      · rw [fX7_waiting_4, S.wK]
        refine if_ni (nI_ge hK (by omega)) (bn_i ho ?_)
        rw [w1]
        refine lt_i (lt_i ?_)
        rw [nI_1, nI_1]; exact e2
theorem z_wait {C D : mm_M} {a P K W T : Nat} {N : Nat → Nat} (S : Sim okA C a (D.1 732) P K W T N) : ∃ c, c ≤ K ∧ fX5_countWaiting C a = some (nI c) ∧ fX7_waiting D = some (nI c) := z_waitl S K 0 FU FU 0 (by omega) (by have := S.bd.lK; unfold FU; omega) (by have := S.bd.lK; unfold FU; omega) (by omega)
theorem Ok_wai {P K W T : Nat} {N : Nat → Nat} {i : Nat} {v : Int32} (B : Bd P K W 0 N) (hi : i < 16) (h : v = 0 ∨ v = 1) : Ok P K W T N (72 + 20 * i + 8) v := by
  obtain ⟨lP, lK, lW, -, lN⟩ := B
  refine ⟨?_, ?_, ?_, ?_, ?_, ?_, ?_, ?_, ?_, ?_, ?_, ?_, ?_, ?_, ?_, ?_, fun _ _ _ => h, ?_, ?_, ?_⟩ <;> intros <;> (try (rename_i i' hi' k hk e; have := lN i')) <;> omega
theorem kIf {D D1 : mm_M} (h : fX7_keep D = some D1) : fX7_keepIf D true = some D1 := by
  unfold fX7_keepIf
  exact if_pi rfl (bn_i h rfl)
theorem z_check {T0 : Nat} (x : Int32) : Tw T0 T0 (fun C => fX6_check C x) (fun D => fX7_check D x) := by
  refine g_op (op := fun M2 => fX5_askCheck M2 1 x) (Nat.le_refl _) (fun C1 D h P K W T N lh hT S => ?_)
  have lK := S.bd.lK
  rcases S.cart2 x with ⟨j, hj, e, h1, h2⟩ | ⟨h1, h2⟩
  · subst e
    have h5 : C1.1 (1 + 18 + 3 * j) 5 = D.1 732 (72 + 20 * j + 8) := S_cart S hj (by omega)
    have ho : fX7_of D (nI j) 8 = some (D.1 732 (72 + 20 * j + 8)) := of_i (k := 8) (by omega) (by omega)
    rcases (S.val _).wai j hj rfl with w0 | w1
    · have S2 : ∀ D1 : mm_M, D1.1 732 = D.1 732 → Sim okA (sI C1 (1 + 18 + 3 * j) 5 1) 1 ((sI D1 732 (72 + 20 * j + 8) 1).1 732) P K W T N := fun D1 e1 => by
        rw [sI_row, e1]
        exact S.up (Lk_cart hj (by omega)) (Ok_wai S.bd0 (by omega) (Or.inr rfl))
      obtain ⟨c, hc, ec, ed⟩ := z_wait (S2 D rfl)
      refine Or.inr ⟨nI c, sI C1 (1 + 18 + 3 * j) 5 1, nI_pos (by omega), ?_, FrC.w (by omega), fun D1 e1 ek => ?_⟩
      · refine bn_i h1 (if_pi rfl (gd_i (ix_nI (n := 16) (by omega) (by decide)) ?_))
        rw [nI_clamp (by omega), h5, w0]
        exact if_pi rfl (lt_i (bn_i ec rfl))
      · obtain ⟨c', hc', ec', ed'⟩ := z_wait (S2 D1 e1)
        rw [ec] at ec'
        have eq : nI c = nI c' := Option.some.inj ec'
        refine ⟨sI D1 732 (72 + 20 * j + 8) 1, ?_, FrD.w, P, K, W, T, N, hT, S2 D1 e1⟩
        refine bn2_i (a := nI c) (b := sI D1 732 (72 + 20 * j + 8) 1) ?_ rfl
        refine bn_i h2 (if_pi rfl (bn_i ho ?_))
        rw [w0, eq]
        exact if_ni (by decide) (bn_i (kIf ek) (bn_i (lay_i (k := 8) 1 (by omega) (by omega)) (bn_i ed' rfl)))
    · refine Or.inl ⟨-5, by decide, ?_, ?_⟩
      · refine bn_i h1 (if_pi rfl (gd_i (ix_nI (n := 16) (by omega) (by decide)) ?_))
        rw [nI_clamp (by omega), h5, w1]
        exact if_ni (by decide) rfl
      · refine bn2_i (a := -5) (b := D) ?_ rfl
        refine bn_i h2 (if_pi rfl (bn_i ho ?_))
        rw [w1]
        exact if_pi rfl rfl
  · exact Or.inl ⟨-1, by decide, bn_i h1 (if_ni (by decide) rfl), bn2_i (a := -1) (b := D) (bn_i h2 (if_ni (by decide) rfl)) rfl⟩
theorem Ok_W1 {P K W T : Nat} {N : Nat → Nat} {j : Nat} {v : Int32} (h : Ok P K W T N j v) (h14 : j ≠ 14) (hx : j ≠ 16 + 2 * W) (hy : j ≠ 17 + 2 * W) : Ok P K (W + 1) T N j v := by
  refine ⟨h.rng, h.r0, h.r2, h.r5, h.r8, h.day, h.sd, h.nP, h.nK, fun q => absurd q h14, fun i hi q => ?_, h.pn, h.hrs, h.wc, h.wp, h.los, h.wai, h.at_, h.rnt, h.pts⟩
  by_cases e : i = W
  · subst e; clear h; omega
  · exact h.swp i (by clear h; omega) q
theorem Ok_sw {P K W T : Nat} {N : Nat → Nat} {j x : Nat} (hj : 16 ≤ j ∧ j < 32) (hx : x < K) : Ok P K W T N j (nI x) := by
  refine ⟨?_, ?_, ?_, ?_, ?_, ?_, ?_, ?_, ?_, ?_, fun _ _ _ => ⟨x, hx, rfl⟩, ?_, ?_, ?_, ?_, ?_, ?_, ?_, ?_, ?_⟩ <;> intros <;> omega
set_option maxHeartbeats 2000000 in
theorem z_addW {C : mm_M} {a : Nat} {w : Nat → Int32} {P K W T : Nat} {N : Nat → Nat} (S : Sim okA C a w P K W T N) (hW : W < 8) {x y : Nat} (hx : x < K) (hy : y < K) : Sim okA (sI (sI (sI C (a + 4) W (nI x)) (a + 5) W (nI y)) a 4 (nI (W + 1))) a (up (up (up w (16 + 2 * W) (nI x)) (16 + 2 * W + 1) (nI y)) 14 (nI (W + 1))) P K (W + 1) T N := by
  obtain ⟨C', eC⟩ : ∃ X, X = sI (sI (sI C (a + 4) W (nI x)) (a + 5) W (nI y)) a 4 (nI (W + 1)) := ⟨_, rfl⟩
  obtain ⟨w', ew⟩ : ∃ X, X = up (up (up w (16 + 2 * W) (nI x)) (16 + 2 * W + 1) (nI y)) 14 (nI (W + 1)) := ⟨_, rfl⟩
  rw [← eC, ← ew]
  have lK := S.bd.lK
  have lP := S.bd.lP
  have c1 : ∀ o, o ≠ a → o ≠ a + 4 → o ≠ a + 5 → C'.1 o = C.1 o := fun o h1 h2 h3 => by
    rw [eC, sI_ap1, if_neg h1, sI_ap1, if_neg h3, sI_ap1, if_neg h2]
  have n4 : a ≠ a + 4 := by omega
  have n5 : a ≠ a + 5 := by omega
  have m4 : a + 4 ≠ a := by omega
  have m5 : a + 5 ≠ a := by omega
  have m45 : a + 4 ≠ a + 5 := by omega
  have m54 : a + 5 ≠ a + 4 := by omega
  have c2 : ∀ k, C'.1 a k = if k = 4 then nI (W + 1) else C.1 a k := fun k => by
    rw [eC, sI_ap1, if_pos rfl]
    have h4 : (sI (sI C (a + 4) W (nI x)) (a + 5) W (nI y)).1 a = C.1 a := by simp only [sI_ap1, if_neg n4, if_neg n5]
    rw [h4]
  have c4 : ∀ k, C'.1 (a + 4) k = if k = W then nI x else C.1 (a + 4) k := fun k => by
    rw [eC]; simp only [sI_ap1, if_neg m4, if_neg m45, if_pos]
  have c5 : ∀ k, C'.1 (a + 5) k = if k = W then nI y else C.1 (a + 5) k := fun k => by
    rw [eC]; simp only [sI_ap1, if_neg m5, if_neg m54, if_pos]
  have w1 : ∀ j, j ≠ 14 → j ≠ 16 + 2 * W → j ≠ 16 + 2 * W + 1 → w' j = w j := fun j h1 h2 h3 => by
    rw [ew, up_ne h1, up_ne h3, up_ne h2]
  have w14 : w' 14 = nI (W + 1) := by rw [ew, up_eq]
  have wy : w' (16 + 2 * W + 1) = nI y := by rw [ew, up_ne (by omega), up_eq]
  have wx : w' (16 + 2 * W) = nI x := by rw [ew, up_ne (by omega), up_ne (by omega), up_eq]
  refine ⟨⟨lP, lK, by omega, S.bd.lT, S.bd.lN⟩, fun o k j h => ?_, fun i hi k hk => ?_, fun j => ?_⟩
  · rcases h with ⟨g1, g2, g3⟩ | ⟨g1, g2, g3⟩ | ⟨g1, g2, g3⟩ | ⟨g1, g2, g3⟩ | ⟨i, hi, g1, g2, g3⟩ | ⟨i, hi, g1, g2, go, g3⟩ | ⟨i, hi, g1, g2, g3⟩ | ⟨i, hi, g1, g2, g3⟩
    · subst g1
      rw [c2]
      by_cases e : k = 4
      · subst e; subst g3; rw [if_pos rfl]; exact w14.symm
      · rw [if_neg e, w1 j (by omega) (by omega) (by omega)]
        exact S.eq o k j (Or.inl ⟨rfl, g2, g3⟩)
    · rw [c1 o (by omega) (by omega) (by omega), w1 j (by omega) (by omega) (by omega)]
      exact S.eq o k j (Or.inr (Or.inl ⟨g1, g2, g3⟩))
    · subst g1
      rw [c4]
      by_cases e : k = W
      · subst e; subst g3; rw [if_pos rfl, wx]
      · rw [if_neg e, w1 j (by omega) (by omega) (by omega)]
        exact S.eq _ k j (Or.inr (Or.inr (Or.inl ⟨rfl, by omega, g3⟩)))
    · subst g1
      rw [c5]
      by_cases e : k = W
      · subst e; rw [if_pos rfl, show j = 16 + 2 * k + 1 by omega, wy]
      · rw [if_neg e, w1 j (by omega) (by omega) (by omega)]
        exact S.eq _ k j (Or.inr (Or.inr (Or.inr (Or.inl ⟨rfl, by omega, g3⟩))))
    · rw [c1 o (by omega) (by omega) (by omega), w1 j (by omega) (by omega) (by omega)]
      exact S.eq o k j (Or.inr (Or.inr (Or.inr (Or.inr (Or.inl ⟨i, hi, g1, g2, g3⟩)))))
    · have := sf_lt k g2
      rw [c1 o (by omega) (by omega) (by omega), w1 j (by omega) (by omega) (by omega)]
      exact S.eq o k j (Or.inr (Or.inr (Or.inr (Or.inr (Or.inr (Or.inl ⟨i, hi, g1, g2, go, g3⟩))))))
    · rw [c1 o (by omega) (by omega) (by omega), w1 j (by omega) (by omega) (by omega)]
      exact S.eq o k j (Or.inr (Or.inr (Or.inr (Or.inr (Or.inr (Or.inr (Or.inl ⟨i, hi, g1, g2, g3⟩)))))))
    · rw [c1 o (by omega) (by omega) (by omega), w1 j (by omega) (by omega) (by omega)]
      exact S.eq o k j (Or.inr (Or.inr (Or.inr (Or.inr (Or.inr (Or.inr (Or.inr ⟨i, hi, g1, g2, g3⟩)))))))
  · rw [w1 _ (by omega) (by omega) (by omega), show C'.2 = C.2 by rw [eC]; rfl]
    exact S.sum i hi k hk
  · by_cases e : j = 14
    · subst e; rw [w14]; exact Ok_14
    · by_cases e2 : j = 16 + 2 * W
      · subst e2; rw [wx]; exact Ok_sw (by omega) hx
      · by_cases e3 : j = 16 + 2 * W + 1
        · subst e3; rw [wy]; exact Ok_sw (by omega) hy
        · rw [w1 j e e2 e3]
          exact Ok_W1 (S.val j) e e2 (by omega)
theorem z_swap {T0 : Nat} (x y : Int32) : Tw T0 T0 (fun C => fX6_swap C x y) (fun D => fX7_swap D x y) := by
  refine g_op (op := fun M2 => fX5_askSwap M2 1 x y) (Nat.le_refl _) (fun C1 D h P K W T N lh hT S => ?_)
  have lK := S.bd.lK
  have lW := S.bd.lW
  rcases S.cart2 x with ⟨j, hj, e, h1, h2⟩ | ⟨h1, h2⟩
  · subst e
    rcases S.cart2 y with ⟨i, hi, e, g1, g2⟩ | ⟨g1, g2⟩
    · subst e
      by_cases c0 : nI j = nI i
      · exact Or.inl ⟨-1, by decide, bn_i h1 (if_pi rfl (bn_i g1 (if_pi rfl (if_pi c0 rfl)))), bn2_i (a := -1) (b := D) (bn_i h2 (if_pi rfl (bn_i g2 (if_pi rfl (if_pi c0 rfl))))) rfl⟩
      · by_cases h8 : W = 8
        · refine Or.inl ⟨-4, by decide, bn_i h1 (if_pi rfl (bn_i g1 (if_pi rfl (if_ni c0 (if_ni ?_ rfl))))), bn2_i (a := -4) (b := D) (bn_i h2 (if_pi rfl (bn_i g2 (if_pi rfl (if_ni c0 (if_pi ?_ rfl)))))) rfl⟩
          · rw [S.cW]; exact nI_nlt (b := 8) (by omega) (by omega)
          · rw [S.wW, h8]; rfl
        · refine Or.inr ⟨nI (W + 1), sI (sI (sI C1 (1 + 4) W (nI j)) (1 + 5) W (nI i)) 1 4 (nI (W + 1)), nI_pos (by omega), ?_, (FrC.w (by omega)).tr ((FrC.w (by omega)).tr (FrC.w (by omega))), fun D1 e1 ek => ?_⟩
          · refine bn_i h1 (if_pi rfl (bn_i g1 (if_pi rfl (if_ni c0 ?_))))
            rw [S.cW]
            refine if_pi (nI_lt (b := 8) (by omega) (by omega)) (gd_i (ix_nI (n := 8) (by omega) (by decide)) ?_)
            rw [nI_clamp (by omega)]
            have e4 : (sI C1 (1 + 4) W (nI j)).1 1 4 = nI W := by rw [sI_ap1, if_neg (by omega)]; exact S.cW
            refine lt_i ?_
            rw [e4]
            refine gd_i (ix_nI (n := 8) (by omega) (by decide)) ?_
            rw [nI_clamp (by omega)]
            have e5 : (sI (sI C1 (1 + 4) W (nI j)) (1 + 5) W (nI i)).1 1 4 = nI W := by rw [sI_ap1, if_neg (by omega)]; exact e4
            refine lt_i ?_
            rw [e5, nI_1]
            refine lt_i ?_
            have e6 : ∀ X : mm_M, (sI X 1 4 (nI (W + 1))).1 1 4 = nI (W + 1) := fun X => by rw [sI_ap1, if_pos rfl, if_pos rfl]
            rw [e6]
          · refine ⟨sI (sI (sI D1 732 (16 + 2 * W) (nI j)) 732 (16 + 2 * W + 1) (nI i)) 732 14 (nI (W + 1)), ?_, FrD.w.tr (FrD.w.tr FrD.w), P, K, W + 1, T, N, hT, ?_⟩
            · refine bn2_i (a := nI (W + 1)) (b := sI (sI (sI D1 732 (16 + 2 * W) (nI j)) 732 (16 + 2 * W + 1) (nI i)) 732 14 (nI (W + 1))) ?_ rfl
              refine bn_i h2 (if_pi rfl (bn_i g2 (if_pi rfl (if_ni c0 (if_ni ?_ (bn_i (kIf ek) ?_))))))
              · rw [S.wW]; exact fun q => h8 ((nI_eq (b := 8) (by omega) (by omega)).mp q)
              · have d14 : D1.1 732 14 = nI W := by rw [e1]; exact S.wW
                have en : 16 + 2 * nI W = nI (16 + 2 * W) := by
                  rw [Int32.add_comm, show (16 : Int32) = nI 16 from rfl, show (2 : Int32) = nI 2 from rfl, mulI, Nat.add_comm]
                rw [d14, en]
                refine gd_i (ix_nI (n := 3592) (by omega) (by decide)) ?_
                rw [nI_clamp (by omega)]
                refine lt_i ?_
                have d14' : (sI D1 732 (16 + 2 * W) (nI j)).1 732 14 = nI W := by rw [sI_row, up_ne (by omega)]; exact d14
                rw [d14', en, nI_1]
                refine gd_i (ix_nI (n := 3592) (by omega) (by decide)) ?_
                rw [nI_clamp (by omega)]
                refine lt_i ?_
                have d14'' : (sI (sI D1 732 (16 + 2 * W) (nI j)) 732 (16 + 2 * W + 1) (nI i)).1 732 14 = nI W := by rw [sI_row, up_ne (by omega)]; exact d14'
                rw [d14'', nI_1]
                refine lt_i ?_
                have e6 : ∀ X : mm_M, (sI X 732 14 (nI (W + 1))).1 732 14 = nI (W + 1) := fun X => by rw [sI_ap1, if_pos rfl, if_pos rfl]
                rw [e6]
            · rw [sI_row, sI_row, sI_row, e1]
              exact z_addW S (by omega) hj hi
    · exact Or.inl ⟨-1, by decide, bn_i h1 (if_pi rfl (bn_i g1 (if_ni (by decide) rfl))), bn2_i (a := -1) (b := D) (bn_i h2 (if_pi rfl (bn_i g2 (if_ni (by decide) rfl)))) rfl⟩
  · exact Or.inl ⟨-1, by decide, bn_i h1 (if_ni (by decide) rfl), bn2_i (a := -1) (b := D) (bn_i h2 (if_ni (by decide) rfl)) rfl⟩
