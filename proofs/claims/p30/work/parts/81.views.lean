/-! SIM: views: ofCart, money -/
theorem z_wAt {C D : mm_M} {a P K W T : Nat} {N : Nat → Nat} (S : Sim okA C a (D.1 732) P K W T N) {j i : Nat} (hj : j < K) (hi : i < 3) : fX0_wishAt C (a + 18 + 3 * j) (nI i) = some (if i < N j then D.1 732 (72 + 20 * j + 3 + i) else -6) := by
  have lN := S.bd.lN j
  have h2 : C.1 (a + 18 + 3 * j) 2 = nI (N j) := (S_cart S hj (k := 2) (by omega)).trans ((S.val _).wc j hj rfl)
  unfold fX0_wishAt
  rw [h2]
  refine if_ni (nI_pos (by omega)) ?_
  by_cases c : i < N j
  · rw [if_pos c]
    refine if_ni (nI_ge c (by omega)) (if_ni (show ¬ nI 3 ≤ nI i from nI_ge hi (by decide)) (gd_i (ix_nI (n := 3) hi (by decide)) ?_))
    rw [nI_clamp (by omega), S.eq (a + 18 + 3 * j + 1) i (72 + 20 * j + 3 + i) (Or.inr (Or.inr (Or.inr (Or.inr (Or.inr (Or.inr (Or.inl ⟨j, hj, rfl, c, rfl⟩)))))))]
  · rw [if_neg c]
    exact if_pi (nI_le (by omega) (by omega)) rfl
theorem z_95 {C D : mm_M} {a P K W T : Nat} {N : Nat → Nat} (S : Sim okA C a (D.1 732) P K W T N) {j i : Nat} (hj : j < K) (hi : i < 3) : fX7_ofCart_95 (nI j) (nI (3 + i)) D = some (if i < N j then D.1 732 (72 + 20 * j + 3 + i) else -6) := by
  have lN := S.bd.lN j
  have lK := S.bd.lK
  have e : nI (3 + i) - 3 = nI i := by
    have := pk_sub (a := 3 + i) (b := 3) (by omega)
    rw [show 3 + i - 3 = i by omega] at this
    exact this
  unfold fX7_ofCart_95
  refine bn_i (of_i (k := 2) (by omega) (by omega)) ?_
  rw [(S.val _).wc j hj rfl, e]
  by_cases c : i < N j
  · rw [if_pos c]
    refine if_ni (nI_ge c (by omega)) (bn_i (of_i (k := 3 + i) (by omega) (by omega)) ?_)
    rw [show 72 + 20 * j + (3 + i) = 72 + 20 * j + 3 + i by omega]
  · rw [if_neg c]
    exact if_pi (nI_le (by omega) (by omega)) rfl
theorem z_ofCart {T0 : Nat} (x y : Int32) : Vw T0 (fun C => fX6_ofCart C x y) (fun D => fX7_ofCart D x y) := by
  intro C D G
  obtain ⟨P, K, W, T, N, hT, S⟩ := G.live
  have lK := S.bd.lK
  have lT := S.bd.lT
  rcases S.cart2 x with ⟨j, hj, e, h1, h2⟩ | ⟨h1, h2⟩
  · subst e
    have oi : ∀ t, t < 20 → fX7_of D (nI j) (nI t) = some (D.1 732 (72 + 20 * j + t)) := fun t ht => of_i (by omega) ht
    have hab : ∀ r, (if 9 ≤ y then (bn (fX6_aboutPastOfCart C (1 + 18 + 3 * j) y) fun r9 => some r9) else (bn (fX6_aboutCart C (1 + 18 + 3 * j) y) fun r11 => some r11)) = r → ¬ y < 0 → y ≤ 15 → fX6_ofCart C (nI j) y = r := fun r hr c0 c1 => by
      unfold fX6_ofCart
      refine bn_i h1 (if_pi rfl (if_ni c0 (if_pi c1 (gd_i (ix_nI (n := 16) (by omega) (by decide)) ?_))))
      rw [nI_clamp (by omega)]
      exact hr
    by_cases c0 : y < 0
    · have hne : ∀ k : Int32, ¬ k < 0 → ¬ y = k := fun k hk e => hk (e ▸ c0)
      exact ⟨-2, bn_i h1 (if_pi rfl (if_pi c0 rfl)), bn_i h2 (if_pi rfl (if_ni (hne 0 (by decide)) (if_ni (hne 1 (by decide)) (if_ni (hne 2 (by decide)) (if_ni (hne 3 (by decide)) (if_ni (hne 4 (by decide)) (if_ni (hne 5 (by decide)) (if_ni (hne 6 (by decide)) (if_ni (hne 7 (by decide)) (if_ni (hne 8 (by decide)) (if_ni (hne 9 (by decide)) (if_ni (hne 10 (by decide)) (if_ni (hne 11 (by decide)) (if_ni (hne 12 (by decide)) (if_ni (hne 13 (by decide)) (if_ni (hne 14 (by decide)) (if_ni (hne 15 (by decide)) (rfl))))))))))))))))))⟩
    · by_cases c1 : (15 : Int32) < y
      · have hne : ∀ k : Int32, ¬ (15 : Int32) < k → ¬ y = k := fun k hk e => hk (e ▸ c1)
        exact ⟨-2, bn_i h1 (if_pi rfl (if_ni c0 (if_ni (Int32.not_le.mpr c1) rfl))), bn_i h2 (if_pi rfl (if_ni (hne 0 (by decide)) (if_ni (hne 1 (by decide)) (if_ni (hne 2 (by decide)) (if_ni (hne 3 (by decide)) (if_ni (hne 4 (by decide)) (if_ni (hne 5 (by decide)) (if_ni (hne 6 (by decide)) (if_ni (hne 7 (by decide)) (if_ni (hne 8 (by decide)) (if_ni (hne 9 (by decide)) (if_ni (hne 10 (by decide)) (if_ni (hne 11 (by decide)) (if_ni (hne 12 (by decide)) (if_ni (hne 13 (by decide)) (if_ni (hne 14 (by decide)) (if_ni (hne 15 (by decide)) (rfl))))))))))))))))))⟩
      · obtain ⟨k, hk, e⟩ := nI_of2 (M := 15) (n := 15) rfl c0 (Int32.not_lt.mp c1)
        subst e
        match k, hk with
        | 0, _ => exact ⟨D.1 732 (72 + 20 * j + 0), hab _ (if_ni (by decide) (bn_i (if_pi rfl (congrArg some (S_cart S hj (k := 0) (by omega)))) rfl)) (by decide) (by decide), bn_i h2 (if_pi rfl (if_pi rfl (bn_i (oi 0 (by omega)) rfl)))⟩
        | 1, _ => exact ⟨D.1 732 (72 + 20 * j + 1), hab _ (if_ni (by decide) (bn_i (if_ni (by decide) (if_pi rfl (congrArg some (S_cart S hj (k := 1) (by omega))))) rfl)) (by decide) (by decide), bn_i h2 (if_pi rfl (if_ni (by decide) (if_pi rfl (bn_i (oi 1 (by omega)) rfl))))⟩
        | 2, _ => exact ⟨D.1 732 (72 + 20 * j + 2), hab _ (if_ni (by decide) (bn_i (if_ni (by decide) (if_ni (by decide) (if_pi rfl (congrArg some (S_cart S hj (k := 2) (by omega)))))) rfl)) (by decide) (by decide), bn_i h2 (if_pi rfl (if_ni (by decide) (if_ni (by decide) (if_pi rfl (bn_i (oi 2 (by omega)) rfl)))))⟩
        | 3, _ => exact ⟨_, hab _ (if_ni (by decide) (bn_i (if_ni (by decide) (if_ni (by decide) (if_ni (by decide) (if_pi rfl (bn_i (z_wAt S hj (i := 0) (by omega)) rfl))))) rfl)) (by decide) (by decide), bn_i h2 (if_pi rfl (if_ni (by decide) (if_ni (by decide) (if_ni (by decide) (if_pi rfl (z_95 S hj (i := 0) (by omega)))))))⟩
        | 4, _ => exact ⟨_, hab _ (if_ni (by decide) (bn_i (if_ni (by decide) (if_ni (by decide) (if_ni (by decide) (if_ni (by decide) (if_pi rfl (bn_i (z_wAt S hj (i := 1) (by omega)) rfl)))))) rfl)) (by decide) (by decide), bn_i h2 (if_pi rfl (if_ni (by decide) (if_ni (by decide) (if_ni (by decide) (if_ni (by decide) (if_pi rfl (z_95 S hj (i := 1) (by omega))))))))⟩
        | 5, _ => exact ⟨_, hab _ (if_ni (by decide) (bn_i (if_ni (by decide) (if_ni (by decide) (if_ni (by decide) (if_ni (by decide) (if_ni (by decide) (if_pi rfl (bn_i (z_wAt S hj (i := 2) (by omega)) rfl))))))) rfl)) (by decide) (by decide), bn_i h2 (if_pi rfl (if_ni (by decide) (if_ni (by decide) (if_ni (by decide) (if_ni (by decide) (if_ni (by decide) (if_pi rfl (z_95 S hj (i := 2) (by omega)))))))))⟩
        | 6, _ => exact ⟨D.1 732 (72 + 20 * j + 6), hab _ (if_ni (by decide) (bn_i (if_ni (by decide) (if_ni (by decide) (if_ni (by decide) (if_ni (by decide) (if_ni (by decide) (if_ni (by decide) (if_pi rfl (congrArg some (S_cart S hj (k := 3) (by omega)))))))))) rfl)) (by decide) (by decide), bn_i h2 (if_pi rfl (if_ni (by decide) (if_ni (by decide) (if_ni (by decide) (if_ni (by decide) (if_ni (by decide) (if_ni (by decide) (if_pi rfl (bn_i (oi 6 (by omega)) rfl)))))))))⟩
        | 7, _ => exact ⟨D.1 732 (72 + 20 * j + 7), hab _ (if_ni (by decide) (bn_i (if_ni (by decide) (if_ni (by decide) (if_ni (by decide) (if_ni (by decide) (if_ni (by decide) (if_ni (by decide) (if_ni (by decide) (if_pi rfl (congrArg some (S_cart S hj (k := 4) (by omega))))))))))) rfl)) (by decide) (by decide), bn_i h2 (if_pi rfl (if_ni (by decide) (if_ni (by decide) (if_ni (by decide) (if_ni (by decide) (if_ni (by decide) (if_ni (by decide) (if_ni (by decide) (if_pi rfl (bn_i (oi 7 (by omega)) rfl))))))))))⟩
        | 8, _ =>
          have h5 : C.1 (1 + 18 + 3 * j) 5 = D.1 732 (72 + 20 * j + 8) := S_cart S hj (k := 5) (by omega)
          rcases (S.val _).wai j hj rfl with w0 | w1
          · exact ⟨0, hab _ (if_ni (by decide) (bn_i (if_ni (by decide) (if_ni (by decide) (if_ni (by decide) (if_ni (by decide) (if_ni (by decide) (if_ni (by decide) (if_ni (by decide) (if_ni (by decide) (if_pi (h5.trans w0) rfl))))))))) rfl)) (by decide) (by decide), bn_i h2 (if_pi rfl (if_ni (by decide) (if_ni (by decide) (if_ni (by decide) (if_ni (by decide) (if_ni (by decide) (if_ni (by decide) (if_ni (by decide) (if_ni (by decide) (if_pi rfl (bn_i (oi 8 (by omega)) (congrArg some w0))))))))))))⟩
          · exact ⟨1, hab _ (if_ni (by decide) (bn_i (if_ni (by decide) (if_ni (by decide) (if_ni (by decide) (if_ni (by decide) (if_ni (by decide) (if_ni (by decide) (if_ni (by decide) (if_ni (by decide) (if_ni (fun q => absurd ((h5.trans w1).symm.trans q) (by decide)) rfl))))))))) rfl)) (by decide) (by decide), bn_i h2 (if_pi rfl (if_ni (by decide) (if_ni (by decide) (if_ni (by decide) (if_ni (by decide) (if_ni (by decide) (if_ni (by decide) (if_ni (by decide) (if_ni (by decide) (if_pi rfl (bn_i (oi 8 (by omega)) (congrArg some w1))))))))))))⟩
        | 9, _ =>
          obtain ⟨s, hs, q1, q2⟩ := z_left S hj (Nat.le_refl T) (by omega)
          refine ⟨nI s, hab _ (if_pi (by decide) (bn_i (if_pi rfl (bn_i ?_ rfl)) rfl)) (by decide) (by decide), bn_i h2 (if_pi rfl (if_ni (by decide) (if_ni (by decide) (if_ni (by decide) (if_ni (by decide) (if_ni (by decide) (if_ni (by decide) (if_ni (by decide) (if_ni (by decide) (if_ni (by decide) (if_pi rfl (bn_i ?_ rfl))))))))))))⟩
          · rw [S.cT]; exact q1
          · rw [S.wT]; exact q2
        | 10, _ => exact ⟨D.1 732 (72 + 20 * j + 9), hab _ (if_pi (by decide) (bn_i (if_ni (by decide) (if_pi rfl (congrArg some (S_cart S hj (k := 6) (by omega))))) rfl)) (by decide) (by decide), bn_i h2 (if_pi rfl (if_ni (by decide) (if_ni (by decide) (if_ni (by decide) (if_ni (by decide) (if_ni (by decide) (if_ni (by decide) (if_ni (by decide) (if_ni (by decide) (if_ni (by decide) (if_ni (by decide) (if_pi rfl (bn_i (oi 9 (by omega)) rfl)))))))))))))⟩
        | 11, _ => exact ⟨D.1 732 (72 + 20 * j + 10), hab _ (if_pi (by decide) (bn_i (if_ni (by decide) (if_ni (by decide) (if_pi rfl (congrArg some (S_cart S hj (k := 7) (by omega)))))) rfl)) (by decide) (by decide), bn_i h2 (if_pi rfl (if_ni (by decide) (if_ni (by decide) (if_ni (by decide) (if_ni (by decide) (if_ni (by decide) (if_ni (by decide) (if_ni (by decide) (if_ni (by decide) (if_ni (by decide) (if_ni (by decide) (if_ni (by decide) (if_pi rfl (bn_i (oi 10 (by omega)) rfl))))))))))))))⟩
        | 12, _ => exact ⟨D.1 732 (72 + 20 * j + 11), hab _ (if_pi (by decide) (bn_i (if_ni (by decide) (if_ni (by decide) (if_ni (by decide) (if_pi rfl (congrArg some (S_cart S hj (k := 8) (by omega))))))) rfl)) (by decide) (by decide), bn_i h2 (if_pi rfl (if_ni (by decide) (if_ni (by decide) (if_ni (by decide) (if_ni (by decide) (if_ni (by decide) (if_ni (by decide) (if_ni (by decide) (if_ni (by decide) (if_ni (by decide) (if_ni (by decide) (if_ni (by decide) (if_ni (by decide) (if_pi rfl (bn_i (oi 11 (by omega)) rfl)))))))))))))))⟩
        | 13, _ => exact ⟨D.1 732 (72 + 20 * j + 12), hab _ (if_pi (by decide) (bn_i (if_ni (by decide) (if_ni (by decide) (if_ni (by decide) (if_ni (by decide) (if_pi rfl (congrArg some (S_cart S hj (k := 9) (by omega)))))))) rfl)) (by decide) (by decide), bn_i h2 (if_pi rfl (if_ni (by decide) (if_ni (by decide) (if_ni (by decide) (if_ni (by decide) (if_ni (by decide) (if_ni (by decide) (if_ni (by decide) (if_ni (by decide) (if_ni (by decide) (if_ni (by decide) (if_ni (by decide) (if_ni (by decide) (if_ni (by decide) (if_pi rfl (bn_i (oi 12 (by omega)) rfl))))))))))))))))⟩
        | 14, _ => exact ⟨D.1 732 (72 + 20 * j + 13), hab _ (if_pi (by decide) (bn_i (if_ni (by decide) (if_ni (by decide) (if_ni (by decide) (if_ni (by decide) (if_ni (by decide) (if_pi rfl (congrArg some (S_cart S hj (k := 10) (by omega))))))))) rfl)) (by decide) (by decide), bn_i h2 (if_pi rfl (if_ni (by decide) (if_ni (by decide) (if_ni (by decide) (if_ni (by decide) (if_ni (by decide) (if_ni (by decide) (if_ni (by decide) (if_ni (by decide) (if_ni (by decide) (if_ni (by decide) (if_ni (by decide) (if_ni (by decide) (if_ni (by decide) (if_ni (by decide) (if_pi rfl (bn_i (oi 13 (by omega)) rfl)))))))))))))))))⟩
        | 15, _ => exact ⟨D.1 732 (72 + 20 * j + 14), hab _ (if_pi (by decide) (bn_i (if_ni (by decide) (if_ni (by decide) (if_ni (by decide) (if_ni (by decide) (if_ni (by decide) (if_ni (by decide) (congrArg some (S_cart S hj (k := 11) (by omega))))))))) rfl)) (by decide) (by decide), bn_i h2 (if_pi rfl (if_ni (by decide) (if_ni (by decide) (if_ni (by decide) (if_ni (by decide) (if_ni (by decide) (if_ni (by decide) (if_ni (by decide) (if_ni (by decide) (if_ni (by decide) (if_ni (by decide) (if_ni (by decide) (if_ni (by decide) (if_ni (by decide) (if_ni (by decide) (if_ni (by decide) (if_pi rfl (bn_i (oi 14 (by omega)) rfl))))))))))))))))))⟩
        | k + 16, hk => exact absurd hk (by omega)
  · exact ⟨-1, bn_i h1 (if_ni (by decide) rfl), bn_i h2 (if_ni (by decide) rfl)⟩
/-- both answer -/
def VwS {α : Type} (T0 : Nat) (f g : mm_M → Option α) : Prop := ∀ C D, Gl T0 C D → ∃ r r', f C = some r ∧ g D = some r'
theorem Vw.s {α : Type} {T0 : Nat} {f g : mm_M → Option α} (h : Vw T0 f g) : VwS T0 f g := fun C D G => by
  obtain ⟨r, h1, h2⟩ := h C D G
  exact ⟨r, r, h1, h2⟩
theorem if_ex {α : Type} {c : Prop} [Decidable c] {f g : Option α} (h1 : c → ∃ r, f = some r) (h2 : ¬ c → ∃ r, g = some r) : ∃ r, (if c then f else g) = some r := by
  by_cases q : c
  · rw [if_pos q]; exact h1 q
  · rw [if_neg q]; exact h2 q
theorem z_money {T0 : Nat} (x y : Int32) : VwS T0 (fun C => fX6_money C x y) (fun D => fX7_money D x y) := by
  intro C D G
  obtain ⟨P, K, W, T, N, hT, S⟩ := G.live
  have lK := S.bd.lK
  rcases S.cart2 x with ⟨j, hj, e, h1, h2⟩ | ⟨h1, h2⟩
  · subst e
    have oi : ∀ t, t < 20 → fX7_of D (nI j) (nI t) = some (D.1 732 (72 + 20 * j + t)) := fun t ht => of_i (by omega) ht
    have hc : ∃ r, fX6_money C (nI j) y = some r := by
      have hh : ∀ r, (if y = 0 then (bn (fX0_balance C (1 + 18 + 3 * j)) fun r7 => some r7) else if y = 1 then some (C.2 (1 + 18 + 3 * j) 12) else if y = 2 then some (C.2 (1 + 18 + 3 * j) 13) else if y = 3 then some (C.2 (1 + 18 + 3 * j) 14) else if y = 4 then some (C.2 (1 + 18 + 3 * j) 15) else some ((-2) : Int64)) = r → fX6_money C (nI j) y = r := fun r hr => by
        unfold fX6_money
        refine bn_i h1 (if_pi rfl (gd_i (ix_nI (n := 16) (by omega) (by decide)) ?_))
        rw [nI_clamp (by omega)]
        exact hr
      obtain ⟨r, hr⟩ := if_ex (c := y = 0) (f := bn (fX0_balance C (1 + 18 + 3 * j)) fun r7 => some r7) (g := if y = 1 then some (C.2 (1 + 18 + 3 * j) 12) else if y = 2 then some (C.2 (1 + 18 + 3 * j) 13) else if y = 3 then some (C.2 (1 + 18 + 3 * j) 14) else if y = 4 then some (C.2 (1 + 18 + 3 * j) 15) else some ((-2) : Int64)) (fun _ => ⟨_, rfl⟩) (fun _ => if_ex (fun _ => ⟨_, rfl⟩) (fun _ => if_ex (fun _ => ⟨_, rfl⟩) (fun _ => if_ex (fun _ => ⟨_, rfl⟩) (fun _ => if_ex (fun _ => ⟨_, rfl⟩) (fun _ => ⟨_, rfl⟩)))))
      exact ⟨r, hh _ hr⟩
    have hd : ∃ r, fX7_money D (nI j) y = some r := by
      obtain ⟨z, ez⟩ : ∃ z, fX7_balance D (nI j) = some z := ⟨_, bn_i (of_i (k := 15) (by omega) (by omega)) (bn_i (of_i (k := 16) (by omega) (by omega)) (bn_i (of_i (k := 17) (by omega) (by omega)) (bn_i (of_i (k := 18) (by omega) (by omega)) rfl)))⟩
      by_cases y0 : y = 0
      · exact ⟨_, bn_i h2 (if_pi rfl (if_pi y0 (bn_i ez rfl)))⟩
      · by_cases c0 : y < 1
        · exact ⟨_, bn_i h2 (if_pi rfl (if_ni y0 (bn_i (in_lo c0) (if_ni (by decide) rfl))))⟩
        · by_cases c1 : (4 : Int32) < y
          · exact ⟨_, bn_i h2 (if_pi rfl (if_ni y0 (bn_i (in_hi c1) (if_ni (by decide) rfl))))⟩
          · obtain ⟨k, hk, e⟩ := nI_of2 (M := 4) (n := 4) rfl (ge0 c0) (Int32.not_lt.mp c1)
            subst e
            match k, hk with
            | 0, _ => exact absurd rfl y0
            | 1, _ => exact ⟨_, bn_i h2 (if_pi rfl (if_ni y0 (bn_i (in_tt c0 c1) (if_pi rfl (bn_i (oi 15 (by omega)) rfl)))))⟩
            | 2, _ => exact ⟨_, bn_i h2 (if_pi rfl (if_ni y0 (bn_i (in_tt c0 c1) (if_pi rfl (bn_i (oi 16 (by omega)) rfl)))))⟩
            | 3, _ => exact ⟨_, bn_i h2 (if_pi rfl (if_ni y0 (bn_i (in_tt c0 c1) (if_pi rfl (bn_i (oi 17 (by omega)) rfl)))))⟩
            | 4, _ => exact ⟨_, bn_i h2 (if_pi rfl (if_ni y0 (bn_i (in_tt c0 c1) (if_pi rfl (bn_i (oi 18 (by omega)) rfl)))))⟩
            | k + 5, h => exact absurd h (by omega)
    obtain ⟨r, hr⟩ := hc
    obtain ⟨r', hr'⟩ := hd
    exact ⟨r, r', hr, hr'⟩
  · exact ⟨-1, -1, bn_i h1 (if_ni (by decide) rfl), bn_i h2 (if_ni (by decide) rfl)⟩
