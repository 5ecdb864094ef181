/-! SIM: views: ofPitch -/
def Vw {α : Type} (T0 : Nat) (f g : mm_M → Option α) : Prop := ∀ C D, Gl T0 C D → ∃ r, f C = some r ∧ g D = some r
theorem S_pit {C : mm_M} {a : Nat} {w : Nat → Int32} {P K W T : Nat} {N : Nat → Nat} (S : Sim okA C a w P K W T N) {i k : Nat} (hi : i < P) (hk : k < 4) : C.1 (a + 8 + i) k = w (32 + 4 * i + k) := S.eq _ _ _ (Or.inr (Or.inr (Or.inr (Or.inr (Or.inl ⟨i, hi, rfl, hk, rfl⟩)))))
theorem z_ofPitch {T0 : Nat} (x y : Int32) : Vw T0 (fun C => fX6_ofPitch C x y) (fun D => fX7_ofPitch D x y) := by
  intro C D G
  obtain ⟨P, K, W, T, N, hT, S⟩ := G.live
  have lP := S.bd.lP
  rcases S.pitch2 x with ⟨j, hj, e, h1, h2⟩ | ⟨h1, h2⟩
  · subst e
    have hcl : ∀ r, (if y = 0 then some (C.1 (1 + 8 + j) 0) else if y = 1 then some (C.1 (1 + 8 + j) 1) else if y = 2 then some (C.1 (1 + 8 + j) 2) else if y = 3 then some (C.1 (1 + 8 + j) 3) else some (-2)) = r → fX6_ofPitch C (nI j) y = r := fun r hr => by
      unfold fX6_ofPitch
      refine bn_i h1 (if_pi rfl (gd_i (ix_nI (n := 10) (by omega) (by decide)) ?_))
      rw [nI_clamp (by omega)]
      exact hr
    by_cases c0 : y < 0
    · have hne : ∀ k : Int32, ¬ k < 0 → ¬ y = k := fun k hk e => hk (e ▸ c0)
      exact ⟨-2, hcl _ (if_ni (hne 0 (by decide)) (if_ni (hne 1 (by decide)) (if_ni (hne 2 (by decide)) (if_ni (hne 3 (by decide)) rfl)))), bn_i h2 (if_pi rfl (bn_i (in_lo c0) (if_ni (by decide) rfl)))⟩
    · by_cases c1 : (3 : Int32) < y
      · have hne : ∀ k : Int32, ¬ (3 : Int32) < k → ¬ y = k := fun k hk e => hk (e ▸ c1)
        exact ⟨-2, hcl _ (if_ni (hne 0 (by decide)) (if_ni (hne 1 (by decide)) (if_ni (hne 2 (by decide)) (if_ni (hne 3 (by decide)) rfl)))), bn_i h2 (if_pi rfl (bn_i (in_hi c1) (if_ni (by decide) rfl)))⟩
      · obtain ⟨k, hk, e⟩ := nI_of2 (M := 3) (n := 3) rfl c0 (Int32.not_lt.mp c1)
        subst e
        refine ⟨D.1 732 (32 + 4 * j + k), hcl _ ?_, bn_i h2 (if_pi rfl (bn_i (in_tt c0 c1) (if_pi rfl (bn_i (ofP_i (by omega) (by omega)) rfl))))⟩
        match k, hk with
        | 0, _ => exact if_pi rfl (by rw [S_pit S hj (by omega)])
        | 1, _ => exact if_ni (by decide) (if_pi rfl (by rw [S_pit S hj (by omega)]))
        | 2, _ => exact if_ni (by decide) (if_ni (by decide) (if_pi rfl (by rw [S_pit S hj (by omega)])))
        | 3, _ => exact if_ni (by decide) (if_ni (by decide) (if_ni (by decide) (if_pi rfl (by rw [S_pit S hj (by omega)]))))
        | k + 4, h => exact absurd h (by omega)
  · exact ⟨-1, bn_i h1 (if_ni (by decide) rfl), bn_i h2 (if_ni (by decide) rfl)⟩
