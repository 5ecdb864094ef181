/-! SIM: pay: some on both sides, alike but for the answer -/
def TwR (Q : Int32 → Int32 → Prop) (T0 T1 : Nat) (f g : mm_M → Option (Int32 × mm_M)) : Prop := ∀ C D, Gl T0 C D → ∃ r r' C' D', f C = some (r, C') ∧ g D = some (r', D') ∧ Q r r' ∧ Out T1 C D C' D'
theorem Tw.toR {T0 T1 : Nat} {f g : mm_M → Option (Int32 × mm_M)} (h : Tw T0 T1 f g) : TwR Eq T0 T1 f g := fun C D G => by
  obtain ⟨r, C', D', e1, e2, O⟩ := h C D G
  exact ⟨r, r, C', D', e1, e2, rfl, O⟩
theorem TwR.weak {Q : Int32 → Int32 → Prop} {T0 T1 : Nat} {f g : mm_M → Option (Int32 × mm_M)} (h : TwR Q T0 T1 f g) : TwR (fun _ _ => True) T0 T1 f g := fun C D G => by
  obtain ⟨r, r', C', D', e1, e2, -, O⟩ := h C D G
  exact ⟨r, r', C', D', e1, e2, trivial, O⟩
theorem g_opR {T0 T1 : Nat} (hT : T0 ≤ T1) {op g : mm_M → Option (Int32 × mm_M)} (hop : ∀ C1 D h P K W T N, h ≤ 6 → T ≤ T0 → Sim okA C1 1 (D.1 732) P K W T N → (∃ r, r < 0 ∧ op C1 = some (r, C1) ∧ g D = some (r, D)) ∨ (∃ r C2, ¬ r < 0 ∧ op C1 = some (r, C2) ∧ FrC C1 C2 1 ∧ ∀ D1, D1.1 732 = D.1 732 → fX7_keep D = some D1 → ∃ r' D2, g D = some (r', D2) ∧ FrD D1 D2 ∧ SimX C2 1 (D2.1 732) T1)) : TwR (fun _ _ => True) T0 T1 (fun C => chg C op) g := by
  intro C D G
  obtain ⟨b, h, H⟩ := G.hist
  obtain ⟨C1, e1, G1, H1, hp, f1⟩ := g_prep G H
  have hi1 : ∀ o, 731 ≤ o → C1.1 o = C.1 o := fun o ho => (f1 o (by have := Nat.mod_lt (b + h) (show 0 < 7 by omega); omega)).1
  obtain ⟨P, K, W, T, N, hT', S⟩ := G1.live
  rcases hop C1 D h P K W T N H1.lh hT' S with ⟨r, hr, h1, h2⟩ | ⟨r, C2, hr, h1, h2, h3⟩
  · exact ⟨r, r, C1, D, bn_i e1 (bn2_i h1 (bn2_i (q_rec hr) rfl)), h2, trivial, G1.mono hT, hi1, fun o ho => ⟨rfl, rfl⟩⟩
  · obtain ⟨D1, ek, kp⟩ := g_keep H1.lh H1.dh
    obtain ⟨r', D2, e2, fD, S2⟩ := h3 D1 (kp.oth 732 (by omega) (by omega)) ek
    refine ⟨r, r', _, D2, bn_i e1 (bn2_i h1 (bn2_i (g_rec hr H1.lb H1.lh (by rw [(h2 133 (by omega)).1]; exact H1.cb) (by rw [(h2 133 (by omega)).1]; exact H1.ch)) rfl)), e2, trivial, g_change hT G1 H1 hp h2 S2 kp fD, fun o ho => ?_, fun o ho => ⟨?_, ?_⟩⟩
    · by_cases e : h = 6
      · rw [if_pos e, sI_ap1, if_neg (by omega), (h2 o (by omega)).1, hi1 o ho]
      · rw [if_neg e, sI_ap1, if_neg (by omega), (h2 o (by omega)).1, hi1 o ho]
    · rw [fD.oth o (by omega) (by omega), kp.oth o (by omega) (by omega)]
    · rw [fD.lng, kp.lng]
theorem Ok_sum {P K W T : Nat} {N : Nat → Nat} {j t : Nat} {v : Int32} (B : Bd P K W 0 N) (hj : j < 16) (ht : 15 ≤ t ∧ t < 20) : Ok P K W T N (72 + 20 * j + t) v := by
  obtain ⟨lP, lK, lW, -, lN⟩ := B
  refine ⟨?_, ?_, ?_, ?_, ?_, ?_, ?_, ?_, ?_, ?_, ?_, ?_, ?_, ?_, ?_, ?_, ?_, ?_, ?_, ?_⟩ <;> intros <;> (try (rename_i i' hi' k hk e; have := lN i')) <;> omega
theorem z_upL {ok : Nat → Nat → Prop} {C : mm_M} {a : Nat} {w : Nat → Int32} {P K W T : Nat} {N : Nat → Nat} (S : Sim ok C a w P K W T N) {j k : Nat} (hj : j < K) (hk : k < 4) (v : Int64) : Sim ok (sL C (a + 18 + 3 * j) (12 + k) v) a (up w (72 + 20 * j + 15 + k) v.toInt32) P K W T N := by
  have lK := S.bd.lK
  refine ⟨S.bd, fun o k' s h => ?_, fun i hi k' hk' => ?_, fun s => ?_⟩
  · rw [up_ne (fun e => Lk_ns S.bd0 h (i := j) (t := 15 + k) (by omega) (by omega) (by omega))]
    exact S.eq o k' s h
  · rw [sL_ap2]
    by_cases e : i = j
    · subst e
      rw [if_pos rfl]
      show (if 12 + k' = 12 + k then v else C.2 (a + 18 + 3 * i) (12 + k')).toInt32 = _
      by_cases e2 : k' = k
      · subst e2; rw [if_pos rfl, up_eq]
      · rw [if_neg (by omega), up_ne (by omega)]; exact S.sum i hi k' hk'
    · rw [if_neg (by omega), up_ne (by omega)]; exact S.sum i hi k' hk'
  · by_cases e : s = 72 + 20 * j + 15 + k
    · subst e
      rw [up_eq, Nat.add_assoc]
      exact Ok_sum S.bd0 (by omega) (by omega)
    · rw [up_ne e]; exact S.val s
theorem FrC.wl {C : mm_M} {a o k : Nat} {v : Int64} (h : a ≤ o ∧ o < a + 66) : FrC C (sL C o k v) a := fun o' h' => ⟨rfl, by rw [sL_ap2, if_neg (by omega)]⟩
theorem z_pay {T0 : Nat} (x y : Int32) : TwR (fun _ _ => True) T0 T0 (fun C => fX6_pay C x y) (fun D => fX7_pay D x y) := by
  refine g_opR (op := fun M2 => fX5_takeMoney M2 1 x y) (Nat.le_refl _) (fun C1 D h P K W T N lh hT S => ?_)
  have lK := S.bd.lK
  rcases S.cart2 x with ⟨j, hj, e, h1, h2⟩ | ⟨h1, h2⟩
  · subst e
    by_cases c0 : y < 1
    · exact Or.inl ⟨-2, by decide, bn_i h1 (if_pi rfl (if_pi c0 rfl)), bn_i h2 (if_pi rfl (bn_i (in_lo c0) (if_ni (by decide) rfl)))⟩
    · by_cases c1 : (1000000 : Int32) < y
      · exact Or.inl ⟨-2, by decide, bn_i h1 (if_pi rfl (if_ni c0 (if_ni (Int32.not_le.mpr c1) rfl))), bn_i h2 (if_pi rfl (bn_i (in_hi c1) (if_ni (by decide) rfl)))⟩
      · obtain ⟨C2, e2⟩ : ∃ X, X = sL C1 (1 + 18 + 3 * j) 12 (C1.2 (1 + 18 + 3 * j) 12 + y.toInt64) := ⟨_, rfl⟩
        have hc : ∃ r, ¬ r < 0 ∧ fX5_takeMoney C1 1 (nI j) y = some (r, C2) := by
          have hh : ∀ r, (bn (fX0_balance C2 (1 + 18 + 3 * j)) fun r9 => if (lg_cmp r9 (0 : Int64)) < 0 then some ((0 : Int32), C2) else some (1, C2)) = r → fX5_takeMoney C1 1 (nI j) y = r := fun r hr => by
            unfold fX5_takeMoney
            refine bn_i h1 (if_pi rfl (if_ni c0 (if_pi (Int32.not_lt.mp c1) (gd_i (ix_nI (n := 16) (by omega) (by decide)) ?_))))
            rw [nI_clamp (by omega), ← e2]
            exact hr
          obtain ⟨z, ez⟩ : ∃ z, fX0_balance C2 (1 + 18 + 3 * j) = some z := ⟨_, rfl⟩
          by_cases q : (lg_cmp z (0 : Int64)) < 0
          · exact ⟨0, by decide, hh _ (bn_i ez (if_pi q rfl))⟩
          · exact ⟨1, by decide, hh _ (bn_i ez (if_ni q rfl))⟩
        obtain ⟨r, hr, er⟩ := hc
        refine Or.inr ⟨r, C2, hr, er, by rw [e2]; exact FrC.wl (by omega), fun D1 e1 ek => ?_⟩
        have o15 : fX7_of D1 (nI j) 15 = some (D1.1 732 (72 + 20 * j + 15)) := of_i (k := 15) (by omega) (by omega)
        obtain ⟨D2, eD⟩ : ∃ X, X = sI D1 732 (72 + 20 * j + 15) (D1.1 732 (72 + 20 * j + 15) + y) := ⟨_, rfl⟩
        have l15 : fX7_lay D1 (nI j) 15 (D1.1 732 (72 + 20 * j + 15) + y) = some D2 := by rw [eD]; exact lay_i (k := 15) _ (by omega) (by omega)
        obtain ⟨z, ez⟩ : ∃ z, fX7_balance D2 (nI j) = some z := ⟨_, bn_i (of_i (k := 15) (by omega) (by omega)) (bn_i (of_i (k := 16) (by omega) (by omega)) (bn_i (of_i (k := 17) (by omega) (by omega)) (bn_i (of_i (k := 18) (by omega) (by omega)) rfl)))⟩
        refine ⟨if z < 0 then 0 else 1, D2, ?_, by rw [eD]; exact FrD.w, P, K, W, T, N, hT, ?_⟩
        · refine bn_i h2 (if_pi rfl (bn_i (in_tt c0 c1) (if_pi rfl (bn_i ek (bn_i o15 (bn_i l15 (bn_i ez ?_)))))))
          by_cases q : z < 0
          · rw [if_pos q, if_pos q]
          · rw [if_neg q, if_neg q]
        · rw [eD, sI_row, e1, e2]
          have hs : (C1.2 (1 + 18 + 3 * j) 12 + y.toInt64).toInt32 = D.1 732 (72 + 20 * j + 15) + y := by
            rw [Int64.toInt32_add, Int32.toInt32_toInt64]
            rw [show (C1.2 (1 + 18 + 3 * j) 12).toInt32 = D.1 732 (72 + 20 * j + 15) from S.sum j hj 0 (by omega)]
          rw [← hs]
          exact z_upL S hj (k := 0) (by omega) _
  · exact Or.inl ⟨-1, by decide, bn_i h1 (if_ni (by decide) rfl), bn_i h2 (if_ni (by decide) rfl)⟩
