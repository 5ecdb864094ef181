/-! SIM: texts: carryOut -/
theorem bn2_id {α β : Type} (x : Option (α × β)) : (bn2 x fun r M => some (r, M)) = x := by
  cases x with
  | none => rfl
  | some q => rfl
theorem Core.mono {a T0 T1 T2 : Nat} {op : mm_M → Option (Int32 × mm_M)} {g : mm_M → Bool → Option (Int32 × mm_M)} (h : Core a T0 T1 op g) (hT : T1 ≤ T2) : Core a T0 T2 op g := fun C D P K W T N ht S => by
  rcases h C D P K W T N ht S with q | ⟨r, C2, hr, h1, h2, h3⟩
  · exact Or.inl q
  · refine Or.inr ⟨r, C2, hr, h1, h2, fun b D1 e1 ek => ?_⟩
    obtain ⟨D2, g1, g2, g3⟩ := h3 b D1 e1 ek
    exact ⟨D2, g1, g2, g3.mono hT⟩
theorem Ord59 {sg : Nat → Nat} {b e : Nat} {kd a0 a1 a2 a3 : Int32} (h : OrdOk sg b e kd a0 a1 a2 a3) : ∀ q, b ≤ q → q < e → sg q ≠ 59 := by
  intro q h1 h2
  rcases h with ⟨-, g1, g2, ⟨g3, g4⟩, -⟩ | ⟨-, g1, g2, ⟨g3, g4⟩, ⟨g5, g6⟩, -, -⟩ | ⟨-, g1, g2, ⟨g3, g4⟩, ⟨g5, g6⟩, -, -⟩ | ⟨-, g1, ⟨g3, g4⟩, -, m, hm, g2, g5, -, -, -⟩ | ⟨-, g1, ⟨g3, g4⟩, g2⟩
  · by_cases e0 : q = b
    · rw [e0]; omega
    · rw [show q = b + 1 by omega]; omega
  · by_cases e0 : q = b
    · rw [e0]; omega
    · by_cases e1 : q = b + 1
      · rw [e1]; omega
      · rw [show q = b + 2 by omega]; omega
  · by_cases e0 : q = b
    · rw [e0]; omega
    · by_cases e1 : q = b + 1
      · rw [e1]; omega
      · rw [show q = b + 2 by omega]; omega
  · by_cases e0 : q = b
    · rw [e0]; omega
    · by_cases e1 : q = b + 1
      · rw [e1]; omega
      · obtain ⟨z1, z2⟩ := g5 (q - (b + 2)) (by omega)
        rw [show b + 2 + (q - (b + 2)) = q by omega] at z1 z2
        omega
  · by_cases e0 : q = b
    · rw [e0]; omega
    · by_cases e1 : q = b + 1
      · rw [e1]; omega
      · rcases g2 with ⟨g2, -⟩ | ⟨g2, ⟨z1, z2⟩, -⟩
        · omega
        · rw [show q = b + 2 by omega]; omega
theorem Ord_e {sg : Nat → Nat} {b e : Nat} {kd a0 a1 a2 a3 : Int32} (h : OrdOk sg b e kd a0 a1 a2 a3) : e ≤ b + 5 := by
  rcases h with ⟨-, -, g2, -⟩ | ⟨-, -, g2, -⟩ | ⟨-, -, g2, -⟩ | ⟨-, -, -, -, m, hm, g2, -⟩ | ⟨-, -, -, ⟨g2, -⟩ | ⟨g2, -⟩⟩ <;> omega
theorem q_wAt {C : mm_M} {sg : Nat → Nat} {n q e : Nat} (p : PdC C sg n) (he : e ≤ n) (hq : q < 2 ^ 29) (h : q < e → 48 ≤ sg q) : fX3_wishAt C 729 (nI q) (nI e) = some (if q < e then nI (sg q - 48) else -6) := by
  have p1 := p.1
  unfold fX3_wishAt
  by_cases c : q < e
  · rw [if_pos c]
    refine if_ni (nI_ge c (by omega)) (bn_i (q_sign p (by omega)) ?_)
    rw [show nx sg n q = sg q from if_pos (by omega)]
    exact congrArg some (pk_sub (b := 48) (h c))
  · rw [if_neg c]
    exact if_pi (nI_le (by omega) (by omega)) rfl
theorem q_num1 {C : mm_M} {sg : Nat → Nat} {n q : Nat} (p : PdC C sg n) (he : q + 1 ≤ n) (h : 48 ≤ sg q) : fX3_numberAt C 729 (nI q) (nI (q + 1)) = some (nI (sg q - 48)) := by
  have p1 := p.1
  unfold fX3_numberAt
  obtain ⟨f, hf⟩ : ∃ f, FU = f + 1 + 1 := ⟨999998, rfl⟩
  have e1 : ((10 * (0 : Int32)) + nI (sg q)) - 48 = nI (sg q - 48) := by
    have h1 : (10 : Int32) * 0 + nI (sg q) = nI (10 * 0 + sg q) := mulI 10 0 _
    rw [h1, show 10 * 0 + sg q = sg q by omega]
    exact pk_sub (b := 48) h
  rw [hf, fX3_numberAt_5]
  refine if_ni (nI_ge (by omega) (by omega)) (bn_i (q_sign p (by omega)) ?_)
  rw [show nx sg n q = sg q from if_pos (by omega), e1, nI_1]
  refine lt_i (lt_i ?_)
  rw [fX3_numberAt_5]
  exact if_pi (Int32.le_refl _) rfl
theorem q_num2 {C : mm_M} {sg : Nat → Nat} {n q : Nat} (p : PdC C sg n) (he : q + 2 ≤ n) (h : 48 ≤ sg q) (h2 : 48 ≤ sg (q + 1)) : fX3_numberAt C 729 (nI q) (nI (q + 2)) = some (nI (10 * (sg q - 48) + (sg (q + 1) - 48))) := by
  have p1 := p.1
  unfold fX3_numberAt
  obtain ⟨f, hf⟩ : ∃ f, FU = f + 1 + 1 + 1 := ⟨999997, rfl⟩
  have e1 : ((10 * (0 : Int32)) + nI (sg q)) - 48 = nI (sg q - 48) := by
    have h1 : (10 : Int32) * 0 + nI (sg q) = nI (10 * 0 + sg q) := mulI 10 0 _
    rw [h1, show 10 * 0 + sg q = sg q by omega]
    exact pk_sub (b := 48) h
  have e2 : ((10 * nI (sg q - 48)) + nI (sg (q + 1))) - 48 = nI (10 * (sg q - 48) + (sg (q + 1) - 48)) := by
    have h1 : (10 : Int32) * nI (sg q - 48) + nI (sg (q + 1)) = nI (10 * (sg q - 48) + sg (q + 1)) := mulI 10 _ _
    have h3 : nI (10 * (sg q - 48) + sg (q + 1)) - 48 = nI (10 * (sg q - 48) + sg (q + 1) - 48) := pk_sub (b := 48) (by omega)
    rw [h1, h3, show 10 * (sg q - 48) + sg (q + 1) - 48 = 10 * (sg q - 48) + (sg (q + 1) - 48) by omega]
  rw [hf, fX3_numberAt_5]
  refine if_ni (nI_ge (by omega) (by omega)) (bn_i (q_sign p (by omega)) ?_)
  rw [show nx sg n q = sg q from if_pos (by omega), e1, nI_1]
  refine lt_i (lt_i ?_)
  rw [fX3_numberAt_5]
  refine if_ni (nI_ge (by omega) (by omega)) (bn_i (q_sign p (by omega)) ?_)
  rw [show nx sg n (q + 1) = sg (q + 1) from if_pos (by omega), e2, nI_1]
  refine lt_i (lt_i ?_)
  rw [fX3_numberAt_5]
  exact if_pi (Int32.le_refl _) rfl
set_option maxHeartbeats 2000000 in
theorem z_perf {C D : mm_M} {sg : Nat → Nat} {n b e k T0 : Nat} (hT0 : T0 + 60 < 2 ^ 30) (p : PdC C sg n) (hk : k ≤ 26) (he : e ≤ n) (hbe : b + 2 ≤ e) (O : OrdOk sg b e (D.1 738 k) (D.1 739 (4 * k)) (D.1 739 (4 * k + 1)) (D.1 739 (4 * k + 2)) (D.1 739 (4 * k + 3))) : ∃ op g, Core 1 T0 (T0 + 60) op g ∧ fX6_performOrder C (nI b) (nI e) = op C ∧ fX7_carry D (nI k) = g D false := by
  have p1 := p.1
  have s0 : fX3_signAt C 729 (nI b) = some (nI (sg b)) := by rw [q_sign p (by omega), show nx sg n b = sg b from if_pos (by omega)]
  have s1 : fX3_signAt C 729 (nI b + 1) = some (nI (sg (b + 1))) := by rw [nI_1, q_sign p (by omega), show nx sg n (b + 1) = sg (b + 1) from if_pos (by omega)]
  have e2 : nI b + 2 = nI (b + 2) := nI_add b 2
  have e3 : nI b + 3 = nI (b + 3) := nI_add b 3
  have e4 : nI b + 4 = nI (b + 4) := nI_add b 4
  have k4 : (4 : Int32) * nI k = nI (4 * k) := pk_mul 4 k
  have k1 : nI (4 * k) + 1 = nI (4 * k + 1) := nI_add _ 1
  have k2 : nI (4 * k) + 2 = nI (4 * k + 2) := nI_add _ 2
  have k3 : nI (4 * k) + 3 = nI (4 * k + 3) := nI_add _ 3
  have g0 : ¬ (nI (4 * k) < 0 ∨ 116 ≤ (nI (4 * k)).toNatClampNeg) := ix_nI (n := 116) (by omega) (by decide)
  have g1 : ¬ (nI (4 * k + 1) < 0 ∨ 116 ≤ (nI (4 * k + 1)).toNatClampNeg) := ix_nI (n := 116) (by omega) (by decide)
  have g2 : ¬ (nI (4 * k + 2) < 0 ∨ 116 ≤ (nI (4 * k + 2)).toNatClampNeg) := ix_nI (n := 116) (by omega) (by decide)
  have g3 : ¬ (nI (4 * k + 3) < 0 ∨ 116 ≤ (nI (4 * k + 3)).toNatClampNeg) := ix_nI (n := 116) (by omega) (by decide)
  have c0 : (nI (4 * k)).toNatClampNeg = 4 * k := nI_clamp (by omega)
  have c1 : (nI (4 * k + 1)).toNatClampNeg = 4 * k + 1 := nI_clamp (by omega)
  have c2 : (nI (4 * k + 2)).toNatClampNeg = 4 * k + 2 := nI_clamp (by omega)
  have c3 : (nI (4 * k + 3)).toNatClampNeg = 4 * k + 3 := nI_clamp (by omega)
  have ml : ∀ r, (if D.1 738 k = 99 then fX7_tryCheck D (D.1 739 (4 * k)) false else if D.1 738 k = 102 then fX7_tryFine D (D.1 739 (4 * k)) (1 + D.1 739 (4 * k + 1)) false else if D.1 738 k = 115 then fX7_trySwap D (D.1 739 (4 * k)) (D.1 739 (4 * k + 1)) false else if D.1 738 k = 119 then fX7_tryWish D (D.1 739 (4 * k)) (D.1 739 (4 * k + 1)) (D.1 739 (4 * k + 2)) (D.1 739 (4 * k + 3)) false else fX7_tryDays D (D.1 739 (4 * k)) false) = r → fX7_carry D (nI k) = r := fun r hr => by
    unfold fX7_carry
    rw [k4]
    refine lt_i (gd_i (ix_nI (n := 29) (by omega) (by decide)) ?_)
    rw [nI_clamp (show k < 2 ^ 31 by omega), k1, k2, k3, gd_t g0, gd_t g0, gd_t g0, gd_t g0, gd_t g0, gd_t g1, gd_t g1, gd_t g1, gd_t g2, gd_t g3, bn2_id, bn2_id, bn2_id, bn2_id, bn2_id, c0, c1, c2, c3]
    exact hr
  have cl : ∀ r, (if nI (sg b) = 99 then fX5_askCheck C 1 (nI (sg (b + 1)) - 65) else if nI (sg b) = 102 then (bn (fX3_numberAt C 729 (nI (b + 2)) (nI e)) fun r12 => fX5_punish C 1 (nI (sg (b + 1)) - 65) r12) else if nI (sg b) = 115 then (bn (fX3_signAt C 729 (nI (b + 2))) fun r18 => fX5_askSwap C 1 (nI (sg (b + 1)) - 65) (r18 - 65)) else if nI (sg b) = 119 then (bn (fX3_wishAt C 729 (nI (b + 2)) (nI e)) fun r24 => bn (fX3_wishAt C 729 (nI (b + 3)) (nI e)) fun r26 => bn (fX3_wishAt C 729 (nI (b + 4)) (nI e)) fun r28 => fX5_tellWishes C 1 (nI (sg (b + 1)) - 65) r24 r26 r28) else (bn (fX3_numberAt C 729 (nI (b + 1)) (nI e)) fun r33 => fX5_passDays C 1 r33)) = r → fX6_performOrder C (nI b) (nI e) = r := fun r hr => by
    unfold fX6_performOrder
    refine bn_i s1 (lt_i (bn_i s0 ?_))
    simp only [bn2_id, e2, e3, e4, nI_1]
    exact hr
  rcases O with ⟨h0, h1, h2, ⟨h3, h4⟩, h5⟩ | ⟨h0, h1, h2, ⟨h3, h4⟩, ⟨h6, h7⟩, h5, h8⟩ | ⟨h0, h1, h2, ⟨h3, h4⟩, ⟨h6, h7⟩, h5, h8⟩ | ⟨h0, h1, ⟨h3, h4⟩, h5, m, hm, h2, h6, h7, h8, h9⟩ | ⟨h0, h1, ⟨h3, h4⟩, h2⟩
  · have y : nI (sg (b + 1)) - 65 = nI (sg (b + 1) - 65) := pk_sub (b := 65) h3
    rw [h1, y] at cl
    rw [h0, h5] at ml
    exact ⟨fun M => fX5_askCheck M 1 (nI (sg (b + 1) - 65)), fun D q => fX7_tryCheck D (nI (sg (b + 1) - 65)) q, (z_checkC _).mono (by omega), cl _ (if_pos rfl), ml _ (if_pos rfl)⟩
  · have y : nI (sg (b + 1)) - 65 = nI (sg (b + 1) - 65) := pk_sub (b := 65) h3
    have y2 : 1 + nI (sg (b + 2) - 49) = nI (sg (b + 2) - 48) := by
      have := nI_add 1 (sg (b + 2) - 49)
      rw [show 1 + (sg (b + 2) - 49) = sg (b + 2) - 48 by omega] at this
      exact this
    rw [h1, y] at cl
    rw [h0, h5, h8, y2] at ml
    refine ⟨fun M => fX5_punish M 1 (nI (sg (b + 1) - 65)) (nI (sg (b + 2) - 48)), fun D q => fX7_tryFine D (nI (sg (b + 1) - 65)) (nI (sg (b + 2) - 48)) q, (z_fineC _ _).mono (by omega), cl _ (if_ni (by decide) (if_pi rfl (bn_i ?_ rfl))), ml _ (if_ni (by decide) (if_pi rfl rfl))⟩
    rw [h2]
    exact q_num1 p (by omega) (by omega)
  · have y : nI (sg (b + 1)) - 65 = nI (sg (b + 1) - 65) := pk_sub (b := 65) h3
    have y2 : nI (sg (b + 2)) - 65 = nI (sg (b + 2) - 65) := pk_sub (b := 65) h6
    rw [h1, y] at cl
    rw [h0, h5, h8] at ml
    refine ⟨fun M => fX5_askSwap M 1 (nI (sg (b + 1) - 65)) (nI (sg (b + 2) - 65)), fun D q => fX7_trySwap D (nI (sg (b + 1) - 65)) (nI (sg (b + 2) - 65)) q, (z_swapC _ _).mono (by omega), cl _ (if_ni (by decide) (if_ni (by decide) (if_pi rfl (bn_i (q_sign p (by omega)) ?_)))), ml _ (if_ni (by decide) (if_ni (by decide) (if_pi rfl rfl)))⟩
    rw [show nx sg n (b + 2) = sg (b + 2) from if_pos (by omega), y2]
  · have y : nI (sg (b + 1)) - 65 = nI (sg (b + 1) - 65) := pk_sub (b := 65) h3
    have w0 : fX3_wishAt C 729 (nI (b + 2)) (nI e) = some (D.1 739 (4 * k + 1)) := by
      rw [q_wAt p he (by omega) (fun q => (h6 0 (by omega)).1), h7]
      by_cases z : 0 < m
      · rw [if_pos z, if_pos (by omega)]
      · rw [if_neg z, if_neg (by omega)]
    have w1 : fX3_wishAt C 729 (nI (b + 3)) (nI e) = some (D.1 739 (4 * k + 2)) := by
      rw [q_wAt p he (by omega) (fun q => (h6 1 (by omega)).1), h8]
      by_cases z : 1 < m
      · rw [if_pos z, if_pos (by omega)]
      · rw [if_neg z, if_neg (by omega)]
    have w2 : fX3_wishAt C 729 (nI (b + 4)) (nI e) = some (D.1 739 (4 * k + 3)) := by
      rw [q_wAt p he (by omega) (fun q => (h6 2 (by omega)).1), h9]
      by_cases z : 2 < m
      · rw [if_pos z, if_pos (by omega)]
      · rw [if_neg z, if_neg (by omega)]
    rw [h1, y] at cl
    rw [h0, h5] at ml
    exact ⟨fun M => fX5_tellWishes M 1 (nI (sg (b + 1) - 65)) (D.1 739 (4 * k + 1)) (D.1 739 (4 * k + 2)) (D.1 739 (4 * k + 3)), fun X q => fX7_tryWish X (nI (sg (b + 1) - 65)) (D.1 739 (4 * k + 1)) (D.1 739 (4 * k + 2)) (D.1 739 (4 * k + 3)) q, (z_wishC _ _ _ _).mono (by omega), cl _ (if_ni (by decide) (if_ni (by decide) (if_ni (by decide) (if_pi rfl (bn_i w0 (bn_i w1 (bn_i w2 rfl))))))), ml _ (if_ni (by decide) (if_ni (by decide) (if_ni (by decide) (if_pi rfl rfl))))⟩
  · rw [h1] at cl
    rw [h0] at ml
    refine ⟨fun M => fX5_passDays M 1 (D.1 739 (4 * k)), fun X q => fX7_tryDays X (D.1 739 (4 * k)) q, z_daysC kT1 hT0 _, cl _ (if_ni (by decide) (if_ni (by decide) (if_ni (by decide) (if_ni (by decide) (bn_i ?_ rfl))))), ml _ (if_ni (by decide) (if_ni (by decide) (if_ni (by decide) (if_ni (by decide) rfl))))⟩
    rcases h2 with ⟨h2, h5⟩ | ⟨h2, ⟨h6, h7⟩, h5⟩
    · rw [h2, h5]
      exact q_num1 p (by omega) h3
    · rw [h2, h5]
      exact q_num2 p (by omega) h3 h6
