/-! SIM: the start; a call of the law -/
theorem s_hd : ∀ k, k < 6 → mm_0.1 1 k = mm_0.1 732 (10 + k) := by decide +kernel
theorem s_st : ∀ k, k < 10 → mm_0.1 2 k = mm_0.1 732 k := by decide +kernel
theorem s_sv : ∀ q, q < 2 → mm_0.1 (597 + 66 * q) 6 = 0 ∧ mm_0.1 735 q = 0 := by decide +kernel
theorem s_r : ∀ j, j < 10 → ∃ x, x ≤ 10000 ∧ mm_0.1 732 j = nI x := by
  intro j hj
  match j, hj with
  | 0, _ => exact ⟨8, by omega, by decide +kernel⟩
  | 1, _ => exact ⟨60, by omega, by decide +kernel⟩
  | 2, _ => exact ⟨2, by omega, by decide +kernel⟩
  | 3, _ => exact ⟨12, by omega, by decide +kernel⟩
  | 4, _ => exact ⟨14, by omega, by decide +kernel⟩
  | 5, _ => exact ⟨90, by omega, by decide +kernel⟩
  | 6, _ => exact ⟨500, by omega, by decide +kernel⟩
  | 7, _ => exact ⟨2, by omega, by decide +kernel⟩
  | 8, _ => exact ⟨11, by omega, by decide +kernel⟩
  | 9, _ => exact ⟨200, by omega, by decide +kernel⟩
  | j + 10, h => exact absurd h (by omega)
theorem s_sim : Sim okA mm_0 1 (mm_0.1 732) 0 0 0 0 (fun _ => 0) := by
  refine ⟨⟨by omega, by omega, by omega, by omega, fun _ => Nat.zero_le _⟩, fun o k j h => ?_, fun i hi => absurd hi (by omega), fun j => ?_⟩
  · rcases h with ⟨g1, g2, g3⟩ | ⟨g1, g2, g3⟩ | ⟨g1, g2, g3⟩ | ⟨g1, g2, g3⟩ | ⟨i, hi, g1, g2, g3⟩ | ⟨i, hi, g1, g2, go, g3⟩ | ⟨i, hi, g1, g2, g3⟩ | ⟨i, hi, g1, g2, g3⟩
    · rw [g1, g3]; exact s_hd k g2
    · rw [g1, g3]; exact s_st k g2
    all_goals omega
  · refine ⟨fun h => s_r j h, fun h => ⟨8, by omega, by omega, by subst h; decide +kernel⟩, fun h => ⟨2, by omega, by subst h; decide +kernel⟩, fun h => ⟨90, by omega, by omega, by subst h; decide +kernel⟩, fun h => ⟨11, by omega, by subst h; decide +kernel⟩, fun h => by subst h; decide +kernel, fun h => ⟨1, by omega, by subst h; decide +kernel⟩, fun h => by subst h; decide +kernel, fun h => by subst h; decide +kernel, fun h => by subst h; decide +kernel, ?_, ?_, ?_, ?_, ?_, ?_, ?_, ?_, ?_, ?_⟩ <;> intros <;> omega
theorem s_gl : Gl 0 mm_0 mm_0 := ⟨⟨0, 0, 0, 0, fun _ => 0, Nat.le_refl _, s_sim⟩, ⟨0, 0, by omega, by omega, by decide +kernel, by decide +kernel, by decide +kernel, fun j hj => absurd hj (by omega)⟩, fun q hq => Or.inl (s_sv q hq), ⟨0, by omega, by decide +kernel, by decide +kernel, fun i hi => absurd hi (by omega)⟩⟩
theorem Gl.cg {T0 : Nat} {C D C' D' : mm_M} (G : Gl T0 C D) (hC : ∀ o, o < 731 → C'.1 o = C.1 o ∧ C'.2 o = C.2 o) (hD : ∀ o, 731 ≤ o → D'.1 o = D.1 o) : Gl T0 C' D' := by
  obtain ⟨b, h, H⟩ := G.hist
  refine ⟨(G.live.frame (fun o ho => hC o (by omega))).congr (fun k _ => by rw [hD 732 (by omega)]), ⟨b, h, (H.frame (fun o ho => hC o (by omega))).frameD (by rw [hD 731 (by omega)]) (hD 733 (by omega))⟩, (G.sav.frame (fun o ho => hC o (by omega))).frameD (hD 734 (by omega)) (hD 735 (by omega)), ?_⟩
  obtain ⟨n, hn, h1, h2, h3⟩ := G.pad
  refine ⟨n, hn, by rw [(hC 729 (by omega)).1]; exact h1, by rw [hD 731 (by omega)]; exact h2, fun i hi => ?_⟩
  rw [(hC 730 (by omega)).1, hD 737 (by omega)]
  exact h3 i hi
theorem o_twR {Q : Int32 → Int32 → Prop} {T0 T1 : Nat} {f g : mm_M → Option (Int32 × mm_M)} (h : TwR Q T0 T1 f g) {M : mm_M} (G : Gl T0 M M) : ∃ r r' M1 M2, f M = some (r, M1) ∧ g M1 = some (r', M2) ∧ Q r r' ∧ Gl T1 M2 M2 := by
  obtain ⟨r, r1, C', D0, e1, -, -, O⟩ := h M M G
  have G1 : Gl T0 M C' := G.cg (fun _ _ => ⟨rfl, rfl⟩) (fun o ho => O.2.1 o ho)
  obtain ⟨r2, r', C2, D2, e2, e3, q, O2⟩ := h M C' G1
  rw [e1] at e2
  have e4 : (r, C') = (r2, C2) := Option.some.inj e2
  have e5 : r = r2 := congrArg Prod.fst e4
  have e6 : C' = C2 := congrArg Prod.snd e4
  subst e5
  subst e6
  exact ⟨r, r', C', D2, e1, e3, q, O2.1.cg (fun o ho => O2.2.2 o ho) (fun _ _ => rfl)⟩
theorem s_cmp {T0 T1 : Nat} {f g : mm_M → Option (Int32 × mm_M)} {M : mm_M} {K : mm_M → Option Bool} (h : Tw T0 T1 f g) (G : Gl T0 M M) (hK : ∀ M2, Gl T1 M2 M2 → K M2 = some true) : (bn2 (f M) fun r7 M8 => bn2 (g M8) fun r10 M11 => if r7 = r10 then K M11 else some false) = some true := by
  obtain ⟨r, r', M1, M2, e1, e2, q, G2⟩ := o_twR h.toR G
  exact bn2_i e1 (bn2_i e2 (if_pi q (hK M2 G2)))
theorem s_noR {Q : Int32 → Int32 → Prop} {T0 T1 : Nat} {f g : mm_M → Option (Int32 × mm_M)} {M : mm_M} {K : mm_M → Option Bool} (h : TwR Q T0 T1 f g) (G : Gl T0 M M) (hK : ∀ M2, Gl T1 M2 M2 → K M2 = some true) : (bn2 (f M) fun r7 M8 => bn2 (g M8) fun r10 M11 => K M11) = some true := by
  obtain ⟨r, r', M1, M2, e1, e2, q, G2⟩ := o_twR h G
  exact bn2_i e1 (bn2_i e2 (hK M2 G2))
theorem s_no {T0 T1 : Nat} {f g : mm_M → Option (Int32 × mm_M)} {M : mm_M} {K : mm_M → Option Bool} (h : Tw T0 T1 f g) (G : Gl T0 M M) (hK : ∀ M2, Gl T1 M2 M2 → K M2 = some true) : (bn2 (f M) fun r7 M8 => bn2 (g M8) fun r10 M11 => K M11) = some true := s_noR h.toR G hK
theorem s_vc {T0 : Nat} {f g : mm_M → Option Int32} {M : mm_M} {K : Option Bool} (h : Vw T0 f g) (G : Gl T0 M M) (hK : Gl T0 M M → K = some true) : (bn (f M) fun r7 => bn (g M) fun r10 => if r7 = r10 then K else some false) = some true := by
  obtain ⟨r, e1, e2⟩ := h M M G
  exact bn_i e1 (bn_i e2 (if_pi rfl (hK G)))
theorem s_vn {α : Type} {T0 : Nat} {f g : mm_M → Option α} {M : mm_M} {K : Option Bool} (h : VwS T0 f g) (G : Gl T0 M M) (hK : Gl T0 M M → K = some true) : (bn (f M) fun r7 => bn (g M) fun r10 => K) = some true := by
  obtain ⟨r, r', e1, e2⟩ := h M M G
  exact bn_i e1 (bn_i e2 (hK G))
theorem o_f {T0 : Nat} {f : mm_M → Option Int32} {g : mm_M → Option (Int32 × mm_M)} (h : TwF T0 f g) {M : mm_M} (G : Gl T0 M M) : ∃ r M2, f M = some r ∧ g M = some (r, M2) ∧ Gl T0 M2 M2 := by
  obtain ⟨r, D', e1, e2, O⟩ := h M M G
  exact ⟨r, D', e1, e2, O.1.cg (fun o ho => O.2.2 o ho) (fun _ _ => rfl)⟩
theorem s_fc {T0 : Nat} {f : mm_M → Option Int32} {g : mm_M → Option (Int32 × mm_M)} {M : mm_M} {K : mm_M → Option Bool} (h : TwF T0 f g) (G : Gl T0 M M) (hK : ∀ M2, Gl T0 M2 M2 → K M2 = some true) : (bn (f M) fun r7 => bn2 (g M) fun r10 M11 => if r7 = r10 then K M11 else some false) = some true := by
  obtain ⟨r, M2, e1, e2, G2⟩ := o_f h G
  exact bn_i e1 (bn2_i e2 (if_pi rfl (hK M2 G2)))
theorem s_fn {T0 : Nat} {f : mm_M → Option Int32} {g : mm_M → Option (Int32 × mm_M)} {M : mm_M} {K : mm_M → Option Bool} (h : TwF T0 f g) (G : Gl T0 M M) (hK : ∀ M2, Gl T0 M2 M2 → K M2 = some true) : (bn (f M) fun r7 => bn2 (g M) fun r10 M11 => K M11) = some true := by
  obtain ⟨r, M2, e1, e2, G2⟩ := o_f h G
  exact bn_i e1 (bn2_i e2 (hK M2 G2))
theorem L5 {L i : Nat} (hL : L ≤ 2560) (hi : i ≤ 512) : (Int32.ofNat L - 5 < nI (5 * i)) ↔ L < 5 * i + 5 := by
  rw [Int32.lt_iff_toInt_lt, nI_toInt (by omega)]
  have h : (nI L - nI 5).toInt = (L : Int) - (5 : Nat) := sub_toInt (by omega) (by omega)
  have h2 : (Int32.ofNat L - 5).toInt = (L : Int) - (5 : Nat) := h
  rw [h2]
  omega
