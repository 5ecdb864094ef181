/-! SIM: the start; a call of the law -/
theorem s_hd : ∀ k, k < 6 → mm_0.1 1 k = mm_0.1 732 (10 + k) := by decide +kernel
theorem s_st : ∀ k, k < 10 → mm_0.1 2 k = mm_0.1 732 k := by decide +kernel
theorem s_sv : ∀ q, q < 2 → mm_0.1 (597 + 66 * q) 6 = 0 ∧ mm_0.1 735 q = 0 := by decide +kernel
theorem s_r : ∀ j, j < 10 → ∃ x, x ≤ cp9 j ∧ mm_0.1 732 j = nI x := by
  intro j hj
  match j, hj with
  | 0, _ => exact ⟨8, by decide, by decide +kernel⟩
  | 1, _ => exact ⟨60, by decide, by decide +kernel⟩
  | 2, _ => exact ⟨2, by decide, by decide +kernel⟩
  | 3, _ => exact ⟨12, by decide, by decide +kernel⟩
  | 4, _ => exact ⟨14, by decide, by decide +kernel⟩
  | 5, _ => exact ⟨90, by decide, by decide +kernel⟩
  | 6, _ => exact ⟨500, by decide, by decide +kernel⟩
  | 7, _ => exact ⟨2, by decide, by decide +kernel⟩
  | 8, _ => exact ⟨11, by decide, by decide +kernel⟩
  | 9, _ => exact ⟨200, by decide, by decide +kernel⟩
  | j + 10, h => exact absurd h (by omega)
theorem s_sim : Sim okA mm_0 1 (mm_0.1 732) 0 0 0 0 (fun _ => 0) (fun _ _ => 0) := by
  refine ⟨⟨by omega, by omega, by omega, by omega, fun _ => Nat.zero_le _⟩, fun o k j h => ?_, fun i hi => absurd hi (by omega), fun j => ?_⟩
  · rcases h with ⟨g1, g2, g3⟩ | ⟨g1, g2, g3⟩ | ⟨g1, g2, g3⟩ | ⟨g1, g2, g3⟩ | ⟨i, hi, g1, g2, g3⟩ | ⟨i, hi, g1, g2, go, g3⟩ | ⟨i, hi, g1, g2, g3⟩ | ⟨i, hi, g1, g2, g3⟩
    · rw [g1, g3]; exact s_hd k g2
    · rw [g1, g3]; exact s_st k g2
    all_goals omega
  · refine ⟨fun h => s_r j h, fun h => ⟨8, by omega, by omega, by subst h; decide +kernel⟩, fun h => ⟨2, by omega, by subst h; decide +kernel⟩, fun h => ⟨90, by omega, by omega, by subst h; decide +kernel⟩, fun h => ⟨11, by omega, by subst h; decide +kernel⟩, fun h => by subst h; decide +kernel, fun h => ⟨1, by omega, by subst h; decide +kernel⟩, fun h => by subst h; decide +kernel, fun h => by subst h; decide +kernel, fun h => by subst h; decide +kernel, ?_, ?_, ?_, ?_, ?_, ?_, ?_, ?_, ?_, ?_⟩ <;> intros <;> omega
theorem s_gl : Gl 0 mm_0 mm_0 := ⟨⟨0, 0, 0, 0, fun _ => 0, fun _ _ => 0, ⟨Nat.le_refl _, fun _ _ => Nat.le_refl _, DI.zero _⟩, s_sim⟩, ⟨0, 0, by omega, by omega, by decide +kernel, by decide +kernel, by decide +kernel, fun j hj => absurd hj (by omega)⟩, fun q hq => Or.inl (s_sv q hq), ⟨0, by omega, by decide +kernel, by decide +kernel, fun i hi => absurd hi (by omega)⟩⟩
theorem Gl.cg {T0 : Nat} {C D C' D' : mm_M} (G : Gl T0 C D) (hC : ∀ o, o < 731 → C'.1 o = C.1 o ∧ C'.2 o = C.2 o) (hD : ∀ o, 731 ≤ o → D'.1 o = D.1 o) : Gl T0 C' D' := by
  obtain ⟨b, h, H⟩ := G.hist
  refine ⟨(G.live.frame (fun o ho => hC o (by omega))).congr (fun k _ => by rw [hD 732 (by omega)]), ⟨b, h, (H.frame (fun o ho => hC o (by omega))).frameD (by rw [hD 731 (by omega)]) (hD 733 (by omega))⟩, (G.sav.frame (fun o ho => hC o (by omega))).frameD (hD 734 (by omega)) (hD 735 (by omega)), ?_⟩
  obtain ⟨n, hn, h1, h2, h3⟩ := G.pad
  refine ⟨n, hn, by rw [(hC 729 (by omega)).1]; exact h1, by rw [hD 731 (by omega)]; exact h2, fun i hi => ?_⟩
  rw [(hC 730 (by omega)).1, hD 737 (by omega)]
  exact h3 i hi
