/-! SIM: a day: kitchens, the loop -/
abbrev Kt (C D : mm_M) (a P K W T : Nat) (N : Nat → Nat) (ord : Nat → Nat) (p q v1 v2 : Nat) : Prop := (Sim okA C a (D.1 732) P K W T N) ∧ (Od (D.1 732) K ord p) ∧ (C.1 a 14 = nI p) ∧ (∀ x, x < p → C.1 (a + 7) x = nI (ord x)) ∧ (∀ x, q ≤ x → x < p → D.1 732 (72 + 20 * ord x + 12) = -6) ∧ (D.1 731 8 = msk v1 ∧ v1 ≤ 14) ∧ (D.1 731 9 = msk v2 ∧ v2 ≤ 14)
set_option maxHeartbeats 4000000 in
theorem z_kitl {a P K W T p : Nat} {N ord : Nat → Nat} : ∀ (d q n n' v1 v2 : Nat) (C D : mm_M), q + d = p → d < n → d < n' → Kt C D a P K W T N ord p q v1 v2 → ∃ C' D', fX1_shareKitchens_6 a n C (nI v1) (nI v2) (nI q) = some C' ∧ fX7_cookAll_18 n' D (nI q) (if q < p then nI (ord q) else -6) = some D' ∧ Sim okA C' a (D'.1 732) P K W T N ∧ Od (D'.1 732) K ord p ∧ FrC C C' a ∧ FrD D D' ∧ Kd D D' := by
  intro d
  induction d with
  | zero =>
    intro q n n' v1 v2 C D hq hn hn' ⟨S, O, c14, c7, b12, k1, k2⟩
    obtain ⟨n, rfl⟩ : ∃ q, n = q + 1 := ⟨n - 1, by omega⟩
    obtain ⟨n', rfl⟩ : ∃ q, n' = q + 1 := ⟨n' - 1, by omega⟩
    have lK := S.bd.lK
    have hpK := O.2.2
    refine ⟨C, D, ?_, ?_, S, O, FrC.rf _ _, FrD.rf _, Kd.rf _⟩
    · rw [fX1_shareKitchens_6, c14]
      exact if_pi (nI_le (by omega) (by omega)) rfl
    · rw [if_neg (by omega), fX7_cookAll_18]
      exact if_pi (by decide) rfl
  | succ d ih =>
    intro q n n' v1 v2 C D hq hn hn' ⟨S, O, c14, c7, b12, ⟨k1, l1⟩, ⟨k2, l2⟩⟩
    obtain ⟨n, rfl⟩ : ∃ q, n = q + 1 := ⟨n - 1, by omega⟩
    obtain ⟨n', rfl⟩ : ∃ q, n' = q + 1 := ⟨n' - 1, by omega⟩
    have lK := S.bd.lK
    have lP := S.bd.lP
    have lW := S.bd.lW
    have hpK := O.2.2
    have hqp : q < p := by omega
    obtain ⟨c, ec⟩ : ∃ c, c = ord q := ⟨_, rfl⟩
    obtain ⟨hc, w14⟩ := O.1 q hqp
    rw [← ec] at hc w14
    have hne : ∀ x, x < p → x ≠ q → ord x ≠ c := fun x hx hxq e => by
      have h := (O.1 x hx).2
      rw [e, w14] at h
      exact hxq ((nI_eq (by omega) (by omega)).mp h).symm
    have hcC : fX5_hasCart C a (nI c) = some true := by
      rcases S.hasCart (nI c) with ⟨i, hi, e, h⟩ | ⟨h, -⟩
      · exact h
      · exact absurd rfl (h c hc)
    have next : ∀ (v1' v2' : Nat) (C1 D1 : mm_M), v1' ≤ 14 → v2' ≤ 14 → Sim okA C1 a (D1.1 732) P K W T N → C1.1 a 14 = nI p → C1.1 (a + 7) = C.1 (a + 7) → (∀ i t, i < 16 → (t = 14 ∨ t = 19 ∨ (t = 12 ∧ i ≠ c)) → D1.1 732 (72 + 20 * i + t) = D.1 732 (72 + 20 * i + t)) → D1.1 731 8 = msk v1' → D1.1 731 9 = msk v2' → FrC C C1 a → FrD D D1 → Kd D D1 → ∃ C' D', fX1_shareKitchens_6 a n C1 (nI v1') (nI v2') (nI (q + 1)) = some C' ∧ fX7_cookAll_37 (fX7_cookAll_18 n') D1 (nI q) = some D' ∧ Sim okA C' a (D'.1 732) P K W T N ∧ Od (D'.1 732) K ord p ∧ FrC C C' a ∧ FrD D D' ∧ Kd D D' := by
      intro v1' v2' C1 D1 l1' l2' S1 h14 h7 hw m1 m2 f1 f2 f3
      have O1 : Od (D1.1 732) K ord p := O.of (fun i t hi ht => hw i t (by omega) (by omega))
      obtain ⟨C', D', e1, e2, e3, e4, e5, e6, e7⟩ := ih (q + 1) n n' v1' v2' C1 D1 (by omega) (by omega) (by omega) ⟨S1, O1, h14, fun x hx => by rw [h7]; exact c7 x hx, fun x h1 h2 => by
        have := (O.1 x h2).1
        rw [hw _ 12 (by omega) (Or.inr (Or.inr ⟨rfl, hne x h2 (by omega)⟩))]
        exact b12 x (by omega) h2, ⟨m1, l1'⟩, ⟨m2, l2'⟩⟩
      refine ⟨C', D', e1, ?_, e3, e4, f1.tr e5, f2.tr e6, f3.tr e7⟩
      unfold fX7_cookAll_37
      rw [nI_1]
      exact lt_i (bn_i (m_dat O1 lK S1.wK (show q + 1 ≤ p by omega)) e2)
    have h8 : C.1 (a + 18 + 3 * c) 8 = D.1 732 (72 + 20 * c + 11) := S_cart S hc (k := 8) (by omega)
    have o11 : fX7_of D (nI c) 11 = some (D.1 732 (72 + 20 * c + 11)) := of_i (k := 11) (by omega) (by omega)
    have k12 := b12 q (Nat.le_refl _) hqp
    rw [← ec] at k12
    have cl : ∀ r, (if D.1 732 (72 + 20 * c + 11) = -6 then fX1_shareKitchens_6 a n C (nI v1) (nI v2) (nI (q + 1)) else
          lt (if nI v2 < nI v1 then nI v2 else nI v1) fun y10 =>
          if (y10 + (C.1 (a + 18 + 3 * c) 1)) ≤ (C.1 (a + 1) 8) then
            lt (sI C (a + 18 + 3 * c) 9 y10) fun M12 =>
            if y10 = nI v1 then
              lt (nI v1 + (M12.1 (a + 18 + 3 * c) 1)) fun y16 =>
              lt (nI (q + 1)) fun y17 =>
              fX1_shareKitchens_6 a n M12 y16 (nI v2) y17
            else
              lt (nI v2 + (M12.1 (a + 18 + 3 * c) 1)) fun y14 =>
              lt (nI (q + 1)) fun y15 =>
              fX1_shareKitchens_6 a n M12 (nI v1) y14 y15
          else
            bn (fX5_unseat C a (a + 18 + 3 * c)) fun M19 =>
            lt (sI M19 (a + 18 + 3 * c) 10 5) fun M20 =>
            if (M20.1 (a + 1) 7) ≤ 0 then
              lt (nI (q + 1)) fun y22 =>
              fX1_shareKitchens_6 a n M20 (nI v1) (nI v2) y22
            else
              bn2 (fX5_givePoints M20 a (a + 18 + 3 * c) (M20.1 (a + 1) 7)) fun r24 M25 =>
              lt (nI (q + 1)) fun y26 =>
              fX1_shareKitchens_6 a n M25 (nI v1) (nI v2) y26) = r → fX1_shareKitchens_6 a (n + 1) C (nI v1) (nI v2) (nI q) = r := fun r hr => by
      rw [fX1_shareKitchens_6, c14]
      refine if_ni (nI_ge hqp (by omega)) (gd_i (ix_nI (n := 16) (by omega) (by decide)) ?_)
      rw [nI_clamp (by omega), c7 q hqp, ← ec]
      refine lt_i (bn_i hcC (if_pi rfl (gd_i (ix_nI (n := 16) (by omega) (by decide)) ?_)))
      rw [nI_clamp (by omega), h8, nI_1]
      exact hr
    have ml : ∀ r, (if D.1 732 (72 + 20 * c + 11) < 0 then fX7_cookAll_37 (fX7_cookAll_18 n') D (nI q) else bn (fX7_cook D (nI c)) fun M6 => fX7_cookAll_37 (fX7_cookAll_18 n') M6 (nI q)) = r → fX7_cookAll_18 (n' + 1) D (nI q) (if q < p then nI (ord q) else -6) = r := fun r hr => by
      rw [if_pos hqp, ← ec, fX7_cookAll_18]
      exact if_ni (nI_pos (by omega)) (bn_i o11 hr)
    rcases (S.val _).at_ c hc rfl with h | ⟨pp, hpp, h⟩
    · obtain ⟨C', D', e1, e2, e3⟩ := next v1 v2 C D l1 l2 S c14 rfl (fun _ _ _ _ => rfl) k1 k2 (FrC.rf _ _) (FrD.rf _) (Kd.rf _)
      exact ⟨C', D', cl _ (by rw [if_pos h]; exact e1), ml _ (by rw [if_pos (by rw [h]; decide)]; exact e2), e3⟩
    · have hn6 : ¬ D.1 732 (72 + 20 * c + 11) = -6 := fun z => nI_pos (n := pp) (by omega) (by rw [← h, z]; decide)
      have hn0 : ¬ D.1 732 (72 + 20 * c + 11) < 0 := by rw [h]; exact nI_pos (by omega)
      obtain ⟨g, g1, g2, eg⟩ := (S.val _).hrs c hc rfl
      obtain ⟨op, hop, eop⟩ := (S.val 8).r8 rfl
      have cg : C.1 (a + 18 + 3 * c) 1 = nI g := (S_cart S hc (k := 1) (by omega)).trans eg
      have cop : C.1 (a + 1) 8 = nI op := (S.eq (a + 1) 8 8 (Or.inr (Or.inl ⟨rfl, by omega, rfl⟩))).trans eop
      rw [if_neg hn6, cg, cop] at cl
      rw [if_neg hn0] at ml
      by_cases cA : v1 ≤ v2
      · have ey : (if nI v2 < nI v1 then nI v2 else nI v1) = nI v1 := if_neg (nI_nlt cA (by omega))
        rw [ey] at cl
        by_cases cB : v1 + g ≤ op
        · obtain ⟨C1, e1⟩ : ∃ X, X = sI C (a + 18 + 3 * c) 9 (nI v1) := ⟨_, rfl⟩
          obtain ⟨D1, f1⟩ : ∃ X, X = sI (sI D 731 8 (msk (v1 + g))) 732 (72 + 20 * c + 12) (nI v1) := ⟨_, rfl⟩
          have r732 : (sI D 731 8 (msk (v1 + g))).1 732 = D.1 732 := by rw [sI_ap1, if_neg (by omega)]
          have S1 : Sim okA C1 a (D1.1 732) P K W T N := by
            rw [e1, f1, sI_row, r732]
            exact S.up (Lk_cart hc (k := 9) (by omega)) (Ok_free S.bd0 (t := 12) (by omega) (by omega))
          obtain ⟨C', D', q1, q2, q3⟩ := next (v1 + g) v2 C1 D1 (by omega) l2 S1 (by rw [e1, sI_ap1, if_neg (by omega)]; exact c14) (by rw [e1, sI_ap1, if_neg (by omega)]) (fun i t hi ht => by rw [f1, sI_row, r732, up_ne (by omega)]) (by rw [f1, sI_ap1, if_neg (by omega), sI_ap1, if_pos rfl]; exact if_pos rfl) (by rw [f1, sI_ap1, if_neg (by omega), sI_ap1, if_pos rfl]; exact (if_neg (by omega)).trans k2) (by rw [e1]; exact FrC.w (by omega)) (by rw [f1]; exact (FrD.s8 (by omega)).tr FrD.w) (by rw [f1]; exact (Kd.n (by omega)).tr (Kd.w (by omega) (by omega)))
          refine ⟨C', D', cl _ ?_, ml _ ?_, q3⟩
          · refine lt_i ?_
            rw [nI_add]
            refine if_pi (nI_le cB (by omega)) ?_
            rw [← e1]
            refine lt_i (if_pi rfl ?_)
            rw [show C1.1 (a + 18 + 3 * c) 1 = nI g by rw [e1, sI_ap1, if_pos rfl]; exact (if_neg (by omega)).trans cg, nI_add]
            exact lt_i (lt_i q1)
          · refine bn_i (a := D1) ?_ q2
            rw [f1]
            exact m_cook1 (by omega) g1 (by omega) hop eg eop k12 k1 k2 l1 l2 cA cB
        · obtain ⟨ab, hab, eab⟩ := (S.val 7).rng (by omega)
          obtain ⟨C3, e3⟩ : ∃ X, X = sI (sI (sI C (a + 8 + pp) 3 (-6)) (a + 18 + 3 * c) 8 (-6)) (a + 18 + 3 * c) 10 5 := ⟨_, rfl⟩
          obtain ⟨D3, f3⟩ : ∃ X, X = sI (sI (sI D 732 (32 + 4 * pp + 3) (-6)) 732 (72 + 20 * c + 11) (-6)) 732 (72 + 20 * c + 13) 5 := ⟨_, rfl⟩
          have S3 : Sim okA C3 a (D3.1 732) P K W T N := by
            rw [e3, f3, sI_row, sI_row, sI_row]
            exact ((S.up (Lk_p hpp (by omega)) (Ok_p3 lW (by omega) (Or.inl rfl))).up (Lk_cart hc (k := 8) (by omega)) (Ok_at S.bd0 (by omega) (Or.inl rfl))).up (Lk_cart hc (k := 10) (by omega)) (Ok_free S.bd0 (t := 13) (by omega) (by omega))
          have un : fX5_unseat C a (a + 18 + 3 * c) = some (sI (sI C (a + 8 + pp) 3 (-6)) (a + 18 + 3 * c) 8 (-6)) := by
            unfold fX5_unseat
            rw [h8, h]
            refine bn_i (a := true) ?_ (if_pi rfl (gd_i (ix_nI (n := 10) (by omega) (by decide)) ?_))
            · rcases S.hasPitch (nI pp) with ⟨i, hi, e, z⟩ | ⟨z, -⟩
              · exact z
              · exact absurd rfl (z pp hpp)
            · rw [nI_clamp (by omega)]
              rfl
          have c37 : C3.1 (a + 1) 7 = nI ab := (S3.eq (a + 1) 7 7 (Or.inr (Or.inl ⟨rfl, by omega, rfl⟩))).trans (by rw [f3, sI_row, sI_row, sI_row, up_ne (by omega), up_ne (by omega), up_ne (by omega)]; exact eab)
          have d37 : D3.1 732 7 = nI ab := by rw [f3, sI_row, sI_row, sI_row, up_ne (by omega), up_ne (by omega), up_ne (by omega)]; exact eab
          have c3a : C3.1 a = C.1 a := by rw [e3, sI_ap1, if_neg (by omega), sI_ap1, if_neg (by omega), sI_ap1, if_neg (by omega)]
          have c37' : C3.1 (a + 7) = C.1 (a + 7) := by rw [e3, sI_ap1, if_neg (by omega), sI_ap1, if_neg (by omega), sI_ap1, if_neg (by omega)]
          have d3w : ∀ i t, i < 16 → (t = 14 ∨ t = 19 ∨ (t = 12 ∧ i ≠ c)) → D3.1 732 (72 + 20 * i + t) = D.1 732 (72 + 20 * i + t) := fun i t hi ht => by rw [f3, sI_row, sI_row, sI_row, up_ne (by omega), up_ne (by omega), up_ne (by omega)]
          have d3m : D3.1 731 = D.1 731 := by rw [f3, sI_ap1, if_neg (by omega), sI_ap1, if_neg (by omega), sI_ap1, if_neg (by omega)]
          have fc3 : FrC C C3 a := by rw [e3]; exact ((FrC.w (by omega)).tr (FrC.w (by omega))).tr (FrC.w (by omega))
          have fd3 : FrD D D3 := by rw [f3]; exact (FrD.w.tr FrD.w).tr FrD.w
          have fk3 : Kd D D3 := by rw [f3]; exact ((Kd.o (by omega)).tr (Kd.w (by omega) (by omega))).tr (Kd.w (by omega) (by omega))
          have m8 : ∀ r, (if D3.1 732 7 ≤ 0 then some D3 else bn (fX7_give D3 (nI c) (D3.1 732 7)) fun M14 => some M14) = r → fX7_cook D (nI c) = r := fun r hr => by
            rw [m_cook3 (by omega) g1 (by omega) hop eg eop k12 k1 k2 l1 l2 (by omega) (by omega)]
            unfold fX7_cook_108
            refine bn_i (a := -6) (by rw [← k12]; exact of_i (k := 12) (by omega) (by omega)) (if_ni (by decide) (bn_i (o11.trans (by rw [h])) ?_))
            rw [p3idx]
            refine gd_i (ix_nI (n := 3592) (by omega) (by decide)) ?_
            rw [nI_clamp (by omega)]
            refine lt_i (bn_i (lay_i (k := 11) (-6) (by omega) (by omega)) (bn_i (lay_i (k := 13) 5 (by omega) (by omega)) ?_))
            rw [← f3]
            exact hr
          have cl2 : ∀ r, (if nI ab ≤ 0 then fX1_shareKitchens_6 a n C3 (nI v1) (nI v2) (nI (q + 1)) else bn2 (fX5_givePoints C3 a (a + 18 + 3 * c) (nI ab)) fun r24 M25 => fX1_shareKitchens_6 a n M25 (nI v1) (nI v2) (nI (q + 1))) = r → fX1_shareKitchens_6 a (n + 1) C (nI v1) (nI v2) (nI q) = r := fun r hr => cl r (by
            refine lt_i ?_
            rw [nI_add]
            refine if_ni (nI_ge (by omega) (by omega)) (bn_i un ?_)
            rw [← e3]
            refine lt_i ?_
            rw [c37]
            exact hr)
          by_cases z : ab = 0
          · obtain ⟨C', D', q1, q2, q3⟩ := next v1 v2 C3 D3 l1 l2 S3 (by rw [c3a]; exact c14) c37' d3w (by rw [d3m]; exact k1) (by rw [d3m]; exact k2) fc3 fd3 fk3
            refine ⟨C', D', cl2 _ ?_, ml _ (bn_i (m8 _ ?_) q2), q3⟩
            · rw [z]; exact if_pi (by decide) q1
            · rw [d37, z]; exact if_pi (by decide) rfl
          · obtain ⟨C4, D4, s, hs, x1, x2, -, S4, y1, y2, ⟨y3, y4⟩, y5, y6⟩ := z_give S3 hc hab
            have kd4 : Kd D3 D4 := fun i hi => y6 i 10 hi (by omega) (by omega) (by omega)
            obtain ⟨C', D', q1, q2, q3⟩ := next v1 v2 C4 D4 l1 l2 S4 (by rw [y3, c3a]; exact c14) (y4.trans c37') (fun i t hi ht => by rw [y6 i t hi (by omega) (by omega) (by omega)]; exact d3w i t hi ht) (by rw [y5, d3m]; exact k1) (by rw [y5, d3m]; exact k2) (fc3.tr y1) (fd3.tr y2) (fk3.tr kd4)
            refine ⟨C', D', cl2 _ ?_, ml _ (bn_i (m8 _ ?_) q2), q3⟩
            · exact if_ni (nI_nle (by omega) (by omega)) (bn2_i x1 q1)
            · rw [d37]; exact if_ni (nI_nle (by omega) (by omega)) (bn_i x2 rfl)
      · have ey : (if nI v2 < nI v1 then nI v2 else nI v1) = nI v2 := if_pos (nI_lt (by omega) (by omega))
        rw [ey] at cl
        by_cases cB : v2 + g ≤ op
        · obtain ⟨C1, e1⟩ : ∃ X, X = sI C (a + 18 + 3 * c) 9 (nI v2) := ⟨_, rfl⟩
          obtain ⟨D1, f1⟩ : ∃ X, X = sI (sI D 731 9 (msk (v2 + g))) 732 (72 + 20 * c + 12) (nI v2) := ⟨_, rfl⟩
          have r732 : (sI D 731 9 (msk (v2 + g))).1 732 = D.1 732 := by rw [sI_ap1, if_neg (by omega)]
          have S1 : Sim okA C1 a (D1.1 732) P K W T N := by
            rw [e1, f1, sI_row, r732]
            exact S.up (Lk_cart hc (k := 9) (by omega)) (Ok_free S.bd0 (t := 12) (by omega) (by omega))
          obtain ⟨C', D', q1, q2, q3⟩ := next v1 (v2 + g) C1 D1 l1 (by omega) S1 (by rw [e1, sI_ap1, if_neg (by omega)]; exact c14) (by rw [e1, sI_ap1, if_neg (by omega)]) (fun i t hi ht => by rw [f1, sI_row, r732, up_ne (by omega)]) (by rw [f1, sI_ap1, if_neg (by omega), sI_ap1, if_pos rfl]; exact (if_neg (by omega)).trans k1) (by rw [f1, sI_ap1, if_neg (by omega), sI_ap1, if_pos rfl]; exact if_pos rfl) (by rw [e1]; exact FrC.w (by omega)) (by rw [f1]; exact (FrD.s8 (by omega)).tr FrD.w) (by rw [f1]; exact (Kd.n (by omega)).tr (Kd.w (by omega) (by omega)))
          refine ⟨C', D', cl _ ?_, ml _ ?_, q3⟩
          · refine lt_i ?_
            rw [nI_add]
            refine if_pi (nI_le cB (by omega)) ?_
            rw [← e1]
            refine lt_i (if_ni (fun z => ?_) ?_)
            · have := (nI_eq (a := v2) (b := v1) (by omega) (by omega)).mp z
              omega
            · rw [show C1.1 (a + 18 + 3 * c) 1 = nI g by rw [e1, sI_ap1, if_pos rfl]; exact (if_neg (by omega)).trans cg, nI_add]
              exact lt_i (lt_i q1)
          · refine bn_i (a := D1) ?_ q2
            rw [f1]
            exact m_cook2 (by omega) g1 (by omega) hop eg eop k12 k1 k2 l1 l2 (by omega) cB
        · obtain ⟨ab, hab, eab⟩ := (S.val 7).rng (by omega)
          obtain ⟨C3, e3⟩ : ∃ X, X = sI (sI (sI C (a + 8 + pp) 3 (-6)) (a + 18 + 3 * c) 8 (-6)) (a + 18 + 3 * c) 10 5 := ⟨_, rfl⟩
          obtain ⟨D3, f3⟩ : ∃ X, X = sI (sI (sI D 732 (32 + 4 * pp + 3) (-6)) 732 (72 + 20 * c + 11) (-6)) 732 (72 + 20 * c + 13) 5 := ⟨_, rfl⟩
          have S3 : Sim okA C3 a (D3.1 732) P K W T N := by
            rw [e3, f3, sI_row, sI_row, sI_row]
            exact ((S.up (Lk_p hpp (by omega)) (Ok_p3 lW (by omega) (Or.inl rfl))).up (Lk_cart hc (k := 8) (by omega)) (Ok_at S.bd0 (by omega) (Or.inl rfl))).up (Lk_cart hc (k := 10) (by omega)) (Ok_free S.bd0 (t := 13) (by omega) (by omega))
          have un : fX5_unseat C a (a + 18 + 3 * c) = some (sI (sI C (a + 8 + pp) 3 (-6)) (a + 18 + 3 * c) 8 (-6)) := by
            unfold fX5_unseat
            rw [h8, h]
            refine bn_i (a := true) ?_ (if_pi rfl (gd_i (ix_nI (n := 10) (by omega) (by decide)) ?_))
            · rcases S.hasPitch (nI pp) with ⟨i, hi, e, z⟩ | ⟨z, -⟩
              · exact z
              · exact absurd rfl (z pp hpp)
            · rw [nI_clamp (by omega)]
              rfl
          have c37 : C3.1 (a + 1) 7 = nI ab := (S3.eq (a + 1) 7 7 (Or.inr (Or.inl ⟨rfl, by omega, rfl⟩))).trans (by rw [f3, sI_row, sI_row, sI_row, up_ne (by omega), up_ne (by omega), up_ne (by omega)]; exact eab)
          have d37 : D3.1 732 7 = nI ab := by rw [f3, sI_row, sI_row, sI_row, up_ne (by omega), up_ne (by omega), up_ne (by omega)]; exact eab
          have c3a : C3.1 a = C.1 a := by rw [e3, sI_ap1, if_neg (by omega), sI_ap1, if_neg (by omega), sI_ap1, if_neg (by omega)]
          have c37' : C3.1 (a + 7) = C.1 (a + 7) := by rw [e3, sI_ap1, if_neg (by omega), sI_ap1, if_neg (by omega), sI_ap1, if_neg (by omega)]
          have d3w : ∀ i t, i < 16 → (t = 14 ∨ t = 19 ∨ (t = 12 ∧ i ≠ c)) → D3.1 732 (72 + 20 * i + t) = D.1 732 (72 + 20 * i + t) := fun i t hi ht => by rw [f3, sI_row, sI_row, sI_row, up_ne (by omega), up_ne (by omega), up_ne (by omega)]
          have d3m : D3.1 731 = D.1 731 := by rw [f3, sI_ap1, if_neg (by omega), sI_ap1, if_neg (by omega), sI_ap1, if_neg (by omega)]
          have fc3 : FrC C C3 a := by rw [e3]; exact ((FrC.w (by omega)).tr (FrC.w (by omega))).tr (FrC.w (by omega))
          have fd3 : FrD D D3 := by rw [f3]; exact (FrD.w.tr FrD.w).tr FrD.w
          have fk3 : Kd D D3 := by rw [f3]; exact ((Kd.o (by omega)).tr (Kd.w (by omega) (by omega))).tr (Kd.w (by omega) (by omega))
          have m8 : ∀ r, (if D3.1 732 7 ≤ 0 then some D3 else bn (fX7_give D3 (nI c) (D3.1 732 7)) fun M14 => some M14) = r → fX7_cook D (nI c) = r := fun r hr => by
            rw [m_cook3 (by omega) g1 (by omega) hop eg eop k12 k1 k2 l1 l2 (by omega) (by omega)]
            unfold fX7_cook_108
            refine bn_i (a := -6) (by rw [← k12]; exact of_i (k := 12) (by omega) (by omega)) (if_ni (by decide) (bn_i (o11.trans (by rw [h])) ?_))
            rw [p3idx]
            refine gd_i (ix_nI (n := 3592) (by omega) (by decide)) ?_
            rw [nI_clamp (by omega)]
            refine lt_i (bn_i (lay_i (k := 11) (-6) (by omega) (by omega)) (bn_i (lay_i (k := 13) 5 (by omega) (by omega)) ?_))
            rw [← f3]
            exact hr
          have cl2 : ∀ r, (if nI ab ≤ 0 then fX1_shareKitchens_6 a n C3 (nI v1) (nI v2) (nI (q + 1)) else bn2 (fX5_givePoints C3 a (a + 18 + 3 * c) (nI ab)) fun r24 M25 => fX1_shareKitchens_6 a n M25 (nI v1) (nI v2) (nI (q + 1))) = r → fX1_shareKitchens_6 a (n + 1) C (nI v1) (nI v2) (nI q) = r := fun r hr => cl r (by
            refine lt_i ?_
            rw [nI_add]
            refine if_ni (nI_ge (by omega) (by omega)) (bn_i un ?_)
            rw [← e3]
            refine lt_i ?_
            rw [c37]
            exact hr)
          by_cases z : ab = 0
          · obtain ⟨C', D', q1, q2, q3⟩ := next v1 v2 C3 D3 l1 l2 S3 (by rw [c3a]; exact c14) c37' d3w (by rw [d3m]; exact k1) (by rw [d3m]; exact k2) fc3 fd3 fk3
            refine ⟨C', D', cl2 _ ?_, ml _ (bn_i (m8 _ ?_) q2), q3⟩
            · rw [z]; exact if_pi (by decide) q1
            · rw [d37, z]; exact if_pi (by decide) rfl
          · obtain ⟨C4, D4, s, hs, x1, x2, -, S4, y1, y2, ⟨y3, y4⟩, y5, y6⟩ := z_give S3 hc hab
            have kd4 : Kd D3 D4 := fun i hi => y6 i 10 hi (by omega) (by omega) (by omega)
            obtain ⟨C', D', q1, q2, q3⟩ := next v1 v2 C4 D4 l1 l2 S4 (by rw [y3, c3a]; exact c14) (y4.trans c37') (fun i t hi ht => by rw [y6 i t hi (by omega) (by omega) (by omega)]; exact d3w i t hi ht) (by rw [y5, d3m]; exact k1) (by rw [y5, d3m]; exact k2) (fc3.tr y1) (fd3.tr y2) (fk3.tr kd4)
            refine ⟨C', D', cl2 _ ?_, ml _ (bn_i (m8 _ ?_) q2), q3⟩
            · exact if_ni (nI_nle (by omega) (by omega)) (bn2_i x1 q1)
            · rw [d37]; exact if_ni (nI_nle (by omega) (by omega)) (bn_i x2 rfl)
theorem okU_all {C : mm_M} {a : Nat} {w : Nat → Int32} {P K W T : Nat} {N tv : Nat → Nat} (S : Sim (okU tv) C a w P K W T N) (h : ∀ i, i < K → tv i = 0) : Sim okA C a w P K W T N := by
  refine ⟨S.bd, fun o k j hl => S.eq o k j ?_, S.sum, S.val⟩
  rcases hl with g | g | g | g | g | ⟨i, hi, g1, g2, go, g3⟩ | g | g
  · exact Or.inl g
  · exact Or.inr (Or.inl g)
  · exact Or.inr (Or.inr (Or.inl g))
  · exact Or.inr (Or.inr (Or.inr (Or.inl g)))
  · exact Or.inr (Or.inr (Or.inr (Or.inr (Or.inl g))))
  · exact Or.inr (Or.inr (Or.inr (Or.inr (Or.inr (Or.inl ⟨i, hi, g1, g2, fun _ => h i hi, g3⟩)))))
  · exact Or.inr (Or.inr (Or.inr (Or.inr (Or.inr (Or.inr (Or.inl g))))))
  · exact Or.inr (Or.inr (Or.inr (Or.inr (Or.inr (Or.inr (Or.inr g))))))
theorem z_kit {C D : mm_M} {a P K W T p : Nat} {N tv ord : Nat → Nat} (d : Dr C a (D.1 732) P K W T N tv ord p) (h0 : ∀ i, i < K → tv i = 0) : ∃ C' D', fX1_shareKitchens C a = some C' ∧ fX7_cookAll D = some D' ∧ Sim okA C' a (D'.1 732) P K W T N ∧ Od (D'.1 732) K ord p ∧ FrC C C' a ∧ FrD D D' ∧ Kd D D' := by
  obtain ⟨S, d2, d3, d4, d5, d6, d7, d8⟩ := d
  have lK := S.bd.lK
  have O : Od (D.1 732) K ord p := ⟨fun q hq => ⟨(d6 q hq).1, (d6 q hq).2.1⟩, fun i hi => d5 i hi (h0 i hi), by omega⟩
  obtain ⟨D2, f2⟩ : ∃ X, X = sI (sI D 731 8 0) 731 9 0 := ⟨_, rfl⟩
  have r732 : D2.1 732 = D.1 732 := by rw [f2, sI_ap1, if_neg (by omega), sI_ap1, if_neg (by omega)]
  have O2 : Od (D2.1 732) K ord p := by rw [r732]; exact O
  have S2 : Sim okA C a (D2.1 732) P K W T N := by rw [r732]; exact okU_all S h0
  obtain ⟨C', D', e1, e2, e3, e4, e5, e6, e7⟩ := z_kitl p 0 FU FU 0 0 C D2 (by omega) (by unfold FU; omega) (by unfold FU; omega) ⟨S2, O2, d3, fun x hx => (d6 x hx).2.2, fun x _ hx => by rw [r732]; exact d7 _ (d6 x hx).1, ⟨by rw [f2, sI_ap1, if_pos rfl, msk_0]; exact (if_neg (by omega)).trans (by rw [sI_ap1, if_pos rfl]; exact if_pos rfl), by omega⟩, ⟨by rw [f2, sI_ap1, if_pos rfl, msk_0]; exact if_pos rfl, by omega⟩⟩
  refine ⟨C', D', e1, ?_, e3, e4, e5, FrD.tr (by rw [f2]; exact (FrD.s8 (by omega)).tr (FrD.s8 (by omega))) e6, Kd.tr (by rw [f2]; exact (Kd.n (by omega)).tr (Kd.n (by omega))) e7⟩
  unfold fX7_cookAll
  refine lt_i ?_
  refine lt_i ?_
  rw [← f2]
  exact bn_i (m_dat O2 lK S2.wK (Nat.zero_le _)) e2
