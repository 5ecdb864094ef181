/-! SIM: a day: swaps -/
theorem Ok_15 {P K W T : Nat} {N : Nat → Nat} {v : Int32} : Ok P K W T N 15 v := by
  refine ⟨?_, ?_, ?_, ?_, ?_, ?_, ?_, ?_, ?_, ?_, ?_, ?_, ?_, ?_, ?_, ?_, ?_, ?_, ?_, ?_⟩ <;> intros <;> omega
theorem z_noW {C : mm_M} {a : Nat} {w : Nat → Int32} {P K W T : Nat} {N : Nat → Nat} (S : Sim okA C a w P K W T N) : Sim okA (sI C a 4 0) a (up w 14 0) P K 0 T N := by
  have S1 := S.up (Or.inl ⟨rfl, (by omega : 4 < 6), rfl⟩) (v := nI W) Ok_14
  have lP := S.bd.lP
  have lK := S.bd.lK
  have lN := S.bd.lN
  have c1 : ∀ o k, (o ≠ a ∨ k ≠ 4) → (sI C a 4 0).1 o k = C.1 o k := fun o k h => by
    rw [sI_ap1]
    by_cases e : o = a
    · subst e
      rw [if_pos rfl]
      exact if_neg (by omega)
    · rw [if_neg e]
  refine ⟨⟨lP, lK, by omega, S.bd.lT, lN⟩, fun o k j h => ?_, fun i hi k hk => ?_, fun j => ?_⟩
  · rcases h with ⟨g1, g2, g3⟩ | ⟨g1, g2, g3⟩ | ⟨g1, g2, g3⟩ | ⟨g1, g2, g3⟩ | ⟨i, hi, g1, g2, g3⟩ | ⟨i, hi, g1, g2, go, g3⟩ | ⟨i, hi, g1, g2, g3⟩ | ⟨i, hi, g1, g2, g3⟩
    · by_cases e : k = 4
      · subst e
        subst g1
        subst g3
        rw [sI_ap1, if_pos rfl]
        exact (if_pos rfl).trans (up_eq _ _ _).symm
      · rw [c1 o k (by omega), up_ne (by omega)]
        exact S.eq o k j (Or.inl ⟨g1, g2, g3⟩)
    · rw [c1 o k (by omega), up_ne (by omega)]
      exact S.eq o k j (Or.inr (Or.inl ⟨g1, g2, g3⟩))
    · omega
    · omega
    · rw [c1 o k (by omega), up_ne (by omega)]
      exact S.eq o k j (Or.inr (Or.inr (Or.inr (Or.inr (Or.inl ⟨i, hi, g1, g2, g3⟩)))))
    · have := sf_lt k g2
      rw [c1 o k (by omega), up_ne (by omega)]
      exact S.eq o k j (Or.inr (Or.inr (Or.inr (Or.inr (Or.inr (Or.inl ⟨i, hi, g1, g2, go, g3⟩))))))
    · rw [c1 o k (by omega), up_ne (by omega)]
      exact S.eq o k j (Or.inr (Or.inr (Or.inr (Or.inr (Or.inr (Or.inr (Or.inl ⟨i, hi, g1, g2, g3⟩)))))))
    · rw [c1 o k (by omega), up_ne (by omega)]
      exact S.eq o k j (Or.inr (Or.inr (Or.inr (Or.inr (Or.inr (Or.inr (Or.inr ⟨i, hi, g1, g2, g3⟩)))))))
  · rw [up_ne (by omega)]; exact S.sum i hi k hk
  · have h := S.val j
    by_cases e : j = 14
    · subst e
      rw [up_eq]
      exact Ok_14
    · rw [up_ne e]
      exact ⟨h.rng, h.r0, h.r2, h.r5, h.r8, h.day, h.sd, h.nP, h.nK, fun q => absurd q e, fun i hi => by omega, h.pn, h.hrs, h.wc, h.wp, h.los, h.wai, h.at_, h.rnt, h.pts⟩
theorem z_hasP {ok : Nat → Nat → Prop} {C : mm_M} {a : Nat} {w : Nat → Int32} {P K W T : Nat} {N : Nat → Nat} (S : Sim ok C a w P K W T N) {x : Int32} (h : nn x P) : fX5_hasPitch C a x = some (decide (¬ x = -6)) := by
  have lP := S.bd.lP
  rcases h with h | ⟨p, hp, h⟩
  · subst h
    rcases S.hasPitch (-6) with ⟨i, hi, e, z⟩ | ⟨-, z⟩
    · exact absurd (show nI i < 0 by rw [← e]; decide) (nI_pos (by omega))
    · rw [z]; rfl
  · subst h
    have hn : ¬ nI p = -6 := fun q => nI_pos (n := p) (by omega) (by rw [q]; decide)
    rcases S.hasPitch (nI p) with ⟨i, hi, e, z⟩ | ⟨z, -⟩
    · rw [z, decide_eq_true hn]
    · exact absurd rfl (z p hp)
theorem z_hasC {ok : Nat → Nat → Prop} {C : mm_M} {a : Nat} {w : Nat → Int32} {P K W T : Nat} {N : Nat → Nat} (S : Sim ok C a w P K W T N) {c : Nat} (hc : c < K) : fX5_hasCart C a (nI c) = some true := by
  rcases S.hasCart (nI c) with ⟨i, hi, e, h⟩ | ⟨h, -⟩
  · exact h
  · exact absurd rfl (h c hc)
def Kw (D D' : mm_M) : Prop := ∀ i t, i < 16 → t < 20 → t ≠ 11 → t ≠ 18 → D'.1 732 (72 + 20 * i + t) = D.1 732 (72 + 20 * i + t)
theorem Kw.rf (D : mm_M) : Kw D D := fun _ _ _ _ _ _ => rfl
theorem Kw.tr {D D1 D2 : mm_M} (h1 : Kw D D1) (h2 : Kw D1 D2) : Kw D D2 := fun i t a b c d => (h2 i t a b c d).trans (h1 i t a b c d)
theorem Kw.w {D : mm_M} {j s : Nat} {v : Int32} (h : s = 11 ∨ s = 18) : Kw D (sI D 732 (72 + 20 * j + s) v) := fun i t h1 h2 h3 h4 => by rw [sI_row, up_ne (by omega)]
theorem Kw.o {D : mm_M} {s : Nat} {v : Int32} (h : s < 72) : Kw D (sI D 732 s v) := fun i t h1 h2 h3 h4 => by rw [sI_row, up_ne (by omega)]
set_option maxHeartbeats 4000000 in
theorem z_swl {a P K W T : Nat} {N : Nat → Nat} : ∀ (d i n n' : Nat) (C D : mm_M), i + d = W → d < n → d < n' → Sim okA C a (D.1 732) P K W T N → ∃ C' D', fX1_makeSwaps_2 a n C (nI i) = some C' ∧ fX7_swapAll_2 n' D (nI i) = some D' ∧ Sim okA C' a (D'.1 732) P K 0 T N ∧ FrC C C' a ∧ FrD D D' ∧ Kw D D' := by
  intro d
  induction d with
  | zero =>
    intro i n n' C D hi hn hn' S
    obtain ⟨n, rfl⟩ : ∃ q, n = q + 1 := ⟨n - 1, by omega⟩
    obtain ⟨n', rfl⟩ : ∃ q, n' = q + 1 := ⟨n' - 1, by omega⟩
    have lW := S.bd.lW
    refine ⟨sI C a 4 0, sI D 732 14 0, ?_, ?_, ?_, FrC.w (by omega), FrD.w, Kw.o (by omega)⟩
    · rw [fX1_makeSwaps_2, S.cW]
      exact if_pi (nI_le (by omega) (by omega)) rfl
    · rw [fX7_swapAll_2, S.wW]
      exact if_pi (nI_le (by omega) (by omega)) rfl
    · rw [sI_row]
      exact z_noW S
  | succ d ih =>
    intro i n n' C D hi hn hn' S
    obtain ⟨n, rfl⟩ : ∃ q, n = q + 1 := ⟨n - 1, by omega⟩
    obtain ⟨n', rfl⟩ : ∃ q, n' = q + 1 := ⟨n' - 1, by omega⟩
    have lW := S.bd.lW
    have lP := S.bd.lP
    have lK := S.bd.lK
    have hW : i < W := by omega
    obtain ⟨x, hx, ex⟩ := (S.val (16 + 2 * i)).swp i hW (Or.inl rfl)
    obtain ⟨y, hy, ey⟩ := (S.val (17 + 2 * i)).swp i hW (Or.inr rfl)
    have cx : C.1 (a + 4) i = nI x := (S.eq (a + 4) i (16 + 2 * i) (Or.inr (Or.inr (Or.inl ⟨rfl, hW, rfl⟩)))).trans ex
    have cy : C.1 (a + 5) i = nI y := (S.eq (a + 5) i (17 + 2 * i) (Or.inr (Or.inr (Or.inr (Or.inl ⟨rfl, hW, rfl⟩))))).trans ey
    have ax := (S.val (72 + 20 * x + 11)).at_ x hx rfl
    have ay := (S.val (72 + 20 * y + 11)).at_ y hy rfl
    have px : C.1 (a + 18 + 3 * x) 8 = D.1 732 (72 + 20 * x + 11) := S_cart S hx (k := 8) (by omega)
    have py : C.1 (a + 18 + 3 * y) 8 = D.1 732 (72 + 20 * y + 11) := S_cart S hy (k := 8) (by omega)
    have hcx := z_hasC S hx
    have hcy := z_hasC S hy
    have e1 : 16 + 2 * nI i = nI (16 + 2 * i) := by
      rw [Int32.add_comm, show (16 : Int32) = nI 16 from rfl, show (2 : Int32) = nI 2 from rfl, mulI, Nat.add_comm]
    have cl : ∀ r, (bn2 (fX1_exchange C a (nI x) (nI y)) fun r7 M8 =>
      if r7 = true then
        lt (sL M8 (a + 18 + 3 * x) 15 ((M8.2 (a + 18 + 3 * x) 15) + ((M8.1 (a + 1) 9).toInt64))) fun M12 =>
        lt (sL M12 (a + 18 + 3 * y) 15 ((M12.2 (a + 18 + 3 * y) 15) + ((M12.1 (a + 1) 9).toInt64))) fun M14 =>
        lt (sI M14 a 5 ((M14.1 a 5) + 1)) fun M15 =>
        lt (nI (i + 1)) fun y16 =>
        fX1_makeSwaps_2 a n M15 y16
      else
        lt (nI (i + 1)) fun y10 =>
        fX1_makeSwaps_2 a n M8 y10) = r → fX1_makeSwaps_2 a (n + 1) C (nI i) = r := fun r hr => by
      rw [fX1_makeSwaps_2, S.cW]
      refine if_ni (nI_ge hW (by omega)) (gd_i (ix_nI (n := 8) (by omega) (by decide)) ?_)
      rw [nI_clamp (by omega), cx, cy, nI_1]
      refine lt_i (lt_i ?_)
      cases hE : fX1_exchange C a (nI x) (nI y) with
      | none => rw [hE] at hr; exact hr
      | some q =>
        rw [hE] at hr
        refine Eq.trans ?_ hr
        show (if q.1 = true then _ else _) = (if q.1 = true then _ else _)
        by_cases z : q.1 = true
        · rw [if_pos z, if_pos z]
          refine gd_i (ix_nI (n := 16) (by omega) (by decide)) ?_
          rw [nI_clamp (by omega)]
          refine lt_i ?_
          refine gd_i (ix_nI (n := 16) (by omega) (by decide)) ?_
          rw [nI_clamp (by omega)]
          rfl
        · rw [if_neg z, if_neg z]
    have ml : ∀ r, (if D.1 732 (72 + 20 * x + 11) < 0 then fX7_swapAll_2 n' D (nI (i + 1)) else if D.1 732 (72 + 20 * y + 11) < 0 then fX7_swapAll_2 n' D (nI (i + 1)) else
          bn (fX7_put D (nI x) (D.1 732 (72 + 20 * y + 11))) fun M16 =>
          bn (fX7_put M16 (nI y) (D.1 732 (72 + 20 * x + 11))) fun M18 =>
          bn (fX7_isApart M18 (nI x) (D.1 732 (72 + 20 * y + 11))) fun r20 =>
          if r20 = true then
            bn (fX7_isApart M18 (nI y) (D.1 732 (72 + 20 * x + 11))) fun r23 =>
            if r23 = true then
              fX7_swapAll_106 (fX7_swapAll_2 n') M18 (nI i) (nI x) (nI y) (D.1 732 (72 + 20 * x + 11)) (D.1 732 (72 + 20 * y + 11)) true
            else
              fX7_swapAll_105 (fX7_swapAll_2 n') M18 (nI i) (nI x) (nI y) (D.1 732 (72 + 20 * x + 11)) (D.1 732 (72 + 20 * y + 11))
          else
            fX7_swapAll_105 (fX7_swapAll_2 n') M18 (nI i) (nI x) (nI y) (D.1 732 (72 + 20 * x + 11)) (D.1 732 (72 + 20 * y + 11))) = r → fX7_swapAll_2 (n' + 1) D (nI i) = r := fun r hr => by
      rw [fX7_swapAll_2, S.wW]
      refine if_ni (nI_ge hW (by omega)) ?_
      rw [e1, nI_1]
      refine gd_i (ix_nI (n := 3592) (by omega) (by decide)) ?_
      rw [nI_clamp (by omega), ex]
      refine lt_i (gd_i (ix_nI (n := 3592) (by omega) (by decide)) ?_)
      rw [nI_clamp (by omega), show 16 + 2 * i + 1 = 17 + 2 * i by omega, ey]
      refine lt_i (bn_i (of_i (k := 11) (by omega) (by omega)) (bn_i (of_i (k := 11) (by omega) (by omega)) ?_))
      rw [nI_1]
      exact hr
    have hPx := z_hasP S ax
    have hPy := z_hasP S ay
    have xl : ∀ r, (if ¬ D.1 732 (72 + 20 * x + 11) = -6 then (if ¬ D.1 732 (72 + 20 * y + 11) = -6 then
          bn (fX5_seat C a (nI x) (D.1 732 (72 + 20 * y + 11))) fun M18 =>
          bn (fX5_seat M18 a (nI y) (D.1 732 (72 + 20 * x + 11))) fun M20 =>
          bn (fX5_sameKindBeside M20 a (nI x) (D.1 732 (72 + 20 * y + 11))) fun r22 =>
          if r22 = true then
            fX1_exchange_90 a (nI x) (nI y) M20 (D.1 732 (72 + 20 * x + 11)) (D.1 732 (72 + 20 * y + 11))
          else
            bn (fX5_sameKindBeside M20 a (nI y) (D.1 732 (72 + 20 * x + 11))) fun r25 =>
            if r25 = true then
              fX1_exchange_90 a (nI x) (nI y) M20 (D.1 732 (72 + 20 * x + 11)) (D.1 732 (72 + 20 * y + 11))
            else
              some (true, M20) else some (false, C)) else some (false, C)) = r → fX1_exchange C a (nI x) (nI y) = r := fun r hr => by
      unfold fX1_exchange
      refine bn_i hcx (if_pi rfl (bn_i hcy (if_pi rfl (gd_i (ix_nI (n := 16) (by omega) (by decide)) ?_))))
      rw [nI_clamp (by omega), px]
      refine lt_i (gd_i (ix_nI (n := 16) (by omega) (by decide)) ?_)
      rw [nI_clamp (by omega), py]
      refine lt_i (bn_i hPx ?_)
      by_cases z : D.1 732 (72 + 20 * x + 11) = -6
      · rw [if_neg (fun q => q z)] at hr
        rw [decide_eq_false (fun q => q z)]
        exact if_ni (by decide) hr
      · rw [if_pos z] at hr
        rw [decide_eq_true z]
        refine if_pi rfl (bn_i hPy ?_)
        by_cases z2 : D.1 732 (72 + 20 * y + 11) = -6
        · rw [if_neg (fun q => q z2)] at hr
          rw [decide_eq_false (fun q => q z2)]
          exact if_ni (by decide) hr
        · rw [if_pos z2] at hr
          rw [decide_eq_true z2]
          exact if_pi rfl hr
    rcases ax with h1 | ⟨p1, hp1, h1⟩
    · obtain ⟨C', D', q1, q2, q3⟩ := ih (i + 1) n n' C D (by omega) (by omega) (by omega) S
      refine ⟨C', D', cl _ (bn2_i (a := false) (b := C) (xl _ ?_) (if_ni (by decide) (lt_i q1))), ml _ ?_, q3⟩
      · rw [if_neg (fun q => q h1)]
      · rw [if_pos (by rw [h1]; decide)]; exact q2
    · have n1 : ¬ nI p1 < 0 := nI_pos (by omega)
      have m1 : ¬ nI p1 = -6 := fun q => n1 (by rw [q]; decide)
      rcases ay with h2 | ⟨p2, hp2, h2⟩
      · obtain ⟨C', D', q1, q2, q3⟩ := ih (i + 1) n n' C D (by omega) (by omega) (by omega) S
        refine ⟨C', D', cl _ (bn2_i (a := false) (b := C) (xl _ ?_) (if_ni (by decide) (lt_i q1))), ml _ ?_, q3⟩
        · rw [h1, if_pos m1, if_neg (fun q => q h2)]
        · rw [h1, if_neg n1, if_pos (by rw [h2]; decide)]; exact q2
      · have n2 : ¬ nI p2 < 0 := nI_pos (by omega)
        have m2 : ¬ nI p2 = -6 := fun q => n2 (by rw [q]; decide)
        rw [h1, h2, if_pos m1, if_pos m2] at xl
        rw [h1, h2, if_neg n1, if_neg n2] at ml
        obtain ⟨C1, g1⟩ : ∃ X, X = sI (sI C (a + 8 + p2) 3 (nI x)) (a + 18 + 3 * x) 8 (nI p2) := ⟨_, rfl⟩
        obtain ⟨D1, f1⟩ : ∃ X, X = sI (sI D 732 (72 + 20 * x + 11) (nI p2)) 732 (32 + 4 * p2 + 3) (nI x) := ⟨_, rfl⟩
        have s1 : fX5_seat C a (nI x) (nI p2) = some C1 := by rw [g1]; exact q_seat S hx hp2
        have t1 : fX7_put D (nI x) (nI p2) = some D1 := by rw [f1]; exact m_putP (by omega) (by omega)
        have S1 : Sim okA C1 a (D1.1 732) P K W T N := by rw [g1, f1, sI_row, sI_row]; exact z_seat S hx hp2 trivial
        obtain ⟨C2, g2⟩ : ∃ X, X = sI (sI C1 (a + 8 + p1) 3 (nI y)) (a + 18 + 3 * y) 8 (nI p1) := ⟨_, rfl⟩
        obtain ⟨D2, f2⟩ : ∃ X, X = sI (sI D1 732 (72 + 20 * y + 11) (nI p1)) 732 (32 + 4 * p1 + 3) (nI y) := ⟨_, rfl⟩
        have s2 : fX5_seat C1 a (nI y) (nI p1) = some C2 := by rw [g2]; exact q_seat S1 hy hp1
        have t2 : fX7_put D1 (nI y) (nI p1) = some D2 := by rw [f2]; exact m_putP (by omega) (by omega)
        have S2 : Sim okA C2 a (D2.1 732) P K W T N := by rw [g2, f2, sI_row, sI_row]; exact z_seat S1 hy hp1 trivial
        have fc2 : FrC C C2 a := by rw [g2, g1]; exact (((FrC.w (by omega)).tr (FrC.w (by omega))).tr (FrC.w (by omega))).tr (FrC.w (by omega))
        have fd2 : FrD D D2 := by rw [f2, f1]; exact ((FrD.w.tr FrD.w).tr FrD.w).tr FrD.w
        have kw2 : Kw D D2 := by rw [f2, f1]; exact (((Kw.w (by omega)).tr (Kw.o (by omega))).tr (Kw.w (by omega))).tr (Kw.o (by omega))
        obtain ⟨b1, u1, v1⟩ := z_beside S2 okA_0 hx hp2
        obtain ⟨b2, u2, v2⟩ := z_beside S2 okA_0 hy hp1
        obtain ⟨C3, g3⟩ : ∃ X, X = sI (sI C2 (a + 8 + p1) 3 (nI x)) (a + 18 + 3 * x) 8 (nI p1) := ⟨_, rfl⟩
        obtain ⟨D3, f3⟩ : ∃ X, X = sI (sI D2 732 (72 + 20 * x + 11) (nI p1)) 732 (32 + 4 * p1 + 3) (nI x) := ⟨_, rfl⟩
        have s3 : fX5_seat C2 a (nI x) (nI p1) = some C3 := by rw [g3]; exact q_seat S2 hx hp1
        have t3 : fX7_put D2 (nI x) (nI p1) = some D3 := by rw [f3]; exact m_putP (by omega) (by omega)
        have S3 : Sim okA C3 a (D3.1 732) P K W T N := by rw [g3, f3, sI_row, sI_row]; exact z_seat S2 hx hp1 trivial
        obtain ⟨C4, g4⟩ : ∃ X, X = sI (sI C3 (a + 8 + p2) 3 (nI y)) (a + 18 + 3 * y) 8 (nI p2) := ⟨_, rfl⟩
        obtain ⟨D4, f4⟩ : ∃ X, X = sI (sI D3 732 (72 + 20 * y + 11) (nI p2)) 732 (32 + 4 * p2 + 3) (nI y) := ⟨_, rfl⟩
        have s4 : fX5_seat C3 a (nI y) (nI p2) = some C4 := by rw [g4]; exact q_seat S3 hy hp2
        have t4 : fX7_put D3 (nI y) (nI p2) = some D4 := by rw [f4]; exact m_putP (by omega) (by omega)
        have S4 : Sim okA C4 a (D4.1 732) P K W T N := by rw [g4, f4, sI_row, sI_row]; exact z_seat S3 hy hp2 trivial
        have fc4 : FrC C2 C4 a := by rw [g4, g3]; exact (((FrC.w (by omega)).tr (FrC.w (by omega))).tr (FrC.w (by omega))).tr (FrC.w (by omega))
        have fd4 : FrD D2 D4 := by rw [f4, f3]; exact ((FrD.w.tr FrD.w).tr FrD.w).tr FrD.w
        have kw4 : Kw D2 D4 := by rw [f4, f3]; exact (((Kw.w (by omega)).tr (Kw.o (by omega))).tr (Kw.w (by omega))).tr (Kw.o (by omega))
        have e90 : fX1_exchange_90 a (nI x) (nI y) C2 (nI p1) (nI p2) = some (false, C4) := bn_i s3 (bn_i s4 rfl)
        obtain ⟨C', D', q1, q2, q3, q4, q5, q6⟩ := ih (i + 1) n n' C4 D4 (by omega) (by omega) (by omega) S4
        have e106 : fX7_swapAll_105 (fX7_swapAll_2 n') D2 (nI i) (nI x) (nI y) (nI p1) (nI p2) = some D' := by
          unfold fX7_swapAll_105 fX7_swapAll_106
          refine if_ni (by decide) (bn_i t3 (bn_i t4 (lt_i ?_)))
          rw [nI_1]; exact q2
        have bad : ∀ r7, fX1_exchange C a (nI x) (nI y) = some (false, C4) → fX7_swapAll_2 (n' + 1) D (nI i) = some D' → r7 = true → ∃ C' D', fX1_makeSwaps_2 a (n + 1) C (nI i) = some C' ∧ fX7_swapAll_2 (n' + 1) D (nI i) = some D' ∧ Sim okA C' a (D'.1 732) P K 0 T N ∧ FrC C C' a ∧ FrD D D' ∧ Kw D D' := fun r7 z1 z2 _ =>
          ⟨C', D', cl _ (bn2_i z1 (if_ni (by decide) (lt_i q1))), z2, q3, (fc2.tr fc4).tr q4, (fd2.tr fd4).tr q5, (kw2.tr kw4).tr q6⟩
        cases b1
        · cases b2
          · obtain ⟨sw, esw⟩ : ∃ sw, sw = D2.1 732 9 := ⟨_, rfl⟩
            have c9 : C2.1 (a + 1) 9 = sw := by rw [esw]; exact S2.eq (a + 1) 9 9 (Or.inr (Or.inl ⟨rfl, by omega, rfl⟩))
            obtain ⟨vx, evx⟩ : ∃ v, v = C2.2 (a + 18 + 3 * x) 15 + sw.toInt64 := ⟨_, rfl⟩
            obtain ⟨C5, g5⟩ : ∃ X, X = sL C2 (a + 18 + 3 * x) 15 vx := ⟨_, rfl⟩
            obtain ⟨D5, f5⟩ : ∃ X, X = sI D2 732 (72 + 20 * x + 18) (D2.1 732 (72 + 20 * x + 18) + sw) := ⟨_, rfl⟩
            have S5 : Sim okA C5 a (D5.1 732) P K W T N := by
              have hv : vx.toInt32 = D2.1 732 (72 + 20 * x + 18) + sw := by
                rw [evx, Int64.toInt32_add, Int32.toInt32_toInt64, show (C2.2 (a + 18 + 3 * x) 15).toInt32 = D2.1 732 (72 + 20 * x + 18) from S2.sum x hx 3 (by omega)]
              rw [g5, f5, sI_row, ← hv]
              exact z_upL S2 hx (k := 3) (by omega) vx
            have d59 : D5.1 732 9 = sw := by rw [f5, sI_row, up_ne (by omega), esw]
            have c59 : C5.1 (a + 1) 9 = sw := by rw [g5]; exact c9
            obtain ⟨vy, evy⟩ : ∃ v, v = C5.2 (a + 18 + 3 * y) 15 + sw.toInt64 := ⟨_, rfl⟩
            obtain ⟨C6, g6⟩ : ∃ X, X = sL C5 (a + 18 + 3 * y) 15 vy := ⟨_, rfl⟩
            obtain ⟨D6, f6⟩ : ∃ X, X = sI D5 732 (72 + 20 * y + 18) (D5.1 732 (72 + 20 * y + 18) + sw) := ⟨_, rfl⟩
            have S6 : Sim okA C6 a (D6.1 732) P K W T N := by
              have hv : vy.toInt32 = D5.1 732 (72 + 20 * y + 18) + sw := by
                rw [evy, Int64.toInt32_add, Int32.toInt32_toInt64, show (C5.2 (a + 18 + 3 * y) 15).toInt32 = D5.1 732 (72 + 20 * y + 18) from S5.sum y hy 3 (by omega)]
              rw [g6, f6, sI_row, ← hv]
              exact z_upL S5 hy (k := 3) (by omega) vy
            obtain ⟨z, ez⟩ : ∃ z, z = D6.1 732 15 := ⟨_, rfl⟩
            have c65 : C6.1 a 5 = z := by rw [ez]; exact S6.hd (k := 5) (by omega)
            obtain ⟨C7, g7⟩ : ∃ X, X = sI C6 a 5 (z + 1) := ⟨_, rfl⟩
            obtain ⟨D7, f7⟩ : ∃ X, X = sI D6 732 15 (z + 1) := ⟨_, rfl⟩
            have S7 : Sim okA C7 a (D7.1 732) P K W T N := by
              rw [g7, f7, sI_row]
              exact S6.up (Or.inl ⟨rfl, (by omega : 5 < 6), rfl⟩) Ok_15
            obtain ⟨C', D', r1, r2, r3, r4, r5, r6⟩ := ih (i + 1) n n' C7 D7 (by omega) (by omega) (by omega) S7
            have fc7 : FrC C2 C7 a := by rw [g7, g6, g5]; exact ((FrC.wl (by omega)).tr (FrC.wl (by omega))).tr (FrC.w (by omega))
            have fd7 : FrD D2 D7 := by rw [f7, f6, f5]; exact (FrD.w.tr FrD.w).tr FrD.w
            have kw7 : Kw D2 D7 := by rw [f7, f6, f5]; exact ((Kw.w (by omega)).tr (Kw.w (by omega))).tr (Kw.o (by omega))
            refine ⟨C', D', cl _ (bn2_i (a := true) (b := C2) (xl _ (bn_i s1 (bn_i s2 (bn_i u1 (if_ni (by decide) (bn_i u2 (if_ni (by decide) rfl))))))) (if_pi rfl ?_)), ml _ (bn_i t1 (bn_i t2 (bn_i v1 (if_pi rfl (bn_i v2 (if_pi rfl ?_)))))), r3, (fc2.tr fc7).tr r4, (fd2.tr fd7).tr r5, (kw2.tr kw7).tr r6⟩
            · rw [c9, ← evx, ← g5]
              refine lt_i ?_
              rw [c59, ← evy, ← g6]
              refine lt_i ?_
              rw [c65, ← g7]
              exact lt_i (lt_i r1)
            · refine if_pi rfl (bn_i (of_i (k := 18) (by omega) (by omega)) ?_)
              rw [← esw]
              refine bn_i (lay_i (k := 18) _ (by omega) (by omega)) ?_
              rw [← f5]
              refine bn_i (of_i (k := 18) (by omega) (by omega)) ?_
              rw [d59]
              refine bn_i (lay_i (k := 18) _ (by omega) (by omega)) ?_
              rw [← f6, ← ez, ← f7]
              refine lt_i (lt_i ?_)
              rw [nI_1]
              exact r2
          · exact bad true (xl _ (bn_i s1 (bn_i s2 (bn_i u1 (if_ni (by decide) (bn_i u2 (if_pi rfl e90))))))) (ml _ (bn_i t1 (bn_i t2 (bn_i v1 (if_pi rfl (bn_i v2 (if_ni (by decide) e106))))))) rfl
        · exact bad true (xl _ (bn_i s1 (bn_i s2 (bn_i u1 (if_pi rfl e90))))) (ml _ (bn_i t1 (bn_i t2 (bn_i v1 (if_ni (by decide) e106))))) rfl
theorem z_swaps {C D : mm_M} {a P K W T : Nat} {N : Nat → Nat} (S : Sim okA C a (D.1 732) P K W T N) : ∃ C' D', fX1_makeSwaps C a = some C' ∧ fX7_swapAll D = some D' ∧ Sim okA C' a (D'.1 732) P K 0 T N ∧ FrC C C' a ∧ FrD D D' ∧ Kw D D' := z_swl W 0 FU FU C D (by omega) (by have := S.bd.lW; unfold FU; omega) (by have := S.bd.lW; unfold FU; omega) S
