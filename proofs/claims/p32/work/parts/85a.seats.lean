/-! p32: seats, reasons and kitchens in a row, step by step -/
theorem n6 {n : Nat} (h : n < 2 ^ 31) : ¬ nI n = -6 := fun q => nI_pos h (by rw [q]; decide)
theorem n6' {n : Nat} (h : n < 2 ^ 31) : ¬ (-6 : Int32) = nI n := fun q => n6 h q.symm
abbrev Seat (w : Nat → Int32) (K P : Nat) : Prop := AtO w K P ∧ PcO w K P ∧ Apt w K P
/-- the slots that seats speak of -/
def SC (j : Nat) : Prop := (32 ≤ j ∧ j < 72 ∧ j % 4 = 3) ∨ (72 ≤ j ∧ j < 392 ∧ (j % 20 = 12 ∨ j % 20 = 3))
theorem Seat.congr {w w' : Nat → Int32} {K P : Nat} (h : Seat w K P) (hK : K ≤ 16) (hP : P ≤ 10) (e : ∀ j, SC j → w' j = w j) : Seat w' K P := by
  obtain ⟨h1, h2, h3⟩ := h
  have ep : ∀ p, p < P → w' (32 + 4 * p + 3) = w (32 + 4 * p + 3) := fun p hp => e _ (by unfold SC; omega)
  have e0 : ∀ c, c < K → w' (72 + 20 * c) = w (72 + 20 * c) := fun c hc => e _ (by unfold SC; omega)
  have e11 : ∀ c, c < K → w' (72 + 20 * c + 11) = w (72 + 20 * c + 11) := fun c hc => e _ (by unfold SC; omega)
  refine ⟨fun c hc => ?_, fun p hp => ?_, fun p c d hp hc hd a b => ?_⟩
  · rw [e11 c hc]
    rcases h1 c hc with q | ⟨p, hp, q1, q2⟩
    · exact Or.inl q
    · exact Or.inr ⟨p, hp, q1, by rw [ep p hp]; exact q2⟩
  · rw [ep p hp]
    rcases h2 p hp with q | ⟨c, hc, q1, q2⟩
    · exact Or.inl q
    · exact Or.inr ⟨c, hc, q1, by rw [e11 c hc]; exact q2⟩
  · rw [ep p (by omega)] at a
    rw [ep (p + 1) (by omega)] at b
    rw [e0 c hc, e0 d hd]
    exact h3 p c d hp hc hd a b
/-- who sits on p says so -/
theorem PcO.at_ {w : Nat → Int32} {K P p c : Nat} (h : PcO w K P) (hK : K ≤ 16) (hp : p < P) (hc : c < K) (e : w (32 + 4 * p + 3) = nI c) : w (72 + 20 * c + 11) = nI p := by
  rcases h p hp with q | ⟨d, hd, q1, q2⟩
  · exact absurd (q.symm.trans e) (n6' (by omega))
  · have := (nI_eq (by omega) (by omega)).mp (q1.symm.trans e)
    subst this
    exact q2
/-- where c sits tells c -/
theorem AtO.pc {w : Nat → Int32} {K P p c : Nat} (h : AtO w K P) (hP : P ≤ 10) (hp : p < P) (hc : c < K) (e : w (72 + 20 * c + 11) = nI p) : w (32 + 4 * p + 3) = nI c := by
  rcases h c hc with q | ⟨d, hd, q1, q2⟩
  · exact absurd (q.symm.trans e) (n6' (by omega))
  · have := (nI_eq (by omega) (by omega)).mp (q1.symm.trans e)
    subst this
    exact q2
/-- who is free sits down -/
theorem Seat.put {w : Nat → Int32} {K P p c : Nat} (h : Seat w K P) (hK : K ≤ 16) (hP : P ≤ 10) (hc : c < K) (hp : p < P) (hc6 : w (72 + 20 * c + 11) = -6) (hp6 : w (32 + 4 * p + 3) = -6) (hf : Free w K P c p) : Seat (up (up w (72 + 20 * c + 11) (nI p)) (32 + 4 * p + 3) (nI c)) K P := by
  obtain ⟨h1, h2, h3⟩ := h
  obtain ⟨w', ew⟩ : ∃ X, X = up (up w (72 + 20 * c + 11) (nI p)) (32 + 4 * p + 3) (nI c) := ⟨_, rfl⟩
  have f11 : w' (72 + 20 * c + 11) = nI p := by rw [ew, up_ne (by omega), up_eq]
  have f3 : w' (32 + 4 * p + 3) = nI c := by rw [ew, up_eq]
  have fo : ∀ j, j ≠ 72 + 20 * c + 11 → j ≠ 32 + 4 * p + 3 → w' j = w j := fun j a b => by rw [ew, up_ne b, up_ne a]
  have fp : ∀ q, q ≠ p → w' (32 + 4 * q + 3) = w (32 + 4 * q + 3) ∨ 10 ≤ q := fun q hq => by
    by_cases z : 10 ≤ q
    · exact Or.inr z
    · exact Or.inl (fo _ (by omega) (by omega))
  rw [← ew]
  clear ew
  refine ⟨fun d hd => ?_, fun q hq => ?_, fun q d e hq hd he a b => ?_⟩
  · by_cases z : d = c
    · rw [z]; exact Or.inr ⟨p, hp, f11, f3⟩
    · rw [fo _ (by omega) (by omega)]
      rcases h1 d hd with y | ⟨q, hq, y1, y2⟩
      · exact Or.inl y
      · have hne : q ≠ p := fun x => by rw [x, hp6] at y2; exact n6' (by omega) y2
        exact Or.inr ⟨q, hq, y1, by rw [fo _ (by omega) (by omega)]; exact y2⟩
  · by_cases z : q = p
    · rw [z]; exact Or.inr ⟨c, hc, f3, f11⟩
    · rw [fo _ (by omega) (by omega)]
      rcases h2 q hq with y | ⟨d, hd, y1, y2⟩
      · exact Or.inl y
      · have hne : d ≠ c := fun x => by rw [x, hc6] at y2; exact n6' (by omega) y2
        exact Or.inr ⟨d, hd, y1, by rw [fo _ (by omega) (by omega)]; exact y2⟩
  · rw [fo _ (by omega) (by omega), fo _ (by omega) (by omega)]
    by_cases z : q = p
    · subst z
      rw [f3] at a
      have ed := (nI_eq (by omega) (by omega)).mp a
      subst ed
      rw [fo _ (by omega) (by omega)] at b
      have h11 := PcO.at_ h2 hK hq he b
      have hne : e ≠ c := fun x => by rw [x, hc6] at h11; exact n6' (by omega) h11
      exact fun x => hf (q + 1) hq (Or.inl rfl) e he b hne x.symm
    · by_cases z2 : q + 1 = p
      · subst z2
        rw [f3] at b
        have ed := (nI_eq (by omega) (by omega)).mp b
        subst ed
        rw [fo _ (by omega) (by omega)] at a
        have h11 := PcO.at_ h2 hK (show q < P by omega) hd a
        have hne : d ≠ c := fun x => by rw [x, hc6] at h11; exact n6' (by omega) h11
        exact hf q (by omega) (Or.inr rfl) d hd a hne
      · rw [fo _ (by omega) (by omega)] at a b
        exact h3 q d e hq hd he a b
/-- who sits gets up -/
theorem Seat.out {w : Nat → Int32} {K P p c : Nat} (h : Seat w K P) (hK : K ≤ 16) (hP : P ≤ 10) (hc : c < K) (hp : p < P) (hcp : w (72 + 20 * c + 11) = nI p) : Seat (up (up w (32 + 4 * p + 3) (-6)) (72 + 20 * c + 11) (-6)) K P := by
  obtain ⟨h1, h2, h3⟩ := h
  have hpc := AtO.pc h1 hP hp hc hcp
  obtain ⟨w', ew⟩ : ∃ X, X = up (up w (32 + 4 * p + 3) (-6)) (72 + 20 * c + 11) (-6) := ⟨_, rfl⟩
  have f11 : w' (72 + 20 * c + 11) = -6 := by rw [ew, up_eq]
  have f3 : w' (32 + 4 * p + 3) = -6 := by rw [ew, up_ne (by omega), up_eq]
  have fo : ∀ j, j ≠ 72 + 20 * c + 11 → j ≠ 32 + 4 * p + 3 → w' j = w j := fun j a b => by rw [ew, up_ne a, up_ne b]
  rw [← ew]
  clear ew
  refine ⟨fun d hd => ?_, fun q hq => ?_, fun q d e hq hd he a b => ?_⟩
  · by_cases z : d = c
    · rw [z]; exact Or.inl f11
    · rw [fo _ (by omega) (by omega)]
      rcases h1 d hd with y | ⟨q, hq, y1, y2⟩
      · exact Or.inl y
      · have hne : q ≠ p := fun x => by
          rw [x, hpc] at y2
          exact z ((nI_eq (by omega) (by omega)).mp y2).symm
        exact Or.inr ⟨q, hq, y1, by rw [fo _ (by omega) (by omega)]; exact y2⟩
  · by_cases z : q = p
    · rw [z]; exact Or.inl f3
    · rw [fo _ (by omega) (by omega)]
      rcases h2 q hq with y | ⟨d, hd, y1, y2⟩
      · exact Or.inl y
      · have hne : d ≠ c := fun x => by
          rw [x, hcp] at y2
          exact z ((nI_eq (by omega) (by omega)).mp y2).symm
        exact Or.inr ⟨d, hd, y1, by rw [fo _ (by omega) (by omega)]; exact y2⟩
  · rw [fo _ (by omega) (by omega), fo _ (by omega) (by omega)]
    by_cases z : q = p
    · rw [z, f3] at a
      exact absurd a (n6' (by omega))
    · by_cases z2 : q + 1 = p
      · rw [z2, f3] at b
        exact absurd b (n6' (by omega))
      · rw [fo _ (by omega) (by omega)] at a b
        exact h3 q d e hq hd he a b
/-- two carts exchange their pitches -/
def swW (w : Nat → Int32) (x y p1 p2 : Nat) : Nat → Int32 := up (up (up (up w (72 + 20 * x + 11) (nI p2)) (32 + 4 * p2 + 3) (nI x)) (72 + 20 * y + 11) (nI p1)) (32 + 4 * p1 + 3) (nI y)
theorem sw_back {w : Nat → Int32} {x y p1 p2 : Nat} (h1 : w (72 + 20 * x + 11) = nI p1) (h2 : w (72 + 20 * y + 11) = nI p2) (h3 : w (32 + 4 * p1 + 3) = nI x) (h4 : w (32 + 4 * p2 + 3) = nI y) : swW (swW w x y p1 p2) x y p2 p1 = w := by
  funext j
  unfold swW
  by_cases a : j = 32 + 4 * p2 + 3
  · rw [a, up_eq, h4]
  · rw [up_ne a]
    by_cases b : j = 72 + 20 * y + 11
    · rw [b, up_eq, h2]
    · rw [up_ne b]
      by_cases c : j = 32 + 4 * p1 + 3
      · rw [c, up_eq, h3]
      · rw [up_ne c]
        by_cases d : j = 72 + 20 * x + 11
        · rw [d, up_eq, h1]
        · rw [up_ne d, up_ne c, up_ne b, up_ne a, up_ne d]
theorem sw_o {w : Nat → Int32} {x y p1 p2 j : Nat} (a : j ≠ 72 + 20 * x + 11) (b : j ≠ 32 + 4 * p2 + 3) (c : j ≠ 72 + 20 * y + 11) (d : j ≠ 32 + 4 * p1 + 3) : swW w x y p1 p2 j = w j := by
  unfold swW
  rw [up_ne d, up_ne c, up_ne b, up_ne a]
theorem seat_sw {w : Nat → Int32} {K P x y p1 p2 : Nat} (h : Seat w K P) (hK : K ≤ 16) (hP : P ≤ 10) (hx : x < K) (hy : y < K) (hp1 : p1 < P) (hp2 : p2 < P) (e1 : w (72 + 20 * x + 11) = nI p1) (e2 : w (72 + 20 * y + 11) = nI p2) (f1 : Free (swW w x y p1 p2) K P x p2) (f2 : Free (swW w x y p1 p2) K P y p1) : Seat (swW w x y p1 p2) K P := by
  obtain ⟨h1, h2, h3⟩ := h
  have e3 := AtO.pc h1 hP hp1 hx e1
  have e4 := AtO.pc h1 hP hp2 hy e2
  by_cases hxy : x = y
  · subst hxy
    have hpp := (nI_eq (by omega) (by omega)).mp (e1.symm.trans e2)
    subst hpp
    have es : swW w x x p1 p1 = w := by
      funext j
      unfold swW
      by_cases a : j = 32 + 4 * p1 + 3
      · rw [a, up_eq, e3]
      · rw [up_ne a]
        by_cases b : j = 72 + 20 * x + 11
        · rw [b, up_eq, e1]
        · rw [up_ne b, up_ne a, up_ne b]
    rw [es]
    exact ⟨h1, h2, h3⟩
  · have hpp : p1 ≠ p2 := fun q => by
      rw [q, e4] at e3
      exact hxy ((nI_eq (by omega) (by omega)).mp e3).symm
    obtain ⟨w', ew⟩ : ∃ X, X = swW w x y p1 p2 := ⟨_, rfl⟩
    rw [← ew] at f1 f2 ⊢
    have g1 : w' (72 + 20 * x + 11) = nI p2 := by rw [ew]; unfold swW; rw [up_ne (by omega), up_ne (by omega), up_ne (by omega), up_eq]
    have g2 : w' (32 + 4 * p2 + 3) = nI x := by rw [ew]; unfold swW; rw [up_ne (by omega), up_ne (by omega), up_eq]
    have g3 : w' (72 + 20 * y + 11) = nI p1 := by rw [ew]; unfold swW; rw [up_ne (by omega), up_eq]
    have g4 : w' (32 + 4 * p1 + 3) = nI y := by rw [ew]; unfold swW; rw [up_eq]
    have go : ∀ j, j ≠ 72 + 20 * x + 11 → j ≠ 32 + 4 * p2 + 3 → j ≠ 72 + 20 * y + 11 → j ≠ 32 + 4 * p1 + 3 → w' j = w j := fun j a b c d => by rw [ew]; exact sw_o a b c d
    clear ew
    have A : AtO w' K P := fun d hd => by
      by_cases z : d = x
      · rw [z]; exact Or.inr ⟨p2, hp2, g1, g2⟩
      · by_cases z2 : d = y
        · rw [z2]; exact Or.inr ⟨p1, hp1, g3, g4⟩
        · rw [go _ (by omega) (by omega) (by omega) (by omega)]
          rcases h1 d hd with q | ⟨p, hp, q1, q2⟩
          · exact Or.inl q
          · have n1 : p ≠ p1 := fun q => by rw [q, e3] at q2; exact z ((nI_eq (by omega) (by omega)).mp q2).symm
            have n2 : p ≠ p2 := fun q => by rw [q, e4] at q2; exact z2 ((nI_eq (by omega) (by omega)).mp q2).symm
            exact Or.inr ⟨p, hp, q1, by rw [go _ (by omega) (by omega) (by omega) (by omega)]; exact q2⟩
    have B : PcO w' K P := fun p hp => by
      by_cases z : p = p1
      · rw [z]; exact Or.inr ⟨y, hy, g4, g3⟩
      · by_cases z2 : p = p2
        · rw [z2]; exact Or.inr ⟨x, hx, g2, g1⟩
        · rw [go _ (by omega) (by omega) (by omega) (by omega)]
          rcases h2 p hp with q | ⟨d, hd, q1, q2⟩
          · exact Or.inl q
          · have n1 : d ≠ x := fun q => by rw [q, e1] at q2; exact z ((nI_eq (by omega) (by omega)).mp q2).symm
            have n2 : d ≠ y := fun q => by rw [q, e2] at q2; exact z2 ((nI_eq (by omega) (by omega)).mp q2).symm
            exact Or.inr ⟨d, hd, q1, by rw [go _ (by omega) (by omega) (by omega) (by omega)]; exact q2⟩
    refine ⟨A, B, fun q d e hq hd he a b => ?_⟩
    have ad := PcO.at_ B hK (show q < P by omega) hd a
    have ae := PcO.at_ B hK hq he b
    have hde : d ≠ e := fun z => by
      rw [z, ae] at ad
      have := (nI_eq (by omega) (by omega)).mp ad
      omega
    by_cases z1 : q = p2
    · subst z1
      have := (nI_eq (by omega) (by omega)).mp (g2.symm.trans a)
      subst this
      exact fun z => f1 (q + 1) hq (Or.inl rfl) e he b (fun y => hde y.symm) z.symm
    · by_cases z2 : q = p1
      · subst z2
        have := (nI_eq (by omega) (by omega)).mp (g4.symm.trans a)
        subst this
        exact fun z => f2 (q + 1) hq (Or.inl rfl) e he b (fun y => hde y.symm) z.symm
      · by_cases z3 : q + 1 = p2
        · subst z3
          have := (nI_eq (by omega) (by omega)).mp (g2.symm.trans b)
          subst this
          exact f1 q (by omega) (Or.inr rfl) d hd a hde
        · by_cases z4 : q + 1 = p1
          · subst z4
            have := (nI_eq (by omega) (by omega)).mp (g4.symm.trans b)
            subst this
            exact f2 q (by omega) (Or.inr rfl) d hd a hde
          · rw [go _ (by omega) (by omega) (by omega) (by omega)] at a b
            rw [go _ (by omega) (by omega) (by omega) (by omega), go _ (by omega) (by omega) (by omega) (by omega)]
            exact h3 q d e hq hd he a b
/-- a row while lots are drawn: tv the tickets of those who are not drawn -/
abbrev Wd (w : Nat → Int32) (K P : Nat) (tv : Nat → Nat) : Prop := (∀ c, c < K → 0 < tv c → w (72 + 20 * c + 11) = -6) ∧ (∀ c, c < K → tv c = 0 → (w (72 + 20 * c + 14) = -6 ∧ w (72 + 20 * c + 11) = -6 ∧ ∃ r, r ≤ 3 ∧ w (72 + 20 * c + 13) = nI r) ∨ (¬ w (72 + 20 * c + 14) = -6 ∧ ((w (72 + 20 * c + 11) = -6 ∧ w (72 + 20 * c + 13) = 4) ∨ (¬ w (72 + 20 * c + 11) = -6 ∧ w (72 + 20 * c + 13) = 0)))) ∧ Seat w K P
theorem begin_wd {D D' : mm_M} {C : mm_M} {a P K W T : Nat} {N : Nat → Nat} {xS : Nat → Nat → Nat} (S : Sim okA C a (D.1 732) P K W T N xS) (h : fX7_beginDay D = some D') (tv : Nat → Nat) : Wd (D'.1 732) K P tv := by
  have lP := S.bd.lP
  have lK := S.bd.lK
  obtain ⟨Y, eY, dc, dp, -, -, -⟩ := m_2b (w := D.1 732) lP lK K 0 FU D (by omega) (by unfold FU; omega) S.wK S.wP rfl (fun j hj => ⟨rfl, rfl, rfl⟩)
  have e : D' = Y := Option.some.inj (h.symm.trans eY)
  subst e
  refine ⟨fun c hc _ => (dc c (by omega) hc).2.2.1, fun c hc _ => Or.inl ⟨(dc c (by omega) hc).2.2.2.2, (dc c (by omega) hc).2.2.1, wy (D.1 732) c, wy_le _ _, (dc c (by omega) hc).1⟩, fun c hc => Or.inl (dc c (by omega) hc).2.2.1, fun p hp => Or.inl (dp p hp), fun p c e hp hc he x _ => ?_⟩
  rw [dp p (by omega)] at x
  exact absurd x (n6' (by omega))
theorem Wd.step {w w2 w3 : Nat → Int32} {K P c q : Nat} {tv : Nat → Nat} {y : Int32} (h : Wd w K P tv) (hK : K ≤ 16) (hP : P ≤ 10) (hc : c < K) (tc : 0 < tv c) (hq : q < 2 ^ 31) (h13 : w (72 + 20 * c + 13) = 0) (e2 : w2 = up (up w 11 y) (72 + 20 * c + 14) (nI q)) (sat : Sat w2 w3 K P c) : Wd w3 K P (u0 tv c) := by
  obtain ⟨h1, h2, hs⟩ := h
  have o2 : ∀ j, j ≠ 11 → j ≠ 72 + 20 * c + 14 → w2 j = w j := fun j a b => by rw [e2, up_ne b, up_ne a]
  have c14 : w2 (72 + 20 * c + 14) = nI q := by rw [e2, up_eq]
  have s2 : Seat w2 K P := hs.congr hK hP (fun j hj => o2 j (by unfold SC at hj; omega) (by unfold SC at hj; omega))
  have c11 : w2 (72 + 20 * c + 11) = -6 := by rw [o2 _ (by omega) (by omega)]; exact h1 c hc tc
  have un : ∀ d, d ≠ c → u0 tv c d = tv d := fun d hd => if_neg hd
  have uc : u0 tv c c = 0 := if_pos rfl
  rcases sat with e3 | ⟨p, hp, hp6, hf, e3⟩
  · have o3 : ∀ j, j ≠ 72 + 20 * c + 13 → w3 j = w2 j := fun j a => by rw [e3, up_ne a]
    refine ⟨fun d hd ht => ?_, fun d hd ht => ?_, s2.congr hK hP (fun j hj => o3 j (by unfold SC at hj; omega))⟩
    · have hne : d ≠ c := fun z => by rw [z, uc] at ht; omega
      rw [un d hne] at ht
      rw [o3 _ (by omega), o2 _ (by omega) (by omega)]
      exact h1 d hd ht
    · by_cases z : d = c
      · rw [z, o3 (72 + 20 * c + 14) (by omega), o3 (72 + 20 * c + 11) (by omega), c14, c11, e3, up_eq]
        exact Or.inr ⟨n6 hq, Or.inl ⟨rfl, rfl⟩⟩
      · rw [un d z] at ht
        rw [o3 (72 + 20 * d + 14) (by omega), o3 (72 + 20 * d + 11) (by omega), o3 (72 + 20 * d + 13) (by omega), o2 (72 + 20 * d + 14) (by omega) (by omega), o2 (72 + 20 * d + 11) (by omega) (by omega), o2 (72 + 20 * d + 13) (by omega) (by omega)]
        exact h2 d hd ht
  · have o3 : ∀ j, j ≠ 72 + 20 * c + 11 → j ≠ 32 + 4 * p + 3 → w3 j = w2 j := fun j a b => by rw [e3, up_ne b, up_ne a]
    refine ⟨fun d hd ht => ?_, fun d hd ht => ?_, by rw [e3]; exact s2.put hK hP hc hp c11 hp6 hf⟩
    · have hne : d ≠ c := fun z => by rw [z, uc] at ht; omega
      rw [un d hne] at ht
      rw [o3 _ (by omega) (by omega), o2 _ (by omega) (by omega)]
      exact h1 d hd ht
    · by_cases z : d = c
      · rw [z, o3 (72 + 20 * c + 14) (by omega) (by omega), o3 (72 + 20 * c + 13) (by omega) (by omega), c14, o2 (72 + 20 * c + 13) (by omega) (by omega), h13, e3, up_ne (by omega), up_eq]
        exact Or.inr ⟨n6 hq, Or.inr ⟨n6 (by omega), rfl⟩⟩
      · rw [un d z] at ht
        rw [o3 (72 + 20 * d + 14) (by omega) (by omega), o3 (72 + 20 * d + 11) (by omega) (by omega), o3 (72 + 20 * d + 13) (by omega) (by omega), o2 (72 + 20 * d + 14) (by omega) (by omega), o2 (72 + 20 * d + 11) (by omega) (by omega), o2 (72 + 20 * d + 13) (by omega) (by omega)]
        exact h2 d hd ht
