/-! p32: WHAT A DAY LEAVES IN A ROW: K carts, P pitches -/
/-- the sum of n slots -/
def isum (f : Nat → Int32) : Nat → Int32
  | 0 => 0
  | n + 1 => isum f n + f n
theorem isum_congr {f g : Nat → Int32} {n : Nat} (h : ∀ i, i < n → f i = g i) : isum f n = isum g n := by
  induction n with
  | zero => rfl
  | succ n ih =>
    show isum f n + f n = isum g n + g n
    rw [ih (fun i hi => h i (by omega)), h n (by omega)]
theorem isum_up {f g : Nat → Int32} {v : Int32} {c n : Nat} (hc : c < n) (h : ∀ i, i < n → i ≠ c → g i = f i) (hv : g c = f c + v) : isum g n = isum f n + v := by
  induction n with
  | zero => omega
  | succ n ih =>
    show isum g n + g n = isum f n + f n + v
    by_cases e : c = n
    · subst e
      rw [isum_congr (f := g) (g := f) (fun i hi => h i (by omega) (by omega)), hv, Int32.add_assoc]
    · rw [ih (by omega) (fun i hi hne => h i (by omega) hne), h n (by omega) (fun q => e q.symm), Int32.add_assoc, Int32.add_assoc, Int32.add_comm v]
theorem isum_0 (n : Nat) : isum (fun _ => 0) n = 0 := by
  induction n with
  | zero => rfl
  | succ n ih =>
    show isum (fun _ => 0) n + 0 = 0
    rw [ih]
    rfl
/-- a cart's pitch says so too -/
def AtO (w : Nat → Int32) (K P : Nat) : Prop := ∀ c, c < K → w (72 + 20 * c + 11) = -6 ∨ ∃ p, p < P ∧ w (72 + 20 * c + 11) = nI p ∧ w (32 + 4 * p + 3) = nI c
/-- a pitch's cart says so too -/
def PcO (w : Nat → Int32) (K P : Nat) : Prop := ∀ p, p < P → w (32 + 4 * p + 3) = -6 ∨ ∃ c, c < K ∧ w (32 + 4 * p + 3) = nI c ∧ w (72 + 20 * c + 11) = nI p
/-- none of a kind side by side -/
def Apt (w : Nat → Int32) (K P : Nat) : Prop := ∀ p c e, p + 1 < P → c < K → e < K → w (32 + 4 * p + 3) = nI c → w (32 + 4 * (p + 1) + 3) = nI e → ¬ w (72 + 20 * c) = w (72 + 20 * e)
/-- reasons -/
def Rsn (w : Nat → Int32) (K : Nat) : Prop := ∀ c, c < K → (w (72 + 20 * c + 11) = -6 ∧ w (72 + 20 * c + 12) = -6 ∧ ∃ r, r ≤ 5 ∧ w (72 + 20 * c + 13) = nI r ∧ (3 < r ↔ ¬ w (72 + 20 * c + 14) = -6)) ∨ (¬ w (72 + 20 * c + 11) = -6 ∧ w (72 + 20 * c + 13) = 0 ∧ ¬ w (72 + 20 * c + 14) = -6 ∧ w (72 + 20 * c + 6) = 0)
/-- hours: kt tells each cart's kitchen -/
def Kch (w : Nat → Int32) (K : Nat) : Prop := ∃ (kt : Nat → Bool) (bg : Nat → Nat), (∀ c, c < K → ¬ w (72 + 20 * c + 11) = -6 → ∃ g, 1 ≤ g ∧ w (72 + 20 * c + 1) = nI g ∧ w (72 + 20 * c + 12) = nI (bg c) ∧ bg c + g ≤ 14) ∧ ∀ c e, c < K → e < K → c ≠ e → ¬ w (72 + 20 * c + 11) = -6 → ¬ w (72 + 20 * e + 11) = -6 → kt c = kt e → ∀ g g', w (72 + 20 * c + 1) = nI g → w (72 + 20 * e + 1) = nI g' → g ≤ 6 → g' ≤ 6 → bg c + g ≤ bg e ∨ bg e + g' ≤ bg c
/-- the lots -/
def Odr (w : Nat → Int32) (K : Nat) : Prop := ∃ (ord : Nat → Nat) (p : Nat), p ≤ K ∧ (∀ q, q < p → ord q < K ∧ w (72 + 20 * ord q + 14) = nI q) ∧ ∀ c, c < K → w (72 + 20 * c + 14) = -6 ∨ ∃ q, q < p ∧ w (72 + 20 * c + 14) = nI q ∧ ord q = c
/-- days and rents, of carts and of pitches -/
def Sms (w : Nat → Int32) (K P : Nat) : Prop := isum (fun c => w (72 + 20 * c + 10)) K = isum (fun p => w (32 + 4 * p + 1)) P ∧ isum (fun c => w (72 + 20 * c + 16)) K = isum (fun p => w (32 + 4 * p + 2)) P
abbrev DI (w : Nat → Int32) (K P : Nat) : Prop := AtO w K P ∧ PcO w K P ∧ Apt w K P ∧ Rsn w K ∧ Kch w K ∧ Odr w K ∧ Sms w K P
/-- the slots that a day's picture speaks of -/
def DCl (j : Nat) : Prop := (32 ≤ j ∧ j < 72 ∧ j % 4 ≠ 0) ∨ (72 ≤ j ∧ j < 392 ∧ (j % 20 = 12 ∨ j % 20 = 13 ∨ j % 20 = 18 ∨ j % 20 = 2 ∨ j % 20 = 3 ∨ j % 20 = 4 ∨ j % 20 = 5 ∨ j % 20 = 6 ∨ j % 20 = 8))
theorem DI.congr {w w' : Nat → Int32} {K P : Nat} (h : DI w K P) (hK : K ≤ 16) (hP : P ≤ 10) (e : ∀ j, DCl j → w' j = w j) : DI w' K P := by
  obtain ⟨h1, h2, h3, h4, h5, h6, h7⟩ := h
  have ep : ∀ p t, p < P → t = 1 ∨ t = 2 ∨ t = 3 → w' (32 + 4 * p + t) = w (32 + 4 * p + t) := fun p t hp ht => e _ (by unfold DCl; omega)
  have ec : ∀ c t, c < K → t = 0 ∨ t = 1 ∨ t = 6 ∨ t = 10 ∨ t = 11 ∨ t = 12 ∨ t = 13 ∨ t = 14 ∨ t = 16 → w' (72 + 20 * c + t) = w (72 + 20 * c + t) := fun c t hc ht => e _ (by unfold DCl; omega)
  refine ⟨fun c hc => ?_, fun p hp => ?_, fun p c d hp hc hd a b => ?_, fun c hc => ?_, ?_, ?_, ?_⟩
  · rw [ec c 11 hc (by omega)]
    rcases h1 c hc with q | ⟨p, hp, q1, q2⟩
    · exact Or.inl q
    · exact Or.inr ⟨p, hp, q1, by rw [ep p 3 hp (by omega)]; exact q2⟩
  · rw [ep p 3 hp (by omega)]
    rcases h2 p hp with q | ⟨c, hc, q1, q2⟩
    · exact Or.inl q
    · exact Or.inr ⟨c, hc, q1, by rw [ec c 11 hc (by omega)]; exact q2⟩
  · rw [ep p 3 (by omega) (by omega)] at a
    rw [ep (p + 1) 3 (by omega) (by omega)] at b
    have x := ec c 0 hc (by omega)
    have y := ec d 0 hd (by omega)
    rw [Nat.add_zero] at x y
    rw [x, y]
    exact h3 p c d hp hc hd a b
  · rw [ec c 11 hc (by omega), ec c 12 hc (by omega), ec c 13 hc (by omega), ec c 14 hc (by omega), ec c 6 hc (by omega)]
    exact h4 c hc
  · obtain ⟨kt, bg, k1, k2⟩ := h5
    refine ⟨kt, bg, fun c hc => ?_, fun c d hc hd hne => ?_⟩
    · rw [ec c 11 hc (by omega), ec c 1 hc (by omega), ec c 12 hc (by omega)]
      exact k1 c hc
    · rw [ec c 11 hc (by omega), ec d 11 hd (by omega), ec c 1 hc (by omega), ec d 1 hd (by omega)]
      exact k2 c d hc hd hne
  · obtain ⟨ord, p, o1, o2, o3⟩ := h6
    refine ⟨ord, p, o1, fun q hq => ⟨(o2 q hq).1, ?_⟩, fun c hc => ?_⟩
    · rw [ec _ 14 (o2 q hq).1 (by omega)]
      exact (o2 q hq).2
    · rw [ec c 14 hc (by omega)]
      exact o3 c hc
  · refine ⟨?_, ?_⟩
    · rw [isum_congr (g := fun c => w (72 + 20 * c + 10)) (fun c hc => ec c 10 hc (by omega)), isum_congr (g := fun p => w (32 + 4 * p + 1)) (n := P) (fun p hp => ep p 1 hp (by omega))]
      exact h7.1
    · rw [isum_congr (g := fun c => w (72 + 20 * c + 16)) (fun c hc => ec c 16 hc (by omega)), isum_congr (g := fun p => w (32 + 4 * p + 2)) (n := P) (fun p hp => ep p 2 hp (by omega))]
      exact h7.2
theorem DI.up {w : Nat → Int32} {K P j : Nat} {v : Int32} (h : DI w K P) (hK : K ≤ 16) (hP : P ≤ 10) (hj : ¬ DCl j) : DI (up w j v) K P := h.congr hK hP (fun i hi => up_ne (fun q => hj (q ▸ hi)))
/-- a fresh row -/
theorem DI.zero (w : Nat → Int32) : DI w 0 0 := ⟨fun _ h => absurd h (Nat.not_lt_zero _), fun _ h => absurd h (Nat.not_lt_zero _), fun p _ _ h => absurd h (Nat.not_lt_zero _), fun _ h => absurd h (Nat.not_lt_zero _), ⟨fun _ => true, fun _ => 0, fun _ h => absurd h (Nat.not_lt_zero _), fun _ _ h => absurd h (Nat.not_lt_zero _)⟩, ⟨fun _ => 0, 0, Nat.le_refl _, fun _ h => absurd h (Nat.not_lt_zero _), fun _ h => absurd h (Nat.not_lt_zero _)⟩, rfl, rfl⟩
/-- a pitch comes -/
theorem DI.pitch {w w' : Nat → Int32} {K P : Nat} (h : DI w K P) (hK : K ≤ 16) (hP : P < 10) (e : ∀ j, DCl j → (j < 32 + 4 * P ∨ 32 + 4 * P + 4 ≤ j) → w' j = w j) (h1 : w' (32 + 4 * P + 1) = 0) (h2 : w' (32 + 4 * P + 2) = 0) (h3 : w' (32 + 4 * P + 3) = -6) : DI w' K (P + 1) := by
  obtain ⟨g1, g2, g3, g4, g5, g6, g7⟩ := h
  have ep : ∀ p t, p < P → t = 1 ∨ t = 2 ∨ t = 3 → w' (32 + 4 * p + t) = w (32 + 4 * p + t) := fun p t hp ht => e _ (by unfold DCl; omega) (by omega)
  have ec : ∀ c t, c < K → t = 0 ∨ t = 1 ∨ t = 6 ∨ t = 10 ∨ t = 11 ∨ t = 12 ∨ t = 13 ∨ t = 14 ∨ t = 16 → w' (72 + 20 * c + t) = w (72 + 20 * c + t) := fun c t hc ht => e _ (by unfold DCl; omega) (by omega)
  refine ⟨fun c hc => ?_, fun p hp => ?_, fun p c d hp hc hd a b => ?_, fun c hc => ?_, ?_, ?_, ?_⟩
  · rw [ec c 11 hc (by omega)]
    rcases g1 c hc with q | ⟨p, hp, q1, q2⟩
    · exact Or.inl q
    · exact Or.inr ⟨p, by omega, q1, by rw [ep p 3 hp (by omega)]; exact q2⟩
  · by_cases z : p = P
    · rw [z]; exact Or.inl h3
    · rw [ep p 3 (by omega) (by omega)]
      rcases g2 p (by omega) with q | ⟨c, hc, q1, q2⟩
      · exact Or.inl q
      · exact Or.inr ⟨c, hc, q1, by rw [ec c 11 hc (by omega)]; exact q2⟩
  · by_cases z : p + 1 = P
    · rw [z, h3] at b
      exact absurd b (fun q => nI_pos (n := d) (by omega) (by rw [← q]; decide))
    · rw [ep p 3 (by omega) (by omega)] at a
      rw [ep (p + 1) 3 (by omega) (by omega)] at b
      have x := ec c 0 hc (by omega)
      have y := ec d 0 hd (by omega)
      rw [Nat.add_zero] at x y
      rw [x, y]
      exact g3 p c d (by omega) hc hd a b
  · rw [ec c 11 hc (by omega), ec c 12 hc (by omega), ec c 13 hc (by omega), ec c 14 hc (by omega), ec c 6 hc (by omega)]
    exact g4 c hc
  · obtain ⟨kt, bg, k1, k2⟩ := g5
    refine ⟨kt, bg, fun c hc => ?_, fun c d hc hd hne => ?_⟩
    · rw [ec c 11 hc (by omega), ec c 1 hc (by omega), ec c 12 hc (by omega)]
      exact k1 c hc
    · rw [ec c 11 hc (by omega), ec d 11 hd (by omega), ec c 1 hc (by omega), ec d 1 hd (by omega)]
      exact k2 c d hc hd hne
  · obtain ⟨ord, p, o1, o2, o3⟩ := g6
    refine ⟨ord, p, o1, fun q hq => ⟨(o2 q hq).1, ?_⟩, fun c hc => ?_⟩
    · rw [ec _ 14 (o2 q hq).1 (by omega)]
      exact (o2 q hq).2
    · rw [ec c 14 hc (by omega)]
      exact o3 c hc
  · obtain ⟨s1, s2⟩ := g7
    refine ⟨?_, ?_⟩
    · rw [isum_congr (g := fun c => w (72 + 20 * c + 10)) (fun c hc => ec c 10 hc (by omega)), s1]
      show _ = isum _ P + w' (32 + 4 * P + 1)
      rw [h1, Int32.add_zero]
      exact isum_congr (fun p hp => (ep p 1 hp (by omega)).symm)
    · rw [isum_congr (g := fun c => w (72 + 20 * c + 16)) (fun c hc => ec c 16 hc (by omega)), s2]
      show _ = isum _ P + w' (32 + 4 * P + 2)
      rw [h2, Int32.add_zero]
      exact isum_congr (fun p hp => (ep p 2 hp (by omega)).symm)
/-- a cart comes -/
theorem DI.cart {w w' : Nat → Int32} {K P : Nat} (h : DI w K P) (hK : K < 16) (hP : P ≤ 10) (e : ∀ j, DCl j → (j < 72 + 20 * K ∨ 72 + 20 * K + 20 ≤ j) → w' j = w j) (c10 : w' (72 + 20 * K + 10) = 0) (c11 : w' (72 + 20 * K + 11) = -6) (c12 : w' (72 + 20 * K + 12) = -6) (c13 : w' (72 + 20 * K + 13) = 0) (c14 : w' (72 + 20 * K + 14) = -6) (c16 : w' (72 + 20 * K + 16) = 0) : DI w' (K + 1) P := by
  obtain ⟨g1, g2, g3, g4, g5, g6, g7⟩ := h
  have ep : ∀ p t, p < P → t = 1 ∨ t = 2 ∨ t = 3 → w' (32 + 4 * p + t) = w (32 + 4 * p + t) := fun p t hp ht => e _ (by unfold DCl; omega) (by omega)
  have ec : ∀ c t, c < K → t = 0 ∨ t = 1 ∨ t = 6 ∨ t = 10 ∨ t = 11 ∨ t = 12 ∨ t = 13 ∨ t = 14 ∨ t = 16 → w' (72 + 20 * c + t) = w (72 + 20 * c + t) := fun c t hc ht => e _ (by unfold DCl; omega) (by omega)
  have pk : ∀ p c, p < P → c < K + 1 → w (32 + 4 * p + 3) = nI c → c < K := fun p c hp hc q => by
    rcases g2 p hp with z | ⟨d, hd, z, -⟩
    · exact absurd (z.symm.trans q) (fun y => nI_pos (n := c) (by omega) (by rw [← y]; decide))
    · have := (nI_eq (by omega) (by omega)).mp (z.symm.trans q)
      omega
  refine ⟨fun c hc => ?_, fun p hp => ?_, fun p c d hp hc hd a b => ?_, fun c hc => ?_, ?_, ?_, ?_⟩
  · by_cases z : c = K
    · rw [z]; exact Or.inl c11
    · rw [ec c 11 (by omega) (by omega)]
      rcases g1 c (by omega) with q | ⟨p, hp, q1, q2⟩
      · exact Or.inl q
      · exact Or.inr ⟨p, hp, q1, by rw [ep p 3 hp (by omega)]; exact q2⟩
  · rw [ep p 3 hp (by omega)]
    rcases g2 p hp with q | ⟨c, hc, q1, q2⟩
    · exact Or.inl q
    · exact Or.inr ⟨c, by omega, q1, by rw [ec c 11 hc (by omega)]; exact q2⟩
  · rw [ep p 3 (by omega) (by omega)] at a
    rw [ep (p + 1) 3 (by omega) (by omega)] at b
    have hc' := pk p c (by omega) hc a
    have hd' := pk (p + 1) d (by omega) hd b
    have x := ec c 0 hc' (by omega)
    have y := ec d 0 hd' (by omega)
    rw [Nat.add_zero] at x y
    rw [x, y]
    exact g3 p c d hp hc' hd' a b
  · by_cases z : c = K
    · rw [z]
      exact Or.inl ⟨c11, c12, 0, by omega, c13, fun q => absurd q (by omega), fun q => absurd c14 q⟩
    · rw [ec c 11 (by omega) (by omega), ec c 12 (by omega) (by omega), ec c 13 (by omega) (by omega), ec c 14 (by omega) (by omega), ec c 6 (by omega) (by omega)]
      exact g4 c (by omega)
  · obtain ⟨kt, bg, k1, k2⟩ := g5
    refine ⟨kt, bg, fun c hc ha => ?_, fun c d hc hd hne ha hb => ?_⟩
    · have hcK : c < K := by
        by_cases z : c = K
        · rw [z] at ha; exact absurd c11 ha
        · omega
      rw [ec c 11 hcK (by omega)] at ha
      rw [ec c 1 hcK (by omega), ec c 12 hcK (by omega)]
      exact k1 c hcK ha
    · have hcK : c < K := by
        by_cases z : c = K
        · rw [z] at ha; exact absurd c11 ha
        · omega
      have hdK : d < K := by
        by_cases z : d = K
        · rw [z] at hb; exact absurd c11 hb
        · omega
      rw [ec c 11 hcK (by omega)] at ha
      rw [ec d 11 hdK (by omega)] at hb
      rw [ec c 1 hcK (by omega), ec d 1 hdK (by omega)]
      exact k2 c d hcK hdK hne ha hb
  · obtain ⟨ord, p, o1, o2, o3⟩ := g6
    refine ⟨ord, p, by omega, fun q hq => ⟨by have := (o2 q hq).1; omega, ?_⟩, fun c hc => ?_⟩
    · rw [ec _ 14 (o2 q hq).1 (by omega)]
      exact (o2 q hq).2
    · by_cases z : c = K
      · rw [z]; exact Or.inl c14
      · rw [ec c 14 (by omega) (by omega)]
        exact o3 c (by omega)
  · obtain ⟨s1, s2⟩ := g7
    refine ⟨?_, ?_⟩
    · rw [isum_congr (f := fun p => w' (32 + 4 * p + 1)) (g := fun p => w (32 + 4 * p + 1)) (n := P) (fun p hp => ep p 1 hp (by omega)), ← s1]
      show isum _ K + w' (72 + 20 * K + 10) = _
      rw [c10, Int32.add_zero]
      exact isum_congr (fun c hc => ec c 10 hc (by omega))
    · rw [isum_congr (f := fun p => w' (32 + 4 * p + 2)) (g := fun p => w (32 + 4 * p + 2)) (n := P) (fun p hp => ep p 2 hp (by omega)), ← s2]
      show isum _ K + w' (72 + 20 * K + 16) = _
      rw [c16, Int32.add_zero]
      exact isum_congr (fun c hc => ec c 16 hc (by omega))
