/-! p32: kitchens in a row: dn says who has been in them -/
abbrev Rs (w : Nat → Int32) (K : Nat) : Prop := ∀ c, c < K → (w (72 + 20 * c + 11) = -6 ∧ w (72 + 20 * c + 12) = -6 ∧ ∃ r, r ≤ 5 ∧ w (72 + 20 * c + 13) = nI r ∧ (3 < r ↔ ¬ w (72 + 20 * c + 14) = -6)) ∨ (¬ w (72 + 20 * c + 11) = -6 ∧ w (72 + 20 * c + 13) = 0 ∧ ¬ w (72 + 20 * c + 14) = -6)
abbrev Ckd (w : Nat → Int32) (K : Nat) (dn : Nat → Prop) (kt : Nat → Bool) (bg : Nat → Nat) (v1 v2 : Nat) : Prop := (∀ c, c < K → dn c → ¬ w (72 + 20 * c + 11) = -6 → ∃ g, 1 ≤ g ∧ w (72 + 20 * c + 1) = nI g ∧ w (72 + 20 * c + 12) = nI (bg c) ∧ bg c + g ≤ (if kt c = true then v1 else v2)) ∧ ∀ c e, c < K → e < K → c ≠ e → dn c → dn e → ¬ w (72 + 20 * c + 11) = -6 → ¬ w (72 + 20 * e + 11) = -6 → kt c = kt e → ∀ g g', w (72 + 20 * c + 1) = nI g → w (72 + 20 * e + 1) = nI g' → g ≤ 6 → g' ≤ 6 → bg c + g ≤ bg e ∨ bg e + g' ≤ bg c
abbrev Ks (w : Nat → Int32) (K P : Nat) (dn : Nat → Prop) (v1 v2 : Nat) : Prop := Rs w K ∧ Seat w K P ∧ (v1 ≤ 14 ∧ v2 ≤ 14) ∧ ∃ (kt : Nat → Bool) (bg : Nat → Nat), Ckd w K dn kt bg v1 v2
/-- another row, with the same kitchens -/
theorem Ks.row {w w' : Nat → Int32} {K P v1 v2 : Nat} {dn : Nat → Prop} (h : Ks w K P dn v1 v2) (hs : Seat w' K P) (h11 : ∀ c, c < K → (w' (72 + 20 * c + 11) = -6 ↔ w (72 + 20 * c + 11) = -6)) (ho : ∀ c t, c < K → (t = 1 ∨ t = 12 ∨ t = 13 ∨ t = 14) → w' (72 + 20 * c + t) = w (72 + 20 * c + t)) : Ks w' K P dn v1 v2 := by
  obtain ⟨r, -, hv, kt, bg, k1, k2⟩ := h
  refine ⟨fun c hc => ?_, hs, hv, kt, bg, fun c hc hd ha => ?_, fun c e hc he hne hd hd' ha hb hk g g' => ?_⟩
  · rw [h11 c hc, ho c 12 hc (by omega), ho c 13 hc (by omega), ho c 14 hc (by omega)]
    exact r c hc
  · rw [ho c 1 hc (by omega), ho c 12 hc (by omega)]
    exact k1 c hc hd (fun q => ha ((h11 c hc).mpr q))
  · rw [ho c 1 hc (by omega), ho e 1 he (by omega)]
    exact k2 c e hc he hne hd hd' (fun q => ha ((h11 c hc).mpr q)) (fun q => hb ((h11 e he).mpr q)) hk g g'
/-- the slots that Ks speaks of -/
def KCl (j : Nat) : Prop := (32 ≤ j ∧ j < 72 ∧ j % 4 = 3) ∨ (72 ≤ j ∧ j < 392 ∧ (j % 20 = 12 ∨ j % 20 = 13 ∨ j % 20 = 3 ∨ j % 20 = 4 ∨ j % 20 = 5 ∨ j % 20 = 6))
theorem Ks.congr {w w' : Nat → Int32} {K P v1 v2 : Nat} {dn : Nat → Prop} (h : Ks w K P dn v1 v2) (hK : K ≤ 16) (hP : P ≤ 10) (e : ∀ j, KCl j → w' j = w j) : Ks w' K P dn v1 v2 := by
  refine h.row (h.2.1.congr hK hP (fun j hj => e j (by unfold SC at hj; unfold KCl; omega))) (fun c hc => by rw [e _ (by unfold KCl; omega)]) (fun c t hc ht => e _ (by unfold KCl; omega))
/-- fewer are done -/
theorem Ks.less {w : Nat → Int32} {K P v1 v2 : Nat} {dn dn' : Nat → Prop} (h : Ks w K P dn v1 v2) (e : ∀ c, c < K → dn' c → dn c) : Ks w K P dn' v1 v2 := by
  obtain ⟨r, s, hv, kt, bg, k1, k2⟩ := h
  exact ⟨r, s, hv, kt, bg, fun c hc hd ha => k1 c hc (e c hc hd) ha, fun c e' hc he hne hd hd' => k2 c e' hc he hne (e c hc hd) (e e' he hd')⟩
/-- the lots are drawn, nobody was in a kitchen -/
theorem Wd.ks {w : Nat → Int32} {K P : Nat} {tv : Nat → Nat} (h : Wd w K P tv) (h0 : ∀ c, c < K → tv c = 0) (h12 : ∀ c, c < K → w (72 + 20 * c + 12) = -6) (dn : Nat → Prop) (hd : ∀ c, c < K → ¬ dn c) : Ks w K P dn 0 0 := by
  obtain ⟨-, h2, hs⟩ := h
  refine ⟨fun c hc => ?_, hs, ⟨by omega, by omega⟩, fun _ => true, fun _ => 0, fun c hc x => absurd x (hd c hc), fun c e hc he hne x => absurd x (hd c hc)⟩
  rcases h2 c hc (h0 c hc) with ⟨q14, q11, r, hr, q13⟩ | ⟨q14, q⟩
  · exact Or.inl ⟨q11, h12 c hc, r, by omega, q13, fun x => absurd x (by omega), fun x => absurd q14 x⟩
  · rcases q with ⟨q11, q13⟩ | ⟨q11, q13⟩
    · exact Or.inl ⟨q11, h12 c hc, 4, by omega, q13, fun _ => q14, fun _ => by omega⟩
    · exact Or.inr ⟨q11, q13, q14⟩
/-- who has no pitch needs no kitchen -/
theorem Ks.skip {w : Nat → Int32} {K P v1 v2 c : Nat} {dn : Nat → Prop} (h : Ks w K P dn v1 v2) (h11 : w (72 + 20 * c + 11) = -6) : Ks w K P (fun d => dn d ∨ d = c) v1 v2 := by
  obtain ⟨r, s, hv, kt, bg, k1, k2⟩ := h
  refine ⟨r, s, hv, kt, bg, fun d hd hx ha => k1 d hd (hx.elim (fun q => q) (fun q => absurd (q ▸ h11) ha)) ha, fun d e hd he hne hx hy ha hb => k2 d e hd he hne (hx.elim (fun q => q) (fun q => absurd (q ▸ h11) ha)) (hy.elim (fun q => q) (fun q => absurd (q ▸ h11) hb)) ha hb⟩
/-- who loses the pitch -/
theorem Ks.out {w w' : Nat → Int32} {K P v1 v2 c p : Nat} {dn : Nat → Prop} (h : Ks w K P dn v1 v2) (hK : K ≤ 16) (hP : P ≤ 10) (hc : c < K) (hp : p < P) (h11 : w (72 + 20 * c + 11) = nI p) (h12 : w (72 + 20 * c + 12) = -6) (h14 : ¬ w (72 + 20 * c + 14) = -6) (ew : w' = up (up (up w (32 + 4 * p + 3) (-6)) (72 + 20 * c + 11) (-6)) (72 + 20 * c + 13) 5) : Ks w' K P (fun d => dn d ∨ d = c) v1 v2 := by
  obtain ⟨r, s, hv, kt, bg, k1, k2⟩ := h
  have o : ∀ j, j ≠ 32 + 4 * p + 3 → j ≠ 72 + 20 * c + 11 → j ≠ 72 + 20 * c + 13 → w' j = w j := fun j a b d => by rw [ew, up_ne d, up_ne b, up_ne a]
  have w11 : w' (72 + 20 * c + 11) = -6 := by rw [ew, up_ne (by omega), up_eq]
  have w13 : w' (72 + 20 * c + 13) = nI 5 := by rw [ew, up_eq]; rfl
  have s' : Seat w' K P := by
    have q := s.out hK hP hc hp h11
    exact q.congr hK hP (fun j hj => by rw [ew, up_ne (by unfold SC at hj; omega)])
  have out : ∀ d, d < K → (dn d ∨ d = c) → ¬ w' (72 + 20 * d + 11) = -6 → dn d ∧ d ≠ c ∧ ¬ w (72 + 20 * d + 11) = -6 := fun d hd hx ha => by
    have hne : d ≠ c := fun q => ha (q ▸ w11)
    exact ⟨hx.elim (fun q => q) (fun q => absurd q hne), hne, by rw [← o (72 + 20 * d + 11) (by omega) (by omega) (by omega)]; exact ha⟩
  refine ⟨fun d hd => ?_, s', hv, kt, bg, fun d hd hx ha => ?_, fun d e hd he hne hx hy ha hb hk g g' => ?_⟩
  · by_cases z : d = c
    · rw [z, w11, w13, o (72 + 20 * c + 12) (by omega) (by omega) (by omega), o (72 + 20 * c + 14) (by omega) (by omega) (by omega)]
      exact Or.inl ⟨rfl, h12, 5, by omega, rfl, fun _ => h14, fun _ => by omega⟩
    · rw [o (72 + 20 * d + 11) (by omega) (by omega) (by omega), o (72 + 20 * d + 12) (by omega) (by omega) (by omega), o (72 + 20 * d + 13) (by omega) (by omega) (by omega), o (72 + 20 * d + 14) (by omega) (by omega) (by omega)]
      exact r d hd
  · obtain ⟨x1, x2, x3⟩ := out d hd hx ha
    rw [o (72 + 20 * d + 1) (by omega) (by omega) (by omega), o (72 + 20 * d + 12) (by omega) (by omega) (by omega)]
    exact k1 d hd x1 x3
  · obtain ⟨x1, x2, x3⟩ := out d hd hx ha
    obtain ⟨y1, y2, y3⟩ := out e he hy hb
    rw [o (72 + 20 * d + 1) (by omega) (by omega) (by omega), o (72 + 20 * e + 1) (by omega) (by omega) (by omega)]
    exact k2 d e hd he hne x1 y1 x3 y3 hk g g'
/-- who finds hours in a kitchen -/
theorem Ks.cook {w w' : Nat → Int32} {K P v1 v2 v1' v2' c g v : Nat} {dn : Nat → Prop} {b : Bool} (h : Ks w K P dn v1 v2) (hK : K ≤ 16) (hP : P ≤ 10) (hc : c < K) (h11 : ¬ w (72 + 20 * c + 11) = -6) (hg : w (72 + 20 * c + 1) = nI g) (g1 : 1 ≤ g) (g6 : g ≤ 6) (hv : v = if b = true then v1 else v2) (h1 : v1' = if b = true then v1 + g else v1) (h2 : v2' = if b = true then v2 else v2 + g) (l1 : v1' ≤ 14) (l2 : v2' ≤ 14) (ew : w' = up w (72 + 20 * c + 12) (nI v)) : Ks w' K P (fun d => dn d ∨ d = c) v1' v2' := by
  obtain ⟨r, s, hvv, kt, bg, k1, k2⟩ := h
  have o : ∀ j, j ≠ 72 + 20 * c + 12 → w' j = w j := fun j a => by rw [ew, up_ne a]
  have w12 : w' (72 + 20 * c + 12) = nI v := by rw [ew, up_eq]
  have s' : Seat w' K P := s.congr hK hP (fun j hj => o j (by unfold SC at hj; omega))
  have ktc : ∀ d, d ≠ c → (fun d => if d = c then b else kt d) d = kt d := fun d hd => if_neg hd
  have bgc : ∀ d, d ≠ c → (fun d => if d = c then v else bg d) d = bg d := fun d hd => if_neg hd
  have ktc' : (fun d => if d = c then b else kt d) c = b := if_pos rfl
  have bgc' : (fun d => if d = c then v else bg d) c = v := if_pos rfl
  -- a done cart ends by the time of its kitchen
  have fin : ∀ d, d < K → d ≠ c → dn d → ¬ w (72 + 20 * d + 11) = -6 → kt d = b → ∀ gd, w (72 + 20 * d + 1) = nI gd → gd ≤ 6 → bg d + gd ≤ v := fun d hd hne x1 x2 ek gd e6 l6 => by
    obtain ⟨g', -, y1, -, y3⟩ := k1 d hd x1 x2
    rw [ek, ← hv] at y3
    have lv : v ≤ 14 := by
      rw [hv]
      by_cases q : b = true
      · rw [if_pos q]; exact hvv.1
      · rw [if_neg q]; exact hvv.2
    have := (nI_eq (by omega) (by omega)).mp (e6.symm.trans y1)
    omega
  refine ⟨fun d hd => ?_, s', ⟨l1, l2⟩, fun d => if d = c then b else kt d, fun d => if d = c then v else bg d, fun d hd hx ha => ?_, fun d e hd he hne hx hy ha hb hk gd ge e1 e2 m1 m2 => ?_⟩
  · by_cases z : d = c
    · rcases r d hd with q | ⟨q1, q2, q3⟩
      · rw [z] at q; exact absurd q.1 h11
      · refine Or.inr ⟨?_, ?_, ?_⟩
        · rw [o _ (by omega)]; exact q1
        · rw [o _ (by omega)]; exact q2
        · rw [o _ (by omega)]; exact q3
    · rw [o (72 + 20 * d + 11) (by omega), o (72 + 20 * d + 12) (by omega), o (72 + 20 * d + 13) (by omega), o (72 + 20 * d + 14) (by omega)]
      exact r d hd
  · by_cases z : d = c
    · rw [z, ktc', bgc', w12, o (72 + 20 * c + 1) (by omega)]
      refine ⟨g, g1, hg, rfl, ?_⟩
      rw [hv, h1, h2]
      cases b
      · simp
      · simp
    · rw [ktc d z, bgc d z, o (72 + 20 * d + 1) (by omega), o (72 + 20 * d + 12) (by omega)]
      rw [o _ (by omega)] at ha
      obtain ⟨g', y0, y1, y2, y3⟩ := k1 d hd (hx.elim (fun q => q) (fun q => absurd q z)) ha
      refine ⟨g', y0, y1, y2, Nat.le_trans y3 ?_⟩
      by_cases q : kt d = true
      · rw [if_pos q, if_pos q, h1]
        by_cases q2 : b = true
        · rw [if_pos q2]; omega
        · rw [if_neg q2]; omega
      · rw [if_neg q, if_neg q, h2]
        by_cases q2 : b = true
        · rw [if_pos q2]; omega
        · rw [if_neg q2]; omega
  · rw [o _ (by omega)] at ha hb e1 e2
    by_cases z : d = c
    · have z2 : e ≠ c := fun q => hne (z.trans q.symm)
      rw [z, ktc', ktc e z2] at hk
      rw [z, bgc', bgc e z2]
      exact Or.inr (fin e he z2 (hy.elim (fun q => q) (fun q => absurd q z2)) hb hk.symm ge e2 m2)
    · by_cases z2 : e = c
      · rw [z2, ktc', ktc d z] at hk
        rw [z2, bgc', bgc d z]
        exact Or.inl (fin d hd z (hx.elim (fun q => q) (fun q => absurd q z)) ha hk gd e1 m1)
      · rw [ktc d z, ktc e z2] at hk
        rw [bgc d z, bgc e z2]
        exact k2 d e hd he hne (hx.elim (fun q => q) (fun q => absurd q z)) (hy.elim (fun q => q) (fun q => absurd q z2)) ha hb hk gd ge e1 e2 m1 m2
/-- two carts that have pitches exchange them -/
theorem Ks.sw {w : Nat → Int32} {K P v1 v2 x y p1 p2 : Nat} {dn : Nat → Prop} (h : Ks w K P dn v1 v2) (hK : K ≤ 16) (hP : P ≤ 10) (hx : x < K) (hy : y < K) (hp1 : p1 < P) (hp2 : p2 < P) (e1 : w (72 + 20 * x + 11) = nI p1) (e2 : w (72 + 20 * y + 11) = nI p2) (f1 : Free (swW w x y p1 p2) K P x p2) (f2 : Free (swW w x y p1 p2) K P y p1) : Ks (swW w x y p1 p2) K P dn v1 v2 := by
  refine h.row (seat_sw h.2.1 hK hP hx hy hp1 hp2 e1 e2 f1 f2) (fun c hc => ?_) (fun c t hc ht => sw_o (by omega) (by omega) (by omega) (by omega))
  unfold swW
  rw [up_ne (by omega)]
  by_cases z : c = y
  · rw [z, up_eq, e2]
    exact ⟨fun q => absurd q (n6 (by omega)), fun q => absurd q (n6 (by omega))⟩
  · rw [up_ne (by omega), up_ne (by omega)]
    by_cases z2 : c = x
    · rw [z2, up_eq, e1]
      exact ⟨fun q => absurd q (n6 (by omega)), fun q => absurd q (n6 (by omega))⟩
    · rw [up_ne (by omega)]
