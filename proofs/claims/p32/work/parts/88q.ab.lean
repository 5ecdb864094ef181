/-! p32: the class as a whole: its row w, h past rows tp (the latest first), saved rows sv, n signs sg -/
abbrev AHist (T0 : Nat) (C : mm_M) (b h : Nat) (tp : Nat → Nat → Int32) : Prop := b < 7 ∧ h ≤ 6 ∧ C.1 133 1 = nI b ∧ C.1 133 2 = nI h ∧ ∀ i, i < h → SimX C (135 + 66 * ((b + (h - 1 - i)) % 7)) (tp i) T0
def ASav (T0 : Nat) (C : mm_M) (sv : Nat → Option (Nat → Int32)) : Prop := ∀ q, q < 2 → (C.1 (597 + 66 * q) 6 = 0 ∧ sv q = none) ∨ (¬ C.1 (597 + 66 * q) 6 = 0 ∧ ∃ u, sv q = some u ∧ SimX C (597 + 66 * q) u T0)
abbrev Ab (T0 : Nat) (C : mm_M) (w : Nat → Int32) (h : Nat) (tp : Nat → Nat → Int32) (sv : Nat → Option (Nat → Int32)) (n : Nat) (sg : Nat → Nat) : Prop := SimX C 1 w T0 ∧ (∃ b, AHist T0 C b h tp) ∧ ASav T0 C sv ∧ PdC C sg n
def hpp (h : Nat) : Nat := if h = 6 then 6 else h + 1
def psh (w : Nat → Int32) (tp : Nat → Nat → Int32) : Nat → Nat → Int32 := fun i => if i = 0 then w else tp (i - 1)
theorem AHist.frame {T0 b h : Nat} {C C' : mm_M} {tp : Nat → Nat → Int32} (H : AHist T0 C b h tp) (f : ∀ o, 133 ≤ o ∧ o < 597 → C'.1 o = C.1 o ∧ C'.2 o = C.2 o) : AHist T0 C' b h tp := by
  obtain ⟨lb, lh, cb, ch, hr⟩ := H
  refine ⟨lb, lh, by rw [(f 133 (by omega)).1]; exact cb, by rw [(f 133 (by omega)).1]; exact ch, fun i hi => (hr i hi).frame (fun o ho => f o ?_)⟩
  have := Nat.mod_lt (b + (h - 1 - i)) (show 0 < 7 by omega)
  omega
theorem ASav.frame {T0 : Nat} {C C' : mm_M} {sv : Nat → Option (Nat → Int32)} (H : ASav T0 C sv) (f : ∀ o, 597 ≤ o ∧ o < 729 → C'.1 o = C.1 o ∧ C'.2 o = C.2 o) : ASav T0 C' sv := fun q hq => by
  rw [(f (597 + 66 * q) (by omega)).1]
  rcases H q hq with h | ⟨h1, u, h2, h3⟩
  · exact Or.inl h
  · exact Or.inr ⟨h1, u, h2, h3.frame (fun o ho => f o (by omega))⟩
theorem AHist.mono {T0 T1 b h : Nat} {C : mm_M} {tp : Nat → Nat → Int32} (H : AHist T0 C b h tp) (q : T0 ≤ T1) : AHist T1 C b h tp := ⟨H.1, H.2.1, H.2.2.1, H.2.2.2.1, fun i hi => (H.2.2.2.2 i hi).mono q⟩
theorem ASav.mono {T0 T1 : Nat} {C : mm_M} {sv : Nat → Option (Nat → Int32)} (H : ASav T0 C sv) (q : T0 ≤ T1) : ASav T1 C sv := fun x hx => by
  rcases H x hx with h | ⟨h1, u, h2, h3⟩
  · exact Or.inl h
  · exact Or.inr ⟨h1, u, h2, h3.mono q⟩
theorem Ab.mono {T0 T1 h n : Nat} {C : mm_M} {w : Nat → Int32} {tp : Nat → Nat → Int32} {sv : Nat → Option (Nat → Int32)} {sg : Nat → Nat} (A : Ab T0 C w h tp sv n sg) (q : T0 ≤ T1) : Ab T1 C w h tp sv n sg := by
  obtain ⟨a1, ⟨b, a2⟩, a3, a4⟩ := A
  exact ⟨a1.mono q, ⟨b, a2.mono q⟩, a3.mono q, a4⟩
/-- what lies beside State, history, slots and pad may change -/
theorem Ab.fr {T0 h n : Nat} {C C' : mm_M} {w : Nat → Int32} {tp : Nat → Nat → Int32} {sv : Nat → Option (Nat → Int32)} {sg : Nat → Nat} (A : Ab T0 C w h tp sv n sg) (f : FrC C C' 67) : Ab T0 C' w h tp sv n sg := by
  obtain ⟨a1, ⟨b, a2⟩, a3, a4⟩ := A
  exact ⟨a1.frame (fun o ho => f o (by omega)), ⟨b, a2.frame (fun o ho => f o (by omega))⟩, a3.frame (fun o ho => f o (by omega)), a4.of (fun o h1 h2 => (f o (by omega)).1)⟩
theorem ab_prep {T0 b h n : Nat} {C : mm_M} {w : Nat → Int32} {tp : Nat → Nat → Int32} {sv : Nat → Option (Nat → Int32)} {sg : Nat → Nat} {P K W T : Nat} {N : Nat → Nat} {xS : Nat → Nat → Nat} (A : Ab T0 C w h tp sv n sg) (H : AHist T0 C b h tp) (hT : TX T xS T0 w K P) (S : Sim okA C 1 w P K W T N xS) : ∃ C1, fX2_prepare C 133 1 = some C1 ∧ Ab T0 C1 w h tp sv n sg ∧ AHist T0 C1 b h tp ∧ SimX C1 (135 + 66 * ((b + h) % 7)) w T0 ∧ Sim okA C1 1 w P K W T N xS ∧ FrC C C1 (135 + 66 * ((b + h) % 7)) := by
  obtain ⟨a1, -, a3, a4⟩ := A
  have lb := H.1
  have lh := H.2.1
  have hm := Nat.mod_lt (b + h) (show 0 < 7 by omega)
  obtain ⟨Y, eY, SY, fY⟩ := cp_all (a0 := 135 + 66 * ((b + h) % 7)) S (by omega)
  have H1 : AHist T0 Y b h tp := by
    refine ⟨lb, lh, by rw [(fY 133 (by omega)).1]; exact H.2.2.1, by rw [(fY 133 (by omega)).1]; exact H.2.2.2.1, fun i hi => (H.2.2.2.2 i hi).frame (fun o ho => fY o ?_)⟩
    have := Nat.mod_lt (b + (h - 1 - i)) (show 0 < 7 by omega)
    omega
  have S1 : Sim okA Y 1 w P K W T N xS := S.frame (fun o ho => fY o (by omega))
  refine ⟨Y, ?_, ⟨⟨P, K, W, T, N, xS, hT, S1⟩, ⟨b, H1⟩, a3.frame (fun o ho => fY o (by omega)), a4.of (fun o h1 h2 => (fY o (by omega)).1)⟩, H1, ⟨P, K, W, T, N, xS, hT, SY⟩, S1, fY⟩
  unfold fX2_prepare
  rw [H.2.2.1, H.2.2.2.1, nI_add, mod7 (b + h) (by omega)]
  refine gd_i (ix_nI (n := 7) hm (by decide)) ?_
  rw [nI_clamp (by omega)]
  exact bn_i eY rfl
theorem ab_rec {T0 T1 b h n : Nat} {C1 C2 : mm_M} {w w2 : Nat → Int32} {tp : Nat → Nat → Int32} {sv : Nat → Option (Nat → Int32)} {sg : Nat → Nat} (hT : T0 ≤ T1) (A : Ab T0 C1 w h tp sv n sg) (H : AHist T0 C1 b h tp) (hp : SimX C1 (135 + 66 * ((b + h) % 7)) w T0) (fC : FrC C1 C2 1) (S2 : SimX C2 1 w2 T1) : Ab T1 (if h = 6 then sI C2 133 1 (nI ((b + 1) % 7)) else sI C2 133 2 (nI (h + 1))) w2 (hpp h) (psh w tp) sv n sg := by
  obtain ⟨-, -, a3, a4⟩ := A
  obtain ⟨lb, lh, cb, ch, hr⟩ := H
  obtain ⟨C3, e3⟩ : ∃ X, X = (if h = 6 then sI C2 133 1 (nI ((b + 1) % 7)) else sI C2 133 2 (nI (h + 1))) := ⟨_, rfl⟩
  have c3 : ∀ o, o ≠ 133 → C3.1 o = C2.1 o ∧ C3.2 o = C2.2 o := by
    intro o ho
    rw [e3]
    by_cases e : h = 6
    · rw [if_pos e]; exact ⟨by rw [sI_ap1, if_neg ho], rfl⟩
    · rw [if_neg e]; exact ⟨by rw [sI_ap1, if_neg ho], rfl⟩
  have c31 : ∀ o, 67 ≤ o → o ≠ 133 → C3.1 o = C1.1 o ∧ C3.2 o = C1.2 o := fun o h1 h2 => ⟨(c3 o h2).1.trans (fC o (by omega)).1, (c3 o h2).2.trans (fC o (by omega)).2⟩
  have f133 : C2.1 133 = C1.1 133 := (fC 133 (by omega)).1
  rw [← e3]
  refine ⟨S2.frame (fun o ho => c3 o (by omega)), ⟨if h = 6 then (b + 1) % 7 else b, ?_⟩, (a3.frame (fun o ho => c31 o (by omega) (by omega))).mono hT, a4.of (fun o h1 h2 => (c31 o (by omega) (by omega)).1)⟩
  unfold hpp
  by_cases e : h = 6
  · subst e
    rw [if_pos rfl] at e3
    rw [if_pos rfl, if_pos rfl]
    refine ⟨Nat.mod_lt _ (by omega), by omega, ?_, ?_, fun i hi => ?_⟩
    · rw [e3, sI_ap1, if_pos rfl, if_pos rfl]
    · rw [e3, sI_ap1, if_pos rfl]
      show (if (2 : Nat) = 1 then _ else C2.1 133 2) = _
      rw [if_neg (by omega), f133]; exact ch
    · unfold psh
      by_cases q : i = 0
      · rw [if_pos q, show ((b + 1) % 7 + (6 - 1 - i)) % 7 = (b + 6) % 7 by omega]
        exact (hp.frame (fun o ho => c31 o (by have := Nat.mod_lt (b + 6) (show 0 < 7 by omega); omega) (by omega))).mono hT
      · rw [if_neg q, show ((b + 1) % 7 + (6 - 1 - i)) % 7 = (b + (6 - 1 - (i - 1))) % 7 by omega]
        exact ((hr (i - 1) (by omega)).frame (fun o ho => c31 o (by omega) (by omega))).mono hT
  · rw [if_neg e] at e3
    rw [if_neg e, if_neg e]
    refine ⟨lb, by omega, ?_, ?_, fun i hi => ?_⟩
    · rw [e3, sI_ap1, if_pos rfl]
      show (if (1 : Nat) = 2 then _ else C2.1 133 1) = _
      rw [if_neg (by omega), f133]; exact cb
    · rw [e3, sI_ap1, if_pos rfl, if_pos rfl]
    · unfold psh
      by_cases q : i = 0
      · rw [if_pos q, show (b + (h + 1 - 1 - i)) % 7 = (b + h) % 7 by rw [q]; rfl]
        exact (hp.frame (fun o ho => c31 o (by omega) (by omega))).mono hT
      · rw [if_neg q, show h + 1 - 1 - i = h - 1 - (i - 1) by omega]
        exact ((hr (i - 1) (by omega)).frame (fun o ho => c31 o (by omega) (by omega))).mono hT
/-- a call that is a change -/
theorem ab_chg {T0 T1 h n : Nat} {C : mm_M} {w w2 : Nat → Int32} {tp : Nat → Nat → Int32} {sv : Nat → Option (Nat → Int32)} {sg : Nat → Nat} {P K W T : Nat} {N : Nat → Nat} {xS : Nat → Nat → Nat} (A : Ab T0 C w h tp sv n sg) (hT : TX T xS T0 w K P) (S : Sim okA C 1 w P K W T N xS) {op : mm_M → Option (Int32 × mm_M)} {r : Int32} (hr : ¬ r < 0) (h01 : T0 ≤ T1) (hop : ∀ C1, Sim okA C1 1 w P K W T N xS → ∃ C2, op C1 = some (r, C2) ∧ FrC C1 C2 1 ∧ SimX C2 1 w2 T1) : ∃ C', chg C op = some (r, C') ∧ Ab T1 C' w2 (hpp h) (psh w tp) sv n sg := by
  obtain ⟨b, H⟩ := A.2.1
  obtain ⟨C1, e1, A1, H1, hp, S1, f1⟩ := ab_prep A H hT S
  obtain ⟨C2, e2, fC, S2⟩ := hop C1 S1
  exact ⟨_, bn_i e1 (bn2_i e2 (bn2_i (g_rec hr H1.1 H1.2.1 (by rw [(fC 133 (by omega)).1]; exact H1.2.2.1) (by rw [(fC 133 (by omega)).1]; exact H1.2.2.2.1)) rfl)), ab_rec h01 A1 H1 hp fC S2⟩
theorem ab_chgQ {T0 T1 h n : Nat} {C : mm_M} {w : Nat → Int32} {tp : Nat → Nat → Int32} {sv : Nat → Option (Nat → Int32)} {sg : Nat → Nat} {P K W T : Nat} {N : Nat → Nat} {xS : Nat → Nat → Nat} (A : Ab T0 C w h tp sv n sg) (hT : TX T xS T0 w K P) (S : Sim okA C 1 w P K W T N xS) {op : mm_M → Option (Int32 × mm_M)} {Q : Int32 → (Nat → Int32) → Prop} (h01 : T0 ≤ T1) (hop : ∀ C1, Sim okA C1 1 w P K W T N xS → ∃ r C2 w2, ¬ r < 0 ∧ op C1 = some (r, C2) ∧ FrC C1 C2 1 ∧ SimX C2 1 w2 T1 ∧ Q r w2) : ∃ r C' w2, chg C op = some (r, C') ∧ Ab T1 C' w2 (hpp h) (psh w tp) sv n sg ∧ Q r w2 := by
  obtain ⟨b, H⟩ := A.2.1
  obtain ⟨C1, e1, A1, H1, hp, S1, f1⟩ := ab_prep A H hT S
  obtain ⟨r, C2, w2, hr, e2, fC, S2, hQ⟩ := hop C1 S1
  exact ⟨r, _, w2, bn_i e1 (bn2_i e2 (bn2_i (g_rec hr H1.1 H1.2.1 (by rw [(fC 133 (by omega)).1]; exact H1.2.2.1) (by rw [(fC 133 (by omega)).1]; exact H1.2.2.2.1)) rfl)), ab_rec h01 A1 H1 hp fC S2, hQ⟩
theorem ab_err {T0 h n : Nat} {C : mm_M} {w : Nat → Int32} {tp : Nat → Nat → Int32} {sv : Nat → Option (Nat → Int32)} {sg : Nat → Nat} {P K W T : Nat} {N : Nat → Nat} {xS : Nat → Nat → Nat} (A : Ab T0 C w h tp sv n sg) (hT : TX T xS T0 w K P) (S : Sim okA C 1 w P K W T N xS) {op : mm_M → Option (Int32 × mm_M)} {r : Int32} (hr : r < 0) (hop : ∀ C1, Sim okA C1 1 w P K W T N xS → op C1 = some (r, C1)) : ∃ C', chg C op = some (r, C') ∧ Ab T0 C' w h tp sv n sg ∧ Sim okA C' 1 w P K W T N xS := by
  obtain ⟨b, H⟩ := A.2.1
  obtain ⟨C1, e1, A1, H1, hp, S1, f1⟩ := ab_prep A H hT S
  exact ⟨C1, bn_i e1 (bn2_i (hop C1 S1) (bn2_i (q_rec hr) rfl)), A1, S1⟩
theorem ab_undo0 {T0 n : Nat} {C : mm_M} {w : Nat → Int32} {tp : Nat → Nat → Int32} {sv : Nat → Option (Nat → Int32)} {sg : Nat → Nat} (A : Ab T0 C w 0 tp sv n sg) : fX6_undo C = some (-5, C) := by
  obtain ⟨b, H⟩ := A.2.1
  exact if_pi H.2.2.2.1 rfl
theorem ab_undo {T0 g n : Nat} {C : mm_M} {w : Nat → Int32} {tp : Nat → Nat → Int32} {sv : Nat → Option (Nat → Int32)} {sg : Nat → Nat} (A : Ab T0 C w (g + 1) tp sv n sg) : ∃ C', fX6_undo C = some (nI g, C') ∧ Ab T0 C' (tp 0) g (fun i => tp (i + 1)) sv n sg := by
  obtain ⟨-, ⟨b, lb, lh, cb, ch, hr⟩, a3, a4⟩ := A
  have hg : nI (g + 1) - 1 = nI g := by rw [← nI_1, Int32.add_sub_cancel]
  have c0 : ∀ o, o ≠ 133 → (sI C 133 2 (nI g)).1 o = C.1 o ∧ (sI C 133 2 (nI g)).2 o = C.2 o := fun o ho => ⟨by rw [sI_ap1, if_neg ho], rfl⟩
  have c1 : (sI C 133 2 (nI g)).1 133 1 = nI b := by rw [sI_ap1, if_pos rfl]; exact cb
  have c2 : (sI C 133 2 (nI g)).1 133 2 = nI g := by rw [sI_ap1, if_pos rfl, if_pos rfl]
  have hm := Nat.mod_lt (b + g) (show 0 < 7 by omega)
  have h0 := hr 0 (by omega)
  rw [show g + 1 - 1 - 0 = g by omega] at h0
  obtain ⟨P, K, W, T, N, xS, hT, S⟩ := h0.frame (C' := sI C 133 2 (nI g)) (fun o ho => c0 o (by omega))
  obtain ⟨Y, eY, SY, fY⟩ := cp_all (a0 := 1) S (by omega)
  have yo' : ∀ o, 67 ≤ o → o ≠ 133 → Y.1 o = C.1 o ∧ Y.2 o = C.2 o := fun o h1 h2 => ⟨(fY o (by omega)).1.trans (c0 o h2).1, (fY o (by omega)).2.trans (c0 o h2).2⟩
  refine ⟨Y, ?_, ⟨P, K, W, T, N, xS, hT, SY⟩, ⟨b, lb, by omega, by rw [(fY 133 (by omega)).1]; exact c1, by rw [(fY 133 (by omega)).1]; exact c2, fun i hi => ?_⟩, a3.frame (fun o ho => yo' o (by omega) (by omega)), a4.of (fun o h1 h2 => (yo' o (by omega) (by omega)).1)⟩
  · unfold fX6_undo fX2_takeBack
    rw [ch]
    refine if_ni (nI_ne0 (by omega) (by omega)) ?_
    refine bn_i (a := Y) (if_ni (nI_nle (by omega) (by omega)) ?_) ?_
    · rw [hg]
      refine lt_i ?_
      rw [c1, c2, nI_add, mod7 (b + g) (by omega)]
      refine gd_i (ix_nI (n := 7) hm (by decide)) ?_
      rw [nI_clamp (by omega)]
      exact bn_i eY rfl
    · rw [(fY 133 (by omega)).1, c2]
  · have := hr (i + 1) (by omega)
    rw [show g + 1 - 1 - (i + 1) = g - 1 - i by omega] at this
    exact this.frame (fun o ho => yo' o (by have := Nat.mod_lt (b + (g - 1 - i)) (show 0 < 7 by omega); omega) (by omega))
theorem ab_save {T0 h n q : Nat} {C : mm_M} {w : Nat → Int32} {tp : Nat → Nat → Int32} {sv : Nat → Option (Nat → Int32)} {sg : Nat → Nat} (A : Ab T0 C w h tp sv n sg) (hq : q < 2) : ∃ C', fX6_save C (nI q) = some (w 10, C') ∧ Ab T0 C' w h tp (fun x => if x = q then some w else sv x) n sg := by
  obtain ⟨⟨P, K, W, T, N, xS, hT, S⟩, ⟨b, a2⟩, a3, a4⟩ := A
  obtain ⟨Y, eY, SY, fY⟩ := cp_all (a0 := 597 + 66 * q) S (by omega)
  have c0 : ∀ o, o < 597 + 66 * q ∨ 597 + 66 * q + 66 ≤ o → (sI Y (597 + 66 * q) 6 1).1 o = C.1 o ∧ (sI Y (597 + 66 * q) 6 1).2 o = C.2 o := fun o ho => ⟨by rw [sI_ap1, if_neg (by omega)]; exact (fY o ho).1, (fY o ho).2⟩
  have SZ : Sim okA (sI Y (597 + 66 * q) 6 1) (597 + 66 * q) w P K W T N xS := by
    refine ⟨SY.bd, fun o k s hl => ?_, SY.sumE, SY.val⟩
    rw [← SY.eq o k s hl, sI_ap1]
    by_cases e : o = 597 + 66 * q
    · subst e
      rw [if_pos rfl]
      have hk : k ≠ 6 := by
        rcases hl with ⟨g1, g2, g3⟩ | ⟨g1, g2, g3⟩ | ⟨g1, g2, g3⟩ | ⟨g1, g2, g3⟩ | ⟨i', hi', g1, g2, g3⟩ | ⟨i', hi', g1, g2, go, g3⟩ | ⟨i', hi', g1, g2, g3⟩ | ⟨i', hi', g1, g2, g3⟩ <;> omega
      exact if_neg hk
    · rw [if_neg e]
  have e27 : fX6_save_27 (nI q) C (597 + 66 * q) = some (w 10, sI Y (597 + 66 * q) 6 1) := by
    unfold fX6_save_27
    refine bn_i eY (lt_i ?_)
    rw [(c0 1 (by omega)).1, S.cT, S.wT]
  refine ⟨sI Y (597 + 66 * q) 6 1, ?_, SimX.frame ⟨P, K, W, T, N, xS, hT, S⟩ (fun o ho => c0 o (by omega)), ⟨b, a2.frame (fun o ho => c0 o (by omega))⟩, fun x hx => ?_, a4.of (fun o h1 h2 => (c0 o (by omega)).1)⟩
  · unfold fX6_save
    refine if_ni (nI_pos (by omega)) (if_pi (show nI q < nI 2 from nI_lt hq (by omega)) ?_)
    by_cases e : q = 0
    · exact if_pi (by rw [e]; rfl) (Eq.trans (congrArg (fun x => fX6_save_27 (nI q) C x) (show 597 = 597 + 66 * q by omega)) e27)
    · exact if_ni (fun z => e ((nI_eq (b := 0) (by omega) (by omega)).mp z)) (Eq.trans (congrArg (fun x => fX6_save_27 (nI q) C x) (show 663 = 597 + 66 * q by omega)) e27)
  · by_cases e : x = q
    · subst e
      refine Or.inr ⟨?_, w, if_pos rfl, P, K, W, T, N, xS, hT, SZ⟩
      rw [sI_ap1, if_pos rfl, if_pos rfl]; decide
    · rw [(c0 (597 + 66 * x) (by omega)).1]
      rcases a3 x hx with g | ⟨g1, u, g2, g3⟩
      · exact Or.inl ⟨g.1, (if_neg e).trans g.2⟩
      · exact Or.inr ⟨g1, u, (if_neg e).trans g2, g3.frame (fun o ho => c0 o (by omega))⟩
theorem ab_rest {T0 h n q : Nat} {C : mm_M} {w u : Nat → Int32} {tp : Nat → Nat → Int32} {sv : Nat → Option (Nat → Int32)} {sg : Nat → Nat} (A : Ab T0 C w h tp sv n sg) (hq : q < 2) (hu : sv q = some u) : ∃ C', fX6_restore C (nI q) = some (u 10, C') ∧ Ab T0 C' u (hpp h) (psh w tp) sv n sg := by
  obtain ⟨P, K, W, T, N, xS, hT, S⟩ := A.1
  obtain ⟨b, H⟩ := A.2.1
  obtain ⟨C1, e1, A1, H1, hp, S1, f1⟩ := ab_prep A H hT S
  have hm := Nat.mod_lt (b + h) (show 0 < 7 by omega)
  rcases A.2.2.1 q hq with g | ⟨g1, u', g2, g3⟩
  · rw [g.2] at hu; cases hu
  · rw [g2] at hu
    have eu : u' = u := Option.some.inj hu
    subst eu
    obtain ⟨P, K, W, T, N, xS, hT, S⟩ := g3.frame (C' := C1) (fun o ho => f1 o (by omega))
    obtain ⟨Y, eY, SY, fY⟩ := cp_all (a0 := 1) S (by omega)
    have y1 : Y.1 1 0 = u' 10 := SY.cT.trans SY.wT.symm
    have e27 : fX6_restore_27 (nI q) C (597 + 66 * q) = some (u' 10, if h = 6 then sI Y 133 1 (nI ((b + 1) % 7)) else sI Y 133 2 (nI (h + 1))) := by
      refine if_ni g1 (bn_i e1 (bn_i eY ?_))
      rw [y1]
      exact bn2_i (g_rec (by rw [S.wT]; exact nI_pos (by have := S.bd.lT; omega)) H1.1 H1.2.1 (by rw [(fY 133 (by omega)).1]; exact H1.2.2.1) (by rw [(fY 133 (by omega)).1]; exact H1.2.2.2.1)) rfl
    refine ⟨_, ?_, ab_rec (Nat.le_refl _) A1 H1 hp fY ⟨P, K, W, T, N, xS, hT, SY⟩⟩
    unfold fX6_restore
    refine if_ni (nI_pos (by omega)) (if_pi (show nI q < nI 2 from nI_lt hq (by omega)) ?_)
    by_cases e : q = 0
    · exact if_pi (by rw [e]; rfl) (Eq.trans (congrArg (fun x => fX6_restore_27 (nI q) C x) (show 597 = 597 + 66 * q by omega)) e27)
    · exact if_ni (fun z => e ((nI_eq (b := 0) (by omega) (by omega)).mp z)) (Eq.trans (congrArg (fun x => fX6_restore_27 (nI q) C x) (show 663 = 597 + 66 * q by omega)) e27)
theorem ab_wipe {T0 h n : Nat} {C : mm_M} {w : Nat → Int32} {tp : Nat → Nat → Int32} {sv : Nat → Option (Nat → Int32)} {sg : Nat → Nat} (A : Ab T0 C w h tp sv n sg) : ∃ C', fX6_wipe C = some (nI n, C') ∧ Ab T0 C' w h tp sv 0 sg := by
  obtain ⟨a1, ⟨b, a2⟩, a3, a4⟩ := A
  have c0 : ∀ o, o ≠ 729 → (sI C 729 1 0).1 o = C.1 o ∧ (sI C 729 1 0).2 o = C.2 o := fun o ho => ⟨by rw [sI_ap1, if_neg ho], rfl⟩
  refine ⟨sI C 729 1 0, ?_, a1.frame (fun o ho => c0 o (by omega)), ⟨b, a2.frame (fun o ho => c0 o (by omega))⟩, a3.frame (fun o ho => c0 o (by omega)), by omega, ?_, fun i hi => absurd hi (by omega), fun i hi => absurd hi (by omega)⟩
  · unfold fX6_wipe
    rw [a4.2.1]; rfl
  · rw [sI_ap1, if_pos rfl, if_pos rfl]; rfl
theorem ab_fault {T0 h n : Nat} {C : mm_M} {w : Nat → Int32} {tp : Nat → Nat → Int32} {sv : Nat → Option (Nat → Int32)} {sg : Nat → Nat} (A : Ab T0 C w h tp sv n sg) : fX6_fault C = some (AF sg n 0 4) := bn_i (q_findF A.2.2.2) rfl
theorem ab_c6 {T0 h n : Nat} {C : mm_M} {w : Nat → Int32} {tp : Nat → Nat → Int32} {sv : Nat → Option (Nat → Int32)} {sg : Nat → Nat} (A : Ab T0 C w h tp sv n sg) : fX6_count C 6 = some (nI n) := (v_count6 C).trans (congrArg some A.2.2.2.2.1)
theorem ab_c7 {T0 h n : Nat} {C : mm_M} {w : Nat → Int32} {tp : Nat → Nat → Int32} {sv : Nat → Option (Nat → Int32)} {sg : Nat → Nat} (A : Ab T0 C w h tp sv n sg) : fX6_count C 7 = some (nI h) := by
  obtain ⟨b, H⟩ := A.2.1
  exact (v_count7 C).trans (congrArg some H.2.2.2.1)
/-- a sign is put -/
theorem gP_1 : ∀ c, c < 127 → 33 ≤ c → gP c 8 0 = 1 := by decide +kernel
theorem ab_put {T0 h n c : Nat} {C : mm_M} {w : Nat → Int32} {tp : Nat → Nat → Int32} {sv : Nat → Option (Nat → Int32)} {sg : Nat → Nat} (A : Ab T0 C w h tp sv n sg) {x : Int64} (hx : wN x = c) (c1 : 33 ≤ c) (c2 : c < 127) (hn : n < 80) : ∃ C', fX6_put C x = some (nI (n + 1), C') ∧ Ab T0 C' w h tp sv (n + 1) (fun i => if i = n then c else sg i) := by
  obtain ⟨a1, ⟨b, a2⟩, a3, a4⟩ := A
  have hc := q_count x C 8 0 FU rfl (by unfold FU; omega)
  rw [hx, gP_1 c c2 c1] at hc
  obtain ⟨C', q1, q2, q3, q4, q5, q6⟩ := q_appG x 1 FU n C (by unfold FU; omega) (by omega) (by omega) a4.2.1
  have fC : ∀ o, o < 729 → C'.1 o = C.1 o ∧ C'.2 o = C.2 o := fun o ho => ⟨q5 o (by omega) (by omega), by rw [q6]⟩
  refine ⟨C', ?_, a1.frame (fun o ho => fC o (by omega)), ⟨b, a2.frame (fun o ho => fC o (by omega))⟩, a3.frame (fun o ho => fC o (by omega)), by omega, q2, fun i hi => ?_, fun i hi => ?_⟩
  · unfold fX6_put
    refine bn2_i (a := nI (n + 1)) (b := C') ?_ rfl
    unfold fX3_append
    refine bn_i hc ?_
    rw [a4.2.1]
    refine if_pi (by decide) (if_pi (show nI n + nI 1 ≤ nI 80 by rw [nI_add]; exact nI_le (by omega) (by omega)) ?_)
    exact q1
  · show C'.1 730 i = nI (if i = n then c else sg i)
    by_cases e : i = n
    · rw [if_pos e, q3 i (by omega) (by omega), e, show 1 - 1 - (n - n) = 0 by omega, hx]
      congr 1
      unfold cdx
      rw [show 8 * 0 = 0 from rfl, Nat.pow_zero, Nat.div_one]
      omega
    · rw [if_neg e, q4 i (by omega)]
      exact a4.2.2.1 i (by omega)
  · show 33 ≤ (if i = n then c else sg i) ∧ (if i = n then c else sg i) ≤ 126
    by_cases e : i = n
    · rw [if_pos e]; omega
    · rw [if_neg e]; exact a4.2.2.2 i (by omega)
