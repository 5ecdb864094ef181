/-! SIM: history, slots, pad: both sides as a whole -/
theorem Lk_lt {ok : Nat → Nat → Prop} {a P K W : Nat} {N : Nat → Nat} (B : Bd P K W 0 N) {o k j : Nat} (h : Lk ok a P K W N o k j) : j < 3592 ∧ a ≤ o ∧ o < a + 66 := by
  obtain ⟨lP, lK, lW, -, lN⟩ := B
  rcases h with ⟨h1, h2, h3⟩ | ⟨h1, h2, h3⟩ | ⟨h1, h2, h3⟩ | ⟨h1, h2, h3⟩ | ⟨i', hi', h1, h2, h3⟩ | ⟨i', hi', h1, h2, ho, h3⟩ | ⟨i', hi', h1, h2, h3⟩ | ⟨i', hi', h1, h2, h3⟩ <;>
  (try have n1 := lN i') <;> (try have s1 := sf_lt k h2) <;> omega
theorem Ok_hi {P K W T : Nat} {N : Nat → Nat} (B : Bd P K W 0 N) {j : Nat} {v : Int32} (h : 3592 ≤ j) : Ok P K W T N j v := by
  obtain ⟨lP, lK, lW, -, lN⟩ := B
  refine ⟨?_, ?_, ?_, ?_, ?_, ?_, ?_, ?_, ?_, ?_, ?_, ?_, ?_, ?_, ?_, ?_, ?_, ?_, ?_, ?_⟩ <;> intros <;> (try (rename_i i hi k hk e; have := lN i)) <;> omega
theorem Sim.congr {ok : Nat → Nat → Prop} {C : mm_M} {a : Nat} {w w' : Nat → Int32} {P K W T : Nat} {N : Nat → Nat} (S : Sim ok C a w P K W T N) (h : ∀ j, j < 3592 → w' j = w j) : Sim ok C a w' P K W T N := by
  refine ⟨S.bd, fun o k j hl => ?_, fun i hi k hk => ?_, fun j => ?_⟩
  · rw [h j (Lk_lt S.bd0 hl).1]; exact S.eq o k j hl
  · rw [h _ (by have := S.bd.lK; omega)]; exact S.sum i hi k hk
  · rcases Nat.lt_or_ge j 3592 with q | q
    · rw [h j q]; exact S.val j
    · exact Ok_hi S.bd0 q
theorem Sim.frame {ok : Nat → Nat → Prop} {C C' : mm_M} {a : Nat} {w : Nat → Int32} {P K W T : Nat} {N : Nat → Nat} (S : Sim ok C a w P K W T N) (h : ∀ o, a ≤ o ∧ o < a + 66 → C'.1 o = C.1 o ∧ C'.2 o = C.2 o) : Sim ok C' a w P K W T N := by
  refine ⟨S.bd, fun o k j hl => ?_, fun i hi k hk => ?_, S.val⟩
  · rw [(h o (Lk_lt S.bd0 hl).2).1]; exact S.eq o k j hl
  · rw [(h _ (by have := S.bd.lK; omega)).2]; exact S.sum i hi k hk
def SimX (C : mm_M) (a : Nat) (w : Nat → Int32) (T0 : Nat) : Prop := ∃ P K W T N, T ≤ T0 ∧ Sim okA C a w P K W T N
theorem SimX.congr {C : mm_M} {a : Nat} {w w' : Nat → Int32} {T0 : Nat} (S : SimX C a w T0) (h : ∀ j, j < 3592 → w' j = w j) : SimX C a w' T0 := by
  obtain ⟨P, K, W, T, N, hT, S⟩ := S
  exact ⟨P, K, W, T, N, hT, S.congr h⟩
theorem SimX.frame {C C' : mm_M} {a : Nat} {w : Nat → Int32} {T0 : Nat} (S : SimX C a w T0) (h : ∀ o, a ≤ o ∧ o < a + 66 → C'.1 o = C.1 o ∧ C'.2 o = C.2 o) : SimX C' a w T0 := by
  obtain ⟨P, K, W, T, N, hT, S⟩ := S
  exact ⟨P, K, W, T, N, hT, S.frame h⟩
theorem SimX.mono {C : mm_M} {a : Nat} {w : Nat → Int32} {T0 T1 : Nat} (S : SimX C a w T0) (h : T0 ≤ T1) : SimX C a w T1 := by
  obtain ⟨P, K, W, T, N, hT, S⟩ := S
  exact ⟨P, K, W, T, N, Nat.le_trans hT h, S⟩
abbrev Hist (T0 b h : Nat) (C D : mm_M) : Prop := (b < 7) ∧ (h ≤ 6) ∧ (C.1 133 1 = nI b) ∧ (C.1 133 2 = nI h) ∧ (D.1 731 2 = nI h) ∧ (∀ j, j < h → SimX C (135 + 66 * ((b + j) % 7)) (fun k => D.1 733 (3592 * j + k)) T0)
theorem Hist.lb {T0 b h : Nat} {C D : mm_M} (qq : Hist T0 b h C D) : b < 7 := qq.1
theorem Hist.lh {T0 b h : Nat} {C D : mm_M} (qq : Hist T0 b h C D) : h ≤ 6 := qq.2.1
theorem Hist.cb {T0 b h : Nat} {C D : mm_M} (qq : Hist T0 b h C D) : C.1 133 1 = nI b := qq.2.2.1
theorem Hist.ch {T0 b h : Nat} {C D : mm_M} (qq : Hist T0 b h C D) : C.1 133 2 = nI h := qq.2.2.2.1
theorem Hist.dh {T0 b h : Nat} {C D : mm_M} (qq : Hist T0 b h C D) : D.1 731 2 = nI h := qq.2.2.2.2.1
theorem Hist.row {T0 b h : Nat} {C D : mm_M} (qq : Hist T0 b h C D) : ∀ j, j < h → SimX C (135 + 66 * ((b + j) % 7)) (fun k => D.1 733 (3592 * j + k)) T0 := qq.2.2.2.2.2
def Sav (T0 : Nat) (C D : mm_M) : Prop := ∀ q, q < 2 → (C.1 (597 + 66 * q) 6 = 0 ∧ D.1 735 q = 0) ∨ (¬ C.1 (597 + 66 * q) 6 = 0 ∧ ¬ D.1 735 q = 0 ∧ SimX C (597 + 66 * q) (fun k => D.1 734 (3592 * q + k)) T0)
def Pad (C D : mm_M) : Prop := ∃ n, n ≤ 80 ∧ C.1 729 1 = nI n ∧ D.1 731 7 = nI n ∧ ∀ i, i < n → ∃ c, 33 ≤ c ∧ c ≤ 126 ∧ C.1 730 i = nI c ∧ D.1 737 i = nI c
/-- class and reference, the whole -/
abbrev Gl (T0 : Nat) (C D : mm_M) : Prop := (SimX C 1 (D.1 732) T0) ∧ (∃ b h, Hist T0 b h C D) ∧ (Sav T0 C D) ∧ (Pad C D)
theorem Gl.live {T0 : Nat} {C D : mm_M} (h : Gl T0 C D) : SimX C 1 (D.1 732) T0 := h.1
theorem Gl.hist {T0 : Nat} {C D : mm_M} (h : Gl T0 C D) : ∃ b h, Hist T0 b h C D := h.2.1
theorem Gl.sav {T0 : Nat} {C D : mm_M} (h : Gl T0 C D) : Sav T0 C D := h.2.2.1
theorem Gl.pad {T0 : Nat} {C D : mm_M} (h : Gl T0 C D) : Pad C D := h.2.2.2
theorem mod7 : ∀ x, x < 14 → nI x - nI x / 7 * 7 = nI (x % 7) := by decide
theorem Hist.frame {T0 b h : Nat} {C C' D : mm_M} (H : Hist T0 b h C D) (f : ∀ o, 133 ≤ o ∧ o < 597 → C'.1 o = C.1 o ∧ C'.2 o = C.2 o) : Hist T0 b h C' D := by
  refine ⟨H.lb, H.lh, by rw [(f 133 (by omega)).1]; exact H.cb, by rw [(f 133 (by omega)).1]; exact H.ch, H.dh, fun j hj => (H.row j hj).frame (fun o ho => f o ?_)⟩
  have := Nat.mod_lt (b + j) (show 0 < 7 by omega)
  omega
theorem Sav.frame {T0 : Nat} {C C' D : mm_M} (H : Sav T0 C D) (f : ∀ o, 597 ≤ o ∧ o < 729 → C'.1 o = C.1 o ∧ C'.2 o = C.2 o) : Sav T0 C' D := fun q hq => by
  rw [(f (597 + 66 * q) (by omega)).1]
  rcases H q hq with h | ⟨h1, h2, h3⟩
  · exact Or.inl h
  · exact Or.inr ⟨h1, h2, h3.frame (fun o ho => f o (by omega))⟩
theorem Pad.frame {C C' D : mm_M} (H : Pad C D) (f : ∀ o, 729 ≤ o ∧ o < 731 → C'.1 o = C.1 o) : Pad C' D := by
  obtain ⟨n, hn, h1, h2, h3⟩ := H
  exact ⟨n, hn, by rw [f 729 (by omega)]; exact h1, h2, fun i hi => by rw [f 730 (by omega)]; exact h3 i hi⟩
/-- a change is prepared -/
theorem g_prep {T0 b h : Nat} {C D : mm_M} (G : Gl T0 C D) (H : Hist T0 b h C D) : ∃ C1, fX2_prepare C 133 1 = some C1 ∧ Gl T0 C1 D ∧ Hist T0 b h C1 D ∧ SimX C1 (135 + 66 * ((b + h) % 7)) (D.1 732) T0 ∧ FrC C C1 (135 + 66 * ((b + h) % 7)) := by
  have lb := H.lb
  have lh := H.lh
  obtain ⟨P, K, W, T, N, hT, S⟩ := G.live
  have hm := Nat.mod_lt (b + h) (show 0 < 7 by omega)
  obtain ⟨Y, eY, SY, fY⟩ := cp_all (a0 := 135 + 66 * ((b + h) % 7)) S (by omega)
  have H1 : Hist T0 b h Y D := by
    refine ⟨lb, lh, by rw [(fY 133 (by omega)).1]; exact H.cb, by rw [(fY 133 (by omega)).1]; exact H.ch, H.dh, fun j hj => (H.row j hj).frame (fun o ho => fY o ?_)⟩
    have := Nat.mod_lt (b + j) (show 0 < 7 by omega)
    omega
  refine ⟨Y, ?_, ⟨⟨P, K, W, T, N, hT, S.frame (fun o ho => fY o (by omega))⟩, ⟨b, h, H1⟩, G.sav.frame (fun o ho => fY o (by omega)), G.pad.frame (fun o ho => (fY o (by omega)).1)⟩, H1, ⟨P, K, W, T, N, hT, SY⟩, fY⟩
  unfold fX2_prepare
  rw [H.cb, H.ch, nI_add, mod7 (b + h) (by omega)]
  refine gd_i (ix_nI (n := 7) hm (by decide)) ?_
  rw [nI_clamp (by omega)]
  exact bn_i eY rfl
/-- the class records a change -/
theorem g_rec {b h : Nat} {C : mm_M} {r : Int32} (hr : ¬ r < 0) (lb : b < 7) (lh : h ≤ 6) (cb : C.1 133 1 = nI b) (ch : C.1 133 2 = nI h) : fX6_recorded C r = some (r, if h = 6 then sI C 133 1 (nI ((b + 1) % 7)) else sI C 133 2 (nI (h + 1))) := by
  refine if_ni hr (bn_i (a := if h = 6 then sI C 133 1 (nI ((b + 1) % 7)) else sI C 133 2 (nI (h + 1))) ?_ rfl)
  unfold fX2_keepPrepared
  rw [cb, ch]
  by_cases e : h = 6
  · subst e
    rw [if_pos rfl]
    refine if_pi (by decide) (lt_i ?_)
    rw [nI_1, mod7 (b + 1) (by omega)]
  · rw [if_neg e]
    refine if_ni (show ¬ nI 6 ≤ nI h from nI_ge (by omega) (by decide)) (lt_i ?_)
    rw [nI_1]
theorem mulI (n i k : Nat) : nI n * nI i + nI k = nI (n * i + k) := by
  rw [← nI_add]
  congr 1
  exact (Int32.ofNat_mul n i).symm
theorem k_52 {h : Nat} (lh : h ≤ 5) : ∀ (d i n : Nat) (X : mm_M), i + d = 3592 → d < n → X.1 731 2 = nI h → ∃ Y, fX7_keep_52 n X (nI i) = some Y ∧ Y.1 731 2 = nI (h + 1) ∧ (∀ k, k ≠ 2 → Y.1 731 k = X.1 731 k) ∧ (∀ k, Y.1 733 k = if 3592 * h + i ≤ k ∧ k < 3592 * h + 3592 then X.1 732 (k - 3592 * h) else X.1 733 k) ∧ (∀ o, o ≠ 731 → o ≠ 733 → Y.1 o = X.1 o) ∧ Y.2 = X.2 := by
  intro d
  induction d with
  | zero =>
    intro i n X hi hn h2
    obtain ⟨n, rfl⟩ : ∃ q, n = q + 1 := ⟨n - 1, by omega⟩
    have e : i = 3592 := by omega
    subst e
    refine ⟨sI X 731 2 (nI (h + 1)), ?_, ?_, fun k hk => ?_, fun k => ?_, fun o h1 h2 => ?_, rfl⟩
    · rw [fX7_keep_52, h2, nI_1]
      exact if_pi (show (3592 : Int32) ≤ nI 3592 by decide) (lt_i rfl)
    · rw [sI_ap1, if_pos rfl, if_pos rfl]
    · rw [sI_ap1, if_pos rfl, if_neg hk]
    · rw [sI_ap1, if_neg (by omega), if_neg (by omega)]
    · rw [sI_ap1, if_neg h1]
  | succ d ih =>
    intro i n X hi hn h2
    obtain ⟨n, rfl⟩ : ∃ q, n = q + 1 := ⟨n - 1, by omega⟩
    have hc : i < 3592 := by omega
    obtain ⟨Y, eY, y2, yk, y3, yo, yl⟩ := ih (i + 1) n (sI X 733 (3592 * h + i) (X.1 732 i)) (by omega) (by omega) (by rw [sI_ap1, if_neg (by omega)]; exact h2)
    refine ⟨Y, ?_, y2, fun k hk => ?_, fun k => ?_, fun o h1 h2 => ?_, yl⟩
    · rw [fX7_keep_52, h2]
      refine if_ni (show ¬ nI 3592 ≤ nI i from nI_ge hc (by decide)) ?_
      have en : 3592 * nI h + nI i = nI (3592 * h + i) := mulI 3592 h i
      rw [en]
      refine gd_i (ix_nI hc (by decide)) (gd_i (ix_nI (n := 21552) (by omega) (by decide)) (lt_i (lt_i ?_)))
      rw [nI_clamp (by omega), nI_clamp (by omega), nI_1]
      exact eY
    · rw [yk k hk, sI_ap1, if_neg (by omega)]
    · rw [y3]
      by_cases q : 3592 * h + (i + 1) ≤ k ∧ k < 3592 * h + 3592
      · rw [if_pos q, if_pos (by omega), sI_ap1, if_neg (by omega)]
      · rw [if_neg q, sI_ap1, if_pos rfl]
        show (if k = 3592 * h + i then X.1 732 i else X.1 733 k) = _
        by_cases q2 : k = 3592 * h + i
        · rw [if_pos q2, if_pos (by omega), show k - 3592 * h = i by omega]
        · rw [if_neg q2, if_neg (by omega)]
    · rw [yo o h1 h2, sI_ap1, if_neg h2]
theorem k_11 : ∀ (d i n : Nat) (X : mm_M), i + d = 17960 → d < n → X.1 731 2 = nI 6 → ∃ Y, fX7_keep_11 n X (nI i) = some Y ∧ Y.1 731 2 = nI 6 ∧ (∀ k, k ≠ 2 → Y.1 731 k = X.1 731 k) ∧ (∀ k, Y.1 733 k = if i ≤ k ∧ k < 17960 then X.1 733 (k + 3592) else if 17960 ≤ k ∧ k < 21552 then X.1 732 (k - 17960) else X.1 733 k) ∧ (∀ o, o ≠ 731 → o ≠ 733 → Y.1 o = X.1 o) ∧ Y.2 = X.2 := by
  intro d
  induction d with
  | zero =>
    intro i n X hi hn h2
    obtain ⟨n, rfl⟩ : ∃ q, n = q + 1 := ⟨n - 1, by omega⟩
    have e : i = 17960 := by omega
    subst e
    obtain ⟨Y, eY, y2, yk, y3, yo, yl⟩ := k_52 (h := 5) (by omega) 3592 0 FU (sI X 731 2 (nI 5)) rfl (by decide) (by rw [sI_ap1, if_pos rfl, if_pos rfl])
    refine ⟨Y, ?_, y2, fun k hk => ?_, fun k => ?_, fun o h1 h2 => ?_, yl⟩
    · rw [fX7_keep_11, h2]
      refine if_pi (show (17960 : Int32) ≤ nI 17960 by decide) (lt_i ?_)
      rw [show nI 6 - 1 = nI 5 by decide]
      exact eY
    · rw [yk k hk, sI_ap1, if_pos rfl, if_neg hk]
    · rw [y3]
      have a1 : (sI X 731 2 (nI 5)).1 732 = X.1 732 := by rw [sI_ap1, if_neg (by omega)]
      have a2 : (sI X 731 2 (nI 5)).1 733 = X.1 733 := by rw [sI_ap1, if_neg (by omega)]
      rw [a1, a2]
      by_cases q : 17960 ≤ k ∧ k < 21552
      · simp only [if_pos q, if_pos (show 3592 * 5 + 0 ≤ k ∧ k < 3592 * 5 + 3592 by omega), if_neg (show ¬ (17960 ≤ k ∧ k < 17960) by omega)]
      · simp only [if_neg q, if_neg (show ¬ (3592 * 5 + 0 ≤ k ∧ k < 3592 * 5 + 3592) by omega), if_neg (show ¬ (17960 ≤ k ∧ k < 17960) by omega)]
    · rw [yo o h1 h2, sI_ap1, if_neg h1]
  | succ d ih =>
    intro i n X hi hn h2
    obtain ⟨n, rfl⟩ : ∃ q, n = q + 1 := ⟨n - 1, by omega⟩
    have hc : i < 17960 := by omega
    obtain ⟨Y, eY, y2, yk, y3, yo, yl⟩ := ih (i + 1) n (sI X 733 i (X.1 733 (i + 3592))) (by omega) (by omega) (by rw [sI_ap1, if_neg (by omega)]; exact h2)
    refine ⟨Y, ?_, y2, fun k hk => ?_, fun k => ?_, fun o h1 h2 => ?_, yl⟩
    · rw [fX7_keep_11]
      refine if_ni (show ¬ nI 17960 ≤ nI i from nI_ge hc (by decide)) ?_
      have en : nI i + 3592 = nI (i + 3592) := nI_add i 3592
      rw [en]
      refine gd_i (ix_nI (n := 21552) (by omega) (by decide)) (gd_i (ix_nI (n := 21552) (by omega) (by decide)) (lt_i (lt_i ?_)))
      rw [nI_clamp (by omega), nI_clamp (by omega), nI_1]
      exact eY
    · rw [yk k hk, sI_ap1, if_neg (by omega)]
    · have z3 : ∀ j, (sI X 733 i (X.1 733 (i + 3592))).1 733 j = if j = i then X.1 733 (i + 3592) else X.1 733 j := fun j => by rw [sI_ap1, if_pos rfl]
      have z2 : (sI X 733 i (X.1 733 (i + 3592))).1 732 = X.1 732 := by rw [sI_ap1, if_neg (by omega)]
      rw [y3, z2, z3, z3]
      by_cases q : i + 1 ≤ k ∧ k < 17960
      · simp only [if_pos q, if_pos (show i ≤ k ∧ k < 17960 by omega), if_neg (show ¬ k + 3592 = i by omega)]
      · simp only [if_neg q]
        by_cases q2 : k = i
        · subst q2
          simp only [if_neg (show ¬ (17960 ≤ k ∧ k < 21552) by omega), if_pos (show k ≤ k ∧ k < 17960 by omega)]
          rfl
        · by_cases q3 : 17960 ≤ k ∧ k < 21552
          · simp only [if_pos q3, if_neg (show ¬ (i ≤ k ∧ k < 17960) by omega)]
          · simp only [if_neg q3, if_neg q2, if_neg (show ¬ (i ≤ k ∧ k < 17960) by omega)]
    · rw [yo o h1 h2, sI_ap1, if_neg h2]
/-- the reference keeps its row -/
abbrev Kp (h : Nat) (D D1 : mm_M) : Prop := (D1.1 731 2 = nI (if h = 6 then 6 else h + 1)) ∧ (∀ k, k ≠ 2 → D1.1 731 k = D.1 731 k) ∧ (∀ j, j < (if h = 6 then 5 else h) → ∀ k, k < 3592 → D1.1 733 (3592 * j + k) = D.1 733 (3592 * (if h = 6 then j + 1 else j) + k)) ∧ (∀ k, k < 3592 → D1.1 733 (3592 * (if h = 6 then 5 else h) + k) = D.1 732 k) ∧ (∀ o, o ≠ 731 → o ≠ 733 → D1.1 o = D.1 o) ∧ (D1.2 = D.2)
theorem Kp.cnt {h : Nat} {D D1 : mm_M} (qq : Kp h D D1) : D1.1 731 2 = nI (if h = 6 then 6 else h + 1) := qq.1
theorem Kp.own {h : Nat} {D D1 : mm_M} (qq : Kp h D D1) : ∀ k, k ≠ 2 → D1.1 731 k = D.1 731 k := qq.2.1
theorem Kp.old {h : Nat} {D D1 : mm_M} (qq : Kp h D D1) : ∀ j, j < (if h = 6 then 5 else h) → ∀ k, k < 3592 → D1.1 733 (3592 * j + k) = D.1 733 (3592 * (if h = 6 then j + 1 else j) + k) := qq.2.2.1
theorem Kp.new {h : Nat} {D D1 : mm_M} (qq : Kp h D D1) : ∀ k, k < 3592 → D1.1 733 (3592 * (if h = 6 then 5 else h) + k) = D.1 732 k := qq.2.2.2.1
theorem Kp.oth {h : Nat} {D D1 : mm_M} (qq : Kp h D D1) : ∀ o, o ≠ 731 → o ≠ 733 → D1.1 o = D.1 o := qq.2.2.2.2.1
theorem Kp.lng {h : Nat} {D D1 : mm_M} (qq : Kp h D D1) : D1.2 = D.2 := qq.2.2.2.2.2
theorem g_keep {h : Nat} {D : mm_M} (lh : h ≤ 6) (dh : D.1 731 2 = nI h) : ∃ D1, fX7_keep D = some D1 ∧ Kp h D D1 := by
  unfold fX7_keep
  rw [dh]
  by_cases e : h = 6
  · subst e
    obtain ⟨Y, eY, y2, yk, y3, yo, yl⟩ := k_11 17960 0 FU D rfl (by decide) dh
    refine ⟨Y, if_pi rfl eY, ?_, yk, fun j hj k hk => ?_, fun k hk => ?_, yo, yl⟩
    · rw [if_pos rfl]; exact y2
    · rw [if_pos rfl] at hj ⊢
      rw [y3, if_pos (by omega), show 3592 * j + k + 3592 = 3592 * (j + 1) + k by omega]
    · rw [if_pos rfl, y3, if_neg (by omega), if_pos (by omega), show 3592 * 5 + k - 17960 = k by omega]
  · obtain ⟨Y, eY, y2, yk, y3, yo, yl⟩ := k_52 (h := h) (by omega) 3592 0 FU D rfl (by decide) dh
    refine ⟨Y, if_ni (fun q => e ((nI_eq (a := h) (b := 6) (by omega) (by omega)).mp q)) eY, ?_, yk, fun j hj k hk => ?_, fun k hk => ?_, yo, yl⟩
    · rw [if_neg e]; exact y2
    · rw [if_neg e] at hj ⊢
      rw [y3, if_neg (by omega)]
    · rw [if_neg e, y3, if_pos (by omega), show 3592 * h + k - 3592 * h = k by omega]
/-- a change on both sides -/
theorem g_change {T0 T1 b h : Nat} {C1 C2 D D1 D2 : mm_M} (hT : T0 ≤ T1) (G : Gl T0 C1 D) (H : Hist T0 b h C1 D) (hp : SimX C1 (135 + 66 * ((b + h) % 7)) (D.1 732) T0) (fC : FrC C1 C2 1) (S2 : SimX C2 1 (D2.1 732) T1) (kp : Kp h D D1) (fD : FrD D1 D2) : Gl T1 (if h = 6 then sI C2 133 1 (nI ((b + 1) % 7)) else sI C2 133 2 (nI (h + 1))) D2 := by
  have lb := H.lb
  have lh := H.lh
  obtain ⟨C3, e3⟩ : ∃ X, X = (if h = 6 then sI C2 133 1 (nI ((b + 1) % 7)) else sI C2 133 2 (nI (h + 1))) := ⟨_, rfl⟩
  have c3 : ∀ o, o ≠ 133 → C3.1 o = C2.1 o ∧ C3.2 o = C2.2 o := by
    intro o ho
    rw [e3]
    by_cases e : h = 6
    · rw [if_pos e]; exact ⟨by rw [sI_ap1, if_neg ho], rfl⟩
    · rw [if_neg e]; exact ⟨by rw [sI_ap1, if_neg ho], rfl⟩
  have c31 : ∀ o, 67 ≤ o → o ≠ 133 → C3.1 o = C1.1 o ∧ C3.2 o = C1.2 o := fun o h1 h2 => ⟨(c3 o h2).1.trans (fC o (by omega)).1, (c3 o h2).2.trans (fC o (by omega)).2⟩
  have d2 : ∀ o, o ≠ 731 → o ≠ 732 → o ≠ 733 → D2.1 o = D.1 o := fun o h1 h2 h3 => (fD.oth o h1 h2).trans (kp.oth o h1 h3)
  have f133 : C2.1 133 = C1.1 133 := (fC 133 (by omega)).1
  rw [← e3]
  refine ⟨S2.frame (fun o ho => c3 o (by omega)), ⟨if h = 6 then (b + 1) % 7 else b, if h = 6 then 6 else h + 1, ?_⟩, ?_, ?_⟩
  · by_cases e : h = 6
    · subst e
      rw [if_pos rfl] at e3
      rw [if_pos rfl, if_pos rfl]
      refine ⟨Nat.mod_lt _ (by omega), by omega, ?_, ?_, ?_, fun j hj => ?_⟩
      · rw [e3, sI_ap1, if_pos rfl, if_pos rfl]
      · rw [e3, sI_ap1, if_pos rfl]
        show (if (2 : Nat) = 1 then _ else C2.1 133 2) = _
        rw [if_neg (by omega), f133]; exact H.ch
      · rw [fD.own 2 (by omega)]; exact kp.cnt
      · have ej : ((b + 1) % 7 + j) % 7 = (b + (j + 1)) % 7 := by omega
        rw [ej]
        have hm := Nat.mod_lt (b + (j + 1)) (show 0 < 7 by omega)
        by_cases q : j = 5
        · subst q
          refine (((hp.frame (fun o ho => c31 o (by omega) (by omega))).congr (fun k hk => ?_)).mono hT)
          show D2.1 733 _ = _
          rw [fD.oth 733 (by omega) (by omega)]
          exact kp.new k hk
        · refine ((((H.row (j + 1) (by omega)).frame (fun o ho => c31 o (by omega) (by omega))).congr (fun k hk => ?_)).mono hT)
          show D2.1 733 _ = _
          rw [fD.oth 733 (by omega) (by omega)]
          exact kp.old j (by rw [if_pos rfl]; omega) k hk
    · rw [if_neg e] at e3
      rw [if_neg e, if_neg e]
      refine ⟨lb, by omega, ?_, ?_, ?_, fun j hj => ?_⟩
      · rw [e3, sI_ap1, if_pos rfl]
        show (if (1 : Nat) = 2 then _ else C2.1 133 1) = _
        rw [if_neg (by omega), f133]; exact H.cb
      · rw [e3, sI_ap1, if_pos rfl, if_pos rfl]
      · rw [fD.own 2 (by omega), kp.cnt, if_neg e]
      · have hm := Nat.mod_lt (b + j) (show 0 < 7 by omega)
        by_cases q : j = h
        · subst q
          refine (((hp.frame (fun o ho => c31 o (by omega) (by omega))).congr (fun k hk => ?_)).mono hT)
          show D2.1 733 _ = _
          rw [fD.oth 733 (by omega) (by omega)]
          have := kp.new k hk
          rw [if_neg e] at this
          exact this
        · refine ((((H.row j (by omega)).frame (fun o ho => c31 o (by omega) (by omega))).congr (fun k hk => ?_)).mono hT)
          show D2.1 733 _ = _
          rw [fD.oth 733 (by omega) (by omega)]
          have := kp.old j (by rw [if_neg e]; omega) k hk
          rw [if_neg e] at this
          exact this
  · intro q hq
    rw [(c31 (597 + 66 * q) (by omega) (by omega)).1, d2 735 (by omega) (by omega) (by omega)]
    rcases G.sav q hq with g | ⟨g1, g2, g3⟩
    · exact Or.inl g
    · refine Or.inr ⟨g1, g2, ((g3.frame (fun o ho => c31 o (by omega) (by omega))).congr (fun k hk => ?_)).mono hT⟩
      show D2.1 734 _ = _
      rw [d2 734 (by omega) (by omega) (by omega)]
  · obtain ⟨n, hn, h1, h2, h3⟩ := G.pad
    refine ⟨n, hn, by rw [(c31 729 (by omega) (by omega)).1]; exact h1, by rw [fD.own 7 (by omega), kp.own 7 (by omega)]; exact h2, fun i hi => ?_⟩
    rw [(c31 730 (by omega) (by omega)).1, d2 737 (by omega) (by omega) (by omega)]
    exact h3 i hi
/-- class f and reference g answer alike and stay alike -/
def chg (C : mm_M) (op : mm_M → Option (Int32 × mm_M)) : Option (Int32 × mm_M) := bn (fX2_prepare C 133 1) fun M2 => bn2 (op M2) fun r4 M5 => bn2 (fX6_recorded M5 r4) fun r7 M8 => some (r7, M8)
def Out (T1 : Nat) (C D C' D' : mm_M) : Prop := Gl T1 C' D' ∧ (∀ o, 731 ≤ o → C'.1 o = C.1 o) ∧ ∀ o, o < 731 → D'.1 o = D.1 o ∧ D'.2 o = D.2 o
def Tw (T0 T1 : Nat) (f g : mm_M → Option (Int32 × mm_M)) : Prop := ∀ C D, Gl T0 C D → ∃ r C' D', f C = some (r, C') ∧ g D = some (r, D') ∧ Out T1 C D C' D'
theorem Gl.mono {T0 T1 : Nat} {C D : mm_M} (G : Gl T0 C D) (h : T0 ≤ T1) : Gl T1 C D := by
  obtain ⟨b, k, H⟩ := G.hist
  refine ⟨G.live.mono h, ⟨b, k, H.lb, H.lh, H.cb, H.ch, H.dh, fun j hj => (H.row j hj).mono h⟩, fun q hq => ?_, G.pad⟩
  rcases G.sav q hq with g | ⟨g1, g2, g3⟩
  · exact Or.inl g
  · exact Or.inr ⟨g1, g2, g3.mono h⟩
theorem g_op {T0 T1 : Nat} (hT : T0 ≤ T1) {op g : mm_M → Option (Int32 × mm_M)} (hop : ∀ C1 D h P K W T N, h ≤ 6 → T ≤ T0 → Sim okA C1 1 (D.1 732) P K W T N → (∃ r, r < 0 ∧ op C1 = some (r, C1) ∧ g D = some (r, D)) ∨ (∃ r C2, ¬ r < 0 ∧ op C1 = some (r, C2) ∧ FrC C1 C2 1 ∧ ∀ D1, D1.1 732 = D.1 732 → fX7_keep D = some D1 → ∃ D2, g D = some (r, D2) ∧ FrD D1 D2 ∧ SimX C2 1 (D2.1 732) T1)) : Tw T0 T1 (fun C => chg C op) g := by
  intro C D G
  obtain ⟨b, h, H⟩ := G.hist
  obtain ⟨C1, e1, G1, H1, hp, f1⟩ := g_prep G H
  have hi1 : ∀ o, 731 ≤ o → C1.1 o = C.1 o := fun o ho => (f1 o (by have := Nat.mod_lt (b + h) (show 0 < 7 by omega); omega)).1
  obtain ⟨P, K, W, T, N, hT', S⟩ := G1.live
  rcases hop C1 D h P K W T N H1.lh hT' S with ⟨r, hr, h1, h2⟩ | ⟨r, C2, hr, h1, h2, h3⟩
  · refine ⟨r, C1, D, bn_i e1 (bn2_i h1 (bn2_i (q_rec hr) rfl)), h2, G1.mono hT, hi1, fun o ho => ⟨rfl, rfl⟩⟩
  · obtain ⟨D1, ek, kp⟩ := g_keep H1.lh H1.dh
    obtain ⟨D2, e2, fD, S2⟩ := h3 D1 (kp.oth 732 (by omega) (by omega)) ek
    refine ⟨r, _, D2, bn_i e1 (bn2_i h1 (bn2_i (g_rec hr H1.lb H1.lh (by rw [(h2 133 (by omega)).1]; exact H1.cb) (by rw [(h2 133 (by omega)).1]; exact H1.ch)) rfl)), e2, g_change hT G1 H1 hp h2 S2 kp fD, fun o ho => ?_, fun o ho => ⟨?_, ?_⟩⟩
    · by_cases e : h = 6
      · rw [if_pos e, sI_ap1, if_neg (by omega), (h2 o (by omega)).1, hi1 o ho]
      · rw [if_neg e, sI_ap1, if_neg (by omega), (h2 o (by omega)).1, hi1 o ho]
    · rw [fD.oth o (by omega) (by omega), kp.oth o (by omega) (by omega)]
    · rw [fD.lng, kp.lng]
