/-! p32: the law -/
theorem l_cell (xs : Nat → Int32) {L : Nat} (hL : L ≤ 260) {v : Nat} (hv : v < 2 ^ 30) : ∃ c, ∀ M, fL_cell M xs L (nI v) = some c := by
  by_cases q : Int32.ofNat L ≤ nI v
  · exact ⟨_, fun M => if_pi q rfl⟩
  · refine ⟨_, fun M => if_ni q (gd_i ?_ rfl)⟩
    have h : v < L := by
      by_cases z : L ≤ v
      · exact absurd (show nI L ≤ nI v from nI_le z (by omega)) q
      · omega
    exact ix_nI h (by omega)
theorem g_300 {L P K : Nat} (hL : L ≤ 260) {xs : Nat → Int32} (lP : P < 100) (lK : K < 100) (P0 : 0 < P) (K0 : 0 < K) : ∀ (d k f v cl sl : Nat) (C : mm_M), k + d = 42 → d < f → v + 4 * d ≤ 1000 → cl + 2 * d + 1 ≤ 600000 → sl + 56 * d + 16 ≤ 7302250 → LA (600 * k + 40 * (k / 9)) C P K → fL_law_218 xs L f C (nI v) (nI k) cl sl = some true := by
  intro d
  induction d with
  | zero =>
    intro k f v cl sl C hk hf hv hcl hsl A
    obtain ⟨f, rfl⟩ : ∃ q, f = q + 1 := ⟨f - 1, by omega⟩
    have ek : k = 42 := by omega
    subst ek
    obtain ⟨c, hc⟩ := l_cell xs hL (v := v) (by omega)
    obtain ⟨w, h, tp, sv, n, sg, Aw, hP, hK⟩ := A
    obtain ⟨C', h', tp', sv', r1, r2⟩ := l_back Aw hP hK lP lK K0 (by omega) c
    have LA' : LA (600 * 42 + 40 * (42 / 9) + 100) C' P K := ⟨w, h', tp', sv', n, sg, r2, hP, hK⟩
    rw [fL_law_218]
    exact if_pi (Int32.le_refl _) (lt_i (gd_i ⟨by omega, by omega⟩ (bn_i (hc C) (bn2_i r1 (if_pi rfl (gd_i ⟨by omega, by omega⟩ (bn2_i (LA'.sound lP lK) (if_pi rfl (gd_i ⟨by omega, by omega⟩ rfl)))))))))
  | succ d ih =>
    intro k f v cl sl C hk hf hv hcl hsl A
    obtain ⟨f, rfl⟩ : ∃ q, f = q + 1 := ⟨f - 1, by omega⟩
    have k1 : nI k + 1 = nI (k + 1) := nI_add k 1
    have va : ∀ u, nI u + 1 = nI (u + 1) := fun u => nI_add u 1
    have m9 : nI k - nI k / 9 * 9 = nI (k % 9) := pk_rem (d := 9) (by omega) (by decide) (by decide)
    have m4 : nI k - nI k / 4 * 4 = nI (k % 4) := pk_rem (d := 4) (by omega) (by decide) (by decide)
    have s299 : ∀ (C1 : mm_M) (u cl1 sl1 : Nat), u ≤ v + 3 → cl1 ≤ cl + 2 → sl1 ≤ sl + 56 → LA (600 * k + 40 * (k / 9) + 600) C1 P K → fL_law_299 xs L (fL_law_218 xs L f) C1 (nI u) (nI k) cl1 sl1 = some true := fun C1 u cl1 sl1 hu h1 h2 A1 => by
      unfold fL_law_299
      rw [m9, k1, va]
      by_cases q : k % 9 = 8
      · obtain ⟨c, hc⟩ := l_cell xs hL (v := u) (by omega)
        obtain ⟨C2, r1, r2⟩ := l_comes A1 lP lK P0 K0 (by omega) c
        refine if_pi (by rw [q]; rfl) (lt_i (gd_i ⟨by omega, by omega⟩ (bn_i (hc C1) (bn2_i r1 (if_pi rfl (lt_i ?_))))))
        exact ih (k + 1) f (u + 1) cl1 sl1 C2 (by omega) (by omega) (by omega) (by omega) (by omega) (r2.mono (by omega))
      · refine if_ni (fun z => q ((nI_eq (b := 8) (by omega) (by omega)).mp z)) (lt_i ?_)
        exact ih (k + 1) f u cl1 sl1 C1 (by omega) (by omega) (by omega) (by omega) (by omega) (A1.mono (by omega))
    have s264 : ∀ (t1 t2 : Int32), fL_law_264 xs L (fL_law_218 xs L f) C (nI (v + 1)) (nI k) t1 t2 cl sl = some true := fun t1 t2 => by
      obtain ⟨c, hc⟩ := l_cell xs hL (v := v + 1 + 1) (by omega)
      obtain ⟨C1, r1, r2⟩ := l_act A lP lK P0 K0 (by omega) (fun x y => l_text A lP lK (by omega) x y) t1 t2 c
      unfold fL_law_264
      rw [va, m4]
      refine lt_i (gd_i ⟨by omega, by omega⟩ (bn_i (hc C) (gd_i ⟨by omega, by omega⟩ (bn2_i r1 (if_pi rfl ?_)))))
      by_cases q : k % 4 = 3
      · exact if_pi (by rw [q]; rfl) (gd_i ⟨by omega, by omega⟩ (bn2_i (r2.sound lP lK) (if_pi rfl (s299 C1 _ _ _ (by omega) (by omega) (by omega) r2))))
      · exact if_ni (fun z => q ((nI_eq (b := 3) (by omega) (by omega)).mp z)) (s299 C1 _ _ _ (by omega) (by omega) (by omega) r2)
    have s248 : ∀ t1 : Int32, fL_law_248 xs L (fL_law_218 xs L f) C (nI (v + 1)) (nI k) t1 cl sl = some true := fun t1 => by
      obtain ⟨c, hc⟩ := l_cell xs hL (v := v + 1) (by omega)
      unfold fL_law_248
      by_cases q : (5 : Int32) ≤ nI k
      · exact if_pi q (gd_i ⟨by omega, by omega⟩ (bn_i (hc C) (s264 t1 c)))
      · exact if_ni q (s264 t1 (nI k))
    obtain ⟨c, hc⟩ := l_cell xs hL (v := v) (by omega)
    rw [fL_law_218, va]
    refine if_ni (show ¬ nI 42 ≤ nI k from nI_ge (by omega) (by omega)) (lt_i (gd_i ⟨by omega, by omega⟩ (bn_i (hc C) ?_)))
    by_cases q : (5 : Int32) ≤ nI k
    · exact if_pi q (s248 c)
    · exact if_ni q (s248 0)
theorem g_159 {L P K : Nat} (hL : L ≤ 260) {xs : Nat → Int32} (P0 : 0 < P) (lP : P ≤ 7) (K0 : 0 < K) (lK : K ≤ 7) {v : Nat} (hv : v ≤ 100) : ∀ (d k f : Nat) (C : mm_M), k + d = K → d < f → LA 0 C P k → fL_law_159 xs L f C (nI v) (nI K) (nI k) 731 40523 = some true := by
  obtain ⟨c, hc⟩ := l_cell xs hL (v := v) (by omega)
  have va : nI v + 1 = nI (v + 1) := nI_add v 1
  intro d
  induction d with
  | zero =>
    intro k f C hk hf A
    obtain ⟨f, rfl⟩ : ∃ q, f = q + 1 := ⟨f - 1, by omega⟩
    have ek : k = K := by omega
    subst ek
    rw [fL_law_159, va]
    exact if_pi (Int32.le_refl _) (lt_i (g_300 hL (by omega) (by omega) P0 K0 42 0 FU (v + 1) 731 40523 C (by omega) (by unfold FU; omega) (by omega) (by omega) (by omega) A))
  | succ d ih =>
    intro k f C hk hf A
    obtain ⟨f, rfl⟩ : ∃ q, f = q + 1 := ⟨f - 1, by omega⟩
    obtain ⟨w, h, tp, sv, n, sg, A, hP, hK⟩ := A
    obtain ⟨W, T, N, xS, hT, S⟩ := A.1.sim hP hK (by omega) (by omega)
    obtain ⟨u1, b1, h1⟩ := l_upA (c >>> (nI k &&& 31)) (m := 4) (by omega) (by omega)
    obtain ⟨u2, b2, h2⟩ := l_upA (c >>> ((2 * nI k) &&& 31)) (m := 6) (by omega) (by omega)
    have e1 : (1 : Int32) + nI u2 = nI (1 + u2) := nI_add 1 u2
    obtain ⟨r, C1, w1, q1, A1, rfl, hP1, hK1⟩ := ab_chgQ (T1 := 0) (op := fun X => fX5_addCart X 1 (nI u1) (nI (1 + u2))) (Q := fun r w2 => r = nI k ∧ w2 12 = nI P ∧ w2 13 = nI (k + 1)) A hT S (Nat.le_refl _) (fun X SX => by
      obtain ⟨C2, w2, N2, xS2, y1, y2, y3, y4⟩ := s_cart hT SX (kd := u1) (v := 1 + u2) (by omega) (by omega) (by omega) (by omega)
      exact ⟨nI k, C2, w2, nI_pos (by omega), y1, y2, ⟨_, _, _, _, _, _, y3, y4⟩, rfl, y4.wP, y4.wK⟩)
    rw [fL_law_159, show nI k + 1 = nI (k + 1) from nI_add k 1]
    refine if_ni (nI_ge (by omega) (by omega)) (gd_i ⟨by omega, by omega⟩ (bn_i (hc C) (bn_i (h1 C) (bn_i (hc C) (bn_i (h2 C) ?_)))))
    rw [e1]
    exact bn2_i q1 (if_pi rfl (lt_i (ih (k + 1) f C1 (by omega) (by omega) ⟨w1, _, _, _, _, _, A1, hP1, hK1⟩)))
theorem g_99 {L P : Nat} (hL : L ≤ 260) {xs : Nat → Int32} (P0 : 0 < P) (lP : P ≤ 7) {v : Nat} (hv : v ≤ 90) : ∀ (d k f : Nat) (C : mm_M), k + d = P → d < f → LA 0 C k 0 → fL_law_99 xs L f C (nI v) (nI P) (nI k) 731 40523 = some true := by
  obtain ⟨c, hc⟩ := l_cell xs hL (v := v) (by omega)
  have va : nI v + 1 = nI (v + 1) := nI_add v 1
  intro d
  induction d with
  | zero =>
    intro k f C hk hf A
    obtain ⟨f, rfl⟩ : ∃ q, f = q + 1 := ⟨f - 1, by omega⟩
    have ek : k = P := by omega
    subst ek
    obtain ⟨u, hu, h1⟩ := l_upA (c >>> (7 &&& 31)) (m := 6) (by omega) (by omega)
    have e2 : (2 : Int32) + nI u = nI (2 + u) := nI_add 2 u
    rw [fL_law_99, va]
    refine if_pi (Int32.le_refl _) (lt_i (gd_i ⟨by omega, by omega⟩ (bn_i (hc C) (bn_i (h1 C) ?_))))
    rw [e2]
    exact lt_i (g_159 hL P0 lP (by omega) (by omega) (by omega) (2 + u) 0 FU C (by omega) (by unfold FU; omega) A)
  | succ d ih =>
    intro k f C hk hf A
    obtain ⟨f, rfl⟩ : ∃ q, f = q + 1 := ⟨f - 1, by omega⟩
    obtain ⟨w, h, tp, sv, n, sg, A, hP, hK⟩ := A
    obtain ⟨W, T, N, xS, hT, S⟩ := A.1.sim hP hK (by omega) (by omega)
    obtain ⟨u1, b1, h1⟩ := l_upA (c >>> (nI k &&& 31)) (m := 5000) (by omega) (by omega)
    obtain ⟨r, C1, w1, q1, A1, rfl, hP1, hK1⟩ := ab_chgQ (T1 := 0) (op := fun X => fX5_addPitch X 1 (nI u1)) (Q := fun r w2 => r = nI k ∧ w2 12 = nI (k + 1) ∧ w2 13 = nI 0) A hT S (Nat.le_refl _) (fun X SX => by
      obtain ⟨C2, w2, y1, y2, y3, y4⟩ := s_pitch hT SX (v := u1) (by omega) (by omega)
      exact ⟨nI k, C2, w2, nI_pos (by omega), y1, y2, ⟨_, _, _, _, _, _, y3, y4⟩, rfl, y4.wP, y4.wK⟩)
    rw [fL_law_99, show nI k + 1 = nI (k + 1) from nI_add k 1]
    exact if_ni (nI_ge (by omega) (by omega)) (gd_i ⟨by omega, by omega⟩ (bn_i (hc C) (bn_i (h1 C) (bn2_i q1 (if_pi rfl (lt_i (ih (k + 1) f C1 (by omega) (by omega) ⟨w1, _, _, _, _, _, A1, hP1, hK1⟩)))))))
theorem g_52 {L : Nat} (hL : L ≤ 260) {xs : Nat → Int32} : ∀ (d k f v : Nat) (C : mm_M), k + d = 4 → d < f → v + d ≤ 80 → LA 0 C 0 0 → fL_law_52 xs L f C (nI v) (nI k) 731 40523 = some true := by
  intro d
  induction d with
  | zero =>
    intro k f v C hk hf hv A
    obtain ⟨f, rfl⟩ : ∃ q, f = q + 1 := ⟨f - 1, by omega⟩
    obtain ⟨c, hc⟩ := l_cell xs hL (v := v) (by omega)
    have va : nI v + 1 = nI (v + 1) := nI_add v 1
    have ek : k = 4 := by omega
    subst ek
    obtain ⟨u, hu, h1⟩ := l_upA c (m := 6) (by omega) (by omega)
    have e2 : (2 : Int32) + nI u = nI (2 + u) := nI_add 2 u
    rw [fL_law_52, va]
    refine if_pi (Int32.le_refl _) (lt_i (gd_i ⟨by omega, by omega⟩ (bn_i (hc C) (bn_i (h1 C) ?_))))
    rw [e2]
    exact lt_i (g_99 hL (by omega) (by omega) (by omega) (2 + u) 0 FU C (by omega) (by unfold FU; omega) A)
  | succ d ih =>
    intro k f v C hk hf hv A
    obtain ⟨f, rfl⟩ : ∃ q, f = q + 1 := ⟨f - 1, by omega⟩
    obtain ⟨c, hc⟩ := l_cell xs hL (v := v) (by omega)
    have va : nI v + 1 = nI (v + 1) := nI_add v 1
    obtain ⟨w, h, tp, sv, n, sg, A, hP, hK⟩ := A
    obtain ⟨C1, w1, h1, tp1, r1, A1, hP1, hK1, -⟩ := l_sets A hP hK (by omega) (by omega) c
    rw [fL_law_52, va, show nI k + 1 = nI (k + 1) from nI_add k 1]
    exact if_ni (show ¬ nI 4 ≤ nI k from nI_ge (by omega) (by omega)) (lt_i (gd_i ⟨by omega, by omega⟩ (bn_i (hc C) (bn2_i r1 (if_pi rfl (lt_i (ih (k + 1) f (v + 1) C1 (by omega) (by omega) (by omega) ⟨w1, _, _, _, _, _, A1, hP1, hK1⟩)))))))
theorem g_new : Ab 0 C_0 at_0 0 (fun _ _ => 0) (fun _ => none) 0 (fun _ => 33) := by
  have c0 : ∀ o, o < 731 → C_0.1 o = mm_0.1 o ∧ C_0.2 o = mm_0.2 o := fun o ho => ⟨by
    show J_X o = J_0 o
    unfold J_0
    rw [if_neg (by omega)], rfl⟩
  have e0 : mm_0.1 732 = at_0 := by
    show J_0 732 = at_0
    unfold J_0
    rw [if_pos rfl]
  have s := s_gl.1
  rw [e0] at s
  refine ⟨s.frame (fun o ho => c0 o (by omega)), ⟨0, by omega, by omega, by decide +kernel, by decide +kernel, fun i hi => absurd hi (by omega)⟩, fun q hq => Or.inl ⟨?_, rfl⟩, by omega, by decide +kernel, fun i hi => absurd hi (by omega), fun i hi => absurd hi (by omega)⟩
  rw [(c0 (597 + 66 * q) (by omega)).1]
  exact (s_sv q hq).1
theorem l_law (xs : Nat → Int32) {L : Nat} (hL : L ≤ 260) : fL_law_8 xs L C_0 731 40523 = some true := by
  have a12 : at_0 12 = nI 0 := by decide +kernel
  have a13 : at_0 13 = nI 0 := by decide +kernel
  have a11 : at_0 11 = 1 := by decide +kernel
  obtain ⟨W, T, N, xS, hT, S⟩ := g_new.1.sim a12 a13 (by omega) (by omega)
  obtain ⟨c0, h0⟩ := l_cell xs hL (v := 0) (by omega)
  obtain ⟨c1, h1⟩ := l_cell xs hL (v := 1) (by omega)
  obtain ⟨C1, r1, A1, S1⟩ := l_refused2 g_new hT S rfl c0
  obtain ⟨u, hu, hup⟩ := l_upA c1 (m := 65537) (by omega) (by omega)
  obtain ⟨C2, r2, A2⟩ := ab_chg (T1 := 0) (op := fun X => fX5_changeLots X 1 (nI u)) (r := at_0 11) (w2 := up at_0 11 (nI u)) A1 hT S1 (by rw [a11]; decide) (Nat.le_refl _) (fun X SX => by
    obtain ⟨C2, y1, y2, y3, y4⟩ := s_seed hT SX (v := u) (by omega)
    exact ⟨C2, y1, y2, _, _, _, _, _, _, y3, y4⟩)
  have lP : (up at_0 11 (nI u)) 12 = nI 0 := a12
  have lK : (up at_0 11 (nI u)) 13 = nI 0 := a13
  unfold fL_law_8
  exact lt_i (gd_i ⟨by omega, by omega⟩ (bn_i (h0 C_0) (bn2_i r1 (if_pi rfl (lt_i (bn_i (h1 C1) (bn_i (hup C1) (bn2_i r2 (if_pi a11 (g_52 hL 4 0 FU 2 C2 (by omega) (by unfold FU; omega) (by omega) ⟨_, _, _, _, _, _, A2, lP, lK⟩))))))))))
