/-! p32: what each call does to a State and its row -/
theorem lNx {a b c d n : Int64} : a - b - c - d + n = a + n - b - c - d := by
  simp only [Int64.sub_eq_add_neg, Int64.add_assoc]
  congr 1
  rw [← Int64.add_assoc, ← Int64.add_assoc, Int64.add_comm _ n, Int64.add_assoc]
def loS (k : Nat) : Nat := if k = 3 then 3 else if k = 8 then 6 else if k = 6 ∨ k = 7 ∨ k = 9 then 0 else 1
def hiS (k : Nat) : Nat := if k = 0 then 20 else if k = 1 ∨ k = 5 then 200 else if k = 2 then 8 else if k = 3 then 30 else if k = 4 then 60 else if k = 6 then 10000 else if k = 7 then 9 else if k = 8 then 14 else 5000
theorem st_f : ∀ k, k < 10 → mm_f1 k = nI (loS k) ∧ mm_f2 k = nI (hiS k) ∧ loS k ≤ hiS k ∧ hiS k ≤ cp9 k ∧ hiS k ≤ 10000 ∧ (k = 0 → 1 ≤ loS k ∧ hiS k ≤ 20) ∧ (k = 2 → hiS k ≤ 8) ∧ (k = 5 → 1 ≤ loS k ∧ hiS k ≤ 200) ∧ (k = 8 → hiS k ≤ 14) := by decide
theorem s_setC {C : mm_M} {k : Nat} (hk : k < 10) (y : Int32) : fX5_changeSetting C 1 (nI k) y = if y < nI (loS k) then some ((-2 : Int32), C) else if y ≤ nI (hiS k) then some (C.1 (1 + 1) k, sI C (1 + 1) k y) else some ((-2 : Int32), C) := by
  obtain ⟨h1, h2, -⟩ := st_f k hk
  unfold fX5_changeSetting
  refine if_ni (nI_pos (by omega)) (if_ni (show ¬ nI 10 ≤ nI k from nI_ge hk (by decide)) (gd_i (ix_nI hk (by decide)) ?_))
  rw [nI_clamp (by omega), h1, h2]
  rfl
theorem s_set {C : mm_M} {w : Nat → Int32} {P K W T T0 : Nat} {N : Nat → Nat} {xS : Nat → Nat → Nat} (hT : TX T xS T0 w K P) (S : Sim okA C 1 w P K W T N xS) {k v : Nat} (hk : k < 10) (v1 : loS k ≤ v) (v2 : v ≤ hiS k) : ∃ C2, fX5_changeSetting C 1 (nI k) (nI v) = some (w k, C2) ∧ FrC C C2 1 ∧ SimX C2 1 (up w k (nI v)) T0 := by
  obtain ⟨h1, h2, h3, h4, h5, h6, h7, h8, h9⟩ := st_f k hk
  have hS : C.1 (1 + 1) k = w k := S.eq (1 + 1) k k (Or.inr (Or.inl ⟨rfl, hk, rfl⟩))
  refine ⟨sI C (1 + 1) k (nI v), ?_, FrC.w (by omega), P, K, W, T, N, xS, hT.row S.bd.lK S.bd.lP (fun i hi => up_ne (by unfold DCl at hi; omega)), S.up (Or.inr (Or.inl ⟨rfl, hk, rfl⟩)) (Ok_set hk (Nat.le_trans v2 h4) (fun q => by have := h6 q; omega) (fun q => by have := h7 q; omega) (fun q => by have := h8 q; omega) (fun q => by have := h9 q; omega))⟩
  rw [s_setC hk, if_neg (nI_nlt v1 (by omega)), if_pos (nI_le v2 (by omega)), hS]
theorem s_setE {C : mm_M} {k : Nat} (hk : k < 10) {y : Int32} (h : y < nI (loS k) ∨ nI (hiS k) < y) : fX5_changeSetting C 1 (nI k) y = some (-2, C) := by
  rw [s_setC hk]
  by_cases c : y < nI (loS k)
  · rw [if_pos c]
  · rw [if_neg c, if_neg (Int32.not_le.mpr (h.elim (fun q => absurd q c) (fun q => q)))]
theorem s_seed {C : mm_M} {w : Nat → Int32} {P K W T T0 a : Nat} {N : Nat → Nat} {xS : Nat → Nat → Nat} (hT : TX T xS T0 w K P) (S : Sim okA C a w P K W T N xS) {v : Nat} (hv : v ≤ 65536) : ∃ C2, fX5_changeLots C a (nI v) = some (w 11, C2) ∧ FrC C C2 a ∧ TX T xS T0 (up w 11 (nI v)) K P ∧ Sim okA C2 a (up w 11 (nI v)) P K W T N xS := by
  have hS : C.1 a 1 = w 11 := S.hd (k := 1) (by omega)
  refine ⟨sI C a 1 (nI v), ?_, FrC.w (by omega), hT.row S.bd.lK S.bd.lP (fun i hi => up_ne (by unfold DCl at hi; omega)), S.up (Or.inl ⟨rfl, by omega, rfl⟩) (Ok_11 hv)⟩
  unfold fX5_changeLots
  rw [hS]
  exact if_ni (nI_pos (by omega)) (if_pi (show nI v < nI 65537 from nI_lt (by omega) (by omega)) rfl)
theorem s_seedE {C : mm_M} {a : Nat} {x : Int32} (h : x < 0 ∨ (65536 : Int32) < x) : fX5_changeLots C a x = some (-2, C) := by
  unfold fX5_changeLots
  by_cases c : x < 0
  · exact if_pi c rfl
  · exact if_ni c (if_ni (Int32.not_lt.mpr ((i_succ rfl).mpr (h.elim (fun q => absurd q c) (fun q => q)))) rfl)
theorem s_pitch {C : mm_M} {w : Nat → Int32} {P K W T T0 : Nat} {N : Nat → Nat} {xS : Nat → Nat → Nat} (hT : TX T xS T0 w K P) (S : Sim okA C 1 w P K W T N xS) {v : Nat} (hv : v ≤ 20000) (hP : P < 10) : ∃ C2 w2, fX5_addPitch C 1 (nI v) = some (nI P, C2) ∧ FrC C C2 1 ∧ TX T xS T0 w2 K (P + 1) ∧ Sim okA C2 1 w2 (P + 1) K W T N xS := by
  have hm : nI (P + 1) - 1 = nI P := by rw [← nI_1, Int32.add_sub_cancel]
  refine ⟨sI (sI (sI (sI (sI C (1 + 8 + P) 0 (nI v)) (1 + 8 + P) 1 0) (1 + 8 + P) 2 0) (1 + 8 + P) 3 (-6)) 1 2 (nI (P + 1)), _, ?_, (FrC.w (by omega)).tr ((FrC.w (by omega)).tr ((FrC.w (by omega)).tr ((FrC.w (by omega)).tr (FrC.w (by omega))))), ⟨hT.1, hT.2.1, hT.2.2.pitch S.bd.lK (by omega) (fun i hi hn => ?_) ?_ ?_ ?_⟩, z_addP S (by omega) hv⟩
  · unfold fX5_addPitch
    refine if_ni (nI_pos (by omega)) (if_pi (show nI v ≤ nI 20000 from nI_le hv (by omega)) (if_pi ?_ (gd_i ?_ ?_)))
    · rw [S.cP]; exact nI_lt (b := 10) (by omega) (by omega)
    · rw [S.cP]; exact ix_nI (n := 10) (by omega) (by decide)
    · rw [S.cP, nI_clamp (by omega)]
      refine bn_i (a := sI (sI (sI (sI C (1 + 8 + P) 0 (nI v)) (1 + 8 + P) 1 0) (1 + 8 + P) 2 0) (1 + 8 + P) 3 (-6)) rfl ?_
      have e2 : (sI (sI (sI (sI C (1 + 8 + P) 0 (nI v)) (1 + 8 + P) 1 0) (1 + 8 + P) 2 0) (1 + 8 + P) 3 (-6)).1 1 2 = nI P := by
        rw [sI_ap1, if_neg (by omega), sI_ap1, if_neg (by omega), sI_ap1, if_neg (by omega), sI_ap1, if_neg (by omega)]
        exact S.cP
      rw [e2, nI_1]
      refine lt_i ?_
      have e3 : ∀ X : mm_M, (sI X 1 2 (nI (P + 1))).1 1 2 = nI (P + 1) := fun X => by rw [sI_ap1, if_pos rfl, if_pos rfl]
      rw [e3, hm]
  · rw [up_ne (by unfold DCl at hi; omega), up_ne (by omega), up_ne (by omega), up_ne (by omega), up_ne (by omega)]
  · rw [up_ne (by omega), up_ne (by omega), up_ne (by omega), up_eq]
  · rw [up_ne (by omega), up_ne (by omega), up_eq]
  · rw [up_ne (by omega), up_eq]
set_option maxHeartbeats 2000000 in
theorem s_cart {C : mm_M} {w : Nat → Int32} {P K W T T0 : Nat} {N : Nat → Nat} {xS : Nat → Nat → Nat} (hT : TX T xS T0 w K P) (S : Sim okA C 1 w P K W T N xS) {kd v : Nat} (hkd : kd ≤ 5) (v1 : 1 ≤ v) (hv : v ≤ 6) (hK16 : K < 16) : ∃ C2 w2 N2 xS2, fX5_addCart C 1 (nI kd) (nI v) = some (nI K, C2) ∧ FrC C C2 1 ∧ TX T xS2 T0 w2 (K + 1) P ∧ Sim okA C2 1 w2 P (K + 1) W T N2 xS2 := by
  obtain ⟨x, ex⟩ : ∃ x, x = nI kd := ⟨_, rfl⟩
  obtain ⟨y, ev⟩ : ∃ y, y = nI v := ⟨_, rfl⟩
  obtain ⟨x3, e3⟩ : ∃ x3, x3 = (C.1 1 0) + (C.1 (1 + 1) 1) := ⟨_, rfl⟩
  have x3D : x3 = w 10 + w 1 := by rw [e3, S.hd (k := 0) (by omega), S.eq (1 + 1) 1 1 (Or.inr (Or.inl ⟨rfl, by omega, rfl⟩))]
  obtain ⟨Y, eY, yc, yp, yl, yo, yo2⟩ := q_beginK C (1 + 18 + 3 * K) x y x3
  have y1 : Y.1 1 = C.1 1 := yo 1 (by omega) (by omega)
  have hm : nI (K + 1) - 1 = nI K := by rw [← nI_1, Int32.add_sub_cancel]
  have co : ∀ o, o ≠ 1 → (sI Y 1 3 (nI (K + 1))).1 o = Y.1 o := fun o ho => by rw [sI_ap1, if_neg ho]
  obtain ⟨u, eu⟩ : ∃ u : Nat → Int32, u = (fun k => if 392 + 200 * K ≤ k ∧ k < 392 + 200 * K + 200 then 0 else if 72 + 20 * K + 0 ≤ k ∧ k < 72 + 20 * K + 20 then 0 else w k) := ⟨_, rfl⟩
  have ur : ∀ t, t < 20 → u (72 + 20 * K + t) = 0 := fun t ht => by
    rw [eu]
    show (if 392 + 200 * K ≤ 72 + 20 * K + t ∧ 72 + 20 * K + t < 392 + 200 * K + 200 then (0 : Int32) else _) = 0
    by_cases q : 392 + 200 * K ≤ 72 + 20 * K + t ∧ 72 + 20 * K + t < 392 + 200 * K + 200
    · rw [if_pos q]
    · rw [if_neg q, if_pos (by omega)]
  have uo : ∀ j, (j < 72 + 20 * K ∨ 72 + 20 * K + 20 ≤ j) → (j < 392 + 200 * K ∨ 392 + 200 * K + 200 ≤ j) → u j = w j := fun j h1 h2 => by
    rw [eu]
    show (if 392 + 200 * K ≤ j ∧ j < 392 + 200 * K + 200 then (0 : Int32) else if 72 + 20 * K + 0 ≤ j ∧ j < 72 + 20 * K + 20 then 0 else w j) = _
    rw [if_neg (by omega), if_neg (by omega)]
  have up' : ∀ d, d < 200 → u (392 + 200 * K + d) = 0 := fun d hd => by
    rw [eu]
    show (if 392 + 200 * K ≤ 392 + 200 * K + d ∧ 392 + 200 * K + d < 392 + 200 * K + 200 then (0 : Int32) else _) = 0
    rw [if_pos (by omega)]
  have u7 : u 10 + u 1 = x3 := by rw [uo 10 (by omega) (by omega), uo 1 (by omega) (by omega), x3D]
  refine ⟨sI Y 1 3 (nI (K + 1)), fK K x y u, (fun i => if i = K then 0 else N i), (fun i k => if i = K then 0 else xS i k), ?_, fun o ho => ⟨?_, ?_⟩, ⟨hT.1, fun i k => by
    show (if i = K then 0 else xS i k) ≤ _
    by_cases e : i = K
    · rw [if_pos e]; omega
    · rw [if_neg e]; exact hT.2.1 i k, hT.2.2.cart hK16 S.bd.lP (fun j hj hn => by rw [fK_lo (by unfold DCl at hj; omega) (by unfold DCl at hj; omega)]; exact uo j hn (by unfold DCl at hj; omega)) (by rw [fK_r hK16 (by omega) (ur _ (by omega))]; rfl) (by rw [fK_r hK16 (by omega) (ur _ (by omega))]; rfl) (by rw [fK_r hK16 (by omega) (ur _ (by omega))]; rfl) (by rw [fK_r hK16 (by omega) (ur _ (by omega))]; rfl) (by rw [fK_r hK16 (by omega) (ur _ (by omega))]; rfl) (by rw [fK_r hK16 (by omega) (ur _ (by omega))]; rfl)⟩, ?_⟩
  · rw [← ex, ← ev]
    unfold fX5_addCart
    rw [S.cK]
    refine if_ni (by rw [ex]; exact nI_pos (by omega)) (if_ni (by rw [ex]; exact show ¬ nI 5 < nI kd from nI_nlt (by omega) (by omega)) (if_ni (by rw [ev]; exact show ¬ nI v < nI 1 from nI_nlt v1 (by omega)) (if_pi (by rw [ev]; exact show nI v ≤ nI 6 from nI_le hv (by omega)) (if_pi (nI_lt (b := 16) (by omega) (by omega)) (gd_i (ix_nI (n := 16) (by omega) (by decide)) ?_)))))
    rw [nI_clamp (by omega), ← e3]
    refine bn_i eY ?_
    rw [y1, S.cK, nI_1]
    refine lt_i ?_
    rw [show (sI Y 1 3 (nI (K + 1))).1 1 3 = nI (K + 1) by rw [sI_ap1, if_pos rfl, if_pos rfl], hm]
  · rw [co o (by omega), yo o (by omega) (by omega)]
  · exact yo2 o (by omega)
  · refine z_addK S hK16 (vK x y x3) ⟨v, v1, hv, ev⟩ rfl rfl rfl rfl (fun k => ?_) (fun k hk => ?_) (fun d hd => ?_) (fun k hk => ?_) (fun o h1 h2 => ?_) (fun o h2 => ?_) (up_eq _ _ _) (fun k hk => ?_) (fun k hk => ?_) (fun d hd => ?_) (fun j h1 h2 h3 => ?_)
    · rw [sI_ap1, if_pos rfl, y1]
    · rw [co _ (by omega)]; exact yc k hk
    · rw [co _ (by omega)]; exact yp d hd
    · exact yl k hk
    · rw [co o h1, yo o (by omega) (by omega)]
    · exact yo2 o (by omega)
    · have hs := sf_lt k hk
      rw [fK_r hK16 (by omega) (ur _ (by omega)), u7]
      match k, hk with
      | 0, _ => rfl
      | 1, _ => rfl
      | 2, _ => rfl
      | 3, _ => rfl
      | 4, _ => rfl
      | 5, _ => rfl
      | 6, _ => rfl
      | 7, _ => rfl
      | 8, _ => rfl
      | 9, _ => rfl
      | 10, _ => rfl
      | 11, _ => rfl
      | k + 12, h => exact absurd h (by omega)
    · rw [Nat.add_assoc, fK_r hK16 (show 15 + k < 20 by omega) (ur _ (by omega))]
      match k, hk with
      | 0, _ => rfl
      | 1, _ => rfl
      | 2, _ => rfl
      | 3, _ => rfl
      | k + 4, h => exact absurd h (by omega)
    · rw [fK_lo (by omega) (by omega)]; exact up' d hd
    · rw [fK_lo h1 h2]; exact uo j h2 h3
theorem s_rent {C : mm_M} {w : Nat → Int32} {P K W T T0 : Nat} {N : Nat → Nat} {xS : Nat → Nat → Nat} (hT : TX T xS T0 w K P) (S : Sim okA C 1 w P K W T N xS) {p v : Nat} (hp : p < P) (hv : v ≤ 20000) : ∃ C2, fX5_changeRent C 1 (nI p) (nI v) = some (w (32 + 4 * p), C2) ∧ FrC C C2 1 ∧ SimX C2 1 (up w (32 + 4 * p) (nI v)) T0 := by
  have lP := S.bd.lP
  have hP := z_hasP S (x := nI p) (Or.inr ⟨p, hp, rfl⟩)
  rw [decide_eq_true (n6 (by omega))] at hP
  have hS : C.1 (1 + 8 + p) 0 = w (32 + 4 * p) := S_pit S hp (k := 0) (by omega)
  refine ⟨sI C (1 + 8 + p) 0 (nI v), ?_, FrC.w (by omega), P, K, W, T, N, xS, hT.row S.bd.lK S.bd.lP (fun i hi => up_ne (by unfold DCl at hi; omega)), S.up (Or.inr (Or.inr (Or.inr (Or.inr (Or.inl ⟨p, hp, rfl, by omega, rfl⟩))))) (Ok_p0 S.bd.lW (by omega) hv)⟩
  refine bn_i hP (if_pi rfl (if_ni (nI_pos (by omega)) (if_pi (show nI v ≤ nI 20000 from nI_le hv (by omega)) (gd_i (ix_nI (n := 10) (by omega) (by decide)) ?_))))
  rw [nI_clamp (by omega), hS]
  exact lt_i (lt_i rfl)
theorem s_rentE {C : mm_M} {w : Nat → Int32} {P K W T : Nat} {N : Nat → Nat} {xS : Nat → Nat → Nat} (S : Sim okA C 1 w P K W T N xS) {p : Nat} (hp : p < P) {y : Int32} (h : (20000 : Int32) < y) (h0 : ¬ y < 0) : fX5_changeRent C 1 (nI p) y = some (-2, C) := by
  have lP := S.bd.lP
  have hP := z_hasP S (x := nI p) (Or.inr ⟨p, hp, rfl⟩)
  rw [decide_eq_true (n6 (by omega))] at hP
  exact bn_i hP (if_pi rfl (if_ni h0 (if_ni (Int32.not_le.mpr h) rfl)))
/-- wishes -/
theorem s_pon {C : mm_M} {a : Nat} {w : Nat → Int32} {P K W T : Nat} {N : Nat → Nat} {xS : Nat → Nat → Nat} (S : Sim okA C a w P K W T N xS) (x : Int32) : (nn x P ∧ fX5_isPitchOrNone C a x = some true) ∨ (¬ nn x P ∧ fX5_isPitchOrNone C a x = some false) := by
  unfold fX5_isPitchOrNone
  by_cases e : x = -6
  · exact Or.inl ⟨Or.inl e, if_pi e rfl⟩
  · rcases S.hasPitch x with ⟨p, hp, ep, h⟩ | ⟨h1, h⟩
    · exact Or.inl ⟨Or.inr ⟨p, hp, ep⟩, if_ni e (bn_i h rfl)⟩
    · exact Or.inr ⟨fun q => q.elim e (fun ⟨p, hp, ep⟩ => h1 p hp ep), if_ni e (bn_i h rfl)⟩
theorem s_wishH {C : mm_M} {a : Nat} {w : Nat → Int32} {P K W T : Nat} {N : Nat → Nat} {xS : Nat → Nat → Nat} (S : Sim okA C a w P K W T N xS) {j : Nat} (hj : j < K) {y z u : Int32} (v1 : nn y P) (v2 : nn z P) (v3 : nn u P) : fX5_tellWishes C a (nI j) y z u = if dup (nw y z u) y z u then some (-2, C) else fX5_tellWishes_104 a (nI j) y z u C (nI (nw y z u)) := by
  have t1 := (s_pon S y).elim (fun q => q.2) (fun q => absurd v1 q.1)
  have t2 := (s_pon S z).elim (fun q => q.2) (fun q => absurd v2 q.1)
  have t3 := (s_pon S u).elim (fun q => q.2) (fun q => absurd v3 q.1)
  unfold fX5_tellWishes
  refine bn_i (z_hasC S hj) (if_pi rfl (bn_i t1 (if_pi rfl (bn_i t2 (if_pi rfl (bn_i t3 (if_pi rfl ?_)))))))
  rw [q_head, q70 _ _ _ _ _ _ (nw_le y z u)]
/-- the row behind wishes -/
def wsR (w : Nat → Int32) (j : Nat) (y z u : Int32) : Nat → Int32 := up (up (up (up w (72 + 20 * j + 2) (nI (nw y z u))) (72 + 20 * j + 3) y) (72 + 20 * j + 4) z) (72 + 20 * j + 5) u
theorem s_wish {C : mm_M} {a : Nat} {w : Nat → Int32} {P K W T T0 : Nat} {N : Nat → Nat} {xS : Nat → Nat → Nat} (hT : TX T xS T0 w K P) (S : Sim okA C a w P K W T N xS) {j : Nat} (hj : j < K) {y z u : Int32} (v1 : nn y P) (v2 : nn z P) (v3 : nn u P) (hd : ¬ dup (nw y z u) y z u) : ∃ C2 N2, fX5_tellWishes C a (nI j) y z u = some (nI (nw y z u), C2) ∧ FrC C C2 a ∧ TX T xS T0 (wsR w j y z u) K P ∧ Sim okA C2 a (wsR w j y z u) P K W T N2 xS := by
  have lK := S.bd.lK
  refine ⟨sI (sI (sI (sI C (a + 18 + 3 * j) 2 (nI (nw y z u))) (a + 18 + 3 * j + 1) 0 y) (a + 18 + 3 * j + 1) 1 z) (a + 18 + 3 * j + 1) 2 u, _, ?_, (FrC.w (by omega)).tr ((FrC.w (by omega)).tr ((FrC.w (by omega)).tr (FrC.w (by omega)))), hT.row S.bd.lK S.bd.lP (fun i hi => by unfold wsR; rw [up_ne (by unfold DCl at hi; omega), up_ne (by unfold DCl at hi; omega), up_ne (by unfold DCl at hi; omega), up_ne (by unfold DCl at hi; omega)]), z_setN S hj (nw_le y z u) (fun k => if k = 0 then y else if k = 1 then z else u) (nw_x v1 v2 v3)⟩
  rw [s_wishH S hj v1 v2 v3, if_neg hd]
  unfold fX5_tellWishes_104
  refine gd_i (ix_nI (n := 16) (by omega) (by decide)) ?_
  rw [nI_clamp (by omega)]
  rfl
theorem s_wishD {C : mm_M} {a : Nat} {w : Nat → Int32} {P K W T : Nat} {N : Nat → Nat} {xS : Nat → Nat → Nat} (S : Sim okA C a w P K W T N xS) {j : Nat} (hj : j < K) {y z u : Int32} (v1 : nn y P) (v2 : nn z P) (v3 : nn u P) (hd : dup (nw y z u) y z u) : fX5_tellWishes C a (nI j) y z u = some (-2, C) := by
  rw [s_wishH S hj v1 v2 v3, if_pos hd]
theorem s_wishE {C : mm_M} {a : Nat} {w : Nat → Int32} {P K W T : Nat} {N : Nat → Nat} {xS : Nat → Nat → Nat} (S : Sim okA C a w P K W T N xS) {j : Nat} (hj : j < K) {y z u : Int32} (v1 : ¬ nn y P) : fX5_tellWishes C a (nI j) y z u = some (-2, C) := by
  have t1 := (s_pon S y).elim (fun q => absurd q.1 v1) (fun q => q.2)
  exact bn_i (z_hasC S hj) (if_pi rfl (bn_i t1 (if_ni (by decide) rfl)))
/-- a check -/
theorem s_check {C : mm_M} {w : Nat → Int32} {P K W T T0 a : Nat} {N : Nat → Nat} {xS : Nat → Nat → Nat} (hT : TX T xS T0 w K P) (S : Sim okA C a w P K W T N xS) {j : Nat} (hj : j < K) (h8 : w (72 + 20 * j + 8) = 0) : ∃ C2, fX5_askCheck C a (nI j) = some (nI (cnB (wb (up w (72 + 20 * j + 8) 1)) K), C2) ∧ FrC C C2 a ∧ SimX C2 a (up w (72 + 20 * j + 8) 1) T0 := by
  have lK := S.bd.lK
  have h5 : C.1 (a + 18 + 3 * j) 5 = w (72 + 20 * j + 8) := S_cart S hj (k := 5) (by omega)
  have S2 : Sim okA (sI C (a + 18 + 3 * j) 5 1) a (up w (72 + 20 * j + 8) 1) P K W T N xS := S.up (Lk_cart hj (k := 5) (by omega)) (Ok_wai S.bd0 (by omega) (Or.inr rfl))
  refine ⟨sI C (a + 18 + 3 * j) 5 1, ?_, FrC.w (by omega), P, K, W, T, N, xS, hT.row S.bd.lK S.bd.lP (fun i hi => up_ne (by unfold DCl at hi; omega)), S2⟩
  refine bn_i (z_hasC S hj) (if_pi rfl (gd_i (ix_nI (n := 16) (by omega) (by decide)) ?_))
  rw [nI_clamp (by omega), h5, h8]
  exact if_pi rfl (lt_i (bn_i (v_wait S2) rfl))
theorem s_checkE {C : mm_M} {w : Nat → Int32} {P K W T a : Nat} {N : Nat → Nat} {xS : Nat → Nat → Nat} (S : Sim okA C a w P K W T N xS) {j : Nat} (hj : j < K) (h8 : ¬ w (72 + 20 * j + 8) = 0) : fX5_askCheck C a (nI j) = some (-5, C) := by
  have lK := S.bd.lK
  have h5 : C.1 (a + 18 + 3 * j) 5 = w (72 + 20 * j + 8) := S_cart S hj (k := 5) (by omega)
  refine bn_i (z_hasC S hj) (if_pi rfl (gd_i (ix_nI (n := 16) (by omega) (by decide)) ?_))
  rw [nI_clamp (by omega), h5]
  exact if_ni h8 rfl
/-- a swap -/
theorem s_swap {C : mm_M} {w : Nat → Int32} {P K W T T0 a : Nat} {N : Nat → Nat} {xS : Nat → Nat → Nat} (hT : TX T xS T0 w K P) (S : Sim okA C a w P K W T N xS) {i j : Nat} (hi : i < K) (hj : j < K) (hne : i ≠ j) (hW : W < 8) : ∃ C2, fX5_askSwap C a (nI i) (nI j) = some (nI (W + 1), C2) ∧ FrC C C2 a ∧ SimX C2 a (up (up (up w (16 + 2 * W) (nI i)) (16 + 2 * W + 1) (nI j)) 14 (nI (W + 1))) T0 := by
  have lK := S.bd.lK
  refine ⟨sI (sI (sI C (a + 4) W (nI i)) (a + 5) W (nI j)) a 4 (nI (W + 1)), ?_, (FrC.w (by omega)).tr ((FrC.w (by omega)).tr (FrC.w (by omega))), P, K, W + 1, T, N, xS, hT.row S.bd.lK S.bd.lP (fun s hs => by rw [up_ne (by unfold DCl at hs; omega), up_ne (by unfold DCl at hs; omega), up_ne (by unfold DCl at hs; omega)]), z_addW S hW hi hj⟩
  refine bn_i (z_hasC S hi) (if_pi rfl (bn_i (z_hasC S hj) (if_pi rfl (if_ni (fun q => hne ((nI_eq (by omega) (by omega)).mp q)) ?_))))
  rw [S.cW]
  refine if_pi (nI_lt (b := 8) (by omega) (by omega)) (gd_i (ix_nI (n := 8) (by omega) (by decide)) ?_)
  rw [nI_clamp (by omega)]
  have e4 : (sI C (a + 4) W (nI i)).1 a 4 = nI W := by rw [sI_ap1, if_neg (by omega)]; exact S.cW
  refine lt_i ?_
  rw [e4]
  refine gd_i (ix_nI (n := 8) (by omega) (by decide)) ?_
  rw [nI_clamp (by omega)]
  have e5 : (sI (sI C (a + 4) W (nI i)) (a + 5) W (nI j)).1 a 4 = nI W := by rw [sI_ap1, if_neg (by omega)]; exact e4
  refine lt_i ?_
  rw [e5, nI_1]
  refine lt_i ?_
  have e6 : ∀ X : mm_M, (sI X a 4 (nI (W + 1))).1 a 4 = nI (W + 1) := fun X => by rw [sI_ap1, if_pos rfl, if_pos rfl]
  rw [e6]
theorem s_swapE {C : mm_M} {w : Nat → Int32} {P K W T a : Nat} {N : Nat → Nat} {xS : Nat → Nat → Nat} (S : Sim okA C a w P K W T N xS) {i j : Nat} (hi : i < K) (hj : j < K) : (i = j → fX5_askSwap C a (nI i) (nI j) = some (-1, C)) ∧ (i ≠ j → W = 8 → fX5_askSwap C a (nI i) (nI j) = some (-4, C)) := by
  have lK := S.bd.lK
  refine ⟨fun e => bn_i (z_hasC S hi) (if_pi rfl (bn_i (z_hasC S hj) (if_pi rfl (if_pi (by rw [e]) rfl)))), fun hne hW => bn_i (z_hasC S hi) (if_pi rfl (bn_i (z_hasC S hj) (if_pi rfl (if_ni (fun q => hne ((nI_eq (by omega) (by omega)).mp q)) (if_ni ?_ rfl)))))⟩
  rw [S.cW]
  exact nI_nlt (b := 8) (by omega) (by omega)
/-- money is paid in -/
theorem s_pay {C : mm_M} {w : Nat → Int32} {P K W T T0 : Nat} {N : Nat → Nat} {xS : Nat → Nat → Nat} (hT : TX T xS T0 w K P) (S : Sim okA C 1 w P K W T N xS) {j m : Nat} (hj : j < K) (m1 : 1 ≤ m) (hm : m ≤ 1000000) : ∃ C2, fX5_takeMoney C 1 (nI j) (nI m) = some (if (lg_cmp (moF xS j 0 + lN m) (0 : Int64)) < 0 then 0 else 1, C2) ∧ FrC C C2 1 ∧ TX T (xU xS j 0 (xS j 0 + m)) (T0 + 7) (up w (72 + 20 * j + 15) (nI (xS j 0 + m))) K P ∧ Sim okA C2 1 (up w (72 + 20 * j + 15) (nI (xS j 0 + m))) P K W T N (xU xS j 0 (xS j 0 + m)) := by
  have lK := S.bd.lK
  have e := fun k hk => (S.sumE j hj k hk).1
  have e0 : C.2 (1 + 18 + 3 * j) 12 = lN (xS j 0) := e 0 (by omega)
  have e1 : C.2 (1 + 18 + 3 * j) 13 = lN (xS j 1) := e 1 (by omega)
  have e2 : C.2 (1 + 18 + 3 * j) 14 = lN (xS j 2) := e 2 (by omega)
  have e3 : C.2 (1 + 18 + 3 * j) 15 = lN (xS j 3) := e 3 (by omega)
  have S2 := z_upL S hj (k := 0) (by omega) (xS j 0 + m)
  refine ⟨sL C (1 + 18 + 3 * j) (12 + 0) (lN (xS j 0 + m)), ?_, FrC.wl (by omega), (hT.up (Nat.le_add_right _ _) (by omega)).row S.bd.lK S.bd.lP (fun i hi => up_ne (by unfold DCl at hi; omega)), S2⟩
  refine bn_i (z_hasC S hj) (if_pi rfl (if_ni (show ¬ nI m < nI 1 from nI_nlt m1 (by omega)) (if_pi (show nI m ≤ nI 1000000 from nI_le hm (by omega)) (gd_i (ix_nI (n := 16) (by omega) (by decide)) ?_))))
  rw [nI_clamp (by omega), e0, nI_l (by omega), lN_add]
  have eb : fX0_balance (sL C (1 + 18 + 3 * j) 12 (lN (xS j 0 + m))) (1 + 18 + 3 * j) = some (moF xS j 0 + lN m) := by
    unfold fX0_balance
    rw [sL_ap2, if_pos rfl]
    show some (lN (xS j 0 + m) - C.2 (1 + 18 + 3 * j) 13 - C.2 (1 + 18 + 3 * j) 14 - C.2 (1 + 18 + 3 * j) 15) = _
    rw [e1, e2, e3, ← lN_add]
    show some _ = some (lN (xS j 0) - lN (xS j 1) - lN (xS j 2) - lN (xS j 3) + lN m)
    rw [lNx]
  refine lt_i (bn_i eb ?_)
  by_cases q : (lg_cmp (moF xS j 0 + lN m) (0 : Int64)) < 0
  · rw [if_pos q, if_pos q]
  · rw [if_neg q, if_neg q]
theorem s_payE {C : mm_M} {w : Nat → Int32} {P K W T : Nat} {N : Nat → Nat} {xS : Nat → Nat → Nat} (S : Sim okA C 1 w P K W T N xS) {j : Nat} (hj : j < K) : fX5_takeMoney C 1 (nI j) 0 = some (-2, C) := bn_i (z_hasC S hj) (if_pi rfl (if_pi (by decide) rfl))
theorem s_fineE {C : mm_M} {w : Nat → Int32} {P K W T : Nat} {N : Nat → Nat} {xS : Nat → Nat → Nat} (S : Sim okA C 1 w P K W T N xS) {j : Nat} (hj : j < K) : fX5_punish C 1 (nI j) 0 = some (-2, C) := bn_i (z_hasC S hj) (if_pi rfl (if_pi (by decide) rfl))
