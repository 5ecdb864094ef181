/-! p32: the law's own pieces: up, refused, sets, back -/
theorem and_nn (x : Int32) : ∃ a, a < 2 ^ 31 ∧ x &&& 2147483647 = nI a := by
  refine ⟨(x &&& 2147483647).toBitVec.toNat, ?_, Int32.toBitVec_inj.mp ?_⟩
  · rw [Int32.toBitVec_and, BitVec.toNat_and]
    exact Nat.lt_of_le_of_lt Nat.and_le_right (by decide)
  · show _ = (Int32.ofNat _).toBitVec
    rw [Int32.toBitVec_ofNat', BitVec.ofNat_toNat, BitVec.setWidth_eq]
theorem l_up (M : mm_M) (x : Int32) {m : Nat} (h0 : 0 < m) (hm : m < 2 ^ 31) : ∃ u, u < m ∧ fL_up M x (nI m) = some (nI u) := by
  obtain ⟨a, ha, e⟩ := and_nn x
  refine ⟨a % m, Nat.mod_lt _ h0, ?_⟩
  unfold fL_up
  refine gd_i (nI_ne0 h0 hm) ?_
  rw [e, pk_rem ha h0 hm]
/-- what is known of a State whose row tells of P pitches and K carts -/
theorem SimX.sim {C : mm_M} {w : Nat → Int32} {T0 P K : Nat} (A : SimX C 1 w T0) (hP : w 12 = nI P) (hK : w 13 = nI K) (lP : P < 100) (lK : K < 100) : ∃ W T N xS, TX T xS T0 w K P ∧ Sim okA C 1 w P K W T N xS := by
  obtain ⟨P', K', W, T, N, xS, hT, S⟩ := A
  have eP : P' = P := (nI_eq (by have := S.bd.lP; omega) (by omega)).mp (S.wP.symm.trans hP)
  have eK : K' = K := (nI_eq (by have := S.bd.lK; omega) (by omega)).mp (S.wK.symm.trans hK)
  subst eP
  subst eK
  exact ⟨W, T, N, xS, hT, S⟩
set_option maxHeartbeats 1000000 in
theorem l_refused {T0 W T : Nat} {C : mm_M} {w : Nat → Int32} {tp : Nat → Nat → Int32} {sv : Nat → Option (Nat → Int32)} {sg : Nat → Nat} {N : Nat → Nat} {xS : Nat → Nat → Nat} (A : Ab T0 C w 0 tp sv 0 sg) (hT : TX T xS T0 w 0 0) (S : Sim okA C 1 w 0 0 W T N xS) (hs : sv 0 = none) {far : Int32} (hf : far < 0 ∨ (1000000 : Int32) < far) (x1 : Int32) : ∃ C', fL_refused_23 x1 C far = some (true, C') ∧ Ab T0 C' w 0 tp sv 0 sg ∧ Sim okA C' 1 w 0 0 W T N xS := by
  have hc : ∀ X, Sim okA X 1 w 0 0 W T N xS → fX5_hasCart X 1 far = some false := fun X SX => by
    rcases SX.hasCart far with ⟨j, hj, -⟩ | ⟨-, h⟩
    · omega
    · exact h
  have hp : ∀ X, Sim okA X 1 w 0 0 W T N xS → fX5_hasPitch X 1 far = some false := fun X SX => by
    rcases SX.hasPitch far with ⟨j, hj, -⟩ | ⟨-, h⟩
    · omega
    · exact h
  have big : ∀ n : Nat, n ≤ 1000000 → ¬ far < 0 → nI n < far := fun n hn h => by
    have h2 : (1000000 : Int32) < far := hf.elim (fun q => absurd q h) (fun q => q)
    exact Int32.lt_of_le_of_lt (show nI n ≤ nI 1000000 from nI_le hn (by decide)) h2
  have neg : ∀ n : Nat, n < 2 ^ 31 → far < 0 → far < nI n := fun n hn h => Int32.lt_of_lt_of_le h (nI_pos' hn)
  obtain ⟨C1, e1, A1, S1⟩ := ab_err (r := -2) (op := fun X => fX5_changeSetting X 1 far 1) A hT S (by decide) (fun X _ => by
    by_cases c : far < 0
    · exact if_pi c rfl
    · exact if_ni c (if_pi (Int32.le_of_lt (big 10 (by omega) c)) rfl))
  obtain ⟨C2, e2, A2, S2⟩ := ab_err (r := -2) (op := fun X => fX5_changeSetting X 1 (nI 0) far) A1 hT S1 (by decide) (fun X _ => s_setE (by omega) (by
    by_cases c : far < 0
    · exact Or.inl (neg _ (by decide) c)
    · exact Or.inr (big _ (by decide) c)))
  obtain ⟨C3, e3, A3, S3⟩ := ab_err (r := -2) (op := fun X => fX5_changeLots X 1 far) A2 hT S2 (by decide) (fun X _ => s_seedE (by
    by_cases c : far < 0
    · exact Or.inl c
    · exact Or.inr (big 65536 (by omega) c)))
  obtain ⟨C4, e4, A4, S4⟩ := ab_err (r := -2) (op := fun X => fX5_addPitch X 1 far) A3 hT S3 (by decide) (fun X _ => by
    by_cases c : far < 0
    · exact if_pi c rfl
    · exact if_ni c (if_ni (Int32.not_le.mpr (big 20000 (by omega) c)) rfl))
  obtain ⟨C5, e5, A5, S5⟩ := ab_err (r := -1) (op := fun X => fX5_changeRent X 1 far 0) A4 hT S4 (by decide) (fun X SX => bn_i (hp X SX) (if_ni (by decide) rfl))
  obtain ⟨C6, e6, A6, S6⟩ := ab_err (r := -2) (op := fun X => fX5_addCart X 1 far 1) A5 hT S5 (by decide) (fun X _ => by
    by_cases c : far < 0
    · exact if_pi c rfl
    · exact if_ni c (if_pi (big 5 (by omega) c) rfl))
  obtain ⟨C7, e7, A7, S7⟩ := ab_err (r := -2) (op := fun X => fX5_addCart X 1 0 far) A6 hT S6 (by decide) (fun X _ => by
    refine if_ni (by decide) (if_ni (by decide) ?_)
    by_cases c : far < 0
    · exact if_pi (neg 1 (by omega) c) rfl
    · exact if_ni (show ¬ far < nI 1 from Int32.not_lt.mpr (Int32.le_of_lt (big 1 (by omega) c))) (if_ni (Int32.not_le.mpr (big 6 (by omega) c)) rfl))
  obtain ⟨C8, e8, A8, S8⟩ := ab_err (r := -1) (op := fun X => fX5_tellWishes X 1 far 0 0 0) A7 hT S7 (by decide) (fun X SX => bn_i (hc X SX) (if_ni (by decide) rfl))
  obtain ⟨C9, e9, A9, S9⟩ := ab_err (r := -1) (op := fun X => fX5_punish X 1 far 1) A8 hT S8 (by decide) (fun X SX => bn_i (hc X SX) (if_ni (by decide) rfl))
  obtain ⟨C10, e10, A10, S10⟩ := ab_err (r := -1) (op := fun X => fX5_askCheck X 1 far) A9 hT S9 (by decide) (fun X SX => bn_i (hc X SX) (if_ni (by decide) rfl))
  obtain ⟨C11, e11, A11, S11⟩ := ab_err (r := -1) (op := fun X => fX5_askSwap X 1 far 0) A10 hT S10 (by decide) (fun X SX => bn_i (hc X SX) (if_ni (by decide) rfl))
  obtain ⟨C12, e12, A12, S12⟩ := ab_err (r := -1) (op := fun X => fX5_takeMoney X 1 far 1) A11 hT S11 (by decide) (fun X SX => bn_i (hc X SX) (if_ni (by decide) rfl))
  obtain ⟨C13, e13, A13, S13⟩ := ab_err (r := -2) (op := fun X => fX5_passDays X 1 far) A12 hT S12 (by decide) (fun X _ => by
    by_cases c : far < 0
    · exact if_pi (neg 1 (by omega) c) rfl
    · exact if_ni (show ¬ far < nI 1 from Int32.not_lt.mpr (Int32.le_of_lt (big 1 (by omega) c))) (if_ni (Int32.not_le.mpr (big 60 (by omega) c)) rfl))
  have hne : ∀ k : Nat, k ≤ 1000000 → ¬ far = nI k := fun k hk e => by
    by_cases c : far < 0
    · rw [e] at c; exact nI_pos (by omega) c
    · have := big k hk c
      rw [e] at this
      exact Int32.lt_irrefl this
  have hcC := hc C13 S13
  have hpC := hp C13 S13
  have e63 : fX6_count C13 far = some (-2) := by
    have e25 : fX6_count_25 far C13 = some (-2) := if_ni (hne 0 (by omega)) (if_ni (hne 1 (by omega)) (if_ni (hne 2 (by omega)) (if_ni (hne 3 (by omega)) (if_ni (hne 4 (by omega)) (if_ni (hne 5 (by omega)) (if_ni (hne 6 (by omega)) (if_ni (hne 7 (by omega)) (if_ni (hne 8 (by omega)) (if_ni (hne 9 (by omega)) (if_ni (hne 10 (by omega)) (if_ni (hne 11 (by omega)) (if_ni (hne 12 (by omega)) (if_ni (hne 13 (by omega)) (if_ni (hne 14 (by omega)) (if_ni (hne 15 (by omega)) (if_ni (hne 16 (by omega)) (if_ni (hne 17 (by omega)) (if_ni (hne 18 (by omega)) (if_ni (hne 19 (by omega)) rfl)))))))))))))))))))
    unfold fX6_count
    by_cases c : far < 0
    · exact if_pi (neg 8 (by omega) c) e25
    · exact if_ni (show ¬ far < nI 8 from Int32.not_lt.mpr (Int32.le_of_lt (big 8 (by omega) c))) (if_pi (show nI 18 ≤ far from Int32.le_of_lt (big 18 (by omega) c)) e25)
  have e92 : fX6_carryOut C13 = some (-3, C13) := by
    have h := q_findF A13.2.2.2
    exact bn_i h (if_ni (show ¬ AF sg 0 0 4 = -6 by
      have e : AF sg 0 0 4 = nI 0 := rfl
      rw [e]; decide) rfl)
  have e96 : fX6_undo C13 = some (-5, C13) := ab_undo0 A13
  have e100 : fX6_save C13 far = some (-2, C13) := by
    by_cases c : far < 0
    · exact if_pi c rfl
    · exact if_ni c (if_ni (show ¬ far < nI 2 from Int32.not_lt.mpr (Int32.le_of_lt (big 2 (by omega) c))) rfl)
  have e104 : fX6_restore C13 far = some (-2, C13) := by
    by_cases c : far < 0
    · exact if_pi c rfl
    · exact if_ni c (if_ni (show ¬ far < nI 2 from Int32.not_lt.mpr (Int32.le_of_lt (big 2 (by omega) c))) rfl)
  have e108 : fX6_restore C13 0 = some (-5, C13) := by
    rcases A13.2.2.1 0 (by omega) with g | ⟨g1, u, g2, g3⟩
    · exact if_ni (by decide) (if_pi (by decide) (if_pi rfl (if_pi g.1 rfl)))
    · rw [hs] at g2; cases g2
  refine ⟨C13, ?_, A13, S13⟩
  unfold fL_refused_23
  refine bn2_i e1 (if_pi rfl (bn2_i e2 (if_pi rfl (bn2_i e3 (if_pi rfl (bn2_i e4 (if_pi rfl (bn2_i e5 (if_pi rfl (bn2_i e6 (if_pi rfl (bn2_i e7 (if_pi rfl (bn2_i e8 (if_pi rfl (bn2_i e9 (if_pi rfl (bn2_i e10 (if_pi rfl (bn2_i e11 (if_pi rfl (bn2_i e12 (if_pi rfl (bn2_i e13 (if_pi rfl ?_)))))))))))))))))))))))))
  refine bn_i (a := -1) (bn_i hcC (if_ni (by decide) rfl)) (if_pi rfl (bn_i (a := -1) (bn_i hcC (if_ni (by decide) rfl)) (if_pi (by decide) (bn_i (a := -1) (bn_i hpC (if_ni (by decide) rfl)) (if_pi rfl (bn_i e63 (if_pi rfl (bn_i (a := -1) (bn_i hcC (if_ni (by decide) rfl)) (if_pi rfl ?_)))))))))
  refine bn2_i (a := -1) (b := C13) (bn_i hcC (if_ni (by decide) rfl)) (if_pi rfl (bn2_i (a := -1) (b := C13) (bn_i hcC (if_ni (by decide) rfl)) (if_pi rfl (bn2_i (a := -1) (b := C13) (bn_i hcC (if_ni (by decide) rfl)) (if_pi rfl (bn2_i (a := -1) (b := C13) (bn_i hcC (if_ni (by decide) rfl)) (if_pi rfl (bn2_i (a := -1) (b := C13) (bn_i hcC (if_ni (by decide) rfl)) (if_pi rfl (bn_i (a := -1) (bn_i hcC (if_ni (by decide) rfl)) (if_pi rfl ?_)))))))))))
  refine bn2_i e92 (if_pi rfl (bn2_i e96 (if_pi rfl (bn2_i e100 (if_pi rfl (bn2_i e104 (if_pi rfl (bn2_i e108 (if_pi rfl ?_)))))))))
  exact bn_i (ab_c7 A13) (if_pi rfl rfl)
theorem l_refused2 {T0 W T : Nat} {C : mm_M} {w : Nat → Int32} {tp : Nat → Nat → Int32} {sv : Nat → Option (Nat → Int32)} {sg : Nat → Nat} {N : Nat → Nat} {xS : Nat → Nat → Nat} (A : Ab T0 C w 0 tp sv 0 sg) (hT : TX T xS T0 w 0 0) (S : Sim okA C 1 w 0 0 W T N xS) (hs : sv 0 = none) (x : Int32) : ∃ C', fL_refused C x = some (true, C') ∧ Ab T0 C' w 0 tp sv 0 sg ∧ Sim okA C' 1 w 0 0 W T N xS := by
  by_cases c : 0 ≤ x
  · obtain ⟨v, hv, e⟩ := nI_of (Int32.not_lt.mpr c)
    have er : (x - x / 1000000 * 1000000) + 1000001 = nI (v % 1000000 + 1000001) := by
      rw [e, show nI v - nI v / 1000000 * 1000000 = nI (v % 1000000) from pk_rem (d := 1000000) hv (by decide) (by decide)]
      exact nI_add _ 1000001
    obtain ⟨C', h1, h2⟩ := l_refused A hT S hs (far := nI (v % 1000000 + 1000001)) (Or.inr (show nI 1000000 < _ from nI_lt (by omega) (by omega))) x
    refine ⟨C', if_pi c ?_, h2⟩
    rw [er]
    exact h1
  · obtain ⟨u, hu, e⟩ := l_up C x (m := 1000000) (by omega) (by omega)
    obtain ⟨C', h1, h2⟩ := l_refused A hT S hs (far := (-7) - nI u) (Or.inl (by
      rw [Int32.lt_iff_toInt_lt, Int32.toInt_sub, nI_toInt (by omega), show (-7 : Int32).toInt = -7 from rfl, show (0 : Int32).toInt = 0 from rfl, Int.bmod_eq_of_le (by omega) (by omega)]
      omega)) x
    exact ⟨C', if_ni c (bn_i e h1), h2⟩
theorem l_least (M : mm_M) : ∀ k, k < 10 → fL_least M (nI k) = some (nI (loS k))
  | 0, _ => rfl
  | 1, _ => rfl
  | 2, _ => rfl
  | 3, _ => rfl
  | 4, _ => rfl
  | 5, _ => rfl
  | 6, _ => rfl
  | 7, _ => rfl
  | 8, _ => rfl
  | 9, _ => rfl
  | k + 10, h => absurd h (by omega)
theorem l_most (M : mm_M) : ∀ k, k < 10 → fL_most M (nI k) = some (nI (hiS k))
  | 0, _ => rfl
  | 1, _ => rfl
  | 2, _ => rfl
  | 3, _ => rfl
  | 4, _ => rfl
  | 5, _ => rfl
  | 6, _ => rfl
  | 7, _ => rfl
  | 8, _ => rfl
  | 9, _ => rfl
  | k + 10, h => absurd h (by omega)
theorem lo_m1 : ∀ k, k < 10 → nI (loS k) - 1 < nI (loS k) := by decide
theorem ct_set {w : Nat → Int32} {K k : Nat} (hk : k < 10) : ctF w K (8 + k) = w k := by
  unfold ctF
  rw [if_neg (by omega), if_neg (by omega), if_neg (by omega), if_neg (by omega), if_neg (by omega), if_neg (by omega), if_neg (by omega), if_neg (by omega), show 8 + k - 8 = k by omega]
theorem l_sets {T0 h n P K : Nat} {C : mm_M} {w : Nat → Int32} {tp : Nat → Nat → Int32} {sv : Nat → Option (Nat → Int32)} {sg : Nat → Nat} (A : Ab T0 C w h tp sv n sg) (hP : w 12 = nI P) (hK : w 13 = nI K) (lP : P < 100) (lK : K < 100) (x : Int32) : ∃ C' w' h' tp', fL_sets C x = some (true, C') ∧ Ab T0 C' w' h' tp' sv n sg ∧ w' 12 = nI P ∧ w' 13 = nI K ∧ (∀ k, 9 < k → w' k = w k) := by
  obtain ⟨k, hk, ek⟩ := l_up C x (m := 10) (by omega) (by omega)
  obtain ⟨h1, h2, h3, h4, h5, -⟩ := st_f k hk
  have run : ∀ m, 0 < m → loS k + m ≤ hiS k + 1 → ∃ C' w' h' tp', fL_sets_40 x C (nI k) (nI (loS k)) (x >>> (4 &&& 31)) (nI m) = some (true, C') ∧ Ab T0 C' w' h' tp' sv n sg ∧ w' 12 = nI P ∧ w' 13 = nI K ∧ (∀ k, 9 < k → w' k = w k) := by
    intro m m0 m1
    obtain ⟨u, hu, eu⟩ := l_up C (x >>> (4 &&& 31)) (m := m) m0 (by omega)
    obtain ⟨W, T, N, xS, hT, S⟩ := A.1.sim hP hK lP lK
    obtain ⟨C1, e1, A1, S1⟩ := ab_err (r := -2) (op := fun X => fX5_changeSetting X 1 (nI k) (nI (loS k) - 1)) A hT S (by decide) (fun X _ => s_setE hk (Or.inl (lo_m1 k hk)))
    obtain ⟨C2, e2, A2, S2⟩ := ab_err (r := -2) (op := fun X => fX5_changeSetting X 1 (nI k) (nI (hiS k + 1))) A1 hT S1 (by decide) (fun X _ => s_setE hk (Or.inr (nI_lt (by omega) (by omega))))
    obtain ⟨x0, hx0, ex0⟩ := (S.val k).rng hk
    obtain ⟨C3, e3, A3⟩ := ab_chg (r := w k) (w2 := up w k (nI (loS k + u))) (op := fun X => fX5_changeSetting X 1 (nI k) (nI (loS k + u))) A2 hT S2 (by rw [ex0]; exact nI_pos (by omega)) (Nat.le_refl _) (fun X SX => s_set hT SX hk (by omega) (by omega))
    obtain ⟨P3, K3, W3, T3, N3, xS3, hT3, S3⟩ := A3.1
    have c1 := v_count S (k := 8 + k) (by omega) (by omega) (by omega)
    have c3 := v_count S3 (k := 8 + k) (by omega) (by omega) (by omega)
    rw [ct_set hk] at c1 c3
    rw [up_eq] at c3
    have e8 : (8 : Int32) + nI k = nI (8 + k) := nI_add 8 k
    refine ⟨C3, _, _, _, ?_, A3, by rw [up_ne (by omega)]; exact hP, by rw [up_ne (by omega)]; exact hK, fun s hs => up_ne (by omega)⟩
    unfold fL_sets_40
    refine bn_i eu ?_
    rw [nI_add, e8]
    refine lt_i (bn_i c1 (bn_i (l_least C k hk) (bn2_i e1 (if_pi rfl (bn_i (l_most C1 k hk) ?_)))))
    rw [nI_1]
    exact bn2_i e2 (if_pi rfl (bn2_i e3 (if_pi rfl (bn_i c3 (if_pi rfl rfl)))))
  have ext : ∀ k' : Nat, k' < 10 → (nI k = nI k' ↔ k = k') := fun k' h' => nI_eq (by omega) (by omega)
  by_cases k1 : k = 1
  · obtain ⟨C', w', h', tp', r1, r2⟩ := run 12 (by omega) (by subst k1; decide)
    refine ⟨C', w', h', tp', ?_, r2⟩
    unfold fL_sets
    exact bn_i ek (bn_i (l_least C k hk) (if_pi (by rw [k1]; rfl) r1))
  · by_cases k5 : k = 5
    · obtain ⟨C', w', h', tp', r1, r2⟩ := run 12 (by omega) (by subst k5; decide)
      refine ⟨C', w', h', tp', ?_, r2⟩
      unfold fL_sets
      exact bn_i ek (bn_i (l_least C k hk) (if_ni (fun q => k1 ((ext 1 (by omega)).mp q)) (if_pi (by rw [k5]; rfl) r1)))
    · obtain ⟨C', w', h', tp', r1, r2⟩ := run (hiS k - loS k + 1) (by omega) (by omega)
      refine ⟨C', w', h', tp', ?_, r2⟩
      unfold fL_sets
      refine bn_i ek (bn_i (l_least C k hk) (if_ni (fun q => k1 ((ext 1 (by omega)).mp q)) (if_ni (fun q => k5 ((ext 5 (by omega)).mp q)) (bn_i (l_most C k hk) (bn_i (l_least C k hk) ?_)))))
      rw [pk_sub h3, nI_1]
      exact r1
