/-! SIM: points: the days that count, counted down and up; points are given -/
theorem mod200 {a : Nat} (h : a < 2 ^ 31) : nI a - nI a / 200 * 200 = nI (a % 200) := pk_rem (d := 200) h (by decide) (by decide)
theorem up_comm (w : Nat → Int32) {j k : Nat} (u v : Int32) (h : j ≠ k) : up (up w j u) k v = up (up w k v) j u := by
  funext i
  show (if i = k then v else if i = j then u else w i) = if i = j then u else if i = k then v else w i
  by_cases e1 : i = k
  · rw [if_pos e1, if_neg (show ¬ i = j by omega), if_pos e1]
  · rw [if_neg e1]
    by_cases e2 : i = j
    · rw [if_pos e2, if_pos e2]
    · rw [if_neg e2, if_neg e2, if_neg e1]
def sm (g : Nat → Nat) : Nat → Nat → Nat
  | _, 0 => 0
  | b, m + 1 => g b + sm g (b + 1) m
theorem sm_hi (g : Nat → Nat) : ∀ m b, sm g b (m + 1) = sm g b m + g (b + m)
  | 0, b => by show g b + 0 = 0 + g b; omega
  | m + 1, b => by
    have h := sm_hi g m (b + 1)
    show g b + sm g (b + 1) (m + 1) = g b + sm g (b + 1) m + g (b + (m + 1))
    rw [h, show b + 1 + m = b + (m + 1) by omega]
    omega
theorem sm_le {g : Nat → Nat} {B : Nat} (h : ∀ k, g k ≤ B) : ∀ m b, sm g b m ≤ m * B
  | 0, b => by show 0 ≤ 0 * B; omega
  | m + 1, b => by
    have h1 := sm_le h m (b + 1)
    have h2 := h b
    show g b + sm g (b + 1) m ≤ (m + 1) * B
    rw [Nat.succ_mul]
    omega
theorem sm_mem (g : Nat → Nat) {k : Nat} : ∀ m b, b ≤ k → k < b + m → g k ≤ sm g b m
  | 0, b => fun h1 h2 => by omega
  | m + 1, b => fun h1 h2 => by
    show g k ≤ g b + sm g (b + 1) m
    by_cases e : k = b
    · subst e; omega
    · have := sm_mem g (k := k) m (b + 1) (by omega) (by omega)
      omega
def tm (f : Nat → Nat) (d T b : Nat) : Nat := if b ≤ d ∧ d - b ≤ T then f ((d - b) % 200) else 0
theorem tm_sm (f : Nat → Nat) {d T : Nat} (hd : T ≤ d) : ∀ l, sm (tm f d T) 0 l = sm (fun k => f (k % 200)) (d + 1 - l) (T + 1 - (d + 1 - l))
  | 0 => by
    rw [show T + 1 - (d + 1 - 0) = 0 by omega]
    rfl
  | l + 1 => by
    rw [sm_hi, tm_sm f hd l, Nat.zero_add]
    unfold tm
    by_cases c : l ≤ d ∧ d - l ≤ T
    · rw [if_pos c, show d + 1 - (l + 1) = d - l by omega, show T + 1 - (d - l) = (T - (d - l)) + 1 by omega, show T + 1 - (d + 1 - l) = T - (d - l) by omega, show d + 1 - l = d - l + 1 by omega, Nat.add_comm]
      rfl
    · rw [if_neg c, Nat.add_zero]
      by_cases c2 : l ≤ d
      · rw [show T + 1 - (d + 1 - l) = 0 by omega, show T + 1 - (d + 1 - (l + 1)) = 0 by omega]
        rfl
      · rw [show d + 1 - l = 0 by omega, show d + 1 - (l + 1) = 0 by omega]
theorem q_left {M : mm_M} {a0 d T l : Nat} {f : Nat → Nat} (hf : ∀ k, k < 200 → M.1 (a0 + 2) k = nI (f k)) (hT : T < 2 ^ 30) (hd : d ≤ T + 400) (hl : l ≤ 200) : ∀ m b n acc, b + m = l → m < n → fX0_pointsLeft_6 a0 (nI d) (nI T) (nI l) M n (nI acc) (nI b) = some (nI (acc + sm (tm f d T) b m)) := by
  intro m
  induction m with
  | zero =>
    intro b n acc hb hn
    obtain ⟨n, rfl⟩ : ∃ q, n = q + 1 := ⟨n - 1, by omega⟩
    have e : b = l := by omega
    subst e
    rw [fX0_pointsLeft_6]
    exact if_pi (Int32.le_refl _) rfl
  | succ m ih =>
    intro b n acc hb hn
    obtain ⟨n, rfl⟩ : ∃ q, n = q + 1 := ⟨n - 1, by omega⟩
    rw [fX0_pointsLeft_6]
    refine if_ni (nI_ge (by omega) (by omega)) (if_ni (show ¬ nI 200 ≤ nI b from nI_ge (by omega) (by decide)) ?_)
    have es : sm (tm f d T) b (m + 1) = tm f d T b + sm (tm f d T) (b + 1) m := rfl
    by_cases c : d < b
    · have e0 : tm f d T b = 0 := if_neg (by omega)
      refine lt_i (if_pi ?_ (lt_i ?_))
      · exact pk_sneg (by omega) c
      · rw [nI_1, ih (b + 1) n acc (by omega) (by omega), es, e0, Nat.zero_add]
    · rw [pk_sub (show b ≤ d by omega)]
      refine lt_i (if_ni (nI_pos (by omega)) ?_)
      by_cases c2 : T < d - b
      · have e0 : tm f d T b = 0 := if_neg (by omega)
        refine if_pi (nI_lt c2 (by omega)) (lt_i ?_)
        rw [nI_1, ih (b + 1) n acc (by omega) (by omega), es, e0, Nat.zero_add]
      · have e0 : tm f d T b = f ((d - b) % 200) := if_pos (by omega)
        have hm : (d - b) % 200 < 200 := Nat.mod_lt _ (by omega)
        refine if_ni (nI_nlt (by omega) (by omega)) ?_
        rw [mod200 (by omega)]
        refine gd_i (ix_nI (n := 200) hm (by decide)) ?_
        rw [nI_clamp (by omega), hf _ hm, nI_add]
        refine lt_i (lt_i ?_)
        rw [nI_1, ih (b + 1) n _ (by omega) (by omega), es, e0, Nat.add_assoc]
theorem m_62 {D : mm_M} {i T : Nat} {x2 : Int32} {f : Nat → Nat} (hi : i < 16) (hf : ∀ k, k < 200 → D.1 732 (392 + 200 * i + k) = nI (f k)) (h10 : D.1 732 10 = nI T) (hT : T < 2 ^ 30) : ∀ m b n acc, m = T + 1 - b → b < 2 ^ 30 + 1000 → m < n → fX7_pointsAt_62 (nI i) x2 D n (nI acc) (nI b) = some (nI (acc + sm (fun k => f (k % 200)) b m)) := by
  intro m
  induction m with
  | zero =>
    intro b n acc hb hb2 hn
    obtain ⟨n, rfl⟩ : ∃ q, n = q + 1 := ⟨n - 1, by omega⟩
    rw [fX7_pointsAt_62, h10]
    exact if_pi (nI_lt (by omega) (by omega)) rfl
  | succ m ih =>
    intro b n acc hb hb2 hn
    obtain ⟨n, rfl⟩ : ∃ q, n = q + 1 := ⟨n - 1, by omega⟩
    have hm : b % 200 < 200 := Nat.mod_lt _ (by omega)
    have en : (392 + (200 * nI i)) + nI (b % 200) = nI (392 + 200 * i + b % 200) := by
      rw [show (392 : Int32) = nI 392 from rfl, show (200 : Int32) = nI 200 from rfl, Int32.add_comm (nI 392), mulI, nI_add, Nat.add_comm (200 * i)]
    have es : sm (fun k => f (k % 200)) b (m + 1) = f (b % 200) + sm (fun k => f (k % 200)) (b + 1) m := rfl
    rw [fX7_pointsAt_62, h10]
    refine if_ni (nI_nlt (by omega) (by omega)) ?_
    rw [mod200 (by omega), en]
    refine gd_i (ix_nI (n := 3592) (by omega) (by decide)) ?_
    rw [nI_clamp (by omega), hf _ hm, nI_add]
    refine lt_i (lt_i ?_)
    rw [nI_1, ih (b + 1) n _ (by omega) (by omega) (by omega), es, Nat.add_assoc]
theorem sub_toInt {a b : Nat} (ha : a < 2 ^ 31) (hb : b < 2 ^ 31) : (nI a - nI b).toInt = (a : Int) - b := by
  rw [Int32.toInt_sub, nI_toInt ha, nI_toInt hb]
  exact Int.bmod_eq_of_le (by omega) (by omega)
theorem sub1_toInt {a b : Nat} (ha : a < 2 ^ 30 + 1000) (hb : b < 2 ^ 30) : (nI a - nI b + 1).toInt = (a : Int) - b + 1 := by
  rw [Int32.toInt_add, sub_toInt (by omega) (by omega), show (1 : Int32).toInt = 1 from rfl]
  exact Int.bmod_eq_of_le (by omega) (by omega)
theorem m_at {D : mm_M} {i T d l : Nat} {f : Nat → Nat} (hi : i < 16) (hf : ∀ k, k < 200 → D.1 732 (392 + 200 * i + k) = nI (f k)) (h5 : D.1 732 5 = nI l) (h10 : D.1 732 10 = nI T) (hl : l ≤ 200) (hT : T < 2 ^ 30) (h1 : T ≤ d) (h2 : d ≤ T + 400) : fX7_pointsAt D (nI i) (nI d) = some (nI (sm (fun k => f (k % 200)) (d + 1 - l) (T + 1 - (d + 1 - l)))) := by
  have run : ∀ b, T ≤ b + 199 → b ≤ T + 401 → fX7_pointsAt_62 (nI i) (nI d) D FU 0 (nI b) = some (nI (sm (fun k => f (k % 200)) b (T + 1 - b))) := fun b hb hb2 => by
    have := m_62 (x2 := nI d) hi hf h10 hT (T + 1 - b) b FU 0 rfl (by omega) (by unfold FU; omega)
    rw [Nat.zero_add] at this
    exact this
  have key : ∀ t : Int32, t.toInt = (d : Int) - l + 1 → fX7_pointsAt_43 (nI i) (nI d) D t = some (nI (sm (fun k => f (k % 200)) (d + 1 - l) (T + 1 - (d + 1 - l)))) := by
    intro t ht
    unfold fX7_pointsAt_43
    by_cases c : l ≤ d + 1
    · have e : t = nI (d + 1 - l) := Int32.toInt_inj.mp (by rw [ht, nI_toInt (by omega)]; omega)
      rw [e]
      exact if_pi (nI_pos' (by omega)) (run _ (by omega) (by omega))
    · rw [show d + 1 - l = 0 by omega]
      refine if_ni (fun q => ?_) (run 0 (by omega) (by omega))
      rw [Int32.le_iff_toInt_le, ht] at q
      have e0 : (0 : Int32).toInt = 0 := rfl
      omega
  have t1 := sub1_toInt (a := d) (b := l) (by omega) (by omega)
  have t2 := sub1_toInt (a := T) (b := 200) (by omega) (by omega)
  unfold fX7_pointsAt
  rw [h5, h10]
  refine lt_i (lt_i ?_)
  by_cases q : nI d - nI l + 1 ≤ nI T - 200 + 1
  · refine if_pi q (key _ ?_)
    rw [Int32.le_iff_toInt_le, t1] at q
    have t2' : (nI T - 200 + 1).toInt = (T : Int) - 200 + 1 := t2
    omega
  · exact if_ni q (key _ t1)
theorem q_at {M : mm_M} {a0 d T l : Nat} {f : Nat → Nat} (hf : ∀ k, k < 200 → M.1 (a0 + 2) k = nI (f k)) (hT : T < 2 ^ 30) (h1 : T ≤ d) (hd : d ≤ T + 400) (hl : l ≤ 200) : fX0_pointsLeft M a0 (nI d) (nI T) (nI l) = some (nI (sm (fun k => f (k % 200)) (d + 1 - l) (T + 1 - (d + 1 - l)))) := by
  have h := q_left hf hT hd hl l 0 FU 0 (by omega) (by unfold FU; omega)
  rw [Nat.zero_add, tm_sm f h1 l] at h
  exact h
theorem pts_f {ok : Nat → Nat → Prop} {C : mm_M} {a : Nat} {w : Nat → Int32} {P K W T : Nat} {N : Nat → Nat} (S : Sim ok C a w P K W T N) {j : Nat} (hj : j < K) : ∃ f : Nat → Nat, (∀ k, f k ≤ 10000) ∧ (∀ k, k < 200 → w (392 + 200 * j + k) = nI (f k)) ∧ ∀ k, k < 200 → C.1 (a + 18 + 3 * j + 2) k = nI (f k) := by
  have h : ∀ k, ∃ x, x ≤ 10000 ∧ (k < 200 → w (392 + 200 * j + k) = nI x) := fun k => by
    by_cases c : k < 200
    · obtain ⟨x, hx, e⟩ := (S.val (392 + 200 * j + k)).pts j hj k c rfl
      exact ⟨x, hx, fun _ => e⟩
    · exact ⟨0, by omega, fun q => absurd q c⟩
  refine ⟨fun k => (h k).choose, fun k => (h k).choose_spec.1, fun k hk => (h k).choose_spec.2 hk, fun k hk => ?_⟩
  rw [S.eq (a + 18 + 3 * j + 2) k (392 + 200 * j + k) (Or.inr (Or.inr (Or.inr (Or.inr (Or.inr (Or.inr (Or.inr ⟨j, hj, rfl, hk, rfl⟩)))))))]
  exact (h k).choose_spec.2 hk
/-- points on a day, both sides -/
theorem z_left {C D : mm_M} {a P K W T : Nat} {N : Nat → Nat} (S : Sim okA C a (D.1 732) P K W T N) {j d : Nat} (hj : j < K) (h1 : T ≤ d) (h2 : d ≤ T + 400) : ∃ s, s ≤ 2000000 ∧ fX0_pointsLeft C (a + 18 + 3 * j) (nI d) (nI T) (C.1 (a + 1) 5) = some (nI s) ∧ fX7_pointsAt D (nI j) (nI d) = some (nI s) := by
  obtain ⟨f, fb, fw, fc⟩ := pts_f S hj
  obtain ⟨l, l1, l2, el⟩ := (S.val 5).r5 rfl
  have lK := S.bd.lK
  have lT := S.bd.lT
  have ec : C.1 (a + 1) 5 = nI l := (S.eq (a + 1) 5 5 (Or.inr (Or.inl ⟨rfl, by omega, rfl⟩))).trans el
  refine ⟨sm (fun k => f (k % 200)) (d + 1 - l) (T + 1 - (d + 1 - l)), ?_, ?_, m_at (by omega) fw el S.wT l2 lT h1 h2⟩
  · have q := sm_le (g := fun k => f (k % 200)) (B := 10000) (fun k => fb _) (T + 1 - (d + 1 - l)) (d + 1 - l)
    have q2 : (T + 1 - (d + 1 - l)) * 10000 ≤ 200 * 10000 := Nat.mul_le_mul_right _ (by omega)
    omega
  · rw [ec]
    exact q_at fc lT h1 h2 l2
theorem Ok_free {P K W T : Nat} {N : Nat → Nat} {j t : Nat} {v : Int32} (B : Bd P K W 0 N) (hj : j < 16) (ht : t = 0 ∨ t = 7 ∨ t = 9 ∨ t = 10 ∨ t = 12 ∨ t = 13 ∨ t = 14 ∨ (15 ≤ t ∧ t < 20)) : Ok P K W T N (72 + 20 * j + t) v := by
  obtain ⟨lP, lK, lW, -, lN⟩ := B
  refine ⟨?_, ?_, ?_, ?_, ?_, ?_, ?_, ?_, ?_, ?_, ?_, ?_, ?_, ?_, ?_, ?_, ?_, ?_, ?_, ?_⟩ <;> intros <;> (try (rename_i i' hi' k hk e; have := lN i')) <;> omega
theorem Ok_pts {P K W T : Nat} {N : Nat → Nat} {i d x : Nat} (B : Bd P K W 0 N) (hi : i < 16) (hx : x ≤ 10000) : Ok P K W T N (392 + 200 * i + d) (nI x) := by
  obtain ⟨lP, lK, lW, -, lN⟩ := B
  refine ⟨?_, ?_, ?_, ?_, ?_, ?_, ?_, ?_, ?_, ?_, ?_, ?_, ?_, ?_, ?_, ?_, ?_, ?_, ?_, fun _ _ _ _ _ => ⟨x, hx, rfl⟩⟩ <;> intros <;> (try (rename_i i' hi' k hk e; have := lN i')) <;> omega
theorem Lk_pts {ok : Nat → Nat → Prop} {a P K W : Nat} {N : Nat → Nat} {i k : Nat} (hi : i < K) (hk : k < 200) : Lk ok a P K W N (a + 18 + 3 * i + 2) k (392 + 200 * i + k) := Or.inr (Or.inr (Or.inr (Or.inr (Or.inr (Or.inr (Or.inr ⟨i, hi, rfl, hk, rfl⟩))))))
/-- all points of a cart are dropped on both sides -/
theorem z_zero {C Y : mm_M} {a : Nat} {w w' : Nat → Int32} {P K W T : Nat} {N : Nat → Nat} (S : Sim okA C a w P K W T N) {j : Nat} (hj : j < K) (y2 : ∀ k, k < 200 → Y.1 (a + 18 + 3 * j + 2) k = 0) (yo : ∀ o, o ≠ a + 18 + 3 * j + 2 → Y.1 o = C.1 o) (yl : Y.2 = C.2) (w2 : ∀ k, k < 200 → w' (392 + 200 * j + k) = 0) (wo : ∀ k, (k < 392 + 200 * j ∨ 392 + 200 * j + 200 ≤ k) → w' k = w k) : Sim okA Y a w' P K W T N := by
  have B := S.bd0
  have lK := S.bd.lK
  have lP := S.bd.lP
  have lW := S.bd.lW
  refine ⟨S.bd, fun o k s h => ?_, fun i hi k hk => ?_, fun s => ?_⟩
  · by_cases e : o = a + 18 + 3 * j + 2
    · rcases h with ⟨g1, g2, g3⟩ | ⟨g1, g2, g3⟩ | ⟨g1, g2, g3⟩ | ⟨g1, g2, g3⟩ | ⟨i, hi, g1, g2, g3⟩ | ⟨i, hi, g1, g2, go, g3⟩ | ⟨i, hi, g1, g2, g3⟩ | ⟨i, hi, g1, g2, g3⟩
      case inr.inr.inr.inr.inr.inr.inr =>
        have e2 : i = j := by omega
        subst e2
        subst e
        subst g3
        rw [y2 k g2, w2 k g2]
      all_goals exfalso
      all_goals omega
    · rw [yo o e, wo s ?_]
      · exact S.eq o k s h
      · rcases h with ⟨g1, g2, g3⟩ | ⟨g1, g2, g3⟩ | ⟨g1, g2, g3⟩ | ⟨g1, g2, g3⟩ | ⟨i, hi, g1, g2, g3⟩ | ⟨i, hi, g1, g2, go, g3⟩ | ⟨i, hi, g1, g2, g3⟩ | ⟨i, hi, g1, g2, g3⟩
        case inr.inr.inr.inr.inr.inl => have := sf_lt k g2; omega
        case inr.inr.inr.inr.inr.inr.inl => have := B.lN i; omega
        all_goals omega
  · rw [yl, wo _ (by omega)]
    exact S.sum i hi k hk
  · by_cases e : s < 392 + 200 * j ∨ 392 + 200 * j + 200 ≤ s
    · rw [wo s e]; exact S.val s
    · obtain ⟨d, hd, rfl⟩ : ∃ d, d < 200 ∧ s = 392 + 200 * j + d := ⟨s - (392 + 200 * j), by omega, by omega⟩
      rw [w2 d hd]
      exact Ok_pt0 B (by omega)
theorem m_98 {j : Nat} (hj : j < 16) (x2 : Int32) : ∀ (d i n : Nat) (X : mm_M), i + d = 200 → d < n → ∃ Y, fX7_give_98 (nI j) x2 n X (nI i) = some Y ∧ (∀ k, Y.1 732 k = if 392 + 200 * j + i ≤ k ∧ k < 392 + 200 * j + 200 then 0 else X.1 732 k) ∧ (∀ o, o ≠ 732 → Y.1 o = X.1 o) ∧ Y.2 = X.2 := by
  intro d
  induction d with
  | zero =>
    intro i n X hi hn
    obtain ⟨n, rfl⟩ : ∃ q, n = q + 1 := ⟨n - 1, by omega⟩
    have e : i = 200 := by omega
    subst e
    refine ⟨X, ?_, fun k => by rw [if_neg (by omega)], fun _ _ => rfl, rfl⟩
    rw [fX7_give_98]
    exact if_pi (show (200 : Int32) ≤ nI 200 by decide) rfl
  | succ d ih =>
    intro i n X hi hn
    obtain ⟨n, rfl⟩ : ∃ q, n = q + 1 := ⟨n - 1, by omega⟩
    have hc : i < 200 := by omega
    obtain ⟨Y, eY, y2, yo, yl⟩ := ih (i + 1) n (sI X 732 (392 + 200 * j + i) 0) (by omega) (by omega)
    refine ⟨Y, ?_, fun k => ?_, fun o ho => ?_, yl⟩
    · rw [fX7_give_98]
      refine if_ni (show ¬ nI 200 ≤ nI i from nI_ge hc (by decide)) ?_
      have en : (392 + (200 * nI j)) + nI i = nI (392 + 200 * j + i) := by
        rw [show (392 : Int32) = nI 392 from rfl, show (200 : Int32) = nI 200 from rfl, Int32.add_comm (nI 392), mulI, nI_add, Nat.add_comm (200 * j)]
      rw [en]
      refine gd_i (ix_nI (n := 3592) (by omega) (by decide)) (lt_i (lt_i ?_))
      rw [nI_clamp (by omega), nI_1]
      exact eY
    · rw [y2, sI_row]
      by_cases q : 392 + 200 * j + (i + 1) ≤ k ∧ k < 392 + 200 * j + 200
      · rw [if_pos q, if_pos (show 392 + 200 * j + i ≤ k ∧ k < 392 + 200 * j + 200 by omega)]
      · rw [if_neg q]
        by_cases q2 : k = 392 + 200 * j + i
        · subst q2; rw [up_eq, if_pos (by omega)]
        · rw [up_ne q2, if_neg (show ¬ (392 + 200 * j + i ≤ k ∧ k < 392 + 200 * j + 200) by omega)]
    · rw [yo o ho, sI_ap1, if_neg ho]
