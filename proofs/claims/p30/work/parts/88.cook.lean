/-! SIM: a day: kitchens -/
def msk (v : Nat) : Int32 := nI (2 ^ v - 1)
set_option maxRecDepth 100000 in
theorem kt_free0 : ∀ n, n < 1575 → (1 ≤ n / 15 % 7 ∧ n / 105 + n / 15 % 7 < 15) → (msk (n % 15) &&& (((1 <<< (nI (n / 15 % 7) &&& 31)) - 1) <<< (nI (n / 105) &&& 31)) = (0 : Int32) ↔ n % 15 ≤ n / 105) := by decide +kernel
theorem kt_free (v : Nat) (hv : v < 15) (g : Nat) (hg : g < 7) (g1 : 1 ≤ g) (h : Nat) (hh : h < 15) (hs : h + g < 15) : msk v &&& (((1 <<< (nI g &&& 31)) - 1) <<< (nI h &&& 31)) = 0 ↔ v ≤ h := by
  have e := kt_free0 (v + 15 * g + 105 * h) (by omega)
  have e1 : (v + 15 * g + 105 * h) % 15 = v := by omega
  have e2 : (v + 15 * g + 105 * h) / 15 % 7 = g := by omega
  have e3 : (v + 15 * g + 105 * h) / 105 = h := by omega
  rw [e1, e2, e3] at e
  exact e ⟨g1, hs⟩
set_option maxRecDepth 100000 in
theorem kt_or : ∀ v, v < 15 → ∀ g, g < 7 → 1 ≤ g → v + g < 15 → msk v ||| (((1 <<< (nI g &&& 31)) - 1) <<< (nI v &&& 31)) = msk (v + g) := by decide +kernel
theorem msk_0 : msk 0 = 0 := by decide
/-- the reference looks for hours: none are free ahead of b -/
theorem m_cookA {D : mm_M} {c g op v1 v2 b : Nat} (hc : c < 16) (g1 : 1 ≤ g) (g2 : g < 7) (hop : op ≤ 14) (h8 : D.1 732 8 = nI op) (h12 : D.1 732 (72 + 20 * c + 12) = -6) (k1 : D.1 731 8 = msk v1) (k2 : D.1 731 9 = msk v2) (l1 : v1 ≤ 14) (l2 : v2 ≤ 14) (b1 : b ≤ v1) (b2 : b ≤ v2) (hb : b + g ≤ op) : ∀ (d h n : Nat), h + d = b → d < n → fX7_cook_9 (nI c) n D (nI g) (nI h) = fX7_cook_9 (nI c) (n - d) D (nI g) (nI b) := by
  intro d
  induction d with
  | zero =>
    intro h n hh hn
    rw [show h = b by omega, Nat.sub_zero]
  | succ d ih =>
    intro h n hh hn
    obtain ⟨n, rfl⟩ : ∃ q, n = q + 1 := ⟨n - 1, by omega⟩
    rw [fX7_cook_9, h8, nI_add]
    refine if_ni (nI_nlt (by omega) (by omega)) (bn_i (a := -6) ?_ (if_ni (by decide) (lt_i ?_)))
    · rw [← h12]; exact of_i (k := 12) hc (by omega)
    · rw [k1, k2]
      refine if_ni (fun q => ?_) (if_ni (fun q => ?_) (lt_i ?_))
      · have := (kt_free v1 (by omega) g g2 g1 h (by omega) (by omega)).mp q; omega
      · have := (kt_free v2 (by omega) g g2 g1 h (by omega) (by omega)).mp q; omega
      · rw [nI_1, ih (h + 1) n (by omega) (by omega)]
        rw [show n + 1 - (d + 1) = n - d by omega]
theorem m_cookB {D : mm_M} {c g op v1 v2 : Nat} (hc : c < 16) (g1 : 1 ≤ g) (g2 : g < 7) (hop : op ≤ 14) (h8 : D.1 732 8 = nI op) (h12 : D.1 732 (72 + 20 * c + 12) = -6) (k1 : D.1 731 8 = msk v1) (k2 : D.1 731 9 = msk v2) (l1 : v1 ≤ 14) (l2 : v2 ≤ 14) (b1 : op < v1 + g) (b2 : op < v2 + g) : ∀ (d h n : Nat), op < h + d + g → d < n → h ≤ 14 → fX7_cook_9 (nI c) n D (nI g) (nI h) = fX7_cook_108 (nI c) D := by
  intro d
  induction d with
  | zero =>
    intro h n hh hn hb
    obtain ⟨n, rfl⟩ : ∃ q, n = q + 1 := ⟨n - 1, by omega⟩
    rw [fX7_cook_9, h8, nI_add]
    exact if_pi (nI_lt (by omega) (by omega)) rfl
  | succ d ih =>
    intro h n hh hn hb
    obtain ⟨n, rfl⟩ : ∃ q, n = q + 1 := ⟨n - 1, by omega⟩
    rw [fX7_cook_9, h8, nI_add]
    by_cases c0 : op < h + g
    · exact if_pi (nI_lt (by omega) (by omega)) rfl
    · refine if_ni (nI_nlt (by omega) (by omega)) (bn_i (a := -6) ?_ (if_ni (by decide) (lt_i ?_)))
      · rw [← h12]; exact of_i (k := 12) hc (by omega)
      · rw [k1, k2]
        refine if_ni (fun q => ?_) (if_ni (fun q => ?_) (lt_i ?_))
        · have := (kt_free v1 (by omega) g g2 g1 h (by omega) (by omega)).mp q; omega
        · have := (kt_free v2 (by omega) g g2 g1 h (by omega) (by omega)).mp q; omega
        · rw [nI_1]
          exact ih (h + 1) n (by omega) (by omega) (by omega)
theorem m_cookE {D : mm_M} {c h : Nat} {v2 v3 : Int32} (hc : c < 16) (hh : h ≤ 14) (h12 : D.1 732 (72 + 20 * c + 12) = nI h) {n : Nat} : fX7_cook_9 (nI c) (n + 1) D v2 v3 = some D := by
  have e : fX7_cook_108 (nI c) D = some D := by
    unfold fX7_cook_108
    refine bn_i (a := nI h) ?_ (if_pi (nI_pos' (by omega)) rfl)
    rw [← h12]; exact of_i (k := 12) hc (by omega)
  rw [fX7_cook_9]
  by_cases q : D.1 732 8 < v3 + v2
  · exact if_pi q e
  · refine if_ni q (bn_i (a := nI h) ?_ (if_pi (nI_pos' (by omega)) e))
    rw [← h12]; exact of_i (k := 12) hc (by omega)
/-- hours are found -/
theorem m_cook1 {D : mm_M} {c g op v1 v2 : Nat} (hc : c < 16) (g1 : 1 ≤ g) (g2 : g < 7) (hop : op ≤ 14) (hg : D.1 732 (72 + 20 * c + 1) = nI g) (h8 : D.1 732 8 = nI op) (h12 : D.1 732 (72 + 20 * c + 12) = -6) (k1 : D.1 731 8 = msk v1) (k2 : D.1 731 9 = msk v2) (l1 : v1 ≤ 14) (l2 : v2 ≤ 14) (b2 : v1 ≤ v2) (hb : v1 + g ≤ op) : fX7_cook D (nI c) = some (sI (sI D 731 8 (msk (v1 + g))) 732 (72 + 20 * c + 12) (nI v1)) := by
  unfold fX7_cook
  refine bn_i (a := nI g) (by rw [← hg]; exact of_i (k := 1) hc (by omega)) ?_
  have h := m_cookA hc g1 g2 hop h8 h12 k1 k2 l1 l2 (Nat.le_refl _) b2 hb v1 0 FU (by omega) (by unfold FU; omega)
  refine Eq.trans h ?_
  obtain ⟨n, hn⟩ : ∃ n, FU - v1 = n + 1 + 1 := ⟨FU - v1 - 2, by unfold FU; omega⟩
  rw [hn, fX7_cook_9, h8, nI_add]
  refine if_ni (nI_nlt (by omega) (by omega)) (bn_i (a := -6) (by rw [← h12]; exact of_i (k := 12) hc (by omega)) (if_ni (by decide) (lt_i ?_)))
  rw [k1]
  refine if_pi ((kt_free v1 (by omega) g g2 g1 v1 (by omega) (by omega)).mpr (Nat.le_refl _)) ?_
  rw [kt_or v1 (by omega) g g2 g1 (by omega)]
  refine lt_i (bn_i (lay_i (k := 12) (nI v1) hc (by omega)) (lt_i ?_))
  exact m_cookE (h := v1) hc l1 (by rw [sI_row, up_eq])
theorem m_cook2 {D : mm_M} {c g op v1 v2 : Nat} (hc : c < 16) (g1 : 1 ≤ g) (g2 : g < 7) (hop : op ≤ 14) (hg : D.1 732 (72 + 20 * c + 1) = nI g) (h8 : D.1 732 8 = nI op) (h12 : D.1 732 (72 + 20 * c + 12) = -6) (k1 : D.1 731 8 = msk v1) (k2 : D.1 731 9 = msk v2) (l1 : v1 ≤ 14) (l2 : v2 ≤ 14) (b2 : v2 < v1) (hb : v2 + g ≤ op) : fX7_cook D (nI c) = some (sI (sI D 731 9 (msk (v2 + g))) 732 (72 + 20 * c + 12) (nI v2)) := by
  unfold fX7_cook
  refine bn_i (a := nI g) (by rw [← hg]; exact of_i (k := 1) hc (by omega)) ?_
  have h := m_cookA hc g1 g2 hop h8 h12 k1 k2 l1 l2 (Nat.le_of_lt b2) (Nat.le_refl _) hb v2 0 FU (by omega) (by unfold FU; omega)
  refine Eq.trans h ?_
  obtain ⟨n, hn⟩ : ∃ n, FU - v2 = n + 1 + 1 := ⟨FU - v2 - 2, by unfold FU; omega⟩
  rw [hn, fX7_cook_9, h8, nI_add]
  refine if_ni (nI_nlt (by omega) (by omega)) (bn_i (a := -6) (by rw [← h12]; exact of_i (k := 12) hc (by omega)) (if_ni (by decide) (lt_i ?_)))
  rw [k1, k2]
  refine if_ni (fun q => ?_) (if_pi ((kt_free v2 (by omega) g g2 g1 v2 (by omega) (by omega)).mpr (Nat.le_refl _)) ?_)
  · have := (kt_free v1 (by omega) g g2 g1 v2 (by omega) (by omega)).mp q; omega
  · rw [kt_or v2 (by omega) g g2 g1 (by omega)]
    refine lt_i (bn_i (lay_i (k := 12) (nI v2) hc (by omega)) (lt_i ?_))
    exact m_cookE (h := v2) hc l2 (by rw [sI_row, up_eq])
theorem m_cook3 {D : mm_M} {c g op v1 v2 : Nat} (hc : c < 16) (g1 : 1 ≤ g) (g2 : g < 7) (hop : op ≤ 14) (hg : D.1 732 (72 + 20 * c + 1) = nI g) (h8 : D.1 732 8 = nI op) (h12 : D.1 732 (72 + 20 * c + 12) = -6) (k1 : D.1 731 8 = msk v1) (k2 : D.1 731 9 = msk v2) (l1 : v1 ≤ 14) (l2 : v2 ≤ 14) (b1 : op < v1 + g) (b2 : op < v2 + g) : fX7_cook D (nI c) = fX7_cook_108 (nI c) D := by
  unfold fX7_cook
  refine bn_i (a := nI g) (by rw [← hg]; exact of_i (k := 1) hc (by omega)) ?_
  exact m_cookB hc g1 g2 hop h8 h12 k1 k2 l1 l2 b1 b2 15 0 FU (by omega) (by unfold FU; omega) (by omega)
/-- both sides in the kitchens: ord who was drawn at a place, p how many, q whose turn it is -/
abbrev Od (w : Nat → Int32) (K : Nat) (ord : Nat → Nat) (p : Nat) : Prop := (∀ q, q < p → ord q < K ∧ w (72 + 20 * ord q + 14) = nI q) ∧ (∀ i, i < K → (w (72 + 20 * i + 19) = 0 ∧ w (72 + 20 * i + 14) = -6) ∨ (w (72 + 20 * i + 19) = 1 ∧ ∃ q, q < p ∧ w (72 + 20 * i + 14) = nI q ∧ ord q = i)) ∧ p ≤ K
theorem m_datl {D : mm_M} {K p q : Nat} {ord : Nat → Nat} (O : Od (D.1 732) K ord p) (lK : K ≤ 16) (h13 : D.1 732 13 = nI K) (hq : q < p) : ∀ (d i n : Nat), i + d = ord q → d < n → fX7_drawnAt_2 (nI q) D n (nI i) = some (nI (ord q)) := by
  obtain ⟨o1, o2, o3⟩ := O
  obtain ⟨g1, g2⟩ := o1 q hq
  intro d
  induction d with
  | zero =>
    intro i n hi hn
    obtain ⟨n, rfl⟩ : ∃ q, n = q + 1 := ⟨n - 1, by omega⟩
    have e : i = ord q := by omega
    subst e
    rw [fX7_drawnAt_2, h13]
    exact if_ni (nI_ge g1 (by omega)) (bn_i (of_i (k := 14) (by omega) (by omega)) (if_pi g2 rfl))
  | succ d ih =>
    intro i n hi hn
    obtain ⟨n, rfl⟩ : ∃ q, n = q + 1 := ⟨n - 1, by omega⟩
    rw [fX7_drawnAt_2, h13]
    refine if_ni (nI_ge (by omega) (by omega)) (bn_i (of_i (k := 14) (by omega) (by omega)) (if_ni (fun z => ?_) (lt_i ?_)))
    · rcases o2 i (by omega) with ⟨-, h⟩ | ⟨-, x, hx, h, he⟩
      · rw [h] at z
        exact nI_pos (n := q) (by omega) (by rw [← z]; decide)
      · rw [h] at z
        have := (nI_eq (by omega) (by omega)).mp z
        subst this
        omega
    · rw [nI_1]
      exact ih (i + 1) n (by omega) (by omega)
theorem m_datn {D : mm_M} {K p : Nat} {ord : Nat → Nat} (O : Od (D.1 732) K ord p) (lK : K ≤ 16) (h13 : D.1 732 13 = nI K) : ∀ (d i n : Nat), i + d = K → d < n → fX7_drawnAt_2 (nI p) D n (nI i) = some (-6) := by
  obtain ⟨o1, o2, o3⟩ := O
  intro d
  induction d with
  | zero =>
    intro i n hi hn
    obtain ⟨n, rfl⟩ : ∃ q, n = q + 1 := ⟨n - 1, by omega⟩
    rw [fX7_drawnAt_2, h13]
    exact if_pi (nI_le (by omega) (by omega)) rfl
  | succ d ih =>
    intro i n hi hn
    obtain ⟨n, rfl⟩ : ∃ q, n = q + 1 := ⟨n - 1, by omega⟩
    rw [fX7_drawnAt_2, h13]
    refine if_ni (nI_ge (by omega) (by omega)) (bn_i (of_i (k := 14) (by omega) (by omega)) (if_ni (fun z => ?_) (lt_i ?_)))
    · rcases o2 i (by omega) with ⟨-, h⟩ | ⟨-, x, hx, h, he⟩
      · rw [h] at z
        exact nI_pos (n := p) (by omega) (by rw [← z]; decide)
      · rw [h] at z
        have := (nI_eq (by omega) (by omega)).mp z
        omega
    · rw [nI_1]
      exact ih (i + 1) n (by omega) (by omega)
theorem m_dat {D : mm_M} {K p q : Nat} {ord : Nat → Nat} (O : Od (D.1 732) K ord p) (lK : K ≤ 16) (h13 : D.1 732 13 = nI K) (hq : q ≤ p) : fX7_drawnAt D (nI q) = some (if q < p then nI (ord q) else -6) := by
  by_cases c : q < p
  · rw [if_pos c]
    have := (O.1 q c).1
    exact m_datl O lK h13 c (ord q) 0 FU (by omega) (by unfold FU; omega)
  · rw [if_neg c, show q = p by omega]
    exact m_datn O lK h13 K 0 FU (by omega) (by unfold FU; omega)
theorem Od.of {w w' : Nat → Int32} {K p : Nat} {ord : Nat → Nat} (O : Od w K ord p) (h : ∀ i t, i < K → (t = 14 ∨ t = 19) → w' (72 + 20 * i + t) = w (72 + 20 * i + t)) : Od w' K ord p := by
  obtain ⟨o1, o2, o3⟩ := O
  refine ⟨fun q hq => ⟨(o1 q hq).1, by rw [h _ 14 (o1 q hq).1 (by omega)]; exact (o1 q hq).2⟩, fun i hi => ?_, o3⟩
  rw [h i 19 hi (by omega), h i 14 hi (by omega)]
  exact o2 i hi
