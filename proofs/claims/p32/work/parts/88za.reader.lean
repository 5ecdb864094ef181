/-! p32: texts: the state of the reader, signs put, orders -/
def Rn (sg : Nat → Nat) : Nat → Nat
  | 0 => 4
  | n + 1 => aB (Rn sg n) (sg n)
theorem Rn_ext {sg sg' : Nat → Nat} : ∀ n, (∀ i, i < n → sg' i = sg i) → Rn sg' n = Rn sg n
  | 0, _ => rfl
  | n + 1, h => by
    show aB (Rn sg' n) (sg' n) = aB (Rn sg n) (sg n)
    rw [Rn_ext n (fun i hi => h i (by omega)), h n (by omega)]
/-- n signs stand, st is awaited, no fault -/
abbrev Txt (sg : Nat → Nat) (n st : Nat) : Prop := Rn sg n = st ∧ ∀ i, i < n → Rn sg (i + 1) ≠ 11
theorem FF_Rn {sg : Nat → Nat} {n : Nat} (h : ∀ i, i < n → Rn sg (i + 1) ≠ 11) : ∀ d i, i + d = n → FF sg n d i (Rn sg i) = if 3 < Rn sg n then nI n else -6
  | 0, i => fun hi => by
    show (if 3 < Rn sg i then nI n else -6) = _
    rw [show i = n by omega]
  | d + 1, i => fun hi => by
    show (if aB (Rn sg i) (sg i) = 11 then nI i else FF sg n d (i + 1) (aB (Rn sg i) (sg i))) = _
    rw [if_neg (show ¬ aB (Rn sg i) (sg i) = 11 from h i (by omega))]
    exact FF_Rn h d (i + 1) (by omega)
theorem Txt.af {sg : Nat → Nat} {n st : Nat} (X : Txt sg n st) : AF sg n 0 4 = if 3 < st then nI n else -6 := by
  unfold AF
  have h := FF_Rn X.2 (n - 0) 0 (by omega)
  rw [X.1] at h
  exact h
def ext (sg : Nat → Nat) (n c : Nat) : Nat → Nat := fun i => if i = n then c else sg i
theorem ext_eq (sg : Nat → Nat) (n c : Nat) : ext sg n c n = c := if_pos rfl
theorem ext_ne {sg : Nat → Nat} {n c i : Nat} (h : i ≠ n) : ext sg n c i = sg i := if_neg h
theorem Txt.put {sg : Nat → Nat} {n st c st' : Nat} (X : Txt sg n st) (hc : aB st c = st') (h11 : st' ≠ 11) : Txt (ext sg n c) (n + 1) st' := by
  have e : Rn (ext sg n c) n = st := (Rn_ext n (fun i hi => ext_ne (by omega))).trans X.1
  have e2 : Rn (ext sg n c) (n + 1) = st' := by
    show aB (Rn (ext sg n c) n) (ext sg n c n) = st'
    rw [e, ext_eq, hc]
  refine ⟨e2, fun i hi => ?_⟩
  by_cases q : i = n
  · rw [q, e2]; exact h11
  · rw [Rn_ext (i + 1) (fun j hj => ext_ne (by omega))]
    exact X.2 i (by omega)
theorem wN_lN {x : Nat} (h : x < 2 ^ 63) : wN (lN x) = x := by
  show (BitVec.ofNat 64 x).toNat = x
  rw [BitVec.toNat_ofNat, Nat.mod_eq_of_lt (by omega)]
theorem x_put {T0 h n c st st' : Nat} {C : mm_M} {w : Nat → Int32} {tp : Nat → Nat → Int32} {sv : Nat → Option (Nat → Int32)} {sg : Nat → Nat} (A : Ab T0 C w h tp sv n sg) (X : Txt sg n st) {x : Int64} (hx : wN x = c) (c1 : 33 ≤ c) (c2 : c < 127) (hn : n < 80) (ha : aB st c = st') (h11 : st' ≠ 11) : ∃ C', fX6_put C x = some (nI (n + 1), C') ∧ Ab T0 C' w h tp sv (n + 1) (ext sg n c) ∧ Txt (ext sg n c) (n + 1) st' := by
  obtain ⟨C', e, A'⟩ := ab_put A hx c1 c2 hn
  exact ⟨C', e, A', X.put ha h11⟩
theorem x_fault {T0 h n st : Nat} {C : mm_M} {w : Nat → Int32} {tp : Nat → Nat → Int32} {sv : Nat → Option (Nat → Int32)} {sg : Nat → Nat} (A : Ab T0 C w h tp sv n sg) (X : Txt sg n st) : fX6_fault C = some (if 3 < st then nI n else -6) := by
  rw [ab_fault A, X.af]
theorem x_mid {T0 h n st : Nat} {C : mm_M} {w : Nat → Int32} {tp : Nat → Nat → Int32} {sv : Nat → Option (Nat → Int32)} {sg : Nat → Nat} (A : Ab T0 C w h tp sv n sg) (X : Txt sg n st) (h3 : 3 < st) : fX6_fault C = some (nI n) := by
  rw [x_fault A X, if_pos h3]
theorem x_end {T0 h n st : Nat} {C : mm_M} {w : Nat → Int32} {tp : Nat → Nat → Int32} {sv : Nat → Option (Nat → Int32)} {sg : Nat → Nat} (A : Ab T0 C w h tp sv n sg) (X : Txt sg n st) (h3 : st ≤ 3) : fX6_fault C = some (-6) := by
  rw [x_fault A X, if_neg (by omega)]
theorem sg_ch {a b : Nat} (h : a + b < 2 ^ 31) : wN (((nI a) + nI b).toInt64) = a + b := by
  rw [nI_add, nI_l h]
  exact wN_lN (by omega)
theorem aB_d {st c : Nat} (h1 : st ≤ 2) (hc : 48 ≤ c ∧ c ≤ 57) : aB (st + 1) c = st := by
  unfold aB
  rw [if_neg (by omega), if_neg (by omega), if_neg (by omega), if_neg (by omega), if_neg (by omega), if_neg (by omega), if_neg (by omega), if_neg (by omega), if_neg (by omega), if_pos (by omega)]
  omega
theorem aB_59 {st : Nat} (h : st ≤ 3) : aB st 59 = 4 := by
  unfold aB
  rw [if_neg (by omega), if_neg (by omega), if_neg (by omega), if_neg (by omega), if_neg (by omega), if_neg (by omega), if_neg (by omega), if_pos rfl]
/-- orders: o k 0 the sort, 1 the cart, 2 and 3 numbers, 4 how many wishes -/
abbrev OB (o : Nat → Nat → Nat) : Prop := ∀ k, o k 0 < 5 ∧ o k 1 < 9 ∧ o k 2 < 10 ∧ (o k 0 = 1 → o k 2 < 9) ∧ o k 3 < 10 ∧ o k 4 < 4
def kdc (q : Nat) : Int32 := if q = 0 then 119 else if q = 1 then 102 else if q = 2 then 99 else if q = 3 then 115 else 100
def arg (o : Nat → Nat → Nat) (k i : Nat) : Int32 := if i = 0 then (if o k 0 = 4 then nI (o k 2) else nI (o k 1)) else if i = 1 then (if o k 0 = 0 then (if 0 < o k 4 then nI (o k 2) else -6) else if o k 0 = 1 then nI (o k 2) else nI (o k 3)) else if i = 2 then (if 1 < o k 4 then nI (o k 3) else -6) else (if 2 < o k 4 then nI ((o k 2 + o k 3) % 10) else -6)
def oln (o : Nat → Nat → Nat) (k : Nat) : Nat := if o k 0 = 0 then 2 + o k 4 else if o k 0 = 1 then 3 else if o k 0 = 2 then 2 else if o k 0 = 3 then 3 else 2
def ob (o : Nat → Nat → Nat) : Nat → Nat
  | 0 => 0
  | k + 1 => ob o k + oln o k + 1
def oe (o : Nat → Nat → Nat) (k : Nat) : Nat := ob o k + oln o k
theorem oln_b {o : Nat → Nat → Nat} (hb : OB o) (k : Nat) : 2 ≤ oln o k ∧ oln o k ≤ 5 := by
  obtain ⟨h0, h1, h2, h3, h4, h5⟩ := hb k
  unfold oln
  repeat' split
  all_goals omega
theorem ob_b {o : Nat → Nat → Nat} (hb : OB o) : ∀ k, ob o k ≤ 6 * k
  | 0 => Nat.le_refl _
  | k + 1 => by
    have := ob_b hb k
    have := (oln_b hb k).2
    show ob o k + oln o k + 1 ≤ 6 * (k + 1)
    omega
/-- the order k stands in the text -/
abbrev OK (sg : Nat → Nat) (o : Nat → Nat → Nat) (k : Nat) : Prop := OrdOk sg (ob o k) (oe o k) (kdc (o k 0)) (arg o k 0) (arg o k 1) (arg o k 2) (arg o k 3)
theorem OrdOk.congr {sg sg' : Nat → Nat} {b e : Nat} {kd a0 a1 a2 a3 : Int32} (h : OrdOk sg b e kd a0 a1 a2 a3) (hh : ∀ i, b ≤ i → i < e → sg' i = sg i) : OrdOk sg' b e kd a0 a1 a2 a3 := by
  rcases h with ⟨h0, h1, h2, h3, h4⟩ | ⟨h0, h1, h2, h3, h4, h5, h6⟩ | ⟨h0, h1, h2, h3, h4, h5, h6⟩ | ⟨h0, h1, h3, h4, m, hm, h2, h6, h7, h8, h9⟩ | ⟨h0, h1, h3, h2⟩
  · refine Or.inl ⟨h0, ?_, h2, ?_, ?_⟩
    · rw [hh b (by omega) (by omega)]; exact h1
    · rw [hh (b + 1) (by omega) (by omega)]; exact h3
    · rw [hh (b + 1) (by omega) (by omega)]; exact h4
  · refine Or.inr (Or.inl ⟨h0, ?_, h2, ?_, ?_, ?_, ?_⟩)
    · rw [hh b (by omega) (by omega)]; exact h1
    · rw [hh (b + 1) (by omega) (by omega)]; exact h3
    · rw [hh (b + 2) (by omega) (by omega)]; exact h4
    · rw [hh (b + 1) (by omega) (by omega)]; exact h5
    · rw [hh (b + 2) (by omega) (by omega)]; exact h6
  · refine Or.inr (Or.inr (Or.inl ⟨h0, ?_, h2, ?_, ?_, ?_, ?_⟩))
    · rw [hh b (by omega) (by omega)]; exact h1
    · rw [hh (b + 1) (by omega) (by omega)]; exact h3
    · rw [hh (b + 2) (by omega) (by omega)]; exact h4
    · rw [hh (b + 1) (by omega) (by omega)]; exact h5
    · rw [hh (b + 2) (by omega) (by omega)]; exact h6
  · refine Or.inr (Or.inr (Or.inr (Or.inl ⟨h0, ?_, ?_, ?_, m, hm, h2, fun q hq => ?_, ?_, ?_, ?_⟩)))
    · rw [hh b (by omega) (by omega)]; exact h1
    · rw [hh (b + 1) (by omega) (by omega)]; exact h3
    · rw [hh (b + 1) (by omega) (by omega)]; exact h4
    · rw [hh (b + 2 + q) (by omega) (by omega)]; exact h6 q hq
    · by_cases z : 0 < m
      · rw [hh (b + 2) (by omega) (by omega)]; exact h7
      · rw [if_neg z] at h7 ⊢; exact h7
    · by_cases z : 1 < m
      · rw [hh (b + 3) (by omega) (by omega)]; exact h8
      · rw [if_neg z] at h8 ⊢; exact h8
    · by_cases z : 2 < m
      · rw [hh (b + 4) (by omega) (by omega)]; exact h9
      · rw [if_neg z] at h9 ⊢; exact h9
  · refine Or.inr (Or.inr (Or.inr (Or.inr ⟨h0, ?_, ?_, ?_⟩)))
    · rcases h2 with ⟨h2, h5⟩ | ⟨h2, h6, h5⟩
      · rw [hh b (by omega) (by omega)]; exact h1
      · rw [hh b (by omega) (by omega)]; exact h1
    · rcases h2 with ⟨h2, h5⟩ | ⟨h2, h6, h5⟩
      · rw [hh (b + 1) (by omega) (by omega)]; exact h3
      · rw [hh (b + 1) (by omega) (by omega)]; exact h3
    · rcases h2 with ⟨h2, h5⟩ | ⟨h2, h6, h5⟩
      · refine Or.inl ⟨h2, ?_⟩
        rw [hh (b + 1) (by omega) (by omega)]; exact h5
      · refine Or.inr ⟨h2, ?_, ?_⟩
        · rw [hh (b + 2) (by omega) (by omega)]; exact h6
        · rw [hh (b + 1) (by omega) (by omega), hh (b + 2) (by omega) (by omega)]; exact h5
/-- m orders stand in the text -/
abbrev Ords (sg : Nat → Nat) (o : Nat → Nat → Nat) (m : Nat) : Prop := ∀ k, k < m → OK sg o k ∧ (k + 1 < m → sg (oe o k) = 59)
/-- a memory of the reference with the row w and m orders -/
def odM (o : Nat → Nat → Nat) (w : Nat → Int32) (m : Nat) : mm_M := (fun x => if x = 732 then w else if x = 738 then (fun k => kdc (o k 0)) else if x = 739 then (fun s => arg o (s / 4) (s % 4)) else if x = 731 then (fun k => if k = 12 then nI m else 0) else fun _ => 0, fun _ _ => 0)
abbrev OdM (D : mm_M) (o : Nat → Nat → Nat) (m : Nat) : Prop := (∀ k, D.1 738 k = kdc (o k 0)) ∧ (∀ k i, i < 4 → D.1 739 (4 * k + i) = arg o k i) ∧ D.1 731 12 = nI m
theorem odM_r (o : Nat → Nat → Nat) (w : Nat → Int32) (m : Nat) : (odM o w m).1 732 = w := by
  unfold odM
  dsimp only
  rw [if_pos rfl]
theorem odM_o (o : Nat → Nat → Nat) (w : Nat → Int32) (m : Nat) : OdM (odM o w m) o m := by
  refine ⟨fun k => ?_, fun k i hi => ?_, ?_⟩
  · unfold odM
    dsimp only
    rw [if_neg (by omega), if_pos rfl]
  · unfold odM
    dsimp only
    rw [if_neg (by omega), if_neg (by omega), if_pos rfl, show (4 * k + i) / 4 = k by omega, show (4 * k + i) % 4 = i by omega]
  · unfold odM
    dsimp only
    rw [if_neg (by omega), if_neg (by omega), if_neg (by omega), if_pos rfl, if_pos rfl]
theorem Ords.lst {sg : Nat → Nat} {o : Nat → Nat → Nat} {m n : Nat} {D : mm_M} (hb : OB o) (h : Ords sg o m) (hD : OdM D o m) (m0 : 0 < m) (hn : oe o (m - 1) = n) : Lst D sg n m (ob o) (oe o) := by
  have mono : ∀ j k, oe o k ≤ oe o (k + j) := by
    intro j
    induction j with
    | zero => intro k; exact Nat.le_refl _
    | succ j ih =>
      intro k
      have h1 := ih k
      have h2 : oe o (k + (j + 1)) = ob o (k + j) + oln o (k + j) + 1 + oln o (k + j + 1) := rfl
      have h3 : oe o (k + j) = ob o (k + j) + oln o (k + j) := rfl
      omega
  refine ⟨rfl, fun k hk => ?_⟩
  obtain ⟨h1, h2⟩ := h k hk
  have e0 : D.1 739 (4 * k) = arg o k 0 := hD.2.1 k 0 (by omega)
  have mk := mono (m - 1 - k) k
  rw [show k + (m - 1 - k) = m - 1 by omega, hn] at mk
  have lb := (oln_b hb k).1
  rw [hD.1 k, e0, hD.2.1 k 1 (by omega), hD.2.1 k 2 (by omega), hD.2.1 k 3 (by omega)]
  refine ⟨h1, mk, by show ob o k + 2 ≤ ob o k + oln o k; omega, rfl, fun z => ⟨?_, h2 z⟩⟩
  have m2 := mono (m - 1 - (k + 1)) (k + 1)
  rw [show k + 1 + (m - 1 - (k + 1)) = m - 1 by omega, hn] at m2
  have h3 : oe o (k + 1) = oe o k + 1 + oln o (k + 1) := rfl
  omega
/-- the text's orders are carried out -/
theorem x_carry {T0 h n st m P K : Nat} {C : mm_M} {w : Nat → Int32} {tp : Nat → Nat → Int32} {sv : Nat → Option (Nat → Int32)} {sg : Nat → Nat} {o : Nat → Nat → Nat} (hb : OB o) (A : Ab T0 C w h tp sv n sg) (X : Txt sg n st) (h3 : st ≤ 3) (hO : Ords sg o m) (m0 : 0 < m) (hm : m ≤ 27) (hn : oe o (m - 1) = n) (hP : w 12 = nI P) (hK : w 13 = nI K) (lP : P < 100) (lK : K < 100) (hT9 : T0 + 60 * m < 26843) : ∃ r C' E, fX6_carryOut C = some (nI r, C') ∧ fX7_carryOut_16 FU (odM o w m) 0 = some (nI r, E) ∧ r ≤ m ∧ Ab (T0 + 60 * m) C' (E.1 732) (hpp h) (psh w tp) sv 0 sg ∧ E.1 732 12 = nI P ∧ E.1 732 13 = nI K := by
  obtain ⟨W, T, N, xS, hT, S⟩ := A.1.sim hP hK lP lK
  obtain ⟨b, H⟩ := A.2.1
  obtain ⟨C1, e1, A1, H1, hp, S1, f1⟩ := ab_prep A H hT S
  have hb7 := H.1
  have hh6 := H.2.1
  have hm7 := Nat.mod_lt (b + h) (show 0 < 7 by omega)
  have hf : fX3_findFault C 729 = some (-6) := by
    have := q_findF A.2.2.2
    rw [X.af, if_neg (by omega)] at this
    exact this
  have p1 := A1.2.2.2
  have L := hO.lst hb (odM_o o w m) m0 hn
  obtain ⟨v, C3, D3, x1, x2, x3, x4, x5, x6⟩ := z_col (P := P) (K := K) hm m0 hn m 0 FU FU T0 C1 (odM o w m) (by omega) (by have := p1.1; unfold FU; omega) (by unfold FU; omega) (by omega) ⟨W, T, N, xS, by rw [odM_r]; exact hT, by rw [odM_r]; exact S1⟩ p1 L (odM_o o w m).2.2
  have x3x := x3.x
  obtain ⟨W3, T3, N3, xS3, hT3, S3⟩ := x3
  have G3 := ab_rec (T1 := T0 + 60 * m) (by omega) A1 H1 hp x4 x3x
  obtain ⟨X9, eX⟩ : ∃ X, X = sI C3 729 1 0 := ⟨_, rfl⟩
  have c3 : ∀ o, o ≠ 729 → X9.1 o = C3.1 o := fun o ho => by rw [eX, sI_ap1, if_neg ho]
  have hrc := g_rec (b := b) (h := h) (C := X9) (r := nI v) (nI_pos (by omega)) H1.1 H1.2.1 (by rw [c3 133 (by omega), (x4 133 (by omega)).1]; exact H1.2.2.1) (by rw [c3 133 (by omega), (x4 133 (by omega)).1]; exact H1.2.2.2.1)
  obtain ⟨Y, eY⟩ : ∃ Y, Y = (if h = 6 then sI X9 133 1 (nI ((b + 1) % 7)) else sI X9 133 2 (nI (h + 1))) := ⟨_, rfl⟩
  rw [← eY] at hrc
  have eYG : Y = sI (if h = 6 then sI C3 133 1 (nI ((b + 1) % 7)) else sI C3 133 2 (nI (h + 1))) 729 1 0 := by
    rw [eY, eX]
    by_cases e : h = 6
    · rw [if_pos e, if_pos e]; exact sI_comm (by omega)
    · rw [if_neg e, if_neg e]; exact sI_comm (by omega)
  obtain ⟨C9, e9, A9⟩ := ab_wipe G3
  have eC9 : C9 = Y := by
    have z : fX6_wipe (if h = 6 then sI C3 133 1 (nI ((b + 1) % 7)) else sI C3 133 2 (nI (h + 1))) = some ((if h = 6 then sI C3 133 1 (nI ((b + 1) % 7)) else sI C3 133 2 (nI (h + 1))).1 729 1, sI (if h = 6 then sI C3 133 1 (nI ((b + 1) % 7)) else sI C3 133 2 (nI (h + 1))) 729 1 0) := rfl
    rw [e9] at z
    rw [eYG]
    exact congrArg Prod.snd (Option.some.inj z)
  rw [eC9] at A9
  have er : (sI D3 731 7 0).1 732 = D3.1 732 := by rw [sI_ap1, if_neg (by omega)]
  refine ⟨v, Y, sI D3 731 7 0, ?_, x2, x6, by rw [er]; exact A9, by rw [er]; exact S3.wP, by rw [er]; exact S3.wK⟩
  unfold fX6_carryOut
  refine bn_i hf (if_pi rfl (bn_i e1 (Eq.trans x1 ?_)))
  unfold fX6_carryOut_82
  rw [← eX]
  exact lt_i (bn2_i hrc rfl)
/-- an order as a call -/
theorem x_one {T0 k : Nat} {o : Nat → Nat → Nat} (hb : OB o) {D : mm_M} {m : Nat} (hD : OdM D o m) (hk : k < 5) (hT0 : T0 + 60 < 2 ^ 30) {F : Nat → Int32} (hF : ∀ j, j < 5 → F (8 * k + j) = nI (o k j)) : ∃ op g, Core 1 T0 (T0 + 60) op g ∧ (∀ C, fL_one C F 40 (nI (8 * k)) = chg C op) ∧ fX7_carry D (nI k) = g D false := by
  obtain ⟨b0, b1, b2, b3, b4, b5⟩ := hb k
  have f0 : F (8 * k) = nI (o k 0) := hF 0 (by omega)
  have f1 := hF 1 (by omega)
  have f2 := hF 2 (by omega)
  have f3 := hF 3 (by omega)
  have f4 := hF 4 (by omega)
  have d0 : D.1 739 (4 * k) = arg o k 0 := hD.2.1 k 0 (by omega)
  have d1 := hD.2.1 k 1 (by omega)
  have d2 := hD.2.1 k 2 (by omega)
  have d3 := hD.2.1 k 3 (by omega)
  have k4 : (4 : Int32) * nI k = nI (4 * k) := pk_mul 4 k
  have k1 : nI (4 * k) + 1 = nI (4 * k + 1) := nI_add _ 1
  have k2 : nI (4 * k) + 2 = nI (4 * k + 2) := nI_add _ 2
  have k3 : nI (4 * k) + 3 = nI (4 * k + 3) := nI_add _ 3
  have j1 : nI (8 * k) + 1 = nI (8 * k + 1) := nI_add _ 1
  have j2 : nI (8 * k) + 2 = nI (8 * k + 2) := nI_add _ 2
  have j3 : nI (8 * k) + 3 = nI (8 * k + 3) := nI_add _ 3
  have j4 : nI (8 * k) + 4 = nI (8 * k + 4) := nI_add _ 4
  have gk : ∀ i, i < 4 → ¬ (nI (4 * k + i) < 0 ∨ 116 ≤ (nI (4 * k + i)).toNatClampNeg) := fun i hi => ix_nI (n := 116) (by omega) (by decide)
  have g0 : ¬ (nI (4 * k) < 0 ∨ 116 ≤ (nI (4 * k)).toNatClampNeg) := ix_nI (n := 116) (by omega) (by decide)
  have gF : ∀ i, i < 5 → ¬ (nI (8 * k + i) < 0 ∨ 40 ≤ (nI (8 * k + i)).toNatClampNeg) := fun i hi => ix_nI (n := 40) (by omega) (by decide)
  have gF0 : ¬ (nI (8 * k) < 0 ∨ 40 ≤ (nI (8 * k)).toNatClampNeg) := ix_nI (n := 40) (by omega) (by decide)
  have ml : ∀ r, (if kdc (o k 0) = 99 then fX7_tryCheck D (arg o k 0) false else if kdc (o k 0) = 102 then fX7_tryFine D (arg o k 0) (1 + arg o k 1) false else if kdc (o k 0) = 115 then fX7_trySwap D (arg o k 0) (arg o k 1) false else if kdc (o k 0) = 119 then fX7_tryWish D (arg o k 0) (arg o k 1) (arg o k 2) (arg o k 3) false else fX7_tryDays D (arg o k 0) false) = r → fX7_carry D (nI k) = r := fun r hr => by
    unfold fX7_carry
    rw [k4]
    refine lt_i (gd_i (ix_nI (n := 29) (by omega) (by decide)) ?_)
    rw [nI_clamp (show k < 2 ^ 31 by omega), hD.1 k]
    simp only [bn2_id, k1, k2, k3]
    rw [nI_clamp (show 4 * k < 2 ^ 31 by omega), nI_clamp (show 4 * k + 1 < 2 ^ 31 by omega), nI_clamp (show 4 * k + 2 < 2 ^ 31 by omega), nI_clamp (show 4 * k + 3 < 2 ^ 31 by omega), d0, d1, d2, d3]
    have w0 : ¬ (nI (4 * k) < 0 ∨ 116 ≤ 4 * k) := by have := g0; rw [nI_clamp (by omega)] at this; exact this
    have w1 : ¬ (nI (4 * k + 1) < 0 ∨ 116 ≤ 4 * k + 1) := by have := gk 1 (by omega); rw [nI_clamp (by omega)] at this; exact this
    have w2 : ¬ (nI (4 * k + 2) < 0 ∨ 116 ≤ 4 * k + 2) := by have := gk 2 (by omega); rw [nI_clamp (by omega)] at this; exact this
    have w3 : ¬ (nI (4 * k + 3) < 0 ∨ 116 ≤ 4 * k + 3) := by have := gk 3 (by omega); rw [nI_clamp (by omega)] at this; exact this
    simp only [gd_t w0, gd_t w1, gd_t w2, gd_t w3]
    exact hr
  have cl : ∀ C r, (if nI (o k 0) = 0 then (if nI (o k 4) ≤ 0 then fL_one_60 F 40 (nI (8 * k)) C (nI (o k 4)) (nI (o k 1)) (-6) else fL_one_60 F 40 (nI (8 * k)) C (nI (o k 4)) (nI (o k 1)) (nI (o k 2))) else if nI (o k 0) = 1 then fX6_fine C (nI (o k 1)) (1 + nI (o k 2)) else if nI (o k 0) = 2 then fX6_check C (nI (o k 1)) else if nI (o k 0) = 3 then fX6_swap C (nI (o k 1)) (nI (o k 3)) else fX6_days C (nI (o k 2))) = r → fL_one C F 40 (nI (8 * k)) = r := fun C r hr => by
    unfold fL_one
    simp only [bn2_id]
    rw [j4, j1, j2, j3]
    refine gd_i (gF 4 (by omega)) ?_
    rw [nI_clamp (show 8 * k + 4 < 2 ^ 31 by omega), f4]
    refine lt_i (gd_i gF0 ?_)
    have w1 : ¬ (nI (8 * k + 1) < 0 ∨ 40 ≤ 8 * k + 1) := by have := gF 1 (by omega); rw [nI_clamp (by omega)] at this; exact this
    have w2 : ¬ (nI (8 * k + 2) < 0 ∨ 40 ≤ 8 * k + 2) := by have := gF 2 (by omega); rw [nI_clamp (by omega)] at this; exact this
    have w3 : ¬ (nI (8 * k + 3) < 0 ∨ 40 ≤ 8 * k + 3) := by have := gF 3 (by omega); rw [nI_clamp (by omega)] at this; exact this
    rw [nI_clamp (show 8 * k < 2 ^ 31 by omega), nI_clamp (show 8 * k + 1 < 2 ^ 31 by omega), nI_clamp (show 8 * k + 2 < 2 ^ 31 by omega), nI_clamp (show 8 * k + 3 < 2 ^ 31 by omega), f0, f1, f2, f3]
    simp only [gd_t w1, gd_t w2, gd_t w3]
    exact hr
  have ne : ∀ a b : Nat, a < 5 → b < 5 → a ≠ b → ¬ nI a = nI b := fun a b ha hb' h q => h ((nI_eq (by omega) (by omega)).mp q)
  by_cases q0 : o k 0 = 0
  · rw [q0] at ml cl
    have a0 : arg o k 0 = nI (o k 1) := by unfold arg; rw [if_pos rfl, if_neg (by omega)]
    have a1 : arg o k 1 = (if 0 < o k 4 then nI (o k 2) else -6) := by unfold arg; rw [if_neg (by omega), if_pos rfl, if_pos q0]
    have a2 : arg o k 2 = (if 1 < o k 4 then nI (o k 3) else -6) := by unfold arg; rw [if_neg (by omega), if_neg (by omega), if_pos rfl]
    have a3 : arg o k 3 = (if 2 < o k 4 then nI ((o k 2 + o k 3) % 10) else -6) := by unfold arg; rw [if_neg (by omega), if_neg (by omega), if_neg (by omega)]
    have r10 : (nI (o k 2) + nI (o k 3)) - (nI (o k 2) + nI (o k 3)) / 10 * 10 = nI ((o k 2 + o k 3) % 10) := by
      rw [nI_add]
      exact pk_rem (d := 10) (by omega) (by decide) (by decide)
    refine ⟨fun M => fX5_tellWishes M 1 (arg o k 0) (arg o k 1) (arg o k 2) (arg o k 3), fun X q => fX7_tryWish X (arg o k 0) (arg o k 1) (arg o k 2) (arg o k 3) q, (z_wishC _ _ _ _).mono (by omega), fun C => cl C _ (if_pi rfl ?_), ml _ (if_ni (by decide) (if_ni (by decide) (if_ni (by decide) (if_pi (by decide) rfl))))⟩
    show _ = fX6_wish C (arg o k 0) (arg o k 1) (arg o k 2) (arg o k 3)
    rw [a0, a1, a2, a3]
    have w75 : ∀ t2, fL_one_75 F 40 (nI (8 * k)) C (nI (o k 4)) (nI (o k 1)) t2 (if 1 < o k 4 then nI (o k 3) else -6) = fX6_wish C (nI (o k 1)) t2 (if 1 < o k 4 then nI (o k 3) else -6) (if 2 < o k 4 then nI ((o k 2 + o k 3) % 10) else -6) := fun t2 => by
      unfold fL_one_75
      by_cases z : 2 < o k 4
      · rw [if_pos z]
        refine if_ni (show ¬ nI (o k 4) ≤ nI 2 from nI_ge z (by omega)) ?_
        rw [j2, j3]
        refine gd_i (gF 2 (by omega)) (gd_i (gF 3 (by omega)) ?_)
        rw [nI_clamp (show 8 * k + 2 < 2 ^ 31 by omega), nI_clamp (show 8 * k + 3 < 2 ^ 31 by omega), f2, f3, r10]
        unfold fL_one_99
        exact bn2_id _
      · rw [if_neg z]
        refine if_pi (show nI (o k 4) ≤ nI 2 from nI_le (by omega) (by omega)) ?_
        unfold fL_one_99
        exact bn2_id _
    have w60 : ∀ t2, fL_one_60 F 40 (nI (8 * k)) C (nI (o k 4)) (nI (o k 1)) t2 = fX6_wish C (nI (o k 1)) t2 (if 1 < o k 4 then nI (o k 3) else -6) (if 2 < o k 4 then nI ((o k 2 + o k 3) % 10) else -6) := fun t2 => by
      rw [← w75 t2]
      unfold fL_one_60
      by_cases z : 1 < o k 4
      · rw [if_pos z]
        refine if_ni (show ¬ nI (o k 4) ≤ nI 1 from nI_ge z (by omega)) ?_
        rw [j3]
        refine gd_i (gF 3 (by omega)) ?_
        rw [nI_clamp (show 8 * k + 3 < 2 ^ 31 by omega), f3]
      · rw [if_neg z]
        exact if_pi (show nI (o k 4) ≤ nI 1 from nI_le (by omega) (by omega)) rfl
    by_cases z : 0 < o k 4
    · rw [if_pos z]
      exact if_ni (nI_nle z (by omega)) (w60 _)
    · rw [if_neg z]
      exact if_pi (show nI (o k 4) ≤ nI 0 from nI_le (by omega) (by omega)) (w60 _)
  · by_cases q1 : o k 0 = 1
    · have a0 : arg o k 0 = nI (o k 1) := by unfold arg; rw [if_pos rfl, if_neg (by omega)]
      have a1 : arg o k 1 = nI (o k 2) := by unfold arg; rw [if_neg (by omega), if_pos rfl, if_neg q0, if_pos q1]
      rw [q1] at ml cl
      refine ⟨fun M => fX5_punish M 1 (nI (o k 1)) (1 + nI (o k 2)), fun X q => fX7_tryFine X (nI (o k 1)) (1 + nI (o k 2)) q, (z_fineC _ _).mono (by omega), fun C => cl C _ (if_ni (by decide) (if_pi rfl rfl)), ml _ (if_ni (by decide) (if_pi (by decide) ?_))⟩
      rw [a0, a1]
    · by_cases q2 : o k 0 = 2
      · have a0 : arg o k 0 = nI (o k 1) := by unfold arg; rw [if_pos rfl, if_neg (by omega)]
        rw [q2] at ml cl
        refine ⟨fun M => fX5_askCheck M 1 (nI (o k 1)), fun X q => fX7_tryCheck X (nI (o k 1)) q, (z_checkC _).mono (by omega), fun C => cl C _ (if_ni (by decide) (if_ni (by decide) (if_pi rfl rfl))), ml _ (if_pi (by decide) ?_)⟩
        rw [a0]
      · by_cases q3 : o k 0 = 3
        · have a0 : arg o k 0 = nI (o k 1) := by unfold arg; rw [if_pos rfl, if_neg (by omega)]
          have a1 : arg o k 1 = nI (o k 3) := by unfold arg; rw [if_neg (by omega), if_pos rfl, if_neg q0, if_neg q1]
          rw [q3] at ml cl
          refine ⟨fun M => fX5_askSwap M 1 (nI (o k 1)) (nI (o k 3)), fun X q => fX7_trySwap X (nI (o k 1)) (nI (o k 3)) q, (z_swapC _ _).mono (by omega), fun C => cl C _ (if_ni (by decide) (if_ni (by decide) (if_ni (by decide) (if_pi rfl rfl)))), ml _ (if_ni (by decide) (if_ni (by decide) (if_pi (by decide) ?_)))⟩
          rw [a0, a1]
        · have q4 : o k 0 = 4 := by omega
          have a0 : arg o k 0 = nI (o k 2) := by unfold arg; rw [if_pos rfl, if_pos q4]
          rw [q4] at ml cl
          refine ⟨fun M => fX5_passDays M 1 (nI (o k 2)), fun X q => fX7_tryDays X (nI (o k 2)) q, z_daysC kT1 hT0 _, fun C => cl C _ (if_ni (by decide) (if_ni (by decide) (if_ni (by decide) (if_ni (by decide) rfl)))), ml _ (if_ni (by decide) (if_ni (by decide) (if_ni (by decide) (if_ni (by decide) ?_))))⟩
          rw [a0]
