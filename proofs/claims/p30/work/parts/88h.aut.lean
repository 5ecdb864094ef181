/-! SIM: texts: the class's automaton -/
def nx (sg : Nat → Nat) (n k : Nat) : Nat := if k < n then sg k else 0
def isK (c : Nat) : Prop := 65 ≤ c ∧ c ≤ 80
def isG (c : Nat) : Prop := 48 ≤ c ∧ c ≤ 57
/-- what is awaited behind a sign -/
def aB (st c : Nat) : Nat := if st = 4 then (if c = 99 then 9 else if c = 100 then 10 else if c = 102 then 6 else if c = 115 then 8 else if c = 119 then 5 else 11) else if st = 5 then (if 65 ≤ c ∧ c ≤ 80 then 3 else 11) else if st = 6 then (if 65 ≤ c ∧ c ≤ 80 then 7 else 11) else if st = 7 then (if 49 ≤ c ∧ c ≤ 57 then 0 else 11) else if st = 8 then (if 65 ≤ c ∧ c ≤ 80 then 9 else 11) else if st = 9 then (if 65 ≤ c ∧ c ≤ 80 then 0 else 11) else if st = 10 then (if 48 ≤ c ∧ c ≤ 57 then (if c = 48 then 0 else 1) else 11) else (if c = 59 then 4 else if st = 0 then 11 else if 48 ≤ c ∧ c ≤ 57 then st - 1 else 11)
set_option maxRecDepth 100000 in
theorem aB_0 : ∀ n, n < 1524 → fX3_awaitedBehind mm_0 (nI (n / 127)) (nI (n % 127)) = some (nI (aB (n / 127) (n % 127))) := by decide +kernel
theorem q_aw (M : mm_M) {st c : Nat} (hs : st < 12) (hc : c < 127) : fX3_awaitedBehind M (nI st) (nI c) = some (nI (aB st c)) := by
  have h := aB_0 (st * 127 + c) (by omega)
  rw [show (st * 127 + c) / 127 = st by omega, show (st * 127 + c) % 127 = c by omega] at h
  exact h
theorem aB_lt {st : Nat} (hs : st < 12) (c : Nat) : aB st c < 12 := by
  unfold aB
  repeat' split
  all_goals omega
/-- the fault from the index i on, with st awaited -/
def FF (sg : Nat → Nat) (n : Nat) : Nat → Nat → Nat → Int32
  | 0, _, st => if 3 < st then nI n else -6
  | d + 1, i, st => if aB st (sg i) = 11 then nI i else FF sg n d (i + 1) (aB st (sg i))
def AF (sg : Nat → Nat) (n i st : Nat) : Int32 := FF sg n (n - i) i st
/-- the pad in a memory of the class -/
abbrev PdC (C : mm_M) (sg : Nat → Nat) (n : Nat) : Prop := n ≤ 80 ∧ C.1 729 1 = nI n ∧ (∀ i, i < n → C.1 730 i = nI (sg i)) ∧ ∀ i, i < n → 33 ≤ sg i ∧ sg i ≤ 126
theorem q_sign {C : mm_M} {sg : Nat → Nat} {n : Nat} (p : PdC C sg n) {k : Nat} (hk : k < 2 ^ 30) : fX3_signAt C 729 (nI k) = some (nI (nx sg n k)) := by
  obtain ⟨p1, p2, p3, p4⟩ := p
  unfold fX3_signAt nx
  rw [p2]
  refine if_ni (nI_pos (by omega)) ?_
  by_cases c : k < n
  · rw [if_pos c]
    refine if_ni (nI_ge c (by omega)) (if_ni (show ¬ nI 80 ≤ nI k from nI_ge (by omega) (by decide)) (gd_i (ix_nI (n := 80) (by omega) (by decide)) ?_))
    rw [nI_clamp (by omega), p3 k c]
  · rw [if_neg c]
    exact if_pi (nI_le (by omega) (by omega)) rfl
theorem q_ff {C : mm_M} {sg : Nat → Nat} {n : Nat} (p : PdC C sg n) : ∀ (d i st f : Nat), i + d = n → d < f → st < 12 → fX3_findFault_4 729 C f (nI st) (nI i) = some (FF sg n d i st) := by
  intro d
  induction d with
  | zero =>
    intro i st f hi hf hs
    obtain ⟨f, rfl⟩ : ∃ q, f = q + 1 := ⟨f - 1, by omega⟩
    rw [fX3_findFault_4, p.2.1]
    refine if_pi (nI_le (by omega) (by omega)) ?_
    show _ = some (if 3 < st then nI n else -6)
    by_cases c : 3 < st
    · rw [if_pos c]
      exact if_pi (show nI 3 < nI st from nI_lt c (by omega)) rfl
    · rw [if_neg c]
      exact if_ni (show ¬ nI 3 < nI st from nI_nlt (by omega) (by omega)) rfl
  | succ d ih =>
    intro i st f hi hf hs
    obtain ⟨f, rfl⟩ : ∃ q, f = q + 1 := ⟨f - 1, by omega⟩
    have p1 := p.1
    have p4 := p.2.2.2 i (by omega)
    have hx : nx sg n i = sg i := if_pos (by omega)
    have hl := aB_lt hs (sg i)
    rw [fX3_findFault_4, p.2.1]
    refine if_ni (nI_ge (by omega) (by omega)) (bn_i (q_sign p (by omega)) ?_)
    rw [hx]
    refine bn_i (q_aw C hs (by omega)) ?_
    show _ = some (if aB st (sg i) = 11 then nI i else FF sg n d (i + 1) (aB st (sg i)))
    by_cases c : aB st (sg i) = 11
    · rw [if_pos c]
      exact if_pi (show nI (aB st (sg i)) = nI 11 by rw [c]) rfl
    · rw [if_neg c]
      refine if_ni (fun q => c ((nI_eq (b := 11) (by omega) (by omega)).mp q)) (lt_i ?_)
      rw [nI_1]
      exact ih (i + 1) _ f (by omega) (by omega) hl
theorem q_findF {C : mm_M} {sg : Nat → Nat} {n : Nat} (p : PdC C sg n) : fX3_findFault C 729 = some (AF sg n 0 4) := by
  have p1 := p.1
  have h := q_ff p n 0 4 FU (by omega) (by unfold FU; omega) (by omega)
  unfold AF
  rw [Nat.sub_zero]
  exact h
/-- a step, where more than an end is awaited -/
theorem AF_s {sg : Nat → Nat} {n i st : Nat} (hi : i ≤ n) (hs : 3 < st ∧ st < 11) : AF sg n i st = if aB st (nx sg n i) = 11 then nI i else AF sg n (i + 1) (aB st (nx sg n i)) := by
  unfold AF
  by_cases c : i < n
  · rw [show nx sg n i = sg i from if_pos c, show n - i = (n - (i + 1)) + 1 by omega]
    rfl
  · rw [show nx sg n i = 0 from if_neg c, show n - i = 0 by omega]
    have e : aB st 0 = 11 := by
      obtain ⟨h1, h2⟩ := hs
      match st, h1, h2 with
      | 4, _, _ => rfl
      | 5, _, _ => rfl
      | 6, _, _ => rfl
      | 7, _, _ => rfl
      | 8, _, _ => rfl
      | 9, _, _ => rfl
      | 10, _, _ => rfl
      | st + 11, _, h => exact absurd h (by omega)
    rw [if_pos e]
    show (if 3 < st then nI n else -6) = _
    rw [if_pos hs.1, show i = n by omega]
theorem AF_no {sg : Nat → Nat} {n i st : Nat} (hi : i ≤ n) (hs : 3 < st ∧ st < 11) (h : aB st (nx sg n i) = 11) : AF sg n i st = nI i := by rw [AF_s hi hs, if_pos h]
theorem AF_yes {sg : Nat → Nat} {n i st st' : Nat} (hi : i ≤ n) (hs : 3 < st ∧ st < 11) (h : aB st (nx sg n i) = st') (h2 : st' ≠ 11) : AF sg n i st = AF sg n (i + 1) st' := by rw [AF_s hi hs, h, if_neg h2]
/-- behind an order -/
def EF (sg : Nat → Nat) (n e : Nat) : Int32 := if e < n then (if sg e = 59 then AF sg n (e + 1) 4 else nI e) else -6
theorem AF_e {sg : Nat → Nat} {n e st : Nat} (hs : st ≤ 3) (he : e ≤ n) (h : st = 0 ∨ ¬ (48 ≤ nx sg n e ∧ nx sg n e ≤ 57)) : AF sg n e st = EF sg n e := by
  unfold AF EF
  by_cases c : e < n
  · have hx : nx sg n e = sg e := if_pos c
    rw [hx] at h
    rw [if_pos c, show n - e = (n - (e + 1)) + 1 by omega]
    show (if aB st (sg e) = 11 then nI e else FF sg n (n - (e + 1)) (e + 1) (aB st (sg e))) = _
    have e1 : aB st (sg e) = if sg e = 59 then 4 else 11 := by
      unfold aB
      rw [if_neg (by omega), if_neg (by omega), if_neg (by omega), if_neg (by omega), if_neg (by omega), if_neg (by omega), if_neg (by omega)]
      by_cases c1 : sg e = 59
      · rw [if_pos c1, if_pos c1]
      · rw [if_neg c1, if_neg c1]
        by_cases c2 : st = 0
        · rw [if_pos c2]
        · rw [if_neg c2, if_neg (by omega)]
    rw [e1]
    by_cases c1 : sg e = 59
    · rw [if_pos c1, if_pos c1, if_neg (by omega)]
      rfl
    · rw [if_neg c1, if_neg c1, if_pos rfl]
  · rw [if_neg c, show n - e = 0 by omega]
    show (if 3 < st then nI n else -6) = _
    rw [if_neg (by omega)]
/-- a digit more, where up to st may stand -/
theorem AF_g {sg : Nat → Nat} {n e st : Nat} (hs : st + 1 ≤ 3) (he : e ≤ n) (h : 48 ≤ nx sg n e ∧ nx sg n e ≤ 57) : AF sg n e (st + 1) = AF sg n (e + 1) st := by
  have c : e < n := by
    rcases Nat.lt_or_ge e n with q | q
    · exact q
    · rw [show nx sg n e = 0 from if_neg (by omega)] at h
      omega
  have hx : nx sg n e = sg e := if_pos c
  rw [hx] at h
  unfold AF
  rw [show n - e = (n - (e + 1)) + 1 by omega]
  show (if aB (st + 1) (sg e) = 11 then nI e else FF sg n (n - (e + 1)) (e + 1) (aB (st + 1) (sg e))) = _
  have e1 : aB (st + 1) (sg e) = st := by
    unfold aB
    rw [if_neg (by omega), if_neg (by omega), if_neg (by omega), if_neg (by omega), if_neg (by omega), if_neg (by omega), if_neg (by omega), if_neg (by omega), if_neg (by omega), if_pos (by omega)]
    omega
  rw [e1, if_neg (by omega)]
