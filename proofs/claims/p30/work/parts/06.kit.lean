/-! MY OWN KIT: one region of cells at mm_lo, mm_lo + 1 ..; which kind of cell stands at which place is fixed (kT), references between them too (kR); what changes is ints (M.1) and longs (M.2), by place and slot. -/
abbrev mm_M : Type := (Nat → Nat → Int32) × (Nat → Nat → Int64)
abbrev mm_R : Type := Nat → Nat → Option Nat
abbrev mm_Ws : Type := mm_R × Nat × mm_M
abbrev mm_G : Type := va_G × (Nat → ClassId) × (Nat → Nat)
abbrev mm_lo (G : mm_G) : Nat := G.2.2 0
abbrev mm_A (G : mm_G) : Nat → Prop := fun q => mm_lo G ≤ q
def sI (M : mm_M) (o k : Nat) (v : Int32) : mm_M := (fun o' k' => if o' = o ∧ k' = k then v else M.1 o' k', M.2)
def sL (M : mm_M) (o k : Nat) (v : Int64) : mm_M := (M.1, fun o' k' => if o' = o ∧ k' = k then v else M.2 o' k')
def sC (M : mm_M) (o : Nat) (f : Nat → Int32) : mm_M := (fun o' k' => if o' = o then f k' else M.1 o' k', M.2)
def sR (R : mm_R) (o k : Nat) (v : Option Nat) : mm_R := fun o' k' => if o' = o ∧ k' = k then v else R o' k'
/-- kinds: 0 Cart, 1 History, 2 Pad, 3 Pitch, 4 State, 5 CartPitches, 6 the model, 7 char[], 8 int[], 9 boolean[], 10 Cart[], 11 Pitch[], 12 State[]; of an array its length -/
def kS (r : Nat) : Nat × Nat := if r = 0 then (4, 0) else if r = 1 then (8, 10) else if r = 2 then (11, 10) else if r = 3 then (10, 16) else if r = 4 then (8, 8) else if r = 5 then (8, 8) else if r = 6 then (8, 16) else if r = 7 then (8, 16) else if r < 18 then (3, 0) else if (r - 18) % 3 = 0 then (0, 0) else if (r - 18) % 3 = 1 then (8, 3) else (8, 200)
def kT (o : Nat) : Nat × Nat := if o = 0 then (5, 0) else if o < 133 then kS ((o - 1) % 66) else if o = 133 then (1, 0) else if o = 134 then (12, 7) else if o < 729 then kS ((o - 135) % 66) else if o = 729 then (2, 0) else if o = 730 then (7, 80) else if o = 731 then (6, 0) else if o = 732 then (8, 3592) else if o = 733 then (8, 21552) else if o = 734 then (8, 7184) else if o = 735 then (9, 2) else if o = 736 then (8, 3592) else if o = 737 then (8, 80) else if o = 738 then (8, 29) else if o = 739 then (8, 116) else (99, 0)
def rS (o r k : Nat) : Option Nat := if r = 0 then (if 7 ≤ k ∧ k ≤ 13 then some (o + (k - 6)) else none) else if r = 2 then (if k < 10 then some (o + 6 + k) else none) else if r = 3 then (if k < 16 then some (o + 15 + 3 * k) else none) else if 18 ≤ r ∧ (r - 18) % 3 = 0 then (if k = 16 then some (o + 1) else if k = 17 then some (o + 2) else none) else none
def kR : mm_R := fun o k => if o = 0 then (if k = 0 then some 1 else if k = 1 then some 67 else if k = 2 then some 133 else if k = 3 then some 597 else if k = 4 then some 663 else if k = 5 then some 729 else none) else if o < 133 then rS o ((o - 1) % 66) k else if o = 133 then (if k = 0 then some 134 else none) else if o = 134 then (if k < 7 then some (135 + 66 * k) else none) else if o < 729 then rS o ((o - 135) % 66) k else if o = 729 then (if k = 0 then some 730 else none) else if o = 731 then (if k = 0 then some 732 else if k = 1 then some 733 else if k = 3 then some 734 else if k = 4 then some 735 else if k = 5 then some 736 else if k = 6 then some 737 else if k = 13 then some 738 else if k = 14 then some 739 else none) else none
def mm_q (G : mm_G) (r : Option Nat) : Value := va_rf (r.map (fun a => mm_lo G + a))
theorem mm_q_some {G : mm_G} {r : Option Nat} {b : Nat} (h : r = some b) : mm_q G r = .ref (mm_lo G + b) := by subst h; rfl
def mm_e (G : mm_G) (I : Nat → Int32) (L : Nat → Int64) (R : Nat → Option Nat) (q : Nat × Nat) : va_E := match q.1 with
  | 0 => .inr (0, [.int (I 0), .int (I 1), .int (I 2), .int (I 3), .int (I 4), .int (I 5), .int (I 6), .int (I 7), .int (I 8), .int (I 9), .int (I 10), .int (I 11), .long (L 12), .long (L 13), .long (L 14), .long (L 15), mm_q G (R 16), mm_q G (R 17)])
  | 1 => .inr (1, [mm_q G (R 0), .int (I 1), .int (I 2)])
  | 2 => .inr (2, [mm_q G (R 0), .int (I 1)])
  | 3 => .inr (3, [.int (I 0), .int (I 1), .int (I 2), .int (I 3)])
  | 4 => .inr (4, [.int (I 0), .int (I 1), .int (I 2), .int (I 3), .int (I 4), .int (I 5), .int (I 6), mm_q G (R 7), mm_q G (R 8), mm_q G (R 9), mm_q G (R 10), mm_q G (R 11), mm_q G (R 12), mm_q G (R 13), .int (I 14)])
  | 5 => .inr (5, [mm_q G (R 0), mm_q G (R 1), mm_q G (R 2), mm_q G (R 3), mm_q G (R 4), mm_q G (R 5)])
  | 6 => .inr (6, [mm_q G (R 0), mm_q G (R 1), .int (I 2), mm_q G (R 3), mm_q G (R 4), mm_q G (R 5), mm_q G (R 6), .int (I 7), .int (I 8), .int (I 9), .int (I 10), .int (I 11), .int (I 12), mm_q G (R 13), mm_q G (R 14)])
  | 7 => .inl (G.2.1 0, (q.2, .inl I))
  | 8 => .inl (G.2.1 1, (q.2, .inl I))
  | 9 => .inl (G.2.1 2, (q.2, .inl I))
  | 10 => .inl (G.2.1 3, (q.2, .inr (.inr (.inr (.inr (fun j => (R j).map (fun a => mm_lo G + a)))))))
  | 11 => .inl (G.2.1 4, (q.2, .inr (.inr (.inr (.inr (fun j => (R j).map (fun a => mm_lo G + a)))))))
  | _ => .inl (G.2.1 5, (q.2, .inr (.inr (.inr (.inr (fun j => (R j).map (fun a => mm_lo G + a)))))))
def mm_tys (G : mm_G) : List (ClassId × FieldType) := [(G.2.1 0, .char), (G.2.1 1, .int), (G.2.1 2, .boolean), (G.2.1 3, .object "CartPitches$Cart"), (G.2.1 4, .object "CartPitches$Pitch"), (G.2.1 5, .object "CartPitches$State")]
def mm_en (G : mm_G) (R : mm_R) (M : mm_M) (o : Nat) : va_E := mm_e G (M.1 o) (M.2 o) (R o) (kT o)
def mm_W (G : mm_G) (R : mm_R) (N : Nat) (M : mm_M) : va_W := (List.range N).map fun o => (mm_lo G + o, mm_en G R M o)
theorem mm_Wg {G : mm_G} {R : mm_R} {N : Nat} {M : mm_M} {o : Nat} (h : o < N) : (mm_W G R N M)[o]? = some (mm_lo G + o, mm_en G R M o) := by
  unfold mm_W
  rw [List.getElem?_map, List.getElem?_range h]
  rfl
theorem mm_Wi {G : mm_G} {R : mm_R} {N : Nat} {M : mm_M} {k : Nat} {q : Nat × va_E} (h : (mm_W G R N M)[k]? = some q) : k < N ∧ q = (mm_lo G + k, mm_en G R M k) := by
  have hk : k < N := by
    have := (List.getElem?_eq_some_iff.mp h).1
    unfold mm_W at this
    simpa using this
  rw [mm_Wg hk] at h
  exact ⟨hk, (Option.some.inj h).symm⟩
theorem mm_Wd {G : mm_G} {R : mm_R} {N : Nat} {M : mm_M} : va_D (mm_A G) (mm_W G R N M) := by
  refine ⟨fun i j p q hi hj h => ?_, fun k q hk => ?_⟩
  · have a := (mm_Wi hi).2
    have b := (mm_Wi hj).2
    subst a; subst b
    exact Nat.add_left_cancel h
  · have a := (mm_Wi hk).2
    subst a
    exact Nat.le_add_right _ _
def mm_P (G : mm_G) (R : mm_R) (N : Nat) (M : mm_M) (H : Heap) : Prop := va_P G.1 vwCl (mm_W G R N M) H
/-- one cell is written -/
theorem mm_upd {G : mm_G} {R R1 : mm_R} {N : Nat} {M M1 : mm_M} {H H1 : Heap} {o : Nat} (hM : mm_P G R N M H) (oq : ∀ q : Nat, q ≠ mm_lo G + o → H1[q]? = H[q]?) (he : va_at G.1 vwCl (mm_lo G + o, mm_en G R1 M1 o) H1) (hs : ∀ o', o' ≠ o → mm_en G R1 M1 o' = mm_en G R M o') : mm_P G R1 N M1 H1 := by
  intro k q hk
  obtain ⟨hkN, e⟩ := mm_Wi hk
  subst e
  by_cases h : k = o
  · subst h; exact he
  · rw [hs k h]
    exact (hM k _ (mm_Wg hkN)).kept (oq _ (fun z => h (Nat.add_left_cancel z)))
theorem mm_en_I {G : mm_G} {R : mm_R} {M : mm_M} {o k : Nat} {v : Int32} : ∀ o', o' ≠ o → mm_en G R (sI M o k v) o' = mm_en G R M o' := by
  intro o' h
  have e : (sI M o k v).1 o' = M.1 o' := by funext j; simp [sI, h]
  unfold mm_en
  rw [e]
  rfl
theorem mm_en_L {G : mm_G} {R : mm_R} {M : mm_M} {o k : Nat} {v : Int64} : ∀ o', o' ≠ o → mm_en G R (sL M o k v) o' = mm_en G R M o' := by
  intro o' h
  have e : (sL M o k v).2 o' = M.2 o' := by funext j; simp [sL, h]
  unfold mm_en
  rw [e]
  rfl
theorem mm_en_C {G : mm_G} {R : mm_R} {M : mm_M} {o : Nat} {f : Nat → Int32} : ∀ o', o' ≠ o → mm_en G R (sC M o f) o' = mm_en G R M o' := by
  intro o' h
  have e : (sC M o f).1 o' = M.1 o' := by funext j; simp [sC, h]
  unfold mm_en
  rw [e]
  rfl
theorem mm_en_R {G : mm_G} {R : mm_R} {M : mm_M} {o k : Nat} {v : Option Nat} : ∀ o', o' ≠ o → mm_en G (sR R o k v) M o' = mm_en G R M o' := by
  intro o' h
  have e : (sR R o k v) o' = R o' := by funext j; simp [sR, h]
  unfold mm_en
  rw [e]
theorem sI_at (M : mm_M) (o k : Nat) (v : Int32) : (sI M o k v).1 o = fun j => if j = k then v else M.1 o j := by funext j; simp [sI]
theorem sI_long (M : mm_M) (o k : Nat) (v : Int32) (o' : Nat) : (sI M o k v).2 o' = M.2 o' := rfl
theorem sL_at (M : mm_M) (o k : Nat) (v : Int64) : (sL M o k v).2 o = fun j => if j = k then v else M.2 o j := by funext j; simp [sL]
theorem sL_int (M : mm_M) (o k : Nat) (v : Int64) (o' : Nat) : (sL M o k v).1 o' = M.1 o' := rfl
theorem sR_at (R : mm_R) (o k : Nat) (v : Option Nat) : (sR R o k v) o = fun j => if j = k then v else R o j := by funext j; simp [sR]
-- the tables' words
def mm_good : List Cond := lw_tbl.filter goodWord
theorem mm_in {w : Cond} (i : Nat) (h : lw_tbl[i]? = some w) (hg : goodWord w = true) : w ∈ mm_good := List.mem_filter.mpr ⟨List.mem_of_getElem? h, hg⟩
def mm_ws (y : MethodName) (cc : ByteArray) (n : Nat) (ret : Option FieldType) : List Cond := Cond.code y cc n ret :: mm_good
theorem mm_gd {w : Cond} (h : w ∈ mm_good) : w ∈ mm_good ∧ ((w.onTables && w.keeps) = true ∨ ∃ ty, w = .arrayClass ty) := ⟨h, good_of_word (List.mem_filter.mp h).2⟩
theorem mm_gws {y : MethodName} {cc : ByteArray} {n : Nat} {ret : Option FieldType} (h : Cond.code y cc n ret ∈ mm_good) : GoodIn mm_good (mm_ws y cc n ret) := by
  intro w hw
  rcases List.mem_cons.mp hw with rfl | hw
  · exact mm_gd h
  · exact mm_gd hw
theorem mm_gV {own : String} {idx : Nat} {C : String} {y : MethodName} {cc : ByteArray} {n : Nat} {ret : Option FieldType} (h1 : Cond.methodLink own idx y ∈ mm_good) (h2 : Cond.instanceMethod y ∈ mm_good) (h3 : Cond.selects C y y ∈ mm_good) (h4 : Cond.initialized C ∈ mm_good) (h5 : Cond.code y cc n ret ∈ mm_good) : GoodIn mm_good (wsV own idx C y (mm_ws y cc n ret)) := by
  intro w hw
  unfold wsV at hw
  rcases List.mem_append.mp hw with hw | hw
  · simp only [List.mem_cons, List.not_mem_nil, or_false] at hw
    rcases hw with rfl | rfl | rfl | rfl
    · exact mm_gd h1
    · exact mm_gd h2
    · exact mm_gd h3
    · exact mm_gd h4
  · exact mm_gws h5 w hw
theorem mm_gS {own : String} {idx : Nat} {y : MethodName} {cc : ByteArray} {n : Nat} {ret : Option FieldType} (h1 : Cond.methodLink own idx y ∈ mm_good) (h2 : Cond.static y ∈ mm_good) (h4 : Cond.initialized y.cls ∈ mm_good) (h5 : Cond.code y cc n ret ∈ mm_good) : GoodIn mm_good (va_wsS own idx y (mm_ws y cc n ret)) := by
  intro w hw
  unfold va_wsS at hw
  rcases List.mem_append.mp hw with hw | hw
  · simp only [List.mem_cons, List.not_mem_nil, or_false] at hw
    rcases hw with rfl | rfl | rfl
    · exact mm_gd h1
    · exact mm_gd h2
    · exact mm_gd h4
  · exact mm_gws h5 w hw
/-- links between nest mates, arrays of references: words that are said of a state -/
def mm_N (U : State) : Prop := (∀ (own : String) (i : Nat) (r n d h : String), Cond.fieldLinkNest own i r n d h ∈ lw_tbl → va_Nw (.fieldLinkNest own i r n d h) U) ∧ (∀ (own : String) (i : Nat) (y : MethodName) (h : String), Cond.methodLinkNest own i y h ∈ lw_tbl → va_Nw (.methodLinkNest own i y h) U) ∧ (∀ C : String, Cond.arrayOver (.object C) ∈ lw_tbl → va_AO C U)
theorem mm_N.warm {s U : State} (hW : s.WarmedH U.vm) (h : mm_N s) : mm_N U := ⟨fun own i r n d x hw => va_Nw.warmF hW (h.1 own i r n d x hw), fun own i y x hw => va_Nw.warmM hW (h.2.1 own i y x hw), fun C hw => va_AO.moved hW.alike (h.2.2 C hw)⟩
theorem mm_N.same {u U : State} (e : u.vm = U.vm) (h : mm_N u) : mm_N U := ⟨fun own i r n d x hw => va_Nw.same rfl e (h.1 own i r n d x hw), fun own i y x hw => va_Nw.same rfl e (h.2.1 own i y x hw), fun C hw => va_AO.moved (by rw [e]; exact Vm.Alike.refl _) (h.2.2 C hw)⟩
def mm_K (G : mm_G) (U : State) : Prop := va_K G.1 vwCl (mm_tys G) U ∧ mm_N U
theorem mm_K.warm {G : mm_G} {s U : State} (hW : s.WarmedH U.vm) (h : mm_K G s) : mm_K G U := ⟨va_K.moved hW.alike h.1, h.2.warm hW⟩
theorem mm_K.same {G : mm_G} {u U : State} (e : u.vm = U.vm) (h : mm_K G u) : mm_K G U := ⟨va_K.moved (by rw [e]; exact Vm.Alike.refl _) h.1, h.2.same e⟩
-- the three static arrays
def mm_f0 (j : Nat) : Int32 := if j = 0 then 8 else if j = 1 then 60 else if j = 2 then 2 else if j = 3 then 12 else if j = 4 then 14 else if j = 5 then 90 else if j = 6 then 500 else if j = 7 then 2 else if j = 8 then 11 else 200
def mm_f1 (j : Nat) : Int32 := if j = 0 then 1 else if j = 1 then 1 else if j = 2 then 1 else if j = 3 then 3 else if j = 4 then 1 else if j = 5 then 1 else if j = 6 then 0 else if j = 7 then 0 else if j = 8 then 6 else 0
def mm_f2 (j : Nat) : Int32 := if j = 0 then 20 else if j = 1 then 200 else if j = 2 then 8 else if j = 3 then 30 else if j = 4 then 60 else if j = 5 then 200 else if j = 6 then 10000 else if j = 7 then 9 else if j = 8 then 14 else 5000
def mm_Z1 (G : mm_G) (n : String) (t : Nat) (f : Nat → Int32) (U : State) (H : Heap) : Prop := va_Z "CartPitches" n "[I" (.ref t) (mm_A G) U H ∧ va_T .int t 10 (fun j => .int (f j)) (mm_A G) U H
def mm_Z (G : mm_G) (U : State) (H : Heap) : Prop := mm_Z1 G "FIRST_VALUE" (G.2.2 1) mm_f0 U H ∧ mm_Z1 G "LEAST_VALUE" (G.2.2 2) mm_f1 U H ∧ mm_Z1 G "MOST_VALUE" (G.2.2 3) mm_f2 U H
theorem mm_Z1.go {G : mm_G} {n : String} {t : Nat} {f : Nat → Int32} {u U : State} {H H1 : Heap} (hvm : u.vm.Alike U.vm) (hq : ∀ a : Nat, a < H.size → ¬ mm_A G a → H1[a]? = H[a]?) (h : mm_Z1 G n t f u H) : mm_Z1 G n t f U H1 := ⟨(h.1.moved hvm).kept hq, (h.2.moved hvm).kept hq⟩
theorem mm_Z.go {G : mm_G} {u U : State} {H H1 : Heap} (hvm : u.vm.Alike U.vm) (hq : ∀ a : Nat, a < H.size → ¬ mm_A G a → H1[a]? = H[a]?) (h : mm_Z G u H) : mm_Z G U H1 := ⟨h.1.go hvm hq, h.2.1.go hvm hq, h.2.2.go hvm hq⟩
/-- a method's world; behind makers its size too -/
def mm_B (G : mm_G) (w : mm_Ws) (U : State) : Prop := mm_P G w.1 w.2.1 w.2.2 U.heap ∧ mm_K G U ∧ mm_Z G U U.heap ∧ mm_lo G ≤ U.heap.size
def mm_Bc (G : mm_G) (w : mm_Ws) (U : State) : Prop := U.heap.size = mm_lo G + w.2.1 ∧ mm_B G w U
theorem mm_blind {G : mm_G} {vs : List Value} {w : mm_Ws} : FrameBlind (va_Pc vs (mm_B G w)) := fun a U g mk q => ⟨q.1, q.2.1, mm_K.same (u := U) (U := U.calling g mk a) rfl q.2.2.1, q.2.2.2.1.go (u := U) (U := U.calling g mk a) (Vm.Alike.refl U.vm) (fun _ _ _ => rfl), q.2.2.2.2⟩
theorem mm_blindc {G : mm_G} {vs : List Value} {w : mm_Ws} : FrameBlind (va_Pc vs (mm_Bc G w)) := fun a U g mk q => ⟨q.1, q.2.1, q.2.2.1, mm_K.same (u := U) (U := U.calling g mk a) rfl q.2.2.2.1, q.2.2.2.2.1.go (u := U) (U := U.calling g mk a) (Vm.Alike.refl U.vm) (fun _ _ _ => rfl), q.2.2.2.2.2⟩
/-- what a walk carries -/
def mm_C (G : mm_G) (p : Program) (s : State) (m : MethodId) (args : Array Value) (meth : Method) (c : Code) (own : String) (cc : ByteArray) (nL : Nat) (ret : Option FieldType) : Prop :=
  p.tables.exec = Jvm.exec ∧ c.code = cc ∧ meth.sig.returnType = ret ∧ (∀ w ∈ mm_good, w.before args s = true) ∧ s.vm.findClass own = some m.cls ∧ c.maxLocals = nL ∧ meth.locks = false ∧ mm_K G s ∧ mm_Z G s s.heap ∧ mm_lo G ≤ s.heap.size
section MMR
variable {p : Program} {l : Launch} {e : Env} {Rm : Room} {s : State} {m : MethodId} {args : Array Value} {below : List Frame} {meth : Method} {c : Code} {H : Heap} {locs : List Loc} {cells slots : Nat} {Q : State → Prop}
variable {cc : ByteArray} {pc : Nat} {ls : Array Slot} {rest : List Value} {G : mm_G} {own : String} {nL : Nat} {ret : Option FieldType} {R : mm_R} {N : Nat} {M : mm_M} {o : Nat}
theorem mm_get (C : mm_C G p s m args meth c own cc nL ret) (hM : mm_P G R N M H) (ho : o < N) {ci Nf k index : Nat} {Cn : String} {T : u_T} {fs : List Value} (he : mm_en G R M o = .inr (ci, fs)) (hc : vwCl[ci]? = some (Cn, T, Nf)) (hw : ∀ w ∈ u_ws Cn T Nf, w ∈ mm_good) (hk : k < Nf) (hs : (T k).1 = Cn) (hlink : Cond.fieldLink own index Cn (T k).2.1 (T k).2.2.1 ∈ mm_good) {v : Value} (hv : fs[k]? = some v) (hdg : decode cc pc = .ok (.getfield index, 3))
    (kk : W p l e Rm s m args below meth c H locs cells slots Q (F0 m (pc + 3) ls (v :: rest))) : W p l e Rm s m args below meth c H locs cells slots Q (F0 m pc ls (.ref (mm_lo G + o) :: rest)) := by
  obtain ⟨hx, hb, -, hts, hown, -, -, hK, -⟩ := C
  exact va_get (D := G.1) (cl := vwCl) (ci := ci) (v := v) (C := Cn) (T := T) (N := Nf) hx hb hts hw hown hK.1 hM o (by rw [mm_Wg ho, he]) hc k hk (hts _ hlink) (fun _ h9 => by rw [hs] at h9; exact h9) hv hdg kk
/-- a field is written, not final: the cell behind it, all others as they were -/
theorem mm_put0 (C : mm_C G p s m args meth c own cc nL ret) (hM : mm_P G R N M H) (hS : va_S (mm_A G) s.heap H locs) (ho : o < N) {ci Nf k index : Nat} {Cn : String} {T : u_T} {fs : List Value} (he : mm_en G R M o = .inr (ci, fs)) (hc : vwCl[ci]? = some (Cn, T, Nf)) (hw : ∀ w ∈ u_ws Cn T Nf, w ∈ mm_good) (ty0 : Nat → FieldType) (hty : ∀ k, k < Nf → parseFieldDescriptor (T k).2.2.1 = some (ty0 k)) (hnm : ∀ a, a < Nf → ∀ b, b < Nf → a ≠ b → (T a).2.1 ≠ (T b).2.1) (hk : k < Nf) (hs : (T k).1 = Cn) (hlink : Cond.fieldLink own index Cn (T k).2.1 (T k).2.2.1 ∈ mm_good)
    (hfin : (T k).2.2.2 = false ∨ ((T k).2.2.2 = true ∧ meth.name = "<init>" ∧ Cn = own)) {v : Value} (hn : narrow (ty0 k) v = v) (hfit : fits (ty0 k) v = true) (hl : k < fs.length) (hdg : decode cc pc = .ok (.putfield index, 3))
    (kk : ∀ (H1 : Heap) (locs1 : List Loc), va_at G.1 vwCl (mm_lo G + o, .inr (ci, fs.set k v)) H1 → (∀ q : Nat, q ≠ mm_lo G + o → H1[q]? = H[q]?) → H1.size = H.size → va_S (mm_A G) s.heap H1 locs1 → W p l e Rm s m args below meth c H1 locs1 cells slots Q (F0 m (pc + 3) ls rest)) : W p l e Rm s m args below meth c H locs cells slots Q (F0 m pc ls (v :: .ref (mm_lo G + o) :: rest)) := by
  obtain ⟨hx, hb, -, hts, hown, -, -, hK, -⟩ := C
  have hap := va_apart (own := own) (ci := ci) hts hw ty0 hty hnm hK.1 hc
  have h0 := hM o _ (mm_Wg ho)
  rw [he] at h0
  obtain ⟨r, h1, cell, q1, q2, q3, q4⟩ := h0
  cases h1.symm.trans hc
  obtain ⟨hSl, hfc, kC, hkC, hkind⟩ := hK.1.1 ci _ hc
  obtain ⟨cf, kf, fi, f, hi, hsl⟩ := hSl k hk
  have hd : parseFieldDescriptor (T k).2.2.1 = some (ty0 k) := hty k hk
  have hst := (u_facts hfc hkC (u_lays hts hw hk) hi).1
  have hi2 : s.fieldFound? Cn (T k).2.1 (T k).2.2.1 = some (cf, kf, fi, f) := by rw [← hs]; exact hi
  have hlt : f.slot < cell.slots.size := by rw [hsl]; exact k2_hasslot (q4 k hk)
  have fin : ∀ H' : Heap, H'[mm_lo G + o]? = some (cell.setSlot f.slot v) → H'.size = H.size → (∀ q, q ≠ mm_lo G + o → H'[q]? = H[q]?) → W p l e Rm s m args below meth c H' (locs ++ [⟨mm_lo G + o, f.slot⟩]) cells slots Q (F0 m (pc + 3) ls rest) := by
    intro H' e1 e2 e3
    rw [hsl] at e1 ⊢
    exact kk H' _ ⟨_, hc, t_OB.to (V := updV (vp_V fs) k v) ⟨_, e1, q2, q3, t_set q4 hap hk v⟩ (fun j _ => vp_updV_set hl v j)⟩ e3 e2 (hS.put e2 e3 (Nat.le_add_right _ _))
  rcases hfin with hfin | ⟨hfin, hin, hCn⟩
  · have hlay := hts _ (hw _ (u_in_lay hk))
    unfold u_lay at hlay
    rw [if_neg (by rw [hfin]; decide)] at hlay
    have h6 := u_store hfc hkC hkind hlay hi hd hn hfit
    exact W.putK hx hb (f := f) ⟨hown, hts _ hlink, ⟨_, _, _, hi2⟩, hst⟩ (by rw [q2]; exact h6) q1 q3 hlt rfl rfl hdg fin
  · have hlay := hts _ (hw _ (u_in_lay hk))
    unfold u_lay at hlay
    rw [if_pos hfin] at hlay
    have hcf : m.cls = cf := by
      obtain ⟨_, _, c', _, _, _, -, -, hf', -, -, -, hown2, -⟩ := Cond.laysFinal_spec hlay
      have e1 : c' = cf := by have := hi.symm.trans hf'; simp at this; exact this.1.symm
      rw [hs, hCn] at hown2
      rw [← e1]; exact Option.some.inj (hown.symm.trans hown2)
    have h6 := u_fits hfc hkC hkind (Or.inr hlay) hi hd hn hfit
    exact W.putFinK hx hb hown (hts _ hlink) hi2 hst hcf hin (by rw [q2]; exact h6) q1 q3 hlt rfl rfl hdg fin
/-- an int array is read -/
theorem mm_ild (C : mm_C G p s m args meth c own cc nL ret) (hM : mm_P G R N M H) (ho : o < N) {n : Nat} (hT : kT o = (8, n)) {i : Int32} (hin : vp_in i n) (hdg : decode cc pc = .ok (.iaload, 1))
    (kk : W p l e Rm s m args below meth c H locs cells slots Q (F0 m (pc + 1) ls (.int (M.1 o i.toNatClampNeg) :: rest))) : W p l e Rm s m args below meth c H locs cells slots Q (F0 m pc ls (.int i :: .ref (mm_lo G + o) :: rest)) := by
  obtain ⟨hx, hb, -, hts, hown, -, -, hK, -⟩ := C
  exact va_iald hx hb hK.1 hM o 1 (cA := G.2.1 1) (n := n) (f := M.1 o) (by rw [mm_Wg ho]; unfold mm_en; rw [hT]; rfl) rfl hin hdg kk
theorem mm_zld (C : mm_C G p s m args meth c own cc nL ret) (hM : mm_P G R N M H) (ho : o < N) {n : Nat} (hT : kT o = (9, n)) {i : Int32} (hin : vp_in i n) (hdg : decode cc pc = .ok (.baload, 1))
    (kk : W p l e Rm s m args below meth c H locs cells slots Q (F0 m (pc + 1) ls (.int (M.1 o i.toNatClampNeg) :: rest))) : W p l e Rm s m args below meth c H locs cells slots Q (F0 m pc ls (.int i :: .ref (mm_lo G + o) :: rest)) := by
  obtain ⟨hx, hb, -, hts, hown, -, -, hK, -⟩ := C
  exact va_zald hx hb hK.1 hM o 2 (cA := G.2.1 2) (n := n) (f := M.1 o) (by rw [mm_Wg ho]; unfold mm_en; rw [hT]; rfl) rfl hin hdg kk
theorem mm_cld (C : mm_C G p s m args meth c own cc nL ret) (hM : mm_P G R N M H) (ho : o < N) {n : Nat} (hT : kT o = (7, n)) {i : Int32} (hin : vp_in i n) (hdg : decode cc pc = .ok (.caload, 1))
    (kk : W p l e Rm s m args below meth c H locs cells slots Q (F0 m (pc + 1) ls (.int (M.1 o i.toNatClampNeg) :: rest))) : W p l e Rm s m args below meth c H locs cells slots Q (F0 m pc ls (.int i :: .ref (mm_lo G + o) :: rest)) := by
  obtain ⟨hx, hb, -, hts, hown, -, -, hK, -⟩ := C
  exact va_cald hx hb hK.1 hM o 0 (cA := G.2.1 0) (n := n) (f := M.1 o) (by rw [mm_Wg ho]; unfold mm_en; rw [hT]; rfl) rfl hin hdg kk
/-- an array of references is read; what stands there is known -/
theorem mm_ald (C : mm_C G p s m args meth c own cc nL ret) (hM : mm_P G R N M H) (ho : o < N) {k n : Nat} (hk : k = 10 ∨ k = 11 ∨ k = 12) (hT : kT o = (k, n)) {i : Int32} (hin : vp_in i n) {b : Nat} (hr : R o i.toNatClampNeg = some b) (hdg : decode cc pc = .ok (.aaload, 1))
    (kk : W p l e Rm s m args below meth c H locs cells slots Q (F0 m (pc + 1) ls (.ref (mm_lo G + b) :: rest))) : W p l e Rm s m args below meth c H locs cells slots Q (F0 m pc ls (.int i :: .ref (mm_lo G + o) :: rest)) := by
  obtain ⟨hx, hb, -, hts, hown, -, -, hK, -⟩ := C
  have kk : W p l e Rm s m args below meth c H locs cells slots Q (F0 m (pc + 1) ls (va_rf ((fun j => (R o j).map (fun a => mm_lo G + a)) i.toNatClampNeg) :: rest)) := by
    show W p l e Rm s m args below meth c H locs cells slots Q (F0 m (pc + 1) ls (mm_q G (R o i.toNatClampNeg) :: rest))
    rw [mm_q_some hr]; exact kk
  rcases hk with rfl | rfl | rfl
  · exact va_aldq hx hb hK.1 hM o 3 (cA := G.2.1 3) (n := n) (f := fun j => (R o j).map (fun a => mm_lo G + a)) (by rw [mm_Wg ho]; unfold mm_en; rw [hT]; rfl) rfl hin hdg kk
  · exact va_aldq hx hb hK.1 hM o 4 (cA := G.2.1 4) (n := n) (f := fun j => (R o j).map (fun a => mm_lo G + a)) (by rw [mm_Wg ho]; unfold mm_en; rw [hT]; rfl) rfl hin hdg kk
  · exact va_aldq hx hb hK.1 hM o 5 (cA := G.2.1 5) (n := n) (f := fun j => (R o j).map (fun a => mm_lo G + a)) (by rw [mm_Wg ho]; unfold mm_en; rw [hT]; rfl) rfl hin hdg kk
theorem mm_arI {n : Nat} {cA : ClassId} {f : Nat → Int32} {k : Nat} {x : Int32} {H1 : Heap} {a : Nat} {D : va_G} {cl : List vw_C} (e : H1[a]? = some ((arrV cA n (fun j => .int (f j))).setSlot k (.int x))) : va_at D cl (a, .inl (cA, (n, .inl (fun j => if j = k then x else f j)))) H1 := by
  show H1[a]? = some (vp_cell _ _)
  rw [e, vp_cell_i, arrV_store]
  congr 2
  funext q
  by_cases hq : q = k
  · simp [updV, hq]
  · simp [updV, hq]
/-- an int array is written -/
theorem mm_ist (C : mm_C G p s m args meth c own cc nL ret) (hM : mm_P G R N M H) (hS : va_S (mm_A G) s.heap H locs) (ho : o < N) {n : Nat} (hT : kT o = (8, n)) {i x : Int32} (hin : vp_in i n) (hdg : decode cc pc = .ok (.iastore, 1))
    (kk : ∀ (H1 : Heap) (locs1 : List Loc), mm_P G R N (sI M o i.toNatClampNeg x) H1 → va_S (mm_A G) s.heap H1 locs1 → H1.size = H.size → W p l e Rm s m args below meth c H1 locs1 cells slots Q (F0 m (pc + 1) ls rest)) : W p l e Rm s m args below meth c H locs cells slots Q (F0 m pc ls (.int x :: .int i :: .ref (mm_lo G + o) :: rest)) := by
  obtain ⟨hx, hb, -, hts, hown, -, -, hK, -⟩ := C
  have h0 := hM o _ (mm_Wg ho)
  have e0 : mm_en G R M o = .inl (G.2.1 1, (n, .inl (M.1 o))) := by unfold mm_en; rw [hT]; rfl
  have e1 : mm_en G R (sI M o i.toNatClampNeg x) o = .inl (G.2.1 1, (n, .inl (fun j => if j = i.toNatClampNeg then x else M.1 o j))) := by unfold mm_en; rw [hT, sI_at]; rfl
  rw [e0] at h0
  refine W.iast hx hb h0 ((hK.1.2 1 _ rfl).1 n (fun j => .int (M.1 o j))) (fun q => by cases q) (by show ¬ (i < 0 ∨ (arrV _ _ _).slots.size ≤ _); rw [arrV_size]; exact hin) rfl rfl hdg fun H1 e z oq => ?_
  exact kk H1 _ (mm_upd hM oq (by rw [e1]; exact mm_arI e) mm_en_I) (hS.put z oq (Nat.le_add_right _ _)) z
theorem mm_nar_b {x : Int32} (h : narrow .boolean (.int x) = .int x) (cell : Cell) (k : Nat) : cell.setSlot k (narrow .boolean (.int x)) = cell.setSlot k (.int x) := by rw [h]
theorem mm_zst (C : mm_C G p s m args meth c own cc nL ret) (hM : mm_P G R N M H) (hS : va_S (mm_A G) s.heap H locs) (ho : o < N) {n : Nat} (hT : kT o = (9, n)) {i x : Int32} (hin : vp_in i n) (hnx : narrow .boolean (.int x) = .int x) (hdg : decode cc pc = .ok (.bastore, 1))
    (kk : ∀ (H1 : Heap) (locs1 : List Loc), mm_P G R N (sI M o i.toNatClampNeg x) H1 → va_S (mm_A G) s.heap H1 locs1 → H1.size = H.size → W p l e Rm s m args below meth c H1 locs1 cells slots Q (F0 m (pc + 1) ls rest)) : W p l e Rm s m args below meth c H locs cells slots Q (F0 m pc ls (.int x :: .int i :: .ref (mm_lo G + o) :: rest)) := by
  obtain ⟨hx, hb, -, hts, hown, -, -, hK, -⟩ := C
  have h0 := hM o _ (mm_Wg ho)
  have e0 : mm_en G R M o = .inl (G.2.1 2, (n, .inl (M.1 o))) := by unfold mm_en; rw [hT]; rfl
  have e1 : mm_en G R (sI M o i.toNatClampNeg x) o = .inl (G.2.1 2, (n, .inl (fun j => if j = i.toNatClampNeg then x else M.1 o j))) := by unfold mm_en; rw [hT, sI_at]; rfl
  rw [e0] at h0
  refine W.zast hx hb h0 ((hK.1.2 2 _ rfl).1 n (fun j => .int (M.1 o j))) (fun q => by cases q) (by show ¬ (i < 0 ∨ (arrV _ _ _).slots.size ≤ _); rw [arrV_size]; exact hin) rfl rfl hdg fun H1 e z oq => ?_
  rw [hnx] at e
  exact kk H1 _ (mm_upd hM oq (by rw [e1]; exact mm_arI e) mm_en_I) (hS.put z oq (Nat.le_add_right _ _)) z
theorem mm_cst (C : mm_C G p s m args meth c own cc nL ret) (hM : mm_P G R N M H) (hS : va_S (mm_A G) s.heap H locs) (ho : o < N) {n : Nat} (hT : kT o = (7, n)) {i x : Int32} (hin : vp_in i n) (hnx : narrow .char (.int x) = .int x) (hdg : decode cc pc = .ok (.castore, 1))
    (kk : ∀ (H1 : Heap) (locs1 : List Loc), mm_P G R N (sI M o i.toNatClampNeg x) H1 → va_S (mm_A G) s.heap H1 locs1 → H1.size = H.size → W p l e Rm s m args below meth c H1 locs1 cells slots Q (F0 m (pc + 1) ls rest)) : W p l e Rm s m args below meth c H locs cells slots Q (F0 m pc ls (.int x :: .int i :: .ref (mm_lo G + o) :: rest)) := by
  obtain ⟨hx, hb, -, hts, hown, -, -, hK, -⟩ := C
  have h0 := hM o _ (mm_Wg ho)
  have e0 : mm_en G R M o = .inl (G.2.1 0, (n, .inl (M.1 o))) := by unfold mm_en; rw [hT]; rfl
  have e1 : mm_en G R (sI M o i.toNatClampNeg x) o = .inl (G.2.1 0, (n, .inl (fun j => if j = i.toNatClampNeg then x else M.1 o j))) := by unfold mm_en; rw [hT, sI_at]; rfl
  rw [e0] at h0
  refine W.cast hx hb h0 ((hK.1.2 0 _ rfl).1 n (fun j => .int (M.1 o j))) (fun q => by cases q) (by show ¬ (i < 0 ∨ (arrV _ _ _).slots.size ≤ _); rw [arrV_size]; exact hin) rfl rfl hdg fun H1 e z oq => ?_
  rw [hnx] at e
  exact kk H1 _ (mm_upd hM oq (by rw [e1]; exact mm_arI e) mm_en_I) (hS.put z oq (Nat.le_add_right _ _)) z
/-- System.arraycopy between two int arrays from 0 to 0 -/
theorem mm_cpy (C : mm_C G p s m args meth c own cc nL ret) (hM : mm_P G R N M H) (hS : va_S (mm_A G) s.heap H locs) {o2 n n2 index : Nat} (ho : o < N) (ho2 : o2 < N) (hT : kT o = (8, n)) (hT2 : kT o2 = (8, n2)) (hl : ls.size = nL) {k : Int32} {kn : Nat} (hk0 : ¬ k < 0) (hk : k.toNatClampNeg = kn) (h1 : kn ≤ n) (h2 : kn ≤ n2)
    (hlink : Cond.methodLink own index arraycopyName ∈ mm_good) (hnat : Cond.native arraycopyName ∈ mm_good) (hstat : Cond.static arraycopyName ∈ mm_good) (hini : Cond.initialized "java/lang/System" ∈ mm_good) (hfr : 1 ≤ Rm.frames) (hlo : (rest.map fun v => v.category).sum + (nativeFrameWords "java/lang/System" "arraycopy" 5 + 11) ≤ Rm.locals) (hdg : decode cc pc = .ok (.invokestatic index, 3))
    (kk : ∀ (H1 : Heap) (locs1 : List Loc), mm_P G R N (sC M o2 (fun j => if j < kn then M.1 o j else M.1 o2 j)) H1 → va_S (mm_A G) s.heap H1 locs1 → W p l e Rm s m args below meth c H1 locs1 cells slots Q (F0 m (pc + 3) ls rest)) : W p l e Rm s m args below meth c H locs cells slots Q (F0 m pc ls (.int k :: .int 0 :: .ref (mm_lo G + o2) :: .int 0 :: .ref (mm_lo G + o) :: rest)) := by
  obtain ⟨hx, hb, -, hts, hown, hml, -, hK, -⟩ := C
  subst hk
  refine va_copyi hx hb (by rw [hml, hl]) hown (hts _ hlink) (hts _ hnat) (hts _ hstat) (hts _ hini) hK.1 hM mm_Wd hS o o2 1 1 (c0 := G.2.1 1) (c1 := G.2.1 1) (n0 := n) (n1 := n2) (f := M.1 o) (g := M.1 o2) (ty := .int) (by rw [mm_Wg ho]; unfold mm_en; rw [hT]; rfl) (by rw [mm_Wg ho2]; unfold mm_en; rw [hT2]; rfl) rfl rfl rfl (by decide) (by decide) hk0 (by show 0 + _ ≤ _; omega) (by show 0 + _ ≤ _; omega) (fun _ _ => rfl) hfr hlo hdg fun H1 locs1 hP1 _ hS1 => ?_
  refine kk H1 locs1 (fun j q hj => ?_) hS1
  obtain ⟨hjN, ej⟩ := mm_Wi hj
  subst ej
  by_cases h : j = o2
  · subst h
    have hl2 : j < (mm_W G R N M).length := (List.getElem?_eq_some_iff.mp (mm_Wg hjN)).1
    have a := hP1 j _ (List.getElem?_set_self hl2)
    have e : mm_en G R (sC M j (fun i => if i < k.toNatClampNeg then M.1 o i else M.1 j i)) j = .inl (G.2.1 1, n2, .inl (va_cpy (M.1 o) (M.1 j) 0 0 k.toNatClampNeg)) := by
      unfold mm_en
      rw [hT2]
      show Sum.inl (G.2.1 1, (n2, Sum.inl _)) = _
      congr 4
      funext i
      simp [sC, va_cpy]
    rw [e]
    exact a
  · rw [mm_en_C j h]
    exact hP1 j _ (by rw [List.getElem?_set_ne (Ne.symm h), mm_Wg hjN])
end MMR
