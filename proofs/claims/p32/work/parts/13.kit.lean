/-! p32: AN ARRAY OF THE LAW'S OWN, beside the region -/
def gH (G : mm_G) (h : Nat) : mm_G := (G.1, G.2.1, fun k => if k = 4 then h else G.2.2 k)
theorem gH_hi (G : mm_G) (h : Nat) : (gH G h).2.2 4 = h := rfl
theorem gH_lo (G : mm_G) (h : Nat) : mm_lo (gH G h) = mm_lo G := rfl
theorem gH_A {G : mm_G} {h : Nat} (hh : G.2.2 4 ≤ h) : ∀ q, mm_A (gH G h) q → mm_A G q := by
  intro q hq
  obtain ⟨h1, h2⟩ := hq
  refine ⟨h1, ?_⟩
  rcases h2 with h2 | h2
  · exact Or.inl h2
  · rw [gH_hi] at h2
    exact Or.inr (Nat.le_trans hh h2)
theorem gH_e (G : mm_G) (h : Nat) (I : Nat → Int32) (L : Nat → Int64) (R : Nat → Option Nat) (q : Nat × Nat) : mm_e (gH G h) I L R q = mm_e G I L R q := rfl
theorem gH_P {G : mm_G} {h : Nat} {R : mm_R} {N : Nat} {M : mm_M} {H : Heap} : mm_P (gH G h) R N M H ↔ mm_P G R N M H := Iff.rfl
theorem va_Z_sub {C n d : String} {v : Value} {A A1 : Nat → Prop} {U : State} {H : Heap} (hA : ∀ q, A1 q → A q) (h : va_Z C n d v A U H) : va_Z C n d v A1 U H := by
  obtain ⟨cf, kf, fi, f, a, cell, h1, h2, h3, h4, h5, h6, h7, h8⟩ := h
  exact ⟨cf, kf, fi, f, a, cell, h1, h2, h3, h4, h5, h6, h7, fun q => h8 (hA _ q)⟩
theorem va_T_sub {ty : FieldType} {t N : Nat} {f : Nat → Value} {A A1 : Nat → Prop} {U : State} {H : Heap} (hA : ∀ q, A1 q → A q) (h : va_T ty t N f A U H) : va_T ty t N f A1 U H := by
  obtain ⟨cell, h1, h2, h3, h4, h5, h6, h7⟩ := h
  exact ⟨cell, h1, h2, h3, h4, h5, h6, fun q => h7 (hA _ q)⟩
theorem gH_Z1 {G : mm_G} {h : Nat} (hh : G.2.2 4 ≤ h) {n : String} {t : Nat} {f : Nat → Int32} {U : State} {H : Heap} (z : mm_Z1 G n t f U H) : mm_Z1 (gH G h) n t f U H := ⟨va_Z_sub (gH_A hh) z.1, va_T_sub (gH_A hh) z.2⟩
theorem gH_B {G : mm_G} {h : Nat} (hh : G.2.2 4 ≤ h) {w : mm_Ws} {U : State} (B : mm_B G w U) : mm_B (gH G h) w U := ⟨gH_P.mpr B.1, B.2.1, ⟨gH_Z1 hh B.2.2.1.1, gH_Z1 hh B.2.2.1.2.1, gH_Z1 hh B.2.2.1.2.2⟩, B.2.2.2⟩
/-- an int array at b, of n -/
def mm_Ar (G : mm_G) (b n : Nat) (F : Nat → Int32) (H : Heap) : Prop := va_P G.1 vwCl [(b, .inl (G.2.1 1, (n, .inl F)))] H
abbrev aS (F : Nat → Int32) (k : Nat) (v : Int32) : Nat → Int32 := fun j => if j = k then v else F j
theorem ar_one {b : Nat} {q x : Nat × va_E} {k : Nat} (h : [x][k]? = some q) : q = x := by
  have hz : k < 1 := (List.getElem?_eq_some_iff.mp h).1
  rw [show k = 0 by omega] at h
  cases h
  rfl
theorem mm_Ar.lt {G : mm_G} {b n : Nat} {F : Nat → Int32} {H : Heap} (h : mm_Ar G b n F H) : b < H.size := (h 0 _ rfl).lt
theorem mm_Ar.kept {G : mm_G} {b n : Nat} {F : Nat → Int32} {H H1 : Heap} (h : mm_Ar G b n F H) (hq : H1[b]? = H[b]?) : mm_Ar G b n F H1 := fun k q hk => by
  have e := ar_one (b := b) hk
  subst e
  exact (h 0 _ rfl).kept hq
/-- a script, or an array, that is read alone -/
def mm_Bx (G : mm_G) (b L : Nat) (xs : Nat → Int32) (w : mm_Ws) (U : State) : Prop := mm_B G w U ∧ va_X b L xs U U.heap ∧ ¬ mm_A G b ∧ b < U.heap.size
theorem mm_blindx {G : mm_G} {vs : List Value} {b L : Nat} {xs : Nat → Int32} {w : mm_Ws} : FrameBlind (va_Pc vs (mm_Bx G b L xs w)) := fun a U g mk q => ⟨q.1, ⟨q.2.1.1, mm_K.same (u := U) (U := U.calling g mk a) rfl q.2.1.2.1, q.2.1.2.2.1.go (u := U) (U := U.calling g mk a) (Vm.Alike.refl U.vm) (fun _ _ _ => rfl), q.2.1.2.2.2⟩, va_X.moved (u := U) (U := U.calling g mk a) (Vm.Alike.refl U.vm) q.2.2.1, q.2.2.2.1, q.2.2.2.2⟩
section MMA
variable {p : Program} {l : Launch} {e : Env} {Rm : Room} {s : State} {m : MethodId} {args : Array Value} {below : List Frame} {meth : Method} {c : Code} {H : Heap} {locs : List Loc} {cells slots : Nat} {Q : State → Prop}
variable {cc : ByteArray} {pc : Nat} {ls : Array Slot} {rest : List Value} {G : mm_G} {own : String} {nL : Nat} {ret : Option FieldType} {R : mm_R} {N : Nat} {M : mm_M} {o : Nat}
theorem mm_metx {y : MethodName} {Qc : Array Value → State → Outcome → State → Prop} {mc ms : Nat} {w : mm_Ws} {vs : List Value} {b L : Nat} {xs : Nat → Int32} (hy : plainName y.cls = true) (hn : (lg_sl vs).length ≤ nL)
    (body : ∀ (p : Program) (e : Env) (s : State) (m : MethodId) (below : List Frame) (meth : Method) (c : Code) (ls : Array Slot), va_X b L xs s s.heap → ¬ mm_A G b → b < s.heap.size → mm_C G p s m vs.toArray meth c y.cls cc nL ret → mm_P G w.1 w.2.1 w.2.2 s.heap → va_S (mm_A G) s.heap s.heap [] → lv_has ls nL (lv_args 0 vs) → W p l e Rm s m vs.toArray below meth c s.heap [] 0 0 (MQ below Qc vs.toArray s mc ms (mm_A G)) (F0 m 0 ls [])) : Met l y (mm_ws y cc nL ret) Rm (va_Pc vs (mm_Bx G b L xs w)) Qc mc ms (mm_A G) := by
  refine Met.ofW (cc := cc) (maxL := nL) (ret := ret) hy rfl ?_
  intro p e s m args below meth c s₁ B hml hv
  obtain ⟨rfl, ⟨hP, hK, hZ, hlo⟩, hX, hbA, hbl⟩ := hv
  have hts := atoms_spec (ws := mm_ws y cc nL ret) B.pre
  have hown : s.vm.findClass y.cls = some m.cls := findClass_of_methodNamed B.named
  have hl := lv_entry vs (n := nL) hn
  rw [lg_entry_eq]
  generalize (lg_sl vs ++ List.replicate (nL - (lg_sl vs).length) Slot.unset).toArray = ls at hl ⊢
  exact body p e s m below meth c ls hX hbA hbl ⟨B.exec, B.bytes, B.returns, fun w hw => hts w (List.mem_cons_of_mem _ hw), hown, hml, B.notSynchronized, hK, hZ, hlo⟩ hP va_S.rf hl
theorem ar_new (C : mm_C G p s m args meth c own cc nL ret) (hM : mm_P G R 731 M H) (hS : va_S (mm_A G) s.heap H locs) {k : Int32} {n : Nat} (hn : ¬ k < 0) (hN : k.toNatClampNeg = n) (hbytes : n * componentBytes .int ≤ 536870912) (harr : Cond.arrayClass .int ∈ mm_good) (hcells : cells + 1 ≤ Rm.cells) (hslots : slots + n ≤ Rm.slots) (hhi : G.2.2 4 ≤ mm_lo G + 731) (hdg : decode cc pc = .ok (.newarray .int, 2))
    (kk : ∀ (b : Nat) (H1 : Heap), mm_lo G + 731 ≤ b → G.2.2 4 ≤ b → mm_P G R 731 M H1 → mm_Ar G b n (fun _ => 0) H1 → va_S (mm_A G) s.heap H1 locs → W p l e Rm s m args below meth c H1 locs (cells + 1) (slots + n) Q (F0 m (pc + 2) ls (.ref b :: rest))) : W p l e Rm s m args below meth c H locs cells slots Q (F0 m pc ls (.int k :: rest)) := by
  obtain ⟨hx, hb, -, hts, hown, -, -, hK, -, -⟩ := C
  refine va_newaK (atype := .int) hx hb (hts _ harr) rfl hdg rfl hn hN hbytes hcells hslots rfl fun H1 cA e1 z1 o1 hAr hNm => ?_
  have hcA : cA = G.2.1 1 := Option.some.inj (hNm.symm.trans (hK.1.2 1 _ rfl).2)
  have hsz : mm_lo G + 730 < H.size := (hM.1 730 _ (mm_Wg (by omega))).lt
  refine kk H.size H1 (by omega) (by omega) ⟨fun k q hk => (hM.1 k q hk).kept (o1 _ (hM.1 k q hk).lt), hM.2⟩ (fun k q hk => ?_) (mm_S1 hS rfl z1 o1)
  have e := ar_one (b := 0) hk
  subst e
  show H1[H.size]? = some (vp_cell _ _)
  rw [vp_cell_i, e1, hcA]
  rfl
theorem ar_ld {b n : Nat} {F : Nat → Int32} (C : mm_C G p s m args meth c own cc nL ret) (hA : mm_Ar G b n F H) {i : Int32} (hin : vp_in i n) (hdg : decode cc pc = .ok (.iaload, 1))
    (kk : W p l e Rm s m args below meth c H locs cells slots Q (F0 m (pc + 1) ls (.int (F i.toNatClampNeg) :: rest))) : W p l e Rm s m args below meth c H locs cells slots Q (F0 m pc ls (.int i :: .ref b :: rest)) := by
  obtain ⟨hx, hb, -, hts, hown, -, -, hK, -⟩ := C
  exact va_iald hx hb hK.1 hA 0 1 (cA := G.2.1 1) (n := n) (f := F) rfl rfl hin hdg kk
theorem ar_st {b n : Nat} {F : Nat → Int32} (C : mm_C G p s m args meth c own cc nL ret) (hM : mm_P G R N M H) (hA : mm_Ar G b n F H) (hS : va_S (mm_A G) s.heap H locs) (hb0 : mm_lo G + 731 ≤ b) (hb1 : G.2.2 4 ≤ b) {i x : Int32} (hin : vp_in i n) {j : Nat} (hj : i.toNatClampNeg = j) (hdg : decode cc pc = .ok (.iastore, 1))
    (kk : ∀ (H1 : Heap) (locs1 : List Loc), mm_P G R N M H1 → mm_Ar G b n (aS F j x) H1 → va_S (mm_A G) s.heap H1 locs1 → W p l e Rm s m args below meth c H1 locs1 cells slots Q (F0 m (pc + 1) ls rest)) : W p l e Rm s m args below meth c H locs cells slots Q (F0 m pc ls (.int x :: .int i :: .ref b :: rest)) := by
  obtain ⟨hx, hb, -, hts, hown, -, -, hK, -⟩ := C
  subst hj
  have h0 := hA 0 _ rfl
  refine W.iast hx hb h0 ((hK.1.2 1 _ rfl).1 n (fun j => .int (F j))) (fun q => by cases q) (by show ¬ (i < 0 ∨ (arrV _ _ _).slots.size ≤ _); rw [arrV_size]; exact hin) rfl rfl hdg fun H1 e z oq => ?_
  refine kk H1 _ ⟨fun k q hk => (hM.1 k q hk).kept (oq _ ?_), hM.2⟩ (fun k q hk => ?_) (hS.put z oq ⟨by omega, Or.inr hb1⟩)
  · obtain ⟨h1, h2⟩ := mm_Wi hk
    subst h2
    have := hM.2
    show mm_lo G + k ≠ b
    omega
  · have e2 := ar_one (b := 0) hk
    subst e2
    exact mm_arI e
theorem ar_X {b n : Nat} {F : Nat → Int32} (C : mm_C G p s m args meth c own cc nL ret) (hA : mm_Ar G b n F H) {U : State} (hU : U.heap = H) (hW : s.WarmedH U.vm) : va_X b n F U U.heap := by
  obtain ⟨hx, hb, -, hts, hown, -, -, hK, -⟩ := C
  have h0 : H[b]? = some (vp_cell _ _) := hA 0 _ rfl
  rw [vp_cell_i] at h0
  refine ⟨_, by rw [hU]; exact h0, State.isArrayOf_alike hW.alike ((hK.1.2 1 _ rfl).1 n (fun j => .int (F j))), (fun q => by cases q), arrV_size _ _ _, fun j hj => ?_⟩
  rw [arrV_read _ _ hj]
variable {y : MethodName} {bytes : ByteArray} {maxL n index b : Nat} {rety : Option FieldType} {rm : Room} {Cn : String} {As : List Value} {w1 : mm_Ws} {st : List Value} {F : Nat → Int32} {mc ms : Nat}
theorem mm_runM {Qc : Array Value → State → Outcome → State → Prop} (C : mm_C G p s m args meth c own cc nL ret) (hM : mm_P G R N M H) (hS : va_S (mm_A G) s.heap H locs) (hcal : Met l y (mm_ws y bytes maxL rety) rm (va_Pc As (mm_B G (R, N, M))) Qc mc ms (mm_A G)) (hv : mm_Sm Rm rm mc ms own index y bytes maxL rety n)
    (hl : ls.size = nL) (hn : As.length = n) (hst : st = As.reverse ++ rest) (hroom : (rest.map fun v => v.category).sum ≤ 8) (hf : cells + mc ≤ Rm.cells ∧ slots + ms ≤ Rm.slots) (hdg : decode cc pc = .ok (.invokestatic index, 3)) :
    va_Run p l e Rm s m args below meth c H locs cells slots mc ms (F0 m pc ls st) rest (Qc As.toArray) (mm_A G) := by
  obtain ⟨hx, hb, -, hts, hown, hml, -, -, -⟩ := id C
  obtain ⟨h1, h2, h3, h4, h5⟩ := hv
  exact va_runS (As := As) (rest := rest) ⟨hx, hb, hml, hown, hts⟩ hcal (va_cwS n hts h1 rfl h2 h3 h4 h5) ⟨mm_blind, fun U hU hW => ⟨rfl, mm_toB C hM hS hU hW⟩⟩ rfl hn hl hst (lv_room hroom) hdg hf
theorem mm_kiM {r0 : Int32} {a : Array Value} (hS : va_S (mm_A G) s.heap H locs) (hr : va_Run p l e Rm s m args below meth c H locs cells slots mc ms (F0 m pc ls st) rest (mm_Qi G r0 w1 a) (mm_A G))
    (kk : ∀ (H1 : Heap) (locs1 : List Loc), mm_P G w1.1 w1.2.1 w1.2.2 H1 → va_S (mm_A G) s.heap H1 locs1 → W p l e Rm s m args below meth c H1 locs1 (cells + mc) (slots + ms) Q (F0 m (pc + 3) ls (.int r0 :: rest))) : W p l e Rm s m args below meth c H locs cells slots Q (F0 m pc ls st) :=
  va_calli hr hS (fun _ _ h => h) (fun _ h => h) (fun r u t H1 locs1 ht _ hw hB _ _ hS1 => by subst hw; subst ht; exact kk _ locs1 hB.1 hS1)
/-- a method that reads a script or an array -/
theorem mm_runX {Qc : Array Value → State → Outcome → State → Prop} {L : Nat} {xs : Nat → Int32} (C : mm_C G p s m args meth c own cc nL ret) (hM : mm_P G R N M H) (hS : va_S (mm_A G) s.heap H locs) (hX : va_X b L xs s s.heap) (hbA : ¬ mm_A G b) (hbl : b < s.heap.size) (hcal : Met l y (mm_ws y bytes maxL rety) rm (va_Pc As (mm_Bx G b L xs (R, N, M))) Qc 0 0 (mm_A G)) (hv : mm_Sc Rm rm own index y bytes maxL rety n)
    (hl : ls.size = nL) (hn : As.length = n) (hst : st = As.reverse ++ rest) (hroom : (rest.map fun v => v.category).sum ≤ 8) (hf : cells ≤ Rm.cells ∧ slots ≤ Rm.slots) (hdg : decode cc pc = .ok (.invokestatic index, 3)) :
    va_Run p l e Rm s m args below meth c H locs cells slots 0 0 (F0 m pc ls st) rest (Qc As.toArray) (mm_A G) := by
  obtain ⟨hx, hb, -, hts, hown, hml, -, -, -⟩ := id C
  obtain ⟨h1, h2, h3, h4, h5⟩ := hv
  exact va_runS (As := As) (rest := rest) ⟨hx, hb, hml, hown, hts⟩ hcal (va_cwS n hts h1 rfl h2 h3 h4 h5) ⟨mm_blindx, fun U hU hW => ⟨rfl, mm_toB C hM hS hU hW, va_X.moved hW.alike (by rw [hU]; exact hX.kept (hS.2.1 b hbl hbA)), hbA, by rw [hU]; exact Nat.lt_of_lt_of_le hbl hS.1⟩⟩ rfl hn hl hst (lv_room hroom) hdg ⟨hf.1, hf.2⟩
/-- calls beside an array: the callee may not write it -/
theorem mm_nA {G : mm_G} {b : Nat} (hb0 : mm_lo G + 731 ≤ b) : ¬ mm_A (gH G (b + 1)) b := by
  intro h
  rcases h.2 with h | h
  · rw [gH_lo] at h
    omega
  · rw [gH_hi] at h
    omega
theorem mm_runVh {Qc : Array Value → State → Outcome → State → Prop} (C : mm_C G p s m args meth c own cc nL ret) (hM : mm_P G R N M H) (hS : va_S (mm_A G) s.heap H locs) (hb1 : G.2.2 4 ≤ b) (hcal : Met l y (mm_ws y bytes maxL rety) rm (va_Pc (.ref (mm_lo G + o) :: As) (mm_B (gH G (b + 1)) (R, N, M))) Qc 0 0 (mm_A (gH G (b + 1)))) (hv : mm_V Rm rm own Cn index y bytes maxL rety n) (hrec : ∃ cell : Cell, H[mm_lo G + o]? = some cell ∧ cell.vm.isStatics = false ∧ s.vm.findClass Cn = some cell.cls)
    (hl : ls.size = nL) (hn : As.length = n) (hst : st = As.reverse ++ .ref (mm_lo G + o) :: rest) (hroom : (rest.map fun v => v.category).sum ≤ 8) (hf : cells ≤ Rm.cells ∧ slots ≤ Rm.slots) (hdg : decode cc pc = .ok (.invokevirtual index, 3)) :
    va_Run p l e Rm s m args below meth c H locs cells slots 0 0 (F0 m pc ls st) rest (Qc (Value.ref (mm_lo G + o) :: As).toArray) (mm_A (gH G (b + 1))) := by
  obtain ⟨hx, hb, -, hts, hown, hml, -, -, -⟩ := id C
  obtain ⟨h1, h2, h3, h4, h5⟩ := hv
  exact va_runV (As := As) (rest := rest) ⟨hx, hb, hml, hown, hts⟩ hcal (cwV n hts h1 rfl h2 h3 h4 h5) ⟨mm_blind, hrec, fun U hU hW => ⟨rfl, gH_B (Nat.le_succ_of_le hb1) (mm_toB C hM hS hU hW)⟩⟩ rfl hn hl hst (lv_room hroom) hdg ⟨hf.1, hf.2⟩
theorem mm_runSh {Qc : Array Value → State → Outcome → State → Prop} (C : mm_C G p s m args meth c own cc nL ret) (hM : mm_P G R N M H) (hS : va_S (mm_A G) s.heap H locs) (hb1 : G.2.2 4 ≤ b) (hcal : Met l y (mm_ws y bytes maxL rety) rm (va_Pc As (mm_B (gH G (b + 1)) (R, N, M))) Qc 0 0 (mm_A (gH G (b + 1)))) (hv : mm_Sc Rm rm own index y bytes maxL rety n)
    (hl : ls.size = nL) (hn : As.length = n) (hst : st = As.reverse ++ rest) (hroom : (rest.map fun v => v.category).sum ≤ 8) (hf : cells ≤ Rm.cells ∧ slots ≤ Rm.slots) (hdg : decode cc pc = .ok (.invokestatic index, 3)) :
    va_Run p l e Rm s m args below meth c H locs cells slots 0 0 (F0 m pc ls st) rest (Qc As.toArray) (mm_A (gH G (b + 1))) := by
  obtain ⟨hx, hb, -, hts, hown, hml, -, -, -⟩ := id C
  obtain ⟨h1, h2, h3, h4, h5⟩ := hv
  exact va_runS (As := As) (rest := rest) ⟨hx, hb, hml, hown, hts⟩ hcal (va_cwS n hts h1 rfl h2 h3 h4 h5) ⟨mm_blind, fun U hU hW => ⟨rfl, gH_B (Nat.le_succ_of_le hb1) (mm_toB C hM hS hU hW)⟩⟩ rfl hn hl hst (lv_room hroom) hdg ⟨hf.1, hf.2⟩
theorem mm_runXh {Qc : Array Value → State → Outcome → State → Prop} {L : Nat} (C : mm_C G p s m args meth c own cc nL ret) (hM : mm_P G R N M H) (hA : mm_Ar G b L F H) (hS : va_S (mm_A G) s.heap H locs) (hb0 : mm_lo G + 731 ≤ b) (hb1 : G.2.2 4 ≤ b) (hcal : Met l y (mm_ws y bytes maxL rety) rm (va_Pc As (mm_Bx (gH G (b + 1)) b L F (R, N, M))) Qc 0 0 (mm_A (gH G (b + 1)))) (hv : mm_Sc Rm rm own index y bytes maxL rety n)
    (hl : ls.size = nL) (hn : As.length = n) (hst : st = As.reverse ++ rest) (hroom : (rest.map fun v => v.category).sum ≤ 8) (hf : cells ≤ Rm.cells ∧ slots ≤ Rm.slots) (hdg : decode cc pc = .ok (.invokestatic index, 3)) :
    va_Run p l e Rm s m args below meth c H locs cells slots 0 0 (F0 m pc ls st) rest (Qc As.toArray) (mm_A (gH G (b + 1))) := by
  obtain ⟨hx, hb, -, hts, hown, hml, -, -, -⟩ := id C
  obtain ⟨h1, h2, h3, h4, h5⟩ := hv
  exact va_runS (As := As) (rest := rest) ⟨hx, hb, hml, hown, hts⟩ hcal (va_cwS n hts h1 rfl h2 h3 h4 h5) ⟨mm_blindx, fun U hU hW => ⟨rfl, gH_B (Nat.le_succ_of_le hb1) (mm_toB C hM hS hU hW), ar_X C hA hU hW, mm_nA hb0, by rw [hU]; exact hA.lt⟩⟩ rfl hn hl hst (lv_room hroom) hdg ⟨hf.1, hf.2⟩
theorem mm_kih {r0 : Int32} {a : Array Value} (hA : mm_Ar G b n F H) (hS : va_S (mm_A G) s.heap H locs) (hb0 : mm_lo G + 731 ≤ b) (hb1 : G.2.2 4 ≤ b) (hr : va_Run p l e Rm s m args below meth c H locs cells slots 0 0 (F0 m pc ls st) rest (mm_Qi (gH G (b + 1)) r0 w1 a) (mm_A (gH G (b + 1))))
    (kk : ∀ (H1 : Heap) (locs1 : List Loc), mm_P G w1.1 w1.2.1 w1.2.2 H1 → mm_Ar G b n F H1 → va_S (mm_A G) s.heap H1 locs1 → W p l e Rm s m args below meth c H1 locs1 cells slots Q (F0 m (pc + 3) ls (.int r0 :: rest))) : W p l e Rm s m args below meth c H locs cells slots Q (F0 m pc ls st) :=
  va_calli hr hS (fun q _ h => gH_A (Nat.le_succ_of_le hb1) q h) (fun q h => gH_A (Nat.le_succ_of_le hb1) q h) (fun r u t H1 locs1 ht _ hw hB _ hq hS1 => by subst hw; subst ht; exact kk _ locs1 (gH_P.mp hB.1) (hA.kept (hq b hA.lt (mm_nA hb0))) hS1)
theorem mm_klh {r0 : Int64} {a : Array Value} (hA : mm_Ar G b n F H) (hS : va_S (mm_A G) s.heap H locs) (hb0 : mm_lo G + 731 ≤ b) (hb1 : G.2.2 4 ≤ b) (hr : va_Run p l e Rm s m args below meth c H locs cells slots 0 0 (F0 m pc ls st) rest (mm_Ql (gH G (b + 1)) r0 w1 a) (mm_A (gH G (b + 1))))
    (kk : ∀ (H1 : Heap) (locs1 : List Loc), mm_P G w1.1 w1.2.1 w1.2.2 H1 → mm_Ar G b n F H1 → va_S (mm_A G) s.heap H1 locs1 → W p l e Rm s m args below meth c H1 locs1 cells slots Q (F0 m (pc + 3) ls (.long r0 :: rest))) : W p l e Rm s m args below meth c H locs cells slots Q (F0 m pc ls st) :=
  va_calll hr hS (fun q _ h => gH_A (Nat.le_succ_of_le hb1) q h) (fun q h => gH_A (Nat.le_succ_of_le hb1) q h) (fun r u t H1 locs1 ht _ hw hB _ hq hS1 => by subst hw; subst ht; exact kk _ locs1 (gH_P.mp hB.1) (hA.kept (hq b hA.lt (mm_nA hb0))) hS1)
theorem mm_kvh {a : Array Value} (hA : mm_Ar G b n F H) (hS : va_S (mm_A G) s.heap H locs) (hb0 : mm_lo G + 731 ≤ b) (hb1 : G.2.2 4 ≤ b) (hr : va_Run p l e Rm s m args below meth c H locs cells slots 0 0 (F0 m pc ls st) rest (mm_Qv (gH G (b + 1)) w1 a) (mm_A (gH G (b + 1))))
    (kk : ∀ (H1 : Heap) (locs1 : List Loc), mm_P G w1.1 w1.2.1 w1.2.2 H1 → mm_Ar G b n F H1 → va_S (mm_A G) s.heap H1 locs1 → W p l e Rm s m args below meth c H1 locs1 cells slots Q (F0 m (pc + 3) ls rest)) : W p l e Rm s m args below meth c H locs cells slots Q (F0 m pc ls st) :=
  va_callv hr hS (fun q _ h => gH_A (Nat.le_succ_of_le hb1) q h) (fun q h => gH_A (Nat.le_succ_of_le hb1) q h) (fun u t H1 locs1 ht _ _ hB _ hq hS1 => by subst ht; exact kk _ locs1 (gH_P.mp hB.1) (hA.kept (hq b hA.lt (mm_nA hb0))) hS1)
end MMA
