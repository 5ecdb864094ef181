/-! MY OWN KIT, second part: entries, calls, ends -/
def b2i (b : Bool) : Int32 := if b then 1 else 0
theorem b2i_n (b : Bool) : narrow .boolean (.int (b2i b)) = .int (b2i b) := by cases b <;> rfl
theorem mm_narrow_char {x : Int32} (h : (x.toUInt32 % 65536).toInt32 = x) : narrow .char (.int x) = .int x := by
  have := pk_nc x
  rw [h] at this
  exact this
def gd {α : Type} (P : Prop) [Decidable P] (k : Option α) : Option α := if P then k else none
theorem gd_of {α : Type} {P : Prop} [Decidable P] {k : Option α} {r : α} (h : gd P k = some r) : P ∧ k = some r := by
  unfold gd at h
  split at h
  · exact ⟨‹_›, h⟩
  · cases h
theorem gd_t {α : Type} {P : Prop} [Decidable P] {k : Option α} (h : P) : gd P k = k := if_pos h
def bn {α β : Type} (x : Option α) (k : α → Option β) : Option β := match x with
  | none => none
  | some a => k a
theorem bn_of {α β : Type} {x : Option α} {k : α → Option β} {r : β} (h : bn x k = some r) : ∃ a, x = some a ∧ k a = some r := by
  cases x with
  | none => cases h
  | some a => exact ⟨a, rfl, h⟩
theorem bn_s {α β : Type} (a : α) (k : α → Option β) : bn (some a) k = k a := rfl
def lt {α β : Type} (x : α) (k : α → Option β) : Option β := k x
theorem lt_to {α β : Type} {x y : α} {k : α → Option β} {r : β} (e : y = x) (h : lt x k = some r) : k y = some r := by subst e; exact h
theorem if_t {α : Type} {P : Prop} [Decidable P] {a b : Option α} {r : α} (c : P) (h : (if P then a else b) = some r) : a = some r := by rw [if_pos c] at h; exact h
theorem if_f {α : Type} {P : Prop} [Decidable P] {a b : Option α} {r : α} (c : ¬ P) (h : (if P then a else b) = some r) : b = some r := by rw [if_neg c] at h; exact h
theorem vp_in_of2 {i : Int32} {n : Nat} (h : ¬ (i < 0 ∨ n ≤ i.toNatClampNeg)) : vp_in i n := h
section MMC
variable {p : Program} {l : Launch} {e : Env} {Rm : Room} {s : State} {m : MethodId} {args : Array Value} {below : List Frame} {meth : Method} {c : Code} {H : Heap} {locs : List Loc} {cells slots : Nat} {Q : State → Prop}
variable {cc : ByteArray} {pc : Nat} {ls : Array Slot} {rest : List Value} {G : mm_G} {own : String} {nL : Nat} {ret : Option FieldType} {R : mm_R} {N : Nat} {M : mm_M} {o : Nat}
/-- into a method -/
theorem mm_met {y : MethodName} {Qc : Array Value → State → Outcome → State → Prop} {mc ms : Nat} {w : mm_Ws} {vs : List Value} (hy : plainName y.cls = true) (hn : (lg_sl vs).length ≤ nL)
    (body : ∀ (p : Program) (e : Env) (s : State) (m : MethodId) (below : List Frame) (meth : Method) (c : Code) (ls : Array Slot), (y.name = "<init>" → meth.name = "<init>") → mm_C G p s m vs.toArray meth c y.cls cc nL ret → mm_P G w.1 w.2.1 w.2.2 s.heap → va_S (mm_A G) s.heap s.heap [] → lv_has ls nL (lv_args 0 vs) → W p l e Rm s m vs.toArray below meth c s.heap [] 0 0 (MQ below Qc vs.toArray s mc ms (mm_A G)) (F0 m 0 ls [])) : Met l y (mm_ws y cc nL ret) Rm (va_Pc vs (mm_B G w)) Qc mc ms (mm_A G) := by
  refine Met.ofW (cc := cc) (maxL := nL) (ret := ret) hy rfl ?_
  intro p e s m args below meth c s₁ B hml hv
  obtain ⟨rfl, hP, hK, hZ, hlo⟩ := hv
  have hts := atoms_spec (ws := mm_ws y cc nL ret) B.pre
  have hown : s.vm.findClass y.cls = some m.cls := findClass_of_methodNamed B.named
  have hl := lv_entry vs (n := nL) hn
  rw [lg_entry_eq]
  generalize (lg_sl vs ++ List.replicate (nL - (lg_sl vs).length) Slot.unset).toArray = ls at hl ⊢
  exact body p e s m below meth c ls (fun hq => (name_of_methodNamed B.named B.method).1.trans hq) ⟨B.exec, B.bytes, B.returns, fun w hw => hts w (List.mem_cons_of_mem _ hw), hown, hml, B.notSynchronized, hK, hZ, hlo⟩ hP va_S.rf hl
theorem mm_metc {y : MethodName} {Qc : Array Value → State → Outcome → State → Prop} {mc ms : Nat} {w : mm_Ws} {vs : List Value} (hy : plainName y.cls = true) (hn : (lg_sl vs).length ≤ nL)
    (body : ∀ (p : Program) (e : Env) (s : State) (m : MethodId) (below : List Frame) (meth : Method) (c : Code) (ls : Array Slot), (y.name = "<init>" → meth.name = "<init>") → mm_C G p s m vs.toArray meth c y.cls cc nL ret → s.heap.size = mm_lo G + w.2.1 → mm_P G w.1 w.2.1 w.2.2 s.heap → va_S (mm_A G) s.heap s.heap [] → lv_has ls nL (lv_args 0 vs) → W p l e Rm s m vs.toArray below meth c s.heap [] 0 0 (MQ below Qc vs.toArray s mc ms (mm_A G)) (F0 m 0 ls [])) : Met l y (mm_ws y cc nL ret) Rm (va_Pc vs (mm_Bc G w)) Qc mc ms (mm_A G) := by
  refine Met.ofW (cc := cc) (maxL := nL) (ret := ret) hy rfl ?_
  intro p e s m args below meth c s₁ B hml hv
  obtain ⟨rfl, hz, hP, hK, hZ, hlo⟩ := hv
  have hts := atoms_spec (ws := mm_ws y cc nL ret) B.pre
  have hown : s.vm.findClass y.cls = some m.cls := findClass_of_methodNamed B.named
  have hl := lv_entry vs (n := nL) hn
  rw [lg_entry_eq]
  generalize (lg_sl vs ++ List.replicate (nL - (lg_sl vs).length) Slot.unset).toArray = ls at hl ⊢
  exact body p e s m below meth c ls (fun hq => (name_of_methodNamed B.named B.method).1.trans hq) ⟨B.exec, B.bytes, B.returns, fun w hw => hts w (List.mem_cons_of_mem _ hw), hown, hml, B.notSynchronized, hK, hZ, hlo⟩ hz hP va_S.rf hl
/-- the world at a callee's start, or at the end -/
theorem mm_toB (C : mm_C G p s m args meth c own cc nL ret) (hM : mm_P G R N M H) (hS : va_S (mm_A G) s.heap H locs) {U : State} (hU : U.heap = H) (hW : s.WarmedH U.vm) : mm_B G (R, N, M) U := by
  obtain ⟨-, -, -, -, -, -, -, hK, hZ, hlo⟩ := C
  exact ⟨by rw [hU]; exact hM, hK.warm hW, by rw [hU]; exact hZ.go hW.alike hS.2.1, by rw [hU]; exact Nat.le_trans hlo hS.1⟩
abbrev mm_Qi (G : mm_G) (r0 : Int32) (w : mm_Ws) : Array Value → State → Outcome → State → Prop := va_Qi (fun (r : Int32) (u : Unit) => r = r0) (fun _ t => mm_B G w t) (mm_A G)
abbrev mm_Ql (G : mm_G) (r0 : Int64) (w : mm_Ws) : Array Value → State → Outcome → State → Prop := va_Ql (fun (r : Int64) (u : Unit) => r = r0) (fun _ t => mm_B G w t) (mm_A G)
abbrev mm_Qv (G : mm_G) (w : mm_Ws) : Array Value → State → Outcome → State → Prop := va_Qv (fun (u : Unit) => True) (fun _ t => mm_B G w t) (mm_A G)
abbrev mm_Qc (G : mm_G) (w : mm_Ws) : Array Value → State → Outcome → State → Prop := va_Qv (fun (u : Unit) => True) (fun _ t => mm_Bc G w t) (mm_A G)
abbrev mm_Qq (G : mm_G) (r0 : Option Nat) (w : mm_Ws) : Array Value → State → Outcome → State → Prop := va_Qq (fun (r : Option Nat) (u : Unit) => r = r0.map (fun a => mm_lo G + a)) (fun _ t => mm_B G w t) (mm_A G)
theorem mm_iret (C : mm_C G p s m args meth c own cc nL (some .int)) (hM : mm_P G R N M H) (hS : va_S (mm_A G) s.heap H locs) {v : Int32} (hdg : decode cc pc = .ok (.ireturn, 1)) : W p l e Rm s m args below meth c H locs cells slots (MQ below (mm_Qi G v (R, N, M)) args s cells slots (mm_A G)) (F0 m pc ls [.int v]) := by
  obtain ⟨hx, hb, hr, -, -, -, hlocks, -⟩ := id C
  exact W.iret (v := v) hx hb hr (fun t ht hW => ⟨⟨v, (), rfl, rfl, mm_toB C hM hS ht hW⟩, hS.F ht⟩) hS.2.2 hdg
theorem mm_zret (C : mm_C G p s m args meth c own cc nL (some .boolean)) (hM : mm_P G R N M H) (hS : va_S (mm_A G) s.heap H locs) {v : Bool} (hdg : decode cc pc = .ok (.ireturn, 1)) : W p l e Rm s m args below meth c H locs cells slots (MQ below (mm_Qi G (b2i v) (R, N, M)) args s cells slots (mm_A G)) (F0 m pc ls [.int (b2i v)]) := by
  obtain ⟨hx, hb, hr, -, -, -, hlocks, -⟩ := id C
  exact W.zret (v := b2i v) hx hb hr (b2i_n v) (fun t ht hW => ⟨⟨b2i v, (), rfl, rfl, mm_toB C hM hS ht hW⟩, hS.F ht⟩) hS.2.2 hdg
theorem mm_lret (C : mm_C G p s m args meth c own cc nL (some .long)) (hM : mm_P G R N M H) (hS : va_S (mm_A G) s.heap H locs) {v : Int64} (hdg : decode cc pc = .ok (.lreturn, 1)) : W p l e Rm s m args below meth c H locs cells slots (MQ below (mm_Ql G v (R, N, M)) args s cells slots (mm_A G)) (F0 m pc ls [.long v]) := by
  obtain ⟨hx, hb, hr, -, -, -, hlocks, -⟩ := id C
  exact W.lret (v := v) hx hb hr (fun t ht hW => ⟨⟨v, (), rfl, rfl, mm_toB C hM hS ht hW⟩, hS.F ht⟩) hS.2.2 hdg
theorem mm_vret (C : mm_C G p s m args meth c own cc nL none) (hM : mm_P G R N M H) (hS : va_S (mm_A G) s.heap H locs) (hdg : decode cc pc = .ok (.return_, 1)) : W p l e Rm s m args below meth c H locs cells slots (MQ below (mm_Qv G (R, N, M)) args s cells slots (mm_A G)) (F0 m pc ls []) := by
  obtain ⟨hx, hb, hr, -, -, -, hlocks, -⟩ := id C
  exact W.vret hx hb hr (fun t ht hW => ⟨⟨(), rfl, trivial, mm_toB C hM hS ht hW⟩, hS.F ht⟩) hS.2.2 hdg
theorem mm_cret (C : mm_C G p s m args meth c own cc nL none) (hz : H.size = mm_lo G + N) (hM : mm_P G R N M H) (hS : va_S (mm_A G) s.heap H locs) (hdg : decode cc pc = .ok (.return_, 1)) : W p l e Rm s m args below meth c H locs cells slots (MQ below (mm_Qc G (R, N, M)) args s cells slots (mm_A G)) (F0 m pc ls []) := by
  obtain ⟨hx, hb, hr, -, -, -, hlocks, -⟩ := id C
  exact W.vret hx hb hr (fun t ht hW => ⟨⟨(), rfl, trivial, by rw [ht]; exact hz, mm_toB C hM hS ht hW⟩, hS.F ht⟩) hS.2.2 hdg
theorem mm_aret (C : mm_C G p s m args meth c own cc nL (some (.object "CartPitches$Cart"))) (hM : mm_P G R N M H) (hS : va_S (mm_A G) s.heap H locs) {v : Option Nat} {w : Value} (hw : w = mm_q G v) (hdg : decode cc pc = .ok (.areturn, 1)) : W p l e Rm s m args below meth c H locs cells slots (MQ below (mm_Qq G v (R, N, M)) args s cells slots (mm_A G)) (F0 m pc ls [w]) := by
  obtain ⟨hx, hb, hr, -, -, -, hlocks, -⟩ := id C
  subst hw
  exact W.aret (v := mm_q G v) hx hb hr (Or.inl ⟨_, rfl⟩) (va_rf_or _) (fun t ht hW => ⟨⟨v.map (fun a => mm_lo G + a), (), rfl, rfl, mm_toB C hM hS ht hW⟩, hS.F ht⟩) hS.2.2 hdg
theorem mm_recv (C : mm_C G p s m args meth c own cc nL ret) (hM : mm_P G R N M H) (ho : o < N) {ci : Nat} {q : vw_C} {fs : List Value} (hc : vwCl[ci]? = some q) (he : mm_en G R M o = .inr (ci, fs)) : ∃ cell : Cell, H[mm_lo G + o]? = some cell ∧ cell.vm.isStatics = false ∧ s.vm.findClass q.1 = some cell.cls := by
  obtain ⟨-, -, -, -, -, -, -, hK, -⟩ := C
  exact va_recv (q0 := o) hK.1 hM hc (by rw [mm_Wg ho, he])
variable {y : MethodName} {bytes : ByteArray} {maxL n index : Nat} {rety : Option FieldType} {rm : Room} {Cn : String} {As : List Value} {w1 : mm_Ws} {st : List Value}
/-- what a call of an instance's method needs -/
def mm_V (Rm rm : Room) (own Cn : String) (index : Nat) (y : MethodName) (bytes : ByteArray) (maxL : Nat) (rety : Option FieldType) (n : Nat) : Prop :=
  GoodIn mm_good (wsV own index Cn y (mm_ws y bytes maxL rety)) ∧ rm.cells = 0 ∧ rm.slots = 0 ∧ (y.cls = Cn ∧ y.cls ≠ "java/lang/invoke/MethodHandle" ∧ y.cls ≠ "java/lang/invoke/VarHandle" ∧ (parseMethodDescriptor y.desc).map (fun d => d.parameters.length) = some n) ∧ rm.frames + 1 ≤ Rm.frames ∧ 8 + (maxL + 11) + rm.locals ≤ Rm.locals
def mm_Sc (Rm rm : Room) (own : String) (index : Nat) (y : MethodName) (bytes : ByteArray) (maxL : Nat) (rety : Option FieldType) (n : Nat) : Prop :=
  GoodIn mm_good (va_wsS own index y (mm_ws y bytes maxL rety)) ∧ rm.cells = 0 ∧ rm.slots = 0 ∧ (y.cls ≠ "java/lang/invoke/MethodHandle" ∧ y.cls ≠ "java/lang/invoke/VarHandle" ∧ (parseMethodDescriptor y.desc).map (fun d => d.parameters.length) = some n) ∧ rm.frames + 1 ≤ Rm.frames ∧ 8 + (maxL + 11) + rm.locals ≤ Rm.locals
theorem mm_runV {Qc : Array Value → State → Outcome → State → Prop} (C : mm_C G p s m args meth c own cc nL ret) (hM : mm_P G R N M H) (hS : va_S (mm_A G) s.heap H locs) (hcal : Met l y (mm_ws y bytes maxL rety) rm (va_Pc (.ref (mm_lo G + o) :: As) (mm_B G (R, N, M))) Qc 0 0 (mm_A G)) (hv : mm_V Rm rm own Cn index y bytes maxL rety n) (hrec : ∃ cell : Cell, H[mm_lo G + o]? = some cell ∧ cell.vm.isStatics = false ∧ s.vm.findClass Cn = some cell.cls)
    (hl : ls.size = nL) (hn : As.length = n) (hst : st = As.reverse ++ .ref (mm_lo G + o) :: rest) (hroom : (rest.map fun v => v.category).sum ≤ 8) (hf : cells ≤ Rm.cells ∧ slots ≤ Rm.slots) (hdg : decode cc pc = .ok (.invokevirtual index, 3)) :
    va_Run p l e Rm s m args below meth c H locs cells slots 0 0 (F0 m pc ls st) rest (Qc (Value.ref (mm_lo G + o) :: As).toArray) (mm_A G) := by
  obtain ⟨hx, hb, -, hts, hown, hml, -, -, -⟩ := id C
  obtain ⟨h1, h2, h3, h4, h5⟩ := hv
  exact va_runV (As := As) (rest := rest) ⟨hx, hb, hml, hown, hts⟩ hcal (cwV n hts h1 rfl h2 h3 h4 h5) ⟨mm_blind, hrec, fun U hU hW => ⟨rfl, mm_toB C hM hS hU hW⟩⟩ rfl hn hl hst (lv_room hroom) hdg ⟨hf.1, hf.2⟩
theorem mm_runS {Qc : Array Value → State → Outcome → State → Prop} (C : mm_C G p s m args meth c own cc nL ret) (hM : mm_P G R N M H) (hS : va_S (mm_A G) s.heap H locs) (hcal : Met l y (mm_ws y bytes maxL rety) rm (va_Pc As (mm_B G (R, N, M))) Qc 0 0 (mm_A G)) (hv : mm_Sc Rm rm own index y bytes maxL rety n)
    (hl : ls.size = nL) (hn : As.length = n) (hst : st = As.reverse ++ rest) (hroom : (rest.map fun v => v.category).sum ≤ 8) (hf : cells ≤ Rm.cells ∧ slots ≤ Rm.slots) (hdg : decode cc pc = .ok (.invokestatic index, 3)) :
    va_Run p l e Rm s m args below meth c H locs cells slots 0 0 (F0 m pc ls st) rest (Qc As.toArray) (mm_A G) := by
  obtain ⟨hx, hb, -, hts, hown, hml, -, -, -⟩ := id C
  obtain ⟨h1, h2, h3, h4, h5⟩ := hv
  exact va_runS (As := As) (rest := rest) ⟨hx, hb, hml, hown, hts⟩ hcal (va_cwS n hts h1 rfl h2 h3 h4 h5) ⟨mm_blind, fun U hU hW => ⟨rfl, mm_toB C hM hS hU hW⟩⟩ rfl hn hl hst (lv_room hroom) hdg ⟨hf.1, hf.2⟩
theorem mm_ki {r0 : Int32} {a : Array Value} (hS : va_S (mm_A G) s.heap H locs) (hr : va_Run p l e Rm s m args below meth c H locs cells slots 0 0 (F0 m pc ls st) rest (mm_Qi G r0 w1 a) (mm_A G))
    (kk : ∀ (H1 : Heap) (locs1 : List Loc), mm_P G w1.1 w1.2.1 w1.2.2 H1 → va_S (mm_A G) s.heap H1 locs1 → W p l e Rm s m args below meth c H1 locs1 cells slots Q (F0 m (pc + 3) ls (.int r0 :: rest))) : W p l e Rm s m args below meth c H locs cells slots Q (F0 m pc ls st) :=
  va_calli hr hS (fun _ _ h => h) (fun _ h => h) (fun r u t H1 locs1 ht _ hw hB _ _ hS1 => by subst hw; subst ht; exact kk _ locs1 hB.1 hS1)
theorem mm_kl {r0 : Int64} {a : Array Value} (hS : va_S (mm_A G) s.heap H locs) (hr : va_Run p l e Rm s m args below meth c H locs cells slots 0 0 (F0 m pc ls st) rest (mm_Ql G r0 w1 a) (mm_A G))
    (kk : ∀ (H1 : Heap) (locs1 : List Loc), mm_P G w1.1 w1.2.1 w1.2.2 H1 → va_S (mm_A G) s.heap H1 locs1 → W p l e Rm s m args below meth c H1 locs1 cells slots Q (F0 m (pc + 3) ls (.long r0 :: rest))) : W p l e Rm s m args below meth c H locs cells slots Q (F0 m pc ls st) :=
  va_calll hr hS (fun _ _ h => h) (fun _ h => h) (fun r u t H1 locs1 ht _ hw hB _ _ hS1 => by subst hw; subst ht; exact kk _ locs1 hB.1 hS1)
theorem mm_kv {a : Array Value} (hS : va_S (mm_A G) s.heap H locs) (hr : va_Run p l e Rm s m args below meth c H locs cells slots 0 0 (F0 m pc ls st) rest (mm_Qv G w1 a) (mm_A G))
    (kk : ∀ (H1 : Heap) (locs1 : List Loc), mm_P G w1.1 w1.2.1 w1.2.2 H1 → va_S (mm_A G) s.heap H1 locs1 → W p l e Rm s m args below meth c H1 locs1 cells slots Q (F0 m (pc + 3) ls rest)) : W p l e Rm s m args below meth c H locs cells slots Q (F0 m pc ls st) :=
  va_callv hr hS (fun _ _ h => h) (fun _ h => h) (fun u t H1 locs1 ht _ _ hB _ _ hS1 => by subst ht; exact kk _ locs1 hB.1 hS1)
theorem mm_kq {r0 : Option Nat} {a : Array Value} (hS : va_S (mm_A G) s.heap H locs) (hr : va_Run p l e Rm s m args below meth c H locs cells slots 0 0 (F0 m pc ls st) rest (mm_Qq G r0 w1 a) (mm_A G))
    (kk : ∀ (H1 : Heap) (locs1 : List Loc), mm_P G w1.1 w1.2.1 w1.2.2 H1 → va_S (mm_A G) s.heap H1 locs1 → W p l e Rm s m args below meth c H1 locs1 cells slots Q (F0 m (pc + 3) ls (mm_q G r0 :: rest))) : W p l e Rm s m args below meth c H locs cells slots Q (F0 m pc ls st) :=
  va_callq hr hS (fun _ _ h => h) (fun _ h => h) (fun r u t H1 locs1 ht _ hw hB _ _ hS1 => by subst hw; subst ht; exact kk _ locs1 hB.1 hS1)
/-- the three static arrays -/
theorem mm_gst (C : mm_C G p s m args meth c own cc nL ret) (hS : va_S (mm_A G) s.heap H locs) {nm : String} {t index : Nat} {f : Nat → Int32} (hZ : mm_Z1 G nm t f s s.heap) (hlink : Cond.fieldLink own index "CartPitches" nm "[I" ∈ mm_good ∨ Cond.fieldLinkNest own index "CartPitches" nm "[I" "CartPitches" ∈ lw_tbl) (hdg : decode cc pc = .ok (.getstatic index, 3))
    (kk : W p l e Rm s m args below meth c H locs cells slots Q (F0 m (pc + 3) ls (.ref t :: rest))) : W p l e Rm s m args below meth c H locs cells slots Q (F0 m pc ls rest) := by
  obtain ⟨hx, hb, -, hts, hown, -, -, hK, -⟩ := C
  rcases hlink with hlink | hlink
  · exact va_gets (v := .ref t) hx hb hZ.1 hS hown (hts _ hlink) (fun _ h => h) hdg kk
  · exact va_getsN (v := .ref t) hx hb hZ.1 hS hown (va_Nw.use rfl (hK.2.1 _ _ _ _ _ _ hlink)) (fun _ h => h) hdg kk
theorem mm_tld (C : mm_C G p s m args meth c own cc nL ret) (hS : va_S (mm_A G) s.heap H locs) {nm : String} {t : Nat} {f : Nat → Int32} (hZ : mm_Z1 G nm t f s s.heap) {i : Int32} (hin : vp_in i 10) (hdg : decode cc pc = .ok (.iaload, 1))
    (kk : W p l e Rm s m args below meth c H locs cells slots Q (F0 m (pc + 1) ls (.int (f i.toNatClampNeg) :: rest))) : W p l e Rm s m args below meth c H locs cells slots Q (F0 m pc ls (.int i :: .ref t :: rest)) := by
  obtain ⟨hx, hb, -, hts, hown, -, -, hK, -⟩ := C
  exact va_ti hx hb hZ.2 hS hin rfl hdg kk
theorem mm_min (C : mm_C G p s m args meth c own cc nL ret) {index : Nat} (hl : ls.size = nL) (hlink : Cond.methodLink own index Lib.Math.min.name ∈ mm_good) (hstat : Cond.static Lib.Math.min.name ∈ mm_good) (hini : Cond.initialized "java/lang/Math" ∈ mm_good) (hcode : Cond.code Lib.Math.min.name Lib.Math.min.code 2 (some .int) ∈ mm_good) (hfr : 1 ≤ Rm.frames) (hlo : (rest.map fun v => v.category).sum + 13 ≤ Rm.locals) (hf : cells ≤ Rm.cells ∧ slots ≤ Rm.slots) {x y : Int32} (hdg : decode cc pc = .ok (.invokestatic index, 3))
    (kk : W p l e Rm s m args below meth c H locs cells slots Q (F0 m (pc + 3) ls (.int (if y < x then y else x) :: rest))) : W p l e Rm s m args below meth c H locs cells slots Q (F0 m pc ls (.int y :: .int x :: rest)) := by
  obtain ⟨hx, hb, -, hts, hown, hml, -, hK, -⟩ := C
  exact va_mmin hx hb (by rw [hml, hl]) hown (hts _ hlink) (hts _ hstat) (hts _ hini) (hts _ hcode) hfr hlo hf.1 hf.2 hdg kk
theorem mm_ldc (C : mm_C G p s m args meth c own cc nL ret) {index : Nat} {v : Int32} (hc : Cond.constant own index v ∈ mm_good) (hdg : decode cc pc = .ok (.ldc index, 2)) (kk : W p l e Rm s m args below meth c H locs cells slots Q (F0 m (pc + 2) ls (.int v :: rest))) : W p l e Rm s m args below meth c H locs cells slots Q (F0 m pc ls rest) := by
  obtain ⟨hx, hb, -, hts, hown, -⟩ := C
  exact lv_ldc hx hb hown (hts _ hc) hdg kk
theorem mm_ldc2 (C : mm_C G p s m args meth c own cc nL ret) {index : Nat} {v : Int64} (hc : Cond.constantLong own index v ∈ mm_good) (hdg : decode cc pc = .ok (.ldc2_w index, 3)) (kk : W p l e Rm s m args below meth c H locs cells slots Q (F0 m (pc + 3) ls (.long v :: rest))) : W p l e Rm s m args below meth c H locs cells slots Q (F0 m pc ls rest) := by
  obtain ⟨hx, hb, -, hts, hown, -⟩ := C
  exact lv_ldc2 hx hb hown (hts _ hc) hdg kk
theorem mm_ifeqZ (C : mm_C G p s m args meth c own cc nL ret) {b : Bool} {off : Int} {tgt : Nat} (hdg : decode cc pc = .ok (.ifCond .eq off, 3)) (ht : (pc : Int) + off = (tgt : Int)) (kt : ¬ b = true → W p l e Rm s m args below meth c H locs cells slots Q (F0 m tgt ls rest)) (kf : b = true → W p l e Rm s m args below meth c H locs cells slots Q (F0 m (pc + 3) ls rest)) : W p l e Rm s m args below meth c H locs cells slots Q (F0 m pc ls (.int (b2i b) :: rest)) := by
  obtain ⟨hx, hb, -⟩ := C
  refine lv_if_eq hx hb hdg ht (fun q => kt ?_) (fun q => kf ?_)
  · intro h; subst h; cases q
  · cases b
    · exact absurd rfl q
    · rfl
theorem mm_ifneZ (C : mm_C G p s m args meth c own cc nL ret) {b : Bool} {off : Int} {tgt : Nat} (hdg : decode cc pc = .ok (.ifCond .ne off, 3)) (ht : (pc : Int) + off = (tgt : Int)) (kt : b = true → W p l e Rm s m args below meth c H locs cells slots Q (F0 m tgt ls rest)) (kf : ¬ b = true → W p l e Rm s m args below meth c H locs cells slots Q (F0 m (pc + 3) ls rest)) : W p l e Rm s m args below meth c H locs cells slots Q (F0 m pc ls (.int (b2i b) :: rest)) := by
  obtain ⟨hx, hb, -⟩ := C
  refine lv_if_ne hx hb hdg ht (fun q => kt ?_) (fun q => kf ?_)
  · cases b
    · exact absurd rfl q
    · rfl
  · intro h; subst h; cases q
end MMC
