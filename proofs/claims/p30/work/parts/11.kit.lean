/-! MY OWN KIT, fourth part: makers -/
def zR (R : mm_R) (o : Nat) : mm_R := fun o' k' => if o' = o then none else R o' k'
def zM (M : mm_M) (o : Nat) : mm_M := (fun o' k' => if o' = o then 0 else M.1 o' k', fun o' k' => if o' = o then 0 else M.2 o' k')
theorem zR_at (R : mm_R) (o : Nat) : zR R o o = fun _ => none := by funext k; simp [zR]
theorem zM_at1 (M : mm_M) (o : Nat) : (zM M o).1 o = fun _ => 0 := by funext k; simp [zM]
theorem zM_at2 (M : mm_M) (o : Nat) : (zM M o).2 o = fun _ => 0 := by funext k; simp [zM]
theorem mm_en_z {G : mm_G} {R : mm_R} {M : mm_M} {o : Nat} : ∀ o', o' ≠ o → mm_en G (zR R o) (zM M o) o' = mm_en G R M o' := by
  intro o' h
  have e1 : (zM M o).1 o' = M.1 o' := by funext j; simp [zM, h]
  have e2 : (zM M o).2 o' = M.2 o' := by funext j; simp [zM, h]
  have e3 : zR R o o' = R o' := by funext j; simp [zR, h]
  unfold mm_en
  rw [e1, e2, e3]
/-- one cell comes -/
theorem mm_push {G : mm_G} {R : mm_R} {N : Nat} {M : mm_M} {H H1 : Heap} (hM : mm_P G R N M H) (hz : H.size = mm_lo G + N) (o1 : ∀ q : Nat, q < H.size → H1[q]? = H[q]?) (he : va_at G.1 vwCl (mm_lo G + N, mm_e G (fun _ => 0) (fun _ => 0) (fun _ => none) (kT N)) H1) : mm_P G (zR R N) (N + 1) (zM M N) H1 := by
  intro k q hk
  obtain ⟨hkN, e⟩ := mm_Wi hk
  subst e
  by_cases h : k = N
  · subst h
    unfold mm_en
    rw [zM_at1, zM_at2, zR_at]
    exact he
  · rw [mm_en_z k h]
    exact (hM k _ (mm_Wg (by omega))).kept (o1 _ (by rw [hz]; show mm_lo G + k < _; omega))
section MMM
variable {p : Program} {l : Launch} {e : Env} {Rm : Room} {s : State} {m : MethodId} {args : Array Value} {below : List Frame} {meth : Method} {c : Code} {H : Heap} {locs : List Loc} {cells slots : Nat} {Q : State → Prop}
variable {cc : ByteArray} {pc : Nat} {ls : Array Slot} {rest : List Value} {G : mm_G} {own : String} {nL : Nat} {ret : Option FieldType} {R : mm_R} {N : Nat} {M : mm_M} {o : Nat}
theorem mm_S1 (hS : va_S (mm_A G) s.heap H locs) {H1 : Heap} {h : Nat} (hh : H.size = h) (z1 : H1.size = h + 1) (o1 : ∀ q, q < h → H1[q]? = H[q]?) : va_S (mm_A G) s.heap H1 locs := by
  subst hh
  exact ⟨Nat.le_trans hS.1 (by omega), fun x h1 h2 => (o1 x (Nat.lt_of_lt_of_le h1 hS.1)).trans (hS.2.1 x h1 h2), hS.2.2⟩
theorem mm_new (C : mm_C G p s m args meth c own cc nL ret) (hz : H.size = mm_lo G + N) (hM : mm_P G R N M H) (hS : va_S (mm_A G) s.heap H locs) {ci Nf index : Nat} {Cn : String} {T : u_T} {fs : List Value} (hT : kT N = (ci, 0)) (hc : vwCl[ci]? = some (Cn, T, Nf)) (hw : ∀ w ∈ u_ws Cn T Nf, w ∈ mm_good) (ty : Nat → FieldType) (hty : ∀ k, k < Nf → parseFieldDescriptor (T k).2.2.1 = some (ty k)) (hcl : Cond.classLink own index Cn ∈ mm_good) (hinst : Cond.instantiable Cn Nf ∈ mm_good) (hini : Cond.initialized Cn ∈ mm_good) (he : mm_e G (fun _ => 0) (fun _ => 0) (fun _ => none) (ci, 0) = .inr (ci, fs)) (hfs : ∀ j, j < Nf → defaultValue (ty j) = vp_V fs j) (hcells : cells + 1 ≤ Rm.cells) (hslots : slots + Nf ≤ Rm.slots) (hdg : decode cc pc = .ok (.new index, 3))
    (kk : ∀ H1 : Heap, mm_P G (zR R N) (N + 1) (zM M N) H1 → va_S (mm_A G) s.heap H1 locs → H1.size = mm_lo G + (N + 1) → W p l e Rm s m args below meth c H1 locs (cells + 1) (slots + Nf) Q (F0 m (pc + 3) ls (.ref (mm_lo G + N) :: rest))) : W p l e Rm s m args below meth c H locs cells slots Q (F0 m pc ls rest) := by
  obtain ⟨hx, hb, -, hts, hown, -, -, hK, -⟩ := C
  have hKn := hK.1.1 ci _ hc
  refine W.newcK hx hb hown (hts _ hcl) (hts _ hinst) (hts _ hini) rfl hdg hcells hslots hKn.2.1 rfl fun H1 kC hkC e1 z1 o1 => ?_
  rw [hz] at e1
  rw [hz]
  refine kk H1 (mm_push hM hz o1 ?_) (mm_S1 hS rfl z1 o1) (by rw [z1, hz]; omega)
  rw [hT, he]
  exact ⟨_, hc, (u_born ty hts hw hKn hkC e1 hty).to hfs⟩
theorem mm_newa (C : mm_C G p s m args meth c own cc nL ret) (hz : H.size = mm_lo G + N) (hM : mm_P G R N M H) (hS : va_S (mm_A G) s.heap H locs) {k kk0 : Nat} {n : Int32} {atype : ArrayType} {ty : FieldType} (hty : newarray.typeOf atype = ty) (hT : kT N = (kk0, k)) (hids : (mm_tys G)[kk0 - 7]? = some (G.2.1 (kk0 - 7), ty)) (hcell : ∀ cA : ClassId, va_at G.1 vwCl (mm_lo G + N, .inl (G.2.1 (kk0 - 7), (k, .inl (fun _ => 0)))) = va_at G.1 vwCl (mm_lo G + N, mm_e G (fun _ => 0) (fun _ => 0) (fun _ => none) (kk0, k))) (hdef : defaultValue ty = .int 0) (hprim : ∀ (U : State) (cA : ClassId), va_RA U cA ty → U.vm.findClass ("[" ++ ty.toString) = some cA) (hn : ¬ n < 0) (hN : n.toNatClampNeg = k) (hbytes : k * componentBytes ty ≤ 536870912) (harr : Cond.arrayClass ty ∈ mm_good) (hcells : cells + 1 ≤ Rm.cells) (hslots : slots + k ≤ Rm.slots) (hdg : decode cc pc = .ok (.newarray atype, 2))
    (kk : ∀ H1 : Heap, mm_P G (zR R N) (N + 1) (zM M N) H1 → va_S (mm_A G) s.heap H1 locs → H1.size = mm_lo G + (N + 1) → W p l e Rm s m args below meth c H1 locs (cells + 1) (slots + k) Q (F0 m (pc + 2) ls (.ref (mm_lo G + N) :: rest))) : W p l e Rm s m args below meth c H locs cells slots Q (F0 m pc ls (.int n :: rest)) := by
  obtain ⟨hx, hb, -, hts, hown, -, -, hK, -⟩ := C
  subst hty
  refine va_newaK hx hb (hts _ harr) rfl hdg rfl hn hN hbytes hcells hslots rfl fun H1 cA e1 z1 o1 hAr hNm => ?_
  have hcA : cA = G.2.1 (kk0 - 7) := Option.some.inj (hNm.symm.trans (hprim _ _ (hK.1.2 _ _ hids).2))
  rw [hz] at e1
  rw [hz]
  refine kk H1 (mm_push hM hz o1 ?_) (mm_S1 hS rfl z1 o1) (by rw [z1, hz]; omega)
  rw [hT, ← hcell cA]
  show H1[mm_lo G + N]? = some (arrV (G.2.1 (kk0 - 7)) k (fun _ => .int 0))
  rw [e1, hcA, hdef]
theorem mm_newq (C : mm_C G p s m args meth c own cc nL ret) (hz : H.size = mm_lo G + N) (hM : mm_P G R N M H) (hS : va_S (mm_A G) s.heap H locs) {k kk0 index : Nat} {n : Int32} {Cn : String} (hT : kT N = (kk0, k)) (hids : (mm_tys G)[kk0 - 7]? = some (G.2.1 (kk0 - 7), .object Cn)) (hcell : mm_e G (fun _ => 0) (fun _ => 0) (fun _ => none) (kk0, k) = .inl (G.2.1 (kk0 - 7), (k, .inr (.inr (.inr (.inr (fun _ => none))))))) (hn : ¬ n < 0) (hN : n.toNatClampNeg = k) (hbytes : k * 4 ≤ 536870912) (hcl : Cond.classLink own index Cn ∈ mm_good) (hover : Cond.arrayOver (.object Cn) ∈ lw_tbl) (hcells : cells + 1 ≤ Rm.cells) (hslots : slots + k ≤ Rm.slots) (hdg : decode cc pc = .ok (.anewarray index, 3))
    (kk : ∀ H1 : Heap, mm_P G (zR R N) (N + 1) (zM M N) H1 → va_S (mm_A G) s.heap H1 locs → H1.size = mm_lo G + (N + 1) → W p l e Rm s m args below meth c H1 locs (cells + 1) (slots + k) Q (F0 m (pc + 3) ls (.ref (mm_lo G + N) :: rest))) : W p l e Rm s m args below meth c H locs cells slots Q (F0 m pc ls (.int n :: rest)) := by
  obtain ⟨hx, hb, -, hts, hown, -, -, hK, -⟩ := C
  subst hN
  refine W.anew hx hb hown (hts _ hcl) (va_AO.use (hK.2.2.2 _ hover)) rfl hdg rfl hn hbytes hcells hslots fun cA kA comp f1 f2 f3 f4 => ?_
  obtain ⟨kA', comp', g1, g2, g3, g4⟩ := (hK.1.2 _ _ hids).2
  have hcA : cA = G.2.1 (kk0 - 7) := Option.some.inj (f1.symm.trans g4)
  generalize hH1 : H.push ({ cls := cA, slots := Array.replicate n.toNatClampNeg .null, vm := .none } : Cell) = H1
  have z1 : H1.size = H.size + 1 := by rw [← hH1, Array.size_push]
  have e1 : H1[H.size]? = some (arrV cA n.toNatClampNeg (fun _ => .null)) := by rw [← hH1, Array.getElem?_push_size, ← arrV_new]
  have o1 : ∀ q : Nat, q < H.size → H1[q]? = H[q]? := fun q hq => by rw [← hH1, Array.getElem?_push, if_neg (Nat.ne_of_lt hq)]
  rw [hz] at e1
  rw [hz]
  refine kk H1 (mm_push hM hz o1 ?_) (mm_S1 hS rfl z1 o1) (by rw [z1, hz]; omega)
  rw [hT, hcell]
  show H1[mm_lo G + N]? = some (vp_cell (G.2.1 (kk0 - 7)) _)
  rw [vp_cell_q, e1, hcA]
  rfl
/-- a reference into an array of references -/
theorem mm_ast (C : mm_C G p s m args meth c own cc nL ret) (hM : mm_P G R N M H) (hS : va_S (mm_A G) s.heap H locs) (ho : o < N) {k n : Nat} (hT : kT o = (k, n)) {v ci : Nat} {r : vw_C} (hc : vwCl[ci]? = some r) (hids : (mm_tys G)[k - 7]? = some (G.2.1 (k - 7), .object r.1)) (hcell : ∀ (I : Nat → Int32) (L : Nat → Int64) (Rf : Nat → Option Nat), mm_e G I L Rf (k, n) = .inl (G.2.1 (k - 7), (n, .inr (.inr (.inr (.inr (fun j => (Rf j).map (fun a => mm_lo G + a)))))))) (hv : v < N) {vs : List Value} (hev : mm_en G R M v = .inr (ci, vs)) {i : Int32} (hin : vp_in i n) (hdg : decode cc pc = .ok (.aastore, 1))
    (kk : ∀ (H1 : Heap) (locs1 : List Loc), mm_P G (sR R o i.toNatClampNeg (some v)) N M H1 → va_S (mm_A G) s.heap H1 locs1 → H1.size = H.size → W p l e Rm s m args below meth c H1 locs1 cells slots Q (F0 m (pc + 1) ls rest)) : W p l e Rm s m args below meth c H locs cells slots Q (F0 m pc ls (.ref (mm_lo G + v) :: .int i :: .ref (mm_lo G + o) :: rest)) := by
  obtain ⟨hx, hb, -, hts, hown, -, -, hK, -⟩ := C
  have hlt : i.toNatClampNeg < n := Nat.not_le.mp fun q => hin (Or.inr q)
  have h0 : ¬ i < 0 := fun q => hin (Or.inl q)
  have hP0 := hM o _ (mm_Wg ho)
  have e0 : mm_en G R M o = .inl (G.2.1 (k - 7), (n, .inr (.inr (.inr (.inr (fun j => (R o j).map (fun a => mm_lo G + a))))))) := by unfold mm_en; rw [hT]; exact hcell _ _ _
  have e1 : mm_en G (sR R o i.toNatClampNeg (some v)) M o = .inl (G.2.1 (k - 7), (n, .inr (.inr (.inr (.inr (fun j => (if j = i.toNatClampNeg then some v else R o j).map (fun a => mm_lo G + a))))))) := by unfold mm_en; rw [hT, hcell, sR_at]
  rw [e0] at hP0
  have hPv := hM v _ (mm_Wg hv)
  rw [hev] at hPv
  obtain ⟨r', hr', cellV, g1, g2, g3, -⟩ := hPv
  have hcls := (hK.1.1 ci r hc).2
  obtain ⟨kA, comp, k1, k2, k3, -⟩ := (hK.1.2 _ _ hids).2
  have hcomp : comp = G.1.1 ci := Option.some.inj (k3.symm.trans hcls.1)
  subst hcomp
  obtain ⟨kC, hkC, -⟩ := hcls.2
  refine W.aast hx hb hP0 (fun q h => by cases h) (fun h => by cases h) k1 k2 rfl hkC ⟨h0, by show _ < (arrV _ _ _).slots.size; rw [arrV_size]; exact hlt⟩ g1 (fun q h => by rw [g3] at h; cases h) (by rw [g2]; exact hkC) (by rw [g2]; exact va_assign hcls) rfl rfl hdg fun H1 e z oq => ?_
  refine kk H1 _ (mm_upd hM oq ?_ mm_en_R) (hS.put z oq (Nat.le_add_right _ _)) z
  rw [e1]
  show H1[mm_lo G + o]? = some (vp_cell _ _)
  rw [e, vp_cell_q, vp_cell_q, arrV_store]
  congr 2
  funext q
  by_cases hq : q = i.toNatClampNeg
  · simp [updV, hq, va_rf]
  · simp [updV, hq]
theorem mm_objInit (C : mm_C G p s m args meth c own cc nL ret) {idx a : Nat} (hl : ls.size = nL) (hlink : Cond.methodLink own idx objectInit ∈ mm_good) (hinst : Cond.instanceMethod objectInit ∈ mm_good) (hcode : Cond.code objectInit ⟨#[0xb1]⟩ 1 none ∈ mm_good) (hfr : 1 ≤ Rm.frames) (hlo : (rest.map fun v => v.category).sum + 12 ≤ Rm.locals) (hdg : decode cc pc = .ok (.invokespecial idx, 3)) (kk : W p l e Rm s m args below meth c H locs cells slots Q (F0 m (pc + 3) ls rest)) : W p l e Rm s m args below meth c H locs cells slots Q (F0 m pc ls (.ref a :: rest)) := by
  obtain ⟨hx, hb, -, hts, hown, hml, -, hK, -⟩ := C
  exact W.objInit hx hb hown (hts _ hlink) (hts _ hinst) (hts _ hcode) rfl (by rw [hml]; exact hl) rfl hdg hfr (by show 2 * 0 + _ + 12 ≤ _; omega) kk
variable {y : MethodName} {bytes : ByteArray} {maxL n index mc ms : Nat} {rm : Room} {w1 : mm_Ws} {st : List Value}
theorem mm_toBc (C : mm_C G p s m args meth c own cc nL ret) (hz : H.size = mm_lo G + N) (hM : mm_P G R N M H) (hS : va_S (mm_A G) s.heap H locs) {U : State} (hU : U.heap = H) (hW : s.WarmedH U.vm) : mm_Bc G (R, N, M) U := ⟨by rw [hU]; exact hz, mm_toB C hM hS hU hW⟩
/-- a maker is called, by a link of its own or between nest mates -/
theorem mm_runI (C : mm_C G p s m args meth c own cc nL ret) (hz : H.size = mm_lo G + N) (hM : mm_P G R N M H) (hS : va_S (mm_A G) s.heap H locs) (hcal : Met l y (mm_ws y bytes maxL none) rm (va_Pc [.ref (mm_lo G + o)] (mm_Bc G (R, N, M))) (mm_Qc G w1) mc ms (mm_A G)) (hcode : Cond.code y bytes maxL none ∈ mm_good) (hini : Cond.initialized y.cls ∈ mm_good) (hinst : Cond.instanceMethod y ∈ mm_good) (hy1 : y.name = "<init>") (hd : y.cls ≠ "java/lang/invoke/MethodHandle" ∧ y.cls ≠ "java/lang/invoke/VarHandle" ∧ (parseMethodDescriptor y.desc).map (fun d => d.parameters.length) = some 0) (hrc : rm.cells = mc) (hrs : rm.slots = ms) (hR : rm.frames + 1 ≤ Rm.frames ∧ 8 + (maxL + 11) + rm.locals ≤ Rm.locals) (hlink : Cond.methodLink own index y ∈ mm_good ∨ ∃ host : String, Cond.methodLinkNest own index y host ∈ lw_tbl)
    (hl : ls.size = nL) (hroom : (rest.map fun v => v.category).sum ≤ 8) (hf : cells + mc ≤ Rm.cells ∧ slots + ms ≤ Rm.slots) (hdg : decode cc pc = .ok (.invokespecial index, 3))
    (kk : ∀ (H1 : Heap) (locs1 : List Loc), mm_P G w1.1 w1.2.1 w1.2.2 H1 → va_S (mm_A G) s.heap H1 locs1 → H1.size = mm_lo G + w1.2.1 → W p l e Rm s m args below meth c H1 locs1 (cells + mc) (slots + ms) Q (F0 m (pc + 3) ls rest)) : W p l e Rm s m args below meth c H locs cells slots Q (F0 m pc ls (.ref (mm_lo G + o) :: rest)) := by
  obtain ⟨hx, hb, -, hts, hown, hml, -, hK, -⟩ := id C
  have hpre : PreS s H (va_Pc [.ref (mm_lo G + o)] (mm_Bc G (R, N, M))) [.ref (mm_lo G + o)] := ⟨mm_blindc, fun U hU hW => ⟨rfl, mm_toBc C hz hM hS hU hW⟩⟩
  have fin : ∀ {a : Array Value}, va_Run p l e Rm s m args below meth c H locs cells slots mc ms (F0 m pc ls (.ref (mm_lo G + o) :: rest)) rest (mm_Qc G w1 a) (mm_A G) → W p l e Rm s m args below meth c H locs cells slots Q (F0 m pc ls (.ref (mm_lo G + o) :: rest)) := by
    intro a hr
    exact va_callv hr hS (fun _ _ h => h) (fun _ h => h) (fun u t H1 locs1 ht _ _ hB _ _ hS1 => by subst ht; exact kk _ locs1 hB.2.1 hS1 hB.1)
  rcases hlink with hlink | ⟨host, hlink⟩
  · exact fin (va_runI (As := []) (rest := rest) ⟨hx, hb, hml, hown, hts⟩ hcal (cwI 0 hts (mm_gws hcode) rfl hrc hrs (hts _ hini) (hts _ hlink) (hts _ hinst) hy1 hd hR) hpre rfl rfl hl rfl (lv_room hroom) hdg hf)
  · exact fin (va_runIN (As := []) (rest := rest) ⟨hx, hb, hml, hown, hts⟩ hcal ⟨va_cnB 0 hts (mm_gws hcode) rfl hrc hrs (hK.2.2.1 _ _ _ _ hlink) (hts _ hini) hd hR, hy1, hts _ hinst⟩ hpre rfl rfl hl rfl (lv_room hroom) hdg hf)
end MMM
theorem st1 {N' N d N0 cl : Nat} (e : N' = N + d) (h : N = N0 + cl) : N' = N0 + (cl + d) := by omega
theorem st2 {o N' N d : Nat} (h : o < N) (e : N' = N + d) : o < N' := by omega
theorem st3 {N' N : Nat} (e : N' = N + 1) : N < N' := by omega
theorem st4 {N N0 cl mc : Nat} (g : N < N0 + mc) (h : N = N0 + cl) : cl + 1 ≤ mc := by omega
theorem st5 {Z Z0 sl n ms : Nat} (g : Z + n ≤ Z0 + ms) (h : Z = Z0 + sl) : sl + n ≤ ms := by omega
theorem st6 {N N0 cl mc : Nat} (g : N = N0 + mc) (h : N = N0 + cl) : cl = mc := by omega
