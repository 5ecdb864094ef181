/-! MY OWN KIT, third part: places, guards, rows by place -/
def FU : Nat := 1000000
def om {α β : Type} (x : Option α) (a : Option β) (k : α → Option β) : Option β := match x with
  | none => a
  | some b => k b
theorem om_n {α β : Type} {a : Option β} {k : α → Option β} {r : Option β} (h : om none a k = r) : a = r := h
theorem om_s {α β : Type} {b : α} {a : Option β} {k : α → Option β} {r : Option β} (h : om (some b) a k = r) : k b = r := h
def bn2 {α β γ : Type} (x : Option (α × β)) (k : α → β → Option γ) : Option γ := match x with
  | none => none
  | some q => k q.1 q.2
theorem bn2_of {α β γ : Type} {x : Option (α × β)} {k : α → β → Option γ} {r : γ} (h : bn2 x k = some r) : ∃ a b, x = some (a, b) ∧ k a b = some r := by
  cases x with
  | none => cases h
  | some q => exact ⟨q.1, q.2, rfl, h⟩
theorem nb01 {v : Int32} (h : v = 0 ∨ v = 1) : narrow .boolean (.int v) = .int v := by
  rcases h with rfl | rfl <;> rfl
theorem fb01 {v : Int32} (h : v = 0 ∨ v = 1) : fits .boolean (.int v) = true := by
  rcases h with rfl | rfl <;> rfl
theorem b2i_01 (b : Bool) : b2i b = 0 ∨ b2i b = 1 := by cases b <;> simp [b2i]
theorem vp_lt {i : Int32} {n : Nat} (h : ¬ (i < 0 ∨ n ≤ i.toNatClampNeg)) : i.toNatClampNeg < n := Nat.not_le.mp (fun q => h (Or.inr q))
theorem kT_big {o : Nat} (h : 740 ≤ o) : kT o = (99, 0) := by
  unfold kT
  repeat rw [if_neg (by omega)]
theorem kl {o k n : Nat} (h : kT o = (k, n)) (hk : k < 13 := by decide) : o < 740 := by
  rcases Nat.lt_or_ge o 740 with q | q
  · exact q
  · rw [kT_big q] at h
    have := congrArg Prod.fst h
    dsimp at this
    omega
set_option maxRecDepth 100000 in
theorem kS_a : ∀ o, o < 740 → kT o = (4, 0) → kT (o + 1) = (8, 10) ∧ kT (o + 2) = (11, 10) ∧ kT (o + 3) = (10, 16) ∧ kT (o + 4) = (8, 8) ∧ kT (o + 5) = (8, 8) ∧ kT (o + 6) = (8, 16) ∧ kT (o + 7) = (8, 16) := by decide +kernel
set_option maxRecDepth 100000 in
theorem kS_b : ∀ o, o < 740 → kT o = (4, 0) → kR o 7 = some (o + 1) ∧ kR o 8 = some (o + 2) ∧ kR o 9 = some (o + 3) ∧ kR o 10 = some (o + 4) ∧ kR o 11 = some (o + 5) ∧ kR o 12 = some (o + 6) ∧ kR o 13 = some (o + 7) := by decide +kernel
set_option maxRecDepth 100000 in
theorem kS_c : ∀ o, o < 740 → kT o = (4, 0) → ∀ j, j < 16 → kT (o + 18 + 3 * j) = (0, 0) ∧ kR (o + 3) j = some (o + 18 + 3 * j) := by decide +kernel
set_option maxRecDepth 100000 in
theorem kS_d : ∀ o, o < 740 → kT o = (4, 0) → ∀ j, j < 10 → kT (o + 8 + j) = (3, 0) ∧ kR (o + 2) j = some (o + 8 + j) := by decide +kernel
theorem kS_all (o : Nat) (ho : o < 740) (h : kT o = (4, 0)) : (kT (o + 1) = (8, 10) ∧ kT (o + 2) = (11, 10) ∧ kT (o + 3) = (10, 16) ∧ kT (o + 4) = (8, 8) ∧ kT (o + 5) = (8, 8) ∧ kT (o + 6) = (8, 16) ∧ kT (o + 7) = (8, 16)) ∧ (kR o 7 = some (o + 1) ∧ kR o 8 = some (o + 2) ∧ kR o 9 = some (o + 3) ∧ kR o 10 = some (o + 4) ∧ kR o 11 = some (o + 5) ∧ kR o 12 = some (o + 6) ∧ kR o 13 = some (o + 7)) ∧ (∀ j, j < 16 → kT (o + 18 + 3 * j) = (0, 0) ∧ kR (o + 3) j = some (o + 18 + 3 * j)) ∧ (∀ j, j < 10 → kT (o + 8 + j) = (3, 0) ∧ kR (o + 2) j = some (o + 8 + j)) := ⟨kS_a o ho h, kS_b o ho h, kS_c o ho h, kS_d o ho h⟩
set_option maxRecDepth 100000 in
theorem kC_all : ∀ o, o < 740 → kT o = (0, 0) → kT (o + 1) = (8, 3) ∧ kT (o + 2) = (8, 200) ∧ kR o 16 = some (o + 1) ∧ kR o 17 = some (o + 2) := by decide +kernel
set_option maxRecDepth 100000 in
theorem kD_all : ∀ o, o < 740 → kT o = (2, 0) → kT (o + 1) = (7, 80) ∧ kR o 0 = some (o + 1) := by decide +kernel
set_option maxRecDepth 100000 in
theorem kH_all : ∀ o, o < 740 → kT o = (1, 0) → kT (o + 1) = (12, 7) ∧ kR o 0 = some (o + 1) ∧ o = 133 := by decide +kernel
theorem kH_rows : ∀ j, j < 7 → kT (135 + 66 * j) = (4, 0) ∧ kR 134 j = some (135 + 66 * j) := by decide +kernel
theorem kS_7 {o : Nat} (h : kT o = (4, 0)) : kT (o + 1) = (8, 10) := (kS_all o (kl h) h).1.1
theorem kS_8 {o : Nat} (h : kT o = (4, 0)) : kT (o + 2) = (11, 10) := (kS_all o (kl h) h).1.2.1
theorem kS_9 {o : Nat} (h : kT o = (4, 0)) : kT (o + 3) = (10, 16) := (kS_all o (kl h) h).1.2.2.1
theorem kS_10 {o : Nat} (h : kT o = (4, 0)) : kT (o + 4) = (8, 8) := (kS_all o (kl h) h).1.2.2.2.1
theorem kS_11 {o : Nat} (h : kT o = (4, 0)) : kT (o + 5) = (8, 8) := (kS_all o (kl h) h).1.2.2.2.2.1
theorem kS_12 {o : Nat} (h : kT o = (4, 0)) : kT (o + 6) = (8, 16) := (kS_all o (kl h) h).1.2.2.2.2.2.1
theorem kS_13 {o : Nat} (h : kT o = (4, 0)) : kT (o + 7) = (8, 16) := (kS_all o (kl h) h).1.2.2.2.2.2.2
theorem rS_7 {o : Nat} (h : kT o = (4, 0)) : kR o 7 = some (o + 1) := (kS_all o (kl h) h).2.1.1
theorem rS_8 {o : Nat} (h : kT o = (4, 0)) : kR o 8 = some (o + 2) := (kS_all o (kl h) h).2.1.2.1
theorem rS_9 {o : Nat} (h : kT o = (4, 0)) : kR o 9 = some (o + 3) := (kS_all o (kl h) h).2.1.2.2.1
theorem rS_10 {o : Nat} (h : kT o = (4, 0)) : kR o 10 = some (o + 4) := (kS_all o (kl h) h).2.1.2.2.2.1
theorem rS_11 {o : Nat} (h : kT o = (4, 0)) : kR o 11 = some (o + 5) := (kS_all o (kl h) h).2.1.2.2.2.2.1
theorem rS_12 {o : Nat} (h : kT o = (4, 0)) : kR o 12 = some (o + 6) := (kS_all o (kl h) h).2.1.2.2.2.2.2.1
theorem rS_13 {o : Nat} (h : kT o = (4, 0)) : kR o 13 = some (o + 7) := (kS_all o (kl h) h).2.1.2.2.2.2.2.2
theorem kS_cart {o j : Nat} (h : kT o = (4, 0)) (hj : j < 16) : kT (o + 18 + 3 * j) = (0, 0) := ((kS_all o (kl h) h).2.2.1 j hj).1
theorem rS_cart {o j : Nat} (h : kT o = (4, 0)) (hj : j < 16) : kR (o + 3) j = some (o + 18 + 3 * j) := ((kS_all o (kl h) h).2.2.1 j hj).2
theorem kS_pitch {o j : Nat} (h : kT o = (4, 0)) (hj : j < 10) : kT (o + 8 + j) = (3, 0) := ((kS_all o (kl h) h).2.2.2 j hj).1
theorem rS_pitch {o j : Nat} (h : kT o = (4, 0)) (hj : j < 10) : kR (o + 2) j = some (o + 8 + j) := ((kS_all o (kl h) h).2.2.2 j hj).2
theorem kC_16 {o : Nat} (h : kT o = (0, 0)) : kT (o + 1) = (8, 3) := (kC_all o (kl h) h).1
theorem kC_17 {o : Nat} (h : kT o = (0, 0)) : kT (o + 2) = (8, 200) := (kC_all o (kl h) h).2.1
theorem rC_16 {o : Nat} (h : kT o = (0, 0)) : kR o 16 = some (o + 1) := (kC_all o (kl h) h).2.2.1
theorem rC_17 {o : Nat} (h : kT o = (0, 0)) : kR o 17 = some (o + 2) := (kC_all o (kl h) h).2.2.2
theorem kD_0 {o : Nat} (h : kT o = (2, 0)) : kT (o + 1) = (7, 80) := (kD_all o (kl h) h).1
theorem rD_0 {o : Nat} (h : kT o = (2, 0)) : kR o 0 = some (o + 1) := (kD_all o (kl h) h).2
theorem kH_0 {o : Nat} (h : kT o = (1, 0)) : kT (o + 1) = (12, 7) := (kH_all o (kl h) h).1
theorem rH_0 {o : Nat} (h : kT o = (1, 0)) : kR o 0 = some (o + 1) := (kH_all o (kl h) h).2.1
theorem kH_row {j : Nat} (hj : j < 7) : kT (135 + 66 * j) = (4, 0) := (kH_rows j hj).1
theorem rH_row {o j : Nat} (h : kT o = (1, 0)) (hj : j < 7) : kR (o + 1) j = some (135 + 66 * j) := by
  have e := (kH_all o (kl h) h).2.2
  subst e
  exact (kH_rows j hj).2
section MMK
variable {p : Program} {l : Launch} {e : Env} {Rm : Room} {s : State} {m : MethodId} {args : Array Value} {below : List Frame} {meth : Method} {c : Code} {H : Heap} {locs : List Loc} {cells slots : Nat} {Q : State → Prop}
variable {cc : ByteArray} {pc : Nat} {ls : Array Slot} {rest : List Value} {G : mm_G} {own : String} {nL : Nat} {ret : Option FieldType} {R : mm_R} {N : Nat} {M : mm_M} {o : Nat}
theorem mm_aldo_n (hx : p.tables.exec = Jvm.exec) (hb : c.code = cc) {k : Fin 4} {i : Nat} {r : Option Nat} (hdg : decode cc pc = .ok (.aload_n k, 1)) (hi : (k : Nat) = i) (hl : ls[i]? = some (.val (mm_q G r))) (kk : W p l e Rm s m args below meth c H locs cells slots Q (F0 m (pc + 1) ls (mm_q G r :: rest))) : W p l e Rm s m args below meth c H locs cells slots Q (F0 m pc ls rest) := by
  cases r with
  | none => exact lv_aload_nN hx hb hdg hi hl kk
  | some b => exact lv_aload_n hx hb hdg hi hl kk
theorem mm_aldo (hx : p.tables.exec = Jvm.exec) (hb : c.code = cc) {i : Nat} {r : Option Nat} (hdg : decode cc pc = .ok (.aload i, 2)) (hl : ls[i]? = some (.val (mm_q G r))) (kk : W p l e Rm s m args below meth c H locs cells slots Q (F0 m (pc + 2) ls (mm_q G r :: rest))) : W p l e Rm s m args below meth c H locs cells slots Q (F0 m pc ls rest) := by
  cases r with
  | none => exact lv_aloadN hx hb hdg hl kk
  | some b => exact lv_aload hx hb hdg hl kk
theorem mm_asto_n (hx : p.tables.exec = Jvm.exec) (hb : c.code = cc) {k : Fin 4} {i : Nat} {r : Option Nat} {lv lv' : List (Nat × Value)} (hdg : decode cc pc = .ok (.astore_n k, 1)) (hi : (k : Nat) = i) (h : lv_has ls nL lv) (hn : i < nL) (hl : (i, mm_q G r) :: lv.filter (fun q => !(q.1 == i) && !(q.1 + 1 == i && q.2.category == 2)) = lv') (kk : ∀ ls' : Array Slot, lv_has ls' nL lv' → W p l e Rm s m args below meth c H locs cells slots Q (F0 m (pc + 1) ls' rest)) : W p l e Rm s m args below meth c H locs cells slots Q (F0 m pc ls (mm_q G r :: rest)) := by
  cases r with
  | none => exact lv_astore_nN hx hb hdg hi h hn hl kk
  | some b => exact lv_astore_n hx hb hdg hi h hn hl kk
theorem mm_asto (hx : p.tables.exec = Jvm.exec) (hb : c.code = cc) {i : Nat} {r : Option Nat} {lv lv' : List (Nat × Value)} (hdg : decode cc pc = .ok (.astore i, 2)) (h : lv_has ls nL lv) (hn : i < nL) (hl : (i, mm_q G r) :: lv.filter (fun q => !(q.1 == i) && !(q.1 + 1 == i && q.2.category == 2)) = lv') (kk : ∀ ls' : Array Slot, lv_has ls' nL lv' → W p l e Rm s m args below meth c H locs cells slots Q (F0 m (pc + 2) ls' rest)) : W p l e Rm s m args below meth c H locs cells slots Q (F0 m pc ls (mm_q G r :: rest)) := by
  cases r with
  | none => exact lv_astoreN hx hb hdg h hn hl kk
  | some b => exact lv_astore hx hb hdg h hn hl kk
theorem mm_ildk (C : mm_C G p s m args meth c own cc nL ret) (hM : mm_P G R N M H) (ho : o < N) {n : Nat} (hT : kT o = (8, n)) {i : Int32} {k : Nat} (hin : vp_in i n) (hk : i.toNatClampNeg = k) (hdg : decode cc pc = .ok (.iaload, 1))
    (kk : W p l e Rm s m args below meth c H locs cells slots Q (F0 m (pc + 1) ls (.int (M.1 o k) :: rest))) : W p l e Rm s m args below meth c H locs cells slots Q (F0 m pc ls (.int i :: .ref (mm_lo G + o) :: rest)) := by subst hk; exact mm_ild C hM ho hT hin hdg kk
theorem mm_cldk (C : mm_C G p s m args meth c own cc nL ret) (hM : mm_P G R N M H) (ho : o < N) {n : Nat} (hT : kT o = (7, n)) {i : Int32} {k : Nat} (hin : vp_in i n) (hk : i.toNatClampNeg = k) (hdg : decode cc pc = .ok (.caload, 1))
    (kk : W p l e Rm s m args below meth c H locs cells slots Q (F0 m (pc + 1) ls (.int (M.1 o k) :: rest))) : W p l e Rm s m args below meth c H locs cells slots Q (F0 m pc ls (.int i :: .ref (mm_lo G + o) :: rest)) := by subst hk; exact mm_cld C hM ho hT hin hdg kk
theorem mm_zldk (C : mm_C G p s m args meth c own cc nL ret) (hM : mm_P G R N M H) (ho : o < N) {n : Nat} (hT : kT o = (9, n)) {i : Int32} {k : Nat} (hin : vp_in i n) (hk : i.toNatClampNeg = k) (hdg : decode cc pc = .ok (.baload, 1))
    (kk : W p l e Rm s m args below meth c H locs cells slots Q (F0 m (pc + 1) ls (.int (M.1 o k) :: rest))) : W p l e Rm s m args below meth c H locs cells slots Q (F0 m pc ls (.int i :: .ref (mm_lo G + o) :: rest)) := by subst hk; exact mm_zld C hM ho hT hin hdg kk
theorem mm_istk (C : mm_C G p s m args meth c own cc nL ret) (hM : mm_P G R N M H) (hS : va_S (mm_A G) s.heap H locs) (ho : o < N) {n : Nat} (hT : kT o = (8, n)) {i x : Int32} {k : Nat} (hin : vp_in i n) (hk : i.toNatClampNeg = k) (hdg : decode cc pc = .ok (.iastore, 1))
    (kk : ∀ (H1 : Heap) (locs1 : List Loc), mm_P G R N (sI M o k x) H1 → va_S (mm_A G) s.heap H1 locs1 → H1.size = H.size → W p l e Rm s m args below meth c H1 locs1 cells slots Q (F0 m (pc + 1) ls rest)) : W p l e Rm s m args below meth c H locs cells slots Q (F0 m pc ls (.int x :: .int i :: .ref (mm_lo G + o) :: rest)) := by subst hk; exact mm_ist C hM hS ho hT hin hdg kk
theorem mm_cstk (C : mm_C G p s m args meth c own cc nL ret) (hM : mm_P G R N M H) (hS : va_S (mm_A G) s.heap H locs) (ho : o < N) {n : Nat} (hT : kT o = (7, n)) {i x : Int32} {k : Nat} (hin : vp_in i n) (hk : i.toNatClampNeg = k) (hnx : narrow .char (.int x) = .int x) (hdg : decode cc pc = .ok (.castore, 1))
    (kk : ∀ (H1 : Heap) (locs1 : List Loc), mm_P G R N (sI M o k x) H1 → va_S (mm_A G) s.heap H1 locs1 → H1.size = H.size → W p l e Rm s m args below meth c H1 locs1 cells slots Q (F0 m (pc + 1) ls rest)) : W p l e Rm s m args below meth c H locs cells slots Q (F0 m pc ls (.int x :: .int i :: .ref (mm_lo G + o) :: rest)) := by subst hk; exact mm_cst C hM hS ho hT hin hnx hdg kk
theorem mm_zstk (C : mm_C G p s m args meth c own cc nL ret) (hM : mm_P G R N M H) (hS : va_S (mm_A G) s.heap H locs) (ho : o < N) {n : Nat} (hT : kT o = (9, n)) {i x : Int32} {k : Nat} (hin : vp_in i n) (hk : i.toNatClampNeg = k) (hnx : narrow .boolean (.int x) = .int x) (hdg : decode cc pc = .ok (.bastore, 1))
    (kk : ∀ (H1 : Heap) (locs1 : List Loc), mm_P G R N (sI M o k x) H1 → va_S (mm_A G) s.heap H1 locs1 → H1.size = H.size → W p l e Rm s m args below meth c H1 locs1 cells slots Q (F0 m (pc + 1) ls rest)) : W p l e Rm s m args below meth c H locs cells slots Q (F0 m pc ls (.int x :: .int i :: .ref (mm_lo G + o) :: rest)) := by subst hk; exact mm_zst C hM hS ho hT hin hnx hdg kk
end MMK
