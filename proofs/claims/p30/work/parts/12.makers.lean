theorem wObj1 : Cond.instanceMethod objectInit ∈ mm_good := mm_in 67 (by decide +kernel) (by decide +kernel)
theorem wObj2 : Cond.code objectInit ⟨#[0xb1]⟩ 1 none ∈ mm_good := mm_in 68 (by decide +kernel) (by decide +kernel)
abbrev rmX4_init : Room := { frames := 1, cells := 0, slots := 0, locals := 12 }
abbrev rmX0_init : Room := { frames := 1, cells := 2, slots := 203, locals := 12 }
abbrev rmX3_init : Room := { frames := 1, cells := 1, slots := 80, locals := 12 }
abbrev rmX5_init : Room := { frames := 2, cells := 65, slots := 3660, locals := 32 }
abbrev rmX2_init : Room := { frames := 3, cells := 463, slots := 25732, locals := 53 }
abbrev rmX6_init : Room := { frames := 4, cells := 730, slots := 40517, locals := 74 }
abbrev rmX7_init : Room := { frames := 1, cells := 8, slots := 36147, locals := 12 }
section CWD
variable {p : Program} {l : Launch} {e : Env} {Rm : Room} {s : State} {m : MethodId} {args : Array Value} {below : List Frame} {meth : Method} {c : Code} {H : Heap} {locs : List Loc} {cells slots : Nat} {Q : State → Prop}
variable {cc : ByteArray} {pc : Nat} {ls : Array Slot} {rest : List Value} {G : mm_G} {own : String} {nL : Nat} {ret : Option FieldType} {R : mm_R} {N : Nat} {M : mm_M} {o : Nat}
theorem na7 (C : mm_C G p s m args meth c own cc nL ret) (hz : H.size = mm_lo G + N) (hM : mm_P G R N M H) (hS : va_S (mm_A G) s.heap H locs) {k : Nat} {n : Int32} (hT : kT N = (7, k)) (hn : ¬ n < 0) (hN : n.toNatClampNeg = k) (hb : k * componentBytes .char ≤ 536870912) (hcells : cells + 1 ≤ Rm.cells) (hslots : slots + k ≤ Rm.slots) (hdg : decode cc pc = .ok (.newarray .char, 2)) (kk : ∀ H1 : Heap, mm_P G (zR R N) (N + 1) (zM M N) H1 → va_S (mm_A G) s.heap H1 locs → H1.size = mm_lo G + (N + 1) → W p l e Rm s m args below meth c H1 locs (cells + 1) (slots + k) Q (F0 m (pc + 2) ls (.ref (mm_lo G + N) :: rest))) : W p l e Rm s m args below meth c H locs cells slots Q (F0 m pc ls (.int n :: rest)) := mm_newa (ty := .char) (kk0 := 7) C hz hM hS rfl hT rfl (fun _ => rfl) rfl (fun _ _ h => h) hn hN hb (mm_in 308 (by decide +kernel) (by decide +kernel)) hcells hslots hdg kk
theorem na8 (C : mm_C G p s m args meth c own cc nL ret) (hz : H.size = mm_lo G + N) (hM : mm_P G R N M H) (hS : va_S (mm_A G) s.heap H locs) {k : Nat} {n : Int32} (hT : kT N = (8, k)) (hn : ¬ n < 0) (hN : n.toNatClampNeg = k) (hb : k * componentBytes .int ≤ 536870912) (hcells : cells + 1 ≤ Rm.cells) (hslots : slots + k ≤ Rm.slots) (hdg : decode cc pc = .ok (.newarray .int, 2)) (kk : ∀ H1 : Heap, mm_P G (zR R N) (N + 1) (zM M N) H1 → va_S (mm_A G) s.heap H1 locs → H1.size = mm_lo G + (N + 1) → W p l e Rm s m args below meth c H1 locs (cells + 1) (slots + k) Q (F0 m (pc + 2) ls (.ref (mm_lo G + N) :: rest))) : W p l e Rm s m args below meth c H locs cells slots Q (F0 m pc ls (.int n :: rest)) := mm_newa (ty := .int) (kk0 := 8) C hz hM hS rfl hT rfl (fun _ => rfl) rfl (fun _ _ h => h) hn hN hb (mm_in 109 (by decide +kernel) (by decide +kernel)) hcells hslots hdg kk
theorem na9 (C : mm_C G p s m args meth c own cc nL ret) (hz : H.size = mm_lo G + N) (hM : mm_P G R N M H) (hS : va_S (mm_A G) s.heap H locs) {k : Nat} {n : Int32} (hT : kT N = (9, k)) (hn : ¬ n < 0) (hN : n.toNatClampNeg = k) (hb : k * componentBytes .boolean ≤ 536870912) (hcells : cells + 1 ≤ Rm.cells) (hslots : slots + k ≤ Rm.slots) (hdg : decode cc pc = .ok (.newarray .boolean, 2)) (kk : ∀ H1 : Heap, mm_P G (zR R N) (N + 1) (zM M N) H1 → va_S (mm_A G) s.heap H1 locs → H1.size = mm_lo G + (N + 1) → W p l e Rm s m args below meth c H1 locs (cells + 1) (slots + k) Q (F0 m (pc + 2) ls (.ref (mm_lo G + N) :: rest))) : W p l e Rm s m args below meth c H locs cells slots Q (F0 m pc ls (.int n :: rest)) := mm_newa (ty := .boolean) (kk0 := 9) C hz hM hS rfl hT rfl (fun _ => rfl) rfl (fun _ _ h => h) hn hN hb (mm_in 769 (by decide +kernel) (by decide +kernel)) hcells hslots hdg kk
theorem iL_12 {w1 : mm_Ws} (C : mm_C G p s m args meth c RL cc nL ret) (hz : H.size = mm_lo G + N) (hM : mm_P G R N M H) (hS : va_S (mm_A G) s.heap H locs) (hcal : Met l yX7_init (mm_ws yX7_init cX7_init 1 none) rmX7_init (va_Pc [.ref (mm_lo G + o)] (mm_Bc G (R, N, M))) (mm_Qc G w1) 8 36147 (mm_A G)) (hl : ls.size = nL) (hroom : (rest.map fun v => v.category).sum ≤ 8) (hf : cells + 8 ≤ Rm.cells ∧ slots + 36147 ≤ Rm.slots) (hdg : decode cc pc = .ok (.invokespecial 12, 3)) (kk : ∀ (H1 : Heap) (locs1 : List Loc), mm_P G w1.1 w1.2.1 w1.2.2 H1 → va_S (mm_A G) s.heap H1 locs1 → H1.size = mm_lo G + w1.2.1 → W p l e Rm s m args below meth c H1 locs1 (cells + 8) (slots + 36147) Q (F0 m (pc + 3) ls rest)) (hfr : rmX7_init.frames + 1 ≤ Rm.frames := by exact Nat.le_of_ble_eq_true rfl) (hlo : 8 + (1 + 11) + rmX7_init.locals ≤ Rm.locals := by exact Nat.le_of_ble_eq_true rfl) : W p l e Rm s m args below meth c H locs cells slots Q (F0 m pc ls (.ref (mm_lo G + o) :: rest)) := mm_runI C hz hM hS hcal (mm_in 721 (by decide +kernel) (by decide +kernel)) (mm_in 57 (by decide +kernel) (by decide +kernel)) (mm_in 720 (by decide +kernel) (by decide +kernel)) rfl (by decide +kernel) rfl rfl ⟨hfr, hlo⟩ (Or.inl (mm_in 719 (by decide +kernel) (by decide +kernel))) hl hroom hf hdg kk
theorem iL_9 {w1 : mm_Ws} (C : mm_C G p s m args meth c RL cc nL ret) (hz : H.size = mm_lo G + N) (hM : mm_P G R N M H) (hS : va_S (mm_A G) s.heap H locs) (hcal : Met l yX6_init (mm_ws yX6_init cX6_init 1 none) rmX6_init (va_Pc [.ref (mm_lo G + o)] (mm_Bc G (R, N, M))) (mm_Qc G w1) 730 40517 (mm_A G)) (hl : ls.size = nL) (hroom : (rest.map fun v => v.category).sum ≤ 8) (hf : cells + 730 ≤ Rm.cells ∧ slots + 40517 ≤ Rm.slots) (hdg : decode cc pc = .ok (.invokespecial 9, 3)) (kk : ∀ (H1 : Heap) (locs1 : List Loc), mm_P G w1.1 w1.2.1 w1.2.2 H1 → va_S (mm_A G) s.heap H1 locs1 → H1.size = mm_lo G + w1.2.1 → W p l e Rm s m args below meth c H1 locs1 (cells + 730) (slots + 40517) Q (F0 m (pc + 3) ls rest)) (hfr : rmX6_init.frames + 1 ≤ Rm.frames := by exact Nat.le_of_ble_eq_true rfl) (hlo : 8 + (1 + 11) + rmX6_init.locals ≤ Rm.locals := by exact Nat.le_of_ble_eq_true rfl) : W p l e Rm s m args below meth c H locs cells slots Q (F0 m pc ls (.ref (mm_lo G + o) :: rest)) := mm_runI C hz hM hS hcal (mm_in 65 (by decide +kernel) (by decide +kernel)) (mm_in 51 (by decide +kernel) (by decide +kernel)) (mm_in 64 (by decide +kernel) (by decide +kernel)) rfl (by decide +kernel) rfl rfl ⟨hfr, hlo⟩ (Or.inl (mm_in 63 (by decide +kernel) (by decide +kernel))) hl hroom hf hdg kk
theorem iX2_17 {w1 : mm_Ws} (C : mm_C G p s m args meth c RX2 cc nL ret) (hz : H.size = mm_lo G + N) (hM : mm_P G R N M H) (hS : va_S (mm_A G) s.heap H locs) (hcal : Met l yX5_init (mm_ws yX5_init cX5_init 2 none) rmX5_init (va_Pc [.ref (mm_lo G + o)] (mm_Bc G (R, N, M))) (mm_Qc G w1) 65 3660 (mm_A G)) (hl : ls.size = nL) (hroom : (rest.map fun v => v.category).sum ≤ 8) (hf : cells + 65 ≤ Rm.cells ∧ slots + 3660 ≤ Rm.slots) (hdg : decode cc pc = .ok (.invokespecial 17, 3)) (kk : ∀ (H1 : Heap) (locs1 : List Loc), mm_P G w1.1 w1.2.1 w1.2.2 H1 → va_S (mm_A G) s.heap H1 locs1 → H1.size = mm_lo G + w1.2.1 → W p l e Rm s m args below meth c H1 locs1 (cells + 65) (slots + 3660) Q (F0 m (pc + 3) ls rest)) (hfr : rmX5_init.frames + 1 ≤ Rm.frames := by exact Nat.le_of_ble_eq_true rfl) (hlo : 8 + (2 + 11) + rmX5_init.locals ≤ Rm.locals := by exact Nat.le_of_ble_eq_true rfl) : W p l e Rm s m args below meth c H locs cells slots Q (F0 m pc ls (.ref (mm_lo G + o) :: rest)) := mm_runI C hz hM hS hcal (mm_in 73 (by decide +kernel) (by decide +kernel)) (mm_in 52 (by decide +kernel) (by decide +kernel)) (mm_in 72 (by decide +kernel) (by decide +kernel)) rfl (by decide +kernel) rfl rfl ⟨hfr, hlo⟩ (Or.inl (mm_in 282 (by decide +kernel) (by decide +kernel))) hl hroom hf hdg kk
theorem iX5_46 {w1 : mm_Ws} (C : mm_C G p s m args meth c RX5 cc nL ret) (hz : H.size = mm_lo G + N) (hM : mm_P G R N M H) (hS : va_S (mm_A G) s.heap H locs) (hcal : Met l yX4_init (mm_ws yX4_init cX4_init 1 none) rmX4_init (va_Pc [.ref (mm_lo G + o)] (mm_Bc G (R, N, M))) (mm_Qc G w1) 0 0 (mm_A G)) (hl : ls.size = nL) (hroom : (rest.map fun v => v.category).sum ≤ 8) (hf : cells + 0 ≤ Rm.cells ∧ slots + 0 ≤ Rm.slots) (hdg : decode cc pc = .ok (.invokespecial 46, 3)) (kk : ∀ (H1 : Heap) (locs1 : List Loc), mm_P G w1.1 w1.2.1 w1.2.2 H1 → va_S (mm_A G) s.heap H1 locs1 → H1.size = mm_lo G + w1.2.1 → W p l e Rm s m args below meth c H1 locs1 (cells + 0) (slots + 0) Q (F0 m (pc + 3) ls rest)) (hfr : rmX4_init.frames + 1 ≤ Rm.frames := by exact Nat.le_of_ble_eq_true rfl) (hlo : 8 + (1 + 11) + rmX4_init.locals ≤ Rm.locals := by exact Nat.le_of_ble_eq_true rfl) : W p l e Rm s m args below meth c H locs cells slots Q (F0 m pc ls (.ref (mm_lo G + o) :: rest)) := mm_runI C hz hM hS hcal (mm_in 84 (by decide +kernel) (by decide +kernel)) (mm_in 53 (by decide +kernel) (by decide +kernel)) (mm_in 83 (by decide +kernel) (by decide +kernel)) rfl (by decide +kernel) rfl rfl ⟨hfr, hlo⟩ (Or.inr ⟨"CartPitches", List.mem_of_getElem? (i := 82) (by decide +kernel)⟩) hl hroom hf hdg kk
theorem iX5_47 {w1 : mm_Ws} (C : mm_C G p s m args meth c RX5 cc nL ret) (hz : H.size = mm_lo G + N) (hM : mm_P G R N M H) (hS : va_S (mm_A G) s.heap H locs) (hcal : Met l yX0_init (mm_ws yX0_init cX0_init 1 none) rmX0_init (va_Pc [.ref (mm_lo G + o)] (mm_Bc G (R, N, M))) (mm_Qc G w1) 2 203 (mm_A G)) (hl : ls.size = nL) (hroom : (rest.map fun v => v.category).sum ≤ 8) (hf : cells + 2 ≤ Rm.cells ∧ slots + 203 ≤ Rm.slots) (hdg : decode cc pc = .ok (.invokespecial 47, 3)) (kk : ∀ (H1 : Heap) (locs1 : List Loc), mm_P G w1.1 w1.2.1 w1.2.2 H1 → va_S (mm_A G) s.heap H1 locs1 → H1.size = mm_lo G + w1.2.1 → W p l e Rm s m args below meth c H1 locs1 (cells + 2) (slots + 203) Q (F0 m (pc + 3) ls rest)) (hfr : rmX0_init.frames + 1 ≤ Rm.frames := by exact Nat.le_of_ble_eq_true rfl) (hlo : 8 + (1 + 11) + rmX0_init.locals ≤ Rm.locals := by exact Nat.le_of_ble_eq_true rfl) : W p l e Rm s m args below meth c H locs cells slots Q (F0 m pc ls (.ref (mm_lo G + o) :: rest)) := mm_runI C hz hM hS hcal (mm_in 113 (by decide +kernel) (by decide +kernel)) (mm_in 54 (by decide +kernel) (by decide +kernel)) (mm_in 112 (by decide +kernel) (by decide +kernel)) rfl (by decide +kernel) rfl rfl ⟨hfr, hlo⟩ (Or.inr ⟨"CartPitches", List.mem_of_getElem? (i := 111) (by decide +kernel)⟩) hl hroom hf hdg kk
theorem iX6_21 {w1 : mm_Ws} (C : mm_C G p s m args meth c RX6 cc nL ret) (hz : H.size = mm_lo G + N) (hM : mm_P G R N M H) (hS : va_S (mm_A G) s.heap H locs) (hcal : Met l yX2_init (mm_ws yX2_init cX2_init 2 none) rmX2_init (va_Pc [.ref (mm_lo G + o)] (mm_Bc G (R, N, M))) (mm_Qc G w1) 463 25732 (mm_A G)) (hl : ls.size = nL) (hroom : (rest.map fun v => v.category).sum ≤ 8) (hf : cells + 463 ≤ Rm.cells ∧ slots + 25732 ≤ Rm.slots) (hdg : decode cc pc = .ok (.invokespecial 21, 3)) (kk : ∀ (H1 : Heap) (locs1 : List Loc), mm_P G w1.1 w1.2.1 w1.2.2 H1 → va_S (mm_A G) s.heap H1 locs1 → H1.size = mm_lo G + w1.2.1 → W p l e Rm s m args below meth c H1 locs1 (cells + 463) (slots + 25732) Q (F0 m (pc + 3) ls rest)) (hfr : rmX2_init.frames + 1 ≤ Rm.frames := by exact Nat.le_of_ble_eq_true rfl) (hlo : 8 + (2 + 11) + rmX2_init.locals ≤ Rm.locals := by exact Nat.le_of_ble_eq_true rfl) : W p l e Rm s m args below meth c H locs cells slots Q (F0 m pc ls (.ref (mm_lo G + o) :: rest)) := mm_runI C hz hM hS hcal (mm_in 278 (by decide +kernel) (by decide +kernel)) (mm_in 55 (by decide +kernel) (by decide +kernel)) (mm_in 277 (by decide +kernel) (by decide +kernel)) rfl (by decide +kernel) rfl rfl ⟨hfr, hlo⟩ (Or.inl (mm_in 276 (by decide +kernel) (by decide +kernel))) hl hroom hf hdg kk
theorem iX6_34 {w1 : mm_Ws} (C : mm_C G p s m args meth c RX6 cc nL ret) (hz : H.size = mm_lo G + N) (hM : mm_P G R N M H) (hS : va_S (mm_A G) s.heap H locs) (hcal : Met l yX3_init (mm_ws yX3_init cX3_init 1 none) rmX3_init (va_Pc [.ref (mm_lo G + o)] (mm_Bc G (R, N, M))) (mm_Qc G w1) 1 80 (mm_A G)) (hl : ls.size = nL) (hroom : (rest.map fun v => v.category).sum ≤ 8) (hf : cells + 1 ≤ Rm.cells ∧ slots + 80 ≤ Rm.slots) (hdg : decode cc pc = .ok (.invokespecial 34, 3)) (kk : ∀ (H1 : Heap) (locs1 : List Loc), mm_P G w1.1 w1.2.1 w1.2.2 H1 → va_S (mm_A G) s.heap H1 locs1 → H1.size = mm_lo G + w1.2.1 → W p l e Rm s m args below meth c H1 locs1 (cells + 1) (slots + 80) Q (F0 m (pc + 3) ls rest)) (hfr : rmX3_init.frames + 1 ≤ Rm.frames := by exact Nat.le_of_ble_eq_true rfl) (hlo : 8 + (1 + 11) + rmX3_init.locals ≤ Rm.locals := by exact Nat.le_of_ble_eq_true rfl) : W p l e Rm s m args below meth c H locs cells slots Q (F0 m pc ls (.ref (mm_lo G + o) :: rest)) := mm_runI C hz hM hS hcal (mm_in 298 (by decide +kernel) (by decide +kernel)) (mm_in 56 (by decide +kernel) (by decide +kernel)) (mm_in 297 (by decide +kernel) (by decide +kernel)) rfl (by decide +kernel) rfl rfl ⟨hfr, hlo⟩ (Or.inr ⟨"CartPitches", List.mem_of_getElem? (i := 296) (by decide +kernel)⟩) hl hroom hf hdg kk
theorem iX6_9 {w1 : mm_Ws} (C : mm_C G p s m args meth c RX6 cc nL ret) (hz : H.size = mm_lo G + N) (hM : mm_P G R N M H) (hS : va_S (mm_A G) s.heap H locs) (hcal : Met l yX5_init (mm_ws yX5_init cX5_init 2 none) rmX5_init (va_Pc [.ref (mm_lo G + o)] (mm_Bc G (R, N, M))) (mm_Qc G w1) 65 3660 (mm_A G)) (hl : ls.size = nL) (hroom : (rest.map fun v => v.category).sum ≤ 8) (hf : cells + 65 ≤ Rm.cells ∧ slots + 3660 ≤ Rm.slots) (hdg : decode cc pc = .ok (.invokespecial 9, 3)) (kk : ∀ (H1 : Heap) (locs1 : List Loc), mm_P G w1.1 w1.2.1 w1.2.2 H1 → va_S (mm_A G) s.heap H1 locs1 → H1.size = mm_lo G + w1.2.1 → W p l e Rm s m args below meth c H1 locs1 (cells + 65) (slots + 3660) Q (F0 m (pc + 3) ls rest)) (hfr : rmX5_init.frames + 1 ≤ Rm.frames := by exact Nat.le_of_ble_eq_true rfl) (hlo : 8 + (2 + 11) + rmX5_init.locals ≤ Rm.locals := by exact Nat.le_of_ble_eq_true rfl) : W p l e Rm s m args below meth c H locs cells slots Q (F0 m pc ls (.ref (mm_lo G + o) :: rest)) := mm_runI C hz hM hS hcal (mm_in 73 (by decide +kernel) (by decide +kernel)) (mm_in 52 (by decide +kernel) (by decide +kernel)) (mm_in 72 (by decide +kernel) (by decide +kernel)) rfl (by decide +kernel) rfl rfl ⟨hfr, hlo⟩ (Or.inl (mm_in 71 (by decide +kernel) (by decide +kernel))) hl hroom hf hdg kk
theorem nL_10 (C : mm_C G p s m args meth c RL cc nL ret) (hz : H.size = mm_lo G + N) (hM : mm_P G R N M H) (hS : va_S (mm_A G) s.heap H locs) (hT : kT N = (6, 0)) (hcells : cells + 1 ≤ Rm.cells) (hslots : slots + 15 ≤ Rm.slots) (hdg : decode cc pc = .ok (.new 10, 3)) (kk : ∀ H1 : Heap, mm_P G (zR R N) (N + 1) (zM M N) H1 → va_S (mm_A G) s.heap H1 locs → H1.size = mm_lo G + (N + 1) → W p l e Rm s m args below meth c H1 locs (cells + 1) (slots + 15) Q (F0 m (pc + 3) ls (.ref (mm_lo G + N) :: rest))) : W p l e Rm s m args below meth c H locs cells slots Q (F0 m pc ls rest) := mm_new C hz hM hS hT (Cn := RX7) (T := TX7) (Nf := 15) rfl inX7 tyX7 tyX7_ok (mm_in 717 (by decide +kernel) (by decide +kernel)) (mm_in 718 (by decide +kernel) (by decide +kernel)) (mm_in 57 (by decide +kernel) (by decide +kernel)) (fs := [.null, .null, .int 0, .null, .null, .null, .null, .int 0, .int 0, .int 0, .int 0, .int 0, .int 0, .null, .null]) rfl (fun j hj => match j, hj with | 0, _ => rfl | 1, _ => rfl | 2, _ => rfl | 3, _ => rfl | 4, _ => rfl | 5, _ => rfl | 6, _ => rfl | 7, _ => rfl | 8, _ => rfl | 9, _ => rfl | 10, _ => rfl | 11, _ => rfl | 12, _ => rfl | 13, _ => rfl | 14, _ => rfl | j + 15, h => absurd h (by omega)) hcells hslots hdg kk
theorem nL_7 (C : mm_C G p s m args meth c RL cc nL ret) (hz : H.size = mm_lo G + N) (hM : mm_P G R N M H) (hS : va_S (mm_A G) s.heap H locs) (hT : kT N = (5, 0)) (hcells : cells + 1 ≤ Rm.cells) (hslots : slots + 6 ≤ Rm.slots) (hdg : decode cc pc = .ok (.new 7, 3)) (kk : ∀ H1 : Heap, mm_P G (zR R N) (N + 1) (zM M N) H1 → va_S (mm_A G) s.heap H1 locs → H1.size = mm_lo G + (N + 1) → W p l e Rm s m args below meth c H1 locs (cells + 1) (slots + 6) Q (F0 m (pc + 3) ls (.ref (mm_lo G + N) :: rest))) : W p l e Rm s m args below meth c H locs cells slots Q (F0 m pc ls rest) := mm_new C hz hM hS hT (Cn := RX6) (T := TX6) (Nf := 6) rfl inX6 tyX6 tyX6_ok (mm_in 61 (by decide +kernel) (by decide +kernel)) (mm_in 62 (by decide +kernel) (by decide +kernel)) (mm_in 51 (by decide +kernel) (by decide +kernel)) (fs := [.null, .null, .null, .null, .null, .null]) rfl (fun j hj => match j, hj with | 0, _ => rfl | 1, _ => rfl | 2, _ => rfl | 3, _ => rfl | 4, _ => rfl | 5, _ => rfl | j + 6, h => absurd h (by omega)) hcells hslots hdg kk
theorem nX2_11 (C : mm_C G p s m args meth c RX2 cc nL ret) (hz : H.size = mm_lo G + N) (hM : mm_P G R N M H) (hS : va_S (mm_A G) s.heap H locs) (hT : kT N = (4, 0)) (hcells : cells + 1 ≤ Rm.cells) (hslots : slots + 15 ≤ Rm.slots) (hdg : decode cc pc = .ok (.new 11, 3)) (kk : ∀ H1 : Heap, mm_P G (zR R N) (N + 1) (zM M N) H1 → va_S (mm_A G) s.heap H1 locs → H1.size = mm_lo G + (N + 1) → W p l e Rm s m args below meth c H1 locs (cells + 1) (slots + 15) Q (F0 m (pc + 3) ls (.ref (mm_lo G + N) :: rest))) : W p l e Rm s m args below meth c H locs cells slots Q (F0 m pc ls rest) := mm_new C hz hM hS hT (Cn := RX5) (T := TX5) (Nf := 15) rfl inX5 tyX5 tyX5_ok (mm_in 280 (by decide +kernel) (by decide +kernel)) (mm_in 70 (by decide +kernel) (by decide +kernel)) (mm_in 52 (by decide +kernel) (by decide +kernel)) (fs := [.int 0, .int 0, .int 0, .int 0, .int 0, .int 0, .int 0, .null, .null, .null, .null, .null, .null, .null, .int 0]) rfl (fun j hj => match j, hj with | 0, _ => rfl | 1, _ => rfl | 2, _ => rfl | 3, _ => rfl | 4, _ => rfl | 5, _ => rfl | 6, _ => rfl | 7, _ => rfl | 8, _ => rfl | 9, _ => rfl | 10, _ => rfl | 11, _ => rfl | 12, _ => rfl | 13, _ => rfl | 14, _ => rfl | j + 15, h => absurd h (by omega)) hcells hslots hdg kk
theorem nX5_19 (C : mm_C G p s m args meth c RX5 cc nL ret) (hz : H.size = mm_lo G + N) (hM : mm_P G R N M H) (hS : va_S (mm_A G) s.heap H locs) (hT : kT N = (3, 0)) (hcells : cells + 1 ≤ Rm.cells) (hslots : slots + 4 ≤ Rm.slots) (hdg : decode cc pc = .ok (.new 19, 3)) (kk : ∀ H1 : Heap, mm_P G (zR R N) (N + 1) (zM M N) H1 → va_S (mm_A G) s.heap H1 locs → H1.size = mm_lo G + (N + 1) → W p l e Rm s m args below meth c H1 locs (cells + 1) (slots + 4) Q (F0 m (pc + 3) ls (.ref (mm_lo G + N) :: rest))) : W p l e Rm s m args below meth c H locs cells slots Q (F0 m pc ls rest) := mm_new C hz hM hS hT (Cn := RX4) (T := TX4) (Nf := 4) rfl inX4 tyX4 tyX4_ok (mm_in 75 (by decide +kernel) (by decide +kernel)) (mm_in 81 (by decide +kernel) (by decide +kernel)) (mm_in 53 (by decide +kernel) (by decide +kernel)) (fs := [.int 0, .int 0, .int 0, .int 0]) rfl (fun j hj => match j, hj with | 0, _ => rfl | 1, _ => rfl | 2, _ => rfl | 3, _ => rfl | j + 4, h => absurd h (by omega)) hcells hslots hdg kk
theorem nX5_25 (C : mm_C G p s m args meth c RX5 cc nL ret) (hz : H.size = mm_lo G + N) (hM : mm_P G R N M H) (hS : va_S (mm_A G) s.heap H locs) (hT : kT N = (0, 0)) (hcells : cells + 1 ≤ Rm.cells) (hslots : slots + 18 ≤ Rm.slots) (hdg : decode cc pc = .ok (.new 25, 3)) (kk : ∀ H1 : Heap, mm_P G (zR R N) (N + 1) (zM M N) H1 → va_S (mm_A G) s.heap H1 locs → H1.size = mm_lo G + (N + 1) → W p l e Rm s m args below meth c H1 locs (cells + 1) (slots + 18) Q (F0 m (pc + 3) ls (.ref (mm_lo G + N) :: rest))) : W p l e Rm s m args below meth c H locs cells slots Q (F0 m pc ls rest) := mm_new C hz hM hS hT (Cn := RX0) (T := TX0) (Nf := 18) rfl inX0 tyX0 tyX0_ok (mm_in 77 (by decide +kernel) (by decide +kernel)) (mm_in 110 (by decide +kernel) (by decide +kernel)) (mm_in 54 (by decide +kernel) (by decide +kernel)) (fs := [.int 0, .int 0, .int 0, .int 0, .int 0, .int 0, .int 0, .int 0, .int 0, .int 0, .int 0, .int 0, .long 0, .long 0, .long 0, .long 0, .null, .null]) rfl (fun j hj => match j, hj with | 0, _ => rfl | 1, _ => rfl | 2, _ => rfl | 3, _ => rfl | 4, _ => rfl | 5, _ => rfl | 6, _ => rfl | 7, _ => rfl | 8, _ => rfl | 9, _ => rfl | 10, _ => rfl | 11, _ => rfl | 12, _ => rfl | 13, _ => rfl | 14, _ => rfl | 15, _ => rfl | 16, _ => rfl | 17, _ => rfl | j + 18, h => absurd h (by omega)) hcells hslots hdg kk
theorem nX6_19 (C : mm_C G p s m args meth c RX6 cc nL ret) (hz : H.size = mm_lo G + N) (hM : mm_P G R N M H) (hS : va_S (mm_A G) s.heap H locs) (hT : kT N = (1, 0)) (hcells : cells + 1 ≤ Rm.cells) (hslots : slots + 3 ≤ Rm.slots) (hdg : decode cc pc = .ok (.new 19, 3)) (kk : ∀ H1 : Heap, mm_P G (zR R N) (N + 1) (zM M N) H1 → va_S (mm_A G) s.heap H1 locs → H1.size = mm_lo G + (N + 1) → W p l e Rm s m args below meth c H1 locs (cells + 1) (slots + 3) Q (F0 m (pc + 3) ls (.ref (mm_lo G + N) :: rest))) : W p l e Rm s m args below meth c H locs cells slots Q (F0 m pc ls rest) := mm_new C hz hM hS hT (Cn := RX2) (T := TX2) (Nf := 3) rfl inX2 tyX2 tyX2_ok (mm_in 274 (by decide +kernel) (by decide +kernel)) (mm_in 275 (by decide +kernel) (by decide +kernel)) (mm_in 55 (by decide +kernel) (by decide +kernel)) (fs := [.null, .int 0, .int 0]) rfl (fun j hj => match j, hj with | 0, _ => rfl | 1, _ => rfl | 2, _ => rfl | j + 3, h => absurd h (by omega)) hcells hslots hdg kk
theorem nX6_32 (C : mm_C G p s m args meth c RX6 cc nL ret) (hz : H.size = mm_lo G + N) (hM : mm_P G R N M H) (hS : va_S (mm_A G) s.heap H locs) (hT : kT N = (2, 0)) (hcells : cells + 1 ≤ Rm.cells) (hslots : slots + 2 ≤ Rm.slots) (hdg : decode cc pc = .ok (.new 32, 3)) (kk : ∀ H1 : Heap, mm_P G (zR R N) (N + 1) (zM M N) H1 → va_S (mm_A G) s.heap H1 locs → H1.size = mm_lo G + (N + 1) → W p l e Rm s m args below meth c H1 locs (cells + 1) (slots + 2) Q (F0 m (pc + 3) ls (.ref (mm_lo G + N) :: rest))) : W p l e Rm s m args below meth c H locs cells slots Q (F0 m pc ls rest) := mm_new C hz hM hS hT (Cn := RX3) (T := TX3) (Nf := 2) rfl inX3 tyX3 tyX3_ok (mm_in 294 (by decide +kernel) (by decide +kernel)) (mm_in 295 (by decide +kernel) (by decide +kernel)) (mm_in 56 (by decide +kernel) (by decide +kernel)) (fs := [.null, .int 0]) rfl (fun j hj => match j, hj with | 0, _ => rfl | 1, _ => rfl | j + 2, h => absurd h (by omega)) hcells hslots hdg kk
theorem nX6_7 (C : mm_C G p s m args meth c RX6 cc nL ret) (hz : H.size = mm_lo G + N) (hM : mm_P G R N M H) (hS : va_S (mm_A G) s.heap H locs) (hT : kT N = (4, 0)) (hcells : cells + 1 ≤ Rm.cells) (hslots : slots + 15 ≤ Rm.slots) (hdg : decode cc pc = .ok (.new 7, 3)) (kk : ∀ H1 : Heap, mm_P G (zR R N) (N + 1) (zM M N) H1 → va_S (mm_A G) s.heap H1 locs → H1.size = mm_lo G + (N + 1) → W p l e Rm s m args below meth c H1 locs (cells + 1) (slots + 15) Q (F0 m (pc + 3) ls (.ref (mm_lo G + N) :: rest))) : W p l e Rm s m args below meth c H locs cells slots Q (F0 m pc ls rest) := mm_new C hz hM hS hT (Cn := RX5) (T := TX5) (Nf := 15) rfl inX5 tyX5 tyX5_ok (mm_in 69 (by decide +kernel) (by decide +kernel)) (mm_in 70 (by decide +kernel) (by decide +kernel)) (mm_in 52 (by decide +kernel) (by decide +kernel)) (fs := [.int 0, .int 0, .int 0, .int 0, .int 0, .int 0, .int 0, .null, .null, .null, .null, .null, .null, .null, .int 0]) rfl (fun j hj => match j, hj with | 0, _ => rfl | 1, _ => rfl | 2, _ => rfl | 3, _ => rfl | 4, _ => rfl | 5, _ => rfl | 6, _ => rfl | 7, _ => rfl | 8, _ => rfl | 9, _ => rfl | 10, _ => rfl | 11, _ => rfl | 12, _ => rfl | 13, _ => rfl | 14, _ => rfl | j + 15, h => absurd h (by omega)) hcells hslots hdg kk
theorem oX0_3 : Cond.methodLink RX0 3 objectInit ∈ mm_good := mm_in 114 (by decide +kernel) (by decide +kernel)
theorem oX2_3 : Cond.methodLink RX2 3 objectInit ∈ mm_good := mm_in 279 (by decide +kernel) (by decide +kernel)
theorem oX3_3 : Cond.methodLink RX3 3 objectInit ∈ mm_good := mm_in 299 (by decide +kernel) (by decide +kernel)
theorem oX4_3 : Cond.methodLink RX4 3 objectInit ∈ mm_good := mm_in 85 (by decide +kernel) (by decide +kernel)
theorem oX5_3 : Cond.methodLink RX5 3 objectInit ∈ mm_good := mm_in 74 (by decide +kernel) (by decide +kernel)
theorem oX6_1 : Cond.methodLink RX6 1 objectInit ∈ mm_good := mm_in 66 (by decide +kernel) (by decide +kernel)
theorem oX7_1 : Cond.methodLink RX7 1 objectInit ∈ mm_good := mm_in 722 (by decide +kernel) (by decide +kernel)
theorem nqX2_11 (C : mm_C G p s m args meth c RX2 cc nL ret) (hz : H.size = mm_lo G + N) (hM : mm_P G R N M H) (hS : va_S (mm_A G) s.heap H locs) {k : Nat} {n : Int32} (hT : kT N = (12, k)) (hn : ¬ n < 0) (hN : n.toNatClampNeg = k) (hb : k * 4 ≤ 536870912) (hcells : cells + 1 ≤ Rm.cells) (hslots : slots + k ≤ Rm.slots) (hdg : decode cc pc = .ok (.anewarray 11, 3)) (kk : ∀ H1 : Heap, mm_P G (zR R N) (N + 1) (zM M N) H1 → va_S (mm_A G) s.heap H1 locs → H1.size = mm_lo G + (N + 1) → W p l e Rm s m args below meth c H1 locs (cells + 1) (slots + k) Q (F0 m (pc + 3) ls (.ref (mm_lo G + N) :: rest))) : W p l e Rm s m args below meth c H locs cells slots Q (F0 m pc ls (.int n :: rest)) := mm_newq (Cn := "CartPitches$State") (kk0 := 12) C hz hM hS hT rfl rfl hn hN hb (mm_in 280 (by decide +kernel) (by decide +kernel)) (List.mem_of_getElem? (i := 281) (by decide +kernel)) hcells hslots hdg kk
theorem nqX5_19 (C : mm_C G p s m args meth c RX5 cc nL ret) (hz : H.size = mm_lo G + N) (hM : mm_P G R N M H) (hS : va_S (mm_A G) s.heap H locs) {k : Nat} {n : Int32} (hT : kT N = (11, k)) (hn : ¬ n < 0) (hN : n.toNatClampNeg = k) (hb : k * 4 ≤ 536870912) (hcells : cells + 1 ≤ Rm.cells) (hslots : slots + k ≤ Rm.slots) (hdg : decode cc pc = .ok (.anewarray 19, 3)) (kk : ∀ H1 : Heap, mm_P G (zR R N) (N + 1) (zM M N) H1 → va_S (mm_A G) s.heap H1 locs → H1.size = mm_lo G + (N + 1) → W p l e Rm s m args below meth c H1 locs (cells + 1) (slots + k) Q (F0 m (pc + 3) ls (.ref (mm_lo G + N) :: rest))) : W p l e Rm s m args below meth c H locs cells slots Q (F0 m pc ls (.int n :: rest)) := mm_newq (Cn := "CartPitches$Pitch") (kk0 := 11) C hz hM hS hT rfl rfl hn hN hb (mm_in 75 (by decide +kernel) (by decide +kernel)) (List.mem_of_getElem? (i := 76) (by decide +kernel)) hcells hslots hdg kk
theorem nqX5_25 (C : mm_C G p s m args meth c RX5 cc nL ret) (hz : H.size = mm_lo G + N) (hM : mm_P G R N M H) (hS : va_S (mm_A G) s.heap H locs) {k : Nat} {n : Int32} (hT : kT N = (10, k)) (hn : ¬ n < 0) (hN : n.toNatClampNeg = k) (hb : k * 4 ≤ 536870912) (hcells : cells + 1 ≤ Rm.cells) (hslots : slots + k ≤ Rm.slots) (hdg : decode cc pc = .ok (.anewarray 25, 3)) (kk : ∀ H1 : Heap, mm_P G (zR R N) (N + 1) (zM M N) H1 → va_S (mm_A G) s.heap H1 locs → H1.size = mm_lo G + (N + 1) → W p l e Rm s m args below meth c H1 locs (cells + 1) (slots + k) Q (F0 m (pc + 3) ls (.ref (mm_lo G + N) :: rest))) : W p l e Rm s m args below meth c H locs cells slots Q (F0 m pc ls (.int n :: rest)) := mm_newq (Cn := "CartPitches$Cart") (kk0 := 10) C hz hM hS hT rfl rfl hn hN hb (mm_in 77 (by decide +kernel) (by decide +kernel)) (List.mem_of_getElem? (i := 78) (by decide +kernel)) hcells hslots hdg kk
end CWD
def fX4_init (R : mm_R) (N Z : Nat) (M : mm_M) (a0 : Nat) (NB ZB : Nat) : Option (mm_R × mm_M) :=
  gd (N = NB ∧ Z = ZB) <|
  some (R, M)

def fX0_init (R : mm_R) (N Z : Nat) (M : mm_M) (a0 : Nat) (NB ZB : Nat) : Option (mm_R × mm_M) :=
  gd (kT N = (8, 3) ∧ N < NB ∧ Z + 3 ≤ ZB) <|
  lt (zR R N) fun R2 =>
  lt (zM M N) fun M3 =>
  lt (N + 1) fun N4 =>
  lt (Z + 3) fun Z7 =>
  lt (sR R2 a0 16 (some N)) fun R8 =>
  gd (kT N4 = (8, 200) ∧ N4 < NB ∧ Z7 + 200 ≤ ZB) <|
  lt (zR R8 N4) fun R10 =>
  lt (zM M3 N4) fun M11 =>
  lt (N4 + 1) fun N12 =>
  lt (Z7 + 200) fun Z15 =>
  lt (sR R10 a0 17 (some N4)) fun R16 =>
  gd (N12 = NB ∧ Z15 = ZB) <|
  some (R16, M11)

def fX3_init (R : mm_R) (N Z : Nat) (M : mm_M) (a0 : Nat) (NB ZB : Nat) : Option (mm_R × mm_M) :=
  gd (kT N = (7, 80) ∧ N < NB ∧ Z + 80 ≤ ZB) <|
  lt (zR R N) fun R2 =>
  lt (zM M N) fun M3 =>
  lt (N + 1) fun N4 =>
  lt (Z + 80) fun Z7 =>
  lt (sR R2 a0 0 (some N)) fun R8 =>
  gd (N4 = NB ∧ Z7 = ZB) <|
  some (R8, M3)

def fX5_init_121 (a0 : Nat) (NB ZB : Nat) : Nat → mm_R → Nat → Nat → mm_M → Int32 → Option (mm_R × mm_M)
  | 0, _, _, _, _, _ => none
  | n + 1, R, N, Z, M, v1 =>
    if 16 ≤ v1 then
      gd (N = NB ∧ Z = ZB) <|
      some (R, M)
    else
      gd (R a0 9 = some (a0 + 3) ∧ (a0 + 3) < N) <|
      gd (kT N = (0, 0) ∧ N < NB ∧ Z + 18 ≤ ZB) <|
      lt (zR R N) fun R4 =>
      lt (zM M N) fun M5 =>
      lt (N + 1) fun N6 =>
      lt (Z + 18) fun Z10 =>
      gd (N6 + 2 ≤ NB ∧ Z10 + 203 ≤ ZB) <|
      bn2 (fX0_init R4 N6 Z10 M5 N (N6 + 2) (Z10 + 203)) fun R13 M14 =>
      lt (N6 + 2) fun N15 =>
      lt (Z10 + 203) fun Z19 =>
      gd (¬ (v1 < 0 ∨ 16 ≤ v1.toNatClampNeg)) <|
      lt (sR R13 (a0 + 3) v1.toNatClampNeg (some N)) fun R21 =>
      lt (v1 + 1) fun y22 =>
      fX5_init_121 a0 NB ZB n R21 N15 Z19 M14 y22

def fX5_init_94 (a0 : Nat) (NB ZB : Nat) : Nat → mm_R → Nat → Nat → mm_M → Int32 → Option (mm_R × mm_M)
  | 0, _, _, _, _, _ => none
  | n + 1, R, N, Z, M, v1 =>
    if 10 ≤ v1 then
      fX5_init_121 a0 NB ZB FU R N Z M 0
    else
      gd (R a0 8 = some (a0 + 2) ∧ (a0 + 2) < N) <|
      gd (kT N = (3, 0) ∧ N < NB ∧ Z + 4 ≤ ZB) <|
      lt (zR R N) fun R4 =>
      lt (zM M N) fun M5 =>
      lt (N + 1) fun N6 =>
      lt (Z + 4) fun Z10 =>
      gd (N6 + 0 ≤ NB ∧ Z10 + 0 ≤ ZB) <|
      bn2 (fX4_init R4 N6 Z10 M5 N (N6 + 0) (Z10 + 0)) fun R13 M14 =>
      lt (N6 + 0) fun N15 =>
      lt (Z10 + 0) fun Z19 =>
      gd (¬ (v1 < 0 ∨ 10 ≤ v1.toNatClampNeg)) <|
      lt (sR R13 (a0 + 2) v1.toNatClampNeg (some N)) fun R21 =>
      lt (v1 + 1) fun y22 =>
      fX5_init_94 a0 NB ZB n R21 N15 Z19 M14 y22

def fX5_init_69 (a0 : Nat) (NB ZB : Nat) : Nat → mm_R → Nat → Nat → mm_M → Int32 → Option (mm_R × mm_M)
  | 0, _, _, _, _, _ => none
  | n + 1, R, N, Z, M, v1 =>
    if 10 ≤ v1 then
      fX5_init_94 a0 NB ZB FU R N Z M 0
    else
      gd (R a0 7 = some (a0 + 1) ∧ (a0 + 1) < N) <|
      gd (¬ (v1 < 0 ∨ 10 ≤ v1.toNatClampNeg)) <|
      lt (sI M (a0 + 1) v1.toNatClampNeg (mm_f0 v1.toNatClampNeg)) fun M4 =>
      lt (v1 + 1) fun y5 =>
      fX5_init_69 a0 NB ZB n R N Z M4 y5

def fX5_init (R : mm_R) (N Z : Nat) (M : mm_M) (a0 : Nat) (NB ZB : Nat) : Option (mm_R × mm_M) :=
  lt (sI M a0 1 1) fun M1 =>
  gd (kT N = (8, 10) ∧ N < NB ∧ Z + 10 ≤ ZB) <|
  lt (zR R N) fun R3 =>
  lt (zM M1 N) fun M4 =>
  lt (N + 1) fun N5 =>
  lt (Z + 10) fun Z8 =>
  lt (sR R3 a0 7 (some N)) fun R9 =>
  gd (kT N5 = (11, 10) ∧ N5 < NB ∧ Z8 + 10 ≤ ZB) <|
  lt (zR R9 N5) fun R11 =>
  lt (zM M4 N5) fun M12 =>
  lt (N5 + 1) fun N13 =>
  lt (Z8 + 10) fun Z16 =>
  lt (sR R11 a0 8 (some N5)) fun R17 =>
  gd (kT N13 = (10, 16) ∧ N13 < NB ∧ Z16 + 16 ≤ ZB) <|
  lt (zR R17 N13) fun R19 =>
  lt (zM M12 N13) fun M20 =>
  lt (N13 + 1) fun N21 =>
  lt (Z16 + 16) fun Z24 =>
  lt (sR R19 a0 9 (some N13)) fun R25 =>
  gd (kT N21 = (8, 8) ∧ N21 < NB ∧ Z24 + 8 ≤ ZB) <|
  lt (zR R25 N21) fun R27 =>
  lt (zM M20 N21) fun M28 =>
  lt (N21 + 1) fun N29 =>
  lt (Z24 + 8) fun Z32 =>
  lt (sR R27 a0 10 (some N21)) fun R33 =>
  gd (kT N29 = (8, 8) ∧ N29 < NB ∧ Z32 + 8 ≤ ZB) <|
  lt (zR R33 N29) fun R35 =>
  lt (zM M28 N29) fun M36 =>
  lt (N29 + 1) fun N37 =>
  lt (Z32 + 8) fun Z40 =>
  lt (sR R35 a0 11 (some N29)) fun R41 =>
  gd (kT N37 = (8, 16) ∧ N37 < NB ∧ Z40 + 16 ≤ ZB) <|
  lt (zR R41 N37) fun R43 =>
  lt (zM M36 N37) fun M44 =>
  lt (N37 + 1) fun N45 =>
  lt (Z40 + 16) fun Z48 =>
  lt (sR R43 a0 12 (some N37)) fun R49 =>
  gd (kT N45 = (8, 16) ∧ N45 < NB ∧ Z48 + 16 ≤ ZB) <|
  lt (zR R49 N45) fun R51 =>
  lt (zM M44 N45) fun M52 =>
  lt (N45 + 1) fun N53 =>
  lt (Z48 + 16) fun Z56 =>
  lt (sR R51 a0 13 (some N45)) fun R57 =>
  fX5_init_69 a0 NB ZB FU R57 N53 Z56 M52 0

def fX2_init_15 (a0 : Nat) (NB ZB : Nat) : Nat → mm_R → Nat → Nat → mm_M → Int32 → Option (mm_R × mm_M)
  | 0, _, _, _, _, _ => none
  | n + 1, R, N, Z, M, v1 =>
    if 7 ≤ v1 then
      gd (N = NB ∧ Z = ZB) <|
      some (R, M)
    else
      gd (R a0 0 = some (a0 + 1) ∧ (a0 + 1) < N) <|
      gd (kT N = (4, 0) ∧ N < NB ∧ Z + 15 ≤ ZB) <|
      lt (zR R N) fun R4 =>
      lt (zM M N) fun M5 =>
      lt (N + 1) fun N6 =>
      lt (Z + 15) fun Z10 =>
      gd (N6 + 65 ≤ NB ∧ Z10 + 3660 ≤ ZB) <|
      bn2 (fX5_init R4 N6 Z10 M5 N (N6 + 65) (Z10 + 3660)) fun R13 M14 =>
      lt (N6 + 65) fun N15 =>
      lt (Z10 + 3660) fun Z19 =>
      gd (¬ (v1 < 0 ∨ 7 ≤ v1.toNatClampNeg)) <|
      lt (sR R13 (a0 + 1) v1.toNatClampNeg (some N)) fun R21 =>
      lt (v1 + 1) fun y22 =>
      fX2_init_15 a0 NB ZB n R21 N15 Z19 M14 y22

def fX2_init (R : mm_R) (N Z : Nat) (M : mm_M) (a0 : Nat) (NB ZB : Nat) : Option (mm_R × mm_M) :=
  gd (kT N = (12, 7) ∧ N < NB ∧ Z + 7 ≤ ZB) <|
  lt (zR R N) fun R2 =>
  lt (zM M N) fun M3 =>
  lt (N + 1) fun N4 =>
  lt (Z + 7) fun Z7 =>
  lt (sR R2 a0 0 (some N)) fun R8 =>
  fX2_init_15 a0 NB ZB FU R8 N4 Z7 M3 0

def fX6_init (R : mm_R) (N Z : Nat) (M : mm_M) (NB ZB : Nat) : Option (mm_R × mm_M) :=
  gd (kT N = (4, 0) ∧ N < NB ∧ Z + 15 ≤ ZB) <|
  lt (zR R N) fun R2 =>
  lt (zM M N) fun M3 =>
  lt (N + 1) fun N4 =>
  lt (Z + 15) fun Z7 =>
  gd (N4 + 65 ≤ NB ∧ Z7 + 3660 ≤ ZB) <|
  bn2 (fX5_init R2 N4 Z7 M3 N (N4 + 65) (Z7 + 3660)) fun R10 M11 =>
  lt (N4 + 65) fun N12 =>
  lt (Z7 + 3660) fun Z15 =>
  lt (sR R10 0 0 (some N)) fun R16 =>
  gd (kT N12 = (4, 0) ∧ N12 < NB ∧ Z15 + 15 ≤ ZB) <|
  lt (zR R16 N12) fun R18 =>
  lt (zM M11 N12) fun M19 =>
  lt (N12 + 1) fun N20 =>
  lt (Z15 + 15) fun Z23 =>
  gd (N20 + 65 ≤ NB ∧ Z23 + 3660 ≤ ZB) <|
  bn2 (fX5_init R18 N20 Z23 M19 N12 (N20 + 65) (Z23 + 3660)) fun R26 M27 =>
  lt (N20 + 65) fun N28 =>
  lt (Z23 + 3660) fun Z31 =>
  lt (sR R26 0 1 (some N12)) fun R32 =>
  gd (kT N28 = (1, 0) ∧ N28 < NB ∧ Z31 + 3 ≤ ZB) <|
  lt (zR R32 N28) fun R34 =>
  lt (zM M27 N28) fun M35 =>
  lt (N28 + 1) fun N36 =>
  lt (Z31 + 3) fun Z39 =>
  gd (N36 + 463 ≤ NB ∧ Z39 + 25732 ≤ ZB) <|
  bn2 (fX2_init R34 N36 Z39 M35 N28 (N36 + 463) (Z39 + 25732)) fun R42 M43 =>
  lt (N36 + 463) fun N44 =>
  lt (Z39 + 25732) fun Z47 =>
  lt (sR R42 0 2 (some N28)) fun R48 =>
  gd (kT N44 = (4, 0) ∧ N44 < NB ∧ Z47 + 15 ≤ ZB) <|
  lt (zR R48 N44) fun R50 =>
  lt (zM M43 N44) fun M51 =>
  lt (N44 + 1) fun N52 =>
  lt (Z47 + 15) fun Z55 =>
  gd (N52 + 65 ≤ NB ∧ Z55 + 3660 ≤ ZB) <|
  bn2 (fX5_init R50 N52 Z55 M51 N44 (N52 + 65) (Z55 + 3660)) fun R58 M59 =>
  lt (N52 + 65) fun N60 =>
  lt (Z55 + 3660) fun Z63 =>
  lt (sR R58 0 3 (some N44)) fun R64 =>
  gd (kT N60 = (4, 0) ∧ N60 < NB ∧ Z63 + 15 ≤ ZB) <|
  lt (zR R64 N60) fun R66 =>
  lt (zM M59 N60) fun M67 =>
  lt (N60 + 1) fun N68 =>
  lt (Z63 + 15) fun Z71 =>
  gd (N68 + 65 ≤ NB ∧ Z71 + 3660 ≤ ZB) <|
  bn2 (fX5_init R66 N68 Z71 M67 N60 (N68 + 65) (Z71 + 3660)) fun R74 M75 =>
  lt (N68 + 65) fun N76 =>
  lt (Z71 + 3660) fun Z79 =>
  lt (sR R74 0 4 (some N60)) fun R80 =>
  gd (kT N76 = (2, 0) ∧ N76 < NB ∧ Z79 + 2 ≤ ZB) <|
  lt (zR R80 N76) fun R82 =>
  lt (zM M75 N76) fun M83 =>
  lt (N76 + 1) fun N84 =>
  lt (Z79 + 2) fun Z87 =>
  gd (N84 + 1 ≤ NB ∧ Z87 + 80 ≤ ZB) <|
  bn2 (fX3_init R82 N84 Z87 M83 N76 (N84 + 1) (Z87 + 80)) fun R90 M91 =>
  lt (N84 + 1) fun N92 =>
  lt (Z87 + 80) fun Z95 =>
  lt (sR R90 0 5 (some N76)) fun R96 =>
  gd (N92 = NB ∧ Z95 = ZB) <|
  some (R96, M91)

def fX7_init (R : mm_R) (N Z : Nat) (M : mm_M) (NB ZB : Nat) : Option (mm_R × mm_M) :=
  gd (kT N = (8, 3592) ∧ N < NB ∧ Z + 3592 ≤ ZB) <|
  lt (zR R N) fun R2 =>
  lt (zM M N) fun M3 =>
  lt (N + 1) fun N4 =>
  lt (Z + 3592) fun Z7 =>
  lt (sR R2 731 0 (some N)) fun R8 =>
  gd (kT N4 = (8, 21552) ∧ N4 < NB ∧ Z7 + 21552 ≤ ZB) <|
  lt (zR R8 N4) fun R10 =>
  lt (zM M3 N4) fun M11 =>
  lt (N4 + 1) fun N12 =>
  lt (Z7 + 21552) fun Z15 =>
  lt (sR R10 731 1 (some N4)) fun R16 =>
  gd (kT N12 = (8, 7184) ∧ N12 < NB ∧ Z15 + 7184 ≤ ZB) <|
  lt (zR R16 N12) fun R18 =>
  lt (zM M11 N12) fun M19 =>
  lt (N12 + 1) fun N20 =>
  lt (Z15 + 7184) fun Z23 =>
  lt (sR R18 731 3 (some N12)) fun R24 =>
  gd (kT N20 = (9, 2) ∧ N20 < NB ∧ Z23 + 2 ≤ ZB) <|
  lt (zR R24 N20) fun R26 =>
  lt (zM M19 N20) fun M27 =>
  lt (N20 + 1) fun N28 =>
  lt (Z23 + 2) fun Z31 =>
  lt (sR R26 731 4 (some N20)) fun R32 =>
  gd (kT N28 = (8, 3592) ∧ N28 < NB ∧ Z31 + 3592 ≤ ZB) <|
  lt (zR R32 N28) fun R34 =>
  lt (zM M27 N28) fun M35 =>
  lt (N28 + 1) fun N36 =>
  lt (Z31 + 3592) fun Z39 =>
  lt (sR R34 731 5 (some N28)) fun R40 =>
  gd (kT N36 = (8, 80) ∧ N36 < NB ∧ Z39 + 80 ≤ ZB) <|
  lt (zR R40 N36) fun R42 =>
  lt (zM M35 N36) fun M43 =>
  lt (N36 + 1) fun N44 =>
  lt (Z39 + 80) fun Z47 =>
  lt (sR R42 731 6 (some N36)) fun R48 =>
  gd (kT N44 = (8, 29) ∧ N44 < NB ∧ Z47 + 29 ≤ ZB) <|
  lt (zR R48 N44) fun R50 =>
  lt (zM M43 N44) fun M51 =>
  lt (N44 + 1) fun N52 =>
  lt (Z47 + 29) fun Z55 =>
  lt (sR R50 731 13 (some N44)) fun R56 =>
  gd (kT N52 = (8, 116) ∧ N52 < NB ∧ Z55 + 116 ≤ ZB) <|
  lt (zR R56 N52) fun R58 =>
  lt (zM M51 N52) fun M59 =>
  lt (N52 + 1) fun N60 =>
  lt (Z55 + 116) fun Z63 =>
  lt (sR R58 731 14 (some N52)) fun R64 =>
  gd (R64 731 0 = some 732 ∧ 732 < N60) <|
  lt (sI M59 732 0 8) fun M66 =>
  gd (R64 731 0 = some 732 ∧ 732 < N60) <|
  lt (sI M66 732 1 60) fun M68 =>
  gd (R64 731 0 = some 732 ∧ 732 < N60) <|
  lt (sI M68 732 2 2) fun M70 =>
  gd (R64 731 0 = some 732 ∧ 732 < N60) <|
  lt (sI M70 732 3 12) fun M72 =>
  gd (R64 731 0 = some 732 ∧ 732 < N60) <|
  lt (sI M72 732 4 14) fun M74 =>
  gd (R64 731 0 = some 732 ∧ 732 < N60) <|
  lt (sI M74 732 5 90) fun M76 =>
  gd (R64 731 0 = some 732 ∧ 732 < N60) <|
  lt (sI M76 732 6 500) fun M78 =>
  gd (R64 731 0 = some 732 ∧ 732 < N60) <|
  lt (sI M78 732 7 2) fun M80 =>
  gd (R64 731 0 = some 732 ∧ 732 < N60) <|
  lt (sI M80 732 8 11) fun M82 =>
  gd (R64 731 0 = some 732 ∧ 732 < N60) <|
  lt (sI M82 732 9 200) fun M84 =>
  gd (R64 731 0 = some 732 ∧ 732 < N60) <|
  lt (sI M84 732 11 1) fun M86 =>
  gd (N60 = NB ∧ Z63 = ZB) <|
  some (R64, M86)
section MAKE
variable {p : Program} {l : Launch} {e : Env} {s : State} {m : MethodId} {args : Array Value} {below : List Frame} {meth : Method} {c : Code} {G : mm_G}
set_option maxRecDepth 100000 in
set_option maxHeartbeats 4000000 in
theorem tX4_init (l : Launch) (G : mm_G) (R : mm_R) (N0 Z0 : Nat) (M : mm_M) (a0 : Nat) (h0 : kT a0 = (3, 0)) (ha : a0 < N0) (R9 : mm_R) (M9 : mm_M) (heq : fX4_init R N0 Z0 M a0 (N0 + 0) (Z0 + 0) = some (R9, M9)) : Met l yX4_init (mm_ws yX4_init cX4_init 1 none) rmX4_init (va_Pc [.ref (mm_lo G + a0)] (mm_Bc G (R, N0, M))) (mm_Qc G (R9, N0 + 0, M9)) 0 0 (mm_A G) := by
  refine mm_metc (cc := cX4_init) (nL := 1) (ret := none) plRX4 (Nat.le_of_ble_eq_true rfl) ?_
  intro p e s m below meth c ls hin0 C hz hM hS hl
  have hin := hin0 rfl
  have C : mm_C G p s m _ meth c RX4 cX4_init 1 none := C
  have hM : mm_P G R N0 M s.heap := hM
  have hz : s.heap.size = mm_lo G + N0 := hz
  have hl : lv_has ls 1 [(0, .ref (mm_lo G + a0))] := hl
  obtain ⟨hx, hb, -, -, -, -, -, -, hZ, -⟩ := id C
  have key : ∀ N Z : Nat, N = N0 + 0 → Z = Z0 + 0 → a0 < N → s.heap.size = mm_lo G + N → mm_P G R N M s.heap → fX4_init R N Z M a0 (N0 + 0) (Z0 + 0) = some (R9, M9) → W p l e rmX4_init s m ([Value.ref (mm_lo G + a0)] : List Value).toArray below meth c s.heap [] 0 0 (MQ below (mm_Qc G (R9, N0 + 0, M9)) ([Value.ref (mm_lo G + a0)] : List Value).toArray s 0 0 (mm_A G)) (F0 m 0 ls []) := by
    intro N Z hc hsl ha hz hM heq
    rw [fX4_init] at heq
    refine lv_aload_n hx hb dX4_init_0 rfl (lv_at hl 0 rfl) ?_
    refine mm_objInit C hl.1 oX4_3 wObj1 wObj2 (Nat.le_of_ble_eq_true rfl) (Nat.le_of_ble_eq_true rfl) dX4_init_1 ?_
    replace heq := gd_of heq
    obtain ⟨⟨qn, qz⟩, heq⟩ := heq
    have fz := hz
    have fM := hM
    have fS := hS
    rw [qn] at fz fM
    cases heq
    refine W.cs (cells' := 0) (slots' := 0) (st6 qn hc) (st6 qz hsl) ?_
    exact mm_cret C fz fM fS dX4_init_4
  exact key N0 Z0 rfl rfl ha hz hM heq

set_option maxRecDepth 100000 in
set_option maxHeartbeats 4000000 in
theorem tX0_init (l : Launch) (G : mm_G) (R : mm_R) (N0 Z0 : Nat) (M : mm_M) (a0 : Nat) (h0 : kT a0 = (0, 0)) (ha : a0 < N0) (R9 : mm_R) (M9 : mm_M) (heq : fX0_init R N0 Z0 M a0 (N0 + 2) (Z0 + 203) = some (R9, M9)) : Met l yX0_init (mm_ws yX0_init cX0_init 1 none) rmX0_init (va_Pc [.ref (mm_lo G + a0)] (mm_Bc G (R, N0, M))) (mm_Qc G (R9, N0 + 2, M9)) 2 203 (mm_A G) := by
  refine mm_metc (cc := cX0_init) (nL := 1) (ret := none) plRX0 (Nat.le_of_ble_eq_true rfl) ?_
  intro p e s m below meth c ls hin0 C hz hM hS hl
  have hin := hin0 rfl
  have C : mm_C G p s m _ meth c RX0 cX0_init 1 none := C
  have hM : mm_P G R N0 M s.heap := hM
  have hz : s.heap.size = mm_lo G + N0 := hz
  have hl : lv_has ls 1 [(0, .ref (mm_lo G + a0))] := hl
  obtain ⟨hx, hb, -, -, -, -, -, -, hZ, -⟩ := id C
  have key : ∀ N Z : Nat, N = N0 + 0 → Z = Z0 + 0 → a0 < N → s.heap.size = mm_lo G + N → mm_P G R N M s.heap → fX0_init R N Z M a0 (N0 + 2) (Z0 + 203) = some (R9, M9) → W p l e rmX0_init s m ([Value.ref (mm_lo G + a0)] : List Value).toArray below meth c s.heap [] 0 0 (MQ below (mm_Qc G (R9, N0 + 2, M9)) ([Value.ref (mm_lo G + a0)] : List Value).toArray s 2 203 (mm_A G)) (F0 m 0 ls []) := by
    intro N Z hc hsl ha hz hM heq
    rw [fX0_init] at heq
    refine lv_aload_n hx hb dX0_init_0 rfl (lv_at hl 0 rfl) ?_
    refine mm_objInit C hl.1 oX0_3 wObj1 wObj2 (Nat.le_of_ble_eq_true rfl) (Nat.le_of_ble_eq_true rfl) dX0_init_1 ?_
    refine lv_aload_n hx hb dX0_init_4 rfl (lv_at hl 0 rfl) ?_
    refine lv_iconst (v := 3) hx hb dX0_init_5 (by decide) ?_
    replace heq := gd_of heq
    obtain ⟨⟨g1k, g1n, g1z⟩, heq⟩ := heq
    refine na8 C hz hM hS g1k (by decide) (by decide) (by decide) (st4 g1n hc) (st5 g1z hsl) dX0_init_6 (fun H hM hS hz => ?_)
    obtain ⟨R2, eR2⟩ : ∃ z : mm_R, z = zR R N := ⟨_, rfl⟩
    replace heq := lt_to eR2 heq
    rw [← eR2] at hM
    obtain ⟨M3, eM3⟩ : ∃ z : mm_M, z = zM M N := ⟨_, rfl⟩
    replace heq := lt_to eM3 heq
    rw [← eM3] at hM
    obtain ⟨N4, eN4⟩ : ∃ z : Nat, z = N + 1 := ⟨_, rfl⟩
    replace heq := lt_to eN4 heq
    rw [← eN4] at hM hz
    have hc := st1 eN4 hc
    have l5 := st3 eN4
    have l6 := st2 ha eN4
    obtain ⟨Z7, eZ7⟩ : ∃ z : Nat, z = Z + 3 := ⟨_, rfl⟩
    replace heq := lt_to eZ7 heq
    have hsl := st1 eZ7 hsl
    refine pX0_9 C hM hS l6 h0 hin dX0_init_8 (fun H locs hM hS hz1 => ?_)
    have hz := hz1.trans hz
    obtain ⟨R8, eR8⟩ : ∃ z : mm_R, z = sR R2 a0 16 (some N) := ⟨_, rfl⟩
    replace heq := lt_to eR8 heq
    rw [← eR8] at hM
    refine lv_aload_n hx hb dX0_init_11 rfl (lv_at hl 0 rfl) ?_
    refine lv_sipush (v := 200) hx hb dX0_init_12 (by decide) ?_
    replace heq := gd_of heq
    obtain ⟨⟨g9k, g9n, g9z⟩, heq⟩ := heq
    refine na8 C hz hM hS g9k (by decide) (by decide) (by decide) (st4 g9n hc) (st5 g9z hsl) dX0_init_15 (fun H hM hS hz => ?_)
    obtain ⟨R10, eR10⟩ : ∃ z : mm_R, z = zR R8 N4 := ⟨_, rfl⟩
    replace heq := lt_to eR10 heq
    rw [← eR10] at hM
    obtain ⟨M11, eM11⟩ : ∃ z : mm_M, z = zM M3 N4 := ⟨_, rfl⟩
    replace heq := lt_to eM11 heq
    rw [← eM11] at hM
    obtain ⟨N12, eN12⟩ : ∃ z : Nat, z = N4 + 1 := ⟨_, rfl⟩
    replace heq := lt_to eN12 heq
    rw [← eN12] at hM hz
    have hc := st1 eN12 hc
    have l13 := st3 eN12
    have l14 := st2 l6 eN12
    obtain ⟨Z15, eZ15⟩ : ∃ z : Nat, z = Z7 + 200 := ⟨_, rfl⟩
    replace heq := lt_to eZ15 heq
    have hsl := st1 eZ15 hsl
    refine pX0_15 C hM hS l14 h0 hin dX0_init_17 (fun H locs hM hS hz1 => ?_)
    have hz := hz1.trans hz
    obtain ⟨R16, eR16⟩ : ∃ z : mm_R, z = sR R10 a0 17 (some N4) := ⟨_, rfl⟩
    replace heq := lt_to eR16 heq
    rw [← eR16] at hM
    replace heq := gd_of heq
    obtain ⟨⟨qn, qz⟩, heq⟩ := heq
    have fz := hz
    have fM := hM
    have fS := hS
    rw [qn] at fz fM
    cases heq
    refine W.cs (cells' := 2) (slots' := 203) (st6 qn hc) (st6 qz hsl) ?_
    exact mm_cret C fz fM fS dX0_init_20
  exact key N0 Z0 rfl rfl ha hz hM heq

set_option maxRecDepth 100000 in
set_option maxHeartbeats 4000000 in
theorem tX3_init (l : Launch) (G : mm_G) (R : mm_R) (N0 Z0 : Nat) (M : mm_M) (a0 : Nat) (h0 : kT a0 = (2, 0)) (ha : a0 < N0) (R9 : mm_R) (M9 : mm_M) (heq : fX3_init R N0 Z0 M a0 (N0 + 1) (Z0 + 80) = some (R9, M9)) : Met l yX3_init (mm_ws yX3_init cX3_init 1 none) rmX3_init (va_Pc [.ref (mm_lo G + a0)] (mm_Bc G (R, N0, M))) (mm_Qc G (R9, N0 + 1, M9)) 1 80 (mm_A G) := by
  refine mm_metc (cc := cX3_init) (nL := 1) (ret := none) plRX3 (Nat.le_of_ble_eq_true rfl) ?_
  intro p e s m below meth c ls hin0 C hz hM hS hl
  have hin := hin0 rfl
  have C : mm_C G p s m _ meth c RX3 cX3_init 1 none := C
  have hM : mm_P G R N0 M s.heap := hM
  have hz : s.heap.size = mm_lo G + N0 := hz
  have hl : lv_has ls 1 [(0, .ref (mm_lo G + a0))] := hl
  obtain ⟨hx, hb, -, -, -, -, -, -, hZ, -⟩ := id C
  have key : ∀ N Z : Nat, N = N0 + 0 → Z = Z0 + 0 → a0 < N → s.heap.size = mm_lo G + N → mm_P G R N M s.heap → fX3_init R N Z M a0 (N0 + 1) (Z0 + 80) = some (R9, M9) → W p l e rmX3_init s m ([Value.ref (mm_lo G + a0)] : List Value).toArray below meth c s.heap [] 0 0 (MQ below (mm_Qc G (R9, N0 + 1, M9)) ([Value.ref (mm_lo G + a0)] : List Value).toArray s 1 80 (mm_A G)) (F0 m 0 ls []) := by
    intro N Z hc hsl ha hz hM heq
    rw [fX3_init] at heq
    refine lv_aload_n hx hb dX3_init_0 rfl (lv_at hl 0 rfl) ?_
    refine mm_objInit C hl.1 oX3_3 wObj1 wObj2 (Nat.le_of_ble_eq_true rfl) (Nat.le_of_ble_eq_true rfl) dX3_init_1 ?_
    refine lv_aload_n hx hb dX3_init_4 rfl (lv_at hl 0 rfl) ?_
    refine lv_bipush (v := 80) hx hb dX3_init_5 (by decide) ?_
    replace heq := gd_of heq
    obtain ⟨⟨g1k, g1n, g1z⟩, heq⟩ := heq
    refine na7 C hz hM hS g1k (by decide) (by decide) (by decide) (st4 g1n hc) (st5 g1z hsl) dX3_init_7 (fun H hM hS hz => ?_)
    obtain ⟨R2, eR2⟩ : ∃ z : mm_R, z = zR R N := ⟨_, rfl⟩
    replace heq := lt_to eR2 heq
    rw [← eR2] at hM
    obtain ⟨M3, eM3⟩ : ∃ z : mm_M, z = zM M N := ⟨_, rfl⟩
    replace heq := lt_to eM3 heq
    rw [← eM3] at hM
    obtain ⟨N4, eN4⟩ : ∃ z : Nat, z = N + 1 := ⟨_, rfl⟩
    replace heq := lt_to eN4 heq
    rw [← eN4] at hM hz
    have hc := st1 eN4 hc
    have l5 := st3 eN4
    have l6 := st2 ha eN4
    obtain ⟨Z7, eZ7⟩ : ∃ z : Nat, z = Z + 80 := ⟨_, rfl⟩
    replace heq := lt_to eZ7 heq
    have hsl := st1 eZ7 hsl
    refine pX3_9 C hM hS l6 h0 hin dX3_init_9 (fun H locs hM hS hz1 => ?_)
    have hz := hz1.trans hz
    obtain ⟨R8, eR8⟩ : ∃ z : mm_R, z = sR R2 a0 0 (some N) := ⟨_, rfl⟩
    replace heq := lt_to eR8 heq
    rw [← eR8] at hM
    replace heq := gd_of heq
    obtain ⟨⟨qn, qz⟩, heq⟩ := heq
    have fz := hz
    have fM := hM
    have fS := hS
    rw [qn] at fz fM
    cases heq
    refine W.cs (cells' := 1) (slots' := 80) (st6 qn hc) (st6 qz hsl) ?_
    exact mm_cret C fz fM fS dX3_init_12
  exact key N0 Z0 rfl rfl ha hz hM heq

set_option maxRecDepth 100000 in
set_option maxHeartbeats 4000000 in
theorem tX5_init_121 (C : mm_C G p s m args meth c RX5 cX5_init 2 none) (hin : meth.name = "<init>") (a0 : Nat) (h0 : kT a0 = (4, 0)) {N0 Z0 : Nat} {R9 : mm_R} {M9 : mm_M} : ∀ (n : Nat) (R : mm_R) (N Z : Nat) (M : mm_M) (v1 : Int32) (H : Heap) (locs : List Loc) (ls : Array Slot) (cl sl : Nat), N = N0 + cl → Z = Z0 + sl → a0 < N → H.size = mm_lo G + N → mm_P G R N M H → va_S (mm_A G) s.heap H locs → lv_has ls 2 [(0, .ref (mm_lo G + a0)), (1, .int v1)] → fX5_init_121 a0 (N0 + 65) (Z0 + 3660) n R N Z M v1 = some (R9, M9) → W p l e rmX5_init s m args below meth c H locs cl sl (MQ below (mm_Qc G (R9, N0 + 65, M9)) args s 65 3660 (mm_A G)) (F0 m 121 ls []) := by
  obtain ⟨hx, hb, -, -, -, -, -, -, hZ, -⟩ := id C
  intro n
  induction n with
  | zero =>
    intro R N Z M v1 H locs ls cl sl hc hsl ha hz hM hS hl heq
    rw [fX5_init_121] at heq
    cases heq
  | succ n ih =>
    intro R N Z M v1 H locs ls cl sl hc hsl ha hz hM hS hl heq
    rw [fX5_init_121] at heq
    refine lv_iload_n hx hb dX5_init_121 rfl (lv_at hl 1 rfl) ?_
    refine lv_bipush (v := 16) hx hb dX5_init_122 (by decide) ?_
    refine lv_icmp_ge (tgt := 146) hx hb dX5_init_124 (by decide) (fun c1 => ?_) (fun c1 => ?_)
    · have heq := if_t c1 heq
      replace heq := gd_of heq
      obtain ⟨⟨qn, qz⟩, heq⟩ := heq
      have fz := hz
      have fM := hM
      have fS := hS
      rw [qn] at fz fM
      cases heq
      refine W.cs (cells' := 65) (slots' := 3660) (st6 qn hc) (st6 qz hsl) ?_
      exact mm_cret C fz fM fS dX5_init_146
    · have heq := if_f c1 heq
      refine lv_aload_n hx hb dX5_init_127 rfl (lv_at hl 0 rfl) ?_
      replace heq := gd_of heq
      obtain ⟨⟨g2r, g2n⟩, heq⟩ := heq
      refine gX5_27 C hM ha h0 g2r dX5_init_128 ?_
      refine lv_iload_n hx hb dX5_init_131 rfl (lv_at hl 1 rfl) ?_
      replace heq := gd_of heq
      obtain ⟨⟨g3k, g3n, g3z⟩, heq⟩ := heq
      refine nX5_25 C hz hM hS g3k (st4 g3n hc) (st5 g3z hsl) dX5_init_132 (fun H hM hS hz => ?_)
      obtain ⟨R4, eR4⟩ : ∃ z : mm_R, z = zR R N := ⟨_, rfl⟩
      replace heq := lt_to eR4 heq
      rw [← eR4] at hM
      obtain ⟨M5, eM5⟩ : ∃ z : mm_M, z = zM M N := ⟨_, rfl⟩
      replace heq := lt_to eM5 heq
      rw [← eM5] at hM
      obtain ⟨N6, eN6⟩ : ∃ z : Nat, z = N + 1 := ⟨_, rfl⟩
      replace heq := lt_to eN6 heq
      rw [← eN6] at hM hz
      have hc := st1 eN6 hc
      have l7 := st2 g2n eN6
      have l8 := st3 eN6
      have l9 := st2 ha eN6
      obtain ⟨Z10, eZ10⟩ : ∃ z : Nat, z = Z + 18 := ⟨_, rfl⟩
      replace heq := lt_to eZ10 heq
      have hsl := st1 eZ10 hsl
      refine lv_dup hx hb dX5_init_135 rfl ?_
      replace heq := gd_of heq
      obtain ⟨⟨g11n, g11z⟩, heq⟩ := heq
      replace heq := bn2_of heq
      obtain ⟨R13, M14, e12, heq⟩ := heq
      refine iX5_47 C hz hM hS (tX0_init l G R4 N6 Z10 M5 N g3k l8 R13 M14 e12) hl.1 (Nat.le_of_ble_eq_true rfl) ⟨st5 g11n hc, st5 g11z hsl⟩ dX5_init_136 (fun H locs hM hS hz => ?_)
      have hM : mm_P G R13 (N6 + 2) M14 H := hM
      have hz : H.size = mm_lo G + (N6 + 2) := hz
      obtain ⟨N15, eN15⟩ : ∃ z : Nat, z = N6 + 2 := ⟨_, rfl⟩
      replace heq := lt_to eN15 heq
      rw [← eN15] at hM hz
      have hc := st1 eN15 hc
      have l16 := st2 l7 eN15
      have l17 := st2 l8 eN15
      have l18 := st2 l9 eN15
      obtain ⟨Z19, eZ19⟩ : ∃ z : Nat, z = Z10 + 203 := ⟨_, rfl⟩
      replace heq := lt_to eZ19 heq
      have hsl := st1 eZ19 hsl
      obtain ⟨g20, heq⟩ := gd_of heq
      refine mm_ast C hM hS l16 (kS_9 h0) (ci := 0) rfl rfl (fun _ _ _ => rfl) l17 (mm_e0 g3k) (vp_in_of2 g20) dX5_init_139 (fun H locs hM hS hz1 => ?_)
      have hz := hz1.trans hz
      obtain ⟨R21, eR21⟩ : ∃ z : mm_R, z = sR R13 (a0 + 3) v1.toNatClampNeg (some N) := ⟨_, rfl⟩
      replace heq := lt_to eR21 heq
      rw [← eR21] at hM
      obtain ⟨y22, ey22⟩ : ∃ y : Int32, y = (v1 + 1) := ⟨_, rfl⟩
      have heq := lt_to ey22 heq
      refine lv_iinc (v := y22) (lv' := [(1, .int y22), (0, .ref (mm_lo G + a0))]) hx hb dX5_init_140 hl (k := 1) rfl (by rw [ey22]; rfl) (by decide) rfl (fun ls hl => ?_)
      refine lv_goto (tgt := 121) hx hb dX5_init_143 (by decide) ?_
      exact ih _ _ _ _ _ _ _ _ _ _ hc hsl l18 hz hM hS (lv_sub hl [1, 0] rfl) heq

set_option maxRecDepth 100000 in
set_option maxHeartbeats 4000000 in
theorem tX5_init_94 (C : mm_C G p s m args meth c RX5 cX5_init 2 none) (hin : meth.name = "<init>") (a0 : Nat) (h0 : kT a0 = (4, 0)) {N0 Z0 : Nat} {R9 : mm_R} {M9 : mm_M} : ∀ (n : Nat) (R : mm_R) (N Z : Nat) (M : mm_M) (v1 : Int32) (H : Heap) (locs : List Loc) (ls : Array Slot) (cl sl : Nat), N = N0 + cl → Z = Z0 + sl → a0 < N → H.size = mm_lo G + N → mm_P G R N M H → va_S (mm_A G) s.heap H locs → lv_has ls 2 [(0, .ref (mm_lo G + a0)), (1, .int v1)] → fX5_init_94 a0 (N0 + 65) (Z0 + 3660) n R N Z M v1 = some (R9, M9) → W p l e rmX5_init s m args below meth c H locs cl sl (MQ below (mm_Qc G (R9, N0 + 65, M9)) args s 65 3660 (mm_A G)) (F0 m 94 ls []) := by
  obtain ⟨hx, hb, -, -, -, -, -, -, hZ, -⟩ := id C
  intro n
  induction n with
  | zero =>
    intro R N Z M v1 H locs ls cl sl hc hsl ha hz hM hS hl heq
    rw [fX5_init_94] at heq
    cases heq
  | succ n ih =>
    intro R N Z M v1 H locs ls cl sl hc hsl ha hz hM hS hl heq
    rw [fX5_init_94] at heq
    refine lv_iload_n hx hb dX5_init_94 rfl (lv_at hl 1 rfl) ?_
    refine lv_bipush (v := 10) hx hb dX5_init_95 (by decide) ?_
    refine lv_icmp_ge (tgt := 119) hx hb dX5_init_97 (by decide) (fun c1 => ?_) (fun c1 => ?_)
    · have heq := if_t c1 heq
      refine lv_iconst (v := 0) hx hb dX5_init_119 (by decide) ?_
      refine lv_istore_n (lv' := [(1, .int 0), (0, .ref (mm_lo G + a0))]) hx hb dX5_init_120 rfl hl (by decide) rfl (fun ls hl => ?_)
      exact tX5_init_121 C hin a0 h0 FU _ _ _ _ _ _ _ _ _ _ hc hsl ha hz hM hS (lv_sub hl [1, 0] rfl) heq
    · have heq := if_f c1 heq
      refine lv_aload_n hx hb dX5_init_100 rfl (lv_at hl 0 rfl) ?_
      replace heq := gd_of heq
      obtain ⟨⟨g2r, g2n⟩, heq⟩ := heq
      refine gX5_21 C hM ha h0 g2r dX5_init_101 ?_
      refine lv_iload_n hx hb dX5_init_104 rfl (lv_at hl 1 rfl) ?_
      replace heq := gd_of heq
      obtain ⟨⟨g3k, g3n, g3z⟩, heq⟩ := heq
      refine nX5_19 C hz hM hS g3k (st4 g3n hc) (st5 g3z hsl) dX5_init_105 (fun H hM hS hz => ?_)
      obtain ⟨R4, eR4⟩ : ∃ z : mm_R, z = zR R N := ⟨_, rfl⟩
      replace heq := lt_to eR4 heq
      rw [← eR4] at hM
      obtain ⟨M5, eM5⟩ : ∃ z : mm_M, z = zM M N := ⟨_, rfl⟩
      replace heq := lt_to eM5 heq
      rw [← eM5] at hM
      obtain ⟨N6, eN6⟩ : ∃ z : Nat, z = N + 1 := ⟨_, rfl⟩
      replace heq := lt_to eN6 heq
      rw [← eN6] at hM hz
      have hc := st1 eN6 hc
      have l7 := st2 g2n eN6
      have l8 := st3 eN6
      have l9 := st2 ha eN6
      obtain ⟨Z10, eZ10⟩ : ∃ z : Nat, z = Z + 4 := ⟨_, rfl⟩
      replace heq := lt_to eZ10 heq
      have hsl := st1 eZ10 hsl
      refine lv_dup hx hb dX5_init_108 rfl ?_
      replace heq := gd_of heq
      obtain ⟨⟨g11n, g11z⟩, heq⟩ := heq
      replace heq := bn2_of heq
      obtain ⟨R13, M14, e12, heq⟩ := heq
      refine iX5_46 C hz hM hS (tX4_init l G R4 N6 Z10 M5 N g3k l8 R13 M14 e12) hl.1 (Nat.le_of_ble_eq_true rfl) ⟨st5 g11n hc, st5 g11z hsl⟩ dX5_init_109 (fun H locs hM hS hz => ?_)
      have hM : mm_P G R13 (N6 + 0) M14 H := hM
      have hz : H.size = mm_lo G + (N6 + 0) := hz
      obtain ⟨N15, eN15⟩ : ∃ z : Nat, z = N6 + 0 := ⟨_, rfl⟩
      replace heq := lt_to eN15 heq
      rw [← eN15] at hM hz
      have hc := st1 eN15 hc
      have l16 := st2 l7 eN15
      have l17 := st2 l8 eN15
      have l18 := st2 l9 eN15
      obtain ⟨Z19, eZ19⟩ : ∃ z : Nat, z = Z10 + 0 := ⟨_, rfl⟩
      replace heq := lt_to eZ19 heq
      have hsl := st1 eZ19 hsl
      obtain ⟨g20, heq⟩ := gd_of heq
      refine mm_ast C hM hS l16 (kS_8 h0) (ci := 3) rfl rfl (fun _ _ _ => rfl) l17 (mm_e3 g3k) (vp_in_of2 g20) dX5_init_112 (fun H locs hM hS hz1 => ?_)
      have hz := hz1.trans hz
      obtain ⟨R21, eR21⟩ : ∃ z : mm_R, z = sR R13 (a0 + 2) v1.toNatClampNeg (some N) := ⟨_, rfl⟩
      replace heq := lt_to eR21 heq
      rw [← eR21] at hM
      obtain ⟨y22, ey22⟩ : ∃ y : Int32, y = (v1 + 1) := ⟨_, rfl⟩
      have heq := lt_to ey22 heq
      refine lv_iinc (v := y22) (lv' := [(1, .int y22), (0, .ref (mm_lo G + a0))]) hx hb dX5_init_113 hl (k := 1) rfl (by rw [ey22]; rfl) (by decide) rfl (fun ls hl => ?_)
      refine lv_goto (tgt := 94) hx hb dX5_init_116 (by decide) ?_
      exact ih _ _ _ _ _ _ _ _ _ _ hc hsl l18 hz hM hS (lv_sub hl [1, 0] rfl) heq

set_option maxRecDepth 100000 in
set_option maxHeartbeats 4000000 in
theorem tX5_init_69 (C : mm_C G p s m args meth c RX5 cX5_init 2 none) (hin : meth.name = "<init>") (a0 : Nat) (h0 : kT a0 = (4, 0)) {N0 Z0 : Nat} {R9 : mm_R} {M9 : mm_M} : ∀ (n : Nat) (R : mm_R) (N Z : Nat) (M : mm_M) (v1 : Int32) (H : Heap) (locs : List Loc) (ls : Array Slot) (cl sl : Nat), N = N0 + cl → Z = Z0 + sl → a0 < N → H.size = mm_lo G + N → mm_P G R N M H → va_S (mm_A G) s.heap H locs → lv_has ls 2 [(0, .ref (mm_lo G + a0)), (1, .int v1)] → fX5_init_69 a0 (N0 + 65) (Z0 + 3660) n R N Z M v1 = some (R9, M9) → W p l e rmX5_init s m args below meth c H locs cl sl (MQ below (mm_Qc G (R9, N0 + 65, M9)) args s 65 3660 (mm_A G)) (F0 m 69 ls []) := by
  obtain ⟨hx, hb, -, -, -, -, -, -, hZ, -⟩ := id C
  intro n
  induction n with
  | zero =>
    intro R N Z M v1 H locs ls cl sl hc hsl ha hz hM hS hl heq
    rw [fX5_init_69] at heq
    cases heq
  | succ n ih =>
    intro R N Z M v1 H locs ls cl sl hc hsl ha hz hM hS hl heq
    rw [fX5_init_69] at heq
    refine lv_iload_n hx hb dX5_init_69 rfl (lv_at hl 1 rfl) ?_
    refine lv_bipush (v := 10) hx hb dX5_init_70 (by decide) ?_
    refine lv_icmp_ge (tgt := 92) hx hb dX5_init_72 (by decide) (fun c1 => ?_) (fun c1 => ?_)
    · have heq := if_t c1 heq
      refine lv_iconst (v := 0) hx hb dX5_init_92 (by decide) ?_
      refine lv_istore_n (lv' := [(1, .int 0), (0, .ref (mm_lo G + a0))]) hx hb dX5_init_93 rfl hl (by decide) rfl (fun ls hl => ?_)
      exact tX5_init_94 C hin a0 h0 FU _ _ _ _ _ _ _ _ _ _ hc hsl ha hz hM hS (lv_sub hl [1, 0] rfl) heq
    · have heq := if_f c1 heq
      refine lv_aload_n hx hb dX5_init_75 rfl (lv_at hl 0 rfl) ?_
      replace heq := gd_of heq
      obtain ⟨⟨g2r, g2n⟩, heq⟩ := heq
      refine gX5_15 C hM ha h0 g2r dX5_init_76 ?_
      refine lv_iload_n hx hb dX5_init_79 rfl (lv_at hl 1 rfl) ?_
      refine mm_gst C hS hZ.1 sX5_43 dX5_init_80 ?_
      refine lv_iload_n hx hb dX5_init_83 rfl (lv_at hl 1 rfl) ?_
      obtain ⟨g3, heq⟩ := gd_of heq
      refine mm_tld C hS hZ.1 (vp_in_of2 g3) dX5_init_84 ?_
      refine mm_istk C hM hS g2n (kS_7 h0) (vp_in_of2 g3) rfl dX5_init_85 (fun H locs hM hS hz1 => ?_)
      have hz := hz1.trans hz
      obtain ⟨M4, eM4⟩ : ∃ z : mm_M, z = sI M (a0 + 1) v1.toNatClampNeg (mm_f0 v1.toNatClampNeg) := ⟨_, rfl⟩
      replace heq := lt_to eM4 heq
      rw [← eM4] at hM
      obtain ⟨y5, ey5⟩ : ∃ y : Int32, y = (v1 + 1) := ⟨_, rfl⟩
      have heq := lt_to ey5 heq
      refine lv_iinc (v := y5) (lv' := [(1, .int y5), (0, .ref (mm_lo G + a0))]) hx hb dX5_init_86 hl (k := 1) rfl (by rw [ey5]; rfl) (by decide) rfl (fun ls hl => ?_)
      refine lv_goto (tgt := 69) hx hb dX5_init_89 (by decide) ?_
      exact ih _ _ _ _ _ _ _ _ _ _ hc hsl ha hz hM hS (lv_sub hl [1, 0] rfl) heq

set_option maxRecDepth 100000 in
set_option maxHeartbeats 4000000 in
theorem tX5_init (l : Launch) (G : mm_G) (R : mm_R) (N0 Z0 : Nat) (M : mm_M) (a0 : Nat) (h0 : kT a0 = (4, 0)) (ha : a0 < N0) (R9 : mm_R) (M9 : mm_M) (heq : fX5_init R N0 Z0 M a0 (N0 + 65) (Z0 + 3660) = some (R9, M9)) : Met l yX5_init (mm_ws yX5_init cX5_init 2 none) rmX5_init (va_Pc [.ref (mm_lo G + a0)] (mm_Bc G (R, N0, M))) (mm_Qc G (R9, N0 + 65, M9)) 65 3660 (mm_A G) := by
  refine mm_metc (cc := cX5_init) (nL := 2) (ret := none) plRX5 (Nat.le_of_ble_eq_true rfl) ?_
  intro p e s m below meth c ls hin0 C hz hM hS hl
  have hin := hin0 rfl
  have C : mm_C G p s m _ meth c RX5 cX5_init 2 none := C
  have hM : mm_P G R N0 M s.heap := hM
  have hz : s.heap.size = mm_lo G + N0 := hz
  have hl : lv_has ls 2 [(0, .ref (mm_lo G + a0))] := hl
  obtain ⟨hx, hb, -, -, -, -, -, -, hZ, -⟩ := id C
  have key : ∀ N Z : Nat, N = N0 + 0 → Z = Z0 + 0 → a0 < N → s.heap.size = mm_lo G + N → mm_P G R N M s.heap → fX5_init R N Z M a0 (N0 + 65) (Z0 + 3660) = some (R9, M9) → W p l e rmX5_init s m ([Value.ref (mm_lo G + a0)] : List Value).toArray below meth c s.heap [] 0 0 (MQ below (mm_Qc G (R9, N0 + 65, M9)) ([Value.ref (mm_lo G + a0)] : List Value).toArray s 65 3660 (mm_A G)) (F0 m 0 ls []) := by
    intro N Z hc hsl ha hz hM heq
    rw [fX5_init] at heq
    refine lv_aload_n hx hb dX5_init_0 rfl (lv_at hl 0 rfl) ?_
    refine mm_objInit C hl.1 oX5_3 wObj1 wObj2 (Nat.le_of_ble_eq_true rfl) (Nat.le_of_ble_eq_true rfl) dX5_init_1 ?_
    refine lv_aload_n hx hb dX5_init_4 rfl (lv_at hl 0 rfl) ?_
    refine lv_iconst (v := 1) hx hb dX5_init_5 (by decide) ?_
    refine pX5_9 C hM hS ha h0 dX5_init_6 (fun H locs hM hS hz1 => ?_)
    have hz := hz1.trans hz
    obtain ⟨M1, eM1⟩ : ∃ z : mm_M, z = sI M a0 1 1 := ⟨_, rfl⟩
    replace heq := lt_to eM1 heq
    rw [← eM1] at hM
    refine lv_aload_n hx hb dX5_init_9 rfl (lv_at hl 0 rfl) ?_
    refine lv_bipush (v := 10) hx hb dX5_init_10 (by decide) ?_
    replace heq := gd_of heq
    obtain ⟨⟨g2k, g2n, g2z⟩, heq⟩ := heq
    refine na8 C hz hM hS g2k (by decide) (by decide) (by decide) (st4 g2n hc) (st5 g2z hsl) dX5_init_12 (fun H hM hS hz => ?_)
    obtain ⟨R3, eR3⟩ : ∃ z : mm_R, z = zR R N := ⟨_, rfl⟩
    replace heq := lt_to eR3 heq
    rw [← eR3] at hM
    obtain ⟨M4, eM4⟩ : ∃ z : mm_M, z = zM M1 N := ⟨_, rfl⟩
    replace heq := lt_to eM4 heq
    rw [← eM4] at hM
    obtain ⟨N5, eN5⟩ : ∃ z : Nat, z = N + 1 := ⟨_, rfl⟩
    replace heq := lt_to eN5 heq
    rw [← eN5] at hM hz
    have hc := st1 eN5 hc
    have l6 := st3 eN5
    have l7 := st2 ha eN5
    obtain ⟨Z8, eZ8⟩ : ∃ z : Nat, z = Z + 10 := ⟨_, rfl⟩
    replace heq := lt_to eZ8 heq
    have hsl := st1 eZ8 hsl
    refine pX5_15 C hM hS l7 h0 hin dX5_init_14 (fun H locs hM hS hz1 => ?_)
    have hz := hz1.trans hz
    obtain ⟨R9, eR9⟩ : ∃ z : mm_R, z = sR R3 a0 7 (some N) := ⟨_, rfl⟩
    replace heq := lt_to eR9 heq
    rw [← eR9] at hM
    refine lv_aload_n hx hb dX5_init_17 rfl (lv_at hl 0 rfl) ?_
    refine lv_bipush (v := 10) hx hb dX5_init_18 (by decide) ?_
    replace heq := gd_of heq
    obtain ⟨⟨g10k, g10n, g10z⟩, heq⟩ := heq
    refine nqX5_19 C hz hM hS g10k (by decide) (by decide) (by decide) (st4 g10n hc) (st5 g10z hsl) dX5_init_20 (fun H hM hS hz => ?_)
    obtain ⟨R11, eR11⟩ : ∃ z : mm_R, z = zR R9 N5 := ⟨_, rfl⟩
    replace heq := lt_to eR11 heq
    rw [← eR11] at hM
    obtain ⟨M12, eM12⟩ : ∃ z : mm_M, z = zM M4 N5 := ⟨_, rfl⟩
    replace heq := lt_to eM12 heq
    rw [← eM12] at hM
    obtain ⟨N13, eN13⟩ : ∃ z : Nat, z = N5 + 1 := ⟨_, rfl⟩
    replace heq := lt_to eN13 heq
    rw [← eN13] at hM hz
    have hc := st1 eN13 hc
    have l14 := st3 eN13
    have l15 := st2 l7 eN13
    obtain ⟨Z16, eZ16⟩ : ∃ z : Nat, z = Z8 + 10 := ⟨_, rfl⟩
    replace heq := lt_to eZ16 heq
    have hsl := st1 eZ16 hsl
    refine pX5_21 C hM hS l15 h0 hin dX5_init_23 (fun H locs hM hS hz1 => ?_)
    have hz := hz1.trans hz
    obtain ⟨R17, eR17⟩ : ∃ z : mm_R, z = sR R11 a0 8 (some N5) := ⟨_, rfl⟩
    replace heq := lt_to eR17 heq
    rw [← eR17] at hM
    refine lv_aload_n hx hb dX5_init_26 rfl (lv_at hl 0 rfl) ?_
    refine lv_bipush (v := 16) hx hb dX5_init_27 (by decide) ?_
    replace heq := gd_of heq
    obtain ⟨⟨g18k, g18n, g18z⟩, heq⟩ := heq
    refine nqX5_25 C hz hM hS g18k (by decide) (by decide) (by decide) (st4 g18n hc) (st5 g18z hsl) dX5_init_29 (fun H hM hS hz => ?_)
    obtain ⟨R19, eR19⟩ : ∃ z : mm_R, z = zR R17 N13 := ⟨_, rfl⟩
    replace heq := lt_to eR19 heq
    rw [← eR19] at hM
    obtain ⟨M20, eM20⟩ : ∃ z : mm_M, z = zM M12 N13 := ⟨_, rfl⟩
    replace heq := lt_to eM20 heq
    rw [← eM20] at hM
    obtain ⟨N21, eN21⟩ : ∃ z : Nat, z = N13 + 1 := ⟨_, rfl⟩
    replace heq := lt_to eN21 heq
    rw [← eN21] at hM hz
    have hc := st1 eN21 hc
    have l22 := st3 eN21
    have l23 := st2 l15 eN21
    obtain ⟨Z24, eZ24⟩ : ∃ z : Nat, z = Z16 + 16 := ⟨_, rfl⟩
    replace heq := lt_to eZ24 heq
    have hsl := st1 eZ24 hsl
    refine pX5_27 C hM hS l23 h0 hin dX5_init_32 (fun H locs hM hS hz1 => ?_)
    have hz := hz1.trans hz
    obtain ⟨R25, eR25⟩ : ∃ z : mm_R, z = sR R19 a0 9 (some N13) := ⟨_, rfl⟩
    replace heq := lt_to eR25 heq
    rw [← eR25] at hM
    refine lv_aload_n hx hb dX5_init_35 rfl (lv_at hl 0 rfl) ?_
    refine lv_bipush (v := 8) hx hb dX5_init_36 (by decide) ?_
    replace heq := gd_of heq
    obtain ⟨⟨g26k, g26n, g26z⟩, heq⟩ := heq
    refine na8 C hz hM hS g26k (by decide) (by decide) (by decide) (st4 g26n hc) (st5 g26z hsl) dX5_init_38 (fun H hM hS hz => ?_)
    obtain ⟨R27, eR27⟩ : ∃ z : mm_R, z = zR R25 N21 := ⟨_, rfl⟩
    replace heq := lt_to eR27 heq
    rw [← eR27] at hM
    obtain ⟨M28, eM28⟩ : ∃ z : mm_M, z = zM M20 N21 := ⟨_, rfl⟩
    replace heq := lt_to eM28 heq
    rw [← eM28] at hM
    obtain ⟨N29, eN29⟩ : ∃ z : Nat, z = N21 + 1 := ⟨_, rfl⟩
    replace heq := lt_to eN29 heq
    rw [← eN29] at hM hz
    have hc := st1 eN29 hc
    have l30 := st3 eN29
    have l31 := st2 l23 eN29
    obtain ⟨Z32, eZ32⟩ : ∃ z : Nat, z = Z24 + 8 := ⟨_, rfl⟩
    replace heq := lt_to eZ32 heq
    have hsl := st1 eZ32 hsl
    refine pX5_31 C hM hS l31 h0 hin dX5_init_40 (fun H locs hM hS hz1 => ?_)
    have hz := hz1.trans hz
    obtain ⟨R33, eR33⟩ : ∃ z : mm_R, z = sR R27 a0 10 (some N21) := ⟨_, rfl⟩
    replace heq := lt_to eR33 heq
    rw [← eR33] at hM
    refine lv_aload_n hx hb dX5_init_43 rfl (lv_at hl 0 rfl) ?_
    refine lv_bipush (v := 8) hx hb dX5_init_44 (by decide) ?_
    replace heq := gd_of heq
    obtain ⟨⟨g34k, g34n, g34z⟩, heq⟩ := heq
    refine na8 C hz hM hS g34k (by decide) (by decide) (by decide) (st4 g34n hc) (st5 g34z hsl) dX5_init_46 (fun H hM hS hz => ?_)
    obtain ⟨R35, eR35⟩ : ∃ z : mm_R, z = zR R33 N29 := ⟨_, rfl⟩
    replace heq := lt_to eR35 heq
    rw [← eR35] at hM
    obtain ⟨M36, eM36⟩ : ∃ z : mm_M, z = zM M28 N29 := ⟨_, rfl⟩
    replace heq := lt_to eM36 heq
    rw [← eM36] at hM
    obtain ⟨N37, eN37⟩ : ∃ z : Nat, z = N29 + 1 := ⟨_, rfl⟩
    replace heq := lt_to eN37 heq
    rw [← eN37] at hM hz
    have hc := st1 eN37 hc
    have l38 := st3 eN37
    have l39 := st2 l31 eN37
    obtain ⟨Z40, eZ40⟩ : ∃ z : Nat, z = Z32 + 8 := ⟨_, rfl⟩
    replace heq := lt_to eZ40 heq
    have hsl := st1 eZ40 hsl
    refine pX5_34 C hM hS l39 h0 hin dX5_init_48 (fun H locs hM hS hz1 => ?_)
    have hz := hz1.trans hz
    obtain ⟨R41, eR41⟩ : ∃ z : mm_R, z = sR R35 a0 11 (some N29) := ⟨_, rfl⟩
    replace heq := lt_to eR41 heq
    rw [← eR41] at hM
    refine lv_aload_n hx hb dX5_init_51 rfl (lv_at hl 0 rfl) ?_
    refine lv_bipush (v := 16) hx hb dX5_init_52 (by decide) ?_
    replace heq := gd_of heq
    obtain ⟨⟨g42k, g42n, g42z⟩, heq⟩ := heq
    refine na8 C hz hM hS g42k (by decide) (by decide) (by decide) (st4 g42n hc) (st5 g42z hsl) dX5_init_54 (fun H hM hS hz => ?_)
    obtain ⟨R43, eR43⟩ : ∃ z : mm_R, z = zR R41 N37 := ⟨_, rfl⟩
    replace heq := lt_to eR43 heq
    rw [← eR43] at hM
    obtain ⟨M44, eM44⟩ : ∃ z : mm_M, z = zM M36 N37 := ⟨_, rfl⟩
    replace heq := lt_to eM44 heq
    rw [← eM44] at hM
    obtain ⟨N45, eN45⟩ : ∃ z : Nat, z = N37 + 1 := ⟨_, rfl⟩
    replace heq := lt_to eN45 heq
    rw [← eN45] at hM hz
    have hc := st1 eN45 hc
    have l46 := st3 eN45
    have l47 := st2 l39 eN45
    obtain ⟨Z48, eZ48⟩ : ∃ z : Nat, z = Z40 + 16 := ⟨_, rfl⟩
    replace heq := lt_to eZ48 heq
    have hsl := st1 eZ48 hsl
    refine pX5_37 C hM hS l47 h0 hin dX5_init_56 (fun H locs hM hS hz1 => ?_)
    have hz := hz1.trans hz
    obtain ⟨R49, eR49⟩ : ∃ z : mm_R, z = sR R43 a0 12 (some N37) := ⟨_, rfl⟩
    replace heq := lt_to eR49 heq
    rw [← eR49] at hM
    refine lv_aload_n hx hb dX5_init_59 rfl (lv_at hl 0 rfl) ?_
    refine lv_bipush (v := 16) hx hb dX5_init_60 (by decide) ?_
    replace heq := gd_of heq
    obtain ⟨⟨g50k, g50n, g50z⟩, heq⟩ := heq
    refine na8 C hz hM hS g50k (by decide) (by decide) (by decide) (st4 g50n hc) (st5 g50z hsl) dX5_init_62 (fun H hM hS hz => ?_)
    obtain ⟨R51, eR51⟩ : ∃ z : mm_R, z = zR R49 N45 := ⟨_, rfl⟩
    replace heq := lt_to eR51 heq
    rw [← eR51] at hM
    obtain ⟨M52, eM52⟩ : ∃ z : mm_M, z = zM M44 N45 := ⟨_, rfl⟩
    replace heq := lt_to eM52 heq
    rw [← eM52] at hM
    obtain ⟨N53, eN53⟩ : ∃ z : Nat, z = N45 + 1 := ⟨_, rfl⟩
    replace heq := lt_to eN53 heq
    rw [← eN53] at hM hz
    have hc := st1 eN53 hc
    have l54 := st3 eN53
    have l55 := st2 l47 eN53
    obtain ⟨Z56, eZ56⟩ : ∃ z : Nat, z = Z48 + 16 := ⟨_, rfl⟩
    replace heq := lt_to eZ56 heq
    have hsl := st1 eZ56 hsl
    refine pX5_40 C hM hS l55 h0 hin dX5_init_64 (fun H locs hM hS hz1 => ?_)
    have hz := hz1.trans hz
    obtain ⟨R57, eR57⟩ : ∃ z : mm_R, z = sR R51 a0 13 (some N45) := ⟨_, rfl⟩
    replace heq := lt_to eR57 heq
    rw [← eR57] at hM
    refine lv_iconst (v := 0) hx hb dX5_init_67 (by decide) ?_
    refine lv_istore_n (lv' := [(1, .int 0), (0, .ref (mm_lo G + a0))]) hx hb dX5_init_68 rfl hl (by decide) rfl (fun ls hl => ?_)
    exact tX5_init_69 C hin a0 h0 FU _ _ _ _ _ _ _ _ _ _ hc hsl l55 hz hM hS (lv_sub hl [1, 0] rfl) heq
  exact key N0 Z0 rfl rfl ha hz hM heq

set_option maxRecDepth 100000 in
set_option maxHeartbeats 4000000 in
theorem tX2_init_15 (C : mm_C G p s m args meth c RX2 cX2_init 2 none) (hin : meth.name = "<init>") (a0 : Nat) (h0 : kT a0 = (1, 0)) {N0 Z0 : Nat} {R9 : mm_R} {M9 : mm_M} : ∀ (n : Nat) (R : mm_R) (N Z : Nat) (M : mm_M) (v1 : Int32) (H : Heap) (locs : List Loc) (ls : Array Slot) (cl sl : Nat), N = N0 + cl → Z = Z0 + sl → a0 < N → H.size = mm_lo G + N → mm_P G R N M H → va_S (mm_A G) s.heap H locs → lv_has ls 2 [(0, .ref (mm_lo G + a0)), (1, .int v1)] → fX2_init_15 a0 (N0 + 463) (Z0 + 25732) n R N Z M v1 = some (R9, M9) → W p l e rmX2_init s m args below meth c H locs cl sl (MQ below (mm_Qc G (R9, N0 + 463, M9)) args s 463 25732 (mm_A G)) (F0 m 15 ls []) := by
  obtain ⟨hx, hb, -, -, -, -, -, -, hZ, -⟩ := id C
  intro n
  induction n with
  | zero =>
    intro R N Z M v1 H locs ls cl sl hc hsl ha hz hM hS hl heq
    rw [fX2_init_15] at heq
    cases heq
  | succ n ih =>
    intro R N Z M v1 H locs ls cl sl hc hsl ha hz hM hS hl heq
    rw [fX2_init_15] at heq
    refine lv_iload_n hx hb dX2_init_15 rfl (lv_at hl 1 rfl) ?_
    refine lv_bipush (v := 7) hx hb dX2_init_16 (by decide) ?_
    refine lv_icmp_ge (tgt := 40) hx hb dX2_init_18 (by decide) (fun c1 => ?_) (fun c1 => ?_)
    · have heq := if_t c1 heq
      replace heq := gd_of heq
      obtain ⟨⟨qn, qz⟩, heq⟩ := heq
      have fz := hz
      have fM := hM
      have fS := hS
      rw [qn] at fz fM
      cases heq
      refine W.cs (cells' := 463) (slots' := 25732) (st6 qn hc) (st6 qz hsl) ?_
      exact mm_cret C fz fM fS dX2_init_40
    · have heq := if_f c1 heq
      refine lv_aload_n hx hb dX2_init_21 rfl (lv_at hl 0 rfl) ?_
      replace heq := gd_of heq
      obtain ⟨⟨g2r, g2n⟩, heq⟩ := heq
      refine gX2_13 C hM ha h0 g2r dX2_init_22 ?_
      refine lv_iload_n hx hb dX2_init_25 rfl (lv_at hl 1 rfl) ?_
      replace heq := gd_of heq
      obtain ⟨⟨g3k, g3n, g3z⟩, heq⟩ := heq
      refine nX2_11 C hz hM hS g3k (st4 g3n hc) (st5 g3z hsl) dX2_init_26 (fun H hM hS hz => ?_)
      obtain ⟨R4, eR4⟩ : ∃ z : mm_R, z = zR R N := ⟨_, rfl⟩
      replace heq := lt_to eR4 heq
      rw [← eR4] at hM
      obtain ⟨M5, eM5⟩ : ∃ z : mm_M, z = zM M N := ⟨_, rfl⟩
      replace heq := lt_to eM5 heq
      rw [← eM5] at hM
      obtain ⟨N6, eN6⟩ : ∃ z : Nat, z = N + 1 := ⟨_, rfl⟩
      replace heq := lt_to eN6 heq
      rw [← eN6] at hM hz
      have hc := st1 eN6 hc
      have l7 := st2 g2n eN6
      have l8 := st3 eN6
      have l9 := st2 ha eN6
      obtain ⟨Z10, eZ10⟩ : ∃ z : Nat, z = Z + 15 := ⟨_, rfl⟩
      replace heq := lt_to eZ10 heq
      have hsl := st1 eZ10 hsl
      refine lv_dup hx hb dX2_init_29 rfl ?_
      replace heq := gd_of heq
      obtain ⟨⟨g11n, g11z⟩, heq⟩ := heq
      replace heq := bn2_of heq
      obtain ⟨R13, M14, e12, heq⟩ := heq
      refine iX2_17 C hz hM hS (tX5_init l G R4 N6 Z10 M5 N g3k l8 R13 M14 e12) hl.1 (Nat.le_of_ble_eq_true rfl) ⟨st5 g11n hc, st5 g11z hsl⟩ dX2_init_30 (fun H locs hM hS hz => ?_)
      have hM : mm_P G R13 (N6 + 65) M14 H := hM
      have hz : H.size = mm_lo G + (N6 + 65) := hz
      obtain ⟨N15, eN15⟩ : ∃ z : Nat, z = N6 + 65 := ⟨_, rfl⟩
      replace heq := lt_to eN15 heq
      rw [← eN15] at hM hz
      have hc := st1 eN15 hc
      have l16 := st2 l7 eN15
      have l17 := st2 l8 eN15
      have l18 := st2 l9 eN15
      obtain ⟨Z19, eZ19⟩ : ∃ z : Nat, z = Z10 + 3660 := ⟨_, rfl⟩
      replace heq := lt_to eZ19 heq
      have hsl := st1 eZ19 hsl
      obtain ⟨g20, heq⟩ := gd_of heq
      refine mm_ast C hM hS l16 (kH_0 h0) (ci := 4) rfl rfl (fun _ _ _ => rfl) l17 (mm_e4 g3k) (vp_in_of2 g20) dX2_init_33 (fun H locs hM hS hz1 => ?_)
      have hz := hz1.trans hz
      obtain ⟨R21, eR21⟩ : ∃ z : mm_R, z = sR R13 (a0 + 1) v1.toNatClampNeg (some N) := ⟨_, rfl⟩
      replace heq := lt_to eR21 heq
      rw [← eR21] at hM
      obtain ⟨y22, ey22⟩ : ∃ y : Int32, y = (v1 + 1) := ⟨_, rfl⟩
      have heq := lt_to ey22 heq
      refine lv_iinc (v := y22) (lv' := [(1, .int y22), (0, .ref (mm_lo G + a0))]) hx hb dX2_init_34 hl (k := 1) rfl (by rw [ey22]; rfl) (by decide) rfl (fun ls hl => ?_)
      refine lv_goto (tgt := 15) hx hb dX2_init_37 (by decide) ?_
      exact ih _ _ _ _ _ _ _ _ _ _ hc hsl l18 hz hM hS (lv_sub hl [1, 0] rfl) heq

set_option maxRecDepth 100000 in
set_option maxHeartbeats 4000000 in
theorem tX2_init (l : Launch) (G : mm_G) (R : mm_R) (N0 Z0 : Nat) (M : mm_M) (a0 : Nat) (h0 : kT a0 = (1, 0)) (ha : a0 < N0) (R9 : mm_R) (M9 : mm_M) (heq : fX2_init R N0 Z0 M a0 (N0 + 463) (Z0 + 25732) = some (R9, M9)) : Met l yX2_init (mm_ws yX2_init cX2_init 2 none) rmX2_init (va_Pc [.ref (mm_lo G + a0)] (mm_Bc G (R, N0, M))) (mm_Qc G (R9, N0 + 463, M9)) 463 25732 (mm_A G) := by
  refine mm_metc (cc := cX2_init) (nL := 2) (ret := none) plRX2 (Nat.le_of_ble_eq_true rfl) ?_
  intro p e s m below meth c ls hin0 C hz hM hS hl
  have hin := hin0 rfl
  have C : mm_C G p s m _ meth c RX2 cX2_init 2 none := C
  have hM : mm_P G R N0 M s.heap := hM
  have hz : s.heap.size = mm_lo G + N0 := hz
  have hl : lv_has ls 2 [(0, .ref (mm_lo G + a0))] := hl
  obtain ⟨hx, hb, -, -, -, -, -, -, hZ, -⟩ := id C
  have key : ∀ N Z : Nat, N = N0 + 0 → Z = Z0 + 0 → a0 < N → s.heap.size = mm_lo G + N → mm_P G R N M s.heap → fX2_init R N Z M a0 (N0 + 463) (Z0 + 25732) = some (R9, M9) → W p l e rmX2_init s m ([Value.ref (mm_lo G + a0)] : List Value).toArray below meth c s.heap [] 0 0 (MQ below (mm_Qc G (R9, N0 + 463, M9)) ([Value.ref (mm_lo G + a0)] : List Value).toArray s 463 25732 (mm_A G)) (F0 m 0 ls []) := by
    intro N Z hc hsl ha hz hM heq
    rw [fX2_init] at heq
    refine lv_aload_n hx hb dX2_init_0 rfl (lv_at hl 0 rfl) ?_
    refine mm_objInit C hl.1 oX2_3 wObj1 wObj2 (Nat.le_of_ble_eq_true rfl) (Nat.le_of_ble_eq_true rfl) dX2_init_1 ?_
    refine lv_aload_n hx hb dX2_init_4 rfl (lv_at hl 0 rfl) ?_
    refine lv_bipush (v := 7) hx hb dX2_init_5 (by decide) ?_
    replace heq := gd_of heq
    obtain ⟨⟨g1k, g1n, g1z⟩, heq⟩ := heq
    refine nqX2_11 C hz hM hS g1k (by decide) (by decide) (by decide) (st4 g1n hc) (st5 g1z hsl) dX2_init_7 (fun H hM hS hz => ?_)
    obtain ⟨R2, eR2⟩ : ∃ z : mm_R, z = zR R N := ⟨_, rfl⟩
    replace heq := lt_to eR2 heq
    rw [← eR2] at hM
    obtain ⟨M3, eM3⟩ : ∃ z : mm_M, z = zM M N := ⟨_, rfl⟩
    replace heq := lt_to eM3 heq
    rw [← eM3] at hM
    obtain ⟨N4, eN4⟩ : ∃ z : Nat, z = N + 1 := ⟨_, rfl⟩
    replace heq := lt_to eN4 heq
    rw [← eN4] at hM hz
    have hc := st1 eN4 hc
    have l5 := st3 eN4
    have l6 := st2 ha eN4
    obtain ⟨Z7, eZ7⟩ : ∃ z : Nat, z = Z + 7 := ⟨_, rfl⟩
    replace heq := lt_to eZ7 heq
    have hsl := st1 eZ7 hsl
    refine pX2_13 C hM hS l6 h0 hin dX2_init_10 (fun H locs hM hS hz1 => ?_)
    have hz := hz1.trans hz
    obtain ⟨R8, eR8⟩ : ∃ z : mm_R, z = sR R2 a0 0 (some N) := ⟨_, rfl⟩
    replace heq := lt_to eR8 heq
    rw [← eR8] at hM
    refine lv_iconst (v := 0) hx hb dX2_init_13 (by decide) ?_
    refine lv_istore_n (lv' := [(1, .int 0), (0, .ref (mm_lo G + a0))]) hx hb dX2_init_14 rfl hl (by decide) rfl (fun ls hl => ?_)
    exact tX2_init_15 C hin a0 h0 FU _ _ _ _ _ _ _ _ _ _ hc hsl l6 hz hM hS (lv_sub hl [1, 0] rfl) heq
  exact key N0 Z0 rfl rfl ha hz hM heq

set_option maxRecDepth 100000 in
set_option maxHeartbeats 4000000 in
theorem tX6_init (l : Launch) (G : mm_G) (R : mm_R) (N0 Z0 : Nat) (M : mm_M) (ha : 0 < N0) (R9 : mm_R) (M9 : mm_M) (heq : fX6_init R N0 Z0 M (N0 + 730) (Z0 + 40517) = some (R9, M9)) : Met l yX6_init (mm_ws yX6_init cX6_init 1 none) rmX6_init (va_Pc [.ref (mm_lo G + 0)] (mm_Bc G (R, N0, M))) (mm_Qc G (R9, N0 + 730, M9)) 730 40517 (mm_A G) := by
  refine mm_metc (cc := cX6_init) (nL := 1) (ret := none) plRX6 (Nat.le_of_ble_eq_true rfl) ?_
  intro p e s m below meth c ls hin0 C hz hM hS hl
  have hin := hin0 rfl
  have C : mm_C G p s m _ meth c RX6 cX6_init 1 none := C
  have hM : mm_P G R N0 M s.heap := hM
  have hz : s.heap.size = mm_lo G + N0 := hz
  have hl : lv_has ls 1 [(0, .ref (mm_lo G + 0))] := hl
  obtain ⟨hx, hb, -, -, -, -, -, -, hZ, -⟩ := id C
  have key : ∀ N Z : Nat, N = N0 + 0 → Z = Z0 + 0 → 0 < N → s.heap.size = mm_lo G + N → mm_P G R N M s.heap → fX6_init R N Z M (N0 + 730) (Z0 + 40517) = some (R9, M9) → W p l e rmX6_init s m ([Value.ref (mm_lo G + 0)] : List Value).toArray below meth c s.heap [] 0 0 (MQ below (mm_Qc G (R9, N0 + 730, M9)) ([Value.ref (mm_lo G + 0)] : List Value).toArray s 730 40517 (mm_A G)) (F0 m 0 ls []) := by
    intro N Z hc hsl ha hz hM heq
    rw [fX6_init] at heq
    refine lv_aload_n hx hb dX6_init_0 rfl (lv_at hl 0 rfl) ?_
    refine mm_objInit C hl.1 oX6_1 wObj1 wObj2 (Nat.le_of_ble_eq_true rfl) (Nat.le_of_ble_eq_true rfl) dX6_init_1 ?_
    refine lv_aload_n hx hb dX6_init_4 rfl (lv_at hl 0 rfl) ?_
    replace heq := gd_of heq
    obtain ⟨⟨g1k, g1n, g1z⟩, heq⟩ := heq
    refine nX6_7 C hz hM hS g1k (st4 g1n hc) (st5 g1z hsl) dX6_init_5 (fun H hM hS hz => ?_)
    obtain ⟨R2, eR2⟩ : ∃ z : mm_R, z = zR R N := ⟨_, rfl⟩
    replace heq := lt_to eR2 heq
    rw [← eR2] at hM
    obtain ⟨M3, eM3⟩ : ∃ z : mm_M, z = zM M N := ⟨_, rfl⟩
    replace heq := lt_to eM3 heq
    rw [← eM3] at hM
    obtain ⟨N4, eN4⟩ : ∃ z : Nat, z = N + 1 := ⟨_, rfl⟩
    replace heq := lt_to eN4 heq
    rw [← eN4] at hM hz
    have hc := st1 eN4 hc
    have l5 := st2 ha eN4
    have l6 := st3 eN4
    obtain ⟨Z7, eZ7⟩ : ∃ z : Nat, z = Z + 15 := ⟨_, rfl⟩
    replace heq := lt_to eZ7 heq
    have hsl := st1 eZ7 hsl
    refine lv_dup hx hb dX6_init_8 rfl ?_
    replace heq := gd_of heq
    obtain ⟨⟨g8n, g8z⟩, heq⟩ := heq
    replace heq := bn2_of heq
    obtain ⟨R10, M11, e9, heq⟩ := heq
    refine iX6_9 C hz hM hS (tX5_init l G R2 N4 Z7 M3 N g1k l6 R10 M11 e9) hl.1 (Nat.le_of_ble_eq_true rfl) ⟨st5 g8n hc, st5 g8z hsl⟩ dX6_init_9 (fun H locs hM hS hz => ?_)
    have hM : mm_P G R10 (N4 + 65) M11 H := hM
    have hz : H.size = mm_lo G + (N4 + 65) := hz
    obtain ⟨N12, eN12⟩ : ∃ z : Nat, z = N4 + 65 := ⟨_, rfl⟩
    replace heq := lt_to eN12 heq
    rw [← eN12] at hM hz
    have hc := st1 eN12 hc
    have l13 := st2 l5 eN12
    have l14 := st2 l6 eN12
    obtain ⟨Z15, eZ15⟩ : ∃ z : Nat, z = Z7 + 3660 := ⟨_, rfl⟩
    replace heq := lt_to eZ15 heq
    have hsl := st1 eZ15 hsl
    refine pX6_10 C hM hS l13 (rfl : kT 0 = (5, 0)) hin dX6_init_12 (fun H locs hM hS hz1 => ?_)
    have hz := hz1.trans hz
    obtain ⟨R16, eR16⟩ : ∃ z : mm_R, z = sR R10 0 0 (some N) := ⟨_, rfl⟩
    replace heq := lt_to eR16 heq
    rw [← eR16] at hM
    refine lv_aload_n hx hb dX6_init_15 rfl (lv_at hl 0 rfl) ?_
    replace heq := gd_of heq
    obtain ⟨⟨g17k, g17n, g17z⟩, heq⟩ := heq
    refine nX6_7 C hz hM hS g17k (st4 g17n hc) (st5 g17z hsl) dX6_init_16 (fun H hM hS hz => ?_)
    obtain ⟨R18, eR18⟩ : ∃ z : mm_R, z = zR R16 N12 := ⟨_, rfl⟩
    replace heq := lt_to eR18 heq
    rw [← eR18] at hM
    obtain ⟨M19, eM19⟩ : ∃ z : mm_M, z = zM M11 N12 := ⟨_, rfl⟩
    replace heq := lt_to eM19 heq
    rw [← eM19] at hM
    obtain ⟨N20, eN20⟩ : ∃ z : Nat, z = N12 + 1 := ⟨_, rfl⟩
    replace heq := lt_to eN20 heq
    rw [← eN20] at hM hz
    have hc := st1 eN20 hc
    have l21 := st2 l13 eN20
    have l22 := st3 eN20
    obtain ⟨Z23, eZ23⟩ : ∃ z : Nat, z = Z15 + 15 := ⟨_, rfl⟩
    replace heq := lt_to eZ23 heq
    have hsl := st1 eZ23 hsl
    refine lv_dup hx hb dX6_init_19 rfl ?_
    replace heq := gd_of heq
    obtain ⟨⟨g24n, g24z⟩, heq⟩ := heq
    replace heq := bn2_of heq
    obtain ⟨R26, M27, e25, heq⟩ := heq
    refine iX6_9 C hz hM hS (tX5_init l G R18 N20 Z23 M19 N12 g17k l22 R26 M27 e25) hl.1 (Nat.le_of_ble_eq_true rfl) ⟨st5 g24n hc, st5 g24z hsl⟩ dX6_init_20 (fun H locs hM hS hz => ?_)
    have hM : mm_P G R26 (N20 + 65) M27 H := hM
    have hz : H.size = mm_lo G + (N20 + 65) := hz
    obtain ⟨N28, eN28⟩ : ∃ z : Nat, z = N20 + 65 := ⟨_, rfl⟩
    replace heq := lt_to eN28 heq
    rw [← eN28] at hM hz
    have hc := st1 eN28 hc
    have l29 := st2 l21 eN28
    have l30 := st2 l22 eN28
    obtain ⟨Z31, eZ31⟩ : ∃ z : Nat, z = Z23 + 3660 := ⟨_, rfl⟩
    replace heq := lt_to eZ31 heq
    have hsl := st1 eZ31 hsl
    refine pX6_16 C hM hS l29 (rfl : kT 0 = (5, 0)) hin dX6_init_23 (fun H locs hM hS hz1 => ?_)
    have hz := hz1.trans hz
    obtain ⟨R32, eR32⟩ : ∃ z : mm_R, z = sR R26 0 1 (some N12) := ⟨_, rfl⟩
    replace heq := lt_to eR32 heq
    rw [← eR32] at hM
    refine lv_aload_n hx hb dX6_init_26 rfl (lv_at hl 0 rfl) ?_
    replace heq := gd_of heq
    obtain ⟨⟨g33k, g33n, g33z⟩, heq⟩ := heq
    refine nX6_19 C hz hM hS g33k (st4 g33n hc) (st5 g33z hsl) dX6_init_27 (fun H hM hS hz => ?_)
    obtain ⟨R34, eR34⟩ : ∃ z : mm_R, z = zR R32 N28 := ⟨_, rfl⟩
    replace heq := lt_to eR34 heq
    rw [← eR34] at hM
    obtain ⟨M35, eM35⟩ : ∃ z : mm_M, z = zM M27 N28 := ⟨_, rfl⟩
    replace heq := lt_to eM35 heq
    rw [← eM35] at hM
    obtain ⟨N36, eN36⟩ : ∃ z : Nat, z = N28 + 1 := ⟨_, rfl⟩
    replace heq := lt_to eN36 heq
    rw [← eN36] at hM hz
    have hc := st1 eN36 hc
    have l37 := st2 l29 eN36
    have l38 := st3 eN36
    obtain ⟨Z39, eZ39⟩ : ∃ z : Nat, z = Z31 + 3 := ⟨_, rfl⟩
    replace heq := lt_to eZ39 heq
    have hsl := st1 eZ39 hsl
    refine lv_dup hx hb dX6_init_30 rfl ?_
    replace heq := gd_of heq
    obtain ⟨⟨g40n, g40z⟩, heq⟩ := heq
    replace heq := bn2_of heq
    obtain ⟨R42, M43, e41, heq⟩ := heq
    refine iX6_21 C hz hM hS (tX2_init l G R34 N36 Z39 M35 N28 g33k l38 R42 M43 e41) hl.1 (Nat.le_of_ble_eq_true rfl) ⟨st5 g40n hc, st5 g40z hsl⟩ dX6_init_31 (fun H locs hM hS hz => ?_)
    have hM : mm_P G R42 (N36 + 463) M43 H := hM
    have hz : H.size = mm_lo G + (N36 + 463) := hz
    obtain ⟨N44, eN44⟩ : ∃ z : Nat, z = N36 + 463 := ⟨_, rfl⟩
    replace heq := lt_to eN44 heq
    rw [← eN44] at hM hz
    have hc := st1 eN44 hc
    have l45 := st2 l37 eN44
    have l46 := st2 l38 eN44
    obtain ⟨Z47, eZ47⟩ : ∃ z : Nat, z = Z39 + 25732 := ⟨_, rfl⟩
    replace heq := lt_to eZ47 heq
    have hsl := st1 eZ47 hsl
    refine pX6_22 C hM hS l45 (rfl : kT 0 = (5, 0)) hin dX6_init_34 (fun H locs hM hS hz1 => ?_)
    have hz := hz1.trans hz
    obtain ⟨R48, eR48⟩ : ∃ z : mm_R, z = sR R42 0 2 (some N28) := ⟨_, rfl⟩
    replace heq := lt_to eR48 heq
    rw [← eR48] at hM
    refine lv_aload_n hx hb dX6_init_37 rfl (lv_at hl 0 rfl) ?_
    replace heq := gd_of heq
    obtain ⟨⟨g49k, g49n, g49z⟩, heq⟩ := heq
    refine nX6_7 C hz hM hS g49k (st4 g49n hc) (st5 g49z hsl) dX6_init_38 (fun H hM hS hz => ?_)
    obtain ⟨R50, eR50⟩ : ∃ z : mm_R, z = zR R48 N44 := ⟨_, rfl⟩
    replace heq := lt_to eR50 heq
    rw [← eR50] at hM
    obtain ⟨M51, eM51⟩ : ∃ z : mm_M, z = zM M43 N44 := ⟨_, rfl⟩
    replace heq := lt_to eM51 heq
    rw [← eM51] at hM
    obtain ⟨N52, eN52⟩ : ∃ z : Nat, z = N44 + 1 := ⟨_, rfl⟩
    replace heq := lt_to eN52 heq
    rw [← eN52] at hM hz
    have hc := st1 eN52 hc
    have l53 := st2 l45 eN52
    have l54 := st3 eN52
    obtain ⟨Z55, eZ55⟩ : ∃ z : Nat, z = Z47 + 15 := ⟨_, rfl⟩
    replace heq := lt_to eZ55 heq
    have hsl := st1 eZ55 hsl
    refine lv_dup hx hb dX6_init_41 rfl ?_
    replace heq := gd_of heq
    obtain ⟨⟨g56n, g56z⟩, heq⟩ := heq
    replace heq := bn2_of heq
    obtain ⟨R58, M59, e57, heq⟩ := heq
    refine iX6_9 C hz hM hS (tX5_init l G R50 N52 Z55 M51 N44 g49k l54 R58 M59 e57) hl.1 (Nat.le_of_ble_eq_true rfl) ⟨st5 g56n hc, st5 g56z hsl⟩ dX6_init_42 (fun H locs hM hS hz => ?_)
    have hM : mm_P G R58 (N52 + 65) M59 H := hM
    have hz : H.size = mm_lo G + (N52 + 65) := hz
    obtain ⟨N60, eN60⟩ : ∃ z : Nat, z = N52 + 65 := ⟨_, rfl⟩
    replace heq := lt_to eN60 heq
    rw [← eN60] at hM hz
    have hc := st1 eN60 hc
    have l61 := st2 l53 eN60
    have l62 := st2 l54 eN60
    obtain ⟨Z63, eZ63⟩ : ∃ z : Nat, z = Z55 + 3660 := ⟨_, rfl⟩
    replace heq := lt_to eZ63 heq
    have hsl := st1 eZ63 hsl
    refine pX6_26 C hM hS l61 (rfl : kT 0 = (5, 0)) hin dX6_init_45 (fun H locs hM hS hz1 => ?_)
    have hz := hz1.trans hz
    obtain ⟨R64, eR64⟩ : ∃ z : mm_R, z = sR R58 0 3 (some N44) := ⟨_, rfl⟩
    replace heq := lt_to eR64 heq
    rw [← eR64] at hM
    refine lv_aload_n hx hb dX6_init_48 rfl (lv_at hl 0 rfl) ?_
    replace heq := gd_of heq
    obtain ⟨⟨g65k, g65n, g65z⟩, heq⟩ := heq
    refine nX6_7 C hz hM hS g65k (st4 g65n hc) (st5 g65z hsl) dX6_init_49 (fun H hM hS hz => ?_)
    obtain ⟨R66, eR66⟩ : ∃ z : mm_R, z = zR R64 N60 := ⟨_, rfl⟩
    replace heq := lt_to eR66 heq
    rw [← eR66] at hM
    obtain ⟨M67, eM67⟩ : ∃ z : mm_M, z = zM M59 N60 := ⟨_, rfl⟩
    replace heq := lt_to eM67 heq
    rw [← eM67] at hM
    obtain ⟨N68, eN68⟩ : ∃ z : Nat, z = N60 + 1 := ⟨_, rfl⟩
    replace heq := lt_to eN68 heq
    rw [← eN68] at hM hz
    have hc := st1 eN68 hc
    have l69 := st2 l61 eN68
    have l70 := st3 eN68
    obtain ⟨Z71, eZ71⟩ : ∃ z : Nat, z = Z63 + 15 := ⟨_, rfl⟩
    replace heq := lt_to eZ71 heq
    have hsl := st1 eZ71 hsl
    refine lv_dup hx hb dX6_init_52 rfl ?_
    replace heq := gd_of heq
    obtain ⟨⟨g72n, g72z⟩, heq⟩ := heq
    replace heq := bn2_of heq
    obtain ⟨R74, M75, e73, heq⟩ := heq
    refine iX6_9 C hz hM hS (tX5_init l G R66 N68 Z71 M67 N60 g65k l70 R74 M75 e73) hl.1 (Nat.le_of_ble_eq_true rfl) ⟨st5 g72n hc, st5 g72z hsl⟩ dX6_init_53 (fun H locs hM hS hz => ?_)
    have hM : mm_P G R74 (N68 + 65) M75 H := hM
    have hz : H.size = mm_lo G + (N68 + 65) := hz
    obtain ⟨N76, eN76⟩ : ∃ z : Nat, z = N68 + 65 := ⟨_, rfl⟩
    replace heq := lt_to eN76 heq
    rw [← eN76] at hM hz
    have hc := st1 eN76 hc
    have l77 := st2 l69 eN76
    have l78 := st2 l70 eN76
    obtain ⟨Z79, eZ79⟩ : ∃ z : Nat, z = Z71 + 3660 := ⟨_, rfl⟩
    replace heq := lt_to eZ79 heq
    have hsl := st1 eZ79 hsl
    refine pX6_29 C hM hS l77 (rfl : kT 0 = (5, 0)) hin dX6_init_56 (fun H locs hM hS hz1 => ?_)
    have hz := hz1.trans hz
    obtain ⟨R80, eR80⟩ : ∃ z : mm_R, z = sR R74 0 4 (some N60) := ⟨_, rfl⟩
    replace heq := lt_to eR80 heq
    rw [← eR80] at hM
    refine lv_aload_n hx hb dX6_init_59 rfl (lv_at hl 0 rfl) ?_
    replace heq := gd_of heq
    obtain ⟨⟨g81k, g81n, g81z⟩, heq⟩ := heq
    refine nX6_32 C hz hM hS g81k (st4 g81n hc) (st5 g81z hsl) dX6_init_60 (fun H hM hS hz => ?_)
    obtain ⟨R82, eR82⟩ : ∃ z : mm_R, z = zR R80 N76 := ⟨_, rfl⟩
    replace heq := lt_to eR82 heq
    rw [← eR82] at hM
    obtain ⟨M83, eM83⟩ : ∃ z : mm_M, z = zM M75 N76 := ⟨_, rfl⟩
    replace heq := lt_to eM83 heq
    rw [← eM83] at hM
    obtain ⟨N84, eN84⟩ : ∃ z : Nat, z = N76 + 1 := ⟨_, rfl⟩
    replace heq := lt_to eN84 heq
    rw [← eN84] at hM hz
    have hc := st1 eN84 hc
    have l85 := st2 l77 eN84
    have l86 := st3 eN84
    obtain ⟨Z87, eZ87⟩ : ∃ z : Nat, z = Z79 + 2 := ⟨_, rfl⟩
    replace heq := lt_to eZ87 heq
    have hsl := st1 eZ87 hsl
    refine lv_dup hx hb dX6_init_63 rfl ?_
    replace heq := gd_of heq
    obtain ⟨⟨g88n, g88z⟩, heq⟩ := heq
    replace heq := bn2_of heq
    obtain ⟨R90, M91, e89, heq⟩ := heq
    refine iX6_34 C hz hM hS (tX3_init l G R82 N84 Z87 M83 N76 g81k l86 R90 M91 e89) hl.1 (Nat.le_of_ble_eq_true rfl) ⟨st5 g88n hc, st5 g88z hsl⟩ dX6_init_64 (fun H locs hM hS hz => ?_)
    have hM : mm_P G R90 (N84 + 1) M91 H := hM
    have hz : H.size = mm_lo G + (N84 + 1) := hz
    obtain ⟨N92, eN92⟩ : ∃ z : Nat, z = N84 + 1 := ⟨_, rfl⟩
    replace heq := lt_to eN92 heq
    rw [← eN92] at hM hz
    have hc := st1 eN92 hc
    have l93 := st2 l85 eN92
    have l94 := st2 l86 eN92
    obtain ⟨Z95, eZ95⟩ : ∃ z : Nat, z = Z87 + 80 := ⟨_, rfl⟩
    replace heq := lt_to eZ95 heq
    have hsl := st1 eZ95 hsl
    refine pX6_35 C hM hS l93 (rfl : kT 0 = (5, 0)) hin dX6_init_67 (fun H locs hM hS hz1 => ?_)
    have hz := hz1.trans hz
    obtain ⟨R96, eR96⟩ : ∃ z : mm_R, z = sR R90 0 5 (some N76) := ⟨_, rfl⟩
    replace heq := lt_to eR96 heq
    rw [← eR96] at hM
    replace heq := gd_of heq
    obtain ⟨⟨qn, qz⟩, heq⟩ := heq
    have fz := hz
    have fM := hM
    have fS := hS
    rw [qn] at fz fM
    cases heq
    refine W.cs (cells' := 730) (slots' := 40517) (st6 qn hc) (st6 qz hsl) ?_
    exact mm_cret C fz fM fS dX6_init_70
  exact key N0 Z0 rfl rfl ha hz hM heq

set_option maxRecDepth 100000 in
set_option maxHeartbeats 4000000 in
theorem tX7_init (l : Launch) (G : mm_G) (R : mm_R) (N0 Z0 : Nat) (M : mm_M) (ha : 731 < N0) (R9 : mm_R) (M9 : mm_M) (heq : fX7_init R N0 Z0 M (N0 + 8) (Z0 + 36147) = some (R9, M9)) : Met l yX7_init (mm_ws yX7_init cX7_init 1 none) rmX7_init (va_Pc [.ref (mm_lo G + 731)] (mm_Bc G (R, N0, M))) (mm_Qc G (R9, N0 + 8, M9)) 8 36147 (mm_A G) := by
  refine mm_metc (cc := cX7_init) (nL := 1) (ret := none) plRX7 (Nat.le_of_ble_eq_true rfl) ?_
  intro p e s m below meth c ls hin0 C hz hM hS hl
  have hin := hin0 rfl
  have C : mm_C G p s m _ meth c RX7 cX7_init 1 none := C
  have hM : mm_P G R N0 M s.heap := hM
  have hz : s.heap.size = mm_lo G + N0 := hz
  have hl : lv_has ls 1 [(0, .ref (mm_lo G + 731))] := hl
  obtain ⟨hx, hb, -, -, -, -, -, -, hZ, -⟩ := id C
  have key : ∀ N Z : Nat, N = N0 + 0 → Z = Z0 + 0 → 731 < N → s.heap.size = mm_lo G + N → mm_P G R N M s.heap → fX7_init R N Z M (N0 + 8) (Z0 + 36147) = some (R9, M9) → W p l e rmX7_init s m ([Value.ref (mm_lo G + 731)] : List Value).toArray below meth c s.heap [] 0 0 (MQ below (mm_Qc G (R9, N0 + 8, M9)) ([Value.ref (mm_lo G + 731)] : List Value).toArray s 8 36147 (mm_A G)) (F0 m 0 ls []) := by
    intro N Z hc hsl ha hz hM heq
    rw [fX7_init] at heq
    refine lv_aload_n hx hb dX7_init_0 rfl (lv_at hl 0 rfl) ?_
    refine mm_objInit C hl.1 oX7_1 wObj1 wObj2 (Nat.le_of_ble_eq_true rfl) (Nat.le_of_ble_eq_true rfl) dX7_init_1 ?_
    refine lv_aload_n hx hb dX7_init_4 rfl (lv_at hl 0 rfl) ?_
    refine lv_sipush (v := 3592) hx hb dX7_init_5 (by decide) ?_
    replace heq := gd_of heq
    obtain ⟨⟨g1k, g1n, g1z⟩, heq⟩ := heq
    refine na8 C hz hM hS g1k (by decide) (by decide) (by decide) (st4 g1n hc) (st5 g1z hsl) dX7_init_8 (fun H hM hS hz => ?_)
    obtain ⟨R2, eR2⟩ : ∃ z : mm_R, z = zR R N := ⟨_, rfl⟩
    replace heq := lt_to eR2 heq
    rw [← eR2] at hM
    obtain ⟨M3, eM3⟩ : ∃ z : mm_M, z = zM M N := ⟨_, rfl⟩
    replace heq := lt_to eM3 heq
    rw [← eM3] at hM
    obtain ⟨N4, eN4⟩ : ∃ z : Nat, z = N + 1 := ⟨_, rfl⟩
    replace heq := lt_to eN4 heq
    rw [← eN4] at hM hz
    have hc := st1 eN4 hc
    have l5 := st2 ha eN4
    have l6 := st3 eN4
    obtain ⟨Z7, eZ7⟩ : ∃ z : Nat, z = Z + 3592 := ⟨_, rfl⟩
    replace heq := lt_to eZ7 heq
    have hsl := st1 eZ7 hsl
    refine pX7_7 C hM hS l5 (rfl : kT 731 = (6, 0)) hin dX7_init_10 (fun H locs hM hS hz1 => ?_)
    have hz := hz1.trans hz
    obtain ⟨R8, eR8⟩ : ∃ z : mm_R, z = sR R2 731 0 (some N) := ⟨_, rfl⟩
    replace heq := lt_to eR8 heq
    rw [← eR8] at hM
    refine lv_aload_n hx hb dX7_init_13 rfl (lv_at hl 0 rfl) ?_
    refine lv_sipush (v := 21552) hx hb dX7_init_14 (by decide) ?_
    replace heq := gd_of heq
    obtain ⟨⟨g9k, g9n, g9z⟩, heq⟩ := heq
    refine na8 C hz hM hS g9k (by decide) (by decide) (by decide) (st4 g9n hc) (st5 g9z hsl) dX7_init_17 (fun H hM hS hz => ?_)
    obtain ⟨R10, eR10⟩ : ∃ z : mm_R, z = zR R8 N4 := ⟨_, rfl⟩
    replace heq := lt_to eR10 heq
    rw [← eR10] at hM
    obtain ⟨M11, eM11⟩ : ∃ z : mm_M, z = zM M3 N4 := ⟨_, rfl⟩
    replace heq := lt_to eM11 heq
    rw [← eM11] at hM
    obtain ⟨N12, eN12⟩ : ∃ z : Nat, z = N4 + 1 := ⟨_, rfl⟩
    replace heq := lt_to eN12 heq
    rw [← eN12] at hM hz
    have hc := st1 eN12 hc
    have l13 := st2 l5 eN12
    have l14 := st3 eN12
    obtain ⟨Z15, eZ15⟩ : ∃ z : Nat, z = Z7 + 21552 := ⟨_, rfl⟩
    replace heq := lt_to eZ15 heq
    have hsl := st1 eZ15 hsl
    refine pX7_13 C hM hS l13 (rfl : kT 731 = (6, 0)) hin dX7_init_19 (fun H locs hM hS hz1 => ?_)
    have hz := hz1.trans hz
    obtain ⟨R16, eR16⟩ : ∃ z : mm_R, z = sR R10 731 1 (some N4) := ⟨_, rfl⟩
    replace heq := lt_to eR16 heq
    rw [← eR16] at hM
    refine lv_aload_n hx hb dX7_init_22 rfl (lv_at hl 0 rfl) ?_
    refine lv_sipush (v := 7184) hx hb dX7_init_23 (by decide) ?_
    replace heq := gd_of heq
    obtain ⟨⟨g17k, g17n, g17z⟩, heq⟩ := heq
    refine na8 C hz hM hS g17k (by decide) (by decide) (by decide) (st4 g17n hc) (st5 g17z hsl) dX7_init_26 (fun H hM hS hz => ?_)
    obtain ⟨R18, eR18⟩ : ∃ z : mm_R, z = zR R16 N12 := ⟨_, rfl⟩
    replace heq := lt_to eR18 heq
    rw [← eR18] at hM
    obtain ⟨M19, eM19⟩ : ∃ z : mm_M, z = zM M11 N12 := ⟨_, rfl⟩
    replace heq := lt_to eM19 heq
    rw [← eM19] at hM
    obtain ⟨N20, eN20⟩ : ∃ z : Nat, z = N12 + 1 := ⟨_, rfl⟩
    replace heq := lt_to eN20 heq
    rw [← eN20] at hM hz
    have hc := st1 eN20 hc
    have l21 := st2 l13 eN20
    have l22 := st3 eN20
    obtain ⟨Z23, eZ23⟩ : ∃ z : Nat, z = Z15 + 7184 := ⟨_, rfl⟩
    replace heq := lt_to eZ23 heq
    have hsl := st1 eZ23 hsl
    refine pX7_16 C hM hS l21 (rfl : kT 731 = (6, 0)) hin dX7_init_28 (fun H locs hM hS hz1 => ?_)
    have hz := hz1.trans hz
    obtain ⟨R24, eR24⟩ : ∃ z : mm_R, z = sR R18 731 3 (some N12) := ⟨_, rfl⟩
    replace heq := lt_to eR24 heq
    rw [← eR24] at hM
    refine lv_aload_n hx hb dX7_init_31 rfl (lv_at hl 0 rfl) ?_
    refine lv_iconst (v := 2) hx hb dX7_init_32 (by decide) ?_
    replace heq := gd_of heq
    obtain ⟨⟨g25k, g25n, g25z⟩, heq⟩ := heq
    refine na9 C hz hM hS g25k (by decide) (by decide) (by decide) (st4 g25n hc) (st5 g25z hsl) dX7_init_33 (fun H hM hS hz => ?_)
    obtain ⟨R26, eR26⟩ : ∃ z : mm_R, z = zR R24 N20 := ⟨_, rfl⟩
    replace heq := lt_to eR26 heq
    rw [← eR26] at hM
    obtain ⟨M27, eM27⟩ : ∃ z : mm_M, z = zM M19 N20 := ⟨_, rfl⟩
    replace heq := lt_to eM27 heq
    rw [← eM27] at hM
    obtain ⟨N28, eN28⟩ : ∃ z : Nat, z = N20 + 1 := ⟨_, rfl⟩
    replace heq := lt_to eN28 heq
    rw [← eN28] at hM hz
    have hc := st1 eN28 hc
    have l29 := st2 l21 eN28
    have l30 := st3 eN28
    obtain ⟨Z31, eZ31⟩ : ∃ z : Nat, z = Z23 + 2 := ⟨_, rfl⟩
    replace heq := lt_to eZ31 heq
    have hsl := st1 eZ31 hsl
    refine pX7_19 C hM hS l29 (rfl : kT 731 = (6, 0)) hin dX7_init_35 (fun H locs hM hS hz1 => ?_)
    have hz := hz1.trans hz
    obtain ⟨R32, eR32⟩ : ∃ z : mm_R, z = sR R26 731 4 (some N20) := ⟨_, rfl⟩
    replace heq := lt_to eR32 heq
    rw [← eR32] at hM
    refine lv_aload_n hx hb dX7_init_38 rfl (lv_at hl 0 rfl) ?_
    refine lv_sipush (v := 3592) hx hb dX7_init_39 (by decide) ?_
    replace heq := gd_of heq
    obtain ⟨⟨g33k, g33n, g33z⟩, heq⟩ := heq
    refine na8 C hz hM hS g33k (by decide) (by decide) (by decide) (st4 g33n hc) (st5 g33z hsl) dX7_init_42 (fun H hM hS hz => ?_)
    obtain ⟨R34, eR34⟩ : ∃ z : mm_R, z = zR R32 N28 := ⟨_, rfl⟩
    replace heq := lt_to eR34 heq
    rw [← eR34] at hM
    obtain ⟨M35, eM35⟩ : ∃ z : mm_M, z = zM M27 N28 := ⟨_, rfl⟩
    replace heq := lt_to eM35 heq
    rw [← eM35] at hM
    obtain ⟨N36, eN36⟩ : ∃ z : Nat, z = N28 + 1 := ⟨_, rfl⟩
    replace heq := lt_to eN36 heq
    rw [← eN36] at hM hz
    have hc := st1 eN36 hc
    have l37 := st2 l29 eN36
    have l38 := st3 eN36
    obtain ⟨Z39, eZ39⟩ : ∃ z : Nat, z = Z31 + 3592 := ⟨_, rfl⟩
    replace heq := lt_to eZ39 heq
    have hsl := st1 eZ39 hsl
    refine pX7_23 C hM hS l37 (rfl : kT 731 = (6, 0)) hin dX7_init_44 (fun H locs hM hS hz1 => ?_)
    have hz := hz1.trans hz
    obtain ⟨R40, eR40⟩ : ∃ z : mm_R, z = sR R34 731 5 (some N28) := ⟨_, rfl⟩
    replace heq := lt_to eR40 heq
    rw [← eR40] at hM
    refine lv_aload_n hx hb dX7_init_47 rfl (lv_at hl 0 rfl) ?_
    refine lv_bipush (v := 80) hx hb dX7_init_48 (by decide) ?_
    replace heq := gd_of heq
    obtain ⟨⟨g41k, g41n, g41z⟩, heq⟩ := heq
    refine na8 C hz hM hS g41k (by decide) (by decide) (by decide) (st4 g41n hc) (st5 g41z hsl) dX7_init_50 (fun H hM hS hz => ?_)
    obtain ⟨R42, eR42⟩ : ∃ z : mm_R, z = zR R40 N36 := ⟨_, rfl⟩
    replace heq := lt_to eR42 heq
    rw [← eR42] at hM
    obtain ⟨M43, eM43⟩ : ∃ z : mm_M, z = zM M35 N36 := ⟨_, rfl⟩
    replace heq := lt_to eM43 heq
    rw [← eM43] at hM
    obtain ⟨N44, eN44⟩ : ∃ z : Nat, z = N36 + 1 := ⟨_, rfl⟩
    replace heq := lt_to eN44 heq
    rw [← eN44] at hM hz
    have hc := st1 eN44 hc
    have l45 := st2 l37 eN44
    have l46 := st3 eN44
    obtain ⟨Z47, eZ47⟩ : ∃ z : Nat, z = Z39 + 80 := ⟨_, rfl⟩
    replace heq := lt_to eZ47 heq
    have hsl := st1 eZ47 hsl
    refine pX7_26 C hM hS l45 (rfl : kT 731 = (6, 0)) hin dX7_init_52 (fun H locs hM hS hz1 => ?_)
    have hz := hz1.trans hz
    obtain ⟨R48, eR48⟩ : ∃ z : mm_R, z = sR R42 731 6 (some N36) := ⟨_, rfl⟩
    replace heq := lt_to eR48 heq
    rw [← eR48] at hM
    refine lv_aload_n hx hb dX7_init_55 rfl (lv_at hl 0 rfl) ?_
    refine lv_bipush (v := 29) hx hb dX7_init_56 (by decide) ?_
    replace heq := gd_of heq
    obtain ⟨⟨g49k, g49n, g49z⟩, heq⟩ := heq
    refine na8 C hz hM hS g49k (by decide) (by decide) (by decide) (st4 g49n hc) (st5 g49z hsl) dX7_init_58 (fun H hM hS hz => ?_)
    obtain ⟨R50, eR50⟩ : ∃ z : mm_R, z = zR R48 N44 := ⟨_, rfl⟩
    replace heq := lt_to eR50 heq
    rw [← eR50] at hM
    obtain ⟨M51, eM51⟩ : ∃ z : mm_M, z = zM M43 N44 := ⟨_, rfl⟩
    replace heq := lt_to eM51 heq
    rw [← eM51] at hM
    obtain ⟨N52, eN52⟩ : ∃ z : Nat, z = N44 + 1 := ⟨_, rfl⟩
    replace heq := lt_to eN52 heq
    rw [← eN52] at hM hz
    have hc := st1 eN52 hc
    have l53 := st2 l45 eN52
    have l54 := st3 eN52
    obtain ⟨Z55, eZ55⟩ : ∃ z : Nat, z = Z47 + 29 := ⟨_, rfl⟩
    replace heq := lt_to eZ55 heq
    have hsl := st1 eZ55 hsl
    refine pX7_29 C hM hS l53 (rfl : kT 731 = (6, 0)) hin dX7_init_60 (fun H locs hM hS hz1 => ?_)
    have hz := hz1.trans hz
    obtain ⟨R56, eR56⟩ : ∃ z : mm_R, z = sR R50 731 13 (some N44) := ⟨_, rfl⟩
    replace heq := lt_to eR56 heq
    rw [← eR56] at hM
    refine lv_aload_n hx hb dX7_init_63 rfl (lv_at hl 0 rfl) ?_
    refine lv_bipush (v := 116) hx hb dX7_init_64 (by decide) ?_
    replace heq := gd_of heq
    obtain ⟨⟨g57k, g57n, g57z⟩, heq⟩ := heq
    refine na8 C hz hM hS g57k (by decide) (by decide) (by decide) (st4 g57n hc) (st5 g57z hsl) dX7_init_66 (fun H hM hS hz => ?_)
    obtain ⟨R58, eR58⟩ : ∃ z : mm_R, z = zR R56 N52 := ⟨_, rfl⟩
    replace heq := lt_to eR58 heq
    rw [← eR58] at hM
    obtain ⟨M59, eM59⟩ : ∃ z : mm_M, z = zM M51 N52 := ⟨_, rfl⟩
    replace heq := lt_to eM59 heq
    rw [← eM59] at hM
    obtain ⟨N60, eN60⟩ : ∃ z : Nat, z = N52 + 1 := ⟨_, rfl⟩
    replace heq := lt_to eN60 heq
    rw [← eN60] at hM hz
    have hc := st1 eN60 hc
    have l61 := st2 l53 eN60
    have l62 := st3 eN60
    obtain ⟨Z63, eZ63⟩ : ∃ z : Nat, z = Z55 + 116 := ⟨_, rfl⟩
    replace heq := lt_to eZ63 heq
    have hsl := st1 eZ63 hsl
    refine pX7_32 C hM hS l61 (rfl : kT 731 = (6, 0)) hin dX7_init_68 (fun H locs hM hS hz1 => ?_)
    have hz := hz1.trans hz
    obtain ⟨R64, eR64⟩ : ∃ z : mm_R, z = sR R58 731 14 (some N52) := ⟨_, rfl⟩
    replace heq := lt_to eR64 heq
    rw [← eR64] at hM
    refine lv_aload_n hx hb dX7_init_71 rfl (lv_at hl 0 rfl) ?_
    replace heq := gd_of heq
    obtain ⟨⟨g65r, g65n⟩, heq⟩ := heq
    refine gX7_7 C hM l61 (rfl : kT 731 = (6, 0)) g65r dX7_init_72 ?_
    refine lv_iconst (v := 0) hx hb dX7_init_75 (by decide) ?_
    refine lv_bipush (v := 8) hx hb dX7_init_76 (by decide) ?_
    refine mm_istk C hM hS g65n (rfl : kT 732 = (8, 3592)) (vp_in_of2 (by decide)) (by decide : (0 : Int32).toNatClampNeg = 0) dX7_init_78 (fun H locs hM hS hz1 => ?_)
    have hz := hz1.trans hz
    obtain ⟨M66, eM66⟩ : ∃ z : mm_M, z = sI M59 732 0 8 := ⟨_, rfl⟩
    replace heq := lt_to eM66 heq
    rw [← eM66] at hM
    refine lv_aload_n hx hb dX7_init_79 rfl (lv_at hl 0 rfl) ?_
    replace heq := gd_of heq
    obtain ⟨⟨g67r, g67n⟩, heq⟩ := heq
    refine gX7_7 C hM l61 (rfl : kT 731 = (6, 0)) g67r dX7_init_80 ?_
    refine lv_iconst (v := 1) hx hb dX7_init_83 (by decide) ?_
    refine lv_bipush (v := 60) hx hb dX7_init_84 (by decide) ?_
    refine mm_istk C hM hS g67n (rfl : kT 732 = (8, 3592)) (vp_in_of2 (by decide)) (by decide : (1 : Int32).toNatClampNeg = 1) dX7_init_86 (fun H locs hM hS hz1 => ?_)
    have hz := hz1.trans hz
    obtain ⟨M68, eM68⟩ : ∃ z : mm_M, z = sI M66 732 1 60 := ⟨_, rfl⟩
    replace heq := lt_to eM68 heq
    rw [← eM68] at hM
    refine lv_aload_n hx hb dX7_init_87 rfl (lv_at hl 0 rfl) ?_
    replace heq := gd_of heq
    obtain ⟨⟨g69r, g69n⟩, heq⟩ := heq
    refine gX7_7 C hM l61 (rfl : kT 731 = (6, 0)) g69r dX7_init_88 ?_
    refine lv_iconst (v := 2) hx hb dX7_init_91 (by decide) ?_
    refine lv_iconst (v := 2) hx hb dX7_init_92 (by decide) ?_
    refine mm_istk C hM hS g69n (rfl : kT 732 = (8, 3592)) (vp_in_of2 (by decide)) (by decide : (2 : Int32).toNatClampNeg = 2) dX7_init_93 (fun H locs hM hS hz1 => ?_)
    have hz := hz1.trans hz
    obtain ⟨M70, eM70⟩ : ∃ z : mm_M, z = sI M68 732 2 2 := ⟨_, rfl⟩
    replace heq := lt_to eM70 heq
    rw [← eM70] at hM
    refine lv_aload_n hx hb dX7_init_94 rfl (lv_at hl 0 rfl) ?_
    replace heq := gd_of heq
    obtain ⟨⟨g71r, g71n⟩, heq⟩ := heq
    refine gX7_7 C hM l61 (rfl : kT 731 = (6, 0)) g71r dX7_init_95 ?_
    refine lv_iconst (v := 3) hx hb dX7_init_98 (by decide) ?_
    refine lv_bipush (v := 12) hx hb dX7_init_99 (by decide) ?_
    refine mm_istk C hM hS g71n (rfl : kT 732 = (8, 3592)) (vp_in_of2 (by decide)) (by decide : (3 : Int32).toNatClampNeg = 3) dX7_init_101 (fun H locs hM hS hz1 => ?_)
    have hz := hz1.trans hz
    obtain ⟨M72, eM72⟩ : ∃ z : mm_M, z = sI M70 732 3 12 := ⟨_, rfl⟩
    replace heq := lt_to eM72 heq
    rw [← eM72] at hM
    refine lv_aload_n hx hb dX7_init_102 rfl (lv_at hl 0 rfl) ?_
    replace heq := gd_of heq
    obtain ⟨⟨g73r, g73n⟩, heq⟩ := heq
    refine gX7_7 C hM l61 (rfl : kT 731 = (6, 0)) g73r dX7_init_103 ?_
    refine lv_iconst (v := 4) hx hb dX7_init_106 (by decide) ?_
    refine lv_bipush (v := 14) hx hb dX7_init_107 (by decide) ?_
    refine mm_istk C hM hS g73n (rfl : kT 732 = (8, 3592)) (vp_in_of2 (by decide)) (by decide : (4 : Int32).toNatClampNeg = 4) dX7_init_109 (fun H locs hM hS hz1 => ?_)
    have hz := hz1.trans hz
    obtain ⟨M74, eM74⟩ : ∃ z : mm_M, z = sI M72 732 4 14 := ⟨_, rfl⟩
    replace heq := lt_to eM74 heq
    rw [← eM74] at hM
    refine lv_aload_n hx hb dX7_init_110 rfl (lv_at hl 0 rfl) ?_
    replace heq := gd_of heq
    obtain ⟨⟨g75r, g75n⟩, heq⟩ := heq
    refine gX7_7 C hM l61 (rfl : kT 731 = (6, 0)) g75r dX7_init_111 ?_
    refine lv_iconst (v := 5) hx hb dX7_init_114 (by decide) ?_
    refine lv_bipush (v := 90) hx hb dX7_init_115 (by decide) ?_
    refine mm_istk C hM hS g75n (rfl : kT 732 = (8, 3592)) (vp_in_of2 (by decide)) (by decide : (5 : Int32).toNatClampNeg = 5) dX7_init_117 (fun H locs hM hS hz1 => ?_)
    have hz := hz1.trans hz
    obtain ⟨M76, eM76⟩ : ∃ z : mm_M, z = sI M74 732 5 90 := ⟨_, rfl⟩
    replace heq := lt_to eM76 heq
    rw [← eM76] at hM
    refine lv_aload_n hx hb dX7_init_118 rfl (lv_at hl 0 rfl) ?_
    replace heq := gd_of heq
    obtain ⟨⟨g77r, g77n⟩, heq⟩ := heq
    refine gX7_7 C hM l61 (rfl : kT 731 = (6, 0)) g77r dX7_init_119 ?_
    refine lv_bipush (v := 6) hx hb dX7_init_122 (by decide) ?_
    refine lv_sipush (v := 500) hx hb dX7_init_124 (by decide) ?_
    refine mm_istk C hM hS g77n (rfl : kT 732 = (8, 3592)) (vp_in_of2 (by decide)) (by decide : (6 : Int32).toNatClampNeg = 6) dX7_init_127 (fun H locs hM hS hz1 => ?_)
    have hz := hz1.trans hz
    obtain ⟨M78, eM78⟩ : ∃ z : mm_M, z = sI M76 732 6 500 := ⟨_, rfl⟩
    replace heq := lt_to eM78 heq
    rw [← eM78] at hM
    refine lv_aload_n hx hb dX7_init_128 rfl (lv_at hl 0 rfl) ?_
    replace heq := gd_of heq
    obtain ⟨⟨g79r, g79n⟩, heq⟩ := heq
    refine gX7_7 C hM l61 (rfl : kT 731 = (6, 0)) g79r dX7_init_129 ?_
    refine lv_bipush (v := 7) hx hb dX7_init_132 (by decide) ?_
    refine lv_iconst (v := 2) hx hb dX7_init_134 (by decide) ?_
    refine mm_istk C hM hS g79n (rfl : kT 732 = (8, 3592)) (vp_in_of2 (by decide)) (by decide : (7 : Int32).toNatClampNeg = 7) dX7_init_135 (fun H locs hM hS hz1 => ?_)
    have hz := hz1.trans hz
    obtain ⟨M80, eM80⟩ : ∃ z : mm_M, z = sI M78 732 7 2 := ⟨_, rfl⟩
    replace heq := lt_to eM80 heq
    rw [← eM80] at hM
    refine lv_aload_n hx hb dX7_init_136 rfl (lv_at hl 0 rfl) ?_
    replace heq := gd_of heq
    obtain ⟨⟨g81r, g81n⟩, heq⟩ := heq
    refine gX7_7 C hM l61 (rfl : kT 731 = (6, 0)) g81r dX7_init_137 ?_
    refine lv_bipush (v := 8) hx hb dX7_init_140 (by decide) ?_
    refine lv_bipush (v := 11) hx hb dX7_init_142 (by decide) ?_
    refine mm_istk C hM hS g81n (rfl : kT 732 = (8, 3592)) (vp_in_of2 (by decide)) (by decide : (8 : Int32).toNatClampNeg = 8) dX7_init_144 (fun H locs hM hS hz1 => ?_)
    have hz := hz1.trans hz
    obtain ⟨M82, eM82⟩ : ∃ z : mm_M, z = sI M80 732 8 11 := ⟨_, rfl⟩
    replace heq := lt_to eM82 heq
    rw [← eM82] at hM
    refine lv_aload_n hx hb dX7_init_145 rfl (lv_at hl 0 rfl) ?_
    replace heq := gd_of heq
    obtain ⟨⟨g83r, g83n⟩, heq⟩ := heq
    refine gX7_7 C hM l61 (rfl : kT 731 = (6, 0)) g83r dX7_init_146 ?_
    refine lv_bipush (v := 9) hx hb dX7_init_149 (by decide) ?_
    refine lv_sipush (v := 200) hx hb dX7_init_151 (by decide) ?_
    refine mm_istk C hM hS g83n (rfl : kT 732 = (8, 3592)) (vp_in_of2 (by decide)) (by decide : (9 : Int32).toNatClampNeg = 9) dX7_init_154 (fun H locs hM hS hz1 => ?_)
    have hz := hz1.trans hz
    obtain ⟨M84, eM84⟩ : ∃ z : mm_M, z = sI M82 732 9 200 := ⟨_, rfl⟩
    replace heq := lt_to eM84 heq
    rw [← eM84] at hM
    refine lv_aload_n hx hb dX7_init_155 rfl (lv_at hl 0 rfl) ?_
    replace heq := gd_of heq
    obtain ⟨⟨g85r, g85n⟩, heq⟩ := heq
    refine gX7_7 C hM l61 (rfl : kT 731 = (6, 0)) g85r dX7_init_156 ?_
    refine lv_bipush (v := 11) hx hb dX7_init_159 (by decide) ?_
    refine lv_iconst (v := 1) hx hb dX7_init_161 (by decide) ?_
    refine mm_istk C hM hS g85n (rfl : kT 732 = (8, 3592)) (vp_in_of2 (by decide)) (by decide : (11 : Int32).toNatClampNeg = 11) dX7_init_162 (fun H locs hM hS hz1 => ?_)
    have hz := hz1.trans hz
    obtain ⟨M86, eM86⟩ : ∃ z : mm_M, z = sI M84 732 11 1 := ⟨_, rfl⟩
    replace heq := lt_to eM86 heq
    rw [← eM86] at hM
    replace heq := gd_of heq
    obtain ⟨⟨qn, qz⟩, heq⟩ := heq
    have fz := hz
    have fM := hM
    have fS := hS
    rw [qn] at fz fM
    cases heq
    refine W.cs (cells' := 8) (slots' := 36147) (st6 qn hc) (st6 qz hsl) ?_
    exact mm_cret C fz fM fS dX7_init_163
  exact key N0 Z0 rfl rfl ha hz hM heq
end MAKE
