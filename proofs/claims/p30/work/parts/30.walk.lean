section WALK
variable {p : Program} {l : Launch} {e : Env} {s : State} {m : MethodId} {args : Array Value} {below : List Frame} {meth : Method} {c : Code} {G : mm_G}
set_option maxRecDepth 100000 in
set_option maxHeartbeats 4000000 in
theorem tX7_cookAll_37 (C : mm_C G p s m args meth c RX7 cX7_cookAll 3 none)  {M9 : mm_M} {k18 : mm_M → Int32 → Int32 → Option (mm_M)} (hk18 : ∀ (M : mm_M) (v1 : Int32) (v2 : Int32) (H : Heap) (locs : List Loc) (ls : Array Slot), mm_P G kR 740 M H → va_S (mm_A G) s.heap H locs → lv_has ls 3 [(0, .ref (mm_lo G + 731)), (1, .int v1), (2, .int v2)] → k18 M v1 v2 = some M9 → W p l e rmX7_cookAll s m args below meth c H locs 0 0 (MQ below (mm_Qv G (kR, 740, M9)) args s 0 0 (mm_A G)) (F0 m 18 ls [])) : ∀ (M : mm_M) (v1 : Int32) (H : Heap) (locs : List Loc) (ls : Array Slot), mm_P G kR 740 M H → va_S (mm_A G) s.heap H locs → lv_has ls 3 [(0, .ref (mm_lo G + 731)), (1, .int v1)] → fX7_cookAll_37 k18 M v1 = some M9 → W p l e rmX7_cookAll s m args below meth c H locs 0 0 (MQ below (mm_Qv G (kR, 740, M9)) args s 0 0 (mm_A G)) (F0 m 37 ls []) := by
  obtain ⟨hx, hb, -, -, -, -, -, -, hZ, -⟩ := id C
  intro M v1 H locs ls hM hS hl heq
  rw [fX7_cookAll_37] at heq
  obtain ⟨y1, ey1⟩ : ∃ y : Int32, y = (v1 + 1) := ⟨_, rfl⟩
  have heq := lt_to ey1 heq
  refine lv_iinc (v := y1) (lv' := [(1, .int y1), (0, .ref (mm_lo G + 731))]) hx hb dX7_cookAll_37 hl (k := 1) rfl (by rw [ey1]; rfl) (by decide) rfl (fun ls hl => ?_)
  refine lv_aload_n hx hb dX7_cookAll_40 rfl (lv_at hl 1 rfl) ?_
  refine lv_iload_n hx hb dX7_cookAll_41 rfl (lv_at hl 0 rfl) ?_
  obtain ⟨r3, e2, heq⟩ := bn_of heq
  refine mm_ki hS (mm_runV (rest := []) C hM hS (tX7_drawnAt l G M y1 r3 e2) (uX7_145 _ (Nat.le_of_ble_eq_true rfl) (Nat.le_of_ble_eq_true rfl)) (mm_recv C hM (kl (rfl : kT 731 = (6, 0))) (ci := 6) rfl (mm_e6 (rfl : kT 731 = (6, 0)))) hl.1 rfl rfl (Nat.le_of_ble_eq_true rfl) ⟨Nat.zero_le _, Nat.zero_le _⟩ dX7_cookAll_42) (fun H locs hM hS => ?_)
  have hM : mm_P G kR 740 M H := hM
  refine lv_istore_n (lv' := [(2, .int r3), (1, .int y1), (0, .ref (mm_lo G + 731))]) hx hb dX7_cookAll_45 rfl hl (by decide) rfl (fun ls hl => ?_)
  refine lv_goto (tgt := 18) hx hb dX7_cookAll_46 (by decide) ?_
  exact hk18 _ _ _ _ _ _ hM hS (lv_sub hl [2, 1, 0] rfl) heq

set_option maxRecDepth 100000 in
set_option maxHeartbeats 4000000 in
theorem tX7_cookAll_18 (C : mm_C G p s m args meth c RX7 cX7_cookAll 3 none)  {M9 : mm_M} : ∀ n : Nat, ∀ (M : mm_M) (v1 : Int32) (v2 : Int32) (H : Heap) (locs : List Loc) (ls : Array Slot), mm_P G kR 740 M H → va_S (mm_A G) s.heap H locs → lv_has ls 3 [(0, .ref (mm_lo G + 731)), (1, .int v1), (2, .int v2)] → fX7_cookAll_18 n M v1 v2 = some M9 → W p l e rmX7_cookAll s m args below meth c H locs 0 0 (MQ below (mm_Qv G (kR, 740, M9)) args s 0 0 (mm_A G)) (F0 m 18 ls []) := by
  obtain ⟨hx, hb, -, -, -, -, -, -, hZ, -⟩ := id C
  intro n
  induction n with
  | zero =>
    intro M v1 v2 H locs ls hM hS hl heq
    rw [fX7_cookAll_18] at heq
    cases heq
  | succ n ih =>
    intro M v1 v2 H locs ls hM hS hl heq
    rw [fX7_cookAll_18] at heq
    refine lv_iload_n hx hb dX7_cookAll_18 rfl (lv_at hl 2 rfl) ?_
    refine lv_if_lt (tgt := 49) hx hb dX7_cookAll_19 (by decide) (fun c1 => ?_) (fun c1 => ?_)
    · have heq := if_t c1 heq
      cases heq
      exact mm_vret C hM hS dX7_cookAll_49
    · have heq := if_f c1 heq
      refine lv_aload_n hx hb dX7_cookAll_22 rfl (lv_at hl 0 rfl) ?_
      refine lv_iload_n hx hb dX7_cookAll_23 rfl (lv_at hl 2 rfl) ?_
      refine lv_bipush (v := 11) hx hb dX7_cookAll_24 (by decide) ?_
      obtain ⟨r3, e2, heq⟩ := bn_of heq
      refine mm_ki hS (mm_runV (rest := []) C hM hS (tX7_of l G M v2 11 r3 e2) (uX7_66 _ (Nat.le_of_ble_eq_true rfl) (Nat.le_of_ble_eq_true rfl)) (mm_recv C hM (kl (rfl : kT 731 = (6, 0))) (ci := 6) rfl (mm_e6 (rfl : kT 731 = (6, 0)))) hl.1 rfl rfl (Nat.le_of_ble_eq_true rfl) ⟨Nat.zero_le _, Nat.zero_le _⟩ dX7_cookAll_26) (fun H locs hM hS => ?_)
      have hM : mm_P G kR 740 M H := hM
      refine lv_if_lt (tgt := 37) hx hb dX7_cookAll_29 (by decide) (fun c4 => ?_) (fun c4 => ?_)
      · have heq := if_t c4 heq
        exact tX7_cookAll_37 C ih _ _ _ _ _ hM hS (lv_sub hl [0, 1] rfl) heq
      · have heq := if_f c4 heq
        refine lv_aload_n hx hb dX7_cookAll_32 rfl (lv_at hl 0 rfl) ?_
        refine lv_iload_n hx hb dX7_cookAll_33 rfl (lv_at hl 2 rfl) ?_
        obtain ⟨M6, e5, heq⟩ := bn_of heq
        refine mm_kv hS (mm_runV (rest := []) C hM hS (tX7_cook l G M v2 M6 e5) (uX7_148 _ (Nat.le_of_ble_eq_true rfl) (Nat.le_of_ble_eq_true rfl)) (mm_recv C hM (kl (rfl : kT 731 = (6, 0))) (ci := 6) rfl (mm_e6 (rfl : kT 731 = (6, 0)))) hl.1 rfl rfl (Nat.le_of_ble_eq_true rfl) ⟨Nat.zero_le _, Nat.zero_le _⟩ dX7_cookAll_34) (fun H locs hM hS => ?_)
        have hM : mm_P G kR 740 M6 H := hM
        exact tX7_cookAll_37 C ih _ _ _ _ _ hM hS (lv_sub hl [0, 1] rfl) heq

set_option maxRecDepth 100000 in
set_option maxHeartbeats 4000000 in
theorem tX7_cookAll (l : Launch) (G : mm_G) (M : mm_M)  (M9 : mm_M) (heq : fX7_cookAll M = some M9) : Met l yX7_cookAll (mm_ws yX7_cookAll cX7_cookAll 3 none) rmX7_cookAll (va_Pc [.ref (mm_lo G + 731)] (mm_B G (kR, 740, M))) (mm_Qv G (kR, 740, M9)) 0 0 (mm_A G) := by
  refine mm_met (cc := cX7_cookAll) (nL := 3) (ret := none) plRX7 (Nat.le_of_ble_eq_true rfl) ?_
  intro p e s m below meth c ls hin C hM hS hl
  have C : mm_C G p s m _ meth c RX7 cX7_cookAll 3 none := C
  have hM : mm_P G kR 740 M s.heap := hM
  have hl : lv_has ls 3 [(0, .ref (mm_lo G + 731))] := hl
  obtain ⟨hx, hb, -, -, -, -, -, -, hZ, -⟩ := id C
  rw [fX7_cookAll] at heq
  refine lv_aload_n hx hb dX7_cookAll_0 rfl (lv_at hl 0 rfl) ?_
  refine lv_iconst (v := 0) hx hb dX7_cookAll_1 (by decide) ?_
  refine pX7_139 C hM hS (kl (rfl : kT 731 = (6, 0))) (rfl : kT 731 = (6, 0)) dX7_cookAll_2 (fun H locs hM hS _ => ?_)
  obtain ⟨M1, eM1⟩ : ∃ z : mm_M, z = sI M 731 8 0 := ⟨_, rfl⟩
  rw [← eM1] at hM
  have heq := lt_to eM1 heq
  refine lv_aload_n hx hb dX7_cookAll_5 rfl (lv_at hl 0 rfl) ?_
  refine lv_iconst (v := 0) hx hb dX7_cookAll_6 (by decide) ?_
  refine pX7_142 C hM hS (kl (rfl : kT 731 = (6, 0))) (rfl : kT 731 = (6, 0)) dX7_cookAll_7 (fun H locs hM hS _ => ?_)
  obtain ⟨M2, eM2⟩ : ∃ z : mm_M, z = sI M1 731 9 0 := ⟨_, rfl⟩
  rw [← eM2] at hM
  have heq := lt_to eM2 heq
  refine lv_iconst (v := 0) hx hb dX7_cookAll_10 (by decide) ?_
  refine lv_istore_n (lv' := [(1, .int 0), (0, .ref (mm_lo G + 731))]) hx hb dX7_cookAll_11 rfl hl (by decide) rfl (fun ls hl => ?_)
  refine lv_aload_n hx hb dX7_cookAll_12 rfl (lv_at hl 1 rfl) ?_
  refine lv_iload_n hx hb dX7_cookAll_13 rfl (lv_at hl 0 rfl) ?_
  obtain ⟨r4, e3, heq⟩ := bn_of heq
  refine mm_ki hS (mm_runV (rest := []) C hM hS (tX7_drawnAt l G M2 0 r4 e3) (uX7_145 _ (Nat.le_of_ble_eq_true rfl) (Nat.le_of_ble_eq_true rfl)) (mm_recv C hM (kl (rfl : kT 731 = (6, 0))) (ci := 6) rfl (mm_e6 (rfl : kT 731 = (6, 0)))) hl.1 rfl rfl (Nat.le_of_ble_eq_true rfl) ⟨Nat.zero_le _, Nat.zero_le _⟩ dX7_cookAll_14) (fun H locs hM hS => ?_)
  have hM : mm_P G kR 740 M2 H := hM
  refine lv_istore_n (lv' := [(2, .int r4), (1, .int 0), (0, .ref (mm_lo G + 731))]) hx hb dX7_cookAll_17 rfl hl (by decide) rfl (fun ls hl => ?_)
  exact tX7_cookAll_18 C FU _ _ _ _ _ _ hM hS (lv_sub hl [2, 1, 0] rfl) heq

set_option maxRecDepth 100000 in
set_option maxHeartbeats 4000000 in
theorem tX7_swapAll_106 (C : mm_C G p s m args meth c RX7 cX7_swapAll 7 none)  {M9 : mm_M} {k2 : mm_M → Int32 → Option (mm_M)} (hk2 : ∀ (M : mm_M) (v1 : Int32) (H : Heap) (locs : List Loc) (ls : Array Slot), mm_P G kR 740 M H → va_S (mm_A G) s.heap H locs → lv_has ls 7 [(0, .ref (mm_lo G + 731)), (1, .int v1)] → k2 M v1 = some M9 → W p l e rmX7_swapAll s m args below meth c H locs 0 0 (MQ below (mm_Qv G (kR, 740, M9)) args s 0 0 (mm_A G)) (F0 m 2 ls [])) : ∀ (M : mm_M) (v1 : Int32) (v2 : Int32) (v3 : Int32) (v4 : Int32) (v5 : Int32) (t0 : Bool) (H : Heap) (locs : List Loc) (ls : Array Slot), mm_P G kR 740 M H → va_S (mm_A G) s.heap H locs → lv_has ls 7 [(0, .ref (mm_lo G + 731)), (1, .int v1), (2, .int v2), (3, .int v3), (4, .int v4), (5, .int v5)] → fX7_swapAll_106 k2 M v1 v2 v3 v4 v5 t0 = some M9 → W p l e rmX7_swapAll s m args below meth c H locs 0 0 (MQ below (mm_Qv G (kR, 740, M9)) args s 0 0 (mm_A G)) (F0 m 106 ls [.int (b2i t0)]) := by
  obtain ⟨hx, hb, -, -, -, -, -, -, hZ, -⟩ := id C
  intro M v1 v2 v3 v4 v5 t0 H locs ls hM hS hl heq
  rw [fX7_swapAll_106] at heq
  refine lv_istore (lv' := [(6, .int (b2i t0)), (0, .ref (mm_lo G + 731)), (1, .int v1), (2, .int v2), (3, .int v3), (4, .int v4), (5, .int v5)]) hx hb dX7_swapAll_106 hl (by decide) rfl (fun ls hl => ?_)
  refine lv_iload hx hb dX7_swapAll_108 (lv_at hl 0 rfl) ?_
  refine mm_ifeqZ (tgt := 171) C dX7_swapAll_110 (by decide) (fun c1 => ?_) (fun c1 => ?_)
  · have heq := if_f c1 heq
    refine lv_aload_n hx hb dX7_swapAll_171 rfl (lv_at hl 1 rfl) ?_
    refine lv_iload_n hx hb dX7_swapAll_172 rfl (lv_at hl 3 rfl) ?_
    refine lv_iload hx hb dX7_swapAll_173 (lv_at hl 5 rfl) ?_
    obtain ⟨M3, e2, heq⟩ := bn_of heq
    refine mm_kv hS (mm_runV (rest := []) C hM hS (tX7_put l G M v2 v4 M3 e2) (uX7_122 _ (Nat.le_of_ble_eq_true rfl) (Nat.le_of_ble_eq_true rfl)) (mm_recv C hM (kl (rfl : kT 731 = (6, 0))) (ci := 6) rfl (mm_e6 (rfl : kT 731 = (6, 0)))) hl.1 rfl rfl (Nat.le_of_ble_eq_true rfl) ⟨Nat.zero_le _, Nat.zero_le _⟩ dX7_swapAll_175) (fun H locs hM hS => ?_)
    have hM : mm_P G kR 740 M3 H := hM
    refine lv_aload_n hx hb dX7_swapAll_178 rfl (lv_at hl 1 rfl) ?_
    refine lv_iload_n hx hb dX7_swapAll_179 rfl (lv_at hl 4 rfl) ?_
    refine lv_iload hx hb dX7_swapAll_180 (lv_at hl 6 rfl) ?_
    obtain ⟨M5, e4, heq⟩ := bn_of heq
    refine mm_kv hS (mm_runV (rest := []) C hM hS (tX7_put l G M3 v3 v5 M5 e4) (uX7_122 _ (Nat.le_of_ble_eq_true rfl) (Nat.le_of_ble_eq_true rfl)) (mm_recv C hM (kl (rfl : kT 731 = (6, 0))) (ci := 6) rfl (mm_e6 (rfl : kT 731 = (6, 0)))) hl.1 rfl rfl (Nat.le_of_ble_eq_true rfl) ⟨Nat.zero_le _, Nat.zero_le _⟩ dX7_swapAll_182) (fun H locs hM hS => ?_)
    have hM : mm_P G kR 740 M5 H := hM
    obtain ⟨y6, ey6⟩ : ∃ y : Int32, y = (v1 + 1) := ⟨_, rfl⟩
    have heq := lt_to ey6 heq
    refine lv_iinc (v := y6) (lv' := [(1, .int y6), (6, .int (b2i t0)), (0, .ref (mm_lo G + 731)), (2, .int v2), (3, .int v3), (4, .int v4), (5, .int v5)]) hx hb dX7_swapAll_185 hl (k := 2) rfl (by rw [ey6]; rfl) (by decide) rfl (fun ls hl => ?_)
    refine lv_goto (tgt := 2) hx hb dX7_swapAll_188 (by decide) ?_
    exact hk2 _ _ _ _ _ hM hS (lv_sub hl [2, 0] rfl) heq
  · have heq := if_t c1 heq
    refine lv_aload_n hx hb dX7_swapAll_113 rfl (lv_at hl 1 rfl) ?_
    refine lv_iload_n hx hb dX7_swapAll_114 rfl (lv_at hl 3 rfl) ?_
    refine lv_bipush (v := 18) hx hb dX7_swapAll_115 (by decide) ?_
    refine lv_aload_n hx hb dX7_swapAll_117 rfl (lv_at hl 1 rfl) ?_
    refine lv_iload_n hx hb dX7_swapAll_118 rfl (lv_at hl 3 rfl) ?_
    refine lv_bipush (v := 18) hx hb dX7_swapAll_119 (by decide) ?_
    obtain ⟨r8, e7, heq⟩ := bn_of heq
    refine mm_ki hS (mm_runV (rest := [.int 18, .int v2, .ref (mm_lo G + 731)]) C hM hS (tX7_of l G M v2 18 r8 e7) (uX7_66 _ (Nat.le_of_ble_eq_true rfl) (Nat.le_of_ble_eq_true rfl)) (mm_recv C hM (kl (rfl : kT 731 = (6, 0))) (ci := 6) rfl (mm_e6 (rfl : kT 731 = (6, 0)))) hl.1 rfl rfl (Nat.le_of_ble_eq_true rfl) ⟨Nat.zero_le _, Nat.zero_le _⟩ dX7_swapAll_121) (fun H locs hM hS => ?_)
    have hM : mm_P G kR 740 M H := hM
    refine lv_aload_n hx hb dX7_swapAll_124 rfl (lv_at hl 1 rfl) ?_
    refine gX7_7 C hM (kl (rfl : kT 731 = (6, 0))) (rfl : kT 731 = (6, 0)) (rfl : kR 731 0 = some 732) dX7_swapAll_125 ?_
    refine lv_bipush (v := 9) hx hb dX7_swapAll_128 (by decide) ?_
    refine mm_ildk C hM (kl (rfl : kT 732 = (8, 3592))) (rfl : kT 732 = (8, 3592)) (vp_in_of2 (by decide)) (by decide : (9 : Int32).toNatClampNeg = 9) dX7_swapAll_130 ?_
    refine lv_iadd hx hb dX7_swapAll_131 ?_
    obtain ⟨M10, e9, heq⟩ := bn_of heq
    refine mm_kv hS (mm_runV (rest := []) C hM hS (tX7_lay l G M v2 18 (r8 + (M.1 732 9)) M10 e9) (uX7_62 _ (Nat.le_of_ble_eq_true rfl) (Nat.le_of_ble_eq_true rfl)) (mm_recv C hM (kl (rfl : kT 731 = (6, 0))) (ci := 6) rfl (mm_e6 (rfl : kT 731 = (6, 0)))) hl.1 rfl rfl (Nat.le_of_ble_eq_true rfl) ⟨Nat.zero_le _, Nat.zero_le _⟩ dX7_swapAll_132) (fun H locs hM hS => ?_)
    have hM : mm_P G kR 740 M10 H := hM
    refine lv_aload_n hx hb dX7_swapAll_135 rfl (lv_at hl 1 rfl) ?_
    refine lv_iload_n hx hb dX7_swapAll_136 rfl (lv_at hl 4 rfl) ?_
    refine lv_bipush (v := 18) hx hb dX7_swapAll_137 (by decide) ?_
    refine lv_aload_n hx hb dX7_swapAll_139 rfl (lv_at hl 1 rfl) ?_
    refine lv_iload_n hx hb dX7_swapAll_140 rfl (lv_at hl 4 rfl) ?_
    refine lv_bipush (v := 18) hx hb dX7_swapAll_141 (by decide) ?_
    obtain ⟨r12, e11, heq⟩ := bn_of heq
    refine mm_ki hS (mm_runV (rest := [.int 18, .int v3, .ref (mm_lo G + 731)]) C hM hS (tX7_of l G M10 v3 18 r12 e11) (uX7_66 _ (Nat.le_of_ble_eq_true rfl) (Nat.le_of_ble_eq_true rfl)) (mm_recv C hM (kl (rfl : kT 731 = (6, 0))) (ci := 6) rfl (mm_e6 (rfl : kT 731 = (6, 0)))) hl.1 rfl rfl (Nat.le_of_ble_eq_true rfl) ⟨Nat.zero_le _, Nat.zero_le _⟩ dX7_swapAll_143) (fun H locs hM hS => ?_)
    have hM : mm_P G kR 740 M10 H := hM
    refine lv_aload_n hx hb dX7_swapAll_146 rfl (lv_at hl 1 rfl) ?_
    refine gX7_7 C hM (kl (rfl : kT 731 = (6, 0))) (rfl : kT 731 = (6, 0)) (rfl : kR 731 0 = some 732) dX7_swapAll_147 ?_
    refine lv_bipush (v := 9) hx hb dX7_swapAll_150 (by decide) ?_
    refine mm_ildk C hM (kl (rfl : kT 732 = (8, 3592))) (rfl : kT 732 = (8, 3592)) (vp_in_of2 (by decide)) (by decide : (9 : Int32).toNatClampNeg = 9) dX7_swapAll_152 ?_
    refine lv_iadd hx hb dX7_swapAll_153 ?_
    obtain ⟨M14, e13, heq⟩ := bn_of heq
    refine mm_kv hS (mm_runV (rest := []) C hM hS (tX7_lay l G M10 v3 18 (r12 + (M10.1 732 9)) M14 e13) (uX7_62 _ (Nat.le_of_ble_eq_true rfl) (Nat.le_of_ble_eq_true rfl)) (mm_recv C hM (kl (rfl : kT 731 = (6, 0))) (ci := 6) rfl (mm_e6 (rfl : kT 731 = (6, 0)))) hl.1 rfl rfl (Nat.le_of_ble_eq_true rfl) ⟨Nat.zero_le _, Nat.zero_le _⟩ dX7_swapAll_154) (fun H locs hM hS => ?_)
    have hM : mm_P G kR 740 M14 H := hM
    refine lv_aload_n hx hb dX7_swapAll_157 rfl (lv_at hl 1 rfl) ?_
    refine gX7_7 C hM (kl (rfl : kT 731 = (6, 0))) (rfl : kT 731 = (6, 0)) (rfl : kR 731 0 = some 732) dX7_swapAll_158 ?_
    refine lv_bipush (v := 15) hx hb dX7_swapAll_161 (by decide) ?_
    refine lv_dup2_11 hx hb dX7_swapAll_163 rfl rfl ?_
    refine mm_ildk C hM (kl (rfl : kT 732 = (8, 3592))) (rfl : kT 732 = (8, 3592)) (vp_in_of2 (by decide)) (by decide : (15 : Int32).toNatClampNeg = 15) dX7_swapAll_164 ?_
    refine lv_iconst (v := 1) hx hb dX7_swapAll_165 (by decide) ?_
    refine lv_iadd hx hb dX7_swapAll_166 ?_
    refine mm_istk C hM hS (kl (rfl : kT 732 = (8, 3592))) (rfl : kT 732 = (8, 3592)) (vp_in_of2 (by decide)) (by decide : (15 : Int32).toNatClampNeg = 15) dX7_swapAll_167 (fun H locs hM hS _ => ?_)
    obtain ⟨M15, eM15⟩ : ∃ z : mm_M, z = sI M14 732 15 ((M14.1 732 15) + 1) := ⟨_, rfl⟩
    rw [← eM15] at hM
    have heq := lt_to eM15 heq
    refine lv_goto (tgt := 185) hx hb dX7_swapAll_168 (by decide) ?_
    obtain ⟨y16, ey16⟩ : ∃ y : Int32, y = (v1 + 1) := ⟨_, rfl⟩
    have heq := lt_to ey16 heq
    refine lv_iinc (v := y16) (lv' := [(1, .int y16), (6, .int (b2i t0)), (0, .ref (mm_lo G + 731)), (2, .int v2), (3, .int v3), (4, .int v4), (5, .int v5)]) hx hb dX7_swapAll_185 hl (k := 2) rfl (by rw [ey16]; rfl) (by decide) rfl (fun ls hl => ?_)
    refine lv_goto (tgt := 2) hx hb dX7_swapAll_188 (by decide) ?_
    exact hk2 _ _ _ _ _ hM hS (lv_sub hl [2, 0] rfl) heq

set_option maxRecDepth 100000 in
set_option maxHeartbeats 4000000 in
theorem tX7_swapAll_105 (C : mm_C G p s m args meth c RX7 cX7_swapAll 7 none)  {M9 : mm_M} {k2 : mm_M → Int32 → Option (mm_M)} (hk2 : ∀ (M : mm_M) (v1 : Int32) (H : Heap) (locs : List Loc) (ls : Array Slot), mm_P G kR 740 M H → va_S (mm_A G) s.heap H locs → lv_has ls 7 [(0, .ref (mm_lo G + 731)), (1, .int v1)] → k2 M v1 = some M9 → W p l e rmX7_swapAll s m args below meth c H locs 0 0 (MQ below (mm_Qv G (kR, 740, M9)) args s 0 0 (mm_A G)) (F0 m 2 ls [])) : ∀ (M : mm_M) (v1 : Int32) (v2 : Int32) (v3 : Int32) (v4 : Int32) (v5 : Int32) (H : Heap) (locs : List Loc) (ls : Array Slot), mm_P G kR 740 M H → va_S (mm_A G) s.heap H locs → lv_has ls 7 [(0, .ref (mm_lo G + 731)), (1, .int v1), (2, .int v2), (3, .int v3), (4, .int v4), (5, .int v5)] → fX7_swapAll_105 k2 M v1 v2 v3 v4 v5 = some M9 → W p l e rmX7_swapAll s m args below meth c H locs 0 0 (MQ below (mm_Qv G (kR, 740, M9)) args s 0 0 (mm_A G)) (F0 m 105 ls []) := by
  obtain ⟨hx, hb, -, -, -, -, -, -, hZ, -⟩ := id C
  intro M v1 v2 v3 v4 v5 H locs ls hM hS hl heq
  rw [fX7_swapAll_105] at heq
  refine lv_iconst (v := 0) hx hb dX7_swapAll_105 (by decide) ?_
  exact tX7_swapAll_106 C hk2 _ _ _ _ _ _ _ _ _ _ hM hS (lv_sub hl [0, 1, 2, 3, 4, 5] rfl) heq

set_option maxRecDepth 100000 in
set_option maxHeartbeats 4000000 in
theorem tX7_swapAll_2 (C : mm_C G p s m args meth c RX7 cX7_swapAll 7 none)  {M9 : mm_M} : ∀ n : Nat, ∀ (M : mm_M) (v1 : Int32) (H : Heap) (locs : List Loc) (ls : Array Slot), mm_P G kR 740 M H → va_S (mm_A G) s.heap H locs → lv_has ls 7 [(0, .ref (mm_lo G + 731)), (1, .int v1)] → fX7_swapAll_2 n M v1 = some M9 → W p l e rmX7_swapAll s m args below meth c H locs 0 0 (MQ below (mm_Qv G (kR, 740, M9)) args s 0 0 (mm_A G)) (F0 m 2 ls []) := by
  obtain ⟨hx, hb, -, -, -, -, -, -, hZ, -⟩ := id C
  intro n
  induction n with
  | zero =>
    intro M v1 H locs ls hM hS hl heq
    rw [fX7_swapAll_2] at heq
    cases heq
  | succ n ih =>
    intro M v1 H locs ls hM hS hl heq
    rw [fX7_swapAll_2] at heq
    refine lv_iload_n hx hb dX7_swapAll_2 rfl (lv_at hl 1 rfl) ?_
    refine lv_aload_n hx hb dX7_swapAll_3 rfl (lv_at hl 0 rfl) ?_
    refine gX7_7 C hM (kl (rfl : kT 731 = (6, 0))) (rfl : kT 731 = (6, 0)) (rfl : kR 731 0 = some 732) dX7_swapAll_4 ?_
    refine lv_bipush (v := 14) hx hb dX7_swapAll_7 (by decide) ?_
    refine mm_ildk C hM (kl (rfl : kT 732 = (8, 3592))) (rfl : kT 732 = (8, 3592)) (vp_in_of2 (by decide)) (by decide : (14 : Int32).toNatClampNeg = 14) dX7_swapAll_9 ?_
    refine lv_icmp_ge (tgt := 191) hx hb dX7_swapAll_10 (by decide) (fun c1 => ?_) (fun c1 => ?_)
    · have heq := if_t c1 heq
      refine lv_aload_n hx hb dX7_swapAll_191 rfl (lv_at hl 0 rfl) ?_
      refine gX7_7 C hM (kl (rfl : kT 731 = (6, 0))) (rfl : kT 731 = (6, 0)) (rfl : kR 731 0 = some 732) dX7_swapAll_192 ?_
      refine lv_bipush (v := 14) hx hb dX7_swapAll_195 (by decide) ?_
      refine lv_iconst (v := 0) hx hb dX7_swapAll_197 (by decide) ?_
      refine mm_istk C hM hS (kl (rfl : kT 732 = (8, 3592))) (rfl : kT 732 = (8, 3592)) (vp_in_of2 (by decide)) (by decide : (14 : Int32).toNatClampNeg = 14) dX7_swapAll_198 (fun H locs hM hS _ => ?_)
      obtain ⟨M2, eM2⟩ : ∃ z : mm_M, z = sI M 732 14 0 := ⟨_, rfl⟩
      rw [← eM2] at hM
      have heq := lt_to eM2 heq
      cases heq
      exact mm_vret C hM hS dX7_swapAll_199
    · have heq := if_f c1 heq
      refine lv_aload_n hx hb dX7_swapAll_13 rfl (lv_at hl 0 rfl) ?_
      refine gX7_7 C hM (kl (rfl : kT 731 = (6, 0))) (rfl : kT 731 = (6, 0)) (rfl : kR 731 0 = some 732) dX7_swapAll_14 ?_
      refine lv_bipush (v := 16) hx hb dX7_swapAll_17 (by decide) ?_
      refine lv_iconst (v := 2) hx hb dX7_swapAll_19 (by decide) ?_
      refine lv_iload_n hx hb dX7_swapAll_20 rfl (lv_at hl 1 rfl) ?_
      refine lv_imul hx hb dX7_swapAll_21 ?_
      refine lv_iadd hx hb dX7_swapAll_22 ?_
      obtain ⟨g3, heq⟩ := gd_of heq
      refine mm_ildk C hM (kl (rfl : kT 732 = (8, 3592))) (rfl : kT 732 = (8, 3592)) (vp_in_of2 g3) rfl dX7_swapAll_23 ?_
      refine lv_topi (fun y4 ey4 => ?_)
      have heq := lt_to ey4 heq
      refine lv_istore_n (lv' := [(2, .int y4), (0, .ref (mm_lo G + 731)), (1, .int v1)]) hx hb dX7_swapAll_24 rfl hl (by decide) rfl (fun ls hl => ?_)
      refine lv_aload_n hx hb dX7_swapAll_25 rfl (lv_at hl 1 rfl) ?_
      refine gX7_7 C hM (kl (rfl : kT 731 = (6, 0))) (rfl : kT 731 = (6, 0)) (rfl : kR 731 0 = some 732) dX7_swapAll_26 ?_
      refine lv_bipush (v := 16) hx hb dX7_swapAll_29 (by decide) ?_
      refine lv_iconst (v := 2) hx hb dX7_swapAll_31 (by decide) ?_
      refine lv_iload_n hx hb dX7_swapAll_32 rfl (lv_at hl 2 rfl) ?_
      refine lv_imul hx hb dX7_swapAll_33 ?_
      refine lv_iadd hx hb dX7_swapAll_34 ?_
      refine lv_iconst (v := 1) hx hb dX7_swapAll_35 (by decide) ?_
      refine lv_iadd hx hb dX7_swapAll_36 ?_
      obtain ⟨g5, heq⟩ := gd_of heq
      refine mm_ildk C hM (kl (rfl : kT 732 = (8, 3592))) (rfl : kT 732 = (8, 3592)) (vp_in_of2 g5) rfl dX7_swapAll_37 ?_
      refine lv_topi (fun y6 ey6 => ?_)
      have heq := lt_to ey6 heq
      refine lv_istore_n (lv' := [(3, .int y6), (2, .int y4), (0, .ref (mm_lo G + 731)), (1, .int v1)]) hx hb dX7_swapAll_38 rfl hl (by decide) rfl (fun ls hl => ?_)
      refine lv_aload_n hx hb dX7_swapAll_39 rfl (lv_at hl 2 rfl) ?_
      refine lv_iload_n hx hb dX7_swapAll_40 rfl (lv_at hl 1 rfl) ?_
      refine lv_bipush (v := 11) hx hb dX7_swapAll_41 (by decide) ?_
      obtain ⟨r8, e7, heq⟩ := bn_of heq
      refine mm_ki hS (mm_runV (rest := []) C hM hS (tX7_of l G M y4 11 r8 e7) (uX7_66 _ (Nat.le_of_ble_eq_true rfl) (Nat.le_of_ble_eq_true rfl)) (mm_recv C hM (kl (rfl : kT 731 = (6, 0))) (ci := 6) rfl (mm_e6 (rfl : kT 731 = (6, 0)))) hl.1 rfl rfl (Nat.le_of_ble_eq_true rfl) ⟨Nat.zero_le _, Nat.zero_le _⟩ dX7_swapAll_43) (fun H locs hM hS => ?_)
      have hM : mm_P G kR 740 M H := hM
      refine lv_istore (lv' := [(4, .int r8), (3, .int y6), (2, .int y4), (0, .ref (mm_lo G + 731)), (1, .int v1)]) hx hb dX7_swapAll_46 hl (by decide) rfl (fun ls hl => ?_)
      refine lv_aload_n hx hb dX7_swapAll_48 rfl (lv_at hl 3 rfl) ?_
      refine lv_iload_n hx hb dX7_swapAll_49 rfl (lv_at hl 1 rfl) ?_
      refine lv_bipush (v := 11) hx hb dX7_swapAll_50 (by decide) ?_
      obtain ⟨r10, e9, heq⟩ := bn_of heq
      refine mm_ki hS (mm_runV (rest := []) C hM hS (tX7_of l G M y6 11 r10 e9) (uX7_66 _ (Nat.le_of_ble_eq_true rfl) (Nat.le_of_ble_eq_true rfl)) (mm_recv C hM (kl (rfl : kT 731 = (6, 0))) (ci := 6) rfl (mm_e6 (rfl : kT 731 = (6, 0)))) hl.1 rfl rfl (Nat.le_of_ble_eq_true rfl) ⟨Nat.zero_le _, Nat.zero_le _⟩ dX7_swapAll_52) (fun H locs hM hS => ?_)
      have hM : mm_P G kR 740 M H := hM
      refine lv_istore (lv' := [(5, .int r10), (4, .int r8), (3, .int y6), (2, .int y4), (0, .ref (mm_lo G + 731)), (1, .int v1)]) hx hb dX7_swapAll_55 hl (by decide) rfl (fun ls hl => ?_)
      refine lv_iload hx hb dX7_swapAll_57 (lv_at hl 1 rfl) ?_
      refine lv_if_lt (tgt := 185) hx hb dX7_swapAll_59 (by decide) (fun c11 => ?_) (fun c11 => ?_)
      · have heq := if_t c11 heq
        obtain ⟨y12, ey12⟩ : ∃ y : Int32, y = (v1 + 1) := ⟨_, rfl⟩
        have heq := lt_to ey12 heq
        refine lv_iinc (v := y12) (lv' := [(1, .int y12), (5, .int r10), (4, .int r8), (3, .int y6), (2, .int y4), (0, .ref (mm_lo G + 731))]) hx hb dX7_swapAll_185 hl (k := 5) rfl (by rw [ey12]; rfl) (by decide) rfl (fun ls hl => ?_)
        refine lv_goto (tgt := 2) hx hb dX7_swapAll_188 (by decide) ?_
        exact ih _ _ _ _ _ hM hS (lv_sub hl [5, 0] rfl) heq
      · have heq := if_f c11 heq
        refine lv_iload hx hb dX7_swapAll_62 (lv_at hl 0 rfl) ?_
        refine lv_if_lt (tgt := 185) hx hb dX7_swapAll_64 (by decide) (fun c13 => ?_) (fun c13 => ?_)
        · have heq := if_t c13 heq
          obtain ⟨y14, ey14⟩ : ∃ y : Int32, y = (v1 + 1) := ⟨_, rfl⟩
          have heq := lt_to ey14 heq
          refine lv_iinc (v := y14) (lv' := [(1, .int y14), (5, .int r10), (4, .int r8), (3, .int y6), (2, .int y4), (0, .ref (mm_lo G + 731))]) hx hb dX7_swapAll_185 hl (k := 5) rfl (by rw [ey14]; rfl) (by decide) rfl (fun ls hl => ?_)
          refine lv_goto (tgt := 2) hx hb dX7_swapAll_188 (by decide) ?_
          exact ih _ _ _ _ _ hM hS (lv_sub hl [5, 0] rfl) heq
        · have heq := if_f c13 heq
          refine lv_aload_n hx hb dX7_swapAll_67 rfl (lv_at hl 4 rfl) ?_
          refine lv_iload_n hx hb dX7_swapAll_68 rfl (lv_at hl 3 rfl) ?_
          refine lv_iload hx hb dX7_swapAll_69 (lv_at hl 0 rfl) ?_
          obtain ⟨M16, e15, heq⟩ := bn_of heq
          refine mm_kv hS (mm_runV (rest := []) C hM hS (tX7_put l G M y4 r10 M16 e15) (uX7_122 _ (Nat.le_of_ble_eq_true rfl) (Nat.le_of_ble_eq_true rfl)) (mm_recv C hM (kl (rfl : kT 731 = (6, 0))) (ci := 6) rfl (mm_e6 (rfl : kT 731 = (6, 0)))) hl.1 rfl rfl (Nat.le_of_ble_eq_true rfl) ⟨Nat.zero_le _, Nat.zero_le _⟩ dX7_swapAll_71) (fun H locs hM hS => ?_)
          have hM : mm_P G kR 740 M16 H := hM
          refine lv_aload_n hx hb dX7_swapAll_74 rfl (lv_at hl 4 rfl) ?_
          refine lv_iload_n hx hb dX7_swapAll_75 rfl (lv_at hl 2 rfl) ?_
          refine lv_iload hx hb dX7_swapAll_76 (lv_at hl 1 rfl) ?_
          obtain ⟨M18, e17, heq⟩ := bn_of heq
          refine mm_kv hS (mm_runV (rest := []) C hM hS (tX7_put l G M16 y6 r8 M18 e17) (uX7_122 _ (Nat.le_of_ble_eq_true rfl) (Nat.le_of_ble_eq_true rfl)) (mm_recv C hM (kl (rfl : kT 731 = (6, 0))) (ci := 6) rfl (mm_e6 (rfl : kT 731 = (6, 0)))) hl.1 rfl rfl (Nat.le_of_ble_eq_true rfl) ⟨Nat.zero_le _, Nat.zero_le _⟩ dX7_swapAll_78) (fun H locs hM hS => ?_)
          have hM : mm_P G kR 740 M18 H := hM
          refine lv_aload_n hx hb dX7_swapAll_81 rfl (lv_at hl 4 rfl) ?_
          refine lv_iload_n hx hb dX7_swapAll_82 rfl (lv_at hl 3 rfl) ?_
          refine lv_iload hx hb dX7_swapAll_83 (lv_at hl 0 rfl) ?_
          obtain ⟨r20, e19, heq⟩ := bn_of heq
          refine mm_ki hS (mm_runV (rest := []) C hM hS (tX7_isApart l G M18 y4 r10 r20 e19) (uX7_118 _ (Nat.le_of_ble_eq_true rfl) (Nat.le_of_ble_eq_true rfl)) (mm_recv C hM (kl (rfl : kT 731 = (6, 0))) (ci := 6) rfl (mm_e6 (rfl : kT 731 = (6, 0)))) hl.1 rfl rfl (Nat.le_of_ble_eq_true rfl) ⟨Nat.zero_le _, Nat.zero_le _⟩ dX7_swapAll_85) (fun H locs hM hS => ?_)
          have hM : mm_P G kR 740 M18 H := hM
          refine mm_ifeqZ (tgt := 105) C dX7_swapAll_88 (by decide) (fun c21 => ?_) (fun c21 => ?_)
          · have heq := if_f c21 heq
            exact tX7_swapAll_105 C ih _ _ _ _ _ _ _ _ _ hM hS (lv_sub hl [4, 5, 3, 2, 1, 0] rfl) heq
          · have heq := if_t c21 heq
            refine lv_aload_n hx hb dX7_swapAll_91 rfl (lv_at hl 4 rfl) ?_
            refine lv_iload_n hx hb dX7_swapAll_92 rfl (lv_at hl 2 rfl) ?_
            refine lv_iload hx hb dX7_swapAll_93 (lv_at hl 1 rfl) ?_
            obtain ⟨r23, e22, heq⟩ := bn_of heq
            refine mm_ki hS (mm_runV (rest := []) C hM hS (tX7_isApart l G M18 y6 r8 r23 e22) (uX7_118 _ (Nat.le_of_ble_eq_true rfl) (Nat.le_of_ble_eq_true rfl)) (mm_recv C hM (kl (rfl : kT 731 = (6, 0))) (ci := 6) rfl (mm_e6 (rfl : kT 731 = (6, 0)))) hl.1 rfl rfl (Nat.le_of_ble_eq_true rfl) ⟨Nat.zero_le _, Nat.zero_le _⟩ dX7_swapAll_95) (fun H locs hM hS => ?_)
            have hM : mm_P G kR 740 M18 H := hM
            refine mm_ifeqZ (tgt := 105) C dX7_swapAll_98 (by decide) (fun c24 => ?_) (fun c24 => ?_)
            · have heq := if_f c24 heq
              exact tX7_swapAll_105 C ih _ _ _ _ _ _ _ _ _ hM hS (lv_sub hl [4, 5, 3, 2, 1, 0] rfl) heq
            · have heq := if_t c24 heq
              refine lv_iconst (v := 1) hx hb dX7_swapAll_101 (by decide) ?_
              refine lv_goto (tgt := 106) hx hb dX7_swapAll_102 (by decide) ?_
              exact tX7_swapAll_106 C ih _ _ _ _ _ _ _ _ _ _ hM hS (lv_sub hl [4, 5, 3, 2, 1, 0] rfl) heq

set_option maxRecDepth 100000 in
set_option maxHeartbeats 4000000 in
theorem tX7_swapAll (l : Launch) (G : mm_G) (M : mm_M)  (M9 : mm_M) (heq : fX7_swapAll M = some M9) : Met l yX7_swapAll (mm_ws yX7_swapAll cX7_swapAll 7 none) rmX7_swapAll (va_Pc [.ref (mm_lo G + 731)] (mm_B G (kR, 740, M))) (mm_Qv G (kR, 740, M9)) 0 0 (mm_A G) := by
  refine mm_met (cc := cX7_swapAll) (nL := 7) (ret := none) plRX7 (Nat.le_of_ble_eq_true rfl) ?_
  intro p e s m below meth c ls hin C hM hS hl
  have C : mm_C G p s m _ meth c RX7 cX7_swapAll 7 none := C
  have hM : mm_P G kR 740 M s.heap := hM
  have hl : lv_has ls 7 [(0, .ref (mm_lo G + 731))] := hl
  obtain ⟨hx, hb, -, -, -, -, -, -, hZ, -⟩ := id C
  rw [fX7_swapAll] at heq
  refine lv_iconst (v := 0) hx hb dX7_swapAll_0 (by decide) ?_
  refine lv_istore_n (lv' := [(1, .int 0), (0, .ref (mm_lo G + 731))]) hx hb dX7_swapAll_1 rfl hl (by decide) rfl (fun ls hl => ?_)
  exact tX7_swapAll_2 C FU _ _ _ _ _ hM hS (lv_sub hl [1, 0] rfl) heq

set_option maxRecDepth 100000 in
set_option maxHeartbeats 4000000 in
theorem tX7_trade_2 (C : mm_C G p s m args meth c RX7 cX7_trade 3 none)  {M9 : mm_M} : ∀ n : Nat, ∀ (M : mm_M) (v1 : Int32) (H : Heap) (locs : List Loc) (ls : Array Slot), mm_P G kR 740 M H → va_S (mm_A G) s.heap H locs → lv_has ls 3 [(0, .ref (mm_lo G + 731)), (1, .int v1)] → fX7_trade_2 n M v1 = some M9 → W p l e rmX7_trade s m args below meth c H locs 0 0 (MQ below (mm_Qv G (kR, 740, M9)) args s 0 0 (mm_A G)) (F0 m 2 ls []) := by
  obtain ⟨hx, hb, -, -, -, -, -, -, hZ, -⟩ := id C
  intro n
  induction n with
  | zero =>
    intro M v1 H locs ls hM hS hl heq
    rw [fX7_trade_2] at heq
    cases heq
  | succ n ih =>
    intro M v1 H locs ls hM hS hl heq
    rw [fX7_trade_2] at heq
    refine lv_iload_n hx hb dX7_trade_2 rfl (lv_at hl 1 rfl) ?_
    refine lv_aload_n hx hb dX7_trade_3 rfl (lv_at hl 0 rfl) ?_
    refine gX7_7 C hM (kl (rfl : kT 731 = (6, 0))) (rfl : kT 731 = (6, 0)) (rfl : kR 731 0 = some 732) dX7_trade_4 ?_
    refine lv_bipush (v := 13) hx hb dX7_trade_7 (by decide) ?_
    refine mm_ildk C hM (kl (rfl : kT 732 = (8, 3592))) (rfl : kT 732 = (8, 3592)) (vp_in_of2 (by decide)) (by decide : (13 : Int32).toNatClampNeg = 13) dX7_trade_9 ?_
    refine lv_icmp_ge (tgt := 140) hx hb dX7_trade_10 (by decide) (fun c1 => ?_) (fun c1 => ?_)
    · have heq := if_t c1 heq
      cases heq
      exact mm_vret C hM hS dX7_trade_140
    · have heq := if_f c1 heq
      refine lv_aload_n hx hb dX7_trade_13 rfl (lv_at hl 0 rfl) ?_
      refine lv_iload_n hx hb dX7_trade_14 rfl (lv_at hl 1 rfl) ?_
      refine lv_bipush (v := 11) hx hb dX7_trade_15 (by decide) ?_
      obtain ⟨r3, e2, heq⟩ := bn_of heq
      refine mm_ki hS (mm_runV (rest := []) C hM hS (tX7_of l G M v1 11 r3 e2) (uX7_66 _ (Nat.le_of_ble_eq_true rfl) (Nat.le_of_ble_eq_true rfl)) (mm_recv C hM (kl (rfl : kT 731 = (6, 0))) (ci := 6) rfl (mm_e6 (rfl : kT 731 = (6, 0)))) hl.1 rfl rfl (Nat.le_of_ble_eq_true rfl) ⟨Nat.zero_le _, Nat.zero_le _⟩ dX7_trade_17) (fun H locs hM hS => ?_)
      have hM : mm_P G kR 740 M H := hM
      refine lv_istore_n (lv' := [(2, .int r3), (0, .ref (mm_lo G + 731)), (1, .int v1)]) hx hb dX7_trade_20 rfl hl (by decide) rfl (fun ls hl => ?_)
      refine lv_iload_n hx hb dX7_trade_21 rfl (lv_at hl 0 rfl) ?_
      refine lv_if_lt (tgt := 112) hx hb dX7_trade_22 (by decide) (fun c4 => ?_) (fun c4 => ?_)
      · have heq := if_t c4 heq
        refine lv_aload_n hx hb dX7_trade_112 rfl (lv_at hl 1 rfl) ?_
        refine lv_iload_n hx hb dX7_trade_113 rfl (lv_at hl 2 rfl) ?_
        refine lv_bipush (v := 6) hx hb dX7_trade_114 (by decide) ?_
        refine lv_aload_n hx hb dX7_trade_116 rfl (lv_at hl 1 rfl) ?_
        refine lv_iload_n hx hb dX7_trade_117 rfl (lv_at hl 2 rfl) ?_
        refine lv_bipush (v := 6) hx hb dX7_trade_118 (by decide) ?_
        obtain ⟨r6, e5, heq⟩ := bn_of heq
        refine mm_ki hS (mm_runV (rest := [.int 6, .int v1, .ref (mm_lo G + 731)]) C hM hS (tX7_of l G M v1 6 r6 e5) (uX7_66 _ (Nat.le_of_ble_eq_true rfl) (Nat.le_of_ble_eq_true rfl)) (mm_recv C hM (kl (rfl : kT 731 = (6, 0))) (ci := 6) rfl (mm_e6 (rfl : kT 731 = (6, 0)))) hl.1 rfl rfl (Nat.le_of_ble_eq_true rfl) ⟨Nat.zero_le _, Nat.zero_le _⟩ dX7_trade_120) (fun H locs hM hS => ?_)
        have hM : mm_P G kR 740 M H := hM
        refine lv_aload_n hx hb dX7_trade_123 rfl (lv_at hl 1 rfl) ?_
        refine lv_iload_n hx hb dX7_trade_124 rfl (lv_at hl 2 rfl) ?_
        refine lv_bipush (v := 19) hx hb dX7_trade_125 (by decide) ?_
        obtain ⟨r8, e7, heq⟩ := bn_of heq
        refine mm_ki hS (mm_runV (rest := [.int r6, .int 6, .int v1, .ref (mm_lo G + 731)]) C hM hS (tX7_of l G M v1 19 r8 e7) (uX7_66 _ (Nat.le_of_ble_eq_true rfl) (Nat.le_of_ble_eq_true rfl)) (mm_recv C hM (kl (rfl : kT 731 = (6, 0))) (ci := 6) rfl (mm_e6 (rfl : kT 731 = (6, 0)))) hl.1 rfl rfl (Nat.le_of_ble_eq_true rfl) ⟨Nat.zero_le _, Nat.zero_le _⟩ dX7_trade_127) (fun H locs hM hS => ?_)
        have hM : mm_P G kR 740 M H := hM
        refine lv_iadd hx hb dX7_trade_130 ?_
        obtain ⟨M10, e9, heq⟩ := bn_of heq
        refine mm_kv hS (mm_runV (rest := []) C hM hS (tX7_lay l G M v1 6 (r6 + r8) M10 e9) (uX7_62 _ (Nat.le_of_ble_eq_true rfl) (Nat.le_of_ble_eq_true rfl)) (mm_recv C hM (kl (rfl : kT 731 = (6, 0))) (ci := 6) rfl (mm_e6 (rfl : kT 731 = (6, 0)))) hl.1 rfl rfl (Nat.le_of_ble_eq_true rfl) ⟨Nat.zero_le _, Nat.zero_le _⟩ dX7_trade_131) (fun H locs hM hS => ?_)
        have hM : mm_P G kR 740 M10 H := hM
        obtain ⟨y11, ey11⟩ : ∃ y : Int32, y = (v1 + 1) := ⟨_, rfl⟩
        have heq := lt_to ey11 heq
        refine lv_iinc (v := y11) (lv' := [(1, .int y11), (2, .int r3), (0, .ref (mm_lo G + 731))]) hx hb dX7_trade_134 hl (k := 2) rfl (by rw [ey11]; rfl) (by decide) rfl (fun ls hl => ?_)
        refine lv_goto (tgt := 2) hx hb dX7_trade_137 (by decide) ?_
        exact ih _ _ _ _ _ hM hS (lv_sub hl [2, 0] rfl) heq
      · have heq := if_f c4 heq
        refine lv_aload_n hx hb dX7_trade_25 rfl (lv_at hl 1 rfl) ?_
        refine lv_iload_n hx hb dX7_trade_26 rfl (lv_at hl 2 rfl) ?_
        refine lv_bipush (v := 16) hx hb dX7_trade_27 (by decide) ?_
        refine lv_aload_n hx hb dX7_trade_29 rfl (lv_at hl 1 rfl) ?_
        refine lv_iload_n hx hb dX7_trade_30 rfl (lv_at hl 2 rfl) ?_
        refine lv_bipush (v := 16) hx hb dX7_trade_31 (by decide) ?_
        obtain ⟨r13, e12, heq⟩ := bn_of heq
        refine mm_ki hS (mm_runV (rest := [.int 16, .int v1, .ref (mm_lo G + 731)]) C hM hS (tX7_of l G M v1 16 r13 e12) (uX7_66 _ (Nat.le_of_ble_eq_true rfl) (Nat.le_of_ble_eq_true rfl)) (mm_recv C hM (kl (rfl : kT 731 = (6, 0))) (ci := 6) rfl (mm_e6 (rfl : kT 731 = (6, 0)))) hl.1 rfl rfl (Nat.le_of_ble_eq_true rfl) ⟨Nat.zero_le _, Nat.zero_le _⟩ dX7_trade_33) (fun H locs hM hS => ?_)
        have hM : mm_P G kR 740 M H := hM
        refine lv_aload_n hx hb dX7_trade_36 rfl (lv_at hl 1 rfl) ?_
        refine lv_iload_n hx hb dX7_trade_37 rfl (lv_at hl 0 rfl) ?_
        refine lv_iconst (v := 0) hx hb dX7_trade_38 (by decide) ?_
        obtain ⟨r15, e14, heq⟩ := bn_of heq
        refine mm_ki hS (mm_runV (rest := [.int r13, .int 16, .int v1, .ref (mm_lo G + 731)]) C hM hS (tX7_ofP l G M r3 0 r15 e14) (uX7_58 _ (Nat.le_of_ble_eq_true rfl) (Nat.le_of_ble_eq_true rfl)) (mm_recv C hM (kl (rfl : kT 731 = (6, 0))) (ci := 6) rfl (mm_e6 (rfl : kT 731 = (6, 0)))) hl.1 rfl rfl (Nat.le_of_ble_eq_true rfl) ⟨Nat.zero_le _, Nat.zero_le _⟩ dX7_trade_39) (fun H locs hM hS => ?_)
        have hM : mm_P G kR 740 M H := hM
        refine lv_iadd hx hb dX7_trade_42 ?_
        obtain ⟨M17, e16, heq⟩ := bn_of heq
        refine mm_kv hS (mm_runV (rest := []) C hM hS (tX7_lay l G M v1 16 (r13 + r15) M17 e16) (uX7_62 _ (Nat.le_of_ble_eq_true rfl) (Nat.le_of_ble_eq_true rfl)) (mm_recv C hM (kl (rfl : kT 731 = (6, 0))) (ci := 6) rfl (mm_e6 (rfl : kT 731 = (6, 0)))) hl.1 rfl rfl (Nat.le_of_ble_eq_true rfl) ⟨Nat.zero_le _, Nat.zero_le _⟩ dX7_trade_43) (fun H locs hM hS => ?_)
        have hM : mm_P G kR 740 M17 H := hM
        refine lv_aload_n hx hb dX7_trade_46 rfl (lv_at hl 1 rfl) ?_
        refine lv_iload_n hx hb dX7_trade_47 rfl (lv_at hl 2 rfl) ?_
        refine lv_bipush (v := 10) hx hb dX7_trade_48 (by decide) ?_
        refine lv_aload_n hx hb dX7_trade_50 rfl (lv_at hl 1 rfl) ?_
        refine lv_iload_n hx hb dX7_trade_51 rfl (lv_at hl 2 rfl) ?_
        refine lv_bipush (v := 10) hx hb dX7_trade_52 (by decide) ?_
        obtain ⟨r19, e18, heq⟩ := bn_of heq
        refine mm_ki hS (mm_runV (rest := [.int 10, .int v1, .ref (mm_lo G + 731)]) C hM hS (tX7_of l G M17 v1 10 r19 e18) (uX7_66 _ (Nat.le_of_ble_eq_true rfl) (Nat.le_of_ble_eq_true rfl)) (mm_recv C hM (kl (rfl : kT 731 = (6, 0))) (ci := 6) rfl (mm_e6 (rfl : kT 731 = (6, 0)))) hl.1 rfl rfl (Nat.le_of_ble_eq_true rfl) ⟨Nat.zero_le _, Nat.zero_le _⟩ dX7_trade_54) (fun H locs hM hS => ?_)
        have hM : mm_P G kR 740 M17 H := hM
        refine lv_iconst (v := 1) hx hb dX7_trade_57 (by decide) ?_
        refine lv_iadd hx hb dX7_trade_58 ?_
        obtain ⟨M21, e20, heq⟩ := bn_of heq
        refine mm_kv hS (mm_runV (rest := []) C hM hS (tX7_lay l G M17 v1 10 (r19 + 1) M21 e20) (uX7_62 _ (Nat.le_of_ble_eq_true rfl) (Nat.le_of_ble_eq_true rfl)) (mm_recv C hM (kl (rfl : kT 731 = (6, 0))) (ci := 6) rfl (mm_e6 (rfl : kT 731 = (6, 0)))) hl.1 rfl rfl (Nat.le_of_ble_eq_true rfl) ⟨Nat.zero_le _, Nat.zero_le _⟩ dX7_trade_59) (fun H locs hM hS => ?_)
        have hM : mm_P G kR 740 M21 H := hM
        refine lv_aload_n hx hb dX7_trade_62 rfl (lv_at hl 1 rfl) ?_
        refine lv_iload_n hx hb dX7_trade_63 rfl (lv_at hl 2 rfl) ?_
        refine lv_bipush (v := 6) hx hb dX7_trade_64 (by decide) ?_
        refine lv_iconst (v := 0) hx hb dX7_trade_66 (by decide) ?_
        obtain ⟨M23, e22, heq⟩ := bn_of heq
        refine mm_kv hS (mm_runV (rest := []) C hM hS (tX7_lay l G M21 v1 6 0 M23 e22) (uX7_62 _ (Nat.le_of_ble_eq_true rfl) (Nat.le_of_ble_eq_true rfl)) (mm_recv C hM (kl (rfl : kT 731 = (6, 0))) (ci := 6) rfl (mm_e6 (rfl : kT 731 = (6, 0)))) hl.1 rfl rfl (Nat.le_of_ble_eq_true rfl) ⟨Nat.zero_le _, Nat.zero_le _⟩ dX7_trade_67) (fun H locs hM hS => ?_)
        have hM : mm_P G kR 740 M23 H := hM
        refine lv_aload_n hx hb dX7_trade_70 rfl (lv_at hl 1 rfl) ?_
        refine gX7_7 C hM (kl (rfl : kT 731 = (6, 0))) (rfl : kT 731 = (6, 0)) (rfl : kR 731 0 = some 732) dX7_trade_71 ?_
        refine lv_bipush (v := 32) hx hb dX7_trade_74 (by decide) ?_
        refine lv_iconst (v := 4) hx hb dX7_trade_76 (by decide) ?_
        refine lv_iload_n hx hb dX7_trade_77 rfl (lv_at hl 0 rfl) ?_
        refine lv_imul hx hb dX7_trade_78 ?_
        refine lv_iadd hx hb dX7_trade_79 ?_
        refine lv_iconst (v := 1) hx hb dX7_trade_80 (by decide) ?_
        refine lv_iadd hx hb dX7_trade_81 ?_
        refine lv_dup2_11 hx hb dX7_trade_82 rfl rfl ?_
        obtain ⟨g24, heq⟩ := gd_of heq
        refine mm_ildk C hM (kl (rfl : kT 732 = (8, 3592))) (rfl : kT 732 = (8, 3592)) (vp_in_of2 g24) rfl dX7_trade_83 ?_
        refine lv_iconst (v := 1) hx hb dX7_trade_84 (by decide) ?_
        refine lv_iadd hx hb dX7_trade_85 ?_
        refine mm_istk C hM hS (kl (rfl : kT 732 = (8, 3592))) (rfl : kT 732 = (8, 3592)) (vp_in_of2 g24) rfl dX7_trade_86 (fun H locs hM hS _ => ?_)
        obtain ⟨M25, eM25⟩ : ∃ z : mm_M, z = sI M23 732 ((32 + (4 * r3)) + 1).toNatClampNeg ((M23.1 732 ((32 + (4 * r3)) + 1).toNatClampNeg) + 1) := ⟨_, rfl⟩
        rw [← eM25] at hM
        have heq := lt_to eM25 heq
        refine lv_aload_n hx hb dX7_trade_87 rfl (lv_at hl 1 rfl) ?_
        refine gX7_7 C hM (kl (rfl : kT 731 = (6, 0))) (rfl : kT 731 = (6, 0)) (rfl : kR 731 0 = some 732) dX7_trade_88 ?_
        refine lv_bipush (v := 32) hx hb dX7_trade_91 (by decide) ?_
        refine lv_iconst (v := 4) hx hb dX7_trade_93 (by decide) ?_
        refine lv_iload_n hx hb dX7_trade_94 rfl (lv_at hl 0 rfl) ?_
        refine lv_imul hx hb dX7_trade_95 ?_
        refine lv_iadd hx hb dX7_trade_96 ?_
        refine lv_iconst (v := 2) hx hb dX7_trade_97 (by decide) ?_
        refine lv_iadd hx hb dX7_trade_98 ?_
        refine lv_dup2_11 hx hb dX7_trade_99 rfl rfl ?_
        obtain ⟨g26, heq⟩ := gd_of heq
        refine mm_ildk C hM (kl (rfl : kT 732 = (8, 3592))) (rfl : kT 732 = (8, 3592)) (vp_in_of2 g26) rfl dX7_trade_100 ?_
        refine lv_aload_n hx hb dX7_trade_101 rfl (lv_at hl 1 rfl) ?_
        refine lv_iload_n hx hb dX7_trade_102 rfl (lv_at hl 0 rfl) ?_
        refine lv_iconst (v := 0) hx hb dX7_trade_103 (by decide) ?_
        obtain ⟨r28, e27, heq⟩ := bn_of heq
        refine mm_ki hS (mm_runV (rest := [.int (M25.1 732 ((32 + (4 * r3)) + 2).toNatClampNeg), .int ((32 + (4 * r3)) + 2), .ref (mm_lo G + 732)]) C hM hS (tX7_ofP l G M25 r3 0 r28 e27) (uX7_58 _ (Nat.le_of_ble_eq_true rfl) (Nat.le_of_ble_eq_true rfl)) (mm_recv C hM (kl (rfl : kT 731 = (6, 0))) (ci := 6) rfl (mm_e6 (rfl : kT 731 = (6, 0)))) hl.1 rfl rfl (Nat.le_of_ble_eq_true rfl) ⟨Nat.zero_le _, Nat.zero_le _⟩ dX7_trade_104) (fun H locs hM hS => ?_)
        have hM : mm_P G kR 740 M25 H := hM
        refine lv_iadd hx hb dX7_trade_107 ?_
        refine mm_istk C hM hS (kl (rfl : kT 732 = (8, 3592))) (rfl : kT 732 = (8, 3592)) (vp_in_of2 g26) rfl dX7_trade_108 (fun H locs hM hS _ => ?_)
        obtain ⟨M29, eM29⟩ : ∃ z : mm_M, z = sI M25 732 ((32 + (4 * r3)) + 2).toNatClampNeg ((M25.1 732 ((32 + (4 * r3)) + 2).toNatClampNeg) + r28) := ⟨_, rfl⟩
        rw [← eM29] at hM
        have heq := lt_to eM29 heq
        refine lv_goto (tgt := 134) hx hb dX7_trade_109 (by decide) ?_
        obtain ⟨y30, ey30⟩ : ∃ y : Int32, y = (v1 + 1) := ⟨_, rfl⟩
        have heq := lt_to ey30 heq
        refine lv_iinc (v := y30) (lv' := [(1, .int y30), (2, .int r3), (0, .ref (mm_lo G + 731))]) hx hb dX7_trade_134 hl (k := 2) rfl (by rw [ey30]; rfl) (by decide) rfl (fun ls hl => ?_)
        refine lv_goto (tgt := 2) hx hb dX7_trade_137 (by decide) ?_
        exact ih _ _ _ _ _ hM hS (lv_sub hl [2, 0] rfl) heq

set_option maxRecDepth 100000 in
set_option maxHeartbeats 4000000 in
theorem tX7_trade (l : Launch) (G : mm_G) (M : mm_M)  (M9 : mm_M) (heq : fX7_trade M = some M9) : Met l yX7_trade (mm_ws yX7_trade cX7_trade 3 none) rmX7_trade (va_Pc [.ref (mm_lo G + 731)] (mm_B G (kR, 740, M))) (mm_Qv G (kR, 740, M9)) 0 0 (mm_A G) := by
  refine mm_met (cc := cX7_trade) (nL := 3) (ret := none) plRX7 (Nat.le_of_ble_eq_true rfl) ?_
  intro p e s m below meth c ls hin C hM hS hl
  have C : mm_C G p s m _ meth c RX7 cX7_trade 3 none := C
  have hM : mm_P G kR 740 M s.heap := hM
  have hl : lv_has ls 3 [(0, .ref (mm_lo G + 731))] := hl
  obtain ⟨hx, hb, -, -, -, -, -, -, hZ, -⟩ := id C
  rw [fX7_trade] at heq
  refine lv_iconst (v := 0) hx hb dX7_trade_0 (by decide) ?_
  refine lv_istore_n (lv' := [(1, .int 0), (0, .ref (mm_lo G + 731))]) hx hb dX7_trade_1 rfl hl (by decide) rfl (fun ls hl => ?_)
  exact tX7_trade_2 C FU _ _ _ _ _ hM hS (lv_sub hl [1, 0] rfl) heq

set_option maxRecDepth 100000 in
set_option maxHeartbeats 4000000 in
theorem tX7_passDay_37 (C : mm_C G p s m args meth c RX7 cX7_passDay 2 none)  {M9 : mm_M} : ∀ n : Nat, ∀ (M : mm_M) (v1 : Int32) (H : Heap) (locs : List Loc) (ls : Array Slot), mm_P G kR 740 M H → va_S (mm_A G) s.heap H locs → lv_has ls 2 [(0, .ref (mm_lo G + 731)), (1, .int v1)] → fX7_passDay_37 n M v1 = some M9 → W p l e rmX7_passDay s m args below meth c H locs 0 0 (MQ below (mm_Qv G (kR, 740, M9)) args s 0 0 (mm_A G)) (F0 m 37 ls []) := by
  obtain ⟨hx, hb, -, -, -, -, -, -, hZ, -⟩ := id C
  intro n
  induction n with
  | zero =>
    intro M v1 H locs ls hM hS hl heq
    rw [fX7_passDay_37] at heq
    cases heq
  | succ n ih =>
    intro M v1 H locs ls hM hS hl heq
    rw [fX7_passDay_37] at heq
    refine lv_iload_n hx hb dX7_passDay_37 rfl (lv_at hl 1 rfl) ?_
    refine lv_aload_n hx hb dX7_passDay_38 rfl (lv_at hl 0 rfl) ?_
    refine gX7_7 C hM (kl (rfl : kT 731 = (6, 0))) (rfl : kT 731 = (6, 0)) (rfl : kR 731 0 = some 732) dX7_passDay_39 ?_
    refine lv_bipush (v := 13) hx hb dX7_passDay_42 (by decide) ?_
    refine mm_ildk C hM (kl (rfl : kT 732 = (8, 3592))) (rfl : kT 732 = (8, 3592)) (vp_in_of2 (by decide)) (by decide : (13 : Int32).toNatClampNeg = 13) dX7_passDay_44 ?_
    refine lv_icmp_ge (tgt := 81) hx hb dX7_passDay_45 (by decide) (fun c1 => ?_) (fun c1 => ?_)
    · have heq := if_t c1 heq
      cases heq
      exact mm_vret C hM hS dX7_passDay_81
    · have heq := if_f c1 heq
      refine lv_aload_n hx hb dX7_passDay_48 rfl (lv_at hl 0 rfl) ?_
      refine gX7_7 C hM (kl (rfl : kT 731 = (6, 0))) (rfl : kT 731 = (6, 0)) (rfl : kR 731 0 = some 732) dX7_passDay_49 ?_
      refine lv_sipush (v := 392) hx hb dX7_passDay_52 (by decide) ?_
      refine lv_sipush (v := 200) hx hb dX7_passDay_55 (by decide) ?_
      refine lv_iload_n hx hb dX7_passDay_58 rfl (lv_at hl 1 rfl) ?_
      refine lv_imul hx hb dX7_passDay_59 ?_
      refine lv_iadd hx hb dX7_passDay_60 ?_
      refine lv_aload_n hx hb dX7_passDay_61 rfl (lv_at hl 0 rfl) ?_
      refine gX7_7 C hM (kl (rfl : kT 731 = (6, 0))) (rfl : kT 731 = (6, 0)) (rfl : kR 731 0 = some 732) dX7_passDay_62 ?_
      refine lv_bipush (v := 10) hx hb dX7_passDay_65 (by decide) ?_
      refine mm_ildk C hM (kl (rfl : kT 732 = (8, 3592))) (rfl : kT 732 = (8, 3592)) (vp_in_of2 (by decide)) (by decide : (10 : Int32).toNatClampNeg = 10) dX7_passDay_67 ?_
      refine lv_sipush (v := 200) hx hb dX7_passDay_68 (by decide) ?_
      refine lv_irem hx hb dX7_passDay_71 (by decide) ?_
      refine lv_iadd hx hb dX7_passDay_72 ?_
      refine lv_iconst (v := 0) hx hb dX7_passDay_73 (by decide) ?_
      obtain ⟨g2, heq⟩ := gd_of heq
      refine mm_istk C hM hS (kl (rfl : kT 732 = (8, 3592))) (rfl : kT 732 = (8, 3592)) (vp_in_of2 g2) rfl dX7_passDay_74 (fun H locs hM hS _ => ?_)
      obtain ⟨M3, eM3⟩ : ∃ z : mm_M, z = sI M 732 ((392 + (200 * v1)) + ((M.1 732 10) - (M.1 732 10) / 200 * 200)).toNatClampNeg 0 := ⟨_, rfl⟩
      rw [← eM3] at hM
      have heq := lt_to eM3 heq
      obtain ⟨y4, ey4⟩ : ∃ y : Int32, y = (v1 + 1) := ⟨_, rfl⟩
      have heq := lt_to ey4 heq
      refine lv_iinc (v := y4) (lv' := [(1, .int y4), (0, .ref (mm_lo G + 731))]) hx hb dX7_passDay_75 hl (k := 1) rfl (by rw [ey4]; rfl) (by decide) rfl (fun ls hl => ?_)
      refine lv_goto (tgt := 37) hx hb dX7_passDay_78 (by decide) ?_
      exact ih _ _ _ _ _ hM hS (lv_sub hl [1, 0] rfl) heq

set_option maxRecDepth 100000 in
set_option maxHeartbeats 4000000 in
theorem tX7_passDay (l : Launch) (G : mm_G) (M : mm_M)  (M9 : mm_M) (heq : fX7_passDay M = some M9) : Met l yX7_passDay (mm_ws yX7_passDay cX7_passDay 2 none) rmX7_passDay (va_Pc [.ref (mm_lo G + 731)] (mm_B G (kR, 740, M))) (mm_Qv G (kR, 740, M9)) 0 0 (mm_A G) := by
  refine mm_met (cc := cX7_passDay) (nL := 2) (ret := none) plRX7 (Nat.le_of_ble_eq_true rfl) ?_
  intro p e s m below meth c ls hin C hM hS hl
  have C : mm_C G p s m _ meth c RX7 cX7_passDay 2 none := C
  have hM : mm_P G kR 740 M s.heap := hM
  have hl : lv_has ls 2 [(0, .ref (mm_lo G + 731))] := hl
  obtain ⟨hx, hb, -, -, -, -, -, -, hZ, -⟩ := id C
  rw [fX7_passDay] at heq
  refine lv_aload_n hx hb dX7_passDay_0 rfl (lv_at hl 0 rfl) ?_
  obtain ⟨M2, e1, heq⟩ := bn_of heq
  refine mm_kv hS (mm_runV (rest := []) C hM hS (tX7_checkAll l G M M2 e1) (uX7_151 _ (Nat.le_of_ble_eq_true rfl) (Nat.le_of_ble_eq_true rfl)) (mm_recv C hM (kl (rfl : kT 731 = (6, 0))) (ci := 6) rfl (mm_e6 (rfl : kT 731 = (6, 0)))) hl.1 rfl rfl (Nat.le_of_ble_eq_true rfl) ⟨Nat.zero_le _, Nat.zero_le _⟩ dX7_passDay_1) (fun H locs hM hS => ?_)
  have hM : mm_P G kR 740 M2 H := hM
  refine lv_aload_n hx hb dX7_passDay_4 rfl (lv_at hl 0 rfl) ?_
  obtain ⟨M4, e3, heq⟩ := bn_of heq
  refine mm_kv hS (mm_runV (rest := []) C hM hS (tX7_beginDay l G M2 M4 e3) (uX7_154 _ (Nat.le_of_ble_eq_true rfl) (Nat.le_of_ble_eq_true rfl)) (mm_recv C hM (kl (rfl : kT 731 = (6, 0))) (ci := 6) rfl (mm_e6 (rfl : kT 731 = (6, 0)))) hl.1 rfl rfl (Nat.le_of_ble_eq_true rfl) ⟨Nat.zero_le _, Nat.zero_le _⟩ dX7_passDay_5) (fun H locs hM hS => ?_)
  have hM : mm_P G kR 740 M4 H := hM
  refine lv_aload_n hx hb dX7_passDay_8 rfl (lv_at hl 0 rfl) ?_
  obtain ⟨M6, e5, heq⟩ := bn_of heq
  refine mm_kv hS (mm_runV (rest := []) C hM hS (tX7_drawAll l G M4 M6 e5) (uX7_157 _ (Nat.le_of_ble_eq_true rfl) (Nat.le_of_ble_eq_true rfl)) (mm_recv C hM (kl (rfl : kT 731 = (6, 0))) (ci := 6) rfl (mm_e6 (rfl : kT 731 = (6, 0)))) hl.1 rfl rfl (Nat.le_of_ble_eq_true rfl) ⟨Nat.zero_le _, Nat.zero_le _⟩ dX7_passDay_9) (fun H locs hM hS => ?_)
  have hM : mm_P G kR 740 M6 H := hM
  refine lv_aload_n hx hb dX7_passDay_12 rfl (lv_at hl 0 rfl) ?_
  obtain ⟨M8, e7, heq⟩ := bn_of heq
  refine mm_kv hS (mm_runV (rest := []) C hM hS (tX7_cookAll l G M6 M8 e7) (uX7_160 _ (Nat.le_of_ble_eq_true rfl) (Nat.le_of_ble_eq_true rfl)) (mm_recv C hM (kl (rfl : kT 731 = (6, 0))) (ci := 6) rfl (mm_e6 (rfl : kT 731 = (6, 0)))) hl.1 rfl rfl (Nat.le_of_ble_eq_true rfl) ⟨Nat.zero_le _, Nat.zero_le _⟩ dX7_passDay_13) (fun H locs hM hS => ?_)
  have hM : mm_P G kR 740 M8 H := hM
  refine lv_aload_n hx hb dX7_passDay_16 rfl (lv_at hl 0 rfl) ?_
  obtain ⟨M10, e9, heq⟩ := bn_of heq
  refine mm_kv hS (mm_runV (rest := []) C hM hS (tX7_swapAll l G M8 M10 e9) (uX7_163 _ (Nat.le_of_ble_eq_true rfl) (Nat.le_of_ble_eq_true rfl)) (mm_recv C hM (kl (rfl : kT 731 = (6, 0))) (ci := 6) rfl (mm_e6 (rfl : kT 731 = (6, 0)))) hl.1 rfl rfl (Nat.le_of_ble_eq_true rfl) ⟨Nat.zero_le _, Nat.zero_le _⟩ dX7_passDay_17) (fun H locs hM hS => ?_)
  have hM : mm_P G kR 740 M10 H := hM
  refine lv_aload_n hx hb dX7_passDay_20 rfl (lv_at hl 0 rfl) ?_
  obtain ⟨M12, e11, heq⟩ := bn_of heq
  refine mm_kv hS (mm_runV (rest := []) C hM hS (tX7_trade l G M10 M12 e11) (uX7_166 _ (Nat.le_of_ble_eq_true rfl) (Nat.le_of_ble_eq_true rfl)) (mm_recv C hM (kl (rfl : kT 731 = (6, 0))) (ci := 6) rfl (mm_e6 (rfl : kT 731 = (6, 0)))) hl.1 rfl rfl (Nat.le_of_ble_eq_true rfl) ⟨Nat.zero_le _, Nat.zero_le _⟩ dX7_passDay_21) (fun H locs hM hS => ?_)
  have hM : mm_P G kR 740 M12 H := hM
  refine lv_aload_n hx hb dX7_passDay_24 rfl (lv_at hl 0 rfl) ?_
  refine gX7_7 C hM (kl (rfl : kT 731 = (6, 0))) (rfl : kT 731 = (6, 0)) (rfl : kR 731 0 = some 732) dX7_passDay_25 ?_
  refine lv_bipush (v := 10) hx hb dX7_passDay_28 (by decide) ?_
  refine lv_dup2_11 hx hb dX7_passDay_30 rfl rfl ?_
  refine mm_ildk C hM (kl (rfl : kT 732 = (8, 3592))) (rfl : kT 732 = (8, 3592)) (vp_in_of2 (by decide)) (by decide : (10 : Int32).toNatClampNeg = 10) dX7_passDay_31 ?_
  refine lv_iconst (v := 1) hx hb dX7_passDay_32 (by decide) ?_
  refine lv_iadd hx hb dX7_passDay_33 ?_
  refine mm_istk C hM hS (kl (rfl : kT 732 = (8, 3592))) (rfl : kT 732 = (8, 3592)) (vp_in_of2 (by decide)) (by decide : (10 : Int32).toNatClampNeg = 10) dX7_passDay_34 (fun H locs hM hS _ => ?_)
  obtain ⟨M13, eM13⟩ : ∃ z : mm_M, z = sI M12 732 10 ((M12.1 732 10) + 1) := ⟨_, rfl⟩
  rw [← eM13] at hM
  have heq := lt_to eM13 heq
  refine lv_iconst (v := 0) hx hb dX7_passDay_35 (by decide) ?_
  refine lv_istore_n (lv' := [(1, .int 0), (0, .ref (mm_lo G + 731))]) hx hb dX7_passDay_36 rfl hl (by decide) rfl (fun ls hl => ?_)
  exact tX7_passDay_37 C FU _ _ _ _ _ hM hS (lv_sub hl [1, 0] rfl) heq

set_option maxRecDepth 100000 in
set_option maxHeartbeats 4000000 in
theorem tX7_tryDays_20 (C : mm_C G p s m args meth c RX7 cX7_tryDays 4 (some .int)) (x1 : Int32) (x2 : Bool) {r : Int32} {M9 : mm_M} : ∀ n : Nat, ∀ (M : mm_M) (v3 : Int32) (H : Heap) (locs : List Loc) (ls : Array Slot), mm_P G kR 740 M H → va_S (mm_A G) s.heap H locs → lv_has ls 4 [(0, .ref (mm_lo G + 731)), (1, .int x1), (3, .int v3)] → fX7_tryDays_20 x1 x2 n M v3 = some (r, M9) → W p l e rmX7_tryDays s m args below meth c H locs 0 0 (MQ below (mm_Qi G r (kR, 740, M9)) args s 0 0 (mm_A G)) (F0 m 20 ls []) := by
  obtain ⟨hx, hb, -, -, -, -, -, -, hZ, -⟩ := id C
  intro n
  induction n with
  | zero =>
    intro M v3 H locs ls hM hS hl heq
    rw [fX7_tryDays_20] at heq
    cases heq
  | succ n ih =>
    intro M v3 H locs ls hM hS hl heq
    rw [fX7_tryDays_20] at heq
    refine lv_iload_n hx hb dX7_tryDays_20 rfl (lv_at hl 2 rfl) ?_
    refine lv_iload_n hx hb dX7_tryDays_21 rfl (lv_at hl 1 rfl) ?_
    refine lv_icmp_ge (tgt := 35) hx hb dX7_tryDays_22 (by decide) (fun c1 => ?_) (fun c1 => ?_)
    · have heq := if_t c1 heq
      refine lv_aload_n hx hb dX7_tryDays_35 rfl (lv_at hl 0 rfl) ?_
      refine gX7_7 C hM (kl (rfl : kT 731 = (6, 0))) (rfl : kT 731 = (6, 0)) (rfl : kR 731 0 = some 732) dX7_tryDays_36 ?_
      refine lv_bipush (v := 10) hx hb dX7_tryDays_39 (by decide) ?_
      refine mm_ildk C hM (kl (rfl : kT 732 = (8, 3592))) (rfl : kT 732 = (8, 3592)) (vp_in_of2 (by decide)) (by decide : (10 : Int32).toNatClampNeg = 10) dX7_tryDays_41 ?_
      cases heq
      exact mm_iret C hM hS dX7_tryDays_42
    · have heq := if_f c1 heq
      refine lv_aload_n hx hb dX7_tryDays_25 rfl (lv_at hl 0 rfl) ?_
      obtain ⟨M3, e2, heq⟩ := bn_of heq
      refine mm_kv hS (mm_runV (rest := []) C hM hS (tX7_passDay l G M M3 e2) (uX7_169 _ (Nat.le_of_ble_eq_true rfl) (Nat.le_of_ble_eq_true rfl)) (mm_recv C hM (kl (rfl : kT 731 = (6, 0))) (ci := 6) rfl (mm_e6 (rfl : kT 731 = (6, 0)))) hl.1 rfl rfl (Nat.le_of_ble_eq_true rfl) ⟨Nat.zero_le _, Nat.zero_le _⟩ dX7_tryDays_26) (fun H locs hM hS => ?_)
      have hM : mm_P G kR 740 M3 H := hM
      obtain ⟨y4, ey4⟩ : ∃ y : Int32, y = (v3 + 1) := ⟨_, rfl⟩
      have heq := lt_to ey4 heq
      refine lv_iinc (v := y4) (lv' := [(3, .int y4), (0, .ref (mm_lo G + 731)), (1, .int x1)]) hx hb dX7_tryDays_29 hl (k := 2) rfl (by rw [ey4]; rfl) (by decide) rfl (fun ls hl => ?_)
      refine lv_goto (tgt := 20) hx hb dX7_tryDays_32 (by decide) ?_
      exact ih _ _ _ _ _ hM hS (lv_sub hl [1, 2, 0] rfl) heq

set_option maxRecDepth 100000 in
set_option maxHeartbeats 4000000 in
theorem tX7_tryDays (l : Launch) (G : mm_G) (M : mm_M) (x1 : Int32) (x2 : Bool) (r : Int32) (M9 : mm_M) (heq : fX7_tryDays M x1 x2 = some (r, M9)) : Met l yX7_tryDays (mm_ws yX7_tryDays cX7_tryDays 4 (some .int)) rmX7_tryDays (va_Pc [.ref (mm_lo G + 731), .int x1, .int (b2i x2)] (mm_B G (kR, 740, M))) (mm_Qi G r (kR, 740, M9)) 0 0 (mm_A G) := by
  refine mm_met (cc := cX7_tryDays) (nL := 4) (ret := (some .int)) plRX7 (Nat.le_of_ble_eq_true rfl) ?_
  intro p e s m below meth c ls hin C hM hS hl
  have C : mm_C G p s m _ meth c RX7 cX7_tryDays 4 (some .int) := C
  have hM : mm_P G kR 740 M s.heap := hM
  have hl : lv_has ls 4 [(0, .ref (mm_lo G + 731)), (1, .int x1), (2, .int (b2i x2))] := hl
  obtain ⟨hx, hb, -, -, -, -, -, -, hZ, -⟩ := id C
  rw [fX7_tryDays] at heq
  refine lv_iload_n hx hb dX7_tryDays_0 rfl (lv_at hl 1 rfl) ?_
  refine lv_iconst (v := 1) hx hb dX7_tryDays_1 (by decide) ?_
  refine lv_bipush (v := 60) hx hb dX7_tryDays_2 (by decide) ?_
  obtain ⟨r2, e1, heq⟩ := bn_of heq
  refine mm_ki hS (mm_runS (rest := []) C hM hS (tX7_in l G M x1 1 60 r2 e1) (uX7_35 _ (Nat.le_of_ble_eq_true rfl) (Nat.le_of_ble_eq_true rfl)) hl.1 rfl rfl (Nat.le_of_ble_eq_true rfl) ⟨Nat.zero_le _, Nat.zero_le _⟩ dX7_tryDays_4) (fun H locs hM hS => ?_)
  have hM : mm_P G kR 740 M H := hM
  refine mm_ifneZ (tgt := 13) C dX7_tryDays_7 (by decide) (fun c3 => ?_) (fun c3 => ?_)
  · have heq := if_t c3 heq
    refine lv_aload_n hx hb dX7_tryDays_13 rfl (lv_at hl 0 rfl) ?_
    refine lv_iload_n hx hb dX7_tryDays_14 rfl (lv_at hl 2 rfl) ?_
    obtain ⟨M5, e4, heq⟩ := bn_of heq
    refine mm_kv hS (mm_runV (rest := []) C hM hS (tX7_keepIf l G M x2 M5 e4) (uX7_78 _ (Nat.le_of_ble_eq_true rfl) (Nat.le_of_ble_eq_true rfl)) (mm_recv C hM (kl (rfl : kT 731 = (6, 0))) (ci := 6) rfl (mm_e6 (rfl : kT 731 = (6, 0)))) hl.1 rfl rfl (Nat.le_of_ble_eq_true rfl) ⟨Nat.zero_le _, Nat.zero_le _⟩ dX7_tryDays_15) (fun H locs hM hS => ?_)
    have hM : mm_P G kR 740 M5 H := hM
    refine lv_iconst (v := 0) hx hb dX7_tryDays_18 (by decide) ?_
    refine lv_istore_n (lv' := [(3, .int 0), (0, .ref (mm_lo G + 731)), (1, .int x1), (2, .int (b2i x2))]) hx hb dX7_tryDays_19 rfl hl (by decide) rfl (fun ls hl => ?_)
    exact tX7_tryDays_20 C x1 x2 FU _ _ _ _ _ hM hS (lv_sub hl [1, 2, 0] rfl) heq
  · have heq := if_f c3 heq
    refine lv_bipush (v := (-2)) hx hb dX7_tryDays_10 (by decide) ?_
    cases heq
    exact mm_iret C hM hS dX7_tryDays_12

set_option maxRecDepth 100000 in
set_option maxHeartbeats 4000000 in
theorem tX7_days (l : Launch) (G : mm_G) (M : mm_M) (x1 : Int32) (r : Int32) (M9 : mm_M) (heq : fX7_days M x1 = some (r, M9)) : Met l yX7_days (mm_ws yX7_days cX7_days 2 (some .int)) rmX7_days (va_Pc [.ref (mm_lo G + 731), .int x1] (mm_B G (kR, 740, M))) (mm_Qi G r (kR, 740, M9)) 0 0 (mm_A G) := by
  refine mm_met (cc := cX7_days) (nL := 2) (ret := (some .int)) plRX7 (Nat.le_of_ble_eq_true rfl) ?_
  intro p e s m below meth c ls hin C hM hS hl
  have C : mm_C G p s m _ meth c RX7 cX7_days 2 (some .int) := C
  have hM : mm_P G kR 740 M s.heap := hM
  have hl : lv_has ls 2 [(0, .ref (mm_lo G + 731)), (1, .int x1)] := hl
  obtain ⟨hx, hb, -, -, -, -, -, -, hZ, -⟩ := id C
  rw [fX7_days] at heq
  refine lv_aload_n hx hb dX7_days_0 rfl (lv_at hl 0 rfl) ?_
  refine lv_iload_n hx hb dX7_days_1 rfl (lv_at hl 1 rfl) ?_
  refine lv_iconst (v := 1) hx hb dX7_days_2 (by decide) ?_
  obtain ⟨r2, M3, e1, heq⟩ := bn2_of heq
  refine mm_ki hS (mm_runV (rest := []) C hM hS (tX7_tryDays l G M x1 true r2 M3 e1) (uX7_172 _ (Nat.le_of_ble_eq_true rfl) (Nat.le_of_ble_eq_true rfl)) (mm_recv C hM (kl (rfl : kT 731 = (6, 0))) (ci := 6) rfl (mm_e6 (rfl : kT 731 = (6, 0)))) hl.1 rfl rfl (Nat.le_of_ble_eq_true rfl) ⟨Nat.zero_le _, Nat.zero_le _⟩ dX7_days_3) (fun H locs hM hS => ?_)
  have hM : mm_P G kR 740 M3 H := hM
  cases heq
  exact mm_iret C hM hS dX7_days_6

set_option maxRecDepth 100000 in
set_option maxHeartbeats 4000000 in
theorem tX7_ofCart_88 (C : mm_C G p s m args meth c RX7 cX7_ofCart 3 (some .int)) (x1 : Int32) (x2 : Int32) (M : mm_M) {r : Int32} : ∀ (H : Heap) (locs : List Loc) (ls : Array Slot), mm_P G kR 740 M H → va_S (mm_A G) s.heap H locs → lv_has ls 3 [(0, .ref (mm_lo G + 731)), (1, .int x1), (2, .int x2)] → fX7_ofCart_88 x1 x2 M = some r → W p l e rmX7_ofCart s m args below meth c H locs 0 0 (MQ below (mm_Qi G r (kR, 740, M)) args s 0 0 (mm_A G)) (F0 m 88 ls []) := by
  obtain ⟨hx, hb, -, -, -, -, -, -, hZ, -⟩ := id C
  intro H locs ls hM hS hl heq
  rw [fX7_ofCart_88] at heq
  refine lv_aload_n hx hb dX7_ofCart_88 rfl (lv_at hl 0 rfl) ?_
  refine lv_iload_n hx hb dX7_ofCart_89 rfl (lv_at hl 1 rfl) ?_
  refine lv_iload_n hx hb dX7_ofCart_90 rfl (lv_at hl 2 rfl) ?_
  obtain ⟨r2, e1, heq⟩ := bn_of heq
  refine mm_ki hS (mm_runV (rest := []) C hM hS (tX7_of l G M x1 x2 r2 e1) (uX7_66 _ (Nat.le_of_ble_eq_true rfl) (Nat.le_of_ble_eq_true rfl)) (mm_recv C hM (kl (rfl : kT 731 = (6, 0))) (ci := 6) rfl (mm_e6 (rfl : kT 731 = (6, 0)))) hl.1 rfl rfl (Nat.le_of_ble_eq_true rfl) ⟨Nat.zero_le _, Nat.zero_le _⟩ dX7_ofCart_91) (fun H locs hM hS => ?_)
  have hM : mm_P G kR 740 M H := hM
  cases heq
  exact mm_iret C hM hS dX7_ofCart_94

set_option maxRecDepth 100000 in
set_option maxHeartbeats 4000000 in
theorem tX7_ofCart_95 (C : mm_C G p s m args meth c RX7 cX7_ofCart 3 (some .int)) (x1 : Int32) (x2 : Int32) (M : mm_M) {r : Int32} : ∀ (H : Heap) (locs : List Loc) (ls : Array Slot), mm_P G kR 740 M H → va_S (mm_A G) s.heap H locs → lv_has ls 3 [(0, .ref (mm_lo G + 731)), (1, .int x1), (2, .int x2)] → fX7_ofCart_95 x1 x2 M = some r → W p l e rmX7_ofCart s m args below meth c H locs 0 0 (MQ below (mm_Qi G r (kR, 740, M)) args s 0 0 (mm_A G)) (F0 m 95 ls []) := by
  obtain ⟨hx, hb, -, -, -, -, -, -, hZ, -⟩ := id C
  intro H locs ls hM hS hl heq
  rw [fX7_ofCart_95] at heq
  refine lv_iload_n hx hb dX7_ofCart_95 rfl (lv_at hl 2 rfl) ?_
  refine lv_iconst (v := 3) hx hb dX7_ofCart_96 (by decide) ?_
  refine lv_isub hx hb dX7_ofCart_97 ?_
  refine lv_aload_n hx hb dX7_ofCart_98 rfl (lv_at hl 0 rfl) ?_
  refine lv_iload_n hx hb dX7_ofCart_99 rfl (lv_at hl 1 rfl) ?_
  refine lv_iconst (v := 2) hx hb dX7_ofCart_100 (by decide) ?_
  obtain ⟨r2, e1, heq⟩ := bn_of heq
  refine mm_ki hS (mm_runV (rest := [.int (x2 - 3)]) C hM hS (tX7_of l G M x1 2 r2 e1) (uX7_66 _ (Nat.le_of_ble_eq_true rfl) (Nat.le_of_ble_eq_true rfl)) (mm_recv C hM (kl (rfl : kT 731 = (6, 0))) (ci := 6) rfl (mm_e6 (rfl : kT 731 = (6, 0)))) hl.1 rfl rfl (Nat.le_of_ble_eq_true rfl) ⟨Nat.zero_le _, Nat.zero_le _⟩ dX7_ofCart_101) (fun H locs hM hS => ?_)
  have hM : mm_P G kR 740 M H := hM
  refine lv_icmp_ge (tgt := 116) hx hb dX7_ofCart_104 (by decide) (fun c3 => ?_) (fun c3 => ?_)
  · have heq := if_t c3 heq
    refine lv_bipush (v := (-6)) hx hb dX7_ofCart_116 (by decide) ?_
    cases heq
    exact mm_iret C hM hS dX7_ofCart_118
  · have heq := if_f c3 heq
    refine lv_aload_n hx hb dX7_ofCart_107 rfl (lv_at hl 0 rfl) ?_
    refine lv_iload_n hx hb dX7_ofCart_108 rfl (lv_at hl 1 rfl) ?_
    refine lv_iload_n hx hb dX7_ofCart_109 rfl (lv_at hl 2 rfl) ?_
    obtain ⟨r5, e4, heq⟩ := bn_of heq
    refine mm_ki hS (mm_runV (rest := []) C hM hS (tX7_of l G M x1 x2 r5 e4) (uX7_66 _ (Nat.le_of_ble_eq_true rfl) (Nat.le_of_ble_eq_true rfl)) (mm_recv C hM (kl (rfl : kT 731 = (6, 0))) (ci := 6) rfl (mm_e6 (rfl : kT 731 = (6, 0)))) hl.1 rfl rfl (Nat.le_of_ble_eq_true rfl) ⟨Nat.zero_le _, Nat.zero_le _⟩ dX7_ofCart_110) (fun H locs hM hS => ?_)
    have hM : mm_P G kR 740 M H := hM
    refine lv_goto (tgt := 118) hx hb dX7_ofCart_113 (by decide) ?_
    cases heq
    exact mm_iret C hM hS dX7_ofCart_118

set_option maxRecDepth 100000 in
set_option maxHeartbeats 4000000 in
theorem tX7_ofCart_119 (C : mm_C G p s m args meth c RX7 cX7_ofCart 3 (some .int)) (x1 : Int32) (x2 : Int32) (M : mm_M) {r : Int32} : ∀ (H : Heap) (locs : List Loc) (ls : Array Slot), mm_P G kR 740 M H → va_S (mm_A G) s.heap H locs → lv_has ls 3 [(0, .ref (mm_lo G + 731)), (1, .int x1), (2, .int x2)] → fX7_ofCart_119 x1 x2 M = some r → W p l e rmX7_ofCart s m args below meth c H locs 0 0 (MQ below (mm_Qi G r (kR, 740, M)) args s 0 0 (mm_A G)) (F0 m 119 ls []) := by
  obtain ⟨hx, hb, -, -, -, -, -, -, hZ, -⟩ := id C
  intro H locs ls hM hS hl heq
  rw [fX7_ofCart_119] at heq
  refine lv_aload_n hx hb dX7_ofCart_119 rfl (lv_at hl 0 rfl) ?_
  refine lv_iload_n hx hb dX7_ofCart_120 rfl (lv_at hl 1 rfl) ?_
  refine lv_iload_n hx hb dX7_ofCart_121 rfl (lv_at hl 2 rfl) ?_
  obtain ⟨r2, e1, heq⟩ := bn_of heq
  refine mm_ki hS (mm_runV (rest := []) C hM hS (tX7_of l G M x1 x2 r2 e1) (uX7_66 _ (Nat.le_of_ble_eq_true rfl) (Nat.le_of_ble_eq_true rfl)) (mm_recv C hM (kl (rfl : kT 731 = (6, 0))) (ci := 6) rfl (mm_e6 (rfl : kT 731 = (6, 0)))) hl.1 rfl rfl (Nat.le_of_ble_eq_true rfl) ⟨Nat.zero_le _, Nat.zero_le _⟩ dX7_ofCart_122) (fun H locs hM hS => ?_)
  have hM : mm_P G kR 740 M H := hM
  cases heq
  exact mm_iret C hM hS dX7_ofCart_125

set_option maxRecDepth 100000 in
set_option maxHeartbeats 4000000 in
theorem tX7_ofCart (l : Launch) (G : mm_G) (M : mm_M) (x1 : Int32) (x2 : Int32) (r : Int32) (heq : fX7_ofCart M x1 x2 = some r) : Met l yX7_ofCart (mm_ws yX7_ofCart cX7_ofCart 3 (some .int)) rmX7_ofCart (va_Pc [.ref (mm_lo G + 731), .int x1, .int x2] (mm_B G (kR, 740, M))) (mm_Qi G r (kR, 740, M)) 0 0 (mm_A G) := by
  refine mm_met (cc := cX7_ofCart) (nL := 3) (ret := (some .int)) plRX7 (Nat.le_of_ble_eq_true rfl) ?_
  intro p e s m below meth c ls hin C hM hS hl
  have C : mm_C G p s m _ meth c RX7 cX7_ofCart 3 (some .int) := C
  have hM : mm_P G kR 740 M s.heap := hM
  have hl : lv_has ls 3 [(0, .ref (mm_lo G + 731)), (1, .int x1), (2, .int x2)] := hl
  obtain ⟨hx, hb, -, -, -, -, -, -, hZ, -⟩ := id C
  rw [fX7_ofCart] at heq
  refine lv_aload_n hx hb dX7_ofCart_0 rfl (lv_at hl 0 rfl) ?_
  refine lv_iload_n hx hb dX7_ofCart_1 rfl (lv_at hl 1 rfl) ?_
  obtain ⟨r2, e1, heq⟩ := bn_of heq
  refine mm_ki hS (mm_runV (rest := []) C hM hS (tX7_isCart l G M x1 r2 e1) (uX7_72 _ (Nat.le_of_ble_eq_true rfl) (Nat.le_of_ble_eq_true rfl)) (mm_recv C hM (kl (rfl : kT 731 = (6, 0))) (ci := 6) rfl (mm_e6 (rfl : kT 731 = (6, 0)))) hl.1 rfl rfl (Nat.le_of_ble_eq_true rfl) ⟨Nat.zero_le _, Nat.zero_le _⟩ dX7_ofCart_2) (fun H locs hM hS => ?_)
  have hM : mm_P G kR 740 M H := hM
  refine mm_ifneZ (tgt := 10) C dX7_ofCart_5 (by decide) (fun c3 => ?_) (fun c3 => ?_)
  · have heq := if_t c3 heq
    refine lv_iload_n hx hb dX7_ofCart_10 rfl (lv_at hl 2 rfl) ?_
    by_cases c4 : x2 = 0
    · have heq := if_t c4 heq
      refine lv_tableIn (tgt := 88) hx hb dX7_ofCart_11 (by rw [c4]; decide) (by rw [c4]; decide) (by rw [c4]; rfl) (by decide) ?_
      exact tX7_ofCart_88 C x1 x2 M _ _ _ hM hS (lv_sub hl [0, 1, 2] rfl) heq
    · have heq := if_f c4 heq
      by_cases c5 : x2 = 1
      · have heq := if_t c5 heq
        refine lv_tableIn (tgt := 88) hx hb dX7_ofCart_11 (by rw [c5]; decide) (by rw [c5]; decide) (by rw [c5]; rfl) (by decide) ?_
        exact tX7_ofCart_88 C x1 x2 M _ _ _ hM hS (lv_sub hl [0, 1, 2] rfl) heq
      · have heq := if_f c5 heq
        by_cases c6 : x2 = 2
        · have heq := if_t c6 heq
          refine lv_tableIn (tgt := 88) hx hb dX7_ofCart_11 (by rw [c6]; decide) (by rw [c6]; decide) (by rw [c6]; rfl) (by decide) ?_
          exact tX7_ofCart_88 C x1 x2 M _ _ _ hM hS (lv_sub hl [0, 1, 2] rfl) heq
        · have heq := if_f c6 heq
          by_cases c7 : x2 = 3
          · have heq := if_t c7 heq
            refine lv_tableIn (tgt := 95) hx hb dX7_ofCart_11 (by rw [c7]; decide) (by rw [c7]; decide) (by rw [c7]; rfl) (by decide) ?_
            exact tX7_ofCart_95 C x1 x2 M _ _ _ hM hS (lv_sub hl [0, 1, 2] rfl) heq
          · have heq := if_f c7 heq
            by_cases c8 : x2 = 4
            · have heq := if_t c8 heq
              refine lv_tableIn (tgt := 95) hx hb dX7_ofCart_11 (by rw [c8]; decide) (by rw [c8]; decide) (by rw [c8]; rfl) (by decide) ?_
              exact tX7_ofCart_95 C x1 x2 M _ _ _ hM hS (lv_sub hl [0, 1, 2] rfl) heq
            · have heq := if_f c8 heq
              by_cases c9 : x2 = 5
              · have heq := if_t c9 heq
                refine lv_tableIn (tgt := 95) hx hb dX7_ofCart_11 (by rw [c9]; decide) (by rw [c9]; decide) (by rw [c9]; rfl) (by decide) ?_
                exact tX7_ofCart_95 C x1 x2 M _ _ _ hM hS (lv_sub hl [0, 1, 2] rfl) heq
              · have heq := if_f c9 heq
                by_cases c10 : x2 = 6
                · have heq := if_t c10 heq
                  refine lv_tableIn (tgt := 119) hx hb dX7_ofCart_11 (by rw [c10]; decide) (by rw [c10]; decide) (by rw [c10]; rfl) (by decide) ?_
                  exact tX7_ofCart_119 C x1 x2 M _ _ _ hM hS (lv_sub hl [0, 1, 2] rfl) heq
                · have heq := if_f c10 heq
                  by_cases c11 : x2 = 7
                  · have heq := if_t c11 heq
                    refine lv_tableIn (tgt := 119) hx hb dX7_ofCart_11 (by rw [c11]; decide) (by rw [c11]; decide) (by rw [c11]; rfl) (by decide) ?_
                    exact tX7_ofCart_119 C x1 x2 M _ _ _ hM hS (lv_sub hl [0, 1, 2] rfl) heq
                  · have heq := if_f c11 heq
                    by_cases c12 : x2 = 8
                    · have heq := if_t c12 heq
                      refine lv_tableIn (tgt := 119) hx hb dX7_ofCart_11 (by rw [c12]; decide) (by rw [c12]; decide) (by rw [c12]; rfl) (by decide) ?_
                      exact tX7_ofCart_119 C x1 x2 M _ _ _ hM hS (lv_sub hl [0, 1, 2] rfl) heq
                    · have heq := if_f c12 heq
                      by_cases c13 : x2 = 9
                      · have heq := if_t c13 heq
                        refine lv_tableIn (tgt := 126) hx hb dX7_ofCart_11 (by rw [c13]; decide) (by rw [c13]; decide) (by rw [c13]; rfl) (by decide) ?_
                        refine lv_aload_n hx hb dX7_ofCart_126 rfl (lv_at hl 0 rfl) ?_
                        refine lv_iload_n hx hb dX7_ofCart_127 rfl (lv_at hl 1 rfl) ?_
                        refine lv_aload_n hx hb dX7_ofCart_128 rfl (lv_at hl 0 rfl) ?_
                        refine gX7_7 C hM (kl (rfl : kT 731 = (6, 0))) (rfl : kT 731 = (6, 0)) (rfl : kR 731 0 = some 732) dX7_ofCart_129 ?_
                        refine lv_bipush (v := 10) hx hb dX7_ofCart_132 (by decide) ?_
                        refine mm_ildk C hM (kl (rfl : kT 732 = (8, 3592))) (rfl : kT 732 = (8, 3592)) (vp_in_of2 (by decide)) (by decide : (10 : Int32).toNatClampNeg = 10) dX7_ofCart_134 ?_
                        obtain ⟨r15, e14, heq⟩ := bn_of heq
                        refine mm_ki hS (mm_runV (rest := []) C hM hS (tX7_pointsAt l G M x1 (M.1 732 10) r15 e14) (uX7_69 _ (Nat.le_of_ble_eq_true rfl) (Nat.le_of_ble_eq_true rfl)) (mm_recv C hM (kl (rfl : kT 731 = (6, 0))) (ci := 6) rfl (mm_e6 (rfl : kT 731 = (6, 0)))) hl.1 rfl rfl (Nat.le_of_ble_eq_true rfl) ⟨Nat.zero_le _, Nat.zero_le _⟩ dX7_ofCart_135) (fun H locs hM hS => ?_)
                        have hM : mm_P G kR 740 M H := hM
                        cases heq
                        exact mm_iret C hM hS dX7_ofCart_138
                      · have heq := if_f c13 heq
                        by_cases c16 : x2 = 10
                        · have heq := if_t c16 heq
                          refine lv_tableIn (tgt := 139) hx hb dX7_ofCart_11 (by rw [c16]; decide) (by rw [c16]; decide) (by rw [c16]; rfl) (by decide) ?_
                          refine lv_aload_n hx hb dX7_ofCart_139 rfl (lv_at hl 0 rfl) ?_
                          refine lv_iload_n hx hb dX7_ofCart_140 rfl (lv_at hl 1 rfl) ?_
                          refine lv_bipush (v := 9) hx hb dX7_ofCart_141 (by decide) ?_
                          obtain ⟨r18, e17, heq⟩ := bn_of heq
                          refine mm_ki hS (mm_runV (rest := []) C hM hS (tX7_of l G M x1 9 r18 e17) (uX7_66 _ (Nat.le_of_ble_eq_true rfl) (Nat.le_of_ble_eq_true rfl)) (mm_recv C hM (kl (rfl : kT 731 = (6, 0))) (ci := 6) rfl (mm_e6 (rfl : kT 731 = (6, 0)))) hl.1 rfl rfl (Nat.le_of_ble_eq_true rfl) ⟨Nat.zero_le _, Nat.zero_le _⟩ dX7_ofCart_143) (fun H locs hM hS => ?_)
                          have hM : mm_P G kR 740 M H := hM
                          cases heq
                          exact mm_iret C hM hS dX7_ofCart_146
                        · have heq := if_f c16 heq
                          by_cases c19 : x2 = 11
                          · have heq := if_t c19 heq
                            refine lv_tableIn (tgt := 147) hx hb dX7_ofCart_11 (by rw [c19]; decide) (by rw [c19]; decide) (by rw [c19]; rfl) (by decide) ?_
                            refine lv_aload_n hx hb dX7_ofCart_147 rfl (lv_at hl 0 rfl) ?_
                            refine lv_iload_n hx hb dX7_ofCart_148 rfl (lv_at hl 1 rfl) ?_
                            refine lv_bipush (v := 10) hx hb dX7_ofCart_149 (by decide) ?_
                            obtain ⟨r21, e20, heq⟩ := bn_of heq
                            refine mm_ki hS (mm_runV (rest := []) C hM hS (tX7_of l G M x1 10 r21 e20) (uX7_66 _ (Nat.le_of_ble_eq_true rfl) (Nat.le_of_ble_eq_true rfl)) (mm_recv C hM (kl (rfl : kT 731 = (6, 0))) (ci := 6) rfl (mm_e6 (rfl : kT 731 = (6, 0)))) hl.1 rfl rfl (Nat.le_of_ble_eq_true rfl) ⟨Nat.zero_le _, Nat.zero_le _⟩ dX7_ofCart_151) (fun H locs hM hS => ?_)
                            have hM : mm_P G kR 740 M H := hM
                            cases heq
                            exact mm_iret C hM hS dX7_ofCart_154
                          · have heq := if_f c19 heq
                            by_cases c22 : x2 = 12
                            · have heq := if_t c22 heq
                              refine lv_tableIn (tgt := 155) hx hb dX7_ofCart_11 (by rw [c22]; decide) (by rw [c22]; decide) (by rw [c22]; rfl) (by decide) ?_
                              refine lv_aload_n hx hb dX7_ofCart_155 rfl (lv_at hl 0 rfl) ?_
                              refine lv_iload_n hx hb dX7_ofCart_156 rfl (lv_at hl 1 rfl) ?_
                              refine lv_bipush (v := 11) hx hb dX7_ofCart_157 (by decide) ?_
                              obtain ⟨r24, e23, heq⟩ := bn_of heq
                              refine mm_ki hS (mm_runV (rest := []) C hM hS (tX7_of l G M x1 11 r24 e23) (uX7_66 _ (Nat.le_of_ble_eq_true rfl) (Nat.le_of_ble_eq_true rfl)) (mm_recv C hM (kl (rfl : kT 731 = (6, 0))) (ci := 6) rfl (mm_e6 (rfl : kT 731 = (6, 0)))) hl.1 rfl rfl (Nat.le_of_ble_eq_true rfl) ⟨Nat.zero_le _, Nat.zero_le _⟩ dX7_ofCart_159) (fun H locs hM hS => ?_)
                              have hM : mm_P G kR 740 M H := hM
                              cases heq
                              exact mm_iret C hM hS dX7_ofCart_162
                            · have heq := if_f c22 heq
                              by_cases c25 : x2 = 13
                              · have heq := if_t c25 heq
                                refine lv_tableIn (tgt := 163) hx hb dX7_ofCart_11 (by rw [c25]; decide) (by rw [c25]; decide) (by rw [c25]; rfl) (by decide) ?_
                                refine lv_aload_n hx hb dX7_ofCart_163 rfl (lv_at hl 0 rfl) ?_
                                refine lv_iload_n hx hb dX7_ofCart_164 rfl (lv_at hl 1 rfl) ?_
                                refine lv_bipush (v := 12) hx hb dX7_ofCart_165 (by decide) ?_
                                obtain ⟨r27, e26, heq⟩ := bn_of heq
                                refine mm_ki hS (mm_runV (rest := []) C hM hS (tX7_of l G M x1 12 r27 e26) (uX7_66 _ (Nat.le_of_ble_eq_true rfl) (Nat.le_of_ble_eq_true rfl)) (mm_recv C hM (kl (rfl : kT 731 = (6, 0))) (ci := 6) rfl (mm_e6 (rfl : kT 731 = (6, 0)))) hl.1 rfl rfl (Nat.le_of_ble_eq_true rfl) ⟨Nat.zero_le _, Nat.zero_le _⟩ dX7_ofCart_167) (fun H locs hM hS => ?_)
                                have hM : mm_P G kR 740 M H := hM
                                cases heq
                                exact mm_iret C hM hS dX7_ofCart_170
                              · have heq := if_f c25 heq
                                by_cases c28 : x2 = 14
                                · have heq := if_t c28 heq
                                  refine lv_tableIn (tgt := 171) hx hb dX7_ofCart_11 (by rw [c28]; decide) (by rw [c28]; decide) (by rw [c28]; rfl) (by decide) ?_
                                  refine lv_aload_n hx hb dX7_ofCart_171 rfl (lv_at hl 0 rfl) ?_
                                  refine lv_iload_n hx hb dX7_ofCart_172 rfl (lv_at hl 1 rfl) ?_
                                  refine lv_bipush (v := 13) hx hb dX7_ofCart_173 (by decide) ?_
                                  obtain ⟨r30, e29, heq⟩ := bn_of heq
                                  refine mm_ki hS (mm_runV (rest := []) C hM hS (tX7_of l G M x1 13 r30 e29) (uX7_66 _ (Nat.le_of_ble_eq_true rfl) (Nat.le_of_ble_eq_true rfl)) (mm_recv C hM (kl (rfl : kT 731 = (6, 0))) (ci := 6) rfl (mm_e6 (rfl : kT 731 = (6, 0)))) hl.1 rfl rfl (Nat.le_of_ble_eq_true rfl) ⟨Nat.zero_le _, Nat.zero_le _⟩ dX7_ofCart_175) (fun H locs hM hS => ?_)
                                  have hM : mm_P G kR 740 M H := hM
                                  cases heq
                                  exact mm_iret C hM hS dX7_ofCart_178
                                · have heq := if_f c28 heq
                                  by_cases c31 : x2 = 15
                                  · have heq := if_t c31 heq
                                    refine lv_tableIn (tgt := 179) hx hb dX7_ofCart_11 (by rw [c31]; decide) (by rw [c31]; decide) (by rw [c31]; rfl) (by decide) ?_
                                    refine lv_aload_n hx hb dX7_ofCart_179 rfl (lv_at hl 0 rfl) ?_
                                    refine lv_iload_n hx hb dX7_ofCart_180 rfl (lv_at hl 1 rfl) ?_
                                    refine lv_bipush (v := 14) hx hb dX7_ofCart_181 (by decide) ?_
                                    obtain ⟨r33, e32, heq⟩ := bn_of heq
                                    refine mm_ki hS (mm_runV (rest := []) C hM hS (tX7_of l G M x1 14 r33 e32) (uX7_66 _ (Nat.le_of_ble_eq_true rfl) (Nat.le_of_ble_eq_true rfl)) (mm_recv C hM (kl (rfl : kT 731 = (6, 0))) (ci := 6) rfl (mm_e6 (rfl : kT 731 = (6, 0)))) hl.1 rfl rfl (Nat.le_of_ble_eq_true rfl) ⟨Nat.zero_le _, Nat.zero_le _⟩ dX7_ofCart_183) (fun H locs hM hS => ?_)
                                    have hM : mm_P G kR 740 M H := hM
                                    cases heq
                                    exact mm_iret C hM hS dX7_ofCart_186
                                  · have heq := if_f c31 heq
                                    refine lv_tableOut (tgt := 187) hx hb dX7_ofCart_11 (by have nc4 := lv_neT (k := 0) (a := 0) c4 rfl; have nc5 := lv_neT (k := 1) (a := 1) c5 rfl; have nc6 := lv_neT (k := 2) (a := 2) c6 rfl; have nc7 := lv_neT (k := 3) (a := 3) c7 rfl; have nc8 := lv_neT (k := 4) (a := 4) c8 rfl; have nc9 := lv_neT (k := 5) (a := 5) c9 rfl; have nc10 := lv_neT (k := 6) (a := 6) c10 rfl; have nc11 := lv_neT (k := 7) (a := 7) c11 rfl; have nc12 := lv_neT (k := 8) (a := 8) c12 rfl; have nc13 := lv_neT (k := 9) (a := 9) c13 rfl; have nc16 := lv_neT (k := 10) (a := 10) c16 rfl; have nc19 := lv_neT (k := 11) (a := 11) c19 rfl; have nc22 := lv_neT (k := 12) (a := 12) c22 rfl; have nc25 := lv_neT (k := 13) (a := 13) c25 rfl; have nc28 := lv_neT (k := 14) (a := 14) c28 rfl; have nc31 := lv_neT (k := 15) (a := 15) c31 rfl; omega) (by decide) ?_
                                    refine lv_bipush (v := (-2)) hx hb dX7_ofCart_187 (by decide) ?_
                                    cases heq
                                    exact mm_iret C hM hS dX7_ofCart_189
  · have heq := if_f c3 heq
    refine lv_iconst (v := (-1)) hx hb dX7_ofCart_8 (by decide) ?_
    cases heq
    exact mm_iret C hM hS dX7_ofCart_9

set_option maxRecDepth 100000 in
set_option maxHeartbeats 4000000 in
theorem tX7_money (l : Launch) (G : mm_G) (M : mm_M) (x1 : Int32) (x2 : Int32) (r : Int64) (heq : fX7_money M x1 x2 = some r) : Met l yX7_money (mm_ws yX7_money cX7_money 3 (some .long)) rmX7_money (va_Pc [.ref (mm_lo G + 731), .int x1, .int x2] (mm_B G (kR, 740, M))) (mm_Ql G r (kR, 740, M)) 0 0 (mm_A G) := by
  refine mm_met (cc := cX7_money) (nL := 3) (ret := (some .long)) plRX7 (Nat.le_of_ble_eq_true rfl) ?_
  intro p e s m below meth c ls hin C hM hS hl
  have C : mm_C G p s m _ meth c RX7 cX7_money 3 (some .long) := C
  have hM : mm_P G kR 740 M s.heap := hM
  have hl : lv_has ls 3 [(0, .ref (mm_lo G + 731)), (1, .int x1), (2, .int x2)] := hl
  obtain ⟨hx, hb, -, -, -, -, -, -, hZ, -⟩ := id C
  rw [fX7_money] at heq
  refine lv_aload_n hx hb dX7_money_0 rfl (lv_at hl 0 rfl) ?_
  refine lv_iload_n hx hb dX7_money_1 rfl (lv_at hl 1 rfl) ?_
  obtain ⟨r2, e1, heq⟩ := bn_of heq
  refine mm_ki hS (mm_runV (rest := []) C hM hS (tX7_isCart l G M x1 r2 e1) (uX7_72 _ (Nat.le_of_ble_eq_true rfl) (Nat.le_of_ble_eq_true rfl)) (mm_recv C hM (kl (rfl : kT 731 = (6, 0))) (ci := 6) rfl (mm_e6 (rfl : kT 731 = (6, 0)))) hl.1 rfl rfl (Nat.le_of_ble_eq_true rfl) ⟨Nat.zero_le _, Nat.zero_le _⟩ dX7_money_2) (fun H locs hM hS => ?_)
  have hM : mm_P G kR 740 M H := hM
  refine mm_ifneZ (tgt := 12) C dX7_money_5 (by decide) (fun c3 => ?_) (fun c3 => ?_)
  · have heq := if_t c3 heq
    refine lv_iload_n hx hb dX7_money_12 rfl (lv_at hl 2 rfl) ?_
    refine lv_if_ne (tgt := 25) hx hb dX7_money_13 (by decide) (fun c4 => ?_) (fun c4 => ?_)
    · have heq := if_f c4 heq
      refine lv_iload_n hx hb dX7_money_25 rfl (lv_at hl 2 rfl) ?_
      refine lv_iconst (v := 1) hx hb dX7_money_26 (by decide) ?_
      refine lv_iconst (v := 4) hx hb dX7_money_27 (by decide) ?_
      obtain ⟨r6, e5, heq⟩ := bn_of heq
      refine mm_ki hS (mm_runS (rest := []) C hM hS (tX7_in l G M x2 1 4 r6 e5) (uX7_35 _ (Nat.le_of_ble_eq_true rfl) (Nat.le_of_ble_eq_true rfl)) hl.1 rfl rfl (Nat.le_of_ble_eq_true rfl) ⟨Nat.zero_le _, Nat.zero_le _⟩ dX7_money_28) (fun H locs hM hS => ?_)
      have hM : mm_P G kR 740 M H := hM
      refine mm_ifeqZ (tgt := 49) C dX7_money_31 (by decide) (fun c7 => ?_) (fun c7 => ?_)
      · have heq := if_f c7 heq
        refine mm_ldc2 C kX7_177 dX7_money_49 ?_
        cases heq
        exact mm_lret C hM hS dX7_money_52
      · have heq := if_t c7 heq
        refine lv_aload_n hx hb dX7_money_34 rfl (lv_at hl 0 rfl) ?_
        refine lv_iload_n hx hb dX7_money_35 rfl (lv_at hl 1 rfl) ?_
        refine lv_bipush (v := 15) hx hb dX7_money_36 (by decide) ?_
        refine lv_iload_n hx hb dX7_money_38 rfl (lv_at hl 2 rfl) ?_
        refine lv_iadd hx hb dX7_money_39 ?_
        refine lv_iconst (v := 1) hx hb dX7_money_40 (by decide) ?_
        refine lv_isub hx hb dX7_money_41 ?_
        obtain ⟨r9, e8, heq⟩ := bn_of heq
        refine mm_ki hS (mm_runV (rest := []) C hM hS (tX7_of l G M x1 ((15 + x2) - 1) r9 e8) (uX7_66 _ (Nat.le_of_ble_eq_true rfl) (Nat.le_of_ble_eq_true rfl)) (mm_recv C hM (kl (rfl : kT 731 = (6, 0))) (ci := 6) rfl (mm_e6 (rfl : kT 731 = (6, 0)))) hl.1 rfl rfl (Nat.le_of_ble_eq_true rfl) ⟨Nat.zero_le _, Nat.zero_le _⟩ dX7_money_42) (fun H locs hM hS => ?_)
        have hM : mm_P G kR 740 M H := hM
        refine lv_i2l hx hb dX7_money_45 rfl ?_
        refine lv_goto (tgt := 52) hx hb dX7_money_46 (by decide) ?_
        cases heq
        exact mm_lret C hM hS dX7_money_52
    · have heq := if_t c4 heq
      refine lv_aload_n hx hb dX7_money_16 rfl (lv_at hl 0 rfl) ?_
      refine lv_iload_n hx hb dX7_money_17 rfl (lv_at hl 1 rfl) ?_
      obtain ⟨r11, e10, heq⟩ := bn_of heq
      refine mm_ki hS (mm_runV (rest := []) C hM hS (tX7_balance l G M x1 r11 e10) (uX7_106 _ (Nat.le_of_ble_eq_true rfl) (Nat.le_of_ble_eq_true rfl)) (mm_recv C hM (kl (rfl : kT 731 = (6, 0))) (ci := 6) rfl (mm_e6 (rfl : kT 731 = (6, 0)))) hl.1 rfl rfl (Nat.le_of_ble_eq_true rfl) ⟨Nat.zero_le _, Nat.zero_le _⟩ dX7_money_18) (fun H locs hM hS => ?_)
      have hM : mm_P G kR 740 M H := hM
      refine lv_i2l hx hb dX7_money_21 rfl ?_
      refine lv_goto (tgt := 52) hx hb dX7_money_22 (by decide) ?_
      cases heq
      exact mm_lret C hM hS dX7_money_52
  · have heq := if_f c3 heq
    refine mm_ldc2 C kX7_175 dX7_money_8 ?_
    cases heq
    exact mm_lret C hM hS dX7_money_11
end WALK
