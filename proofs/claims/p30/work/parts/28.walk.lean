section WALK
variable {p : Program} {l : Launch} {e : Env} {s : State} {m : MethodId} {args : Array Value} {below : List Frame} {meth : Method} {c : Code} {G : mm_G}
set_option maxRecDepth 100000 in
set_option maxHeartbeats 4000000 in
theorem tX7_isNumber (l : Launch) (G : mm_G) (M : mm_M) (x1 : Int32) (r : Bool) (heq : fX7_isNumber M x1 = some r) : Met l yX7_isNumber (mm_ws yX7_isNumber cX7_isNumber 2 (some .boolean)) rmX7_isNumber (va_Pc [.ref (mm_lo G + 731), .int x1] (mm_B G (kR, 740, M))) (mm_Qi G (b2i r) (kR, 740, M)) 0 0 (mm_A G) := by
  refine mm_met (cc := cX7_isNumber) (nL := 2) (ret := (some .boolean)) plRX7 (Nat.le_of_ble_eq_true rfl) ?_
  intro p e s m below meth c ls hin C hM hS hl
  have C : mm_C G p s m _ meth c RX7 cX7_isNumber 2 (some .boolean) := C
  have hM : mm_P G kR 740 M s.heap := hM
  have hl : lv_has ls 2 [(0, .ref (mm_lo G + 731)), (1, .int x1)] := hl
  obtain ⟨hx, hb, -, -, -, -, -, -, hZ, -⟩ := id C
  rw [fX7_isNumber] at heq
  refine lv_iload_n hx hb dX7_isNumber_0 rfl (lv_at hl 1 rfl) ?_
  refine lv_bipush (v := (-6)) hx hb dX7_isNumber_1 (by decide) ?_
  refine lv_icmp_eq (tgt := 14) hx hb dX7_isNumber_3 (by decide) (fun c1 => ?_) (fun c1 => ?_)
  · have heq := if_t c1 heq
    refine lv_iconst (v := 1) hx hb dX7_isNumber_14 (by decide) ?_
    refine lv_goto (tgt := 19) hx hb dX7_isNumber_15 (by decide) ?_
    cases heq
    exact mm_zret C hM hS dX7_isNumber_19
  · have heq := if_f c1 heq
    refine lv_aload_n hx hb dX7_isNumber_6 rfl (lv_at hl 0 rfl) ?_
    refine lv_iload_n hx hb dX7_isNumber_7 rfl (lv_at hl 1 rfl) ?_
    obtain ⟨r3, e2, heq⟩ := bn_of heq
    refine mm_ki hS (mm_runV (rest := []) C hM hS (tX7_isPitch l G M x1 r3 e2) (uX7_54 _ (Nat.le_of_ble_eq_true rfl) (Nat.le_of_ble_eq_true rfl)) (mm_recv C hM (kl (rfl : kT 731 = (6, 0))) (ci := 6) rfl (mm_e6 (rfl : kT 731 = (6, 0)))) hl.1 rfl rfl (Nat.le_of_ble_eq_true rfl) ⟨Nat.zero_le _, Nat.zero_le _⟩ dX7_isNumber_8) (fun H locs hM hS => ?_)
    have hM : mm_P G kR 740 M H := hM
    refine mm_ifeqZ (tgt := 18) C dX7_isNumber_11 (by decide) (fun c4 => ?_) (fun c4 => ?_)
    · have heq := if_f c4 heq
      refine lv_iconst (v := 0) hx hb dX7_isNumber_18 (by decide) ?_
      cases heq
      exact mm_zret C hM hS dX7_isNumber_19
    · have heq := if_t c4 heq
      refine lv_iconst (v := 1) hx hb dX7_isNumber_14 (by decide) ?_
      refine lv_goto (tgt := 19) hx hb dX7_isNumber_15 (by decide) ?_
      cases heq
      exact mm_zret C hM hS dX7_isNumber_19

set_option maxRecDepth 100000 in
set_option maxHeartbeats 4000000 in
theorem tX7_tryWish_72 (C : mm_C G p s m args meth c RX7 cX7_tryWish 8 (some .int)) (x1 : Int32) (x2 : Int32) (x3 : Int32) (x4 : Int32) (x5 : Bool) {r : Int32} {M9 : mm_M} : ∀ (M : mm_M) (v6 : Int32) (t0 : Bool) (H : Heap) (locs : List Loc) (ls : Array Slot), mm_P G kR 740 M H → va_S (mm_A G) s.heap H locs → lv_has ls 8 [(0, .ref (mm_lo G + 731)), (1, .int x1), (2, .int x2), (3, .int x3), (4, .int x4), (5, .int (b2i x5)), (6, .int v6)] → fX7_tryWish_72 x1 x2 x3 x4 x5 M v6 t0 = some (r, M9) → W p l e rmX7_tryWish s m args below meth c H locs 0 0 (MQ below (mm_Qi G r (kR, 740, M9)) args s 0 0 (mm_A G)) (F0 m 72 ls [.int (b2i t0)]) := by
  obtain ⟨hx, hb, -, -, -, -, -, -, hZ, -⟩ := id C
  intro M v6 t0 H locs ls hM hS hl heq
  rw [fX7_tryWish_72] at heq
  refine lv_istore (lv' := [(7, .int (b2i t0)), (0, .ref (mm_lo G + 731)), (1, .int x1), (2, .int x2), (3, .int x3), (4, .int x4), (5, .int (b2i x5)), (6, .int v6)]) hx hb dX7_tryWish_72 hl (by decide) rfl (fun ls hl => ?_)
  refine lv_aload_n hx hb dX7_tryWish_74 rfl (lv_at hl 1 rfl) ?_
  refine lv_iload_n hx hb dX7_tryWish_75 rfl (lv_at hl 3 rfl) ?_
  obtain ⟨r2, e1, heq⟩ := bn_of heq
  refine mm_ki hS (mm_runV (rest := []) C hM hS (tX7_isNumber l G M x2 r2 e1) (uX7_75 _ (Nat.le_of_ble_eq_true rfl) (Nat.le_of_ble_eq_true rfl)) (mm_recv C hM (kl (rfl : kT 731 = (6, 0))) (ci := 6) rfl (mm_e6 (rfl : kT 731 = (6, 0)))) hl.1 rfl rfl (Nat.le_of_ble_eq_true rfl) ⟨Nat.zero_le _, Nat.zero_le _⟩ dX7_tryWish_76) (fun H locs hM hS => ?_)
  have hM : mm_P G kR 740 M H := hM
  refine mm_ifeqZ (tgt := 104) C dX7_tryWish_79 (by decide) (fun c3 => ?_) (fun c3 => ?_)
  · have heq := if_f c3 heq
    refine lv_bipush (v := (-2)) hx hb dX7_tryWish_104 (by decide) ?_
    cases heq
    exact mm_iret C hM hS dX7_tryWish_106
  · have heq := if_t c3 heq
    refine lv_aload_n hx hb dX7_tryWish_82 rfl (lv_at hl 1 rfl) ?_
    refine lv_iload_n hx hb dX7_tryWish_83 rfl (lv_at hl 4 rfl) ?_
    obtain ⟨r5, e4, heq⟩ := bn_of heq
    refine mm_ki hS (mm_runV (rest := []) C hM hS (tX7_isNumber l G M x3 r5 e4) (uX7_75 _ (Nat.le_of_ble_eq_true rfl) (Nat.le_of_ble_eq_true rfl)) (mm_recv C hM (kl (rfl : kT 731 = (6, 0))) (ci := 6) rfl (mm_e6 (rfl : kT 731 = (6, 0)))) hl.1 rfl rfl (Nat.le_of_ble_eq_true rfl) ⟨Nat.zero_le _, Nat.zero_le _⟩ dX7_tryWish_84) (fun H locs hM hS => ?_)
    have hM : mm_P G kR 740 M H := hM
    refine mm_ifeqZ (tgt := 104) C dX7_tryWish_87 (by decide) (fun c6 => ?_) (fun c6 => ?_)
    · have heq := if_f c6 heq
      refine lv_bipush (v := (-2)) hx hb dX7_tryWish_104 (by decide) ?_
      cases heq
      exact mm_iret C hM hS dX7_tryWish_106
    · have heq := if_t c6 heq
      refine lv_aload_n hx hb dX7_tryWish_90 rfl (lv_at hl 1 rfl) ?_
      refine lv_iload hx hb dX7_tryWish_91 (lv_at hl 5 rfl) ?_
      obtain ⟨r8, e7, heq⟩ := bn_of heq
      refine mm_ki hS (mm_runV (rest := []) C hM hS (tX7_isNumber l G M x4 r8 e7) (uX7_75 _ (Nat.le_of_ble_eq_true rfl) (Nat.le_of_ble_eq_true rfl)) (mm_recv C hM (kl (rfl : kT 731 = (6, 0))) (ci := 6) rfl (mm_e6 (rfl : kT 731 = (6, 0)))) hl.1 rfl rfl (Nat.le_of_ble_eq_true rfl) ⟨Nat.zero_le _, Nat.zero_le _⟩ dX7_tryWish_93) (fun H locs hM hS => ?_)
      have hM : mm_P G kR 740 M H := hM
      refine mm_ifeqZ (tgt := 104) C dX7_tryWish_96 (by decide) (fun c9 => ?_) (fun c9 => ?_)
      · have heq := if_f c9 heq
        refine lv_bipush (v := (-2)) hx hb dX7_tryWish_104 (by decide) ?_
        cases heq
        exact mm_iret C hM hS dX7_tryWish_106
      · have heq := if_t c9 heq
        refine lv_iload hx hb dX7_tryWish_99 (lv_at hl 0 rfl) ?_
        refine mm_ifeqZ (tgt := 107) C dX7_tryWish_101 (by decide) (fun c10 => ?_) (fun c10 => ?_)
        · have heq := if_f c10 heq
          refine lv_aload_n hx hb dX7_tryWish_107 rfl (lv_at hl 1 rfl) ?_
          refine lv_iload hx hb dX7_tryWish_108 (lv_at hl 6 rfl) ?_
          obtain ⟨M12, e11, heq⟩ := bn_of heq
          refine mm_kv hS (mm_runV (rest := []) C hM hS (tX7_keepIf l G M x5 M12 e11) (uX7_78 _ (Nat.le_of_ble_eq_true rfl) (Nat.le_of_ble_eq_true rfl)) (mm_recv C hM (kl (rfl : kT 731 = (6, 0))) (ci := 6) rfl (mm_e6 (rfl : kT 731 = (6, 0)))) hl.1 rfl rfl (Nat.le_of_ble_eq_true rfl) ⟨Nat.zero_le _, Nat.zero_le _⟩ dX7_tryWish_110) (fun H locs hM hS => ?_)
          have hM : mm_P G kR 740 M12 H := hM
          refine lv_aload_n hx hb dX7_tryWish_113 rfl (lv_at hl 1 rfl) ?_
          refine lv_iload_n hx hb dX7_tryWish_114 rfl (lv_at hl 2 rfl) ?_
          refine lv_iconst (v := 2) hx hb dX7_tryWish_115 (by decide) ?_
          refine lv_iload hx hb dX7_tryWish_116 (lv_at hl 7 rfl) ?_
          obtain ⟨M14, e13, heq⟩ := bn_of heq
          refine mm_kv hS (mm_runV (rest := []) C hM hS (tX7_lay l G M12 x1 2 v6 M14 e13) (uX7_62 _ (Nat.le_of_ble_eq_true rfl) (Nat.le_of_ble_eq_true rfl)) (mm_recv C hM (kl (rfl : kT 731 = (6, 0))) (ci := 6) rfl (mm_e6 (rfl : kT 731 = (6, 0)))) hl.1 rfl rfl (Nat.le_of_ble_eq_true rfl) ⟨Nat.zero_le _, Nat.zero_le _⟩ dX7_tryWish_118) (fun H locs hM hS => ?_)
          have hM : mm_P G kR 740 M14 H := hM
          refine lv_aload_n hx hb dX7_tryWish_121 rfl (lv_at hl 1 rfl) ?_
          refine lv_iload_n hx hb dX7_tryWish_122 rfl (lv_at hl 2 rfl) ?_
          refine lv_iconst (v := 3) hx hb dX7_tryWish_123 (by decide) ?_
          refine lv_iload_n hx hb dX7_tryWish_124 rfl (lv_at hl 3 rfl) ?_
          obtain ⟨M16, e15, heq⟩ := bn_of heq
          refine mm_kv hS (mm_runV (rest := []) C hM hS (tX7_lay l G M14 x1 3 x2 M16 e15) (uX7_62 _ (Nat.le_of_ble_eq_true rfl) (Nat.le_of_ble_eq_true rfl)) (mm_recv C hM (kl (rfl : kT 731 = (6, 0))) (ci := 6) rfl (mm_e6 (rfl : kT 731 = (6, 0)))) hl.1 rfl rfl (Nat.le_of_ble_eq_true rfl) ⟨Nat.zero_le _, Nat.zero_le _⟩ dX7_tryWish_125) (fun H locs hM hS => ?_)
          have hM : mm_P G kR 740 M16 H := hM
          refine lv_aload_n hx hb dX7_tryWish_128 rfl (lv_at hl 1 rfl) ?_
          refine lv_iload_n hx hb dX7_tryWish_129 rfl (lv_at hl 2 rfl) ?_
          refine lv_iconst (v := 4) hx hb dX7_tryWish_130 (by decide) ?_
          refine lv_iload_n hx hb dX7_tryWish_131 rfl (lv_at hl 4 rfl) ?_
          obtain ⟨M18, e17, heq⟩ := bn_of heq
          refine mm_kv hS (mm_runV (rest := []) C hM hS (tX7_lay l G M16 x1 4 x3 M18 e17) (uX7_62 _ (Nat.le_of_ble_eq_true rfl) (Nat.le_of_ble_eq_true rfl)) (mm_recv C hM (kl (rfl : kT 731 = (6, 0))) (ci := 6) rfl (mm_e6 (rfl : kT 731 = (6, 0)))) hl.1 rfl rfl (Nat.le_of_ble_eq_true rfl) ⟨Nat.zero_le _, Nat.zero_le _⟩ dX7_tryWish_132) (fun H locs hM hS => ?_)
          have hM : mm_P G kR 740 M18 H := hM
          refine lv_aload_n hx hb dX7_tryWish_135 rfl (lv_at hl 1 rfl) ?_
          refine lv_iload_n hx hb dX7_tryWish_136 rfl (lv_at hl 2 rfl) ?_
          refine lv_iconst (v := 5) hx hb dX7_tryWish_137 (by decide) ?_
          refine lv_iload hx hb dX7_tryWish_138 (lv_at hl 5 rfl) ?_
          obtain ⟨M20, e19, heq⟩ := bn_of heq
          refine mm_kv hS (mm_runV (rest := []) C hM hS (tX7_lay l G M18 x1 5 x4 M20 e19) (uX7_62 _ (Nat.le_of_ble_eq_true rfl) (Nat.le_of_ble_eq_true rfl)) (mm_recv C hM (kl (rfl : kT 731 = (6, 0))) (ci := 6) rfl (mm_e6 (rfl : kT 731 = (6, 0)))) hl.1 rfl rfl (Nat.le_of_ble_eq_true rfl) ⟨Nat.zero_le _, Nat.zero_le _⟩ dX7_tryWish_140) (fun H locs hM hS => ?_)
          have hM : mm_P G kR 740 M20 H := hM
          refine lv_iload hx hb dX7_tryWish_143 (lv_at hl 7 rfl) ?_
          cases heq
          exact mm_iret C hM hS dX7_tryWish_145
        · have heq := if_t c10 heq
          refine lv_bipush (v := (-2)) hx hb dX7_tryWish_104 (by decide) ?_
          cases heq
          exact mm_iret C hM hS dX7_tryWish_106

set_option maxRecDepth 100000 in
set_option maxHeartbeats 4000000 in
theorem tX7_tryWish_67 (C : mm_C G p s m args meth c RX7 cX7_tryWish 8 (some .int)) (x1 : Int32) (x2 : Int32) (x3 : Int32) (x4 : Int32) (x5 : Bool) {r : Int32} {M9 : mm_M} : ∀ (M : mm_M) (v6 : Int32) (H : Heap) (locs : List Loc) (ls : Array Slot), mm_P G kR 740 M H → va_S (mm_A G) s.heap H locs → lv_has ls 8 [(0, .ref (mm_lo G + 731)), (1, .int x1), (2, .int x2), (3, .int x3), (4, .int x4), (5, .int (b2i x5)), (6, .int v6)] → fX7_tryWish_67 x1 x2 x3 x4 x5 M v6 = some (r, M9) → W p l e rmX7_tryWish s m args below meth c H locs 0 0 (MQ below (mm_Qi G r (kR, 740, M9)) args s 0 0 (mm_A G)) (F0 m 67 ls []) := by
  obtain ⟨hx, hb, -, -, -, -, -, -, hZ, -⟩ := id C
  intro M v6 H locs ls hM hS hl heq
  rw [fX7_tryWish_67] at heq
  refine lv_iconst (v := 1) hx hb dX7_tryWish_67 (by decide) ?_
  refine lv_goto (tgt := 72) hx hb dX7_tryWish_68 (by decide) ?_
  exact tX7_tryWish_72 C x1 x2 x3 x4 x5 _ _ _ _ _ _ hM hS (lv_sub hl [0, 1, 2, 3, 4, 5, 6] rfl) heq

set_option maxRecDepth 100000 in
set_option maxHeartbeats 4000000 in
theorem tX7_tryWish_71 (C : mm_C G p s m args meth c RX7 cX7_tryWish 8 (some .int)) (x1 : Int32) (x2 : Int32) (x3 : Int32) (x4 : Int32) (x5 : Bool) {r : Int32} {M9 : mm_M} : ∀ (M : mm_M) (v6 : Int32) (H : Heap) (locs : List Loc) (ls : Array Slot), mm_P G kR 740 M H → va_S (mm_A G) s.heap H locs → lv_has ls 8 [(0, .ref (mm_lo G + 731)), (1, .int x1), (2, .int x2), (3, .int x3), (4, .int x4), (5, .int (b2i x5)), (6, .int v6)] → fX7_tryWish_71 x1 x2 x3 x4 x5 M v6 = some (r, M9) → W p l e rmX7_tryWish s m args below meth c H locs 0 0 (MQ below (mm_Qi G r (kR, 740, M9)) args s 0 0 (mm_A G)) (F0 m 71 ls []) := by
  obtain ⟨hx, hb, -, -, -, -, -, -, hZ, -⟩ := id C
  intro M v6 H locs ls hM hS hl heq
  rw [fX7_tryWish_71] at heq
  refine lv_iconst (v := 0) hx hb dX7_tryWish_71 (by decide) ?_
  exact tX7_tryWish_72 C x1 x2 x3 x4 x5 _ _ _ _ _ _ hM hS (lv_sub hl [0, 1, 2, 3, 4, 5, 6] rfl) heq

set_option maxRecDepth 100000 in
set_option maxHeartbeats 4000000 in
theorem tX7_tryWish_49 (C : mm_C G p s m args meth c RX7 cX7_tryWish 8 (some .int)) (x1 : Int32) (x2 : Int32) (x3 : Int32) (x4 : Int32) (x5 : Bool) {r : Int32} {M9 : mm_M} : ∀ (M : mm_M) (v6 : Int32) (H : Heap) (locs : List Loc) (ls : Array Slot), mm_P G kR 740 M H → va_S (mm_A G) s.heap H locs → lv_has ls 8 [(0, .ref (mm_lo G + 731)), (1, .int x1), (2, .int x2), (3, .int x3), (4, .int x4), (5, .int (b2i x5)), (6, .int v6)] → fX7_tryWish_49 x1 x2 x3 x4 x5 M v6 = some (r, M9) → W p l e rmX7_tryWish s m args below meth c H locs 0 0 (MQ below (mm_Qi G r (kR, 740, M9)) args s 0 0 (mm_A G)) (F0 m 49 ls []) := by
  obtain ⟨hx, hb, -, -, -, -, -, -, hZ, -⟩ := id C
  intro M v6 H locs ls hM hS hl heq
  rw [fX7_tryWish_49] at heq
  refine lv_iload hx hb dX7_tryWish_49 (lv_at hl 6 rfl) ?_
  refine lv_iconst (v := 2) hx hb dX7_tryWish_51 (by decide) ?_
  refine lv_icmp_le (tgt := 71) hx hb dX7_tryWish_52 (by decide) (fun c1 => ?_) (fun c1 => ?_)
  · have heq := if_t c1 heq
    exact tX7_tryWish_71 C x1 x2 x3 x4 x5 _ _ _ _ _ hM hS (lv_sub hl [0, 1, 2, 3, 4, 5, 6] rfl) heq
  · have heq := if_f c1 heq
    refine lv_iload_n hx hb dX7_tryWish_55 rfl (lv_at hl 2 rfl) ?_
    refine lv_iload hx hb dX7_tryWish_56 (lv_at hl 4 rfl) ?_
    refine lv_icmp_eq (tgt := 67) hx hb dX7_tryWish_58 (by decide) (fun c2 => ?_) (fun c2 => ?_)
    · have heq := if_t c2 heq
      exact tX7_tryWish_67 C x1 x2 x3 x4 x5 _ _ _ _ _ hM hS (lv_sub hl [0, 1, 2, 3, 4, 5, 6] rfl) heq
    · have heq := if_f c2 heq
      refine lv_iload_n hx hb dX7_tryWish_61 rfl (lv_at hl 3 rfl) ?_
      refine lv_iload hx hb dX7_tryWish_62 (lv_at hl 4 rfl) ?_
      refine lv_icmp_ne (tgt := 71) hx hb dX7_tryWish_64 (by decide) (fun c3 => ?_) (fun c3 => ?_)
      · have heq := if_f c3 heq
        exact tX7_tryWish_71 C x1 x2 x3 x4 x5 _ _ _ _ _ hM hS (lv_sub hl [0, 1, 2, 3, 4, 5, 6] rfl) heq
      · have heq := if_t c3 heq
        exact tX7_tryWish_67 C x1 x2 x3 x4 x5 _ _ _ _ _ hM hS (lv_sub hl [0, 1, 2, 3, 4, 5, 6] rfl) heq

set_option maxRecDepth 100000 in
set_option maxHeartbeats 4000000 in
theorem tX7_tryWish_36 (C : mm_C G p s m args meth c RX7 cX7_tryWish 8 (some .int)) (x1 : Int32) (x2 : Int32) (x3 : Int32) (x4 : Int32) (x5 : Bool) {r : Int32} {M9 : mm_M} : ∀ (M : mm_M) (t0 : Int32) (H : Heap) (locs : List Loc) (ls : Array Slot), mm_P G kR 740 M H → va_S (mm_A G) s.heap H locs → lv_has ls 8 [(0, .ref (mm_lo G + 731)), (1, .int x1), (2, .int x2), (3, .int x3), (4, .int x4), (5, .int (b2i x5))] → fX7_tryWish_36 x1 x2 x3 x4 x5 M t0 = some (r, M9) → W p l e rmX7_tryWish s m args below meth c H locs 0 0 (MQ below (mm_Qi G r (kR, 740, M9)) args s 0 0 (mm_A G)) (F0 m 36 ls [.int t0]) := by
  obtain ⟨hx, hb, -, -, -, -, -, -, hZ, -⟩ := id C
  intro M t0 H locs ls hM hS hl heq
  rw [fX7_tryWish_36] at heq
  refine lv_istore (lv' := [(6, .int t0), (0, .ref (mm_lo G + 731)), (1, .int x1), (2, .int x2), (3, .int x3), (4, .int x4), (5, .int (b2i x5))]) hx hb dX7_tryWish_36 hl (by decide) rfl (fun ls hl => ?_)
  refine lv_iload hx hb dX7_tryWish_38 (lv_at hl 0 rfl) ?_
  refine lv_iconst (v := 1) hx hb dX7_tryWish_40 (by decide) ?_
  refine lv_icmp_le (tgt := 49) hx hb dX7_tryWish_41 (by decide) (fun c1 => ?_) (fun c1 => ?_)
  · have heq := if_t c1 heq
    exact tX7_tryWish_49 C x1 x2 x3 x4 x5 _ _ _ _ _ hM hS (lv_sub hl [1, 2, 3, 4, 5, 6, 0] rfl) heq
  · have heq := if_f c1 heq
    refine lv_iload_n hx hb dX7_tryWish_44 rfl (lv_at hl 3 rfl) ?_
    refine lv_iload_n hx hb dX7_tryWish_45 rfl (lv_at hl 4 rfl) ?_
    refine lv_icmp_eq (tgt := 67) hx hb dX7_tryWish_46 (by decide) (fun c2 => ?_) (fun c2 => ?_)
    · have heq := if_t c2 heq
      exact tX7_tryWish_67 C x1 x2 x3 x4 x5 _ _ _ _ _ hM hS (lv_sub hl [1, 2, 3, 4, 5, 6, 0] rfl) heq
    · have heq := if_f c2 heq
      exact tX7_tryWish_49 C x1 x2 x3 x4 x5 _ _ _ _ _ hM hS (lv_sub hl [1, 2, 3, 4, 5, 6, 0] rfl) heq

set_option maxRecDepth 100000 in
set_option maxHeartbeats 4000000 in
theorem tX7_tryWish (l : Launch) (G : mm_G) (M : mm_M) (x1 : Int32) (x2 : Int32) (x3 : Int32) (x4 : Int32) (x5 : Bool) (r : Int32) (M9 : mm_M) (heq : fX7_tryWish M x1 x2 x3 x4 x5 = some (r, M9)) : Met l yX7_tryWish (mm_ws yX7_tryWish cX7_tryWish 8 (some .int)) rmX7_tryWish (va_Pc [.ref (mm_lo G + 731), .int x1, .int x2, .int x3, .int x4, .int (b2i x5)] (mm_B G (kR, 740, M))) (mm_Qi G r (kR, 740, M9)) 0 0 (mm_A G) := by
  refine mm_met (cc := cX7_tryWish) (nL := 8) (ret := (some .int)) plRX7 (Nat.le_of_ble_eq_true rfl) ?_
  intro p e s m below meth c ls hin C hM hS hl
  have C : mm_C G p s m _ meth c RX7 cX7_tryWish 8 (some .int) := C
  have hM : mm_P G kR 740 M s.heap := hM
  have hl : lv_has ls 8 [(0, .ref (mm_lo G + 731)), (1, .int x1), (2, .int x2), (3, .int x3), (4, .int x4), (5, .int (b2i x5))] := hl
  obtain ⟨hx, hb, -, -, -, -, -, -, hZ, -⟩ := id C
  rw [fX7_tryWish] at heq
  refine lv_aload_n hx hb dX7_tryWish_0 rfl (lv_at hl 0 rfl) ?_
  refine lv_iload_n hx hb dX7_tryWish_1 rfl (lv_at hl 1 rfl) ?_
  obtain ⟨r2, e1, heq⟩ := bn_of heq
  refine mm_ki hS (mm_runV (rest := []) C hM hS (tX7_isCart l G M x1 r2 e1) (uX7_72 _ (Nat.le_of_ble_eq_true rfl) (Nat.le_of_ble_eq_true rfl)) (mm_recv C hM (kl (rfl : kT 731 = (6, 0))) (ci := 6) rfl (mm_e6 (rfl : kT 731 = (6, 0)))) hl.1 rfl rfl (Nat.le_of_ble_eq_true rfl) ⟨Nat.zero_le _, Nat.zero_le _⟩ dX7_tryWish_2) (fun H locs hM hS => ?_)
  have hM : mm_P G kR 740 M H := hM
  refine mm_ifneZ (tgt := 10) C dX7_tryWish_5 (by decide) (fun c3 => ?_) (fun c3 => ?_)
  · have heq := if_t c3 heq
    refine lv_iload_n hx hb dX7_tryWish_10 rfl (lv_at hl 2 rfl) ?_
    refine lv_if_ge (tgt := 18) hx hb dX7_tryWish_11 (by decide) (fun c4 => ?_) (fun c4 => ?_)
    · have heq := if_t c4 heq
      refine lv_iload_n hx hb dX7_tryWish_18 rfl (lv_at hl 3 rfl) ?_
      refine lv_if_ge (tgt := 26) hx hb dX7_tryWish_19 (by decide) (fun c5 => ?_) (fun c5 => ?_)
      · have heq := if_t c5 heq
        refine lv_iload hx hb dX7_tryWish_26 (lv_at hl 4 rfl) ?_
        refine lv_if_ge (tgt := 35) hx hb dX7_tryWish_28 (by decide) (fun c6 => ?_) (fun c6 => ?_)
        · have heq := if_t c6 heq
          refine lv_iconst (v := 3) hx hb dX7_tryWish_35 (by decide) ?_
          exact tX7_tryWish_36 C x1 x2 x3 x4 x5 _ _ _ _ _ hM hS (lv_sub hl [0, 1, 2, 3, 4, 5] rfl) heq
        · have heq := if_f c6 heq
          refine lv_iconst (v := 2) hx hb dX7_tryWish_31 (by decide) ?_
          refine lv_goto (tgt := 36) hx hb dX7_tryWish_32 (by decide) ?_
          exact tX7_tryWish_36 C x1 x2 x3 x4 x5 _ _ _ _ _ hM hS (lv_sub hl [0, 1, 2, 3, 4, 5] rfl) heq
      · have heq := if_f c5 heq
        refine lv_iconst (v := 1) hx hb dX7_tryWish_22 (by decide) ?_
        refine lv_goto (tgt := 36) hx hb dX7_tryWish_23 (by decide) ?_
        exact tX7_tryWish_36 C x1 x2 x3 x4 x5 _ _ _ _ _ hM hS (lv_sub hl [0, 1, 2, 3, 4, 5] rfl) heq
    · have heq := if_f c4 heq
      refine lv_iconst (v := 0) hx hb dX7_tryWish_14 (by decide) ?_
      refine lv_goto (tgt := 36) hx hb dX7_tryWish_15 (by decide) ?_
      exact tX7_tryWish_36 C x1 x2 x3 x4 x5 _ _ _ _ _ hM hS (lv_sub hl [0, 1, 2, 3, 4, 5] rfl) heq
  · have heq := if_f c3 heq
    refine lv_iconst (v := (-1)) hx hb dX7_tryWish_8 (by decide) ?_
    cases heq
    exact mm_iret C hM hS dX7_tryWish_9

set_option maxRecDepth 100000 in
set_option maxHeartbeats 4000000 in
theorem tX7_wish (l : Launch) (G : mm_G) (M : mm_M) (x1 : Int32) (x2 : Int32) (x3 : Int32) (x4 : Int32) (r : Int32) (M9 : mm_M) (heq : fX7_wish M x1 x2 x3 x4 = some (r, M9)) : Met l yX7_wish (mm_ws yX7_wish cX7_wish 5 (some .int)) rmX7_wish (va_Pc [.ref (mm_lo G + 731), .int x1, .int x2, .int x3, .int x4] (mm_B G (kR, 740, M))) (mm_Qi G r (kR, 740, M9)) 0 0 (mm_A G) := by
  refine mm_met (cc := cX7_wish) (nL := 5) (ret := (some .int)) plRX7 (Nat.le_of_ble_eq_true rfl) ?_
  intro p e s m below meth c ls hin C hM hS hl
  have C : mm_C G p s m _ meth c RX7 cX7_wish 5 (some .int) := C
  have hM : mm_P G kR 740 M s.heap := hM
  have hl : lv_has ls 5 [(0, .ref (mm_lo G + 731)), (1, .int x1), (2, .int x2), (3, .int x3), (4, .int x4)] := hl
  obtain ⟨hx, hb, -, -, -, -, -, -, hZ, -⟩ := id C
  rw [fX7_wish] at heq
  refine lv_aload_n hx hb dX7_wish_0 rfl (lv_at hl 0 rfl) ?_
  refine lv_iload_n hx hb dX7_wish_1 rfl (lv_at hl 1 rfl) ?_
  refine lv_iload_n hx hb dX7_wish_2 rfl (lv_at hl 2 rfl) ?_
  refine lv_iload_n hx hb dX7_wish_3 rfl (lv_at hl 3 rfl) ?_
  refine lv_iload hx hb dX7_wish_4 (lv_at hl 4 rfl) ?_
  refine lv_iconst (v := 1) hx hb dX7_wish_6 (by decide) ?_
  obtain ⟨r2, M3, e1, heq⟩ := bn2_of heq
  refine mm_ki hS (mm_runV (rest := []) C hM hS (tX7_tryWish l G M x1 x2 x3 x4 true r2 M3 e1) (uX7_82 _ (Nat.le_of_ble_eq_true rfl) (Nat.le_of_ble_eq_true rfl)) (mm_recv C hM (kl (rfl : kT 731 = (6, 0))) (ci := 6) rfl (mm_e6 (rfl : kT 731 = (6, 0)))) hl.1 rfl rfl (Nat.le_of_ble_eq_true rfl) ⟨Nat.zero_le _, Nat.zero_le _⟩ dX7_wish_7) (fun H locs hM hS => ?_)
  have hM : mm_P G kR 740 M3 H := hM
  cases heq
  exact mm_iret C hM hS dX7_wish_10

set_option maxRecDepth 100000 in
set_option maxHeartbeats 4000000 in
theorem tX7_tryFine (l : Launch) (G : mm_G) (M : mm_M) (x1 : Int32) (x2 : Int32) (x3 : Bool) (r : Int32) (M9 : mm_M) (heq : fX7_tryFine M x1 x2 x3 = some (r, M9)) : Met l yX7_tryFine (mm_ws yX7_tryFine cX7_tryFine 4 (some .int)) rmX7_tryFine (va_Pc [.ref (mm_lo G + 731), .int x1, .int x2, .int (b2i x3)] (mm_B G (kR, 740, M))) (mm_Qi G r (kR, 740, M9)) 0 0 (mm_A G) := by
  refine mm_met (cc := cX7_tryFine) (nL := 4) (ret := (some .int)) plRX7 (Nat.le_of_ble_eq_true rfl) ?_
  intro p e s m below meth c ls hin C hM hS hl
  have C : mm_C G p s m _ meth c RX7 cX7_tryFine 4 (some .int) := C
  have hM : mm_P G kR 740 M s.heap := hM
  have hl : lv_has ls 4 [(0, .ref (mm_lo G + 731)), (1, .int x1), (2, .int x2), (3, .int (b2i x3))] := hl
  obtain ⟨hx, hb, -, -, -, -, -, -, hZ, -⟩ := id C
  rw [fX7_tryFine] at heq
  refine lv_aload_n hx hb dX7_tryFine_0 rfl (lv_at hl 0 rfl) ?_
  refine lv_iload_n hx hb dX7_tryFine_1 rfl (lv_at hl 1 rfl) ?_
  obtain ⟨r2, e1, heq⟩ := bn_of heq
  refine mm_ki hS (mm_runV (rest := []) C hM hS (tX7_isCart l G M x1 r2 e1) (uX7_72 _ (Nat.le_of_ble_eq_true rfl) (Nat.le_of_ble_eq_true rfl)) (mm_recv C hM (kl (rfl : kT 731 = (6, 0))) (ci := 6) rfl (mm_e6 (rfl : kT 731 = (6, 0)))) hl.1 rfl rfl (Nat.le_of_ble_eq_true rfl) ⟨Nat.zero_le _, Nat.zero_le _⟩ dX7_tryFine_2) (fun H locs hM hS => ?_)
  have hM : mm_P G kR 740 M H := hM
  refine mm_ifneZ (tgt := 10) C dX7_tryFine_5 (by decide) (fun c3 => ?_) (fun c3 => ?_)
  · have heq := if_t c3 heq
    refine lv_iload_n hx hb dX7_tryFine_10 rfl (lv_at hl 2 rfl) ?_
    refine lv_iconst (v := 1) hx hb dX7_tryFine_11 (by decide) ?_
    refine lv_bipush (v := 9) hx hb dX7_tryFine_12 (by decide) ?_
    obtain ⟨r5, e4, heq⟩ := bn_of heq
    refine mm_ki hS (mm_runS (rest := []) C hM hS (tX7_in l G M x2 1 9 r5 e4) (uX7_35 _ (Nat.le_of_ble_eq_true rfl) (Nat.le_of_ble_eq_true rfl)) hl.1 rfl rfl (Nat.le_of_ble_eq_true rfl) ⟨Nat.zero_le _, Nat.zero_le _⟩ dX7_tryFine_14) (fun H locs hM hS => ?_)
    have hM : mm_P G kR 740 M H := hM
    refine mm_ifneZ (tgt := 23) C dX7_tryFine_17 (by decide) (fun c6 => ?_) (fun c6 => ?_)
    · have heq := if_t c6 heq
      refine lv_aload_n hx hb dX7_tryFine_23 rfl (lv_at hl 0 rfl) ?_
      refine lv_iload_n hx hb dX7_tryFine_24 rfl (lv_at hl 3 rfl) ?_
      obtain ⟨M8, e7, heq⟩ := bn_of heq
      refine mm_kv hS (mm_runV (rest := []) C hM hS (tX7_keepIf l G M x3 M8 e7) (uX7_78 _ (Nat.le_of_ble_eq_true rfl) (Nat.le_of_ble_eq_true rfl)) (mm_recv C hM (kl (rfl : kT 731 = (6, 0))) (ci := 6) rfl (mm_e6 (rfl : kT 731 = (6, 0)))) hl.1 rfl rfl (Nat.le_of_ble_eq_true rfl) ⟨Nat.zero_le _, Nat.zero_le _⟩ dX7_tryFine_25) (fun H locs hM hS => ?_)
      have hM : mm_P G kR 740 M8 H := hM
      refine lv_aload_n hx hb dX7_tryFine_28 rfl (lv_at hl 0 rfl) ?_
      refine lv_iload_n hx hb dX7_tryFine_29 rfl (lv_at hl 1 rfl) ?_
      refine lv_iload_n hx hb dX7_tryFine_30 rfl (lv_at hl 2 rfl) ?_
      obtain ⟨M10, e9, heq⟩ := bn_of heq
      refine mm_kv hS (mm_runV (rest := []) C hM hS (tX7_give l G M8 x1 x2 M10 e9) (uX7_86 _ (Nat.le_of_ble_eq_true rfl) (Nat.le_of_ble_eq_true rfl)) (mm_recv C hM (kl (rfl : kT 731 = (6, 0))) (ci := 6) rfl (mm_e6 (rfl : kT 731 = (6, 0)))) hl.1 rfl rfl (Nat.le_of_ble_eq_true rfl) ⟨Nat.zero_le _, Nat.zero_le _⟩ dX7_tryFine_31) (fun H locs hM hS => ?_)
      have hM : mm_P G kR 740 M10 H := hM
      refine lv_aload_n hx hb dX7_tryFine_34 rfl (lv_at hl 0 rfl) ?_
      refine lv_iload_n hx hb dX7_tryFine_35 rfl (lv_at hl 1 rfl) ?_
      refine lv_aload_n hx hb dX7_tryFine_36 rfl (lv_at hl 0 rfl) ?_
      refine gX7_7 C hM (kl (rfl : kT 731 = (6, 0))) (rfl : kT 731 = (6, 0)) (rfl : kR 731 0 = some 732) dX7_tryFine_37 ?_
      refine lv_bipush (v := 10) hx hb dX7_tryFine_40 (by decide) ?_
      refine mm_ildk C hM (kl (rfl : kT 732 = (8, 3592))) (rfl : kT 732 = (8, 3592)) (vp_in_of2 (by decide)) (by decide : (10 : Int32).toNatClampNeg = 10) dX7_tryFine_42 ?_
      obtain ⟨r12, e11, heq⟩ := bn_of heq
      refine mm_ki hS (mm_runV (rest := []) C hM hS (tX7_pointsAt l G M10 x1 (M10.1 732 10) r12 e11) (uX7_69 _ (Nat.le_of_ble_eq_true rfl) (Nat.le_of_ble_eq_true rfl)) (mm_recv C hM (kl (rfl : kT 731 = (6, 0))) (ci := 6) rfl (mm_e6 (rfl : kT 731 = (6, 0)))) hl.1 rfl rfl (Nat.le_of_ble_eq_true rfl) ⟨Nat.zero_le _, Nat.zero_le _⟩ dX7_tryFine_43) (fun H locs hM hS => ?_)
      have hM : mm_P G kR 740 M10 H := hM
      cases heq
      exact mm_iret C hM hS dX7_tryFine_46
    · have heq := if_f c6 heq
      refine lv_bipush (v := (-2)) hx hb dX7_tryFine_20 (by decide) ?_
      cases heq
      exact mm_iret C hM hS dX7_tryFine_22
  · have heq := if_f c3 heq
    refine lv_iconst (v := (-1)) hx hb dX7_tryFine_8 (by decide) ?_
    cases heq
    exact mm_iret C hM hS dX7_tryFine_9

set_option maxRecDepth 100000 in
set_option maxHeartbeats 4000000 in
theorem tX7_fine (l : Launch) (G : mm_G) (M : mm_M) (x1 : Int32) (x2 : Int32) (r : Int32) (M9 : mm_M) (heq : fX7_fine M x1 x2 = some (r, M9)) : Met l yX7_fine (mm_ws yX7_fine cX7_fine 3 (some .int)) rmX7_fine (va_Pc [.ref (mm_lo G + 731), .int x1, .int x2] (mm_B G (kR, 740, M))) (mm_Qi G r (kR, 740, M9)) 0 0 (mm_A G) := by
  refine mm_met (cc := cX7_fine) (nL := 3) (ret := (some .int)) plRX7 (Nat.le_of_ble_eq_true rfl) ?_
  intro p e s m below meth c ls hin C hM hS hl
  have C : mm_C G p s m _ meth c RX7 cX7_fine 3 (some .int) := C
  have hM : mm_P G kR 740 M s.heap := hM
  have hl : lv_has ls 3 [(0, .ref (mm_lo G + 731)), (1, .int x1), (2, .int x2)] := hl
  obtain ⟨hx, hb, -, -, -, -, -, -, hZ, -⟩ := id C
  rw [fX7_fine] at heq
  refine lv_aload_n hx hb dX7_fine_0 rfl (lv_at hl 0 rfl) ?_
  refine lv_iload_n hx hb dX7_fine_1 rfl (lv_at hl 1 rfl) ?_
  refine lv_iload_n hx hb dX7_fine_2 rfl (lv_at hl 2 rfl) ?_
  refine lv_iconst (v := 1) hx hb dX7_fine_3 (by decide) ?_
  obtain ⟨r2, M3, e1, heq⟩ := bn2_of heq
  refine mm_ki hS (mm_runV (rest := []) C hM hS (tX7_tryFine l G M x1 x2 true r2 M3 e1) (uX7_90 _ (Nat.le_of_ble_eq_true rfl) (Nat.le_of_ble_eq_true rfl)) (mm_recv C hM (kl (rfl : kT 731 = (6, 0))) (ci := 6) rfl (mm_e6 (rfl : kT 731 = (6, 0)))) hl.1 rfl rfl (Nat.le_of_ble_eq_true rfl) ⟨Nat.zero_le _, Nat.zero_le _⟩ dX7_fine_4) (fun H locs hM hS => ?_)
  have hM : mm_P G kR 740 M3 H := hM
  cases heq
  exact mm_iret C hM hS dX7_fine_7

set_option maxRecDepth 100000 in
set_option maxHeartbeats 4000000 in
theorem tX7_waiting_4 (C : mm_C G p s m args meth c RX7 cX7_waiting 3 (some .int))  (M : mm_M) {r : Int32} : ∀ n : Nat, ∀ (v1 : Int32) (v2 : Int32) (H : Heap) (locs : List Loc) (ls : Array Slot), mm_P G kR 740 M H → va_S (mm_A G) s.heap H locs → lv_has ls 3 [(0, .ref (mm_lo G + 731)), (1, .int v1), (2, .int v2)] → fX7_waiting_4 M n v1 v2 = some r → W p l e rmX7_waiting s m args below meth c H locs 0 0 (MQ below (mm_Qi G r (kR, 740, M)) args s 0 0 (mm_A G)) (F0 m 4 ls []) := by
  obtain ⟨hx, hb, -, -, -, -, -, -, hZ, -⟩ := id C
  intro n
  induction n with
  | zero =>
    intro v1 v2 H locs ls hM hS hl heq
    rw [fX7_waiting_4] at heq
    cases heq
  | succ n ih =>
    intro v1 v2 H locs ls hM hS hl heq
    rw [fX7_waiting_4] at heq
    refine lv_iload_n hx hb dX7_waiting_4 rfl (lv_at hl 2 rfl) ?_
    refine lv_aload_n hx hb dX7_waiting_5 rfl (lv_at hl 0 rfl) ?_
    refine gX7_7 C hM (kl (rfl : kT 731 = (6, 0))) (rfl : kT 731 = (6, 0)) (rfl : kR 731 0 = some 732) dX7_waiting_6 ?_
    refine lv_bipush (v := 13) hx hb dX7_waiting_9 (by decide) ?_
    refine mm_ildk C hM (kl (rfl : kT 732 = (8, 3592))) (rfl : kT 732 = (8, 3592)) (vp_in_of2 (by decide)) (by decide : (13 : Int32).toNatClampNeg = 13) dX7_waiting_11 ?_
    refine lv_icmp_ge (tgt := 31) hx hb dX7_waiting_12 (by decide) (fun c1 => ?_) (fun c1 => ?_)
    · have heq := if_t c1 heq
      refine lv_iload_n hx hb dX7_waiting_31 rfl (lv_at hl 1 rfl) ?_
      cases heq
      exact mm_iret C hM hS dX7_waiting_32
    · have heq := if_f c1 heq
      refine lv_iload_n hx hb dX7_waiting_15 rfl (lv_at hl 1 rfl) ?_
      refine lv_aload_n hx hb dX7_waiting_16 rfl (lv_at hl 0 rfl) ?_
      refine lv_iload_n hx hb dX7_waiting_17 rfl (lv_at hl 2 rfl) ?_
      refine lv_bipush (v := 8) hx hb dX7_waiting_18 (by decide) ?_
      obtain ⟨r3, e2, heq⟩ := bn_of heq
      refine mm_ki hS (mm_runV (rest := [.int v1]) C hM hS (tX7_of l G M v2 8 r3 e2) (uX7_66 _ (Nat.le_of_ble_eq_true rfl) (Nat.le_of_ble_eq_true rfl)) (mm_recv C hM (kl (rfl : kT 731 = (6, 0))) (ci := 6) rfl (mm_e6 (rfl : kT 731 = (6, 0)))) hl.1 rfl rfl (Nat.le_of_ble_eq_true rfl) ⟨Nat.zero_le _, Nat.zero_le _⟩ dX7_waiting_20) (fun H locs hM hS => ?_)
      have hM : mm_P G kR 740 M H := hM
      refine lv_iadd hx hb dX7_waiting_23 ?_
      refine lv_topi (fun y4 ey4 => ?_)
      have heq := lt_to ey4 heq
      refine lv_istore_n (lv' := [(1, .int y4), (0, .ref (mm_lo G + 731)), (2, .int v2)]) hx hb dX7_waiting_24 rfl hl (by decide) rfl (fun ls hl => ?_)
      obtain ⟨y5, ey5⟩ : ∃ y : Int32, y = (v2 + 1) := ⟨_, rfl⟩
      have heq := lt_to ey5 heq
      refine lv_iinc (v := y5) (lv' := [(2, .int y5), (1, .int y4), (0, .ref (mm_lo G + 731))]) hx hb dX7_waiting_25 hl (k := 2) rfl (by rw [ey5]; rfl) (by decide) rfl (fun ls hl => ?_)
      refine lv_goto (tgt := 4) hx hb dX7_waiting_28 (by decide) ?_
      exact ih _ _ _ _ _ hM hS (lv_sub hl [2, 1, 0] rfl) heq

set_option maxRecDepth 100000 in
set_option maxHeartbeats 4000000 in
theorem tX7_waiting (l : Launch) (G : mm_G) (M : mm_M)  (r : Int32) (heq : fX7_waiting M = some r) : Met l yX7_waiting (mm_ws yX7_waiting cX7_waiting 3 (some .int)) rmX7_waiting (va_Pc [.ref (mm_lo G + 731)] (mm_B G (kR, 740, M))) (mm_Qi G r (kR, 740, M)) 0 0 (mm_A G) := by
  refine mm_met (cc := cX7_waiting) (nL := 3) (ret := (some .int)) plRX7 (Nat.le_of_ble_eq_true rfl) ?_
  intro p e s m below meth c ls hin C hM hS hl
  have C : mm_C G p s m _ meth c RX7 cX7_waiting 3 (some .int) := C
  have hM : mm_P G kR 740 M s.heap := hM
  have hl : lv_has ls 3 [(0, .ref (mm_lo G + 731))] := hl
  obtain ⟨hx, hb, -, -, -, -, -, -, hZ, -⟩ := id C
  rw [fX7_waiting] at heq
  refine lv_iconst (v := 0) hx hb dX7_waiting_0 (by decide) ?_
  refine lv_istore_n (lv' := [(1, .int 0), (0, .ref (mm_lo G + 731))]) hx hb dX7_waiting_1 rfl hl (by decide) rfl (fun ls hl => ?_)
  refine lv_iconst (v := 0) hx hb dX7_waiting_2 (by decide) ?_
  refine lv_istore_n (lv' := [(2, .int 0), (1, .int 0), (0, .ref (mm_lo G + 731))]) hx hb dX7_waiting_3 rfl hl (by decide) rfl (fun ls hl => ?_)
  exact tX7_waiting_4 C M FU _ _ _ _ _ hM hS (lv_sub hl [2, 1, 0] rfl) heq

set_option maxRecDepth 100000 in
set_option maxHeartbeats 4000000 in
theorem tX7_tryCheck (l : Launch) (G : mm_G) (M : mm_M) (x1 : Int32) (x2 : Bool) (r : Int32) (M9 : mm_M) (heq : fX7_tryCheck M x1 x2 = some (r, M9)) : Met l yX7_tryCheck (mm_ws yX7_tryCheck cX7_tryCheck 3 (some .int)) rmX7_tryCheck (va_Pc [.ref (mm_lo G + 731), .int x1, .int (b2i x2)] (mm_B G (kR, 740, M))) (mm_Qi G r (kR, 740, M9)) 0 0 (mm_A G) := by
  refine mm_met (cc := cX7_tryCheck) (nL := 3) (ret := (some .int)) plRX7 (Nat.le_of_ble_eq_true rfl) ?_
  intro p e s m below meth c ls hin C hM hS hl
  have C : mm_C G p s m _ meth c RX7 cX7_tryCheck 3 (some .int) := C
  have hM : mm_P G kR 740 M s.heap := hM
  have hl : lv_has ls 3 [(0, .ref (mm_lo G + 731)), (1, .int x1), (2, .int (b2i x2))] := hl
  obtain ⟨hx, hb, -, -, -, -, -, -, hZ, -⟩ := id C
  rw [fX7_tryCheck] at heq
  refine lv_aload_n hx hb dX7_tryCheck_0 rfl (lv_at hl 0 rfl) ?_
  refine lv_iload_n hx hb dX7_tryCheck_1 rfl (lv_at hl 1 rfl) ?_
  obtain ⟨r2, e1, heq⟩ := bn_of heq
  refine mm_ki hS (mm_runV (rest := []) C hM hS (tX7_isCart l G M x1 r2 e1) (uX7_72 _ (Nat.le_of_ble_eq_true rfl) (Nat.le_of_ble_eq_true rfl)) (mm_recv C hM (kl (rfl : kT 731 = (6, 0))) (ci := 6) rfl (mm_e6 (rfl : kT 731 = (6, 0)))) hl.1 rfl rfl (Nat.le_of_ble_eq_true rfl) ⟨Nat.zero_le _, Nat.zero_le _⟩ dX7_tryCheck_2) (fun H locs hM hS => ?_)
  have hM : mm_P G kR 740 M H := hM
  refine mm_ifneZ (tgt := 10) C dX7_tryCheck_5 (by decide) (fun c3 => ?_) (fun c3 => ?_)
  · have heq := if_t c3 heq
    refine lv_aload_n hx hb dX7_tryCheck_10 rfl (lv_at hl 0 rfl) ?_
    refine lv_iload_n hx hb dX7_tryCheck_11 rfl (lv_at hl 1 rfl) ?_
    refine lv_bipush (v := 8) hx hb dX7_tryCheck_12 (by decide) ?_
    obtain ⟨r5, e4, heq⟩ := bn_of heq
    refine mm_ki hS (mm_runV (rest := []) C hM hS (tX7_of l G M x1 8 r5 e4) (uX7_66 _ (Nat.le_of_ble_eq_true rfl) (Nat.le_of_ble_eq_true rfl)) (mm_recv C hM (kl (rfl : kT 731 = (6, 0))) (ci := 6) rfl (mm_e6 (rfl : kT 731 = (6, 0)))) hl.1 rfl rfl (Nat.le_of_ble_eq_true rfl) ⟨Nat.zero_le _, Nat.zero_le _⟩ dX7_tryCheck_14) (fun H locs hM hS => ?_)
    have hM : mm_P G kR 740 M H := hM
    refine lv_iconst (v := 1) hx hb dX7_tryCheck_17 (by decide) ?_
    refine lv_icmp_ne (tgt := 24) hx hb dX7_tryCheck_18 (by decide) (fun c6 => ?_) (fun c6 => ?_)
    · have heq := if_f c6 heq
      refine lv_aload_n hx hb dX7_tryCheck_24 rfl (lv_at hl 0 rfl) ?_
      refine lv_iload_n hx hb dX7_tryCheck_25 rfl (lv_at hl 2 rfl) ?_
      obtain ⟨M8, e7, heq⟩ := bn_of heq
      refine mm_kv hS (mm_runV (rest := []) C hM hS (tX7_keepIf l G M x2 M8 e7) (uX7_78 _ (Nat.le_of_ble_eq_true rfl) (Nat.le_of_ble_eq_true rfl)) (mm_recv C hM (kl (rfl : kT 731 = (6, 0))) (ci := 6) rfl (mm_e6 (rfl : kT 731 = (6, 0)))) hl.1 rfl rfl (Nat.le_of_ble_eq_true rfl) ⟨Nat.zero_le _, Nat.zero_le _⟩ dX7_tryCheck_26) (fun H locs hM hS => ?_)
      have hM : mm_P G kR 740 M8 H := hM
      refine lv_aload_n hx hb dX7_tryCheck_29 rfl (lv_at hl 0 rfl) ?_
      refine lv_iload_n hx hb dX7_tryCheck_30 rfl (lv_at hl 1 rfl) ?_
      refine lv_bipush (v := 8) hx hb dX7_tryCheck_31 (by decide) ?_
      refine lv_iconst (v := 1) hx hb dX7_tryCheck_33 (by decide) ?_
      obtain ⟨M10, e9, heq⟩ := bn_of heq
      refine mm_kv hS (mm_runV (rest := []) C hM hS (tX7_lay l G M8 x1 8 1 M10 e9) (uX7_62 _ (Nat.le_of_ble_eq_true rfl) (Nat.le_of_ble_eq_true rfl)) (mm_recv C hM (kl (rfl : kT 731 = (6, 0))) (ci := 6) rfl (mm_e6 (rfl : kT 731 = (6, 0)))) hl.1 rfl rfl (Nat.le_of_ble_eq_true rfl) ⟨Nat.zero_le _, Nat.zero_le _⟩ dX7_tryCheck_34) (fun H locs hM hS => ?_)
      have hM : mm_P G kR 740 M10 H := hM
      refine lv_aload_n hx hb dX7_tryCheck_37 rfl (lv_at hl 0 rfl) ?_
      obtain ⟨r12, e11, heq⟩ := bn_of heq
      refine mm_ki hS (mm_runV (rest := []) C hM hS (tX7_waiting l G M10 r12 e11) (uX7_94 _ (Nat.le_of_ble_eq_true rfl) (Nat.le_of_ble_eq_true rfl)) (mm_recv C hM (kl (rfl : kT 731 = (6, 0))) (ci := 6) rfl (mm_e6 (rfl : kT 731 = (6, 0)))) hl.1 rfl rfl (Nat.le_of_ble_eq_true rfl) ⟨Nat.zero_le _, Nat.zero_le _⟩ dX7_tryCheck_38) (fun H locs hM hS => ?_)
      have hM : mm_P G kR 740 M10 H := hM
      cases heq
      exact mm_iret C hM hS dX7_tryCheck_41
    · have heq := if_t c6 heq
      refine lv_bipush (v := (-5)) hx hb dX7_tryCheck_21 (by decide) ?_
      cases heq
      exact mm_iret C hM hS dX7_tryCheck_23
  · have heq := if_f c3 heq
    refine lv_iconst (v := (-1)) hx hb dX7_tryCheck_8 (by decide) ?_
    cases heq
    exact mm_iret C hM hS dX7_tryCheck_9

set_option maxRecDepth 100000 in
set_option maxHeartbeats 4000000 in
theorem tX7_check (l : Launch) (G : mm_G) (M : mm_M) (x1 : Int32) (r : Int32) (M9 : mm_M) (heq : fX7_check M x1 = some (r, M9)) : Met l yX7_check (mm_ws yX7_check cX7_check 2 (some .int)) rmX7_check (va_Pc [.ref (mm_lo G + 731), .int x1] (mm_B G (kR, 740, M))) (mm_Qi G r (kR, 740, M9)) 0 0 (mm_A G) := by
  refine mm_met (cc := cX7_check) (nL := 2) (ret := (some .int)) plRX7 (Nat.le_of_ble_eq_true rfl) ?_
  intro p e s m below meth c ls hin C hM hS hl
  have C : mm_C G p s m _ meth c RX7 cX7_check 2 (some .int) := C
  have hM : mm_P G kR 740 M s.heap := hM
  have hl : lv_has ls 2 [(0, .ref (mm_lo G + 731)), (1, .int x1)] := hl
  obtain ⟨hx, hb, -, -, -, -, -, -, hZ, -⟩ := id C
  rw [fX7_check] at heq
  refine lv_aload_n hx hb dX7_check_0 rfl (lv_at hl 0 rfl) ?_
  refine lv_iload_n hx hb dX7_check_1 rfl (lv_at hl 1 rfl) ?_
  refine lv_iconst (v := 1) hx hb dX7_check_2 (by decide) ?_
  obtain ⟨r2, M3, e1, heq⟩ := bn2_of heq
  refine mm_ki hS (mm_runV (rest := []) C hM hS (tX7_tryCheck l G M x1 true r2 M3 e1) (uX7_98 _ (Nat.le_of_ble_eq_true rfl) (Nat.le_of_ble_eq_true rfl)) (mm_recv C hM (kl (rfl : kT 731 = (6, 0))) (ci := 6) rfl (mm_e6 (rfl : kT 731 = (6, 0)))) hl.1 rfl rfl (Nat.le_of_ble_eq_true rfl) ⟨Nat.zero_le _, Nat.zero_le _⟩ dX7_check_3) (fun H locs hM hS => ?_)
  have hM : mm_P G kR 740 M3 H := hM
  cases heq
  exact mm_iret C hM hS dX7_check_6

set_option maxRecDepth 100000 in
set_option maxHeartbeats 4000000 in
theorem tX7_trySwap (l : Launch) (G : mm_G) (M : mm_M) (x1 : Int32) (x2 : Int32) (x3 : Bool) (r : Int32) (M9 : mm_M) (heq : fX7_trySwap M x1 x2 x3 = some (r, M9)) : Met l yX7_trySwap (mm_ws yX7_trySwap cX7_trySwap 4 (some .int)) rmX7_trySwap (va_Pc [.ref (mm_lo G + 731), .int x1, .int x2, .int (b2i x3)] (mm_B G (kR, 740, M))) (mm_Qi G r (kR, 740, M9)) 0 0 (mm_A G) := by
  refine mm_met (cc := cX7_trySwap) (nL := 4) (ret := (some .int)) plRX7 (Nat.le_of_ble_eq_true rfl) ?_
  intro p e s m below meth c ls hin C hM hS hl
  have C : mm_C G p s m _ meth c RX7 cX7_trySwap 4 (some .int) := C
  have hM : mm_P G kR 740 M s.heap := hM
  have hl : lv_has ls 4 [(0, .ref (mm_lo G + 731)), (1, .int x1), (2, .int x2), (3, .int (b2i x3))] := hl
  obtain ⟨hx, hb, -, -, -, -, -, -, hZ, -⟩ := id C
  rw [fX7_trySwap] at heq
  refine lv_aload_n hx hb dX7_trySwap_0 rfl (lv_at hl 0 rfl) ?_
  refine lv_iload_n hx hb dX7_trySwap_1 rfl (lv_at hl 1 rfl) ?_
  obtain ⟨r2, e1, heq⟩ := bn_of heq
  refine mm_ki hS (mm_runV (rest := []) C hM hS (tX7_isCart l G M x1 r2 e1) (uX7_72 _ (Nat.le_of_ble_eq_true rfl) (Nat.le_of_ble_eq_true rfl)) (mm_recv C hM (kl (rfl : kT 731 = (6, 0))) (ci := 6) rfl (mm_e6 (rfl : kT 731 = (6, 0)))) hl.1 rfl rfl (Nat.le_of_ble_eq_true rfl) ⟨Nat.zero_le _, Nat.zero_le _⟩ dX7_trySwap_2) (fun H locs hM hS => ?_)
  have hM : mm_P G kR 740 M H := hM
  refine mm_ifeqZ (tgt := 21) C dX7_trySwap_5 (by decide) (fun c3 => ?_) (fun c3 => ?_)
  · have heq := if_f c3 heq
    refine lv_iconst (v := (-1)) hx hb dX7_trySwap_21 (by decide) ?_
    cases heq
    exact mm_iret C hM hS dX7_trySwap_22
  · have heq := if_t c3 heq
    refine lv_aload_n hx hb dX7_trySwap_8 rfl (lv_at hl 0 rfl) ?_
    refine lv_iload_n hx hb dX7_trySwap_9 rfl (lv_at hl 2 rfl) ?_
    obtain ⟨r5, e4, heq⟩ := bn_of heq
    refine mm_ki hS (mm_runV (rest := []) C hM hS (tX7_isCart l G M x2 r5 e4) (uX7_72 _ (Nat.le_of_ble_eq_true rfl) (Nat.le_of_ble_eq_true rfl)) (mm_recv C hM (kl (rfl : kT 731 = (6, 0))) (ci := 6) rfl (mm_e6 (rfl : kT 731 = (6, 0)))) hl.1 rfl rfl (Nat.le_of_ble_eq_true rfl) ⟨Nat.zero_le _, Nat.zero_le _⟩ dX7_trySwap_10) (fun H locs hM hS => ?_)
    have hM : mm_P G kR 740 M H := hM
    refine mm_ifeqZ (tgt := 21) C dX7_trySwap_13 (by decide) (fun c6 => ?_) (fun c6 => ?_)
    · have heq := if_f c6 heq
      refine lv_iconst (v := (-1)) hx hb dX7_trySwap_21 (by decide) ?_
      cases heq
      exact mm_iret C hM hS dX7_trySwap_22
    · have heq := if_t c6 heq
      refine lv_iload_n hx hb dX7_trySwap_16 rfl (lv_at hl 1 rfl) ?_
      refine lv_iload_n hx hb dX7_trySwap_17 rfl (lv_at hl 2 rfl) ?_
      refine lv_icmp_ne (tgt := 23) hx hb dX7_trySwap_18 (by decide) (fun c7 => ?_) (fun c7 => ?_)
      · have heq := if_f c7 heq
        refine lv_aload_n hx hb dX7_trySwap_23 rfl (lv_at hl 0 rfl) ?_
        refine gX7_7 C hM (kl (rfl : kT 731 = (6, 0))) (rfl : kT 731 = (6, 0)) (rfl : kR 731 0 = some 732) dX7_trySwap_24 ?_
        refine lv_bipush (v := 14) hx hb dX7_trySwap_27 (by decide) ?_
        refine mm_ildk C hM (kl (rfl : kT 732 = (8, 3592))) (rfl : kT 732 = (8, 3592)) (vp_in_of2 (by decide)) (by decide : (14 : Int32).toNatClampNeg = 14) dX7_trySwap_29 ?_
        refine lv_bipush (v := 8) hx hb dX7_trySwap_30 (by decide) ?_
        refine lv_icmp_ne (tgt := 38) hx hb dX7_trySwap_32 (by decide) (fun c8 => ?_) (fun c8 => ?_)
        · have heq := if_f c8 heq
          refine lv_aload_n hx hb dX7_trySwap_38 rfl (lv_at hl 0 rfl) ?_
          refine lv_iload_n hx hb dX7_trySwap_39 rfl (lv_at hl 3 rfl) ?_
          obtain ⟨M10, e9, heq⟩ := bn_of heq
          refine mm_kv hS (mm_runV (rest := []) C hM hS (tX7_keepIf l G M x3 M10 e9) (uX7_78 _ (Nat.le_of_ble_eq_true rfl) (Nat.le_of_ble_eq_true rfl)) (mm_recv C hM (kl (rfl : kT 731 = (6, 0))) (ci := 6) rfl (mm_e6 (rfl : kT 731 = (6, 0)))) hl.1 rfl rfl (Nat.le_of_ble_eq_true rfl) ⟨Nat.zero_le _, Nat.zero_le _⟩ dX7_trySwap_40) (fun H locs hM hS => ?_)
          have hM : mm_P G kR 740 M10 H := hM
          refine lv_aload_n hx hb dX7_trySwap_43 rfl (lv_at hl 0 rfl) ?_
          refine gX7_7 C hM (kl (rfl : kT 731 = (6, 0))) (rfl : kT 731 = (6, 0)) (rfl : kR 731 0 = some 732) dX7_trySwap_44 ?_
          refine lv_bipush (v := 16) hx hb dX7_trySwap_47 (by decide) ?_
          refine lv_iconst (v := 2) hx hb dX7_trySwap_49 (by decide) ?_
          refine lv_aload_n hx hb dX7_trySwap_50 rfl (lv_at hl 0 rfl) ?_
          refine gX7_7 C hM (kl (rfl : kT 731 = (6, 0))) (rfl : kT 731 = (6, 0)) (rfl : kR 731 0 = some 732) dX7_trySwap_51 ?_
          refine lv_bipush (v := 14) hx hb dX7_trySwap_54 (by decide) ?_
          refine mm_ildk C hM (kl (rfl : kT 732 = (8, 3592))) (rfl : kT 732 = (8, 3592)) (vp_in_of2 (by decide)) (by decide : (14 : Int32).toNatClampNeg = 14) dX7_trySwap_56 ?_
          refine lv_imul hx hb dX7_trySwap_57 ?_
          refine lv_iadd hx hb dX7_trySwap_58 ?_
          refine lv_iload_n hx hb dX7_trySwap_59 rfl (lv_at hl 1 rfl) ?_
          obtain ⟨g11, heq⟩ := gd_of heq
          refine mm_istk C hM hS (kl (rfl : kT 732 = (8, 3592))) (rfl : kT 732 = (8, 3592)) (vp_in_of2 g11) rfl dX7_trySwap_60 (fun H locs hM hS _ => ?_)
          obtain ⟨M12, eM12⟩ : ∃ z : mm_M, z = sI M10 732 (16 + (2 * (M10.1 732 14))).toNatClampNeg x1 := ⟨_, rfl⟩
          rw [← eM12] at hM
          have heq := lt_to eM12 heq
          refine lv_aload_n hx hb dX7_trySwap_61 rfl (lv_at hl 0 rfl) ?_
          refine gX7_7 C hM (kl (rfl : kT 731 = (6, 0))) (rfl : kT 731 = (6, 0)) (rfl : kR 731 0 = some 732) dX7_trySwap_62 ?_
          refine lv_bipush (v := 16) hx hb dX7_trySwap_65 (by decide) ?_
          refine lv_iconst (v := 2) hx hb dX7_trySwap_67 (by decide) ?_
          refine lv_aload_n hx hb dX7_trySwap_68 rfl (lv_at hl 0 rfl) ?_
          refine gX7_7 C hM (kl (rfl : kT 731 = (6, 0))) (rfl : kT 731 = (6, 0)) (rfl : kR 731 0 = some 732) dX7_trySwap_69 ?_
          refine lv_bipush (v := 14) hx hb dX7_trySwap_72 (by decide) ?_
          refine mm_ildk C hM (kl (rfl : kT 732 = (8, 3592))) (rfl : kT 732 = (8, 3592)) (vp_in_of2 (by decide)) (by decide : (14 : Int32).toNatClampNeg = 14) dX7_trySwap_74 ?_
          refine lv_imul hx hb dX7_trySwap_75 ?_
          refine lv_iadd hx hb dX7_trySwap_76 ?_
          refine lv_iconst (v := 1) hx hb dX7_trySwap_77 (by decide) ?_
          refine lv_iadd hx hb dX7_trySwap_78 ?_
          refine lv_iload_n hx hb dX7_trySwap_79 rfl (lv_at hl 2 rfl) ?_
          obtain ⟨g13, heq⟩ := gd_of heq
          refine mm_istk C hM hS (kl (rfl : kT 732 = (8, 3592))) (rfl : kT 732 = (8, 3592)) (vp_in_of2 g13) rfl dX7_trySwap_80 (fun H locs hM hS _ => ?_)
          obtain ⟨M14, eM14⟩ : ∃ z : mm_M, z = sI M12 732 ((16 + (2 * (M12.1 732 14))) + 1).toNatClampNeg x2 := ⟨_, rfl⟩
          rw [← eM14] at hM
          have heq := lt_to eM14 heq
          refine lv_aload_n hx hb dX7_trySwap_81 rfl (lv_at hl 0 rfl) ?_
          refine gX7_7 C hM (kl (rfl : kT 731 = (6, 0))) (rfl : kT 731 = (6, 0)) (rfl : kR 731 0 = some 732) dX7_trySwap_82 ?_
          refine lv_bipush (v := 14) hx hb dX7_trySwap_85 (by decide) ?_
          refine lv_dup2_11 hx hb dX7_trySwap_87 rfl rfl ?_
          refine mm_ildk C hM (kl (rfl : kT 732 = (8, 3592))) (rfl : kT 732 = (8, 3592)) (vp_in_of2 (by decide)) (by decide : (14 : Int32).toNatClampNeg = 14) dX7_trySwap_88 ?_
          refine lv_iconst (v := 1) hx hb dX7_trySwap_89 (by decide) ?_
          refine lv_iadd hx hb dX7_trySwap_90 ?_
          refine mm_istk C hM hS (kl (rfl : kT 732 = (8, 3592))) (rfl : kT 732 = (8, 3592)) (vp_in_of2 (by decide)) (by decide : (14 : Int32).toNatClampNeg = 14) dX7_trySwap_91 (fun H locs hM hS _ => ?_)
          obtain ⟨M15, eM15⟩ : ∃ z : mm_M, z = sI M14 732 14 ((M14.1 732 14) + 1) := ⟨_, rfl⟩
          rw [← eM15] at hM
          have heq := lt_to eM15 heq
          refine lv_aload_n hx hb dX7_trySwap_92 rfl (lv_at hl 0 rfl) ?_
          refine gX7_7 C hM (kl (rfl : kT 731 = (6, 0))) (rfl : kT 731 = (6, 0)) (rfl : kR 731 0 = some 732) dX7_trySwap_93 ?_
          refine lv_bipush (v := 14) hx hb dX7_trySwap_96 (by decide) ?_
          refine mm_ildk C hM (kl (rfl : kT 732 = (8, 3592))) (rfl : kT 732 = (8, 3592)) (vp_in_of2 (by decide)) (by decide : (14 : Int32).toNatClampNeg = 14) dX7_trySwap_98 ?_
          cases heq
          exact mm_iret C hM hS dX7_trySwap_99
        · have heq := if_t c8 heq
          refine lv_bipush (v := (-4)) hx hb dX7_trySwap_35 (by decide) ?_
          cases heq
          exact mm_iret C hM hS dX7_trySwap_37
      · have heq := if_t c7 heq
        refine lv_iconst (v := (-1)) hx hb dX7_trySwap_21 (by decide) ?_
        cases heq
        exact mm_iret C hM hS dX7_trySwap_22

set_option maxRecDepth 100000 in
set_option maxHeartbeats 4000000 in
theorem tX7_swap (l : Launch) (G : mm_G) (M : mm_M) (x1 : Int32) (x2 : Int32) (r : Int32) (M9 : mm_M) (heq : fX7_swap M x1 x2 = some (r, M9)) : Met l yX7_swap (mm_ws yX7_swap cX7_swap 3 (some .int)) rmX7_swap (va_Pc [.ref (mm_lo G + 731), .int x1, .int x2] (mm_B G (kR, 740, M))) (mm_Qi G r (kR, 740, M9)) 0 0 (mm_A G) := by
  refine mm_met (cc := cX7_swap) (nL := 3) (ret := (some .int)) plRX7 (Nat.le_of_ble_eq_true rfl) ?_
  intro p e s m below meth c ls hin C hM hS hl
  have C : mm_C G p s m _ meth c RX7 cX7_swap 3 (some .int) := C
  have hM : mm_P G kR 740 M s.heap := hM
  have hl : lv_has ls 3 [(0, .ref (mm_lo G + 731)), (1, .int x1), (2, .int x2)] := hl
  obtain ⟨hx, hb, -, -, -, -, -, -, hZ, -⟩ := id C
  rw [fX7_swap] at heq
  refine lv_aload_n hx hb dX7_swap_0 rfl (lv_at hl 0 rfl) ?_
  refine lv_iload_n hx hb dX7_swap_1 rfl (lv_at hl 1 rfl) ?_
  refine lv_iload_n hx hb dX7_swap_2 rfl (lv_at hl 2 rfl) ?_
  refine lv_iconst (v := 1) hx hb dX7_swap_3 (by decide) ?_
  obtain ⟨r2, M3, e1, heq⟩ := bn2_of heq
  refine mm_ki hS (mm_runV (rest := []) C hM hS (tX7_trySwap l G M x1 x2 true r2 M3 e1) (uX7_102 _ (Nat.le_of_ble_eq_true rfl) (Nat.le_of_ble_eq_true rfl)) (mm_recv C hM (kl (rfl : kT 731 = (6, 0))) (ci := 6) rfl (mm_e6 (rfl : kT 731 = (6, 0)))) hl.1 rfl rfl (Nat.le_of_ble_eq_true rfl) ⟨Nat.zero_le _, Nat.zero_le _⟩ dX7_swap_4) (fun H locs hM hS => ?_)
  have hM : mm_P G kR 740 M3 H := hM
  cases heq
  exact mm_iret C hM hS dX7_swap_7

set_option maxRecDepth 100000 in
set_option maxHeartbeats 4000000 in
theorem tX7_balance (l : Launch) (G : mm_G) (M : mm_M) (x1 : Int32) (r : Int32) (heq : fX7_balance M x1 = some r) : Met l yX7_balance (mm_ws yX7_balance cX7_balance 2 (some .int)) rmX7_balance (va_Pc [.ref (mm_lo G + 731), .int x1] (mm_B G (kR, 740, M))) (mm_Qi G r (kR, 740, M)) 0 0 (mm_A G) := by
  refine mm_met (cc := cX7_balance) (nL := 2) (ret := (some .int)) plRX7 (Nat.le_of_ble_eq_true rfl) ?_
  intro p e s m below meth c ls hin C hM hS hl
  have C : mm_C G p s m _ meth c RX7 cX7_balance 2 (some .int) := C
  have hM : mm_P G kR 740 M s.heap := hM
  have hl : lv_has ls 2 [(0, .ref (mm_lo G + 731)), (1, .int x1)] := hl
  obtain ⟨hx, hb, -, -, -, -, -, -, hZ, -⟩ := id C
  rw [fX7_balance] at heq
  refine lv_aload_n hx hb dX7_balance_0 rfl (lv_at hl 0 rfl) ?_
  refine lv_iload_n hx hb dX7_balance_1 rfl (lv_at hl 1 rfl) ?_
  refine lv_bipush (v := 15) hx hb dX7_balance_2 (by decide) ?_
  obtain ⟨r2, e1, heq⟩ := bn_of heq
  refine mm_ki hS (mm_runV (rest := []) C hM hS (tX7_of l G M x1 15 r2 e1) (uX7_66 _ (Nat.le_of_ble_eq_true rfl) (Nat.le_of_ble_eq_true rfl)) (mm_recv C hM (kl (rfl : kT 731 = (6, 0))) (ci := 6) rfl (mm_e6 (rfl : kT 731 = (6, 0)))) hl.1 rfl rfl (Nat.le_of_ble_eq_true rfl) ⟨Nat.zero_le _, Nat.zero_le _⟩ dX7_balance_4) (fun H locs hM hS => ?_)
  have hM : mm_P G kR 740 M H := hM
  refine lv_aload_n hx hb dX7_balance_7 rfl (lv_at hl 0 rfl) ?_
  refine lv_iload_n hx hb dX7_balance_8 rfl (lv_at hl 1 rfl) ?_
  refine lv_bipush (v := 16) hx hb dX7_balance_9 (by decide) ?_
  obtain ⟨r4, e3, heq⟩ := bn_of heq
  refine mm_ki hS (mm_runV (rest := [.int r2]) C hM hS (tX7_of l G M x1 16 r4 e3) (uX7_66 _ (Nat.le_of_ble_eq_true rfl) (Nat.le_of_ble_eq_true rfl)) (mm_recv C hM (kl (rfl : kT 731 = (6, 0))) (ci := 6) rfl (mm_e6 (rfl : kT 731 = (6, 0)))) hl.1 rfl rfl (Nat.le_of_ble_eq_true rfl) ⟨Nat.zero_le _, Nat.zero_le _⟩ dX7_balance_11) (fun H locs hM hS => ?_)
  have hM : mm_P G kR 740 M H := hM
  refine lv_isub hx hb dX7_balance_14 ?_
  refine lv_aload_n hx hb dX7_balance_15 rfl (lv_at hl 0 rfl) ?_
  refine lv_iload_n hx hb dX7_balance_16 rfl (lv_at hl 1 rfl) ?_
  refine lv_bipush (v := 17) hx hb dX7_balance_17 (by decide) ?_
  obtain ⟨r6, e5, heq⟩ := bn_of heq
  refine mm_ki hS (mm_runV (rest := [.int (r2 - r4)]) C hM hS (tX7_of l G M x1 17 r6 e5) (uX7_66 _ (Nat.le_of_ble_eq_true rfl) (Nat.le_of_ble_eq_true rfl)) (mm_recv C hM (kl (rfl : kT 731 = (6, 0))) (ci := 6) rfl (mm_e6 (rfl : kT 731 = (6, 0)))) hl.1 rfl rfl (Nat.le_of_ble_eq_true rfl) ⟨Nat.zero_le _, Nat.zero_le _⟩ dX7_balance_19) (fun H locs hM hS => ?_)
  have hM : mm_P G kR 740 M H := hM
  refine lv_isub hx hb dX7_balance_22 ?_
  refine lv_aload_n hx hb dX7_balance_23 rfl (lv_at hl 0 rfl) ?_
  refine lv_iload_n hx hb dX7_balance_24 rfl (lv_at hl 1 rfl) ?_
  refine lv_bipush (v := 18) hx hb dX7_balance_25 (by decide) ?_
  obtain ⟨r8, e7, heq⟩ := bn_of heq
  refine mm_ki hS (mm_runV (rest := [.int ((r2 - r4) - r6)]) C hM hS (tX7_of l G M x1 18 r8 e7) (uX7_66 _ (Nat.le_of_ble_eq_true rfl) (Nat.le_of_ble_eq_true rfl)) (mm_recv C hM (kl (rfl : kT 731 = (6, 0))) (ci := 6) rfl (mm_e6 (rfl : kT 731 = (6, 0)))) hl.1 rfl rfl (Nat.le_of_ble_eq_true rfl) ⟨Nat.zero_le _, Nat.zero_le _⟩ dX7_balance_27) (fun H locs hM hS => ?_)
  have hM : mm_P G kR 740 M H := hM
  refine lv_isub hx hb dX7_balance_30 ?_
  cases heq
  exact mm_iret C hM hS dX7_balance_31

set_option maxRecDepth 100000 in
set_option maxHeartbeats 4000000 in
theorem tX7_pay (l : Launch) (G : mm_G) (M : mm_M) (x1 : Int32) (x2 : Int32) (r : Int32) (M9 : mm_M) (heq : fX7_pay M x1 x2 = some (r, M9)) : Met l yX7_pay (mm_ws yX7_pay cX7_pay 3 (some .int)) rmX7_pay (va_Pc [.ref (mm_lo G + 731), .int x1, .int x2] (mm_B G (kR, 740, M))) (mm_Qi G r (kR, 740, M9)) 0 0 (mm_A G) := by
  refine mm_met (cc := cX7_pay) (nL := 3) (ret := (some .int)) plRX7 (Nat.le_of_ble_eq_true rfl) ?_
  intro p e s m below meth c ls hin C hM hS hl
  have C : mm_C G p s m _ meth c RX7 cX7_pay 3 (some .int) := C
  have hM : mm_P G kR 740 M s.heap := hM
  have hl : lv_has ls 3 [(0, .ref (mm_lo G + 731)), (1, .int x1), (2, .int x2)] := hl
  obtain ⟨hx, hb, -, -, -, -, -, -, hZ, -⟩ := id C
  rw [fX7_pay] at heq
  refine lv_aload_n hx hb dX7_pay_0 rfl (lv_at hl 0 rfl) ?_
  refine lv_iload_n hx hb dX7_pay_1 rfl (lv_at hl 1 rfl) ?_
  obtain ⟨r2, e1, heq⟩ := bn_of heq
  refine mm_ki hS (mm_runV (rest := []) C hM hS (tX7_isCart l G M x1 r2 e1) (uX7_72 _ (Nat.le_of_ble_eq_true rfl) (Nat.le_of_ble_eq_true rfl)) (mm_recv C hM (kl (rfl : kT 731 = (6, 0))) (ci := 6) rfl (mm_e6 (rfl : kT 731 = (6, 0)))) hl.1 rfl rfl (Nat.le_of_ble_eq_true rfl) ⟨Nat.zero_le _, Nat.zero_le _⟩ dX7_pay_2) (fun H locs hM hS => ?_)
  have hM : mm_P G kR 740 M H := hM
  refine mm_ifneZ (tgt := 10) C dX7_pay_5 (by decide) (fun c3 => ?_) (fun c3 => ?_)
  · have heq := if_t c3 heq
    refine lv_iload_n hx hb dX7_pay_10 rfl (lv_at hl 2 rfl) ?_
    refine lv_iconst (v := 1) hx hb dX7_pay_11 (by decide) ?_
    refine mm_ldc C kX7_105 dX7_pay_12 ?_
    obtain ⟨r5, e4, heq⟩ := bn_of heq
    refine mm_ki hS (mm_runS (rest := []) C hM hS (tX7_in l G M x2 1 1000000 r5 e4) (uX7_35 _ (Nat.le_of_ble_eq_true rfl) (Nat.le_of_ble_eq_true rfl)) hl.1 rfl rfl (Nat.le_of_ble_eq_true rfl) ⟨Nat.zero_le _, Nat.zero_le _⟩ dX7_pay_14) (fun H locs hM hS => ?_)
    have hM : mm_P G kR 740 M H := hM
    refine mm_ifneZ (tgt := 23) C dX7_pay_17 (by decide) (fun c6 => ?_) (fun c6 => ?_)
    · have heq := if_t c6 heq
      refine lv_aload_n hx hb dX7_pay_23 rfl (lv_at hl 0 rfl) ?_
      obtain ⟨M8, e7, heq⟩ := bn_of heq
      refine mm_kv hS (mm_runV (rest := []) C hM hS (tX7_keep l G M M8 e7) (uX7_43 _ (Nat.le_of_ble_eq_true rfl) (Nat.le_of_ble_eq_true rfl)) (mm_recv C hM (kl (rfl : kT 731 = (6, 0))) (ci := 6) rfl (mm_e6 (rfl : kT 731 = (6, 0)))) hl.1 rfl rfl (Nat.le_of_ble_eq_true rfl) ⟨Nat.zero_le _, Nat.zero_le _⟩ dX7_pay_24) (fun H locs hM hS => ?_)
      have hM : mm_P G kR 740 M8 H := hM
      refine lv_aload_n hx hb dX7_pay_27 rfl (lv_at hl 0 rfl) ?_
      refine lv_iload_n hx hb dX7_pay_28 rfl (lv_at hl 1 rfl) ?_
      refine lv_bipush (v := 15) hx hb dX7_pay_29 (by decide) ?_
      refine lv_aload_n hx hb dX7_pay_31 rfl (lv_at hl 0 rfl) ?_
      refine lv_iload_n hx hb dX7_pay_32 rfl (lv_at hl 1 rfl) ?_
      refine lv_bipush (v := 15) hx hb dX7_pay_33 (by decide) ?_
      obtain ⟨r10, e9, heq⟩ := bn_of heq
      refine mm_ki hS (mm_runV (rest := [.int 15, .int x1, .ref (mm_lo G + 731)]) C hM hS (tX7_of l G M8 x1 15 r10 e9) (uX7_66 _ (Nat.le_of_ble_eq_true rfl) (Nat.le_of_ble_eq_true rfl)) (mm_recv C hM (kl (rfl : kT 731 = (6, 0))) (ci := 6) rfl (mm_e6 (rfl : kT 731 = (6, 0)))) hl.1 rfl rfl (Nat.le_of_ble_eq_true rfl) ⟨Nat.zero_le _, Nat.zero_le _⟩ dX7_pay_35) (fun H locs hM hS => ?_)
      have hM : mm_P G kR 740 M8 H := hM
      refine lv_iload_n hx hb dX7_pay_38 rfl (lv_at hl 2 rfl) ?_
      refine lv_iadd hx hb dX7_pay_39 ?_
      obtain ⟨M12, e11, heq⟩ := bn_of heq
      refine mm_kv hS (mm_runV (rest := []) C hM hS (tX7_lay l G M8 x1 15 (r10 + x2) M12 e11) (uX7_62 _ (Nat.le_of_ble_eq_true rfl) (Nat.le_of_ble_eq_true rfl)) (mm_recv C hM (kl (rfl : kT 731 = (6, 0))) (ci := 6) rfl (mm_e6 (rfl : kT 731 = (6, 0)))) hl.1 rfl rfl (Nat.le_of_ble_eq_true rfl) ⟨Nat.zero_le _, Nat.zero_le _⟩ dX7_pay_40) (fun H locs hM hS => ?_)
      have hM : mm_P G kR 740 M12 H := hM
      refine lv_aload_n hx hb dX7_pay_43 rfl (lv_at hl 0 rfl) ?_
      refine lv_iload_n hx hb dX7_pay_44 rfl (lv_at hl 1 rfl) ?_
      obtain ⟨r14, e13, heq⟩ := bn_of heq
      refine mm_ki hS (mm_runV (rest := []) C hM hS (tX7_balance l G M12 x1 r14 e13) (uX7_106 _ (Nat.le_of_ble_eq_true rfl) (Nat.le_of_ble_eq_true rfl)) (mm_recv C hM (kl (rfl : kT 731 = (6, 0))) (ci := 6) rfl (mm_e6 (rfl : kT 731 = (6, 0)))) hl.1 rfl rfl (Nat.le_of_ble_eq_true rfl) ⟨Nat.zero_le _, Nat.zero_le _⟩ dX7_pay_45) (fun H locs hM hS => ?_)
      have hM : mm_P G kR 740 M12 H := hM
      refine lv_if_lt (tgt := 55) hx hb dX7_pay_48 (by decide) (fun c15 => ?_) (fun c15 => ?_)
      · have heq := if_t c15 heq
        refine lv_iconst (v := 0) hx hb dX7_pay_55 (by decide) ?_
        cases heq
        exact mm_iret C hM hS dX7_pay_56
      · have heq := if_f c15 heq
        refine lv_iconst (v := 1) hx hb dX7_pay_51 (by decide) ?_
        refine lv_goto (tgt := 56) hx hb dX7_pay_52 (by decide) ?_
        cases heq
        exact mm_iret C hM hS dX7_pay_56
    · have heq := if_f c6 heq
      refine lv_bipush (v := (-2)) hx hb dX7_pay_20 (by decide) ?_
      cases heq
      exact mm_iret C hM hS dX7_pay_22
  · have heq := if_f c3 heq
    refine lv_iconst (v := (-1)) hx hb dX7_pay_8 (by decide) ?_
    cases heq
    exact mm_iret C hM hS dX7_pay_9

set_option maxRecDepth 100000 in
set_option maxHeartbeats 4000000 in
theorem tX7_nextToCheck_32 (C : mm_C G p s m args meth c RX7 cX7_nextToCheck 4 (some .int))  (M : mm_M) {r : Int32} {k5 : Int32 → Int32 → Option (Int32)} (hk5 : ∀ (v1 : Int32) (v2 : Int32) (H : Heap) (locs : List Loc) (ls : Array Slot), mm_P G kR 740 M H → va_S (mm_A G) s.heap H locs → lv_has ls 4 [(0, .ref (mm_lo G + 731)), (1, .int v1), (2, .int v2)] → k5 v1 v2 = some r → W p l e rmX7_nextToCheck s m args below meth c H locs 0 0 (MQ below (mm_Qi G r (kR, 740, M)) args s 0 0 (mm_A G)) (F0 m 5 ls [])) : ∀ (v1 : Int32) (v2 : Int32) (t0 : Bool) (H : Heap) (locs : List Loc) (ls : Array Slot), mm_P G kR 740 M H → va_S (mm_A G) s.heap H locs → lv_has ls 4 [(0, .ref (mm_lo G + 731)), (1, .int v1), (2, .int v2)] → fX7_nextToCheck_32 M k5 v1 v2 t0 = some r → W p l e rmX7_nextToCheck s m args below meth c H locs 0 0 (MQ below (mm_Qi G r (kR, 740, M)) args s 0 0 (mm_A G)) (F0 m 32 ls [.int (b2i t0)]) := by
  obtain ⟨hx, hb, -, -, -, -, -, -, hZ, -⟩ := id C
  intro v1 v2 t0 H locs ls hM hS hl heq
  rw [fX7_nextToCheck_32] at heq
  refine lv_istore_n (lv' := [(3, .int (b2i t0)), (0, .ref (mm_lo G + 731)), (1, .int v1), (2, .int v2)]) hx hb dX7_nextToCheck_32 rfl hl (by decide) rfl (fun ls hl => ?_)
  refine lv_iload_n hx hb dX7_nextToCheck_33 rfl (lv_at hl 0 rfl) ?_
  refine mm_ifeqZ (tgt := 62) C dX7_nextToCheck_34 (by decide) (fun c1 => ?_) (fun c1 => ?_)
  · have heq := if_f c1 heq
    refine lv_iload_n hx hb dX7_nextToCheck_62 rfl (lv_at hl 2 rfl) ?_
    refine lv_istore_n (lv' := [(1, .int v1), (3, .int (b2i t0)), (0, .ref (mm_lo G + 731)), (2, .int v2)]) hx hb dX7_nextToCheck_63 rfl hl (by decide) rfl (fun ls hl => ?_)
    obtain ⟨y2, ey2⟩ : ∃ y : Int32, y = (v2 + 1) := ⟨_, rfl⟩
    have heq := lt_to ey2 heq
    refine lv_iinc (v := y2) (lv' := [(2, .int y2), (1, .int v1), (3, .int (b2i t0)), (0, .ref (mm_lo G + 731))]) hx hb dX7_nextToCheck_64 hl (k := 3) rfl (by rw [ey2]; rfl) (by decide) rfl (fun ls hl => ?_)
    refine lv_goto (tgt := 5) hx hb dX7_nextToCheck_67 (by decide) ?_
    exact hk5 _ _ _ _ _ hM hS (lv_sub hl [3, 1, 0] rfl) heq
  · have heq := if_t c1 heq
    refine lv_iload_n hx hb dX7_nextToCheck_37 rfl (lv_at hl 2 rfl) ?_
    refine lv_if_lt (tgt := 58) hx hb dX7_nextToCheck_38 (by decide) (fun c3 => ?_) (fun c3 => ?_)
    · have heq := if_t c3 heq
      refine lv_iload_n hx hb dX7_nextToCheck_58 rfl (lv_at hl 3 rfl) ?_
      refine lv_goto (tgt := 63) hx hb dX7_nextToCheck_59 (by decide) ?_
      refine lv_istore_n (lv' := [(1, .int v2), (3, .int (b2i t0)), (0, .ref (mm_lo G + 731)), (2, .int v2)]) hx hb dX7_nextToCheck_63 rfl hl (by decide) rfl (fun ls hl => ?_)
      obtain ⟨y4, ey4⟩ : ∃ y : Int32, y = (v2 + 1) := ⟨_, rfl⟩
      have heq := lt_to ey4 heq
      refine lv_iinc (v := y4) (lv' := [(2, .int y4), (1, .int v2), (3, .int (b2i t0)), (0, .ref (mm_lo G + 731))]) hx hb dX7_nextToCheck_64 hl (k := 3) rfl (by rw [ey4]; rfl) (by decide) rfl (fun ls hl => ?_)
      refine lv_goto (tgt := 5) hx hb dX7_nextToCheck_67 (by decide) ?_
      exact hk5 _ _ _ _ _ hM hS (lv_sub hl [3, 1, 0] rfl) heq
    · have heq := if_f c3 heq
      refine lv_aload_n hx hb dX7_nextToCheck_41 rfl (lv_at hl 1 rfl) ?_
      refine lv_iload_n hx hb dX7_nextToCheck_42 rfl (lv_at hl 3 rfl) ?_
      refine lv_bipush (v := 7) hx hb dX7_nextToCheck_43 (by decide) ?_
      obtain ⟨r6, e5, heq⟩ := bn_of heq
      refine mm_ki hS (mm_runV (rest := []) C hM hS (tX7_of l G M v2 7 r6 e5) (uX7_66 _ (Nat.le_of_ble_eq_true rfl) (Nat.le_of_ble_eq_true rfl)) (mm_recv C hM (kl (rfl : kT 731 = (6, 0))) (ci := 6) rfl (mm_e6 (rfl : kT 731 = (6, 0)))) hl.1 rfl rfl (Nat.le_of_ble_eq_true rfl) ⟨Nat.zero_le _, Nat.zero_le _⟩ dX7_nextToCheck_45) (fun H locs hM hS => ?_)
      have hM : mm_P G kR 740 M H := hM
      refine lv_aload_n hx hb dX7_nextToCheck_48 rfl (lv_at hl 1 rfl) ?_
      refine lv_iload_n hx hb dX7_nextToCheck_49 rfl (lv_at hl 2 rfl) ?_
      refine lv_bipush (v := 7) hx hb dX7_nextToCheck_50 (by decide) ?_
      obtain ⟨r8, e7, heq⟩ := bn_of heq
      refine mm_ki hS (mm_runV (rest := [.int r6]) C hM hS (tX7_of l G M v1 7 r8 e7) (uX7_66 _ (Nat.le_of_ble_eq_true rfl) (Nat.le_of_ble_eq_true rfl)) (mm_recv C hM (kl (rfl : kT 731 = (6, 0))) (ci := 6) rfl (mm_e6 (rfl : kT 731 = (6, 0)))) hl.1 rfl rfl (Nat.le_of_ble_eq_true rfl) ⟨Nat.zero_le _, Nat.zero_le _⟩ dX7_nextToCheck_52) (fun H locs hM hS => ?_)
      have hM : mm_P G kR 740 M H := hM
      refine lv_icmp_ge (tgt := 62) hx hb dX7_nextToCheck_55 (by decide) (fun c9 => ?_) (fun c9 => ?_)
      · have heq := if_t c9 heq
        refine lv_iload_n hx hb dX7_nextToCheck_62 rfl (lv_at hl 2 rfl) ?_
        refine lv_istore_n (lv' := [(1, .int v1), (3, .int (b2i t0)), (0, .ref (mm_lo G + 731)), (2, .int v2)]) hx hb dX7_nextToCheck_63 rfl hl (by decide) rfl (fun ls hl => ?_)
        obtain ⟨y10, ey10⟩ : ∃ y : Int32, y = (v2 + 1) := ⟨_, rfl⟩
        have heq := lt_to ey10 heq
        refine lv_iinc (v := y10) (lv' := [(2, .int y10), (1, .int v1), (3, .int (b2i t0)), (0, .ref (mm_lo G + 731))]) hx hb dX7_nextToCheck_64 hl (k := 3) rfl (by rw [ey10]; rfl) (by decide) rfl (fun ls hl => ?_)
        refine lv_goto (tgt := 5) hx hb dX7_nextToCheck_67 (by decide) ?_
        exact hk5 _ _ _ _ _ hM hS (lv_sub hl [3, 1, 0] rfl) heq
      · have heq := if_f c9 heq
        refine lv_iload_n hx hb dX7_nextToCheck_58 rfl (lv_at hl 3 rfl) ?_
        refine lv_goto (tgt := 63) hx hb dX7_nextToCheck_59 (by decide) ?_
        refine lv_istore_n (lv' := [(1, .int v2), (3, .int (b2i t0)), (0, .ref (mm_lo G + 731)), (2, .int v2)]) hx hb dX7_nextToCheck_63 rfl hl (by decide) rfl (fun ls hl => ?_)
        obtain ⟨y11, ey11⟩ : ∃ y : Int32, y = (v2 + 1) := ⟨_, rfl⟩
        have heq := lt_to ey11 heq
        refine lv_iinc (v := y11) (lv' := [(2, .int y11), (1, .int v2), (3, .int (b2i t0)), (0, .ref (mm_lo G + 731))]) hx hb dX7_nextToCheck_64 hl (k := 3) rfl (by rw [ey11]; rfl) (by decide) rfl (fun ls hl => ?_)
        refine lv_goto (tgt := 5) hx hb dX7_nextToCheck_67 (by decide) ?_
        exact hk5 _ _ _ _ _ hM hS (lv_sub hl [3, 1, 0] rfl) heq

set_option maxRecDepth 100000 in
set_option maxHeartbeats 4000000 in
theorem tX7_nextToCheck_5 (C : mm_C G p s m args meth c RX7 cX7_nextToCheck 4 (some .int))  (M : mm_M) {r : Int32} : ∀ n : Nat, ∀ (v1 : Int32) (v2 : Int32) (H : Heap) (locs : List Loc) (ls : Array Slot), mm_P G kR 740 M H → va_S (mm_A G) s.heap H locs → lv_has ls 4 [(0, .ref (mm_lo G + 731)), (1, .int v1), (2, .int v2)] → fX7_nextToCheck_5 M n v1 v2 = some r → W p l e rmX7_nextToCheck s m args below meth c H locs 0 0 (MQ below (mm_Qi G r (kR, 740, M)) args s 0 0 (mm_A G)) (F0 m 5 ls []) := by
  obtain ⟨hx, hb, -, -, -, -, -, -, hZ, -⟩ := id C
  intro n
  induction n with
  | zero =>
    intro v1 v2 H locs ls hM hS hl heq
    rw [fX7_nextToCheck_5] at heq
    cases heq
  | succ n ih =>
    intro v1 v2 H locs ls hM hS hl heq
    rw [fX7_nextToCheck_5] at heq
    refine lv_iload_n hx hb dX7_nextToCheck_5 rfl (lv_at hl 2 rfl) ?_
    refine lv_aload_n hx hb dX7_nextToCheck_6 rfl (lv_at hl 0 rfl) ?_
    refine gX7_7 C hM (kl (rfl : kT 731 = (6, 0))) (rfl : kT 731 = (6, 0)) (rfl : kR 731 0 = some 732) dX7_nextToCheck_7 ?_
    refine lv_bipush (v := 13) hx hb dX7_nextToCheck_10 (by decide) ?_
    refine mm_ildk C hM (kl (rfl : kT 732 = (8, 3592))) (rfl : kT 732 = (8, 3592)) (vp_in_of2 (by decide)) (by decide : (13 : Int32).toNatClampNeg = 13) dX7_nextToCheck_12 ?_
    refine lv_icmp_ge (tgt := 70) hx hb dX7_nextToCheck_13 (by decide) (fun c1 => ?_) (fun c1 => ?_)
    · have heq := if_t c1 heq
      refine lv_iload_n hx hb dX7_nextToCheck_70 rfl (lv_at hl 1 rfl) ?_
      cases heq
      exact mm_iret C hM hS dX7_nextToCheck_71
    · have heq := if_f c1 heq
      refine lv_aload_n hx hb dX7_nextToCheck_16 rfl (lv_at hl 0 rfl) ?_
      refine lv_iload_n hx hb dX7_nextToCheck_17 rfl (lv_at hl 2 rfl) ?_
      refine lv_bipush (v := 8) hx hb dX7_nextToCheck_18 (by decide) ?_
      obtain ⟨r3, e2, heq⟩ := bn_of heq
      refine mm_ki hS (mm_runV (rest := []) C hM hS (tX7_of l G M v2 8 r3 e2) (uX7_66 _ (Nat.le_of_ble_eq_true rfl) (Nat.le_of_ble_eq_true rfl)) (mm_recv C hM (kl (rfl : kT 731 = (6, 0))) (ci := 6) rfl (mm_e6 (rfl : kT 731 = (6, 0)))) hl.1 rfl rfl (Nat.le_of_ble_eq_true rfl) ⟨Nat.zero_le _, Nat.zero_le _⟩ dX7_nextToCheck_20) (fun H locs hM hS => ?_)
      have hM : mm_P G kR 740 M H := hM
      refine lv_iconst (v := 1) hx hb dX7_nextToCheck_23 (by decide) ?_
      refine lv_icmp_ne (tgt := 31) hx hb dX7_nextToCheck_24 (by decide) (fun c4 => ?_) (fun c4 => ?_)
      · have heq := if_f c4 heq
        refine lv_iconst (v := 0) hx hb dX7_nextToCheck_31 (by decide) ?_
        exact tX7_nextToCheck_32 C M ih _ _ _ _ _ _ hM hS (lv_sub hl [0, 1, 2] rfl) heq
      · have heq := if_t c4 heq
        refine lv_iconst (v := 1) hx hb dX7_nextToCheck_27 (by decide) ?_
        refine lv_goto (tgt := 32) hx hb dX7_nextToCheck_28 (by decide) ?_
        exact tX7_nextToCheck_32 C M ih _ _ _ _ _ _ hM hS (lv_sub hl [0, 1, 2] rfl) heq

set_option maxRecDepth 100000 in
set_option maxHeartbeats 4000000 in
theorem tX7_nextToCheck (l : Launch) (G : mm_G) (M : mm_M)  (r : Int32) (heq : fX7_nextToCheck M = some r) : Met l yX7_nextToCheck (mm_ws yX7_nextToCheck cX7_nextToCheck 4 (some .int)) rmX7_nextToCheck (va_Pc [.ref (mm_lo G + 731)] (mm_B G (kR, 740, M))) (mm_Qi G r (kR, 740, M)) 0 0 (mm_A G) := by
  refine mm_met (cc := cX7_nextToCheck) (nL := 4) (ret := (some .int)) plRX7 (Nat.le_of_ble_eq_true rfl) ?_
  intro p e s m below meth c ls hin C hM hS hl
  have C : mm_C G p s m _ meth c RX7 cX7_nextToCheck 4 (some .int) := C
  have hM : mm_P G kR 740 M s.heap := hM
  have hl : lv_has ls 4 [(0, .ref (mm_lo G + 731))] := hl
  obtain ⟨hx, hb, -, -, -, -, -, -, hZ, -⟩ := id C
  rw [fX7_nextToCheck] at heq
  refine lv_bipush (v := (-6)) hx hb dX7_nextToCheck_0 (by decide) ?_
  refine lv_istore_n (lv' := [(1, .int (-6)), (0, .ref (mm_lo G + 731))]) hx hb dX7_nextToCheck_2 rfl hl (by decide) rfl (fun ls hl => ?_)
  refine lv_iconst (v := 0) hx hb dX7_nextToCheck_3 (by decide) ?_
  refine lv_istore_n (lv' := [(2, .int 0), (1, .int (-6)), (0, .ref (mm_lo G + 731))]) hx hb dX7_nextToCheck_4 rfl hl (by decide) rfl (fun ls hl => ?_)
  exact tX7_nextToCheck_5 C M FU _ _ _ _ _ hM hS (lv_sub hl [2, 1, 0] rfl) heq

set_option maxRecDepth 100000 in
set_option maxHeartbeats 4000000 in
theorem tX7_checkAll_2 (C : mm_C G p s m args meth c RX7 cX7_checkAll 3 none)  {M9 : mm_M} : ∀ n : Nat, ∀ (M : mm_M) (v1 : Int32) (H : Heap) (locs : List Loc) (ls : Array Slot), mm_P G kR 740 M H → va_S (mm_A G) s.heap H locs → lv_has ls 3 [(0, .ref (mm_lo G + 731)), (1, .int v1)] → fX7_checkAll_2 n M v1 = some M9 → W p l e rmX7_checkAll s m args below meth c H locs 0 0 (MQ below (mm_Qv G (kR, 740, M9)) args s 0 0 (mm_A G)) (F0 m 2 ls []) := by
  obtain ⟨hx, hb, -, -, -, -, -, -, hZ, -⟩ := id C
  intro n
  induction n with
  | zero =>
    intro M v1 H locs ls hM hS hl heq
    rw [fX7_checkAll_2] at heq
    cases heq
  | succ n ih =>
    intro M v1 H locs ls hM hS hl heq
    rw [fX7_checkAll_2] at heq
    refine lv_iload_n hx hb dX7_checkAll_2 rfl (lv_at hl 1 rfl) ?_
    refine lv_aload_n hx hb dX7_checkAll_3 rfl (lv_at hl 0 rfl) ?_
    refine gX7_7 C hM (kl (rfl : kT 731 = (6, 0))) (rfl : kT 731 = (6, 0)) (rfl : kR 731 0 = some 732) dX7_checkAll_4 ?_
    refine lv_iconst (v := 2) hx hb dX7_checkAll_7 (by decide) ?_
    refine mm_ildk C hM (kl (rfl : kT 732 = (8, 3592))) (rfl : kT 732 = (8, 3592)) (vp_in_of2 (by decide)) (by decide : (2 : Int32).toNatClampNeg = 2) dX7_checkAll_8 ?_
    refine lv_icmp_ge (tgt := 56) hx hb dX7_checkAll_9 (by decide) (fun c1 => ?_) (fun c1 => ?_)
    · have heq := if_t c1 heq
      cases heq
      exact mm_vret C hM hS dX7_checkAll_56
    · have heq := if_f c1 heq
      refine lv_aload_n hx hb dX7_checkAll_12 rfl (lv_at hl 0 rfl) ?_
      obtain ⟨r3, e2, heq⟩ := bn_of heq
      refine mm_ki hS (mm_runV (rest := []) C hM hS (tX7_nextToCheck l G M r3 e2) (uX7_109 _ (Nat.le_of_ble_eq_true rfl) (Nat.le_of_ble_eq_true rfl)) (mm_recv C hM (kl (rfl : kT 731 = (6, 0))) (ci := 6) rfl (mm_e6 (rfl : kT 731 = (6, 0)))) hl.1 rfl rfl (Nat.le_of_ble_eq_true rfl) ⟨Nat.zero_le _, Nat.zero_le _⟩ dX7_checkAll_13) (fun H locs hM hS => ?_)
      have hM : mm_P G kR 740 M H := hM
      refine lv_istore_n (lv' := [(2, .int r3), (0, .ref (mm_lo G + 731)), (1, .int v1)]) hx hb dX7_checkAll_16 rfl hl (by decide) rfl (fun ls hl => ?_)
      refine lv_iload_n hx hb dX7_checkAll_17 rfl (lv_at hl 0 rfl) ?_
      refine lv_if_lt (tgt := 50) hx hb dX7_checkAll_18 (by decide) (fun c4 => ?_) (fun c4 => ?_)
      · have heq := if_t c4 heq
        obtain ⟨y5, ey5⟩ : ∃ y : Int32, y = (v1 + 1) := ⟨_, rfl⟩
        have heq := lt_to ey5 heq
        refine lv_iinc (v := y5) (lv' := [(1, .int y5), (2, .int r3), (0, .ref (mm_lo G + 731))]) hx hb dX7_checkAll_50 hl (k := 2) rfl (by rw [ey5]; rfl) (by decide) rfl (fun ls hl => ?_)
        refine lv_goto (tgt := 2) hx hb dX7_checkAll_53 (by decide) ?_
        exact ih _ _ _ _ _ hM hS (lv_sub hl [2, 0] rfl) heq
      · have heq := if_f c4 heq
        refine lv_aload_n hx hb dX7_checkAll_21 rfl (lv_at hl 1 rfl) ?_
        refine lv_iload_n hx hb dX7_checkAll_22 rfl (lv_at hl 0 rfl) ?_
        refine lv_bipush (v := 7) hx hb dX7_checkAll_23 (by decide) ?_
        refine lv_aload_n hx hb dX7_checkAll_25 rfl (lv_at hl 1 rfl) ?_
        refine gX7_7 C hM (kl (rfl : kT 731 = (6, 0))) (rfl : kT 731 = (6, 0)) (rfl : kR 731 0 = some 732) dX7_checkAll_26 ?_
        refine lv_bipush (v := 10) hx hb dX7_checkAll_29 (by decide) ?_
        refine mm_ildk C hM (kl (rfl : kT 732 = (8, 3592))) (rfl : kT 732 = (8, 3592)) (vp_in_of2 (by decide)) (by decide : (10 : Int32).toNatClampNeg = 10) dX7_checkAll_31 ?_
        refine lv_aload_n hx hb dX7_checkAll_32 rfl (lv_at hl 1 rfl) ?_
        refine gX7_7 C hM (kl (rfl : kT 731 = (6, 0))) (rfl : kT 731 = (6, 0)) (rfl : kR 731 0 = some 732) dX7_checkAll_33 ?_
        refine lv_iconst (v := 1) hx hb dX7_checkAll_36 (by decide) ?_
        refine mm_ildk C hM (kl (rfl : kT 732 = (8, 3592))) (rfl : kT 732 = (8, 3592)) (vp_in_of2 (by decide)) (by decide : (1 : Int32).toNatClampNeg = 1) dX7_checkAll_37 ?_
        refine lv_iadd hx hb dX7_checkAll_38 ?_
        obtain ⟨M7, e6, heq⟩ := bn_of heq
        refine mm_kv hS (mm_runV (rest := []) C hM hS (tX7_lay l G M r3 7 ((M.1 732 10) + (M.1 732 1)) M7 e6) (uX7_62 _ (Nat.le_of_ble_eq_true rfl) (Nat.le_of_ble_eq_true rfl)) (mm_recv C hM (kl (rfl : kT 731 = (6, 0))) (ci := 6) rfl (mm_e6 (rfl : kT 731 = (6, 0)))) hl.1 rfl rfl (Nat.le_of_ble_eq_true rfl) ⟨Nat.zero_le _, Nat.zero_le _⟩ dX7_checkAll_39) (fun H locs hM hS => ?_)
        have hM : mm_P G kR 740 M7 H := hM
        refine lv_aload_n hx hb dX7_checkAll_42 rfl (lv_at hl 1 rfl) ?_
        refine lv_iload_n hx hb dX7_checkAll_43 rfl (lv_at hl 0 rfl) ?_
        refine lv_bipush (v := 8) hx hb dX7_checkAll_44 (by decide) ?_
        refine lv_iconst (v := 0) hx hb dX7_checkAll_46 (by decide) ?_
        obtain ⟨M9, e8, heq⟩ := bn_of heq
        refine mm_kv hS (mm_runV (rest := []) C hM hS (tX7_lay l G M7 r3 8 0 M9 e8) (uX7_62 _ (Nat.le_of_ble_eq_true rfl) (Nat.le_of_ble_eq_true rfl)) (mm_recv C hM (kl (rfl : kT 731 = (6, 0))) (ci := 6) rfl (mm_e6 (rfl : kT 731 = (6, 0)))) hl.1 rfl rfl (Nat.le_of_ble_eq_true rfl) ⟨Nat.zero_le _, Nat.zero_le _⟩ dX7_checkAll_47) (fun H locs hM hS => ?_)
        have hM : mm_P G kR 740 M9 H := hM
        obtain ⟨y10, ey10⟩ : ∃ y : Int32, y = (v1 + 1) := ⟨_, rfl⟩
        have heq := lt_to ey10 heq
        refine lv_iinc (v := y10) (lv' := [(1, .int y10), (2, .int r3), (0, .ref (mm_lo G + 731))]) hx hb dX7_checkAll_50 hl (k := 2) rfl (by rw [ey10]; rfl) (by decide) rfl (fun ls hl => ?_)
        refine lv_goto (tgt := 2) hx hb dX7_checkAll_53 (by decide) ?_
        exact ih _ _ _ _ _ hM hS (lv_sub hl [2, 0] rfl) heq

set_option maxRecDepth 100000 in
set_option maxHeartbeats 4000000 in
theorem tX7_checkAll (l : Launch) (G : mm_G) (M : mm_M)  (M9 : mm_M) (heq : fX7_checkAll M = some M9) : Met l yX7_checkAll (mm_ws yX7_checkAll cX7_checkAll 3 none) rmX7_checkAll (va_Pc [.ref (mm_lo G + 731)] (mm_B G (kR, 740, M))) (mm_Qv G (kR, 740, M9)) 0 0 (mm_A G) := by
  refine mm_met (cc := cX7_checkAll) (nL := 3) (ret := none) plRX7 (Nat.le_of_ble_eq_true rfl) ?_
  intro p e s m below meth c ls hin C hM hS hl
  have C : mm_C G p s m _ meth c RX7 cX7_checkAll 3 none := C
  have hM : mm_P G kR 740 M s.heap := hM
  have hl : lv_has ls 3 [(0, .ref (mm_lo G + 731))] := hl
  obtain ⟨hx, hb, -, -, -, -, -, -, hZ, -⟩ := id C
  rw [fX7_checkAll] at heq
  refine lv_iconst (v := 0) hx hb dX7_checkAll_0 (by decide) ?_
  refine lv_istore_n (lv' := [(1, .int 0), (0, .ref (mm_lo G + 731))]) hx hb dX7_checkAll_1 rfl hl (by decide) rfl (fun ls hl => ?_)
  exact tX7_checkAll_2 C FU _ _ _ _ _ hM hS (lv_sub hl [1, 0] rfl) heq

set_option maxRecDepth 100000 in
set_option maxHeartbeats 4000000 in
theorem tX7_whyOut (l : Launch) (G : mm_G) (M : mm_M) (x1 : Int32) (r : Int32) (heq : fX7_whyOut M x1 = some r) : Met l yX7_whyOut (mm_ws yX7_whyOut cX7_whyOut 2 (some .int)) rmX7_whyOut (va_Pc [.ref (mm_lo G + 731), .int x1] (mm_B G (kR, 740, M))) (mm_Qi G r (kR, 740, M)) 0 0 (mm_A G) := by
  refine mm_met (cc := cX7_whyOut) (nL := 2) (ret := (some .int)) plRX7 (Nat.le_of_ble_eq_true rfl) ?_
  intro p e s m below meth c ls hin C hM hS hl
  have C : mm_C G p s m _ meth c RX7 cX7_whyOut 2 (some .int) := C
  have hM : mm_P G kR 740 M s.heap := hM
  have hl : lv_has ls 2 [(0, .ref (mm_lo G + 731)), (1, .int x1)] := hl
  obtain ⟨hx, hb, -, -, -, -, -, -, hZ, -⟩ := id C
  rw [fX7_whyOut] at heq
  refine lv_aload_n hx hb dX7_whyOut_0 rfl (lv_at hl 0 rfl) ?_
  refine lv_iload_n hx hb dX7_whyOut_1 rfl (lv_at hl 1 rfl) ?_
  refine lv_iconst (v := 2) hx hb dX7_whyOut_2 (by decide) ?_
  obtain ⟨r2, e1, heq⟩ := bn_of heq
  refine mm_ki hS (mm_runV (rest := []) C hM hS (tX7_of l G M x1 2 r2 e1) (uX7_66 _ (Nat.le_of_ble_eq_true rfl) (Nat.le_of_ble_eq_true rfl)) (mm_recv C hM (kl (rfl : kT 731 = (6, 0))) (ci := 6) rfl (mm_e6 (rfl : kT 731 = (6, 0)))) hl.1 rfl rfl (Nat.le_of_ble_eq_true rfl) ⟨Nat.zero_le _, Nat.zero_le _⟩ dX7_whyOut_3) (fun H locs hM hS => ?_)
  have hM : mm_P G kR 740 M H := hM
  refine lv_if_ne (tgt := 13) hx hb dX7_whyOut_6 (by decide) (fun c3 => ?_) (fun c3 => ?_)
  · have heq := if_f c3 heq
    refine lv_aload_n hx hb dX7_whyOut_13 rfl (lv_at hl 0 rfl) ?_
    refine lv_iload_n hx hb dX7_whyOut_14 rfl (lv_at hl 1 rfl) ?_
    refine lv_bipush (v := 7) hx hb dX7_whyOut_15 (by decide) ?_
    obtain ⟨r5, e4, heq⟩ := bn_of heq
    refine mm_ki hS (mm_runV (rest := []) C hM hS (tX7_of l G M x1 7 r5 e4) (uX7_66 _ (Nat.le_of_ble_eq_true rfl) (Nat.le_of_ble_eq_true rfl)) (mm_recv C hM (kl (rfl : kT 731 = (6, 0))) (ci := 6) rfl (mm_e6 (rfl : kT 731 = (6, 0)))) hl.1 rfl rfl (Nat.le_of_ble_eq_true rfl) ⟨Nat.zero_le _, Nat.zero_le _⟩ dX7_whyOut_17) (fun H locs hM hS => ?_)
    have hM : mm_P G kR 740 M H := hM
    refine lv_aload_n hx hb dX7_whyOut_20 rfl (lv_at hl 0 rfl) ?_
    refine gX7_7 C hM (kl (rfl : kT 731 = (6, 0))) (rfl : kT 731 = (6, 0)) (rfl : kR 731 0 = some 732) dX7_whyOut_21 ?_
    refine lv_bipush (v := 10) hx hb dX7_whyOut_24 (by decide) ?_
    refine mm_ildk C hM (kl (rfl : kT 732 = (8, 3592))) (rfl : kT 732 = (8, 3592)) (vp_in_of2 (by decide)) (by decide : (10 : Int32).toNatClampNeg = 10) dX7_whyOut_26 ?_
    refine lv_icmp_ge (tgt := 34) hx hb dX7_whyOut_27 (by decide) (fun c6 => ?_) (fun c6 => ?_)
    · have heq := if_t c6 heq
      refine lv_aload_n hx hb dX7_whyOut_34 rfl (lv_at hl 0 rfl) ?_
      refine lv_iload_n hx hb dX7_whyOut_35 rfl (lv_at hl 1 rfl) ?_
      refine lv_bipush (v := 9) hx hb dX7_whyOut_36 (by decide) ?_
      obtain ⟨r8, e7, heq⟩ := bn_of heq
      refine mm_ki hS (mm_runV (rest := []) C hM hS (tX7_of l G M x1 9 r8 e7) (uX7_66 _ (Nat.le_of_ble_eq_true rfl) (Nat.le_of_ble_eq_true rfl)) (mm_recv C hM (kl (rfl : kT 731 = (6, 0))) (ci := 6) rfl (mm_e6 (rfl : kT 731 = (6, 0)))) hl.1 rfl rfl (Nat.le_of_ble_eq_true rfl) ⟨Nat.zero_le _, Nat.zero_le _⟩ dX7_whyOut_38) (fun H locs hM hS => ?_)
      have hM : mm_P G kR 740 M H := hM
      refine lv_aload_n hx hb dX7_whyOut_41 rfl (lv_at hl 0 rfl) ?_
      refine gX7_7 C hM (kl (rfl : kT 731 = (6, 0))) (rfl : kT 731 = (6, 0)) (rfl : kR 731 0 = some 732) dX7_whyOut_42 ?_
      refine lv_bipush (v := 10) hx hb dX7_whyOut_45 (by decide) ?_
      refine mm_ildk C hM (kl (rfl : kT 732 = (8, 3592))) (rfl : kT 732 = (8, 3592)) (vp_in_of2 (by decide)) (by decide : (10 : Int32).toNatClampNeg = 10) dX7_whyOut_47 ?_
      refine lv_icmp_lt (tgt := 55) hx hb dX7_whyOut_48 (by decide) (fun c9 => ?_) (fun c9 => ?_)
      · have heq := if_t c9 heq
        refine lv_iconst (v := 0) hx hb dX7_whyOut_55 (by decide) ?_
        cases heq
        exact mm_iret C hM hS dX7_whyOut_56
      · have heq := if_f c9 heq
        refine lv_iconst (v := 3) hx hb dX7_whyOut_51 (by decide) ?_
        refine lv_goto (tgt := 56) hx hb dX7_whyOut_52 (by decide) ?_
        cases heq
        exact mm_iret C hM hS dX7_whyOut_56
    · have heq := if_f c6 heq
      refine lv_iconst (v := 2) hx hb dX7_whyOut_30 (by decide) ?_
      refine lv_goto (tgt := 56) hx hb dX7_whyOut_31 (by decide) ?_
      cases heq
      exact mm_iret C hM hS dX7_whyOut_56
  · have heq := if_t c3 heq
    refine lv_iconst (v := 1) hx hb dX7_whyOut_9 (by decide) ?_
    refine lv_goto (tgt := 56) hx hb dX7_whyOut_10 (by decide) ?_
    cases heq
    exact mm_iret C hM hS dX7_whyOut_56
end WALK
