section WALK
variable {p : Program} {l : Launch} {e : Env} {s : State} {m : MethodId} {args : Array Value} {below : List Frame} {meth : Method} {c : Code} {G : mm_G}
set_option maxRecDepth 100000 in
set_option maxHeartbeats 4000000 in
theorem tX7_ofPitch (l : Launch) (G : mm_G) (M : mm_M) (x1 : Int32) (x2 : Int32) (r : Int32) (heq : fX7_ofPitch M x1 x2 = some r) : Met l yX7_ofPitch (mm_ws yX7_ofPitch cX7_ofPitch 3 (some .int)) rmX7_ofPitch (va_Pc [.ref (mm_lo G + 731), .int x1, .int x2] (mm_B G (kR, 740, M))) (mm_Qi G r (kR, 740, M)) 0 0 (mm_A G) := by
  refine mm_met (cc := cX7_ofPitch) (nL := 3) (ret := (some .int)) plRX7 (Nat.le_of_ble_eq_true rfl) ?_
  intro p e s m below meth c ls hin C hM hS hl
  have C : mm_C G p s m _ meth c RX7 cX7_ofPitch 3 (some .int) := C
  have hM : mm_P G kR 740 M s.heap := hM
  have hl : lv_has ls 3 [(0, .ref (mm_lo G + 731)), (1, .int x1), (2, .int x2)] := hl
  obtain ⟨hx, hb, -, -, -, -, -, -, hZ, -⟩ := id C
  rw [fX7_ofPitch] at heq
  refine lv_aload_n hx hb dX7_ofPitch_0 rfl (lv_at hl 0 rfl) ?_
  refine lv_iload_n hx hb dX7_ofPitch_1 rfl (lv_at hl 1 rfl) ?_
  obtain ⟨r2, e1, heq⟩ := bn_of heq
  refine mm_ki hS (mm_runV (rest := []) C hM hS (tX7_isPitch l G M x1 r2 e1) (uX7_54 _ (Nat.le_of_ble_eq_true rfl) (Nat.le_of_ble_eq_true rfl)) (mm_recv C hM (kl (rfl : kT 731 = (6, 0))) (ci := 6) rfl (mm_e6 (rfl : kT 731 = (6, 0)))) hl.1 rfl rfl (Nat.le_of_ble_eq_true rfl) ⟨Nat.zero_le _, Nat.zero_le _⟩ dX7_ofPitch_2) (fun H locs hM hS => ?_)
  have hM : mm_P G kR 740 M H := hM
  refine mm_ifneZ (tgt := 10) C dX7_ofPitch_5 (by decide) (fun c3 => ?_) (fun c3 => ?_)
  · have heq := if_t c3 heq
    refine lv_iload_n hx hb dX7_ofPitch_10 rfl (lv_at hl 2 rfl) ?_
    refine lv_iconst (v := 0) hx hb dX7_ofPitch_11 (by decide) ?_
    refine lv_iconst (v := 3) hx hb dX7_ofPitch_12 (by decide) ?_
    obtain ⟨r5, e4, heq⟩ := bn_of heq
    refine mm_ki hS (mm_runS (rest := []) C hM hS (tX7_in l G M x2 0 3 r5 e4) (uX7_35 _ (Nat.le_of_ble_eq_true rfl) (Nat.le_of_ble_eq_true rfl)) hl.1 rfl rfl (Nat.le_of_ble_eq_true rfl) ⟨Nat.zero_le _, Nat.zero_le _⟩ dX7_ofPitch_13) (fun H locs hM hS => ?_)
    have hM : mm_P G kR 740 M H := hM
    refine mm_ifeqZ (tgt := 28) C dX7_ofPitch_16 (by decide) (fun c6 => ?_) (fun c6 => ?_)
    · have heq := if_f c6 heq
      refine lv_bipush (v := (-2)) hx hb dX7_ofPitch_28 (by decide) ?_
      cases heq
      exact mm_iret C hM hS dX7_ofPitch_30
    · have heq := if_t c6 heq
      refine lv_aload_n hx hb dX7_ofPitch_19 rfl (lv_at hl 0 rfl) ?_
      refine lv_iload_n hx hb dX7_ofPitch_20 rfl (lv_at hl 1 rfl) ?_
      refine lv_iload_n hx hb dX7_ofPitch_21 rfl (lv_at hl 2 rfl) ?_
      obtain ⟨r8, e7, heq⟩ := bn_of heq
      refine mm_ki hS (mm_runV (rest := []) C hM hS (tX7_ofP l G M x1 x2 r8 e7) (uX7_58 _ (Nat.le_of_ble_eq_true rfl) (Nat.le_of_ble_eq_true rfl)) (mm_recv C hM (kl (rfl : kT 731 = (6, 0))) (ci := 6) rfl (mm_e6 (rfl : kT 731 = (6, 0)))) hl.1 rfl rfl (Nat.le_of_ble_eq_true rfl) ⟨Nat.zero_le _, Nat.zero_le _⟩ dX7_ofPitch_22) (fun H locs hM hS => ?_)
      have hM : mm_P G kR 740 M H := hM
      refine lv_goto (tgt := 30) hx hb dX7_ofPitch_25 (by decide) ?_
      cases heq
      exact mm_iret C hM hS dX7_ofPitch_30
  · have heq := if_f c3 heq
    refine lv_iconst (v := (-1)) hx hb dX7_ofPitch_8 (by decide) ?_
    cases heq
    exact mm_iret C hM hS dX7_ofPitch_9

set_option maxRecDepth 100000 in
set_option maxHeartbeats 4000000 in
theorem tX7_atPitches_4 (C : mm_C G p s m args meth c RX7 cX7_atPitches 3 (some .int))  (M : mm_M) {r : Int32} : ∀ n : Nat, ∀ (v1 : Int32) (v2 : Int32) (H : Heap) (locs : List Loc) (ls : Array Slot), mm_P G kR 740 M H → va_S (mm_A G) s.heap H locs → lv_has ls 3 [(0, .ref (mm_lo G + 731)), (1, .int v1), (2, .int v2)] → fX7_atPitches_4 M n v1 v2 = some r → W p l e rmX7_atPitches s m args below meth c H locs 0 0 (MQ below (mm_Qi G r (kR, 740, M)) args s 0 0 (mm_A G)) (F0 m 4 ls []) := by
  obtain ⟨hx, hb, -, -, -, -, -, -, hZ, -⟩ := id C
  intro n
  induction n with
  | zero =>
    intro v1 v2 H locs ls hM hS hl heq
    rw [fX7_atPitches_4] at heq
    cases heq
  | succ n ih =>
    intro v1 v2 H locs ls hM hS hl heq
    rw [fX7_atPitches_4] at heq
    refine lv_iload_n hx hb dX7_atPitches_4 rfl (lv_at hl 2 rfl) ?_
    refine lv_aload_n hx hb dX7_atPitches_5 rfl (lv_at hl 0 rfl) ?_
    refine gX7_7 C hM (kl (rfl : kT 731 = (6, 0))) (rfl : kT 731 = (6, 0)) (rfl : kR 731 0 = some 732) dX7_atPitches_6 ?_
    refine lv_bipush (v := 13) hx hb dX7_atPitches_9 (by decide) ?_
    refine mm_ildk C hM (kl (rfl : kT 732 = (8, 3592))) (rfl : kT 732 = (8, 3592)) (vp_in_of2 (by decide)) (by decide : (13 : Int32).toNatClampNeg = 13) dX7_atPitches_11 ?_
    refine lv_icmp_ge (tgt := 39) hx hb dX7_atPitches_12 (by decide) (fun c1 => ?_) (fun c1 => ?_)
    · have heq := if_t c1 heq
      refine lv_iload_n hx hb dX7_atPitches_39 rfl (lv_at hl 1 rfl) ?_
      cases heq
      exact mm_iret C hM hS dX7_atPitches_40
    · have heq := if_f c1 heq
      refine lv_iload_n hx hb dX7_atPitches_15 rfl (lv_at hl 1 rfl) ?_
      refine lv_aload_n hx hb dX7_atPitches_16 rfl (lv_at hl 0 rfl) ?_
      refine lv_iload_n hx hb dX7_atPitches_17 rfl (lv_at hl 2 rfl) ?_
      refine lv_bipush (v := 11) hx hb dX7_atPitches_18 (by decide) ?_
      obtain ⟨r3, e2, heq⟩ := bn_of heq
      refine mm_ki hS (mm_runV (rest := [.int v1]) C hM hS (tX7_of l G M v2 11 r3 e2) (uX7_66 _ (Nat.le_of_ble_eq_true rfl) (Nat.le_of_ble_eq_true rfl)) (mm_recv C hM (kl (rfl : kT 731 = (6, 0))) (ci := 6) rfl (mm_e6 (rfl : kT 731 = (6, 0)))) hl.1 rfl rfl (Nat.le_of_ble_eq_true rfl) ⟨Nat.zero_le _, Nat.zero_le _⟩ dX7_atPitches_20) (fun H locs hM hS => ?_)
      have hM : mm_P G kR 740 M H := hM
      refine lv_if_lt (tgt := 30) hx hb dX7_atPitches_23 (by decide) (fun c4 => ?_) (fun c4 => ?_)
      · have heq := if_t c4 heq
        refine lv_iconst (v := 0) hx hb dX7_atPitches_30 (by decide) ?_
        refine lv_iadd hx hb dX7_atPitches_31 ?_
        refine lv_topi (fun y5 ey5 => ?_)
        have heq := lt_to ey5 heq
        refine lv_istore_n (lv' := [(1, .int y5), (0, .ref (mm_lo G + 731)), (2, .int v2)]) hx hb dX7_atPitches_32 rfl hl (by decide) rfl (fun ls hl => ?_)
        obtain ⟨y6, ey6⟩ : ∃ y : Int32, y = (v2 + 1) := ⟨_, rfl⟩
        have heq := lt_to ey6 heq
        refine lv_iinc (v := y6) (lv' := [(2, .int y6), (1, .int y5), (0, .ref (mm_lo G + 731))]) hx hb dX7_atPitches_33 hl (k := 2) rfl (by rw [ey6]; rfl) (by decide) rfl (fun ls hl => ?_)
        refine lv_goto (tgt := 4) hx hb dX7_atPitches_36 (by decide) ?_
        exact ih _ _ _ _ _ hM hS (lv_sub hl [2, 1, 0] rfl) heq
      · have heq := if_f c4 heq
        refine lv_iconst (v := 1) hx hb dX7_atPitches_26 (by decide) ?_
        refine lv_goto (tgt := 31) hx hb dX7_atPitches_27 (by decide) ?_
        refine lv_iadd hx hb dX7_atPitches_31 ?_
        refine lv_topi (fun y7 ey7 => ?_)
        have heq := lt_to ey7 heq
        refine lv_istore_n (lv' := [(1, .int y7), (0, .ref (mm_lo G + 731)), (2, .int v2)]) hx hb dX7_atPitches_32 rfl hl (by decide) rfl (fun ls hl => ?_)
        obtain ⟨y8, ey8⟩ : ∃ y : Int32, y = (v2 + 1) := ⟨_, rfl⟩
        have heq := lt_to ey8 heq
        refine lv_iinc (v := y8) (lv' := [(2, .int y8), (1, .int y7), (0, .ref (mm_lo G + 731))]) hx hb dX7_atPitches_33 hl (k := 2) rfl (by rw [ey8]; rfl) (by decide) rfl (fun ls hl => ?_)
        refine lv_goto (tgt := 4) hx hb dX7_atPitches_36 (by decide) ?_
        exact ih _ _ _ _ _ hM hS (lv_sub hl [2, 1, 0] rfl) heq

set_option maxRecDepth 100000 in
set_option maxHeartbeats 4000000 in
theorem tX7_atPitches (l : Launch) (G : mm_G) (M : mm_M)  (r : Int32) (heq : fX7_atPitches M = some r) : Met l yX7_atPitches (mm_ws yX7_atPitches cX7_atPitches 3 (some .int)) rmX7_atPitches (va_Pc [.ref (mm_lo G + 731)] (mm_B G (kR, 740, M))) (mm_Qi G r (kR, 740, M)) 0 0 (mm_A G) := by
  refine mm_met (cc := cX7_atPitches) (nL := 3) (ret := (some .int)) plRX7 (Nat.le_of_ble_eq_true rfl) ?_
  intro p e s m below meth c ls hin C hM hS hl
  have C : mm_C G p s m _ meth c RX7 cX7_atPitches 3 (some .int) := C
  have hM : mm_P G kR 740 M s.heap := hM
  have hl : lv_has ls 3 [(0, .ref (mm_lo G + 731))] := hl
  obtain ⟨hx, hb, -, -, -, -, -, -, hZ, -⟩ := id C
  rw [fX7_atPitches] at heq
  refine lv_iconst (v := 0) hx hb dX7_atPitches_0 (by decide) ?_
  refine lv_istore_n (lv' := [(1, .int 0), (0, .ref (mm_lo G + 731))]) hx hb dX7_atPitches_1 rfl hl (by decide) rfl (fun ls hl => ?_)
  refine lv_iconst (v := 0) hx hb dX7_atPitches_2 (by decide) ?_
  refine lv_istore_n (lv' := [(2, .int 0), (1, .int 0), (0, .ref (mm_lo G + 731))]) hx hb dX7_atPitches_3 rfl hl (by decide) rfl (fun ls hl => ?_)
  exact tX7_atPitches_4 C M FU _ _ _ _ _ hM hS (lv_sub hl [2, 1, 0] rfl) heq

set_option maxRecDepth 100000 in
set_option maxHeartbeats 4000000 in
theorem tX7_count (l : Launch) (G : mm_G) (M : mm_M) (x1 : Int32) (r : Int32) (heq : fX7_count M x1 = some r) : Met l yX7_count (mm_ws yX7_count cX7_count 2 (some .int)) rmX7_count (va_Pc [.ref (mm_lo G + 731), .int x1] (mm_B G (kR, 740, M))) (mm_Qi G r (kR, 740, M)) 0 0 (mm_A G) := by
  refine mm_met (cc := cX7_count) (nL := 2) (ret := (some .int)) plRX7 (Nat.le_of_ble_eq_true rfl) ?_
  intro p e s m below meth c ls hin C hM hS hl
  have C : mm_C G p s m _ meth c RX7 cX7_count 2 (some .int) := C
  have hM : mm_P G kR 740 M s.heap := hM
  have hl : lv_has ls 2 [(0, .ref (mm_lo G + 731)), (1, .int x1)] := hl
  obtain ⟨hx, hb, -, -, -, -, -, -, hZ, -⟩ := id C
  rw [fX7_count] at heq
  refine lv_iload_n hx hb dX7_count_0 rfl (lv_at hl 1 rfl) ?_
  refine lv_bipush (v := 8) hx hb dX7_count_1 (by decide) ?_
  refine lv_bipush (v := 17) hx hb dX7_count_3 (by decide) ?_
  obtain ⟨r2, e1, heq⟩ := bn_of heq
  refine mm_ki hS (mm_runS (rest := []) C hM hS (tX7_in l G M x1 8 17 r2 e1) (uX7_35 _ (Nat.le_of_ble_eq_true rfl) (Nat.le_of_ble_eq_true rfl)) hl.1 rfl rfl (Nat.le_of_ble_eq_true rfl) ⟨Nat.zero_le _, Nat.zero_le _⟩ dX7_count_5) (fun H locs hM hS => ?_)
  have hM : mm_P G kR 740 M H := hM
  refine mm_ifeqZ (tgt := 21) C dX7_count_8 (by decide) (fun c3 => ?_) (fun c3 => ?_)
  · have heq := if_f c3 heq
    refine lv_iload_n hx hb dX7_count_21 rfl (lv_at hl 1 rfl) ?_
    by_cases c4 : x1 = 0
    · have heq := if_t c4 heq
      refine lv_tableIn (tgt := 116) hx hb dX7_count_22 (by rw [c4]; decide) (by rw [c4]; decide) (by rw [c4]; rfl) (by decide) ?_
      refine lv_aload_n hx hb dX7_count_116 rfl (lv_at hl 0 rfl) ?_
      refine gX7_7 C hM (kl (rfl : kT 731 = (6, 0))) (rfl : kT 731 = (6, 0)) (rfl : kR 731 0 = some 732) dX7_count_117 ?_
      refine lv_bipush (v := 10) hx hb dX7_count_120 (by decide) ?_
      refine mm_ildk C hM (kl (rfl : kT 732 = (8, 3592))) (rfl : kT 732 = (8, 3592)) (vp_in_of2 (by decide)) (by decide : (10 : Int32).toNatClampNeg = 10) dX7_count_122 ?_
      cases heq
      exact mm_iret C hM hS dX7_count_123
    · have heq := if_f c4 heq
      by_cases c5 : x1 = 1
      · have heq := if_t c5 heq
        refine lv_tableIn (tgt := 124) hx hb dX7_count_22 (by rw [c5]; decide) (by rw [c5]; decide) (by rw [c5]; rfl) (by decide) ?_
        refine lv_aload_n hx hb dX7_count_124 rfl (lv_at hl 0 rfl) ?_
        refine gX7_7 C hM (kl (rfl : kT 731 = (6, 0))) (rfl : kT 731 = (6, 0)) (rfl : kR 731 0 = some 732) dX7_count_125 ?_
        refine lv_bipush (v := 13) hx hb dX7_count_128 (by decide) ?_
        refine mm_ildk C hM (kl (rfl : kT 732 = (8, 3592))) (rfl : kT 732 = (8, 3592)) (vp_in_of2 (by decide)) (by decide : (13 : Int32).toNatClampNeg = 13) dX7_count_130 ?_
        cases heq
        exact mm_iret C hM hS dX7_count_131
      · have heq := if_f c5 heq
        by_cases c6 : x1 = 2
        · have heq := if_t c6 heq
          refine lv_tableIn (tgt := 132) hx hb dX7_count_22 (by rw [c6]; decide) (by rw [c6]; decide) (by rw [c6]; rfl) (by decide) ?_
          refine lv_aload_n hx hb dX7_count_132 rfl (lv_at hl 0 rfl) ?_
          refine gX7_7 C hM (kl (rfl : kT 731 = (6, 0))) (rfl : kT 731 = (6, 0)) (rfl : kR 731 0 = some 732) dX7_count_133 ?_
          refine lv_bipush (v := 12) hx hb dX7_count_136 (by decide) ?_
          refine mm_ildk C hM (kl (rfl : kT 732 = (8, 3592))) (rfl : kT 732 = (8, 3592)) (vp_in_of2 (by decide)) (by decide : (12 : Int32).toNatClampNeg = 12) dX7_count_138 ?_
          cases heq
          exact mm_iret C hM hS dX7_count_139
        · have heq := if_f c6 heq
          by_cases c7 : x1 = 3
          · have heq := if_t c7 heq
            refine lv_tableIn (tgt := 140) hx hb dX7_count_22 (by rw [c7]; decide) (by rw [c7]; decide) (by rw [c7]; rfl) (by decide) ?_
            refine lv_aload_n hx hb dX7_count_140 rfl (lv_at hl 0 rfl) ?_
            refine gX7_7 C hM (kl (rfl : kT 731 = (6, 0))) (rfl : kT 731 = (6, 0)) (rfl : kR 731 0 = some 732) dX7_count_141 ?_
            refine lv_bipush (v := 11) hx hb dX7_count_144 (by decide) ?_
            refine mm_ildk C hM (kl (rfl : kT 732 = (8, 3592))) (rfl : kT 732 = (8, 3592)) (vp_in_of2 (by decide)) (by decide : (11 : Int32).toNatClampNeg = 11) dX7_count_146 ?_
            cases heq
            exact mm_iret C hM hS dX7_count_147
          · have heq := if_f c7 heq
            by_cases c8 : x1 = 4
            · have heq := if_t c8 heq
              refine lv_tableIn (tgt := 148) hx hb dX7_count_22 (by rw [c8]; decide) (by rw [c8]; decide) (by rw [c8]; rfl) (by decide) ?_
              refine lv_aload_n hx hb dX7_count_148 rfl (lv_at hl 0 rfl) ?_
              obtain ⟨r10, e9, heq⟩ := bn_of heq
              refine mm_ki hS (mm_runV (rest := []) C hM hS (tX7_waiting l G M r10 e9) (uX7_94 _ (Nat.le_of_ble_eq_true rfl) (Nat.le_of_ble_eq_true rfl)) (mm_recv C hM (kl (rfl : kT 731 = (6, 0))) (ci := 6) rfl (mm_e6 (rfl : kT 731 = (6, 0)))) hl.1 rfl rfl (Nat.le_of_ble_eq_true rfl) ⟨Nat.zero_le _, Nat.zero_le _⟩ dX7_count_149) (fun H locs hM hS => ?_)
              have hM : mm_P G kR 740 M H := hM
              cases heq
              exact mm_iret C hM hS dX7_count_152
            · have heq := if_f c8 heq
              by_cases c11 : x1 = 5
              · have heq := if_t c11 heq
                refine lv_tableIn (tgt := 153) hx hb dX7_count_22 (by rw [c11]; decide) (by rw [c11]; decide) (by rw [c11]; rfl) (by decide) ?_
                refine lv_aload_n hx hb dX7_count_153 rfl (lv_at hl 0 rfl) ?_
                refine gX7_7 C hM (kl (rfl : kT 731 = (6, 0))) (rfl : kT 731 = (6, 0)) (rfl : kR 731 0 = some 732) dX7_count_154 ?_
                refine lv_bipush (v := 14) hx hb dX7_count_157 (by decide) ?_
                refine mm_ildk C hM (kl (rfl : kT 732 = (8, 3592))) (rfl : kT 732 = (8, 3592)) (vp_in_of2 (by decide)) (by decide : (14 : Int32).toNatClampNeg = 14) dX7_count_159 ?_
                cases heq
                exact mm_iret C hM hS dX7_count_160
              · have heq := if_f c11 heq
                by_cases c12 : x1 = 6
                · have heq := if_t c12 heq
                  refine lv_tableIn (tgt := 161) hx hb dX7_count_22 (by rw [c12]; decide) (by rw [c12]; decide) (by rw [c12]; rfl) (by decide) ?_
                  refine lv_aload_n hx hb dX7_count_161 rfl (lv_at hl 0 rfl) ?_
                  refine gX7_179 C hM (kl (rfl : kT 731 = (6, 0))) (rfl : kT 731 = (6, 0)) dX7_count_162 ?_
                  cases heq
                  exact mm_iret C hM hS dX7_count_165
                · have heq := if_f c12 heq
                  by_cases c13 : x1 = 7
                  · have heq := if_t c13 heq
                    refine lv_tableIn (tgt := 166) hx hb dX7_count_22 (by rw [c13]; decide) (by rw [c13]; decide) (by rw [c13]; rfl) (by decide) ?_
                    refine lv_aload_n hx hb dX7_count_166 rfl (lv_at hl 0 rfl) ?_
                    refine gX7_39 C hM (kl (rfl : kT 731 = (6, 0))) (rfl : kT 731 = (6, 0)) dX7_count_167 ?_
                    cases heq
                    exact mm_iret C hM hS dX7_count_170
                  · have heq := if_f c13 heq
                    by_cases c14 : x1 = 8
                    · have heq := if_t c14 heq
                      refine lv_tableIn (tgt := 184) hx hb dX7_count_22 (by rw [c14]; decide) (by rw [c14]; decide) (by rw [c14]; rfl) (by decide) ?_
                      refine lv_bipush (v := (-2)) hx hb dX7_count_184 (by decide) ?_
                      cases heq
                      exact mm_iret C hM hS dX7_count_186
                    · have heq := if_f c14 heq
                      by_cases c15 : x1 = 9
                      · have heq := if_t c15 heq
                        refine lv_tableIn (tgt := 184) hx hb dX7_count_22 (by rw [c15]; decide) (by rw [c15]; decide) (by rw [c15]; rfl) (by decide) ?_
                        refine lv_bipush (v := (-2)) hx hb dX7_count_184 (by decide) ?_
                        cases heq
                        exact mm_iret C hM hS dX7_count_186
                      · have heq := if_f c15 heq
                        by_cases c16 : x1 = 10
                        · have heq := if_t c16 heq
                          refine lv_tableIn (tgt := 184) hx hb dX7_count_22 (by rw [c16]; decide) (by rw [c16]; decide) (by rw [c16]; rfl) (by decide) ?_
                          refine lv_bipush (v := (-2)) hx hb dX7_count_184 (by decide) ?_
                          cases heq
                          exact mm_iret C hM hS dX7_count_186
                        · have heq := if_f c16 heq
                          by_cases c17 : x1 = 11
                          · have heq := if_t c17 heq
                            refine lv_tableIn (tgt := 184) hx hb dX7_count_22 (by rw [c17]; decide) (by rw [c17]; decide) (by rw [c17]; rfl) (by decide) ?_
                            refine lv_bipush (v := (-2)) hx hb dX7_count_184 (by decide) ?_
                            cases heq
                            exact mm_iret C hM hS dX7_count_186
                          · have heq := if_f c17 heq
                            by_cases c18 : x1 = 12
                            · have heq := if_t c18 heq
                              refine lv_tableIn (tgt := 184) hx hb dX7_count_22 (by rw [c18]; decide) (by rw [c18]; decide) (by rw [c18]; rfl) (by decide) ?_
                              refine lv_bipush (v := (-2)) hx hb dX7_count_184 (by decide) ?_
                              cases heq
                              exact mm_iret C hM hS dX7_count_186
                            · have heq := if_f c18 heq
                              by_cases c19 : x1 = 13
                              · have heq := if_t c19 heq
                                refine lv_tableIn (tgt := 184) hx hb dX7_count_22 (by rw [c19]; decide) (by rw [c19]; decide) (by rw [c19]; rfl) (by decide) ?_
                                refine lv_bipush (v := (-2)) hx hb dX7_count_184 (by decide) ?_
                                cases heq
                                exact mm_iret C hM hS dX7_count_186
                              · have heq := if_f c19 heq
                                by_cases c20 : x1 = 14
                                · have heq := if_t c20 heq
                                  refine lv_tableIn (tgt := 184) hx hb dX7_count_22 (by rw [c20]; decide) (by rw [c20]; decide) (by rw [c20]; rfl) (by decide) ?_
                                  refine lv_bipush (v := (-2)) hx hb dX7_count_184 (by decide) ?_
                                  cases heq
                                  exact mm_iret C hM hS dX7_count_186
                                · have heq := if_f c20 heq
                                  by_cases c21 : x1 = 15
                                  · have heq := if_t c21 heq
                                    refine lv_tableIn (tgt := 184) hx hb dX7_count_22 (by rw [c21]; decide) (by rw [c21]; decide) (by rw [c21]; rfl) (by decide) ?_
                                    refine lv_bipush (v := (-2)) hx hb dX7_count_184 (by decide) ?_
                                    cases heq
                                    exact mm_iret C hM hS dX7_count_186
                                  · have heq := if_f c21 heq
                                    by_cases c22 : x1 = 16
                                    · have heq := if_t c22 heq
                                      refine lv_tableIn (tgt := 184) hx hb dX7_count_22 (by rw [c22]; decide) (by rw [c22]; decide) (by rw [c22]; rfl) (by decide) ?_
                                      refine lv_bipush (v := (-2)) hx hb dX7_count_184 (by decide) ?_
                                      cases heq
                                      exact mm_iret C hM hS dX7_count_186
                                    · have heq := if_f c22 heq
                                      by_cases c23 : x1 = 17
                                      · have heq := if_t c23 heq
                                        refine lv_tableIn (tgt := 184) hx hb dX7_count_22 (by rw [c23]; decide) (by rw [c23]; decide) (by rw [c23]; rfl) (by decide) ?_
                                        refine lv_bipush (v := (-2)) hx hb dX7_count_184 (by decide) ?_
                                        cases heq
                                        exact mm_iret C hM hS dX7_count_186
                                      · have heq := if_f c23 heq
                                        by_cases c24 : x1 = 18
                                        · have heq := if_t c24 heq
                                          refine lv_tableIn (tgt := 171) hx hb dX7_count_22 (by rw [c24]; decide) (by rw [c24]; decide) (by rw [c24]; rfl) (by decide) ?_
                                          refine lv_aload_n hx hb dX7_count_171 rfl (lv_at hl 0 rfl) ?_
                                          obtain ⟨r26, e25, heq⟩ := bn_of heq
                                          refine mm_ki hS (mm_runV (rest := []) C hM hS (tX7_atPitches l G M r26 e25) (uX7_182 _ (Nat.le_of_ble_eq_true rfl) (Nat.le_of_ble_eq_true rfl)) (mm_recv C hM (kl (rfl : kT 731 = (6, 0))) (ci := 6) rfl (mm_e6 (rfl : kT 731 = (6, 0)))) hl.1 rfl rfl (Nat.le_of_ble_eq_true rfl) ⟨Nat.zero_le _, Nat.zero_le _⟩ dX7_count_172) (fun H locs hM hS => ?_)
                                          have hM : mm_P G kR 740 M H := hM
                                          cases heq
                                          exact mm_iret C hM hS dX7_count_175
                                        · have heq := if_f c24 heq
                                          by_cases c27 : x1 = 19
                                          · have heq := if_t c27 heq
                                            refine lv_tableIn (tgt := 176) hx hb dX7_count_22 (by rw [c27]; decide) (by rw [c27]; decide) (by rw [c27]; rfl) (by decide) ?_
                                            refine lv_aload_n hx hb dX7_count_176 rfl (lv_at hl 0 rfl) ?_
                                            refine gX7_7 C hM (kl (rfl : kT 731 = (6, 0))) (rfl : kT 731 = (6, 0)) (rfl : kR 731 0 = some 732) dX7_count_177 ?_
                                            refine lv_bipush (v := 15) hx hb dX7_count_180 (by decide) ?_
                                            refine mm_ildk C hM (kl (rfl : kT 732 = (8, 3592))) (rfl : kT 732 = (8, 3592)) (vp_in_of2 (by decide)) (by decide : (15 : Int32).toNatClampNeg = 15) dX7_count_182 ?_
                                            cases heq
                                            exact mm_iret C hM hS dX7_count_183
                                          · have heq := if_f c27 heq
                                            refine lv_tableOut (tgt := 184) hx hb dX7_count_22 (by have nc4 := lv_neT (k := 0) (a := 0) c4 rfl; have nc5 := lv_neT (k := 1) (a := 1) c5 rfl; have nc6 := lv_neT (k := 2) (a := 2) c6 rfl; have nc7 := lv_neT (k := 3) (a := 3) c7 rfl; have nc8 := lv_neT (k := 4) (a := 4) c8 rfl; have nc11 := lv_neT (k := 5) (a := 5) c11 rfl; have nc12 := lv_neT (k := 6) (a := 6) c12 rfl; have nc13 := lv_neT (k := 7) (a := 7) c13 rfl; have nc14 := lv_neT (k := 8) (a := 8) c14 rfl; have nc15 := lv_neT (k := 9) (a := 9) c15 rfl; have nc16 := lv_neT (k := 10) (a := 10) c16 rfl; have nc17 := lv_neT (k := 11) (a := 11) c17 rfl; have nc18 := lv_neT (k := 12) (a := 12) c18 rfl; have nc19 := lv_neT (k := 13) (a := 13) c19 rfl; have nc20 := lv_neT (k := 14) (a := 14) c20 rfl; have nc21 := lv_neT (k := 15) (a := 15) c21 rfl; have nc22 := lv_neT (k := 16) (a := 16) c22 rfl; have nc23 := lv_neT (k := 17) (a := 17) c23 rfl; have nc24 := lv_neT (k := 18) (a := 18) c24 rfl; have nc27 := lv_neT (k := 19) (a := 19) c27 rfl; omega) (by decide) ?_
                                            refine lv_bipush (v := (-2)) hx hb dX7_count_184 (by decide) ?_
                                            cases heq
                                            exact mm_iret C hM hS dX7_count_186
  · have heq := if_t c3 heq
    refine lv_aload_n hx hb dX7_count_11 rfl (lv_at hl 0 rfl) ?_
    refine gX7_7 C hM (kl (rfl : kT 731 = (6, 0))) (rfl : kT 731 = (6, 0)) (rfl : kR 731 0 = some 732) dX7_count_12 ?_
    refine lv_iload_n hx hb dX7_count_15 rfl (lv_at hl 1 rfl) ?_
    refine lv_bipush (v := 8) hx hb dX7_count_16 (by decide) ?_
    refine lv_isub hx hb dX7_count_18 ?_
    obtain ⟨g28, heq⟩ := gd_of heq
    refine mm_ildk C hM (kl (rfl : kT 732 = (8, 3592))) (rfl : kT 732 = (8, 3592)) (vp_in_of2 g28) rfl dX7_count_19 ?_
    cases heq
    exact mm_iret C hM hS dX7_count_20

set_option maxRecDepth 100000 in
set_option maxHeartbeats 4000000 in
theorem tX7_pointsOn (l : Launch) (G : mm_G) (M : mm_M) (x1 : Int32) (x2 : Int32) (r : Int32) (heq : fX7_pointsOn M x1 x2 = some r) : Met l yX7_pointsOn (mm_ws yX7_pointsOn cX7_pointsOn 3 (some .int)) rmX7_pointsOn (va_Pc [.ref (mm_lo G + 731), .int x1, .int x2] (mm_B G (kR, 740, M))) (mm_Qi G r (kR, 740, M)) 0 0 (mm_A G) := by
  refine mm_met (cc := cX7_pointsOn) (nL := 3) (ret := (some .int)) plRX7 (Nat.le_of_ble_eq_true rfl) ?_
  intro p e s m below meth c ls hin C hM hS hl
  have C : mm_C G p s m _ meth c RX7 cX7_pointsOn 3 (some .int) := C
  have hM : mm_P G kR 740 M s.heap := hM
  have hl : lv_has ls 3 [(0, .ref (mm_lo G + 731)), (1, .int x1), (2, .int x2)] := hl
  obtain ⟨hx, hb, -, -, -, -, -, -, hZ, -⟩ := id C
  rw [fX7_pointsOn] at heq
  refine lv_aload_n hx hb dX7_pointsOn_0 rfl (lv_at hl 0 rfl) ?_
  refine lv_iload_n hx hb dX7_pointsOn_1 rfl (lv_at hl 1 rfl) ?_
  obtain ⟨r2, e1, heq⟩ := bn_of heq
  refine mm_ki hS (mm_runV (rest := []) C hM hS (tX7_isCart l G M x1 r2 e1) (uX7_72 _ (Nat.le_of_ble_eq_true rfl) (Nat.le_of_ble_eq_true rfl)) (mm_recv C hM (kl (rfl : kT 731 = (6, 0))) (ci := 6) rfl (mm_e6 (rfl : kT 731 = (6, 0)))) hl.1 rfl rfl (Nat.le_of_ble_eq_true rfl) ⟨Nat.zero_le _, Nat.zero_le _⟩ dX7_pointsOn_2) (fun H locs hM hS => ?_)
  have hM : mm_P G kR 740 M H := hM
  refine mm_ifneZ (tgt := 10) C dX7_pointsOn_5 (by decide) (fun c3 => ?_) (fun c3 => ?_)
  · have heq := if_t c3 heq
    refine lv_iload_n hx hb dX7_pointsOn_10 rfl (lv_at hl 2 rfl) ?_
    refine lv_aload_n hx hb dX7_pointsOn_11 rfl (lv_at hl 0 rfl) ?_
    refine gX7_7 C hM (kl (rfl : kT 731 = (6, 0))) (rfl : kT 731 = (6, 0)) (rfl : kR 731 0 = some 732) dX7_pointsOn_12 ?_
    refine lv_bipush (v := 10) hx hb dX7_pointsOn_15 (by decide) ?_
    refine mm_ildk C hM (kl (rfl : kT 732 = (8, 3592))) (rfl : kT 732 = (8, 3592)) (vp_in_of2 (by decide)) (by decide : (10 : Int32).toNatClampNeg = 10) dX7_pointsOn_17 ?_
    refine lv_aload_n hx hb dX7_pointsOn_18 rfl (lv_at hl 0 rfl) ?_
    refine gX7_7 C hM (kl (rfl : kT 731 = (6, 0))) (rfl : kT 731 = (6, 0)) (rfl : kR 731 0 = some 732) dX7_pointsOn_19 ?_
    refine lv_bipush (v := 10) hx hb dX7_pointsOn_22 (by decide) ?_
    refine mm_ildk C hM (kl (rfl : kT 732 = (8, 3592))) (rfl : kT 732 = (8, 3592)) (vp_in_of2 (by decide)) (by decide : (10 : Int32).toNatClampNeg = 10) dX7_pointsOn_24 ?_
    refine lv_sipush (v := 400) hx hb dX7_pointsOn_25 (by decide) ?_
    refine lv_iadd hx hb dX7_pointsOn_28 ?_
    obtain ⟨r5, e4, heq⟩ := bn_of heq
    refine mm_ki hS (mm_runS (rest := []) C hM hS (tX7_in l G M x2 (M.1 732 10) ((M.1 732 10) + 400) r5 e4) (uX7_35 _ (Nat.le_of_ble_eq_true rfl) (Nat.le_of_ble_eq_true rfl)) hl.1 rfl rfl (Nat.le_of_ble_eq_true rfl) ⟨Nat.zero_le _, Nat.zero_le _⟩ dX7_pointsOn_29) (fun H locs hM hS => ?_)
    have hM : mm_P G kR 740 M H := hM
    refine mm_ifeqZ (tgt := 44) C dX7_pointsOn_32 (by decide) (fun c6 => ?_) (fun c6 => ?_)
    · have heq := if_f c6 heq
      refine lv_bipush (v := (-2)) hx hb dX7_pointsOn_44 (by decide) ?_
      cases heq
      exact mm_iret C hM hS dX7_pointsOn_46
    · have heq := if_t c6 heq
      refine lv_aload_n hx hb dX7_pointsOn_35 rfl (lv_at hl 0 rfl) ?_
      refine lv_iload_n hx hb dX7_pointsOn_36 rfl (lv_at hl 1 rfl) ?_
      refine lv_iload_n hx hb dX7_pointsOn_37 rfl (lv_at hl 2 rfl) ?_
      obtain ⟨r8, e7, heq⟩ := bn_of heq
      refine mm_ki hS (mm_runV (rest := []) C hM hS (tX7_pointsAt l G M x1 x2 r8 e7) (uX7_69 _ (Nat.le_of_ble_eq_true rfl) (Nat.le_of_ble_eq_true rfl)) (mm_recv C hM (kl (rfl : kT 731 = (6, 0))) (ci := 6) rfl (mm_e6 (rfl : kT 731 = (6, 0)))) hl.1 rfl rfl (Nat.le_of_ble_eq_true rfl) ⟨Nat.zero_le _, Nat.zero_le _⟩ dX7_pointsOn_38) (fun H locs hM hS => ?_)
      have hM : mm_P G kR 740 M H := hM
      refine lv_goto (tgt := 46) hx hb dX7_pointsOn_41 (by decide) ?_
      cases heq
      exact mm_iret C hM hS dX7_pointsOn_46
  · have heq := if_f c3 heq
    refine lv_iconst (v := (-1)) hx hb dX7_pointsOn_8 (by decide) ?_
    cases heq
    exact mm_iret C hM hS dX7_pointsOn_9

set_option maxRecDepth 100000 in
set_option maxHeartbeats 4000000 in
theorem tX7_wouldHave (l : Launch) (G : mm_G) (M : mm_M) (x1 : Int32) (r : Int32) (M9 : mm_M) (heq : fX7_wouldHave M x1 = some (r, M9)) : Met l yX7_wouldHave (mm_ws yX7_wouldHave cX7_wouldHave 3 (some .int)) rmX7_wouldHave (va_Pc [.ref (mm_lo G + 731), .int x1] (mm_B G (kR, 740, M))) (mm_Qi G r (kR, 740, M9)) 0 0 (mm_A G) := by
  refine mm_met (cc := cX7_wouldHave) (nL := 3) (ret := (some .int)) plRX7 (Nat.le_of_ble_eq_true rfl) ?_
  intro p e s m below meth c ls hin C hM hS hl
  have C : mm_C G p s m _ meth c RX7 cX7_wouldHave 3 (some .int) := C
  have hM : mm_P G kR 740 M s.heap := hM
  have hl : lv_has ls 3 [(0, .ref (mm_lo G + 731)), (1, .int x1)] := hl
  obtain ⟨hx, hb, -, -, -, -, -, -, hZ, -⟩ := id C
  rw [fX7_wouldHave] at heq
  refine lv_aload_n hx hb dX7_wouldHave_0 rfl (lv_at hl 0 rfl) ?_
  refine lv_iload_n hx hb dX7_wouldHave_1 rfl (lv_at hl 1 rfl) ?_
  obtain ⟨r2, e1, heq⟩ := bn_of heq
  refine mm_ki hS (mm_runV (rest := []) C hM hS (tX7_isCart l G M x1 r2 e1) (uX7_72 _ (Nat.le_of_ble_eq_true rfl) (Nat.le_of_ble_eq_true rfl)) (mm_recv C hM (kl (rfl : kT 731 = (6, 0))) (ci := 6) rfl (mm_e6 (rfl : kT 731 = (6, 0)))) hl.1 rfl rfl (Nat.le_of_ble_eq_true rfl) ⟨Nat.zero_le _, Nat.zero_le _⟩ dX7_wouldHave_2) (fun H locs hM hS => ?_)
  have hM : mm_P G kR 740 M H := hM
  refine mm_ifneZ (tgt := 10) C dX7_wouldHave_5 (by decide) (fun c3 => ?_) (fun c3 => ?_)
  · have heq := if_t c3 heq
    refine lv_aload_n hx hb dX7_wouldHave_10 rfl (lv_at hl 0 rfl) ?_
    obtain ⟨M5, e4, heq⟩ := bn_of heq
    refine mm_kv hS (mm_runV (rest := []) C hM hS (tX7_layAside l G M M5 e4) (uX7_185 _ (Nat.le_of_ble_eq_true rfl) (Nat.le_of_ble_eq_true rfl)) (mm_recv C hM (kl (rfl : kT 731 = (6, 0))) (ci := 6) rfl (mm_e6 (rfl : kT 731 = (6, 0)))) hl.1 rfl rfl (Nat.le_of_ble_eq_true rfl) ⟨Nat.zero_le _, Nat.zero_le _⟩ dX7_wouldHave_11) (fun H locs hM hS => ?_)
    have hM : mm_P G kR 740 M5 H := hM
    refine lv_aload_n hx hb dX7_wouldHave_14 rfl (lv_at hl 0 rfl) ?_
    obtain ⟨M7, e6, heq⟩ := bn_of heq
    refine mm_kv hS (mm_runV (rest := []) C hM hS (tX7_passDay l G M5 M7 e6) (uX7_169 _ (Nat.le_of_ble_eq_true rfl) (Nat.le_of_ble_eq_true rfl)) (mm_recv C hM (kl (rfl : kT 731 = (6, 0))) (ci := 6) rfl (mm_e6 (rfl : kT 731 = (6, 0)))) hl.1 rfl rfl (Nat.le_of_ble_eq_true rfl) ⟨Nat.zero_le _, Nat.zero_le _⟩ dX7_wouldHave_15) (fun H locs hM hS => ?_)
    have hM : mm_P G kR 740 M7 H := hM
    refine lv_aload_n hx hb dX7_wouldHave_18 rfl (lv_at hl 0 rfl) ?_
    refine lv_iload_n hx hb dX7_wouldHave_19 rfl (lv_at hl 1 rfl) ?_
    refine lv_bipush (v := 11) hx hb dX7_wouldHave_20 (by decide) ?_
    obtain ⟨r9, e8, heq⟩ := bn_of heq
    refine mm_ki hS (mm_runV (rest := []) C hM hS (tX7_of l G M7 x1 11 r9 e8) (uX7_66 _ (Nat.le_of_ble_eq_true rfl) (Nat.le_of_ble_eq_true rfl)) (mm_recv C hM (kl (rfl : kT 731 = (6, 0))) (ci := 6) rfl (mm_e6 (rfl : kT 731 = (6, 0)))) hl.1 rfl rfl (Nat.le_of_ble_eq_true rfl) ⟨Nat.zero_le _, Nat.zero_le _⟩ dX7_wouldHave_22) (fun H locs hM hS => ?_)
    have hM : mm_P G kR 740 M7 H := hM
    refine lv_istore_n (lv' := [(2, .int r9), (0, .ref (mm_lo G + 731)), (1, .int x1)]) hx hb dX7_wouldHave_25 rfl hl (by decide) rfl (fun ls hl => ?_)
    refine lv_aload_n hx hb dX7_wouldHave_26 rfl (lv_at hl 1 rfl) ?_
    obtain ⟨M11, e10, heq⟩ := bn_of heq
    refine mm_kv hS (mm_runV (rest := []) C hM hS (tX7_layBack l G M7 M11 e10) (uX7_188 _ (Nat.le_of_ble_eq_true rfl) (Nat.le_of_ble_eq_true rfl)) (mm_recv C hM (kl (rfl : kT 731 = (6, 0))) (ci := 6) rfl (mm_e6 (rfl : kT 731 = (6, 0)))) hl.1 rfl rfl (Nat.le_of_ble_eq_true rfl) ⟨Nat.zero_le _, Nat.zero_le _⟩ dX7_wouldHave_27) (fun H locs hM hS => ?_)
    have hM : mm_P G kR 740 M11 H := hM
    refine lv_iload_n hx hb dX7_wouldHave_30 rfl (lv_at hl 0 rfl) ?_
    cases heq
    exact mm_iret C hM hS dX7_wouldHave_31
  · have heq := if_f c3 heq
    refine lv_iconst (v := (-1)) hx hb dX7_wouldHave_8 (by decide) ?_
    cases heq
    exact mm_iret C hM hS dX7_wouldHave_9

set_option maxRecDepth 100000 in
set_option maxHeartbeats 4000000 in
theorem tX7_ifWished (l : Launch) (G : mm_G) (M : mm_M) (x1 : Int32) (x2 : Int32) (r : Int32) (M9 : mm_M) (heq : fX7_ifWished M x1 x2 = some (r, M9)) : Met l yX7_ifWished (mm_ws yX7_ifWished cX7_ifWished 4 (some .int)) rmX7_ifWished (va_Pc [.ref (mm_lo G + 731), .int x1, .int x2] (mm_B G (kR, 740, M))) (mm_Qi G r (kR, 740, M9)) 0 0 (mm_A G) := by
  refine mm_met (cc := cX7_ifWished) (nL := 4) (ret := (some .int)) plRX7 (Nat.le_of_ble_eq_true rfl) ?_
  intro p e s m below meth c ls hin C hM hS hl
  have C : mm_C G p s m _ meth c RX7 cX7_ifWished 4 (some .int) := C
  have hM : mm_P G kR 740 M s.heap := hM
  have hl : lv_has ls 4 [(0, .ref (mm_lo G + 731)), (1, .int x1), (2, .int x2)] := hl
  obtain ⟨hx, hb, -, -, -, -, -, -, hZ, -⟩ := id C
  rw [fX7_ifWished] at heq
  refine lv_aload_n hx hb dX7_ifWished_0 rfl (lv_at hl 0 rfl) ?_
  refine lv_iload_n hx hb dX7_ifWished_1 rfl (lv_at hl 1 rfl) ?_
  obtain ⟨r2, e1, heq⟩ := bn_of heq
  refine mm_ki hS (mm_runV (rest := []) C hM hS (tX7_isCart l G M x1 r2 e1) (uX7_72 _ (Nat.le_of_ble_eq_true rfl) (Nat.le_of_ble_eq_true rfl)) (mm_recv C hM (kl (rfl : kT 731 = (6, 0))) (ci := 6) rfl (mm_e6 (rfl : kT 731 = (6, 0)))) hl.1 rfl rfl (Nat.le_of_ble_eq_true rfl) ⟨Nat.zero_le _, Nat.zero_le _⟩ dX7_ifWished_2) (fun H locs hM hS => ?_)
  have hM : mm_P G kR 740 M H := hM
  refine mm_ifeqZ (tgt := 16) C dX7_ifWished_5 (by decide) (fun c3 => ?_) (fun c3 => ?_)
  · have heq := if_f c3 heq
    refine lv_iconst (v := (-1)) hx hb dX7_ifWished_16 (by decide) ?_
    cases heq
    exact mm_iret C hM hS dX7_ifWished_17
  · have heq := if_t c3 heq
    refine lv_aload_n hx hb dX7_ifWished_8 rfl (lv_at hl 0 rfl) ?_
    refine lv_iload_n hx hb dX7_ifWished_9 rfl (lv_at hl 2 rfl) ?_
    obtain ⟨r5, e4, heq⟩ := bn_of heq
    refine mm_ki hS (mm_runV (rest := []) C hM hS (tX7_isPitch l G M x2 r5 e4) (uX7_54 _ (Nat.le_of_ble_eq_true rfl) (Nat.le_of_ble_eq_true rfl)) (mm_recv C hM (kl (rfl : kT 731 = (6, 0))) (ci := 6) rfl (mm_e6 (rfl : kT 731 = (6, 0)))) hl.1 rfl rfl (Nat.le_of_ble_eq_true rfl) ⟨Nat.zero_le _, Nat.zero_le _⟩ dX7_ifWished_10) (fun H locs hM hS => ?_)
    have hM : mm_P G kR 740 M H := hM
    refine mm_ifneZ (tgt := 18) C dX7_ifWished_13 (by decide) (fun c6 => ?_) (fun c6 => ?_)
    · have heq := if_t c6 heq
      refine lv_aload_n hx hb dX7_ifWished_18 rfl (lv_at hl 0 rfl) ?_
      obtain ⟨M8, e7, heq⟩ := bn_of heq
      refine mm_kv hS (mm_runV (rest := []) C hM hS (tX7_layAside l G M M8 e7) (uX7_185 _ (Nat.le_of_ble_eq_true rfl) (Nat.le_of_ble_eq_true rfl)) (mm_recv C hM (kl (rfl : kT 731 = (6, 0))) (ci := 6) rfl (mm_e6 (rfl : kT 731 = (6, 0)))) hl.1 rfl rfl (Nat.le_of_ble_eq_true rfl) ⟨Nat.zero_le _, Nat.zero_le _⟩ dX7_ifWished_19) (fun H locs hM hS => ?_)
      have hM : mm_P G kR 740 M8 H := hM
      refine lv_aload_n hx hb dX7_ifWished_22 rfl (lv_at hl 0 rfl) ?_
      refine lv_iload_n hx hb dX7_ifWished_23 rfl (lv_at hl 1 rfl) ?_
      refine lv_iconst (v := 2) hx hb dX7_ifWished_24 (by decide) ?_
      refine lv_iconst (v := 1) hx hb dX7_ifWished_25 (by decide) ?_
      obtain ⟨M10, e9, heq⟩ := bn_of heq
      refine mm_kv hS (mm_runV (rest := []) C hM hS (tX7_lay l G M8 x1 2 1 M10 e9) (uX7_62 _ (Nat.le_of_ble_eq_true rfl) (Nat.le_of_ble_eq_true rfl)) (mm_recv C hM (kl (rfl : kT 731 = (6, 0))) (ci := 6) rfl (mm_e6 (rfl : kT 731 = (6, 0)))) hl.1 rfl rfl (Nat.le_of_ble_eq_true rfl) ⟨Nat.zero_le _, Nat.zero_le _⟩ dX7_ifWished_26) (fun H locs hM hS => ?_)
      have hM : mm_P G kR 740 M10 H := hM
      refine lv_aload_n hx hb dX7_ifWished_29 rfl (lv_at hl 0 rfl) ?_
      refine lv_iload_n hx hb dX7_ifWished_30 rfl (lv_at hl 1 rfl) ?_
      refine lv_iconst (v := 3) hx hb dX7_ifWished_31 (by decide) ?_
      refine lv_iload_n hx hb dX7_ifWished_32 rfl (lv_at hl 2 rfl) ?_
      obtain ⟨M12, e11, heq⟩ := bn_of heq
      refine mm_kv hS (mm_runV (rest := []) C hM hS (tX7_lay l G M10 x1 3 x2 M12 e11) (uX7_62 _ (Nat.le_of_ble_eq_true rfl) (Nat.le_of_ble_eq_true rfl)) (mm_recv C hM (kl (rfl : kT 731 = (6, 0))) (ci := 6) rfl (mm_e6 (rfl : kT 731 = (6, 0)))) hl.1 rfl rfl (Nat.le_of_ble_eq_true rfl) ⟨Nat.zero_le _, Nat.zero_le _⟩ dX7_ifWished_33) (fun H locs hM hS => ?_)
      have hM : mm_P G kR 740 M12 H := hM
      refine lv_aload_n hx hb dX7_ifWished_36 rfl (lv_at hl 0 rfl) ?_
      obtain ⟨M14, e13, heq⟩ := bn_of heq
      refine mm_kv hS (mm_runV (rest := []) C hM hS (tX7_passDay l G M12 M14 e13) (uX7_169 _ (Nat.le_of_ble_eq_true rfl) (Nat.le_of_ble_eq_true rfl)) (mm_recv C hM (kl (rfl : kT 731 = (6, 0))) (ci := 6) rfl (mm_e6 (rfl : kT 731 = (6, 0)))) hl.1 rfl rfl (Nat.le_of_ble_eq_true rfl) ⟨Nat.zero_le _, Nat.zero_le _⟩ dX7_ifWished_37) (fun H locs hM hS => ?_)
      have hM : mm_P G kR 740 M14 H := hM
      refine lv_aload_n hx hb dX7_ifWished_40 rfl (lv_at hl 0 rfl) ?_
      refine lv_iload_n hx hb dX7_ifWished_41 rfl (lv_at hl 1 rfl) ?_
      refine lv_bipush (v := 11) hx hb dX7_ifWished_42 (by decide) ?_
      obtain ⟨r16, e15, heq⟩ := bn_of heq
      refine mm_ki hS (mm_runV (rest := []) C hM hS (tX7_of l G M14 x1 11 r16 e15) (uX7_66 _ (Nat.le_of_ble_eq_true rfl) (Nat.le_of_ble_eq_true rfl)) (mm_recv C hM (kl (rfl : kT 731 = (6, 0))) (ci := 6) rfl (mm_e6 (rfl : kT 731 = (6, 0)))) hl.1 rfl rfl (Nat.le_of_ble_eq_true rfl) ⟨Nat.zero_le _, Nat.zero_le _⟩ dX7_ifWished_44) (fun H locs hM hS => ?_)
      have hM : mm_P G kR 740 M14 H := hM
      refine lv_istore_n (lv' := [(3, .int r16), (0, .ref (mm_lo G + 731)), (1, .int x1), (2, .int x2)]) hx hb dX7_ifWished_47 rfl hl (by decide) rfl (fun ls hl => ?_)
      refine lv_aload_n hx hb dX7_ifWished_48 rfl (lv_at hl 1 rfl) ?_
      obtain ⟨M18, e17, heq⟩ := bn_of heq
      refine mm_kv hS (mm_runV (rest := []) C hM hS (tX7_layBack l G M14 M18 e17) (uX7_188 _ (Nat.le_of_ble_eq_true rfl) (Nat.le_of_ble_eq_true rfl)) (mm_recv C hM (kl (rfl : kT 731 = (6, 0))) (ci := 6) rfl (mm_e6 (rfl : kT 731 = (6, 0)))) hl.1 rfl rfl (Nat.le_of_ble_eq_true rfl) ⟨Nat.zero_le _, Nat.zero_le _⟩ dX7_ifWished_49) (fun H locs hM hS => ?_)
      have hM : mm_P G kR 740 M18 H := hM
      refine lv_iload_n hx hb dX7_ifWished_52 rfl (lv_at hl 0 rfl) ?_
      cases heq
      exact mm_iret C hM hS dX7_ifWished_53
    · have heq := if_f c6 heq
      refine lv_iconst (v := (-1)) hx hb dX7_ifWished_16 (by decide) ?_
      cases heq
      exact mm_iret C hM hS dX7_ifWished_17

set_option maxRecDepth 100000 in
set_option maxHeartbeats 4000000 in
theorem tX7_firstDay_56 (C : mm_C G p s m args meth c RX7 cX7_firstDay 4 (some .int)) (x1 : Int32) {r : Int32} {M9 : mm_M} : ∀ (M : mm_M) (v2 : Int32) (H : Heap) (locs : List Loc) (ls : Array Slot), mm_P G kR 740 M H → va_S (mm_A G) s.heap H locs → lv_has ls 4 [(0, .ref (mm_lo G + 731)), (2, .int v2)] → fX7_firstDay_56 x1 M v2 = some (r, M9) → W p l e rmX7_firstDay s m args below meth c H locs 0 0 (MQ below (mm_Qi G r (kR, 740, M9)) args s 0 0 (mm_A G)) (F0 m 56 ls []) := by
  obtain ⟨hx, hb, -, -, -, -, -, -, hZ, -⟩ := id C
  intro M v2 H locs ls hM hS hl heq
  rw [fX7_firstDay_56] at heq
  refine lv_aload_n hx hb dX7_firstDay_56 rfl (lv_at hl 0 rfl) ?_
  obtain ⟨M2, e1, heq⟩ := bn_of heq
  refine mm_kv hS (mm_runV (rest := []) C hM hS (tX7_layBack l G M M2 e1) (uX7_188 _ (Nat.le_of_ble_eq_true rfl) (Nat.le_of_ble_eq_true rfl)) (mm_recv C hM (kl (rfl : kT 731 = (6, 0))) (ci := 6) rfl (mm_e6 (rfl : kT 731 = (6, 0)))) hl.1 rfl rfl (Nat.le_of_ble_eq_true rfl) ⟨Nat.zero_le _, Nat.zero_le _⟩ dX7_firstDay_57) (fun H locs hM hS => ?_)
  have hM : mm_P G kR 740 M2 H := hM
  refine lv_iload_n hx hb dX7_firstDay_60 rfl (lv_at hl 1 rfl) ?_
  cases heq
  exact mm_iret C hM hS dX7_firstDay_61

set_option maxRecDepth 100000 in
set_option maxHeartbeats 4000000 in
theorem tX7_firstDay_19 (C : mm_C G p s m args meth c RX7 cX7_firstDay 4 (some .int)) (x1 : Int32) {r : Int32} {M9 : mm_M} : ∀ n : Nat, ∀ (M : mm_M) (v2 : Int32) (v3 : Int32) (H : Heap) (locs : List Loc) (ls : Array Slot), mm_P G kR 740 M H → va_S (mm_A G) s.heap H locs → lv_has ls 4 [(0, .ref (mm_lo G + 731)), (1, .int x1), (2, .int v2), (3, .int v3)] → fX7_firstDay_19 x1 n M v2 v3 = some (r, M9) → W p l e rmX7_firstDay s m args below meth c H locs 0 0 (MQ below (mm_Qi G r (kR, 740, M9)) args s 0 0 (mm_A G)) (F0 m 19 ls []) := by
  obtain ⟨hx, hb, -, -, -, -, -, -, hZ, -⟩ := id C
  intro n
  induction n with
  | zero =>
    intro M v2 v3 H locs ls hM hS hl heq
    rw [fX7_firstDay_19] at heq
    cases heq
  | succ n ih =>
    intro M v2 v3 H locs ls hM hS hl heq
    rw [fX7_firstDay_19] at heq
    refine lv_iload_n hx hb dX7_firstDay_19 rfl (lv_at hl 3 rfl) ?_
    refine lv_bipush (v := 60) hx hb dX7_firstDay_20 (by decide) ?_
    refine lv_icmp_ge (tgt := 56) hx hb dX7_firstDay_22 (by decide) (fun c1 => ?_) (fun c1 => ?_)
    · have heq := if_t c1 heq
      exact tX7_firstDay_56 C x1 _ _ _ _ _ hM hS (lv_sub hl [0, 2] rfl) heq
    · have heq := if_f c1 heq
      refine lv_iload_n hx hb dX7_firstDay_25 rfl (lv_at hl 2 rfl) ?_
      refine lv_if_ge (tgt := 56) hx hb dX7_firstDay_26 (by decide) (fun c2 => ?_) (fun c2 => ?_)
      · have heq := if_t c2 heq
        exact tX7_firstDay_56 C x1 _ _ _ _ _ hM hS (lv_sub hl [0, 2] rfl) heq
      · have heq := if_f c2 heq
        refine lv_aload_n hx hb dX7_firstDay_29 rfl (lv_at hl 0 rfl) ?_
        obtain ⟨M4, e3, heq⟩ := bn_of heq
        refine mm_kv hS (mm_runV (rest := []) C hM hS (tX7_passDay l G M M4 e3) (uX7_169 _ (Nat.le_of_ble_eq_true rfl) (Nat.le_of_ble_eq_true rfl)) (mm_recv C hM (kl (rfl : kT 731 = (6, 0))) (ci := 6) rfl (mm_e6 (rfl : kT 731 = (6, 0)))) hl.1 rfl rfl (Nat.le_of_ble_eq_true rfl) ⟨Nat.zero_le _, Nat.zero_le _⟩ dX7_firstDay_30) (fun H locs hM hS => ?_)
        have hM : mm_P G kR 740 M4 H := hM
        refine lv_aload_n hx hb dX7_firstDay_33 rfl (lv_at hl 0 rfl) ?_
        refine lv_iload_n hx hb dX7_firstDay_34 rfl (lv_at hl 1 rfl) ?_
        refine lv_bipush (v := 11) hx hb dX7_firstDay_35 (by decide) ?_
        obtain ⟨r6, e5, heq⟩ := bn_of heq
        refine mm_ki hS (mm_runV (rest := []) C hM hS (tX7_of l G M4 x1 11 r6 e5) (uX7_66 _ (Nat.le_of_ble_eq_true rfl) (Nat.le_of_ble_eq_true rfl)) (mm_recv C hM (kl (rfl : kT 731 = (6, 0))) (ci := 6) rfl (mm_e6 (rfl : kT 731 = (6, 0)))) hl.1 rfl rfl (Nat.le_of_ble_eq_true rfl) ⟨Nat.zero_le _, Nat.zero_le _⟩ dX7_firstDay_37) (fun H locs hM hS => ?_)
        have hM : mm_P G kR 740 M4 H := hM
        refine lv_if_lt (tgt := 47) hx hb dX7_firstDay_40 (by decide) (fun c7 => ?_) (fun c7 => ?_)
        · have heq := if_t c7 heq
          refine lv_bipush (v := (-6)) hx hb dX7_firstDay_47 (by decide) ?_
          refine lv_istore_n (lv' := [(2, .int (-6)), (0, .ref (mm_lo G + 731)), (1, .int x1), (3, .int v3)]) hx hb dX7_firstDay_49 rfl hl (by decide) rfl (fun ls hl => ?_)
          obtain ⟨y8, ey8⟩ : ∃ y : Int32, y = (v3 + 1) := ⟨_, rfl⟩
          have heq := lt_to ey8 heq
          refine lv_iinc (v := y8) (lv' := [(3, .int y8), (2, .int (-6)), (0, .ref (mm_lo G + 731)), (1, .int x1)]) hx hb dX7_firstDay_50 hl (k := 3) rfl (by rw [ey8]; rfl) (by decide) rfl (fun ls hl => ?_)
          refine lv_goto (tgt := 19) hx hb dX7_firstDay_53 (by decide) ?_
          exact ih _ _ _ _ _ _ hM hS (lv_sub hl [2, 3, 1, 0] rfl) heq
        · have heq := if_f c7 heq
          refine lv_iload_n hx hb dX7_firstDay_43 rfl (lv_at hl 3 rfl) ?_
          refine lv_goto (tgt := 49) hx hb dX7_firstDay_44 (by decide) ?_
          refine lv_istore_n (lv' := [(2, .int v3), (0, .ref (mm_lo G + 731)), (1, .int x1), (3, .int v3)]) hx hb dX7_firstDay_49 rfl hl (by decide) rfl (fun ls hl => ?_)
          obtain ⟨y9, ey9⟩ : ∃ y : Int32, y = (v3 + 1) := ⟨_, rfl⟩
          have heq := lt_to ey9 heq
          refine lv_iinc (v := y9) (lv' := [(3, .int y9), (2, .int v3), (0, .ref (mm_lo G + 731)), (1, .int x1)]) hx hb dX7_firstDay_50 hl (k := 3) rfl (by rw [ey9]; rfl) (by decide) rfl (fun ls hl => ?_)
          refine lv_goto (tgt := 19) hx hb dX7_firstDay_53 (by decide) ?_
          exact ih _ _ _ _ _ _ hM hS (lv_sub hl [2, 3, 1, 0] rfl) heq

set_option maxRecDepth 100000 in
set_option maxHeartbeats 4000000 in
theorem tX7_firstDay (l : Launch) (G : mm_G) (M : mm_M) (x1 : Int32) (r : Int32) (M9 : mm_M) (heq : fX7_firstDay M x1 = some (r, M9)) : Met l yX7_firstDay (mm_ws yX7_firstDay cX7_firstDay 4 (some .int)) rmX7_firstDay (va_Pc [.ref (mm_lo G + 731), .int x1] (mm_B G (kR, 740, M))) (mm_Qi G r (kR, 740, M9)) 0 0 (mm_A G) := by
  refine mm_met (cc := cX7_firstDay) (nL := 4) (ret := (some .int)) plRX7 (Nat.le_of_ble_eq_true rfl) ?_
  intro p e s m below meth c ls hin C hM hS hl
  have C : mm_C G p s m _ meth c RX7 cX7_firstDay 4 (some .int) := C
  have hM : mm_P G kR 740 M s.heap := hM
  have hl : lv_has ls 4 [(0, .ref (mm_lo G + 731)), (1, .int x1)] := hl
  obtain ⟨hx, hb, -, -, -, -, -, -, hZ, -⟩ := id C
  rw [fX7_firstDay] at heq
  refine lv_aload_n hx hb dX7_firstDay_0 rfl (lv_at hl 0 rfl) ?_
  refine lv_iload_n hx hb dX7_firstDay_1 rfl (lv_at hl 1 rfl) ?_
  obtain ⟨r2, e1, heq⟩ := bn_of heq
  refine mm_ki hS (mm_runV (rest := []) C hM hS (tX7_isCart l G M x1 r2 e1) (uX7_72 _ (Nat.le_of_ble_eq_true rfl) (Nat.le_of_ble_eq_true rfl)) (mm_recv C hM (kl (rfl : kT 731 = (6, 0))) (ci := 6) rfl (mm_e6 (rfl : kT 731 = (6, 0)))) hl.1 rfl rfl (Nat.le_of_ble_eq_true rfl) ⟨Nat.zero_le _, Nat.zero_le _⟩ dX7_firstDay_2) (fun H locs hM hS => ?_)
  have hM : mm_P G kR 740 M H := hM
  refine mm_ifneZ (tgt := 10) C dX7_firstDay_5 (by decide) (fun c3 => ?_) (fun c3 => ?_)
  · have heq := if_t c3 heq
    refine lv_aload_n hx hb dX7_firstDay_10 rfl (lv_at hl 0 rfl) ?_
    obtain ⟨M5, e4, heq⟩ := bn_of heq
    refine mm_kv hS (mm_runV (rest := []) C hM hS (tX7_layAside l G M M5 e4) (uX7_185 _ (Nat.le_of_ble_eq_true rfl) (Nat.le_of_ble_eq_true rfl)) (mm_recv C hM (kl (rfl : kT 731 = (6, 0))) (ci := 6) rfl (mm_e6 (rfl : kT 731 = (6, 0)))) hl.1 rfl rfl (Nat.le_of_ble_eq_true rfl) ⟨Nat.zero_le _, Nat.zero_le _⟩ dX7_firstDay_11) (fun H locs hM hS => ?_)
    have hM : mm_P G kR 740 M5 H := hM
    refine lv_bipush (v := (-6)) hx hb dX7_firstDay_14 (by decide) ?_
    refine lv_istore_n (lv' := [(2, .int (-6)), (0, .ref (mm_lo G + 731)), (1, .int x1)]) hx hb dX7_firstDay_16 rfl hl (by decide) rfl (fun ls hl => ?_)
    refine lv_iconst (v := 0) hx hb dX7_firstDay_17 (by decide) ?_
    refine lv_istore_n (lv' := [(3, .int 0), (2, .int (-6)), (0, .ref (mm_lo G + 731)), (1, .int x1)]) hx hb dX7_firstDay_18 rfl hl (by decide) rfl (fun ls hl => ?_)
    exact tX7_firstDay_19 C x1 FU _ _ _ _ _ _ hM hS (lv_sub hl [2, 3, 1, 0] rfl) heq
  · have heq := if_f c3 heq
    refine lv_iconst (v := (-1)) hx hb dX7_firstDay_8 (by decide) ?_
    cases heq
    exact mm_iret C hM hS dX7_firstDay_9

set_option maxRecDepth 100000 in
set_option maxHeartbeats 4000000 in
theorem tX7_daysOf_38 (C : mm_C G p s m args meth c RX7 cX7_daysOf 5 (some .int)) (x1 : Int32) (x2 : Int32) {r : Int32} {M9 : mm_M} : ∀ n : Nat, ∀ (M : mm_M) (v3 : Int32) (v4 : Int32) (H : Heap) (locs : List Loc) (ls : Array Slot), mm_P G kR 740 M H → va_S (mm_A G) s.heap H locs → lv_has ls 5 [(0, .ref (mm_lo G + 731)), (1, .int x1), (2, .int x2), (3, .int v3), (4, .int v4)] → fX7_daysOf_38 x1 x2 n M v3 v4 = some (r, M9) → W p l e rmX7_daysOf s m args below meth c H locs 0 0 (MQ below (mm_Qi G r (kR, 740, M9)) args s 0 0 (mm_A G)) (F0 m 38 ls []) := by
  obtain ⟨hx, hb, -, -, -, -, -, -, hZ, -⟩ := id C
  intro n
  induction n with
  | zero =>
    intro M v3 v4 H locs ls hM hS hl heq
    rw [fX7_daysOf_38] at heq
    cases heq
  | succ n ih =>
    intro M v3 v4 H locs ls hM hS hl heq
    rw [fX7_daysOf_38] at heq
    refine lv_iload hx hb dX7_daysOf_38 (lv_at hl 4 rfl) ?_
    refine lv_iload_n hx hb dX7_daysOf_40 rfl (lv_at hl 2 rfl) ?_
    refine lv_icmp_ge (tgt := 54) hx hb dX7_daysOf_41 (by decide) (fun c1 => ?_) (fun c1 => ?_)
    · have heq := if_t c1 heq
      refine lv_aload_n hx hb dX7_daysOf_54 rfl (lv_at hl 0 rfl) ?_
      refine lv_iload_n hx hb dX7_daysOf_55 rfl (lv_at hl 1 rfl) ?_
      refine lv_bipush (v := 10) hx hb dX7_daysOf_56 (by decide) ?_
      obtain ⟨r3, e2, heq⟩ := bn_of heq
      refine mm_ki hS (mm_runV (rest := []) C hM hS (tX7_of l G M x1 10 r3 e2) (uX7_66 _ (Nat.le_of_ble_eq_true rfl) (Nat.le_of_ble_eq_true rfl)) (mm_recv C hM (kl (rfl : kT 731 = (6, 0))) (ci := 6) rfl (mm_e6 (rfl : kT 731 = (6, 0)))) hl.1 rfl rfl (Nat.le_of_ble_eq_true rfl) ⟨Nat.zero_le _, Nat.zero_le _⟩ dX7_daysOf_58) (fun H locs hM hS => ?_)
      have hM : mm_P G kR 740 M H := hM
      refine lv_iload_n hx hb dX7_daysOf_61 rfl (lv_at hl 3 rfl) ?_
      refine lv_isub hx hb dX7_daysOf_62 ?_
      refine lv_topi (fun y4 ey4 => ?_)
      have heq := lt_to ey4 heq
      refine lv_istore (lv' := [(4, .int y4), (0, .ref (mm_lo G + 731)), (1, .int x1), (2, .int x2), (3, .int v3)]) hx hb dX7_daysOf_63 hl (by decide) rfl (fun ls hl => ?_)
      refine lv_aload_n hx hb dX7_daysOf_65 rfl (lv_at hl 1 rfl) ?_
      obtain ⟨M6, e5, heq⟩ := bn_of heq
      refine mm_kv hS (mm_runV (rest := []) C hM hS (tX7_layBack l G M M6 e5) (uX7_188 _ (Nat.le_of_ble_eq_true rfl) (Nat.le_of_ble_eq_true rfl)) (mm_recv C hM (kl (rfl : kT 731 = (6, 0))) (ci := 6) rfl (mm_e6 (rfl : kT 731 = (6, 0)))) hl.1 rfl rfl (Nat.le_of_ble_eq_true rfl) ⟨Nat.zero_le _, Nat.zero_le _⟩ dX7_daysOf_66) (fun H locs hM hS => ?_)
      have hM : mm_P G kR 740 M6 H := hM
      refine lv_iload hx hb dX7_daysOf_69 (lv_at hl 0 rfl) ?_
      cases heq
      exact mm_iret C hM hS dX7_daysOf_71
    · have heq := if_f c1 heq
      refine lv_aload_n hx hb dX7_daysOf_44 rfl (lv_at hl 0 rfl) ?_
      obtain ⟨M8, e7, heq⟩ := bn_of heq
      refine mm_kv hS (mm_runV (rest := []) C hM hS (tX7_passDay l G M M8 e7) (uX7_169 _ (Nat.le_of_ble_eq_true rfl) (Nat.le_of_ble_eq_true rfl)) (mm_recv C hM (kl (rfl : kT 731 = (6, 0))) (ci := 6) rfl (mm_e6 (rfl : kT 731 = (6, 0)))) hl.1 rfl rfl (Nat.le_of_ble_eq_true rfl) ⟨Nat.zero_le _, Nat.zero_le _⟩ dX7_daysOf_45) (fun H locs hM hS => ?_)
      have hM : mm_P G kR 740 M8 H := hM
      obtain ⟨y9, ey9⟩ : ∃ y : Int32, y = (v4 + 1) := ⟨_, rfl⟩
      have heq := lt_to ey9 heq
      refine lv_iinc (v := y9) (lv' := [(4, .int y9), (0, .ref (mm_lo G + 731)), (1, .int x1), (2, .int x2), (3, .int v3)]) hx hb dX7_daysOf_48 hl (k := 4) rfl (by rw [ey9]; rfl) (by decide) rfl (fun ls hl => ?_)
      refine lv_goto (tgt := 38) hx hb dX7_daysOf_51 (by decide) ?_
      exact ih _ _ _ _ _ _ hM hS (lv_sub hl [1, 2, 3, 4, 0] rfl) heq

set_option maxRecDepth 100000 in
set_option maxHeartbeats 4000000 in
theorem tX7_daysOf (l : Launch) (G : mm_G) (M : mm_M) (x1 : Int32) (x2 : Int32) (r : Int32) (M9 : mm_M) (heq : fX7_daysOf M x1 x2 = some (r, M9)) : Met l yX7_daysOf (mm_ws yX7_daysOf cX7_daysOf 5 (some .int)) rmX7_daysOf (va_Pc [.ref (mm_lo G + 731), .int x1, .int x2] (mm_B G (kR, 740, M))) (mm_Qi G r (kR, 740, M9)) 0 0 (mm_A G) := by
  refine mm_met (cc := cX7_daysOf) (nL := 5) (ret := (some .int)) plRX7 (Nat.le_of_ble_eq_true rfl) ?_
  intro p e s m below meth c ls hin C hM hS hl
  have C : mm_C G p s m _ meth c RX7 cX7_daysOf 5 (some .int) := C
  have hM : mm_P G kR 740 M s.heap := hM
  have hl : lv_has ls 5 [(0, .ref (mm_lo G + 731)), (1, .int x1), (2, .int x2)] := hl
  obtain ⟨hx, hb, -, -, -, -, -, -, hZ, -⟩ := id C
  rw [fX7_daysOf] at heq
  refine lv_aload_n hx hb dX7_daysOf_0 rfl (lv_at hl 0 rfl) ?_
  refine lv_iload_n hx hb dX7_daysOf_1 rfl (lv_at hl 1 rfl) ?_
  obtain ⟨r2, e1, heq⟩ := bn_of heq
  refine mm_ki hS (mm_runV (rest := []) C hM hS (tX7_isCart l G M x1 r2 e1) (uX7_72 _ (Nat.le_of_ble_eq_true rfl) (Nat.le_of_ble_eq_true rfl)) (mm_recv C hM (kl (rfl : kT 731 = (6, 0))) (ci := 6) rfl (mm_e6 (rfl : kT 731 = (6, 0)))) hl.1 rfl rfl (Nat.le_of_ble_eq_true rfl) ⟨Nat.zero_le _, Nat.zero_le _⟩ dX7_daysOf_2) (fun H locs hM hS => ?_)
  have hM : mm_P G kR 740 M H := hM
  refine mm_ifneZ (tgt := 10) C dX7_daysOf_5 (by decide) (fun c3 => ?_) (fun c3 => ?_)
  · have heq := if_t c3 heq
    refine lv_iload_n hx hb dX7_daysOf_10 rfl (lv_at hl 2 rfl) ?_
    refine lv_iconst (v := 1) hx hb dX7_daysOf_11 (by decide) ?_
    refine lv_bipush (v := 60) hx hb dX7_daysOf_12 (by decide) ?_
    obtain ⟨r5, e4, heq⟩ := bn_of heq
    refine mm_ki hS (mm_runS (rest := []) C hM hS (tX7_in l G M x2 1 60 r5 e4) (uX7_35 _ (Nat.le_of_ble_eq_true rfl) (Nat.le_of_ble_eq_true rfl)) hl.1 rfl rfl (Nat.le_of_ble_eq_true rfl) ⟨Nat.zero_le _, Nat.zero_le _⟩ dX7_daysOf_14) (fun H locs hM hS => ?_)
    have hM : mm_P G kR 740 M H := hM
    refine mm_ifneZ (tgt := 23) C dX7_daysOf_17 (by decide) (fun c6 => ?_) (fun c6 => ?_)
    · have heq := if_t c6 heq
      refine lv_aload_n hx hb dX7_daysOf_23 rfl (lv_at hl 0 rfl) ?_
      obtain ⟨M8, e7, heq⟩ := bn_of heq
      refine mm_kv hS (mm_runV (rest := []) C hM hS (tX7_layAside l G M M8 e7) (uX7_185 _ (Nat.le_of_ble_eq_true rfl) (Nat.le_of_ble_eq_true rfl)) (mm_recv C hM (kl (rfl : kT 731 = (6, 0))) (ci := 6) rfl (mm_e6 (rfl : kT 731 = (6, 0)))) hl.1 rfl rfl (Nat.le_of_ble_eq_true rfl) ⟨Nat.zero_le _, Nat.zero_le _⟩ dX7_daysOf_24) (fun H locs hM hS => ?_)
      have hM : mm_P G kR 740 M8 H := hM
      refine lv_aload_n hx hb dX7_daysOf_27 rfl (lv_at hl 0 rfl) ?_
      refine lv_iload_n hx hb dX7_daysOf_28 rfl (lv_at hl 1 rfl) ?_
      refine lv_bipush (v := 10) hx hb dX7_daysOf_29 (by decide) ?_
      obtain ⟨r10, e9, heq⟩ := bn_of heq
      refine mm_ki hS (mm_runV (rest := []) C hM hS (tX7_of l G M8 x1 10 r10 e9) (uX7_66 _ (Nat.le_of_ble_eq_true rfl) (Nat.le_of_ble_eq_true rfl)) (mm_recv C hM (kl (rfl : kT 731 = (6, 0))) (ci := 6) rfl (mm_e6 (rfl : kT 731 = (6, 0)))) hl.1 rfl rfl (Nat.le_of_ble_eq_true rfl) ⟨Nat.zero_le _, Nat.zero_le _⟩ dX7_daysOf_31) (fun H locs hM hS => ?_)
      have hM : mm_P G kR 740 M8 H := hM
      refine lv_istore_n (lv' := [(3, .int r10), (0, .ref (mm_lo G + 731)), (1, .int x1), (2, .int x2)]) hx hb dX7_daysOf_34 rfl hl (by decide) rfl (fun ls hl => ?_)
      refine lv_iconst (v := 0) hx hb dX7_daysOf_35 (by decide) ?_
      refine lv_istore (lv' := [(4, .int 0), (3, .int r10), (0, .ref (mm_lo G + 731)), (1, .int x1), (2, .int x2)]) hx hb dX7_daysOf_36 hl (by decide) rfl (fun ls hl => ?_)
      exact tX7_daysOf_38 C x1 x2 FU _ _ _ _ _ _ hM hS (lv_sub hl [2, 3, 4, 1, 0] rfl) heq
    · have heq := if_f c6 heq
      refine lv_bipush (v := (-2)) hx hb dX7_daysOf_20 (by decide) ?_
      cases heq
      exact mm_iret C hM hS dX7_daysOf_22
  · have heq := if_f c3 heq
    refine lv_iconst (v := (-1)) hx hb dX7_daysOf_8 (by decide) ?_
    cases heq
    exact mm_iret C hM hS dX7_daysOf_9

set_option maxRecDepth 100000 in
set_option maxHeartbeats 4000000 in
theorem tX7_luckySeed_84 (C : mm_C G p s m args meth c RX7 cX7_luckySeed 6 (some .int)) (x1 : Int32) (x2 : Int32) {r : Int32} {M9 : mm_M} {k28 : mm_M → Int32 → Int32 → Option (Int32 × mm_M)} (hk28 : ∀ (M : mm_M) (v3 : Int32) (v4 : Int32) (H : Heap) (locs : List Loc) (ls : Array Slot), mm_P G kR 740 M H → va_S (mm_A G) s.heap H locs → lv_has ls 6 [(0, .ref (mm_lo G + 731)), (1, .int x1), (2, .int x2), (3, .int v3), (4, .int v4)] → k28 M v3 v4 = some (r, M9) → W p l e rmX7_luckySeed s m args below meth c H locs 0 0 (MQ below (mm_Qi G r (kR, 740, M9)) args s 0 0 (mm_A G)) (F0 m 28 ls [])) : ∀ (M : mm_M) (v4 : Int32) (t0 : Int32) (H : Heap) (locs : List Loc) (ls : Array Slot), mm_P G kR 740 M H → va_S (mm_A G) s.heap H locs → lv_has ls 6 [(0, .ref (mm_lo G + 731)), (1, .int x1), (2, .int x2), (4, .int v4)] → fX7_luckySeed_84 x1 x2 k28 M v4 t0 = some (r, M9) → W p l e rmX7_luckySeed s m args below meth c H locs 0 0 (MQ below (mm_Qi G r (kR, 740, M9)) args s 0 0 (mm_A G)) (F0 m 84 ls [.int t0]) := by
  obtain ⟨hx, hb, -, -, -, -, -, -, hZ, -⟩ := id C
  intro M v4 t0 H locs ls hM hS hl heq
  rw [fX7_luckySeed_84] at heq
  refine lv_istore_n (lv' := [(3, .int t0), (0, .ref (mm_lo G + 731)), (1, .int x1), (2, .int x2), (4, .int v4)]) hx hb dX7_luckySeed_84 rfl hl (by decide) rfl (fun ls hl => ?_)
  refine lv_aload_n hx hb dX7_luckySeed_85 rfl (lv_at hl 1 rfl) ?_
  obtain ⟨M2, e1, heq⟩ := bn_of heq
  refine mm_kv hS (mm_runV (rest := []) C hM hS (tX7_layBack l G M M2 e1) (uX7_188 _ (Nat.le_of_ble_eq_true rfl) (Nat.le_of_ble_eq_true rfl)) (mm_recv C hM (kl (rfl : kT 731 = (6, 0))) (ci := 6) rfl (mm_e6 (rfl : kT 731 = (6, 0)))) hl.1 rfl rfl (Nat.le_of_ble_eq_true rfl) ⟨Nat.zero_le _, Nat.zero_le _⟩ dX7_luckySeed_86) (fun H locs hM hS => ?_)
  have hM : mm_P G kR 740 M2 H := hM
  obtain ⟨y3, ey3⟩ : ∃ y : Int32, y = (v4 + 1) := ⟨_, rfl⟩
  have heq := lt_to ey3 heq
  refine lv_iinc (v := y3) (lv' := [(4, .int y3), (3, .int t0), (0, .ref (mm_lo G + 731)), (1, .int x1), (2, .int x2)]) hx hb dX7_luckySeed_89 hl (k := 4) rfl (by rw [ey3]; rfl) (by decide) rfl (fun ls hl => ?_)
  refine lv_goto (tgt := 28) hx hb dX7_luckySeed_92 (by decide) ?_
  exact hk28 _ _ _ _ _ _ hM hS (lv_sub hl [2, 3, 4, 1, 0] rfl) heq

set_option maxRecDepth 100000 in
set_option maxHeartbeats 4000000 in
theorem tX7_luckySeed_77 (C : mm_C G p s m args meth c RX7 cX7_luckySeed 6 (some .int)) (x1 : Int32) (x2 : Int32) {r : Int32} {M9 : mm_M} {k28 : mm_M → Int32 → Int32 → Option (Int32 × mm_M)} (hk28 : ∀ (M : mm_M) (v3 : Int32) (v4 : Int32) (H : Heap) (locs : List Loc) (ls : Array Slot), mm_P G kR 740 M H → va_S (mm_A G) s.heap H locs → lv_has ls 6 [(0, .ref (mm_lo G + 731)), (1, .int x1), (2, .int x2), (3, .int v3), (4, .int v4)] → k28 M v3 v4 = some (r, M9) → W p l e rmX7_luckySeed s m args below meth c H locs 0 0 (MQ below (mm_Qi G r (kR, 740, M9)) args s 0 0 (mm_A G)) (F0 m 28 ls [])) : ∀ (M : mm_M) (v4 : Int32) (H : Heap) (locs : List Loc) (ls : Array Slot), mm_P G kR 740 M H → va_S (mm_A G) s.heap H locs → lv_has ls 6 [(0, .ref (mm_lo G + 731)), (1, .int x1), (2, .int x2), (4, .int v4)] → fX7_luckySeed_77 x1 x2 k28 M v4 = some (r, M9) → W p l e rmX7_luckySeed s m args below meth c H locs 0 0 (MQ below (mm_Qi G r (kR, 740, M9)) args s 0 0 (mm_A G)) (F0 m 77 ls []) := by
  obtain ⟨hx, hb, -, -, -, -, -, -, hZ, -⟩ := id C
  intro M v4 H locs ls hM hS hl heq
  rw [fX7_luckySeed_77] at heq
  refine lv_iload hx hb dX7_luckySeed_77 (lv_at hl 3 rfl) ?_
  refine lv_goto (tgt := 84) hx hb dX7_luckySeed_79 (by decide) ?_
  exact tX7_luckySeed_84 C x1 x2 hk28 _ _ _ _ _ _ hM hS (lv_sub hl [0, 1, 2, 3] rfl) heq

set_option maxRecDepth 100000 in
set_option maxHeartbeats 4000000 in
theorem tX7_luckySeed_82 (C : mm_C G p s m args meth c RX7 cX7_luckySeed 6 (some .int)) (x1 : Int32) (x2 : Int32) {r : Int32} {M9 : mm_M} {k28 : mm_M → Int32 → Int32 → Option (Int32 × mm_M)} (hk28 : ∀ (M : mm_M) (v3 : Int32) (v4 : Int32) (H : Heap) (locs : List Loc) (ls : Array Slot), mm_P G kR 740 M H → va_S (mm_A G) s.heap H locs → lv_has ls 6 [(0, .ref (mm_lo G + 731)), (1, .int x1), (2, .int x2), (3, .int v3), (4, .int v4)] → k28 M v3 v4 = some (r, M9) → W p l e rmX7_luckySeed s m args below meth c H locs 0 0 (MQ below (mm_Qi G r (kR, 740, M9)) args s 0 0 (mm_A G)) (F0 m 28 ls [])) : ∀ (M : mm_M) (v4 : Int32) (H : Heap) (locs : List Loc) (ls : Array Slot), mm_P G kR 740 M H → va_S (mm_A G) s.heap H locs → lv_has ls 6 [(0, .ref (mm_lo G + 731)), (1, .int x1), (2, .int x2), (4, .int v4)] → fX7_luckySeed_82 x1 x2 k28 M v4 = some (r, M9) → W p l e rmX7_luckySeed s m args below meth c H locs 0 0 (MQ below (mm_Qi G r (kR, 740, M9)) args s 0 0 (mm_A G)) (F0 m 82 ls []) := by
  obtain ⟨hx, hb, -, -, -, -, -, -, hZ, -⟩ := id C
  intro M v4 H locs ls hM hS hl heq
  rw [fX7_luckySeed_82] at heq
  refine lv_bipush (v := (-6)) hx hb dX7_luckySeed_82 (by decide) ?_
  exact tX7_luckySeed_84 C x1 x2 hk28 _ _ _ _ _ _ hM hS (lv_sub hl [0, 1, 2, 3] rfl) heq

set_option maxRecDepth 100000 in
set_option maxHeartbeats 4000000 in
theorem tX7_luckySeed_28 (C : mm_C G p s m args meth c RX7 cX7_luckySeed 6 (some .int)) (x1 : Int32) (x2 : Int32) {r : Int32} {M9 : mm_M} : ∀ n : Nat, ∀ (M : mm_M) (v3 : Int32) (v4 : Int32) (H : Heap) (locs : List Loc) (ls : Array Slot), mm_P G kR 740 M H → va_S (mm_A G) s.heap H locs → lv_has ls 6 [(0, .ref (mm_lo G + 731)), (1, .int x1), (2, .int x2), (3, .int v3), (4, .int v4)] → fX7_luckySeed_28 x1 x2 n M v3 v4 = some (r, M9) → W p l e rmX7_luckySeed s m args below meth c H locs 0 0 (MQ below (mm_Qi G r (kR, 740, M9)) args s 0 0 (mm_A G)) (F0 m 28 ls []) := by
  obtain ⟨hx, hb, -, -, -, -, -, -, hZ, -⟩ := id C
  intro n
  induction n with
  | zero =>
    intro M v3 v4 H locs ls hM hS hl heq
    rw [fX7_luckySeed_28] at heq
    cases heq
  | succ n ih =>
    intro M v3 v4 H locs ls hM hS hl heq
    rw [fX7_luckySeed_28] at heq
    refine lv_iload hx hb dX7_luckySeed_28 (lv_at hl 4 rfl) ?_
    refine lv_sipush (v := 200) hx hb dX7_luckySeed_30 (by decide) ?_
    refine lv_icmp_ge (tgt := 95) hx hb dX7_luckySeed_33 (by decide) (fun c1 => ?_) (fun c1 => ?_)
    · have heq := if_t c1 heq
      refine lv_iload_n hx hb dX7_luckySeed_95 rfl (lv_at hl 3 rfl) ?_
      cases heq
      exact mm_iret C hM hS dX7_luckySeed_96
    · have heq := if_f c1 heq
      refine lv_iload_n hx hb dX7_luckySeed_36 rfl (lv_at hl 3 rfl) ?_
      refine lv_if_ge (tgt := 95) hx hb dX7_luckySeed_37 (by decide) (fun c2 => ?_) (fun c2 => ?_)
      · have heq := if_t c2 heq
        refine lv_iload_n hx hb dX7_luckySeed_95 rfl (lv_at hl 3 rfl) ?_
        cases heq
        exact mm_iret C hM hS dX7_luckySeed_96
      · have heq := if_f c2 heq
        refine lv_aload_n hx hb dX7_luckySeed_40 rfl (lv_at hl 0 rfl) ?_
        refine gX7_7 C hM (kl (rfl : kT 731 = (6, 0))) (rfl : kT 731 = (6, 0)) (rfl : kR 731 0 = some 732) dX7_luckySeed_41 ?_
        refine lv_bipush (v := 11) hx hb dX7_luckySeed_44 (by decide) ?_
        refine lv_iload hx hb dX7_luckySeed_46 (lv_at hl 4 rfl) ?_
        refine mm_istk C hM hS (kl (rfl : kT 732 = (8, 3592))) (rfl : kT 732 = (8, 3592)) (vp_in_of2 (by decide)) (by decide : (11 : Int32).toNatClampNeg = 11) dX7_luckySeed_48 (fun H locs hM hS _ => ?_)
        obtain ⟨M3, eM3⟩ : ∃ z : mm_M, z = sI M 732 11 v4 := ⟨_, rfl⟩
        rw [← eM3] at hM
        have heq := lt_to eM3 heq
        refine lv_aload_n hx hb dX7_luckySeed_49 rfl (lv_at hl 0 rfl) ?_
        obtain ⟨M5, e4, heq⟩ := bn_of heq
        refine mm_kv hS (mm_runV (rest := []) C hM hS (tX7_passDay l G M3 M5 e4) (uX7_169 _ (Nat.le_of_ble_eq_true rfl) (Nat.le_of_ble_eq_true rfl)) (mm_recv C hM (kl (rfl : kT 731 = (6, 0))) (ci := 6) rfl (mm_e6 (rfl : kT 731 = (6, 0)))) hl.1 rfl rfl (Nat.le_of_ble_eq_true rfl) ⟨Nat.zero_le _, Nat.zero_le _⟩ dX7_luckySeed_50) (fun H locs hM hS => ?_)
        have hM : mm_P G kR 740 M5 H := hM
        refine lv_aload_n hx hb dX7_luckySeed_53 rfl (lv_at hl 0 rfl) ?_
        refine lv_iload_n hx hb dX7_luckySeed_54 rfl (lv_at hl 1 rfl) ?_
        refine lv_bipush (v := 11) hx hb dX7_luckySeed_55 (by decide) ?_
        obtain ⟨r7, e6, heq⟩ := bn_of heq
        refine mm_ki hS (mm_runV (rest := []) C hM hS (tX7_of l G M5 x1 11 r7 e6) (uX7_66 _ (Nat.le_of_ble_eq_true rfl) (Nat.le_of_ble_eq_true rfl)) (mm_recv C hM (kl (rfl : kT 731 = (6, 0))) (ci := 6) rfl (mm_e6 (rfl : kT 731 = (6, 0)))) hl.1 rfl rfl (Nat.le_of_ble_eq_true rfl) ⟨Nat.zero_le _, Nat.zero_le _⟩ dX7_luckySeed_57) (fun H locs hM hS => ?_)
        have hM : mm_P G kR 740 M5 H := hM
        refine lv_istore (lv' := [(5, .int r7), (0, .ref (mm_lo G + 731)), (1, .int x1), (2, .int x2), (3, .int v3), (4, .int v4)]) hx hb dX7_luckySeed_60 hl (by decide) rfl (fun ls hl => ?_)
        refine lv_iload hx hb dX7_luckySeed_62 (lv_at hl 0 rfl) ?_
        refine lv_if_lt (tgt := 82) hx hb dX7_luckySeed_64 (by decide) (fun c8 => ?_) (fun c8 => ?_)
        · have heq := if_t c8 heq
          exact tX7_luckySeed_82 C x1 x2 ih _ _ _ _ _ hM hS (lv_sub hl [1, 2, 3, 5] rfl) heq
        · have heq := if_f c8 heq
          refine lv_iload_n hx hb dX7_luckySeed_67 rfl (lv_at hl 3 rfl) ?_
          refine lv_if_lt (tgt := 77) hx hb dX7_luckySeed_68 (by decide) (fun c9 => ?_) (fun c9 => ?_)
          · have heq := if_t c9 heq
            exact tX7_luckySeed_77 C x1 x2 ih _ _ _ _ _ hM hS (lv_sub hl [1, 2, 3, 5] rfl) heq
          · have heq := if_f c9 heq
            refine lv_iload hx hb dX7_luckySeed_71 (lv_at hl 0 rfl) ?_
            refine lv_iload_n hx hb dX7_luckySeed_73 rfl (lv_at hl 3 rfl) ?_
            refine lv_icmp_ne (tgt := 82) hx hb dX7_luckySeed_74 (by decide) (fun c10 => ?_) (fun c10 => ?_)
            · have heq := if_f c10 heq
              exact tX7_luckySeed_82 C x1 x2 ih _ _ _ _ _ hM hS (lv_sub hl [1, 2, 3, 5] rfl) heq
            · have heq := if_t c10 heq
              exact tX7_luckySeed_77 C x1 x2 ih _ _ _ _ _ hM hS (lv_sub hl [1, 2, 3, 5] rfl) heq

set_option maxRecDepth 100000 in
set_option maxHeartbeats 4000000 in
theorem tX7_luckySeed (l : Launch) (G : mm_G) (M : mm_M) (x1 : Int32) (x2 : Int32) (r : Int32) (M9 : mm_M) (heq : fX7_luckySeed M x1 x2 = some (r, M9)) : Met l yX7_luckySeed (mm_ws yX7_luckySeed cX7_luckySeed 6 (some .int)) rmX7_luckySeed (va_Pc [.ref (mm_lo G + 731), .int x1, .int x2] (mm_B G (kR, 740, M))) (mm_Qi G r (kR, 740, M9)) 0 0 (mm_A G) := by
  refine mm_met (cc := cX7_luckySeed) (nL := 6) (ret := (some .int)) plRX7 (Nat.le_of_ble_eq_true rfl) ?_
  intro p e s m below meth c ls hin C hM hS hl
  have C : mm_C G p s m _ meth c RX7 cX7_luckySeed 6 (some .int) := C
  have hM : mm_P G kR 740 M s.heap := hM
  have hl : lv_has ls 6 [(0, .ref (mm_lo G + 731)), (1, .int x1), (2, .int x2)] := hl
  obtain ⟨hx, hb, -, -, -, -, -, -, hZ, -⟩ := id C
  rw [fX7_luckySeed] at heq
  refine lv_aload_n hx hb dX7_luckySeed_0 rfl (lv_at hl 0 rfl) ?_
  refine lv_iload_n hx hb dX7_luckySeed_1 rfl (lv_at hl 1 rfl) ?_
  obtain ⟨r2, e1, heq⟩ := bn_of heq
  refine mm_ki hS (mm_runV (rest := []) C hM hS (tX7_isCart l G M x1 r2 e1) (uX7_72 _ (Nat.le_of_ble_eq_true rfl) (Nat.le_of_ble_eq_true rfl)) (mm_recv C hM (kl (rfl : kT 731 = (6, 0))) (ci := 6) rfl (mm_e6 (rfl : kT 731 = (6, 0)))) hl.1 rfl rfl (Nat.le_of_ble_eq_true rfl) ⟨Nat.zero_le _, Nat.zero_le _⟩ dX7_luckySeed_2) (fun H locs hM hS => ?_)
  have hM : mm_P G kR 740 M H := hM
  refine mm_ifeqZ (tgt := 16) C dX7_luckySeed_5 (by decide) (fun c3 => ?_) (fun c3 => ?_)
  · have heq := if_f c3 heq
    refine lv_iconst (v := (-1)) hx hb dX7_luckySeed_16 (by decide) ?_
    cases heq
    exact mm_iret C hM hS dX7_luckySeed_17
  · have heq := if_t c3 heq
    refine lv_aload_n hx hb dX7_luckySeed_8 rfl (lv_at hl 0 rfl) ?_
    refine lv_iload_n hx hb dX7_luckySeed_9 rfl (lv_at hl 2 rfl) ?_
    obtain ⟨r5, e4, heq⟩ := bn_of heq
    refine mm_ki hS (mm_runV (rest := []) C hM hS (tX7_isNumber l G M x2 r5 e4) (uX7_75 _ (Nat.le_of_ble_eq_true rfl) (Nat.le_of_ble_eq_true rfl)) (mm_recv C hM (kl (rfl : kT 731 = (6, 0))) (ci := 6) rfl (mm_e6 (rfl : kT 731 = (6, 0)))) hl.1 rfl rfl (Nat.le_of_ble_eq_true rfl) ⟨Nat.zero_le _, Nat.zero_le _⟩ dX7_luckySeed_10) (fun H locs hM hS => ?_)
    have hM : mm_P G kR 740 M H := hM
    refine mm_ifneZ (tgt := 18) C dX7_luckySeed_13 (by decide) (fun c6 => ?_) (fun c6 => ?_)
    · have heq := if_t c6 heq
      refine lv_aload_n hx hb dX7_luckySeed_18 rfl (lv_at hl 0 rfl) ?_
      obtain ⟨M8, e7, heq⟩ := bn_of heq
      refine mm_kv hS (mm_runV (rest := []) C hM hS (tX7_layAside l G M M8 e7) (uX7_185 _ (Nat.le_of_ble_eq_true rfl) (Nat.le_of_ble_eq_true rfl)) (mm_recv C hM (kl (rfl : kT 731 = (6, 0))) (ci := 6) rfl (mm_e6 (rfl : kT 731 = (6, 0)))) hl.1 rfl rfl (Nat.le_of_ble_eq_true rfl) ⟨Nat.zero_le _, Nat.zero_le _⟩ dX7_luckySeed_19) (fun H locs hM hS => ?_)
      have hM : mm_P G kR 740 M8 H := hM
      refine lv_bipush (v := (-6)) hx hb dX7_luckySeed_22 (by decide) ?_
      refine lv_istore_n (lv' := [(3, .int (-6)), (0, .ref (mm_lo G + 731)), (1, .int x1), (2, .int x2)]) hx hb dX7_luckySeed_24 rfl hl (by decide) rfl (fun ls hl => ?_)
      refine lv_iconst (v := 0) hx hb dX7_luckySeed_25 (by decide) ?_
      refine lv_istore (lv' := [(4, .int 0), (3, .int (-6)), (0, .ref (mm_lo G + 731)), (1, .int x1), (2, .int x2)]) hx hb dX7_luckySeed_26 hl (by decide) rfl (fun ls hl => ?_)
      exact tX7_luckySeed_28 C x1 x2 FU _ _ _ _ _ _ hM hS (lv_sub hl [2, 3, 4, 1, 0] rfl) heq
    · have heq := if_f c6 heq
      refine lv_iconst (v := (-1)) hx hb dX7_luckySeed_16 (by decide) ?_
      cases heq
      exact mm_iret C hM hS dX7_luckySeed_17

set_option maxRecDepth 100000 in
set_option maxHeartbeats 4000000 in
theorem tX7_whyNot_38 (C : mm_C G p s m args meth c RX7 cX7_whyNot 4 (some .int)) (x1 : Int32) (x2 : Int32) (M : mm_M) {r : Int32} : ∀ (H : Heap) (locs : List Loc) (ls : Array Slot), mm_P G kR 740 M H → va_S (mm_A G) s.heap H locs → lv_has ls 4 [(0, .ref (mm_lo G + 731)), (1, .int x1), (2, .int x2)] → fX7_whyNot_38 x1 x2 M = some r → W p l e rmX7_whyNot s m args below meth c H locs 0 0 (MQ below (mm_Qi G r (kR, 740, M)) args s 0 0 (mm_A G)) (F0 m 38 ls []) := by
  obtain ⟨hx, hb, -, -, -, -, -, -, hZ, -⟩ := id C
  intro H locs ls hM hS hl heq
  rw [fX7_whyNot_38] at heq
  refine lv_aload_n hx hb dX7_whyNot_38 rfl (lv_at hl 0 rfl) ?_
  refine lv_iload_n hx hb dX7_whyNot_39 rfl (lv_at hl 1 rfl) ?_
  refine lv_iload_n hx hb dX7_whyNot_40 rfl (lv_at hl 2 rfl) ?_
  obtain ⟨r2, e1, heq⟩ := bn_of heq
  refine mm_ki hS (mm_runV (rest := []) C hM hS (tX7_isApart l G M x1 x2 r2 e1) (uX7_118 _ (Nat.le_of_ble_eq_true rfl) (Nat.le_of_ble_eq_true rfl)) (mm_recv C hM (kl (rfl : kT 731 = (6, 0))) (ci := 6) rfl (mm_e6 (rfl : kT 731 = (6, 0)))) hl.1 rfl rfl (Nat.le_of_ble_eq_true rfl) ⟨Nat.zero_le _, Nat.zero_le _⟩ dX7_whyNot_41) (fun H locs hM hS => ?_)
  have hM : mm_P G kR 740 M H := hM
  refine mm_ifeqZ (tgt := 51) C dX7_whyNot_44 (by decide) (fun c3 => ?_) (fun c3 => ?_)
  · have heq := if_f c3 heq
    refine lv_iconst (v := 2) hx hb dX7_whyNot_51 (by decide) ?_
    cases heq
    exact mm_iret C hM hS dX7_whyNot_52
  · have heq := if_t c3 heq
    refine lv_iconst (v := 0) hx hb dX7_whyNot_47 (by decide) ?_
    refine lv_goto (tgt := 52) hx hb dX7_whyNot_48 (by decide) ?_
    cases heq
    exact mm_iret C hM hS dX7_whyNot_52

set_option maxRecDepth 100000 in
set_option maxHeartbeats 4000000 in
theorem tX7_whyNot (l : Launch) (G : mm_G) (M : mm_M) (x1 : Int32) (x2 : Int32) (r : Int32) (heq : fX7_whyNot M x1 x2 = some r) : Met l yX7_whyNot (mm_ws yX7_whyNot cX7_whyNot 4 (some .int)) rmX7_whyNot (va_Pc [.ref (mm_lo G + 731), .int x1, .int x2] (mm_B G (kR, 740, M))) (mm_Qi G r (kR, 740, M)) 0 0 (mm_A G) := by
  refine mm_met (cc := cX7_whyNot) (nL := 4) (ret := (some .int)) plRX7 (Nat.le_of_ble_eq_true rfl) ?_
  intro p e s m below meth c ls hin C hM hS hl
  have C : mm_C G p s m _ meth c RX7 cX7_whyNot 4 (some .int) := C
  have hM : mm_P G kR 740 M s.heap := hM
  have hl : lv_has ls 4 [(0, .ref (mm_lo G + 731)), (1, .int x1), (2, .int x2)] := hl
  obtain ⟨hx, hb, -, -, -, -, -, -, hZ, -⟩ := id C
  rw [fX7_whyNot] at heq
  refine lv_aload_n hx hb dX7_whyNot_0 rfl (lv_at hl 0 rfl) ?_
  refine lv_iload_n hx hb dX7_whyNot_1 rfl (lv_at hl 1 rfl) ?_
  obtain ⟨r2, e1, heq⟩ := bn_of heq
  refine mm_ki hS (mm_runV (rest := []) C hM hS (tX7_isCart l G M x1 r2 e1) (uX7_72 _ (Nat.le_of_ble_eq_true rfl) (Nat.le_of_ble_eq_true rfl)) (mm_recv C hM (kl (rfl : kT 731 = (6, 0))) (ci := 6) rfl (mm_e6 (rfl : kT 731 = (6, 0)))) hl.1 rfl rfl (Nat.le_of_ble_eq_true rfl) ⟨Nat.zero_le _, Nat.zero_le _⟩ dX7_whyNot_2) (fun H locs hM hS => ?_)
  have hM : mm_P G kR 740 M H := hM
  refine mm_ifeqZ (tgt := 16) C dX7_whyNot_5 (by decide) (fun c3 => ?_) (fun c3 => ?_)
  · have heq := if_f c3 heq
    refine lv_iconst (v := (-1)) hx hb dX7_whyNot_16 (by decide) ?_
    cases heq
    exact mm_iret C hM hS dX7_whyNot_17
  · have heq := if_t c3 heq
    refine lv_aload_n hx hb dX7_whyNot_8 rfl (lv_at hl 0 rfl) ?_
    refine lv_iload_n hx hb dX7_whyNot_9 rfl (lv_at hl 2 rfl) ?_
    obtain ⟨r5, e4, heq⟩ := bn_of heq
    refine mm_ki hS (mm_runV (rest := []) C hM hS (tX7_isPitch l G M x2 r5 e4) (uX7_54 _ (Nat.le_of_ble_eq_true rfl) (Nat.le_of_ble_eq_true rfl)) (mm_recv C hM (kl (rfl : kT 731 = (6, 0))) (ci := 6) rfl (mm_e6 (rfl : kT 731 = (6, 0)))) hl.1 rfl rfl (Nat.le_of_ble_eq_true rfl) ⟨Nat.zero_le _, Nat.zero_le _⟩ dX7_whyNot_10) (fun H locs hM hS => ?_)
    have hM : mm_P G kR 740 M H := hM
    refine mm_ifneZ (tgt := 18) C dX7_whyNot_13 (by decide) (fun c6 => ?_) (fun c6 => ?_)
    · have heq := if_t c6 heq
      refine lv_aload_n hx hb dX7_whyNot_18 rfl (lv_at hl 0 rfl) ?_
      refine lv_iload_n hx hb dX7_whyNot_19 rfl (lv_at hl 2 rfl) ?_
      refine lv_iconst (v := 3) hx hb dX7_whyNot_20 (by decide) ?_
      obtain ⟨r8, e7, heq⟩ := bn_of heq
      refine mm_ki hS (mm_runV (rest := []) C hM hS (tX7_ofP l G M x2 3 r8 e7) (uX7_58 _ (Nat.le_of_ble_eq_true rfl) (Nat.le_of_ble_eq_true rfl)) (mm_recv C hM (kl (rfl : kT 731 = (6, 0))) (ci := 6) rfl (mm_e6 (rfl : kT 731 = (6, 0)))) hl.1 rfl rfl (Nat.le_of_ble_eq_true rfl) ⟨Nat.zero_le _, Nat.zero_le _⟩ dX7_whyNot_21) (fun H locs hM hS => ?_)
      have hM : mm_P G kR 740 M H := hM
      refine lv_istore_n (lv' := [(3, .int r8), (0, .ref (mm_lo G + 731)), (1, .int x1), (2, .int x2)]) hx hb dX7_whyNot_24 rfl hl (by decide) rfl (fun ls hl => ?_)
      refine lv_iload_n hx hb dX7_whyNot_25 rfl (lv_at hl 0 rfl) ?_
      refine lv_if_lt (tgt := 38) hx hb dX7_whyNot_26 (by decide) (fun c9 => ?_) (fun c9 => ?_)
      · have heq := if_t c9 heq
        exact tX7_whyNot_38 C x1 x2 M _ _ _ hM hS (lv_sub hl [1, 2, 3] rfl) heq
      · have heq := if_f c9 heq
        refine lv_iload_n hx hb dX7_whyNot_29 rfl (lv_at hl 0 rfl) ?_
        refine lv_iload_n hx hb dX7_whyNot_30 rfl (lv_at hl 2 rfl) ?_
        refine lv_icmp_eq (tgt := 38) hx hb dX7_whyNot_31 (by decide) (fun c10 => ?_) (fun c10 => ?_)
        · have heq := if_t c10 heq
          exact tX7_whyNot_38 C x1 x2 M _ _ _ hM hS (lv_sub hl [1, 2, 3] rfl) heq
        · have heq := if_f c10 heq
          refine lv_iconst (v := 1) hx hb dX7_whyNot_34 (by decide) ?_
          refine lv_goto (tgt := 52) hx hb dX7_whyNot_35 (by decide) ?_
          cases heq
          exact mm_iret C hM hS dX7_whyNot_52
    · have heq := if_f c6 heq
      refine lv_iconst (v := (-1)) hx hb dX7_whyNot_16 (by decide) ?_
      cases heq
      exact mm_iret C hM hS dX7_whyNot_17

set_option maxRecDepth 100000 in
set_option maxHeartbeats 4000000 in
theorem tX7_put__86 (C : mm_C G p s m args meth c RX7 cX7_put_ 7 (some .int)) (x1 : Int64) {r : Int32} {M9 : mm_M} : ∀ n : Nat, ∀ (M : mm_M) (v3 : Int32) (v6 : Int32) (H : Heap) (locs : List Loc) (ls : Array Slot), mm_P G kR 740 M H → va_S (mm_A G) s.heap H locs → lv_has ls 7 [(0, .ref (mm_lo G + 731)), (1, .long x1), (3, .int v3), (6, .int v6)] → fX7_put__86 x1 n M v3 v6 = some (r, M9) → W p l e rmX7_put_ s m args below meth c H locs 0 0 (MQ below (mm_Qi G r (kR, 740, M9)) args s 0 0 (mm_A G)) (F0 m 86 ls []) := by
  obtain ⟨hx, hb, -, -, -, -, -, -, hZ, -⟩ := id C
  intro n
  induction n with
  | zero =>
    intro M v3 v6 H locs ls hM hS hl heq
    rw [fX7_put__86] at heq
    cases heq
  | succ n ih =>
    intro M v3 v6 H locs ls hM hS hl heq
    rw [fX7_put__86] at heq
    refine lv_iload hx hb dX7_put__86 (lv_at hl 3 rfl) ?_
    refine lv_iload_n hx hb dX7_put__88 rfl (lv_at hl 2 rfl) ?_
    refine lv_icmp_ge (tgt := 126) hx hb dX7_put__89 (by decide) (fun c1 => ?_) (fun c1 => ?_)
    · have heq := if_t c1 heq
      refine lv_aload_n hx hb dX7_put__126 rfl (lv_at hl 0 rfl) ?_
      refine lv_dup hx hb dX7_put__127 rfl ?_
      refine gX7_179 C hM (kl (rfl : kT 731 = (6, 0))) (rfl : kT 731 = (6, 0)) dX7_put__128 ?_
      refine lv_iload_n hx hb dX7_put__131 rfl (lv_at hl 2 rfl) ?_
      refine lv_iadd hx hb dX7_put__132 ?_
      refine pX7_179 C hM hS (kl (rfl : kT 731 = (6, 0))) (rfl : kT 731 = (6, 0)) dX7_put__133 (fun H locs hM hS _ => ?_)
      obtain ⟨M2, eM2⟩ : ∃ z : mm_M, z = sI M 731 7 ((M.1 731 7) + v3) := ⟨_, rfl⟩
      rw [← eM2] at hM
      have heq := lt_to eM2 heq
      refine lv_aload_n hx hb dX7_put__136 rfl (lv_at hl 0 rfl) ?_
      refine gX7_179 C hM (kl (rfl : kT 731 = (6, 0))) (rfl : kT 731 = (6, 0)) dX7_put__137 ?_
      cases heq
      exact mm_iret C hM hS dX7_put__140
    · have heq := if_f c1 heq
      refine lv_aload_n hx hb dX7_put__92 rfl (lv_at hl 0 rfl) ?_
      refine gX7_26 C hM (kl (rfl : kT 731 = (6, 0))) (rfl : kT 731 = (6, 0)) (rfl : kR 731 6 = some 737) dX7_put__93 ?_
      refine lv_aload_n hx hb dX7_put__96 rfl (lv_at hl 0 rfl) ?_
      refine gX7_179 C hM (kl (rfl : kT 731 = (6, 0))) (rfl : kT 731 = (6, 0)) dX7_put__97 ?_
      refine lv_iload hx hb dX7_put__100 (lv_at hl 3 rfl) ?_
      refine lv_iadd hx hb dX7_put__102 ?_
      refine lv_lload_n hx hb dX7_put__103 rfl (lv_at hl 1 rfl) ?_
      refine lv_bipush (v := 8) hx hb dX7_put__104 (by decide) ?_
      refine lv_iload_n hx hb dX7_put__106 rfl (lv_at hl 2 rfl) ?_
      refine lv_iconst (v := 1) hx hb dX7_put__107 (by decide) ?_
      refine lv_isub hx hb dX7_put__108 ?_
      refine lv_iload hx hb dX7_put__109 (lv_at hl 3 rfl) ?_
      refine lv_isub hx hb dX7_put__111 ?_
      refine lv_imul hx hb dX7_put__112 ?_
      refine lv_lshr hx hb dX7_put__113 rfl ?_
      refine mm_ldc2 C kX7_191 dX7_put__114 ?_
      refine lv_land hx hb dX7_put__117 ?_
      refine lv_l2i hx hb dX7_put__118 rfl ?_
      obtain ⟨g3, heq⟩ := gd_of heq
      refine mm_istk C hM hS (kl (rfl : kT 737 = (8, 80))) (rfl : kT 737 = (8, 80)) (vp_in_of2 g3) rfl dX7_put__119 (fun H locs hM hS _ => ?_)
      obtain ⟨M4, eM4⟩ : ∃ z : mm_M, z = sI M 737 ((M.1 731 7) + v6).toNatClampNeg (((x1 >>> ((8 * ((v3 - 1) - v6)).toInt64 &&& 63)) &&& (255 : Int64)).toInt32) := ⟨_, rfl⟩
      rw [← eM4] at hM
      have heq := lt_to eM4 heq
      obtain ⟨y5, ey5⟩ : ∃ y : Int32, y = (v6 + 1) := ⟨_, rfl⟩
      have heq := lt_to ey5 heq
      refine lv_iinc (v := y5) (lv' := [(6, .int y5), (0, .ref (mm_lo G + 731)), (1, .long x1), (3, .int v3)]) hx hb dX7_put__120 hl (k := 3) rfl (by rw [ey5]; rfl) (by decide) rfl (fun ls hl => ?_)
      refine lv_goto (tgt := 86) hx hb dX7_put__123 (by decide) ?_
      exact ih _ _ _ _ _ _ hM hS (lv_sub hl [1, 2, 3, 0] rfl) heq

set_option maxRecDepth 100000 in
set_option maxHeartbeats 4000000 in
theorem tX7_put__55 (C : mm_C G p s m args meth c RX7 cX7_put_ 7 (some .int)) (x1 : Int64) {r : Int32} {M9 : mm_M} : ∀ (M : mm_M) (v3 : Int32) (v4 : Int64) (H : Heap) (locs : List Loc) (ls : Array Slot), mm_P G kR 740 M H → va_S (mm_A G) s.heap H locs → lv_has ls 7 [(0, .ref (mm_lo G + 731)), (1, .long x1), (3, .int v3), (4, .long v4)] → fX7_put__55 x1 M v3 v4 = some (r, M9) → W p l e rmX7_put_ s m args below meth c H locs 0 0 (MQ below (mm_Qi G r (kR, 740, M9)) args s 0 0 (mm_A G)) (F0 m 55 ls []) := by
  obtain ⟨hx, hb, -, -, -, -, -, -, hZ, -⟩ := id C
  intro M v3 v4 H locs ls hM hS hl heq
  rw [fX7_put__55] at heq
  refine lv_iload_n hx hb dX7_put__55 rfl (lv_at hl 2 rfl) ?_
  refine lv_if_eq (tgt := 66) hx hb dX7_put__56 (by decide) (fun c1 => ?_) (fun c1 => ?_)
  · have heq := if_t c1 heq
    refine lv_bipush (v := (-2)) hx hb dX7_put__66 (by decide) ?_
    cases heq
    exact mm_iret C hM hS dX7_put__68
  · have heq := if_f c1 heq
    refine lv_lload hx hb dX7_put__59 (lv_at hl 3 rfl) ?_
    refine lv_lconst (v := 0) hx hb dX7_put__61 (by decide) ?_
    refine W.lcmp hx hb dX7_put__62 ?_
    refine lv_if_eq (tgt := 69) hx hb dX7_put__63 (by decide) (fun c2 => ?_) (fun c2 => ?_)
    · have heq := if_t c2 heq
      refine lv_aload_n hx hb dX7_put__69 rfl (lv_at hl 0 rfl) ?_
      refine gX7_179 C hM (kl (rfl : kT 731 = (6, 0))) (rfl : kT 731 = (6, 0)) dX7_put__70 ?_
      refine lv_iload_n hx hb dX7_put__73 rfl (lv_at hl 2 rfl) ?_
      refine lv_iadd hx hb dX7_put__74 ?_
      refine lv_bipush (v := 80) hx hb dX7_put__75 (by decide) ?_
      refine lv_icmp_le (tgt := 83) hx hb dX7_put__77 (by decide) (fun c3 => ?_) (fun c3 => ?_)
      · have heq := if_t c3 heq
        refine lv_iconst (v := 0) hx hb dX7_put__83 (by decide) ?_
        refine lv_istore (lv' := [(6, .int 0), (0, .ref (mm_lo G + 731)), (1, .long x1), (3, .int v3), (4, .long v4)]) hx hb dX7_put__84 hl (by decide) rfl (fun ls hl => ?_)
        exact tX7_put__86 C x1 FU _ _ _ _ _ _ hM hS (lv_sub hl [1, 2, 3, 0] rfl) heq
      · have heq := if_f c3 heq
        refine lv_bipush (v := (-4)) hx hb dX7_put__80 (by decide) ?_
        cases heq
        exact mm_iret C hM hS dX7_put__82
    · have heq := if_f c2 heq
      refine lv_bipush (v := (-2)) hx hb dX7_put__66 (by decide) ?_
      cases heq
      exact mm_iret C hM hS dX7_put__68

set_option maxRecDepth 100000 in
set_option maxHeartbeats 4000000 in
theorem tX7_put__5 (C : mm_C G p s m args meth c RX7 cX7_put_ 7 (some .int)) (x1 : Int64) {r : Int32} {M9 : mm_M} : ∀ n : Nat, ∀ (M : mm_M) (v3 : Int32) (v4 : Int64) (H : Heap) (locs : List Loc) (ls : Array Slot), mm_P G kR 740 M H → va_S (mm_A G) s.heap H locs → lv_has ls 7 [(0, .ref (mm_lo G + 731)), (1, .long x1), (3, .int v3), (4, .long v4)] → fX7_put__5 x1 n M v3 v4 = some (r, M9) → W p l e rmX7_put_ s m args below meth c H locs 0 0 (MQ below (mm_Qi G r (kR, 740, M9)) args s 0 0 (mm_A G)) (F0 m 5 ls []) := by
  obtain ⟨hx, hb, -, -, -, -, -, -, hZ, -⟩ := id C
  intro n
  induction n with
  | zero =>
    intro M v3 v4 H locs ls hM hS hl heq
    rw [fX7_put__5] at heq
    cases heq
  | succ n ih =>
    intro M v3 v4 H locs ls hM hS hl heq
    rw [fX7_put__5] at heq
    refine lv_iload_n hx hb dX7_put__5 rfl (lv_at hl 2 rfl) ?_
    refine lv_bipush (v := 8) hx hb dX7_put__6 (by decide) ?_
    refine lv_icmp_ge (tgt := 55) hx hb dX7_put__8 (by decide) (fun c1 => ?_) (fun c1 => ?_)
    · have heq := if_t c1 heq
      exact tX7_put__55 C x1 _ _ _ _ _ _ hM hS (lv_sub hl [0, 1, 2, 3] rfl) heq
    · have heq := if_f c1 heq
      refine lv_lload hx hb dX7_put__11 (lv_at hl 3 rfl) ?_
      refine mm_ldc2 C kX7_191 dX7_put__13 ?_
      refine lv_land hx hb dX7_put__16 ?_
      refine lv_lconst (v := 0) hx hb dX7_put__17 (by decide) ?_
      refine W.lcmp hx hb dX7_put__18 ?_
      refine lv_if_eq (tgt := 55) hx hb dX7_put__19 (by decide) (fun c2 => ?_) (fun c2 => ?_)
      · have heq := if_t c2 heq
        exact tX7_put__55 C x1 _ _ _ _ _ _ hM hS (lv_sub hl [0, 1, 2, 3] rfl) heq
      · have heq := if_f c2 heq
        refine lv_lload hx hb dX7_put__22 (lv_at hl 3 rfl) ?_
        refine mm_ldc2 C kX7_191 dX7_put__24 ?_
        refine lv_land hx hb dX7_put__27 ?_
        refine lv_l2i hx hb dX7_put__28 rfl ?_
        refine lv_bipush (v := 33) hx hb dX7_put__29 (by decide) ?_
        refine lv_bipush (v := 126) hx hb dX7_put__31 (by decide) ?_
        obtain ⟨r4, e3, heq⟩ := bn_of heq
        refine mm_ki hS (mm_runS (rest := []) C hM hS (tX7_in l G M ((v4 &&& (255 : Int64)).toInt32) 33 126 r4 e3) (uX7_35 _ (Nat.le_of_ble_eq_true rfl) (Nat.le_of_ble_eq_true rfl)) hl.1 rfl rfl (Nat.le_of_ble_eq_true rfl) ⟨Nat.zero_le _, Nat.zero_le _⟩ dX7_put__33) (fun H locs hM hS => ?_)
        have hM : mm_P G kR 740 M H := hM
        refine mm_ifneZ (tgt := 42) C dX7_put__36 (by decide) (fun c5 => ?_) (fun c5 => ?_)
        · have heq := if_t c5 heq
          obtain ⟨y6, ey6⟩ : ∃ y : Int32, y = (v3 + 1) := ⟨_, rfl⟩
          have heq := lt_to ey6 heq
          refine lv_iinc (v := y6) (lv' := [(3, .int y6), (0, .ref (mm_lo G + 731)), (1, .long x1), (4, .long v4)]) hx hb dX7_put__42 hl (k := 2) rfl (by rw [ey6]; rfl) (by decide) rfl (fun ls hl => ?_)
          refine lv_lload hx hb dX7_put__45 (lv_at hl 3 rfl) ?_
          refine lv_bipush (v := 8) hx hb dX7_put__47 (by decide) ?_
          refine lv_lushr hx hb dX7_put__49 rfl ?_
          refine lv_topl (fun y7 ey7 => ?_)
          have heq := lt_to ey7 heq
          refine lv_lstore (lv' := [(4, .long y7), (3, .int y6), (0, .ref (mm_lo G + 731)), (1, .long x1)]) hx hb dX7_put__50 hl (by decide) rfl (fun ls hl => ?_)
          refine lv_goto (tgt := 5) hx hb dX7_put__52 (by decide) ?_
          exact ih _ _ _ _ _ _ hM hS (lv_sub hl [2, 3, 1, 0] rfl) heq
        · have heq := if_f c5 heq
          refine lv_bipush (v := (-2)) hx hb dX7_put__39 (by decide) ?_
          cases heq
          exact mm_iret C hM hS dX7_put__41

set_option maxRecDepth 100000 in
set_option maxHeartbeats 4000000 in
theorem tX7_put_ (l : Launch) (G : mm_G) (M : mm_M) (x1 : Int64) (r : Int32) (M9 : mm_M) (heq : fX7_put_ M x1 = some (r, M9)) : Met l yX7_put_ (mm_ws yX7_put_ cX7_put_ 7 (some .int)) rmX7_put_ (va_Pc [.ref (mm_lo G + 731), .long x1] (mm_B G (kR, 740, M))) (mm_Qi G r (kR, 740, M9)) 0 0 (mm_A G) := by
  refine mm_met (cc := cX7_put_) (nL := 7) (ret := (some .int)) plRX7 (Nat.le_of_ble_eq_true rfl) ?_
  intro p e s m below meth c ls hin C hM hS hl
  have C : mm_C G p s m _ meth c RX7 cX7_put_ 7 (some .int) := C
  have hM : mm_P G kR 740 M s.heap := hM
  have hl : lv_has ls 7 [(0, .ref (mm_lo G + 731)), (1, .long x1)] := hl
  obtain ⟨hx, hb, -, -, -, -, -, -, hZ, -⟩ := id C
  rw [fX7_put_] at heq
  refine lv_iconst (v := 0) hx hb dX7_put__0 (by decide) ?_
  refine lv_istore_n (lv' := [(3, .int 0), (0, .ref (mm_lo G + 731)), (1, .long x1)]) hx hb dX7_put__1 rfl hl (by decide) rfl (fun ls hl => ?_)
  refine lv_lload_n hx hb dX7_put__2 rfl (lv_at hl 2 rfl) ?_
  refine lv_lstore (lv' := [(4, .long x1), (3, .int 0), (0, .ref (mm_lo G + 731)), (1, .long x1)]) hx hb dX7_put__3 hl (by decide) rfl (fun ls hl => ?_)
  exact tX7_put__5 C x1 FU _ _ _ _ _ _ hM hS (lv_sub hl [2, 3, 1, 0] rfl) heq
end WALK
