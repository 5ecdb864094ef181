section WALK
variable {p : Program} {l : Launch} {e : Env} {s : State} {m : MethodId} {args : Array Value} {below : List Frame} {meth : Method} {c : Code} {G : mm_G}
set_option maxRecDepth 100000 in
set_option maxHeartbeats 4000000 in
theorem tX7_wipe (l : Launch) (G : mm_G) (M : mm_M)  (r : Int32) (M9 : mm_M) (heq : fX7_wipe M = some (r, M9)) : Met l yX7_wipe (mm_ws yX7_wipe cX7_wipe 2 (some .int)) rmX7_wipe (va_Pc [.ref (mm_lo G + 731)] (mm_B G (kR, 740, M))) (mm_Qi G r (kR, 740, M9)) 0 0 (mm_A G) := by
  refine mm_met (cc := cX7_wipe) (nL := 2) (ret := (some .int)) plRX7 (Nat.le_of_ble_eq_true rfl) ?_
  intro p e s m below meth c ls hin C hM hS hl
  have C : mm_C G p s m _ meth c RX7 cX7_wipe 2 (some .int) := C
  have hM : mm_P G kR 740 M s.heap := hM
  have hl : lv_has ls 2 [(0, .ref (mm_lo G + 731))] := hl
  obtain ⟨hx, hb, -, -, -, -, -, -, hZ, -⟩ := id C
  rw [fX7_wipe] at heq
  refine lv_aload_n hx hb dX7_wipe_0 rfl (lv_at hl 0 rfl) ?_
  refine gX7_179 C hM (kl (rfl : kT 731 = (6, 0))) (rfl : kT 731 = (6, 0)) dX7_wipe_1 ?_
  refine lv_topi (fun y1 ey1 => ?_)
  have heq := lt_to ey1 heq
  refine lv_istore_n (lv' := [(1, .int y1), (0, .ref (mm_lo G + 731))]) hx hb dX7_wipe_4 rfl hl (by decide) rfl (fun ls hl => ?_)
  refine lv_aload_n hx hb dX7_wipe_5 rfl (lv_at hl 1 rfl) ?_
  refine lv_iconst (v := 0) hx hb dX7_wipe_6 (by decide) ?_
  refine pX7_179 C hM hS (kl (rfl : kT 731 = (6, 0))) (rfl : kT 731 = (6, 0)) dX7_wipe_7 (fun H locs hM hS _ => ?_)
  obtain ⟨M2, eM2⟩ : ∃ z : mm_M, z = sI M 731 7 0 := ⟨_, rfl⟩
  rw [← eM2] at hM
  have heq := lt_to eM2 heq
  refine lv_iload_n hx hb dX7_wipe_10 rfl (lv_at hl 0 rfl) ?_
  cases heq
  exact mm_iret C hM hS dX7_wipe_11

set_option maxRecDepth 100000 in
set_option maxHeartbeats 4000000 in
theorem tX7_next (l : Launch) (G : mm_G) (M : mm_M)  (r : Int32) (heq : fX7_next M = some r) : Met l yX7_next (mm_ws yX7_next cX7_next 1 (some .int)) rmX7_next (va_Pc [.ref (mm_lo G + 731)] (mm_B G (kR, 740, M))) (mm_Qi G r (kR, 740, M)) 0 0 (mm_A G) := by
  refine mm_met (cc := cX7_next) (nL := 1) (ret := (some .int)) plRX7 (Nat.le_of_ble_eq_true rfl) ?_
  intro p e s m below meth c ls hin C hM hS hl
  have C : mm_C G p s m _ meth c RX7 cX7_next 1 (some .int) := C
  have hM : mm_P G kR 740 M s.heap := hM
  have hl : lv_has ls 1 [(0, .ref (mm_lo G + 731))] := hl
  obtain ⟨hx, hb, -, -, -, -, -, -, hZ, -⟩ := id C
  rw [fX7_next] at heq
  refine lv_aload_n hx hb dX7_next_0 rfl (lv_at hl 0 rfl) ?_
  refine gX7_193 C hM (kl (rfl : kT 731 = (6, 0))) (rfl : kT 731 = (6, 0)) dX7_next_1 ?_
  refine lv_aload_n hx hb dX7_next_4 rfl (lv_at hl 0 rfl) ?_
  refine gX7_179 C hM (kl (rfl : kT 731 = (6, 0))) (rfl : kT 731 = (6, 0)) dX7_next_5 ?_
  refine lv_icmp_ge (tgt := 23) hx hb dX7_next_8 (by decide) (fun c1 => ?_) (fun c1 => ?_)
  · have heq := if_t c1 heq
    refine lv_iconst (v := 0) hx hb dX7_next_23 (by decide) ?_
    cases heq
    exact mm_iret C hM hS dX7_next_24
  · have heq := if_f c1 heq
    refine lv_aload_n hx hb dX7_next_11 rfl (lv_at hl 0 rfl) ?_
    refine gX7_26 C hM (kl (rfl : kT 731 = (6, 0))) (rfl : kT 731 = (6, 0)) (rfl : kR 731 6 = some 737) dX7_next_12 ?_
    refine lv_aload_n hx hb dX7_next_15 rfl (lv_at hl 0 rfl) ?_
    refine gX7_193 C hM (kl (rfl : kT 731 = (6, 0))) (rfl : kT 731 = (6, 0)) dX7_next_16 ?_
    obtain ⟨g2, heq⟩ := gd_of heq
    refine mm_ildk C hM (kl (rfl : kT 737 = (8, 80))) (rfl : kT 737 = (8, 80)) (vp_in_of2 g2) rfl dX7_next_19 ?_
    refine lv_goto (tgt := 24) hx hb dX7_next_20 (by decide) ?_
    cases heq
    exact mm_iret C hM hS dX7_next_24

set_option maxRecDepth 100000 in
set_option maxHeartbeats 4000000 in
theorem tX7_takeOne_25 (C : mm_C G p s m args meth c RX7 cX7_takeOne 4 none) (x1 : Int32) (x2 : Int32) (x3 : Int32) {M9 : mm_M} : ∀ (M : mm_M) (t1 : Bool) (H : Heap) (locs : List Loc) (ls : Array Slot), mm_P G kR 740 M H → va_S (mm_A G) s.heap H locs → lv_has ls 4 [(0, .ref (mm_lo G + 731)), (1, .int x1), (2, .int x2)] → fX7_takeOne_25 x1 x2 x3 M t1 = some M9 → W p l e rmX7_takeOne s m args below meth c H locs 0 0 (MQ below (mm_Qv G (kR, 740, M9)) args s 0 0 (mm_A G)) (F0 m 25 ls [.int (b2i t1), .ref (mm_lo G + 731)]) := by
  obtain ⟨hx, hb, -, -, -, -, -, -, hZ, -⟩ := id C
  intro M t1 H locs ls hM hS hl heq
  rw [fX7_takeOne_25] at heq
  refine pX7_196 C hM hS (kl (rfl : kT 731 = (6, 0))) (rfl : kT 731 = (6, 0)) (b2i_01 t1) dX7_takeOne_25 (fun H locs hM hS _ => ?_)
  obtain ⟨M1, eM1⟩ : ∃ z : mm_M, z = sI M 731 11 (b2i t1) := ⟨_, rfl⟩
  rw [← eM1] at hM
  have heq := lt_to eM1 heq
  refine lv_aload_n hx hb dX7_takeOne_28 rfl (lv_at hl 0 rfl) ?_
  refine gX7_196 C hM (kl (rfl : kT 731 = (6, 0))) (rfl : kT 731 = (6, 0)) dX7_takeOne_29 ?_
  refine lv_if_ne (tgt := 64) hx hb dX7_takeOne_32 (by decide) (fun c2 => ?_) (fun c2 => ?_)
  · have heq := if_f c2 heq
    cases heq
    exact mm_vret C hM hS dX7_takeOne_64
  · have heq := if_t c2 heq
    refine lv_aload_n hx hb dX7_takeOne_35 rfl (lv_at hl 0 rfl) ?_
    refine gX7_32 C hM (kl (rfl : kT 731 = (6, 0))) (rfl : kT 731 = (6, 0)) (rfl : kR 731 14 = some 739) dX7_takeOne_36 ?_
    refine lv_iconst (v := 4) hx hb dX7_takeOne_39 (by decide) ?_
    refine lv_aload_n hx hb dX7_takeOne_40 rfl (lv_at hl 0 rfl) ?_
    refine gX7_203 C hM (kl (rfl : kT 731 = (6, 0))) (rfl : kT 731 = (6, 0)) dX7_takeOne_41 ?_
    refine lv_imul hx hb dX7_takeOne_44 ?_
    refine lv_iload_n hx hb dX7_takeOne_45 rfl (lv_at hl 1 rfl) ?_
    refine lv_iadd hx hb dX7_takeOne_46 ?_
    refine lv_aload_n hx hb dX7_takeOne_47 rfl (lv_at hl 0 rfl) ?_
    obtain ⟨r4, e3, heq⟩ := bn_of heq
    refine mm_ki hS (mm_runV (rest := [.int ((4 * (M1.1 731 12)) + x1), .ref (mm_lo G + 739)]) C hM hS (tX7_next l G M1 r4 e3) (uX7_200 _ (Nat.le_of_ble_eq_true rfl) (Nat.le_of_ble_eq_true rfl)) (mm_recv C hM (kl (rfl : kT 731 = (6, 0))) (ci := 6) rfl (mm_e6 (rfl : kT 731 = (6, 0)))) hl.1 rfl rfl (Nat.le_of_ble_eq_true rfl) ⟨Nat.zero_le _, Nat.zero_le _⟩ dX7_takeOne_48) (fun H locs hM hS => ?_)
    have hM : mm_P G kR 740 M1 H := hM
    refine lv_iload_n hx hb dX7_takeOne_51 rfl (lv_at hl 2 rfl) ?_
    refine lv_isub hx hb dX7_takeOne_52 ?_
    obtain ⟨g5, heq⟩ := gd_of heq
    refine mm_istk C hM hS (kl (rfl : kT 739 = (8, 116))) (rfl : kT 739 = (8, 116)) (vp_in_of2 g5) rfl dX7_takeOne_53 (fun H locs hM hS _ => ?_)
    obtain ⟨M6, eM6⟩ : ∃ z : mm_M, z = sI M1 739 ((4 * (M1.1 731 12)) + x1).toNatClampNeg (r4 - x2) := ⟨_, rfl⟩
    rw [← eM6] at hM
    have heq := lt_to eM6 heq
    refine lv_aload_n hx hb dX7_takeOne_54 rfl (lv_at hl 0 rfl) ?_
    refine lv_dup hx hb dX7_takeOne_55 rfl ?_
    refine gX7_193 C hM (kl (rfl : kT 731 = (6, 0))) (rfl : kT 731 = (6, 0)) dX7_takeOne_56 ?_
    refine lv_iconst (v := 1) hx hb dX7_takeOne_59 (by decide) ?_
    refine lv_iadd hx hb dX7_takeOne_60 ?_
    refine pX7_193 C hM hS (kl (rfl : kT 731 = (6, 0))) (rfl : kT 731 = (6, 0)) dX7_takeOne_61 (fun H locs hM hS _ => ?_)
    obtain ⟨M7, eM7⟩ : ∃ z : mm_M, z = sI M6 731 10 ((M6.1 731 10) + 1) := ⟨_, rfl⟩
    rw [← eM7] at hM
    have heq := lt_to eM7 heq
    cases heq
    exact mm_vret C hM hS dX7_takeOne_64

set_option maxRecDepth 100000 in
set_option maxHeartbeats 4000000 in
theorem tX7_takeOne_20 (C : mm_C G p s m args meth c RX7 cX7_takeOne 4 none) (x1 : Int32) (x2 : Int32) (x3 : Int32) {M9 : mm_M} : ∀ (M : mm_M) (H : Heap) (locs : List Loc) (ls : Array Slot), mm_P G kR 740 M H → va_S (mm_A G) s.heap H locs → lv_has ls 4 [(0, .ref (mm_lo G + 731)), (1, .int x1), (2, .int x2)] → fX7_takeOne_20 x1 x2 x3 M = some M9 → W p l e rmX7_takeOne s m args below meth c H locs 0 0 (MQ below (mm_Qv G (kR, 740, M9)) args s 0 0 (mm_A G)) (F0 m 20 ls [.ref (mm_lo G + 731)]) := by
  obtain ⟨hx, hb, -, -, -, -, -, -, hZ, -⟩ := id C
  intro M H locs ls hM hS hl heq
  rw [fX7_takeOne_20] at heq
  refine lv_iconst (v := 1) hx hb dX7_takeOne_20 (by decide) ?_
  refine lv_goto (tgt := 25) hx hb dX7_takeOne_21 (by decide) ?_
  exact tX7_takeOne_25 C x1 x2 x3 _ _ _ _ _ hM hS (lv_sub hl [0, 1, 2] rfl) heq

set_option maxRecDepth 100000 in
set_option maxHeartbeats 4000000 in
theorem tX7_takeOne (l : Launch) (G : mm_G) (M : mm_M) (x1 : Int32) (x2 : Int32) (x3 : Int32) (M9 : mm_M) (heq : fX7_takeOne M x1 x2 x3 = some M9) : Met l yX7_takeOne (mm_ws yX7_takeOne cX7_takeOne 4 none) rmX7_takeOne (va_Pc [.ref (mm_lo G + 731), .int x1, .int x2, .int x3] (mm_B G (kR, 740, M))) (mm_Qv G (kR, 740, M9)) 0 0 (mm_A G) := by
  refine mm_met (cc := cX7_takeOne) (nL := 4) (ret := none) plRX7 (Nat.le_of_ble_eq_true rfl) ?_
  intro p e s m below meth c ls hin C hM hS hl
  have C : mm_C G p s m _ meth c RX7 cX7_takeOne 4 none := C
  have hM : mm_P G kR 740 M s.heap := hM
  have hl : lv_has ls 4 [(0, .ref (mm_lo G + 731)), (1, .int x1), (2, .int x2), (3, .int x3)] := hl
  obtain ⟨hx, hb, -, -, -, -, -, -, hZ, -⟩ := id C
  rw [fX7_takeOne] at heq
  refine lv_aload_n hx hb dX7_takeOne_0 rfl (lv_at hl 0 rfl) ?_
  refine lv_aload_n hx hb dX7_takeOne_1 rfl (lv_at hl 0 rfl) ?_
  refine gX7_196 C hM (kl (rfl : kT 731 = (6, 0))) (rfl : kT 731 = (6, 0)) dX7_takeOne_2 ?_
  refine lv_if_ne (tgt := 20) hx hb dX7_takeOne_5 (by decide) (fun c1 => ?_) (fun c1 => ?_)
  · have heq := if_f c1 heq
    exact tX7_takeOne_20 C x1 x2 x3 _ _ _ _ hM hS (lv_sub hl [0, 1, 2] rfl) heq
  · have heq := if_t c1 heq
    refine lv_aload_n hx hb dX7_takeOne_8 rfl (lv_at hl 0 rfl) ?_
    obtain ⟨r3, e2, heq⟩ := bn_of heq
    refine mm_ki hS (mm_runV (rest := [.ref (mm_lo G + 731)]) C hM hS (tX7_next l G M r3 e2) (uX7_200 _ (Nat.le_of_ble_eq_true rfl) (Nat.le_of_ble_eq_true rfl)) (mm_recv C hM (kl (rfl : kT 731 = (6, 0))) (ci := 6) rfl (mm_e6 (rfl : kT 731 = (6, 0)))) hl.1 rfl rfl (Nat.le_of_ble_eq_true rfl) ⟨Nat.zero_le _, Nat.zero_le _⟩ dX7_takeOne_9) (fun H locs hM hS => ?_)
    have hM : mm_P G kR 740 M H := hM
    refine lv_iload_n hx hb dX7_takeOne_12 rfl (lv_at hl 2 rfl) ?_
    refine lv_iload_n hx hb dX7_takeOne_13 rfl (lv_at hl 3 rfl) ?_
    obtain ⟨r5, e4, heq⟩ := bn_of heq
    refine mm_ki hS (mm_runS (rest := [.ref (mm_lo G + 731)]) C hM hS (tX7_in l G M r3 x2 x3 r5 e4) (uX7_35 _ (Nat.le_of_ble_eq_true rfl) (Nat.le_of_ble_eq_true rfl)) hl.1 rfl rfl (Nat.le_of_ble_eq_true rfl) ⟨Nat.zero_le _, Nat.zero_le _⟩ dX7_takeOne_14) (fun H locs hM hS => ?_)
    have hM : mm_P G kR 740 M H := hM
    refine mm_ifneZ (tgt := 24) C dX7_takeOne_17 (by decide) (fun c6 => ?_) (fun c6 => ?_)
    · have heq := if_t c6 heq
      refine lv_iconst (v := 0) hx hb dX7_takeOne_24 (by decide) ?_
      exact tX7_takeOne_25 C x1 x2 x3 _ _ _ _ _ hM hS (lv_sub hl [0, 1, 2] rfl) heq
    · have heq := if_f c6 heq
      exact tX7_takeOne_20 C x1 x2 x3 _ _ _ _ hM hS (lv_sub hl [0, 1, 2] rfl) heq

set_option maxRecDepth 100000 in
set_option maxHeartbeats 4000000 in
theorem tX7_takeNumber (l : Launch) (G : mm_G) (M : mm_M)  (M9 : mm_M) (heq : fX7_takeNumber M = some M9) : Met l yX7_takeNumber (mm_ws yX7_takeNumber cX7_takeNumber 2 none) rmX7_takeNumber (va_Pc [.ref (mm_lo G + 731)] (mm_B G (kR, 740, M))) (mm_Qv G (kR, 740, M9)) 0 0 (mm_A G) := by
  refine mm_met (cc := cX7_takeNumber) (nL := 2) (ret := none) plRX7 (Nat.le_of_ble_eq_true rfl) ?_
  intro p e s m below meth c ls hin C hM hS hl
  have C : mm_C G p s m _ meth c RX7 cX7_takeNumber 2 none := C
  have hM : mm_P G kR 740 M s.heap := hM
  have hl : lv_has ls 2 [(0, .ref (mm_lo G + 731))] := hl
  obtain ⟨hx, hb, -, -, -, -, -, -, hZ, -⟩ := id C
  rw [fX7_takeNumber] at heq
  refine lv_aload_n hx hb dX7_takeNumber_0 rfl (lv_at hl 0 rfl) ?_
  refine lv_iconst (v := 0) hx hb dX7_takeNumber_1 (by decide) ?_
  refine lv_bipush (v := 48) hx hb dX7_takeNumber_2 (by decide) ?_
  refine lv_bipush (v := 57) hx hb dX7_takeNumber_4 (by decide) ?_
  obtain ⟨M2, e1, heq⟩ := bn_of heq
  refine mm_kv hS (mm_runV (rest := []) C hM hS (tX7_takeOne l G M 0 48 57 M2 e1) (uX7_206 _ (Nat.le_of_ble_eq_true rfl) (Nat.le_of_ble_eq_true rfl)) (mm_recv C hM (kl (rfl : kT 731 = (6, 0))) (ci := 6) rfl (mm_e6 (rfl : kT 731 = (6, 0)))) hl.1 rfl rfl (Nat.le_of_ble_eq_true rfl) ⟨Nat.zero_le _, Nat.zero_le _⟩ dX7_takeNumber_6) (fun H locs hM hS => ?_)
  have hM : mm_P G kR 740 M2 H := hM
  refine lv_iconst (v := 4) hx hb dX7_takeNumber_9 (by decide) ?_
  refine lv_aload_n hx hb dX7_takeNumber_10 rfl (lv_at hl 0 rfl) ?_
  refine gX7_203 C hM (kl (rfl : kT 731 = (6, 0))) (rfl : kT 731 = (6, 0)) dX7_takeNumber_11 ?_
  refine lv_imul hx hb dX7_takeNumber_14 ?_
  refine lv_topi (fun y3 ey3 => ?_)
  have heq := lt_to ey3 heq
  refine lv_istore_n (lv' := [(1, .int y3), (0, .ref (mm_lo G + 731))]) hx hb dX7_takeNumber_15 rfl hl (by decide) rfl (fun ls hl => ?_)
  refine lv_aload_n hx hb dX7_takeNumber_16 rfl (lv_at hl 1 rfl) ?_
  refine gX7_196 C hM (kl (rfl : kT 731 = (6, 0))) (rfl : kT 731 = (6, 0)) dX7_takeNumber_17 ?_
  refine lv_if_ne (tgt := 94) hx hb dX7_takeNumber_20 (by decide) (fun c4 => ?_) (fun c4 => ?_)
  · have heq := if_f c4 heq
    cases heq
    exact mm_vret C hM hS dX7_takeNumber_94
  · have heq := if_t c4 heq
    refine lv_aload_n hx hb dX7_takeNumber_23 rfl (lv_at hl 1 rfl) ?_
    refine gX7_32 C hM (kl (rfl : kT 731 = (6, 0))) (rfl : kT 731 = (6, 0)) (rfl : kR 731 14 = some 739) dX7_takeNumber_24 ?_
    refine lv_iload_n hx hb dX7_takeNumber_27 rfl (lv_at hl 0 rfl) ?_
    obtain ⟨g5, heq⟩ := gd_of heq
    refine mm_ildk C hM (kl (rfl : kT 739 = (8, 116))) (rfl : kT 739 = (8, 116)) (vp_in_of2 g5) rfl dX7_takeNumber_28 ?_
    refine lv_if_le (tgt := 94) hx hb dX7_takeNumber_29 (by decide) (fun c6 => ?_) (fun c6 => ?_)
    · have heq := if_t c6 heq
      cases heq
      exact mm_vret C hM hS dX7_takeNumber_94
    · have heq := if_f c6 heq
      refine lv_aload_n hx hb dX7_takeNumber_32 rfl (lv_at hl 1 rfl) ?_
      obtain ⟨r8, e7, heq⟩ := bn_of heq
      refine mm_ki hS (mm_runV (rest := []) C hM hS (tX7_next l G M2 r8 e7) (uX7_200 _ (Nat.le_of_ble_eq_true rfl) (Nat.le_of_ble_eq_true rfl)) (mm_recv C hM (kl (rfl : kT 731 = (6, 0))) (ci := 6) rfl (mm_e6 (rfl : kT 731 = (6, 0)))) hl.1 rfl rfl (Nat.le_of_ble_eq_true rfl) ⟨Nat.zero_le _, Nat.zero_le _⟩ dX7_takeNumber_33) (fun H locs hM hS => ?_)
      have hM : mm_P G kR 740 M2 H := hM
      refine lv_bipush (v := 48) hx hb dX7_takeNumber_36 (by decide) ?_
      refine lv_bipush (v := 57) hx hb dX7_takeNumber_38 (by decide) ?_
      obtain ⟨r10, e9, heq⟩ := bn_of heq
      refine mm_ki hS (mm_runS (rest := []) C hM hS (tX7_in l G M2 r8 48 57 r10 e9) (uX7_35 _ (Nat.le_of_ble_eq_true rfl) (Nat.le_of_ble_eq_true rfl)) hl.1 rfl rfl (Nat.le_of_ble_eq_true rfl) ⟨Nat.zero_le _, Nat.zero_le _⟩ dX7_takeNumber_40) (fun H locs hM hS => ?_)
      have hM : mm_P G kR 740 M2 H := hM
      refine mm_ifeqZ (tgt := 94) C dX7_takeNumber_43 (by decide) (fun c11 => ?_) (fun c11 => ?_)
      · have heq := if_f c11 heq
        cases heq
        exact mm_vret C hM hS dX7_takeNumber_94
      · have heq := if_t c11 heq
        refine lv_aload_n hx hb dX7_takeNumber_46 rfl (lv_at hl 1 rfl) ?_
        refine gX7_32 C hM (kl (rfl : kT 731 = (6, 0))) (rfl : kT 731 = (6, 0)) (rfl : kR 731 14 = some 739) dX7_takeNumber_47 ?_
        refine lv_iload_n hx hb dX7_takeNumber_50 rfl (lv_at hl 0 rfl) ?_
        refine lv_bipush (v := 10) hx hb dX7_takeNumber_51 (by decide) ?_
        refine lv_aload_n hx hb dX7_takeNumber_53 rfl (lv_at hl 1 rfl) ?_
        refine gX7_32 C hM (kl (rfl : kT 731 = (6, 0))) (rfl : kT 731 = (6, 0)) (rfl : kR 731 14 = some 739) dX7_takeNumber_54 ?_
        refine lv_iload_n hx hb dX7_takeNumber_57 rfl (lv_at hl 0 rfl) ?_
        refine mm_ildk C hM (kl (rfl : kT 739 = (8, 116))) (rfl : kT 739 = (8, 116)) (vp_in_of2 g5) rfl dX7_takeNumber_58 ?_
        refine lv_imul hx hb dX7_takeNumber_59 ?_
        refine lv_aload_n hx hb dX7_takeNumber_60 rfl (lv_at hl 1 rfl) ?_
        obtain ⟨r13, e12, heq⟩ := bn_of heq
        refine mm_ki hS (mm_runV (rest := [.int (10 * (M2.1 739 y3.toNatClampNeg)), .int y3, .ref (mm_lo G + 739)]) C hM hS (tX7_next l G M2 r13 e12) (uX7_200 _ (Nat.le_of_ble_eq_true rfl) (Nat.le_of_ble_eq_true rfl)) (mm_recv C hM (kl (rfl : kT 731 = (6, 0))) (ci := 6) rfl (mm_e6 (rfl : kT 731 = (6, 0)))) hl.1 rfl rfl (Nat.le_of_ble_eq_true rfl) ⟨Nat.zero_le _, Nat.zero_le _⟩ dX7_takeNumber_61) (fun H locs hM hS => ?_)
        have hM : mm_P G kR 740 M2 H := hM
        refine lv_iadd hx hb dX7_takeNumber_64 ?_
        refine lv_bipush (v := 48) hx hb dX7_takeNumber_65 (by decide) ?_
        refine lv_isub hx hb dX7_takeNumber_67 ?_
        refine mm_istk C hM hS (kl (rfl : kT 739 = (8, 116))) (rfl : kT 739 = (8, 116)) (vp_in_of2 g5) rfl dX7_takeNumber_68 (fun H locs hM hS _ => ?_)
        obtain ⟨M14, eM14⟩ : ∃ z : mm_M, z = sI M2 739 y3.toNatClampNeg (((10 * (M2.1 739 y3.toNatClampNeg)) + r13) - 48) := ⟨_, rfl⟩
        rw [← eM14] at hM
        have heq := lt_to eM14 heq
        refine lv_aload_n hx hb dX7_takeNumber_69 rfl (lv_at hl 1 rfl) ?_
        refine lv_dup hx hb dX7_takeNumber_70 rfl ?_
        refine gX7_193 C hM (kl (rfl : kT 731 = (6, 0))) (rfl : kT 731 = (6, 0)) dX7_takeNumber_71 ?_
        refine lv_iconst (v := 1) hx hb dX7_takeNumber_74 (by decide) ?_
        refine lv_iadd hx hb dX7_takeNumber_75 ?_
        refine pX7_193 C hM hS (kl (rfl : kT 731 = (6, 0))) (rfl : kT 731 = (6, 0)) dX7_takeNumber_76 (fun H locs hM hS _ => ?_)
        obtain ⟨M15, eM15⟩ : ∃ z : mm_M, z = sI M14 731 10 ((M14.1 731 10) + 1) := ⟨_, rfl⟩
        rw [← eM15] at hM
        have heq := lt_to eM15 heq
        refine lv_aload_n hx hb dX7_takeNumber_79 rfl (lv_at hl 1 rfl) ?_
        refine lv_aload_n hx hb dX7_takeNumber_80 rfl (lv_at hl 1 rfl) ?_
        obtain ⟨r17, e16, heq⟩ := bn_of heq
        refine mm_ki hS (mm_runV (rest := [.ref (mm_lo G + 731)]) C hM hS (tX7_next l G M15 r17 e16) (uX7_200 _ (Nat.le_of_ble_eq_true rfl) (Nat.le_of_ble_eq_true rfl)) (mm_recv C hM (kl (rfl : kT 731 = (6, 0))) (ci := 6) rfl (mm_e6 (rfl : kT 731 = (6, 0)))) hl.1 rfl rfl (Nat.le_of_ble_eq_true rfl) ⟨Nat.zero_le _, Nat.zero_le _⟩ dX7_takeNumber_81) (fun H locs hM hS => ?_)
        have hM : mm_P G kR 740 M15 H := hM
        refine lv_bipush (v := 48) hx hb dX7_takeNumber_84 (by decide) ?_
        refine lv_bipush (v := 57) hx hb dX7_takeNumber_86 (by decide) ?_
        obtain ⟨r19, e18, heq⟩ := bn_of heq
        refine mm_ki hS (mm_runS (rest := [.ref (mm_lo G + 731)]) C hM hS (tX7_in l G M15 r17 48 57 r19 e18) (uX7_35 _ (Nat.le_of_ble_eq_true rfl) (Nat.le_of_ble_eq_true rfl)) hl.1 rfl rfl (Nat.le_of_ble_eq_true rfl) ⟨Nat.zero_le _, Nat.zero_le _⟩ dX7_takeNumber_88) (fun H locs hM hS => ?_)
        have hM : mm_P G kR 740 M15 H := hM
        refine pX7_196 C hM hS (kl (rfl : kT 731 = (6, 0))) (rfl : kT 731 = (6, 0)) (b2i_01 r19) dX7_takeNumber_91 (fun H locs hM hS _ => ?_)
        obtain ⟨M20, eM20⟩ : ∃ z : mm_M, z = sI M15 731 11 (b2i r19) := ⟨_, rfl⟩
        rw [← eM20] at hM
        have heq := lt_to eM20 heq
        cases heq
        exact mm_vret C hM hS dX7_takeNumber_94

set_option maxRecDepth 100000 in
set_option maxHeartbeats 4000000 in
theorem tX7_takeWishes_11 (C : mm_C G p s m args meth c RX7 cX7_takeWishes 2 none)  {M9 : mm_M} : ∀ n : Nat, ∀ (M : mm_M) (v1 : Int32) (H : Heap) (locs : List Loc) (ls : Array Slot), mm_P G kR 740 M H → va_S (mm_A G) s.heap H locs → lv_has ls 2 [(0, .ref (mm_lo G + 731)), (1, .int v1)] → fX7_takeWishes_11 n M v1 = some M9 → W p l e rmX7_takeWishes s m args below meth c H locs 0 0 (MQ below (mm_Qv G (kR, 740, M9)) args s 0 0 (mm_A G)) (F0 m 11 ls []) := by
  obtain ⟨hx, hb, -, -, -, -, -, -, hZ, -⟩ := id C
  intro n
  induction n with
  | zero =>
    intro M v1 H locs ls hM hS hl heq
    rw [fX7_takeWishes_11] at heq
    cases heq
  | succ n ih =>
    intro M v1 H locs ls hM hS hl heq
    rw [fX7_takeWishes_11] at heq
    refine lv_iload_n hx hb dX7_takeWishes_11 rfl (lv_at hl 1 rfl) ?_
    refine lv_iconst (v := 3) hx hb dX7_takeWishes_12 (by decide) ?_
    refine lv_icmp_gt (tgt := 67) hx hb dX7_takeWishes_13 (by decide) (fun c1 => ?_) (fun c1 => ?_)
    · have heq := if_t c1 heq
      cases heq
      exact mm_vret C hM hS dX7_takeWishes_67
    · have heq := if_f c1 heq
      refine lv_aload_n hx hb dX7_takeWishes_16 rfl (lv_at hl 0 rfl) ?_
      refine gX7_32 C hM (kl (rfl : kT 731 = (6, 0))) (rfl : kT 731 = (6, 0)) (rfl : kR 731 14 = some 739) dX7_takeWishes_17 ?_
      refine lv_iconst (v := 4) hx hb dX7_takeWishes_20 (by decide) ?_
      refine lv_aload_n hx hb dX7_takeWishes_21 rfl (lv_at hl 0 rfl) ?_
      refine gX7_203 C hM (kl (rfl : kT 731 = (6, 0))) (rfl : kT 731 = (6, 0)) dX7_takeWishes_22 ?_
      refine lv_imul hx hb dX7_takeWishes_25 ?_
      refine lv_iload_n hx hb dX7_takeWishes_26 rfl (lv_at hl 1 rfl) ?_
      refine lv_iadd hx hb dX7_takeWishes_27 ?_
      refine lv_bipush (v := (-6)) hx hb dX7_takeWishes_28 (by decide) ?_
      obtain ⟨g2, heq⟩ := gd_of heq
      refine mm_istk C hM hS (kl (rfl : kT 739 = (8, 116))) (rfl : kT 739 = (8, 116)) (vp_in_of2 g2) rfl dX7_takeWishes_30 (fun H locs hM hS _ => ?_)
      obtain ⟨M3, eM3⟩ : ∃ z : mm_M, z = sI M 739 ((4 * (M.1 731 12)) + v1).toNatClampNeg (-6) := ⟨_, rfl⟩
      rw [← eM3] at hM
      have heq := lt_to eM3 heq
      refine lv_aload_n hx hb dX7_takeWishes_31 rfl (lv_at hl 0 rfl) ?_
      refine gX7_196 C hM (kl (rfl : kT 731 = (6, 0))) (rfl : kT 731 = (6, 0)) dX7_takeWishes_32 ?_
      refine lv_if_ne (tgt := 61) hx hb dX7_takeWishes_35 (by decide) (fun c4 => ?_) (fun c4 => ?_)
      · have heq := if_f c4 heq
        obtain ⟨y5, ey5⟩ : ∃ y : Int32, y = (v1 + 1) := ⟨_, rfl⟩
        have heq := lt_to ey5 heq
        refine lv_iinc (v := y5) (lv' := [(1, .int y5), (0, .ref (mm_lo G + 731))]) hx hb dX7_takeWishes_61 hl (k := 1) rfl (by rw [ey5]; rfl) (by decide) rfl (fun ls hl => ?_)
        refine lv_goto (tgt := 11) hx hb dX7_takeWishes_64 (by decide) ?_
        exact ih _ _ _ _ _ hM hS (lv_sub hl [1, 0] rfl) heq
      · have heq := if_t c4 heq
        refine lv_aload_n hx hb dX7_takeWishes_38 rfl (lv_at hl 0 rfl) ?_
        obtain ⟨r7, e6, heq⟩ := bn_of heq
        refine mm_ki hS (mm_runV (rest := []) C hM hS (tX7_next l G M3 r7 e6) (uX7_200 _ (Nat.le_of_ble_eq_true rfl) (Nat.le_of_ble_eq_true rfl)) (mm_recv C hM (kl (rfl : kT 731 = (6, 0))) (ci := 6) rfl (mm_e6 (rfl : kT 731 = (6, 0)))) hl.1 rfl rfl (Nat.le_of_ble_eq_true rfl) ⟨Nat.zero_le _, Nat.zero_le _⟩ dX7_takeWishes_39) (fun H locs hM hS => ?_)
        have hM : mm_P G kR 740 M3 H := hM
        refine lv_bipush (v := 48) hx hb dX7_takeWishes_42 (by decide) ?_
        refine lv_bipush (v := 57) hx hb dX7_takeWishes_44 (by decide) ?_
        obtain ⟨r9, e8, heq⟩ := bn_of heq
        refine mm_ki hS (mm_runS (rest := []) C hM hS (tX7_in l G M3 r7 48 57 r9 e8) (uX7_35 _ (Nat.le_of_ble_eq_true rfl) (Nat.le_of_ble_eq_true rfl)) hl.1 rfl rfl (Nat.le_of_ble_eq_true rfl) ⟨Nat.zero_le _, Nat.zero_le _⟩ dX7_takeWishes_46) (fun H locs hM hS => ?_)
        have hM : mm_P G kR 740 M3 H := hM
        refine mm_ifeqZ (tgt := 61) C dX7_takeWishes_49 (by decide) (fun c10 => ?_) (fun c10 => ?_)
        · have heq := if_f c10 heq
          obtain ⟨y11, ey11⟩ : ∃ y : Int32, y = (v1 + 1) := ⟨_, rfl⟩
          have heq := lt_to ey11 heq
          refine lv_iinc (v := y11) (lv' := [(1, .int y11), (0, .ref (mm_lo G + 731))]) hx hb dX7_takeWishes_61 hl (k := 1) rfl (by rw [ey11]; rfl) (by decide) rfl (fun ls hl => ?_)
          refine lv_goto (tgt := 11) hx hb dX7_takeWishes_64 (by decide) ?_
          exact ih _ _ _ _ _ hM hS (lv_sub hl [1, 0] rfl) heq
        · have heq := if_t c10 heq
          refine lv_aload_n hx hb dX7_takeWishes_52 rfl (lv_at hl 0 rfl) ?_
          refine lv_iload_n hx hb dX7_takeWishes_53 rfl (lv_at hl 1 rfl) ?_
          refine lv_bipush (v := 48) hx hb dX7_takeWishes_54 (by decide) ?_
          refine lv_bipush (v := 57) hx hb dX7_takeWishes_56 (by decide) ?_
          obtain ⟨M13, e12, heq⟩ := bn_of heq
          refine mm_kv hS (mm_runV (rest := []) C hM hS (tX7_takeOne l G M3 v1 48 57 M13 e12) (uX7_206 _ (Nat.le_of_ble_eq_true rfl) (Nat.le_of_ble_eq_true rfl)) (mm_recv C hM (kl (rfl : kT 731 = (6, 0))) (ci := 6) rfl (mm_e6 (rfl : kT 731 = (6, 0)))) hl.1 rfl rfl (Nat.le_of_ble_eq_true rfl) ⟨Nat.zero_le _, Nat.zero_le _⟩ dX7_takeWishes_58) (fun H locs hM hS => ?_)
          have hM : mm_P G kR 740 M13 H := hM
          obtain ⟨y14, ey14⟩ : ∃ y : Int32, y = (v1 + 1) := ⟨_, rfl⟩
          have heq := lt_to ey14 heq
          refine lv_iinc (v := y14) (lv' := [(1, .int y14), (0, .ref (mm_lo G + 731))]) hx hb dX7_takeWishes_61 hl (k := 1) rfl (by rw [ey14]; rfl) (by decide) rfl (fun ls hl => ?_)
          refine lv_goto (tgt := 11) hx hb dX7_takeWishes_64 (by decide) ?_
          exact ih _ _ _ _ _ hM hS (lv_sub hl [1, 0] rfl) heq

set_option maxRecDepth 100000 in
set_option maxHeartbeats 4000000 in
theorem tX7_takeWishes (l : Launch) (G : mm_G) (M : mm_M)  (M9 : mm_M) (heq : fX7_takeWishes M = some M9) : Met l yX7_takeWishes (mm_ws yX7_takeWishes cX7_takeWishes 2 none) rmX7_takeWishes (va_Pc [.ref (mm_lo G + 731)] (mm_B G (kR, 740, M))) (mm_Qv G (kR, 740, M9)) 0 0 (mm_A G) := by
  refine mm_met (cc := cX7_takeWishes) (nL := 2) (ret := none) plRX7 (Nat.le_of_ble_eq_true rfl) ?_
  intro p e s m below meth c ls hin C hM hS hl
  have C : mm_C G p s m _ meth c RX7 cX7_takeWishes 2 none := C
  have hM : mm_P G kR 740 M s.heap := hM
  have hl : lv_has ls 2 [(0, .ref (mm_lo G + 731))] := hl
  obtain ⟨hx, hb, -, -, -, -, -, -, hZ, -⟩ := id C
  rw [fX7_takeWishes] at heq
  refine lv_aload_n hx hb dX7_takeWishes_0 rfl (lv_at hl 0 rfl) ?_
  refine lv_iconst (v := 0) hx hb dX7_takeWishes_1 (by decide) ?_
  refine lv_bipush (v := 65) hx hb dX7_takeWishes_2 (by decide) ?_
  refine lv_bipush (v := 80) hx hb dX7_takeWishes_4 (by decide) ?_
  obtain ⟨M2, e1, heq⟩ := bn_of heq
  refine mm_kv hS (mm_runV (rest := []) C hM hS (tX7_takeOne l G M 0 65 80 M2 e1) (uX7_206 _ (Nat.le_of_ble_eq_true rfl) (Nat.le_of_ble_eq_true rfl)) (mm_recv C hM (kl (rfl : kT 731 = (6, 0))) (ci := 6) rfl (mm_e6 (rfl : kT 731 = (6, 0)))) hl.1 rfl rfl (Nat.le_of_ble_eq_true rfl) ⟨Nat.zero_le _, Nat.zero_le _⟩ dX7_takeWishes_6) (fun H locs hM hS => ?_)
  have hM : mm_P G kR 740 M2 H := hM
  refine lv_iconst (v := 1) hx hb dX7_takeWishes_9 (by decide) ?_
  refine lv_istore_n (lv' := [(1, .int 1), (0, .ref (mm_lo G + 731))]) hx hb dX7_takeWishes_10 rfl hl (by decide) rfl (fun ls hl => ?_)
  exact tX7_takeWishes_11 C FU _ _ _ _ _ hM hS (lv_sub hl [1, 0] rfl) heq

set_option maxRecDepth 100000 in
set_option maxHeartbeats 4000000 in
theorem tX7_takeOrder_151 (C : mm_C G p s m args meth c RX7 cX7_takeOrder 2 none)  {M9 : mm_M} : ∀ (M : mm_M) (v1 : Int32) (H : Heap) (locs : List Loc) (ls : Array Slot), mm_P G kR 740 M H → va_S (mm_A G) s.heap H locs → lv_has ls 2 [(0, .ref (mm_lo G + 731)), (1, .int v1)] → fX7_takeOrder_151 M v1 = some M9 → W p l e rmX7_takeOrder s m args below meth c H locs 0 0 (MQ below (mm_Qv G (kR, 740, M9)) args s 0 0 (mm_A G)) (F0 m 151 ls []) := by
  obtain ⟨hx, hb, -, -, -, -, -, -, hZ, -⟩ := id C
  intro M v1 H locs ls hM hS hl heq
  rw [fX7_takeOrder_151] at heq
  refine lv_aload_n hx hb dX7_takeOrder_151 rfl (lv_at hl 0 rfl) ?_
  refine gX7_196 C hM (kl (rfl : kT 731 = (6, 0))) (rfl : kT 731 = (6, 0)) dX7_takeOrder_152 ?_
  refine lv_if_ne (tgt := 178) hx hb dX7_takeOrder_155 (by decide) (fun c1 => ?_) (fun c1 => ?_)
  · have heq := if_f c1 heq
    cases heq
    exact mm_vret C hM hS dX7_takeOrder_178
  · have heq := if_t c1 heq
    refine lv_aload_n hx hb dX7_takeOrder_158 rfl (lv_at hl 0 rfl) ?_
    refine gX7_29 C hM (kl (rfl : kT 731 = (6, 0))) (rfl : kT 731 = (6, 0)) (rfl : kR 731 13 = some 738) dX7_takeOrder_159 ?_
    refine lv_aload_n hx hb dX7_takeOrder_162 rfl (lv_at hl 0 rfl) ?_
    refine gX7_203 C hM (kl (rfl : kT 731 = (6, 0))) (rfl : kT 731 = (6, 0)) dX7_takeOrder_163 ?_
    refine lv_iload_n hx hb dX7_takeOrder_166 rfl (lv_at hl 1 rfl) ?_
    obtain ⟨g2, heq⟩ := gd_of heq
    refine mm_istk C hM hS (kl (rfl : kT 738 = (8, 29))) (rfl : kT 738 = (8, 29)) (vp_in_of2 g2) rfl dX7_takeOrder_167 (fun H locs hM hS _ => ?_)
    obtain ⟨M3, eM3⟩ : ∃ z : mm_M, z = sI M 738 (M.1 731 12).toNatClampNeg v1 := ⟨_, rfl⟩
    rw [← eM3] at hM
    have heq := lt_to eM3 heq
    refine lv_aload_n hx hb dX7_takeOrder_168 rfl (lv_at hl 0 rfl) ?_
    refine lv_dup hx hb dX7_takeOrder_169 rfl ?_
    refine gX7_203 C hM (kl (rfl : kT 731 = (6, 0))) (rfl : kT 731 = (6, 0)) dX7_takeOrder_170 ?_
    refine lv_iconst (v := 1) hx hb dX7_takeOrder_173 (by decide) ?_
    refine lv_iadd hx hb dX7_takeOrder_174 ?_
    refine pX7_203 C hM hS (kl (rfl : kT 731 = (6, 0))) (rfl : kT 731 = (6, 0)) dX7_takeOrder_175 (fun H locs hM hS _ => ?_)
    obtain ⟨M4, eM4⟩ : ∃ z : mm_M, z = sI M3 731 12 ((M3.1 731 12) + 1) := ⟨_, rfl⟩
    rw [← eM4] at hM
    have heq := lt_to eM4 heq
    cases heq
    exact mm_vret C hM hS dX7_takeOrder_178

set_option maxRecDepth 100000 in
set_option maxHeartbeats 4000000 in
theorem tX7_takeOrder (l : Launch) (G : mm_G) (M : mm_M)  (M9 : mm_M) (heq : fX7_takeOrder M = some M9) : Met l yX7_takeOrder (mm_ws yX7_takeOrder cX7_takeOrder 2 none) rmX7_takeOrder (va_Pc [.ref (mm_lo G + 731)] (mm_B G (kR, 740, M))) (mm_Qv G (kR, 740, M9)) 0 0 (mm_A G) := by
  refine mm_met (cc := cX7_takeOrder) (nL := 2) (ret := none) plRX7 (Nat.le_of_ble_eq_true rfl) ?_
  intro p e s m below meth c ls hin C hM hS hl
  have C : mm_C G p s m _ meth c RX7 cX7_takeOrder 2 none := C
  have hM : mm_P G kR 740 M s.heap := hM
  have hl : lv_has ls 2 [(0, .ref (mm_lo G + 731))] := hl
  obtain ⟨hx, hb, -, -, -, -, -, -, hZ, -⟩ := id C
  rw [fX7_takeOrder] at heq
  refine lv_aload_n hx hb dX7_takeOrder_0 rfl (lv_at hl 0 rfl) ?_
  obtain ⟨r2, e1, heq⟩ := bn_of heq
  refine mm_ki hS (mm_runV (rest := []) C hM hS (tX7_next l G M r2 e1) (uX7_200 _ (Nat.le_of_ble_eq_true rfl) (Nat.le_of_ble_eq_true rfl)) (mm_recv C hM (kl (rfl : kT 731 = (6, 0))) (ci := 6) rfl (mm_e6 (rfl : kT 731 = (6, 0)))) hl.1 rfl rfl (Nat.le_of_ble_eq_true rfl) ⟨Nat.zero_le _, Nat.zero_le _⟩ dX7_takeOrder_1) (fun H locs hM hS => ?_)
  have hM : mm_P G kR 740 M H := hM
  refine lv_istore_n (lv' := [(1, .int r2), (0, .ref (mm_lo G + 731))]) hx hb dX7_takeOrder_4 rfl hl (by decide) rfl (fun ls hl => ?_)
  refine lv_aload_n hx hb dX7_takeOrder_5 rfl (lv_at hl 1 rfl) ?_
  refine lv_dup hx hb dX7_takeOrder_6 rfl ?_
  refine gX7_193 C hM (kl (rfl : kT 731 = (6, 0))) (rfl : kT 731 = (6, 0)) dX7_takeOrder_7 ?_
  refine lv_iconst (v := 1) hx hb dX7_takeOrder_10 (by decide) ?_
  refine lv_iadd hx hb dX7_takeOrder_11 ?_
  refine pX7_193 C hM hS (kl (rfl : kT 731 = (6, 0))) (rfl : kT 731 = (6, 0)) dX7_takeOrder_12 (fun H locs hM hS _ => ?_)
  obtain ⟨M3, eM3⟩ : ∃ z : mm_M, z = sI M 731 10 ((M.1 731 10) + 1) := ⟨_, rfl⟩
  rw [← eM3] at hM
  have heq := lt_to eM3 heq
  refine lv_iload_n hx hb dX7_takeOrder_15 rfl (lv_at hl 0 rfl) ?_
  by_cases c4 : r2 = 99
  · have heq := if_t c4 heq
    refine lv_lookup (tgt := 96) (off := 80) hx hb dX7_takeOrder_16 rfl (by rw [c4]; try rfl) (by decide) ?_
    refine lv_aload_n hx hb dX7_takeOrder_96 rfl (lv_at hl 1 rfl) ?_
    refine lv_iconst (v := 0) hx hb dX7_takeOrder_97 (by decide) ?_
    refine lv_bipush (v := 65) hx hb dX7_takeOrder_98 (by decide) ?_
    refine lv_bipush (v := 80) hx hb dX7_takeOrder_100 (by decide) ?_
    obtain ⟨M6, e5, heq⟩ := bn_of heq
    refine mm_kv hS (mm_runV (rest := []) C hM hS (tX7_takeOne l G M3 0 65 80 M6 e5) (uX7_206 _ (Nat.le_of_ble_eq_true rfl) (Nat.le_of_ble_eq_true rfl)) (mm_recv C hM (kl (rfl : kT 731 = (6, 0))) (ci := 6) rfl (mm_e6 (rfl : kT 731 = (6, 0)))) hl.1 rfl rfl (Nat.le_of_ble_eq_true rfl) ⟨Nat.zero_le _, Nat.zero_le _⟩ dX7_takeOrder_102) (fun H locs hM hS => ?_)
    have hM : mm_P G kR 740 M6 H := hM
    refine lv_goto (tgt := 151) hx hb dX7_takeOrder_105 (by decide) ?_
    exact tX7_takeOrder_151 C _ _ _ _ _ hM hS (lv_sub hl [1, 0] rfl) heq
  · have heq := if_f c4 heq
    by_cases c7 : r2 = 100
    · have heq := if_t c7 heq
      refine lv_lookup (tgt := 129) (off := 113) hx hb dX7_takeOrder_16 rfl (by rw [c7]; try rfl) (by decide) ?_
      refine lv_aload_n hx hb dX7_takeOrder_129 rfl (lv_at hl 1 rfl) ?_
      obtain ⟨M9, e8, heq⟩ := bn_of heq
      refine mm_kv hS (mm_runV (rest := []) C hM hS (tX7_takeNumber l G M3 M9 e8) (uX7_212 _ (Nat.le_of_ble_eq_true rfl) (Nat.le_of_ble_eq_true rfl)) (mm_recv C hM (kl (rfl : kT 731 = (6, 0))) (ci := 6) rfl (mm_e6 (rfl : kT 731 = (6, 0)))) hl.1 rfl rfl (Nat.le_of_ble_eq_true rfl) ⟨Nat.zero_le _, Nat.zero_le _⟩ dX7_takeOrder_130) (fun H locs hM hS => ?_)
      have hM : mm_P G kR 740 M9 H := hM
      refine lv_goto (tgt := 151) hx hb dX7_takeOrder_133 (by decide) ?_
      exact tX7_takeOrder_151 C _ _ _ _ _ hM hS (lv_sub hl [1, 0] rfl) heq
    · have heq := if_f c7 heq
      by_cases c10 : r2 = 102
      · have heq := if_t c10 heq
        refine lv_lookup (tgt := 75) (off := 59) hx hb dX7_takeOrder_16 rfl (by rw [c10]; try rfl) (by decide) ?_
        refine lv_aload_n hx hb dX7_takeOrder_75 rfl (lv_at hl 1 rfl) ?_
        refine lv_iconst (v := 0) hx hb dX7_takeOrder_76 (by decide) ?_
        refine lv_bipush (v := 65) hx hb dX7_takeOrder_77 (by decide) ?_
        refine lv_bipush (v := 80) hx hb dX7_takeOrder_79 (by decide) ?_
        obtain ⟨M12, e11, heq⟩ := bn_of heq
        refine mm_kv hS (mm_runV (rest := []) C hM hS (tX7_takeOne l G M3 0 65 80 M12 e11) (uX7_206 _ (Nat.le_of_ble_eq_true rfl) (Nat.le_of_ble_eq_true rfl)) (mm_recv C hM (kl (rfl : kT 731 = (6, 0))) (ci := 6) rfl (mm_e6 (rfl : kT 731 = (6, 0)))) hl.1 rfl rfl (Nat.le_of_ble_eq_true rfl) ⟨Nat.zero_le _, Nat.zero_le _⟩ dX7_takeOrder_81) (fun H locs hM hS => ?_)
        have hM : mm_P G kR 740 M12 H := hM
        refine lv_aload_n hx hb dX7_takeOrder_84 rfl (lv_at hl 1 rfl) ?_
        refine lv_iconst (v := 1) hx hb dX7_takeOrder_85 (by decide) ?_
        refine lv_bipush (v := 49) hx hb dX7_takeOrder_86 (by decide) ?_
        refine lv_bipush (v := 57) hx hb dX7_takeOrder_88 (by decide) ?_
        obtain ⟨M14, e13, heq⟩ := bn_of heq
        refine mm_kv hS (mm_runV (rest := []) C hM hS (tX7_takeOne l G M12 1 49 57 M14 e13) (uX7_206 _ (Nat.le_of_ble_eq_true rfl) (Nat.le_of_ble_eq_true rfl)) (mm_recv C hM (kl (rfl : kT 731 = (6, 0))) (ci := 6) rfl (mm_e6 (rfl : kT 731 = (6, 0)))) hl.1 rfl rfl (Nat.le_of_ble_eq_true rfl) ⟨Nat.zero_le _, Nat.zero_le _⟩ dX7_takeOrder_90) (fun H locs hM hS => ?_)
        have hM : mm_P G kR 740 M14 H := hM
        refine lv_goto (tgt := 151) hx hb dX7_takeOrder_93 (by decide) ?_
        exact tX7_takeOrder_151 C _ _ _ _ _ hM hS (lv_sub hl [1, 0] rfl) heq
      · have heq := if_f c10 heq
        by_cases c15 : r2 = 115
        · have heq := if_t c15 heq
          refine lv_lookup (tgt := 108) (off := 92) hx hb dX7_takeOrder_16 rfl (by rw [c15]; try rfl) (by decide) ?_
          refine lv_aload_n hx hb dX7_takeOrder_108 rfl (lv_at hl 1 rfl) ?_
          refine lv_iconst (v := 0) hx hb dX7_takeOrder_109 (by decide) ?_
          refine lv_bipush (v := 65) hx hb dX7_takeOrder_110 (by decide) ?_
          refine lv_bipush (v := 80) hx hb dX7_takeOrder_112 (by decide) ?_
          obtain ⟨M17, e16, heq⟩ := bn_of heq
          refine mm_kv hS (mm_runV (rest := []) C hM hS (tX7_takeOne l G M3 0 65 80 M17 e16) (uX7_206 _ (Nat.le_of_ble_eq_true rfl) (Nat.le_of_ble_eq_true rfl)) (mm_recv C hM (kl (rfl : kT 731 = (6, 0))) (ci := 6) rfl (mm_e6 (rfl : kT 731 = (6, 0)))) hl.1 rfl rfl (Nat.le_of_ble_eq_true rfl) ⟨Nat.zero_le _, Nat.zero_le _⟩ dX7_takeOrder_114) (fun H locs hM hS => ?_)
          have hM : mm_P G kR 740 M17 H := hM
          refine lv_aload_n hx hb dX7_takeOrder_117 rfl (lv_at hl 1 rfl) ?_
          refine lv_iconst (v := 1) hx hb dX7_takeOrder_118 (by decide) ?_
          refine lv_bipush (v := 65) hx hb dX7_takeOrder_119 (by decide) ?_
          refine lv_bipush (v := 80) hx hb dX7_takeOrder_121 (by decide) ?_
          obtain ⟨M19, e18, heq⟩ := bn_of heq
          refine mm_kv hS (mm_runV (rest := []) C hM hS (tX7_takeOne l G M17 1 65 80 M19 e18) (uX7_206 _ (Nat.le_of_ble_eq_true rfl) (Nat.le_of_ble_eq_true rfl)) (mm_recv C hM (kl (rfl : kT 731 = (6, 0))) (ci := 6) rfl (mm_e6 (rfl : kT 731 = (6, 0)))) hl.1 rfl rfl (Nat.le_of_ble_eq_true rfl) ⟨Nat.zero_le _, Nat.zero_le _⟩ dX7_takeOrder_123) (fun H locs hM hS => ?_)
          have hM : mm_P G kR 740 M19 H := hM
          refine lv_goto (tgt := 151) hx hb dX7_takeOrder_126 (by decide) ?_
          exact tX7_takeOrder_151 C _ _ _ _ _ hM hS (lv_sub hl [1, 0] rfl) heq
        · have heq := if_f c15 heq
          by_cases c20 : r2 = 119
          · have heq := if_t c20 heq
            refine lv_lookup (tgt := 68) (off := 52) hx hb dX7_takeOrder_16 rfl (by rw [c20]; try rfl) (by decide) ?_
            refine lv_aload_n hx hb dX7_takeOrder_68 rfl (lv_at hl 1 rfl) ?_
            obtain ⟨M22, e21, heq⟩ := bn_of heq
            refine mm_kv hS (mm_runV (rest := []) C hM hS (tX7_takeWishes l G M3 M22 e21) (uX7_209 _ (Nat.le_of_ble_eq_true rfl) (Nat.le_of_ble_eq_true rfl)) (mm_recv C hM (kl (rfl : kT 731 = (6, 0))) (ci := 6) rfl (mm_e6 (rfl : kT 731 = (6, 0)))) hl.1 rfl rfl (Nat.le_of_ble_eq_true rfl) ⟨Nat.zero_le _, Nat.zero_le _⟩ dX7_takeOrder_69) (fun H locs hM hS => ?_)
            have hM : mm_P G kR 740 M22 H := hM
            refine lv_goto (tgt := 151) hx hb dX7_takeOrder_72 (by decide) ?_
            exact tX7_takeOrder_151 C _ _ _ _ _ hM hS (lv_sub hl [1, 0] rfl) heq
          · have heq := if_f c20 heq
            refine lv_lookup (tgt := 136) (off := 120) hx hb dX7_takeOrder_16 rfl (by show Op.lookupswitch.offset [(99, 80), (100, 113), (102, 59), (115, 92), (119, 52)] 120 _ = _; rw [lv_osw (a := 99) c4 rfl, lv_osw (a := 100) c7 rfl, lv_osw (a := 102) c10 rfl, lv_osw (a := 115) c15 rfl, lv_osw (a := 119) c20 rfl]; try rfl) (by decide) ?_
            refine lv_aload_n hx hb dX7_takeOrder_136 rfl (lv_at hl 1 rfl) ?_
            refine lv_dup hx hb dX7_takeOrder_137 rfl ?_
            refine gX7_193 C hM (kl (rfl : kT 731 = (6, 0))) (rfl : kT 731 = (6, 0)) dX7_takeOrder_138 ?_
            refine lv_iconst (v := 1) hx hb dX7_takeOrder_141 (by decide) ?_
            refine lv_isub hx hb dX7_takeOrder_142 ?_
            refine pX7_193 C hM hS (kl (rfl : kT 731 = (6, 0))) (rfl : kT 731 = (6, 0)) dX7_takeOrder_143 (fun H locs hM hS _ => ?_)
            obtain ⟨M23, eM23⟩ : ∃ z : mm_M, z = sI M3 731 10 ((M3.1 731 10) - 1) := ⟨_, rfl⟩
            rw [← eM23] at hM
            have heq := lt_to eM23 heq
            refine lv_aload_n hx hb dX7_takeOrder_146 rfl (lv_at hl 1 rfl) ?_
            refine lv_iconst (v := 1) hx hb dX7_takeOrder_147 (by decide) ?_
            refine pX7_196 C hM hS (kl (rfl : kT 731 = (6, 0))) (rfl : kT 731 = (6, 0)) (Or.inr rfl) dX7_takeOrder_148 (fun H locs hM hS _ => ?_)
            obtain ⟨M24, eM24⟩ : ∃ z : mm_M, z = sI M23 731 11 1 := ⟨_, rfl⟩
            rw [← eM24] at hM
            have heq := lt_to eM24 heq
            exact tX7_takeOrder_151 C _ _ _ _ _ hM hS (lv_sub hl [1, 0] rfl) heq

set_option maxRecDepth 100000 in
set_option maxHeartbeats 4000000 in
theorem tX7_fault_52 (C : mm_C G p s m args meth c RX7 cX7_fault 1 (some .int))  {r : Int32} {M9 : mm_M} {k19 : mm_M → Option (Int32 × mm_M)} (hk19 : ∀ (M : mm_M) (H : Heap) (locs : List Loc) (ls : Array Slot), mm_P G kR 740 M H → va_S (mm_A G) s.heap H locs → lv_has ls 1 [(0, .ref (mm_lo G + 731))] → k19 M = some (r, M9) → W p l e rmX7_fault s m args below meth c H locs 0 0 (MQ below (mm_Qi G r (kR, 740, M9)) args s 0 0 (mm_A G)) (F0 m 19 ls [])) : ∀ (M : mm_M) (t1 : Bool) (H : Heap) (locs : List Loc) (ls : Array Slot), mm_P G kR 740 M H → va_S (mm_A G) s.heap H locs → lv_has ls 1 [(0, .ref (mm_lo G + 731))] → fX7_fault_52 k19 M t1 = some (r, M9) → W p l e rmX7_fault s m args below meth c H locs 0 0 (MQ below (mm_Qi G r (kR, 740, M9)) args s 0 0 (mm_A G)) (F0 m 52 ls [.int (b2i t1), .ref (mm_lo G + 731)]) := by
  obtain ⟨hx, hb, -, -, -, -, -, -, hZ, -⟩ := id C
  intro M t1 H locs ls hM hS hl heq
  rw [fX7_fault_52] at heq
  refine pX7_196 C hM hS (kl (rfl : kT 731 = (6, 0))) (rfl : kT 731 = (6, 0)) (b2i_01 t1) dX7_fault_52 (fun H locs hM hS _ => ?_)
  obtain ⟨M1, eM1⟩ : ∃ z : mm_M, z = sI M 731 11 (b2i t1) := ⟨_, rfl⟩
  rw [← eM1] at hM
  have heq := lt_to eM1 heq
  refine lv_aload_n hx hb dX7_fault_55 rfl (lv_at hl 0 rfl) ?_
  refine gX7_196 C hM (kl (rfl : kT 731 = (6, 0))) (rfl : kT 731 = (6, 0)) dX7_fault_56 ?_
  refine lv_if_ne (tgt := 19) hx hb dX7_fault_59 (by decide) (fun c2 => ?_) (fun c2 => ?_)
  · have heq := if_f c2 heq
    exact hk19 _ _ _ _ hM hS (lv_sub hl [0] rfl) heq
  · have heq := if_t c2 heq
    refine lv_aload_n hx hb dX7_fault_62 rfl (lv_at hl 0 rfl) ?_
    refine lv_dup hx hb dX7_fault_63 rfl ?_
    refine gX7_193 C hM (kl (rfl : kT 731 = (6, 0))) (rfl : kT 731 = (6, 0)) dX7_fault_64 ?_
    refine lv_iconst (v := 1) hx hb dX7_fault_67 (by decide) ?_
    refine lv_iadd hx hb dX7_fault_68 ?_
    refine pX7_193 C hM hS (kl (rfl : kT 731 = (6, 0))) (rfl : kT 731 = (6, 0)) dX7_fault_69 (fun H locs hM hS _ => ?_)
    obtain ⟨M3, eM3⟩ : ∃ z : mm_M, z = sI M1 731 10 ((M1.1 731 10) + 1) := ⟨_, rfl⟩
    rw [← eM3] at hM
    have heq := lt_to eM3 heq
    refine lv_aload_n hx hb dX7_fault_72 rfl (lv_at hl 0 rfl) ?_
    obtain ⟨M5, e4, heq⟩ := bn_of heq
    refine mm_kv hS (mm_runV (rest := []) C hM hS (tX7_takeOrder l G M3 M5 e4) (uX7_215 _ (Nat.le_of_ble_eq_true rfl) (Nat.le_of_ble_eq_true rfl)) (mm_recv C hM (kl (rfl : kT 731 = (6, 0))) (ci := 6) rfl (mm_e6 (rfl : kT 731 = (6, 0)))) hl.1 rfl rfl (Nat.le_of_ble_eq_true rfl) ⟨Nat.zero_le _, Nat.zero_le _⟩ dX7_fault_73) (fun H locs hM hS => ?_)
    have hM : mm_P G kR 740 M5 H := hM
    refine lv_goto (tgt := 19) hx hb dX7_fault_76 (by decide) ?_
    exact hk19 _ _ _ _ hM hS (lv_sub hl [0] rfl) heq

set_option maxRecDepth 100000 in
set_option maxHeartbeats 4000000 in
theorem tX7_fault_79 (C : mm_C G p s m args meth c RX7 cX7_fault 1 (some .int))  {r : Int32} {M9 : mm_M} : ∀ (M : mm_M) (H : Heap) (locs : List Loc) (ls : Array Slot), mm_P G kR 740 M H → va_S (mm_A G) s.heap H locs → lv_has ls 1 [(0, .ref (mm_lo G + 731))] → fX7_fault_79 M = some (r, M9) → W p l e rmX7_fault s m args below meth c H locs 0 0 (MQ below (mm_Qi G r (kR, 740, M9)) args s 0 0 (mm_A G)) (F0 m 79 ls []) := by
  obtain ⟨hx, hb, -, -, -, -, -, -, hZ, -⟩ := id C
  intro M H locs ls hM hS hl heq
  rw [fX7_fault_79] at heq
  refine lv_aload_n hx hb dX7_fault_79 rfl (lv_at hl 0 rfl) ?_
  refine gX7_196 C hM (kl (rfl : kT 731 = (6, 0))) (rfl : kT 731 = (6, 0)) dX7_fault_80 ?_
  refine lv_if_eq (tgt := 93) hx hb dX7_fault_83 (by decide) (fun c1 => ?_) (fun c1 => ?_)
  · have heq := if_t c1 heq
    refine lv_bipush (v := (-6)) hx hb dX7_fault_93 (by decide) ?_
    cases heq
    exact mm_iret C hM hS dX7_fault_95
  · have heq := if_f c1 heq
    refine lv_aload_n hx hb dX7_fault_86 rfl (lv_at hl 0 rfl) ?_
    refine gX7_193 C hM (kl (rfl : kT 731 = (6, 0))) (rfl : kT 731 = (6, 0)) dX7_fault_87 ?_
    refine lv_goto (tgt := 95) hx hb dX7_fault_90 (by decide) ?_
    cases heq
    exact mm_iret C hM hS dX7_fault_95

set_option maxRecDepth 100000 in
set_option maxHeartbeats 4000000 in
theorem tX7_fault_19 (C : mm_C G p s m args meth c RX7 cX7_fault 1 (some .int))  {r : Int32} {M9 : mm_M} : ∀ n : Nat, ∀ (M : mm_M) (H : Heap) (locs : List Loc) (ls : Array Slot), mm_P G kR 740 M H → va_S (mm_A G) s.heap H locs → lv_has ls 1 [(0, .ref (mm_lo G + 731))] → fX7_fault_19 n M = some (r, M9) → W p l e rmX7_fault s m args below meth c H locs 0 0 (MQ below (mm_Qi G r (kR, 740, M9)) args s 0 0 (mm_A G)) (F0 m 19 ls []) := by
  obtain ⟨hx, hb, -, -, -, -, -, -, hZ, -⟩ := id C
  intro n
  induction n with
  | zero =>
    intro M H locs ls hM hS hl heq
    rw [fX7_fault_19] at heq
    cases heq
  | succ n ih =>
    intro M H locs ls hM hS hl heq
    rw [fX7_fault_19] at heq
    refine lv_aload_n hx hb dX7_fault_19 rfl (lv_at hl 0 rfl) ?_
    refine gX7_196 C hM (kl (rfl : kT 731 = (6, 0))) (rfl : kT 731 = (6, 0)) dX7_fault_20 ?_
    refine lv_if_ne (tgt := 79) hx hb dX7_fault_23 (by decide) (fun c1 => ?_) (fun c1 => ?_)
    · have heq := if_f c1 heq
      exact tX7_fault_79 C _ _ _ _ hM hS (lv_sub hl [0] rfl) heq
    · have heq := if_t c1 heq
      refine lv_aload_n hx hb dX7_fault_26 rfl (lv_at hl 0 rfl) ?_
      refine gX7_193 C hM (kl (rfl : kT 731 = (6, 0))) (rfl : kT 731 = (6, 0)) dX7_fault_27 ?_
      refine lv_aload_n hx hb dX7_fault_30 rfl (lv_at hl 0 rfl) ?_
      refine gX7_179 C hM (kl (rfl : kT 731 = (6, 0))) (rfl : kT 731 = (6, 0)) dX7_fault_31 ?_
      refine lv_icmp_ge (tgt := 79) hx hb dX7_fault_34 (by decide) (fun c2 => ?_) (fun c2 => ?_)
      · have heq := if_t c2 heq
        exact tX7_fault_79 C _ _ _ _ hM hS (lv_sub hl [0] rfl) heq
      · have heq := if_f c2 heq
        refine lv_aload_n hx hb dX7_fault_37 rfl (lv_at hl 0 rfl) ?_
        refine lv_aload_n hx hb dX7_fault_38 rfl (lv_at hl 0 rfl) ?_
        obtain ⟨r4, e3, heq⟩ := bn_of heq
        refine mm_ki hS (mm_runV (rest := [.ref (mm_lo G + 731)]) C hM hS (tX7_next l G M r4 e3) (uX7_200 _ (Nat.le_of_ble_eq_true rfl) (Nat.le_of_ble_eq_true rfl)) (mm_recv C hM (kl (rfl : kT 731 = (6, 0))) (ci := 6) rfl (mm_e6 (rfl : kT 731 = (6, 0)))) hl.1 rfl rfl (Nat.le_of_ble_eq_true rfl) ⟨Nat.zero_le _, Nat.zero_le _⟩ dX7_fault_39) (fun H locs hM hS => ?_)
        have hM : mm_P G kR 740 M H := hM
        refine lv_bipush (v := 59) hx hb dX7_fault_42 (by decide) ?_
        refine lv_icmp_eq (tgt := 51) hx hb dX7_fault_44 (by decide) (fun c5 => ?_) (fun c5 => ?_)
        · have heq := if_t c5 heq
          refine lv_iconst (v := 0) hx hb dX7_fault_51 (by decide) ?_
          exact tX7_fault_52 C ih _ _ _ _ _ hM hS (lv_sub hl [0] rfl) heq
        · have heq := if_f c5 heq
          refine lv_iconst (v := 1) hx hb dX7_fault_47 (by decide) ?_
          refine lv_goto (tgt := 52) hx hb dX7_fault_48 (by decide) ?_
          exact tX7_fault_52 C ih _ _ _ _ _ hM hS (lv_sub hl [0] rfl) heq

set_option maxRecDepth 100000 in
set_option maxHeartbeats 4000000 in
theorem tX7_fault (l : Launch) (G : mm_G) (M : mm_M)  (r : Int32) (M9 : mm_M) (heq : fX7_fault M = some (r, M9)) : Met l yX7_fault (mm_ws yX7_fault cX7_fault 1 (some .int)) rmX7_fault (va_Pc [.ref (mm_lo G + 731)] (mm_B G (kR, 740, M))) (mm_Qi G r (kR, 740, M9)) 0 0 (mm_A G) := by
  refine mm_met (cc := cX7_fault) (nL := 1) (ret := (some .int)) plRX7 (Nat.le_of_ble_eq_true rfl) ?_
  intro p e s m below meth c ls hin C hM hS hl
  have C : mm_C G p s m _ meth c RX7 cX7_fault 1 (some .int) := C
  have hM : mm_P G kR 740 M s.heap := hM
  have hl : lv_has ls 1 [(0, .ref (mm_lo G + 731))] := hl
  obtain ⟨hx, hb, -, -, -, -, -, -, hZ, -⟩ := id C
  rw [fX7_fault] at heq
  refine lv_aload_n hx hb dX7_fault_0 rfl (lv_at hl 0 rfl) ?_
  refine lv_iconst (v := 0) hx hb dX7_fault_1 (by decide) ?_
  refine pX7_193 C hM hS (kl (rfl : kT 731 = (6, 0))) (rfl : kT 731 = (6, 0)) dX7_fault_2 (fun H locs hM hS _ => ?_)
  obtain ⟨M1, eM1⟩ : ∃ z : mm_M, z = sI M 731 10 0 := ⟨_, rfl⟩
  rw [← eM1] at hM
  have heq := lt_to eM1 heq
  refine lv_aload_n hx hb dX7_fault_5 rfl (lv_at hl 0 rfl) ?_
  refine lv_iconst (v := 0) hx hb dX7_fault_6 (by decide) ?_
  refine pX7_196 C hM hS (kl (rfl : kT 731 = (6, 0))) (rfl : kT 731 = (6, 0)) (Or.inl rfl) dX7_fault_7 (fun H locs hM hS _ => ?_)
  obtain ⟨M2, eM2⟩ : ∃ z : mm_M, z = sI M1 731 11 0 := ⟨_, rfl⟩
  rw [← eM2] at hM
  have heq := lt_to eM2 heq
  refine lv_aload_n hx hb dX7_fault_10 rfl (lv_at hl 0 rfl) ?_
  refine lv_iconst (v := 0) hx hb dX7_fault_11 (by decide) ?_
  refine pX7_203 C hM hS (kl (rfl : kT 731 = (6, 0))) (rfl : kT 731 = (6, 0)) dX7_fault_12 (fun H locs hM hS _ => ?_)
  obtain ⟨M3, eM3⟩ : ∃ z : mm_M, z = sI M2 731 12 0 := ⟨_, rfl⟩
  rw [← eM3] at hM
  have heq := lt_to eM3 heq
  refine lv_aload_n hx hb dX7_fault_15 rfl (lv_at hl 0 rfl) ?_
  obtain ⟨M5, e4, heq⟩ := bn_of heq
  refine mm_kv hS (mm_runV (rest := []) C hM hS (tX7_takeOrder l G M3 M5 e4) (uX7_215 _ (Nat.le_of_ble_eq_true rfl) (Nat.le_of_ble_eq_true rfl)) (mm_recv C hM (kl (rfl : kT 731 = (6, 0))) (ci := 6) rfl (mm_e6 (rfl : kT 731 = (6, 0)))) hl.1 rfl rfl (Nat.le_of_ble_eq_true rfl) ⟨Nat.zero_le _, Nat.zero_le _⟩ dX7_fault_16) (fun H locs hM hS => ?_)
  have hM : mm_P G kR 740 M5 H := hM
  exact tX7_fault_19 C FU _ _ _ _ hM hS (lv_sub hl [0] rfl) heq

set_option maxRecDepth 100000 in
set_option maxHeartbeats 4000000 in
theorem tX7_carry (l : Launch) (G : mm_G) (M : mm_M) (x1 : Int32) (r : Int32) (M9 : mm_M) (heq : fX7_carry M x1 = some (r, M9)) : Met l yX7_carry (mm_ws yX7_carry cX7_carry 3 (some .int)) rmX7_carry (va_Pc [.ref (mm_lo G + 731), .int x1] (mm_B G (kR, 740, M))) (mm_Qi G r (kR, 740, M9)) 0 0 (mm_A G) := by
  refine mm_met (cc := cX7_carry) (nL := 3) (ret := (some .int)) plRX7 (Nat.le_of_ble_eq_true rfl) ?_
  intro p e s m below meth c ls hin C hM hS hl
  have C : mm_C G p s m _ meth c RX7 cX7_carry 3 (some .int) := C
  have hM : mm_P G kR 740 M s.heap := hM
  have hl : lv_has ls 3 [(0, .ref (mm_lo G + 731)), (1, .int x1)] := hl
  obtain ⟨hx, hb, -, -, -, -, -, -, hZ, -⟩ := id C
  rw [fX7_carry] at heq
  refine lv_iconst (v := 4) hx hb dX7_carry_0 (by decide) ?_
  refine lv_iload_n hx hb dX7_carry_1 rfl (lv_at hl 1 rfl) ?_
  refine lv_imul hx hb dX7_carry_2 ?_
  refine lv_topi (fun y1 ey1 => ?_)
  have heq := lt_to ey1 heq
  refine lv_istore_n (lv' := [(2, .int y1), (0, .ref (mm_lo G + 731)), (1, .int x1)]) hx hb dX7_carry_3 rfl hl (by decide) rfl (fun ls hl => ?_)
  refine lv_aload_n hx hb dX7_carry_4 rfl (lv_at hl 1 rfl) ?_
  refine gX7_29 C hM (kl (rfl : kT 731 = (6, 0))) (rfl : kT 731 = (6, 0)) (rfl : kR 731 13 = some 738) dX7_carry_5 ?_
  refine lv_iload_n hx hb dX7_carry_8 rfl (lv_at hl 2 rfl) ?_
  obtain ⟨g2, heq⟩ := gd_of heq
  refine mm_ildk C hM (kl (rfl : kT 738 = (8, 29))) (rfl : kT 738 = (8, 29)) (vp_in_of2 g2) rfl dX7_carry_9 ?_
  by_cases c3 : (M.1 738 x1.toNatClampNeg) = 99
  · have heq := if_t c3 heq
    refine lv_lookup (tgt := 110) (off := 100) hx hb dX7_carry_10 rfl (by rw [c3]; try rfl) (by decide) ?_
    refine lv_aload_n hx hb dX7_carry_110 rfl (lv_at hl 1 rfl) ?_
    refine lv_aload_n hx hb dX7_carry_111 rfl (lv_at hl 1 rfl) ?_
    refine gX7_32 C hM (kl (rfl : kT 731 = (6, 0))) (rfl : kT 731 = (6, 0)) (rfl : kR 731 14 = some 739) dX7_carry_112 ?_
    refine lv_iload_n hx hb dX7_carry_115 rfl (lv_at hl 0 rfl) ?_
    obtain ⟨g4, heq⟩ := gd_of heq
    refine mm_ildk C hM (kl (rfl : kT 739 = (8, 116))) (rfl : kT 739 = (8, 116)) (vp_in_of2 g4) rfl dX7_carry_116 ?_
    refine lv_iconst (v := 0) hx hb dX7_carry_117 (by decide) ?_
    obtain ⟨r6, M7, e5, heq⟩ := bn2_of heq
    refine mm_ki hS (mm_runV (rest := []) C hM hS (tX7_tryCheck l G M (M.1 739 y1.toNatClampNeg) false r6 M7 e5) (uX7_98 _ (Nat.le_of_ble_eq_true rfl) (Nat.le_of_ble_eq_true rfl)) (mm_recv C hM (kl (rfl : kT 731 = (6, 0))) (ci := 6) rfl (mm_e6 (rfl : kT 731 = (6, 0)))) hl.1 rfl rfl (Nat.le_of_ble_eq_true rfl) ⟨Nat.zero_le _, Nat.zero_le _⟩ dX7_carry_118) (fun H locs hM hS => ?_)
    have hM : mm_P G kR 740 M7 H := hM
    cases heq
    exact mm_iret C hM hS dX7_carry_121
  · have heq := if_f c3 heq
    by_cases c8 : (M.1 738 x1.toNatClampNeg) = 102
    · have heq := if_t c8 heq
      refine lv_lookup (tgt := 88) (off := 78) hx hb dX7_carry_10 rfl (by rw [c8]; try rfl) (by decide) ?_
      refine lv_aload_n hx hb dX7_carry_88 rfl (lv_at hl 1 rfl) ?_
      refine lv_aload_n hx hb dX7_carry_89 rfl (lv_at hl 1 rfl) ?_
      refine gX7_32 C hM (kl (rfl : kT 731 = (6, 0))) (rfl : kT 731 = (6, 0)) (rfl : kR 731 14 = some 739) dX7_carry_90 ?_
      refine lv_iload_n hx hb dX7_carry_93 rfl (lv_at hl 0 rfl) ?_
      obtain ⟨g9, heq⟩ := gd_of heq
      refine mm_ildk C hM (kl (rfl : kT 739 = (8, 116))) (rfl : kT 739 = (8, 116)) (vp_in_of2 g9) rfl dX7_carry_94 ?_
      refine lv_iconst (v := 1) hx hb dX7_carry_95 (by decide) ?_
      refine lv_aload_n hx hb dX7_carry_96 rfl (lv_at hl 1 rfl) ?_
      refine gX7_32 C hM (kl (rfl : kT 731 = (6, 0))) (rfl : kT 731 = (6, 0)) (rfl : kR 731 14 = some 739) dX7_carry_97 ?_
      refine lv_iload_n hx hb dX7_carry_100 rfl (lv_at hl 0 rfl) ?_
      refine lv_iconst (v := 1) hx hb dX7_carry_101 (by decide) ?_
      refine lv_iadd hx hb dX7_carry_102 ?_
      obtain ⟨g10, heq⟩ := gd_of heq
      refine mm_ildk C hM (kl (rfl : kT 739 = (8, 116))) (rfl : kT 739 = (8, 116)) (vp_in_of2 g10) rfl dX7_carry_103 ?_
      refine lv_iadd hx hb dX7_carry_104 ?_
      refine lv_iconst (v := 0) hx hb dX7_carry_105 (by decide) ?_
      obtain ⟨r12, M13, e11, heq⟩ := bn2_of heq
      refine mm_ki hS (mm_runV (rest := []) C hM hS (tX7_tryFine l G M (M.1 739 y1.toNatClampNeg) (1 + (M.1 739 (y1 + 1).toNatClampNeg)) false r12 M13 e11) (uX7_90 _ (Nat.le_of_ble_eq_true rfl) (Nat.le_of_ble_eq_true rfl)) (mm_recv C hM (kl (rfl : kT 731 = (6, 0))) (ci := 6) rfl (mm_e6 (rfl : kT 731 = (6, 0)))) hl.1 rfl rfl (Nat.le_of_ble_eq_true rfl) ⟨Nat.zero_le _, Nat.zero_le _⟩ dX7_carry_106) (fun H locs hM hS => ?_)
      have hM : mm_P G kR 740 M13 H := hM
      cases heq
      exact mm_iret C hM hS dX7_carry_109
    · have heq := if_f c8 heq
      by_cases c14 : (M.1 738 x1.toNatClampNeg) = 115
      · have heq := if_t c14 heq
        refine lv_lookup (tgt := 122) (off := 112) hx hb dX7_carry_10 rfl (by rw [c14]; try rfl) (by decide) ?_
        refine lv_aload_n hx hb dX7_carry_122 rfl (lv_at hl 1 rfl) ?_
        refine lv_aload_n hx hb dX7_carry_123 rfl (lv_at hl 1 rfl) ?_
        refine gX7_32 C hM (kl (rfl : kT 731 = (6, 0))) (rfl : kT 731 = (6, 0)) (rfl : kR 731 14 = some 739) dX7_carry_124 ?_
        refine lv_iload_n hx hb dX7_carry_127 rfl (lv_at hl 0 rfl) ?_
        obtain ⟨g15, heq⟩ := gd_of heq
        refine mm_ildk C hM (kl (rfl : kT 739 = (8, 116))) (rfl : kT 739 = (8, 116)) (vp_in_of2 g15) rfl dX7_carry_128 ?_
        refine lv_aload_n hx hb dX7_carry_129 rfl (lv_at hl 1 rfl) ?_
        refine gX7_32 C hM (kl (rfl : kT 731 = (6, 0))) (rfl : kT 731 = (6, 0)) (rfl : kR 731 14 = some 739) dX7_carry_130 ?_
        refine lv_iload_n hx hb dX7_carry_133 rfl (lv_at hl 0 rfl) ?_
        refine lv_iconst (v := 1) hx hb dX7_carry_134 (by decide) ?_
        refine lv_iadd hx hb dX7_carry_135 ?_
        obtain ⟨g16, heq⟩ := gd_of heq
        refine mm_ildk C hM (kl (rfl : kT 739 = (8, 116))) (rfl : kT 739 = (8, 116)) (vp_in_of2 g16) rfl dX7_carry_136 ?_
        refine lv_iconst (v := 0) hx hb dX7_carry_137 (by decide) ?_
        obtain ⟨r18, M19, e17, heq⟩ := bn2_of heq
        refine mm_ki hS (mm_runV (rest := []) C hM hS (tX7_trySwap l G M (M.1 739 y1.toNatClampNeg) (M.1 739 (y1 + 1).toNatClampNeg) false r18 M19 e17) (uX7_102 _ (Nat.le_of_ble_eq_true rfl) (Nat.le_of_ble_eq_true rfl)) (mm_recv C hM (kl (rfl : kT 731 = (6, 0))) (ci := 6) rfl (mm_e6 (rfl : kT 731 = (6, 0)))) hl.1 rfl rfl (Nat.le_of_ble_eq_true rfl) ⟨Nat.zero_le _, Nat.zero_le _⟩ dX7_carry_138) (fun H locs hM hS => ?_)
        have hM : mm_P G kR 740 M19 H := hM
        cases heq
        exact mm_iret C hM hS dX7_carry_141
      · have heq := if_f c14 heq
        by_cases c20 : (M.1 738 x1.toNatClampNeg) = 119
        · have heq := if_t c20 heq
          refine lv_lookup (tgt := 52) (off := 42) hx hb dX7_carry_10 rfl (by rw [c20]; try rfl) (by decide) ?_
          refine lv_aload_n hx hb dX7_carry_52 rfl (lv_at hl 1 rfl) ?_
          refine lv_aload_n hx hb dX7_carry_53 rfl (lv_at hl 1 rfl) ?_
          refine gX7_32 C hM (kl (rfl : kT 731 = (6, 0))) (rfl : kT 731 = (6, 0)) (rfl : kR 731 14 = some 739) dX7_carry_54 ?_
          refine lv_iload_n hx hb dX7_carry_57 rfl (lv_at hl 0 rfl) ?_
          obtain ⟨g21, heq⟩ := gd_of heq
          refine mm_ildk C hM (kl (rfl : kT 739 = (8, 116))) (rfl : kT 739 = (8, 116)) (vp_in_of2 g21) rfl dX7_carry_58 ?_
          refine lv_aload_n hx hb dX7_carry_59 rfl (lv_at hl 1 rfl) ?_
          refine gX7_32 C hM (kl (rfl : kT 731 = (6, 0))) (rfl : kT 731 = (6, 0)) (rfl : kR 731 14 = some 739) dX7_carry_60 ?_
          refine lv_iload_n hx hb dX7_carry_63 rfl (lv_at hl 0 rfl) ?_
          refine lv_iconst (v := 1) hx hb dX7_carry_64 (by decide) ?_
          refine lv_iadd hx hb dX7_carry_65 ?_
          obtain ⟨g22, heq⟩ := gd_of heq
          refine mm_ildk C hM (kl (rfl : kT 739 = (8, 116))) (rfl : kT 739 = (8, 116)) (vp_in_of2 g22) rfl dX7_carry_66 ?_
          refine lv_aload_n hx hb dX7_carry_67 rfl (lv_at hl 1 rfl) ?_
          refine gX7_32 C hM (kl (rfl : kT 731 = (6, 0))) (rfl : kT 731 = (6, 0)) (rfl : kR 731 14 = some 739) dX7_carry_68 ?_
          refine lv_iload_n hx hb dX7_carry_71 rfl (lv_at hl 0 rfl) ?_
          refine lv_iconst (v := 2) hx hb dX7_carry_72 (by decide) ?_
          refine lv_iadd hx hb dX7_carry_73 ?_
          obtain ⟨g23, heq⟩ := gd_of heq
          refine mm_ildk C hM (kl (rfl : kT 739 = (8, 116))) (rfl : kT 739 = (8, 116)) (vp_in_of2 g23) rfl dX7_carry_74 ?_
          refine lv_aload_n hx hb dX7_carry_75 rfl (lv_at hl 1 rfl) ?_
          refine gX7_32 C hM (kl (rfl : kT 731 = (6, 0))) (rfl : kT 731 = (6, 0)) (rfl : kR 731 14 = some 739) dX7_carry_76 ?_
          refine lv_iload_n hx hb dX7_carry_79 rfl (lv_at hl 0 rfl) ?_
          refine lv_iconst (v := 3) hx hb dX7_carry_80 (by decide) ?_
          refine lv_iadd hx hb dX7_carry_81 ?_
          obtain ⟨g24, heq⟩ := gd_of heq
          refine mm_ildk C hM (kl (rfl : kT 739 = (8, 116))) (rfl : kT 739 = (8, 116)) (vp_in_of2 g24) rfl dX7_carry_82 ?_
          refine lv_iconst (v := 0) hx hb dX7_carry_83 (by decide) ?_
          obtain ⟨r26, M27, e25, heq⟩ := bn2_of heq
          refine mm_ki hS (mm_runV (rest := []) C hM hS (tX7_tryWish l G M (M.1 739 y1.toNatClampNeg) (M.1 739 (y1 + 1).toNatClampNeg) (M.1 739 (y1 + 2).toNatClampNeg) (M.1 739 (y1 + 3).toNatClampNeg) false r26 M27 e25) (uX7_82 _ (Nat.le_of_ble_eq_true rfl) (Nat.le_of_ble_eq_true rfl)) (mm_recv C hM (kl (rfl : kT 731 = (6, 0))) (ci := 6) rfl (mm_e6 (rfl : kT 731 = (6, 0)))) hl.1 rfl rfl (Nat.le_of_ble_eq_true rfl) ⟨Nat.zero_le _, Nat.zero_le _⟩ dX7_carry_84) (fun H locs hM hS => ?_)
          have hM : mm_P G kR 740 M27 H := hM
          cases heq
          exact mm_iret C hM hS dX7_carry_87
        · have heq := if_f c20 heq
          refine lv_lookup (tgt := 142) (off := 132) hx hb dX7_carry_10 rfl (by show Op.lookupswitch.offset [(99, 100), (102, 78), (115, 112), (119, 42)] 132 _ = _; rw [lv_osw (a := 99) c3 rfl, lv_osw (a := 102) c8 rfl, lv_osw (a := 115) c14 rfl, lv_osw (a := 119) c20 rfl]; try rfl) (by decide) ?_
          refine lv_aload_n hx hb dX7_carry_142 rfl (lv_at hl 1 rfl) ?_
          refine lv_aload_n hx hb dX7_carry_143 rfl (lv_at hl 1 rfl) ?_
          refine gX7_32 C hM (kl (rfl : kT 731 = (6, 0))) (rfl : kT 731 = (6, 0)) (rfl : kR 731 14 = some 739) dX7_carry_144 ?_
          refine lv_iload_n hx hb dX7_carry_147 rfl (lv_at hl 0 rfl) ?_
          obtain ⟨g28, heq⟩ := gd_of heq
          refine mm_ildk C hM (kl (rfl : kT 739 = (8, 116))) (rfl : kT 739 = (8, 116)) (vp_in_of2 g28) rfl dX7_carry_148 ?_
          refine lv_iconst (v := 0) hx hb dX7_carry_149 (by decide) ?_
          obtain ⟨r30, M31, e29, heq⟩ := bn2_of heq
          refine mm_ki hS (mm_runV (rest := []) C hM hS (tX7_tryDays l G M (M.1 739 y1.toNatClampNeg) false r30 M31 e29) (uX7_172 _ (Nat.le_of_ble_eq_true rfl) (Nat.le_of_ble_eq_true rfl)) (mm_recv C hM (kl (rfl : kT 731 = (6, 0))) (ci := 6) rfl (mm_e6 (rfl : kT 731 = (6, 0)))) hl.1 rfl rfl (Nat.le_of_ble_eq_true rfl) ⟨Nat.zero_le _, Nat.zero_le _⟩ dX7_carry_150) (fun H locs hM hS => ?_)
          have hM : mm_P G kR 740 M31 H := hM
          cases heq
          exact mm_iret C hM hS dX7_carry_153

set_option maxRecDepth 100000 in
set_option maxHeartbeats 4000000 in
theorem tX7_carryOut_16 (C : mm_C G p s m args meth c RX7 cX7_carryOut 2 (some .int))  {r : Int32} {M9 : mm_M} : ∀ n : Nat, ∀ (M : mm_M) (v1 : Int32) (H : Heap) (locs : List Loc) (ls : Array Slot), mm_P G kR 740 M H → va_S (mm_A G) s.heap H locs → lv_has ls 2 [(0, .ref (mm_lo G + 731)), (1, .int v1)] → fX7_carryOut_16 n M v1 = some (r, M9) → W p l e rmX7_carryOut s m args below meth c H locs 0 0 (MQ below (mm_Qi G r (kR, 740, M9)) args s 0 0 (mm_A G)) (F0 m 16 ls []) := by
  obtain ⟨hx, hb, -, -, -, -, -, -, hZ, -⟩ := id C
  intro n
  induction n with
  | zero =>
    intro M v1 H locs ls hM hS hl heq
    rw [fX7_carryOut_16] at heq
    cases heq
  | succ n ih =>
    intro M v1 H locs ls hM hS hl heq
    rw [fX7_carryOut_16] at heq
    refine lv_iload_n hx hb dX7_carryOut_16 rfl (lv_at hl 1 rfl) ?_
    refine lv_aload_n hx hb dX7_carryOut_17 rfl (lv_at hl 0 rfl) ?_
    refine gX7_203 C hM (kl (rfl : kT 731 = (6, 0))) (rfl : kT 731 = (6, 0)) dX7_carryOut_18 ?_
    refine lv_icmp_ge (tgt := 38) hx hb dX7_carryOut_21 (by decide) (fun c1 => ?_) (fun c1 => ?_)
    · have heq := if_t c1 heq
      refine lv_aload_n hx hb dX7_carryOut_38 rfl (lv_at hl 0 rfl) ?_
      refine lv_iconst (v := 0) hx hb dX7_carryOut_39 (by decide) ?_
      refine pX7_179 C hM hS (kl (rfl : kT 731 = (6, 0))) (rfl : kT 731 = (6, 0)) dX7_carryOut_40 (fun H locs hM hS _ => ?_)
      obtain ⟨M2, eM2⟩ : ∃ z : mm_M, z = sI M 731 7 0 := ⟨_, rfl⟩
      rw [← eM2] at hM
      have heq := lt_to eM2 heq
      refine lv_iload_n hx hb dX7_carryOut_43 rfl (lv_at hl 1 rfl) ?_
      cases heq
      exact mm_iret C hM hS dX7_carryOut_44
    · have heq := if_f c1 heq
      refine lv_aload_n hx hb dX7_carryOut_24 rfl (lv_at hl 0 rfl) ?_
      refine lv_iload_n hx hb dX7_carryOut_25 rfl (lv_at hl 1 rfl) ?_
      obtain ⟨r4, M5, e3, heq⟩ := bn2_of heq
      refine mm_ki hS (mm_runV (rest := []) C hM hS (tX7_carry l G M v1 r4 M5 e3) (uX7_221 _ (Nat.le_of_ble_eq_true rfl) (Nat.le_of_ble_eq_true rfl)) (mm_recv C hM (kl (rfl : kT 731 = (6, 0))) (ci := 6) rfl (mm_e6 (rfl : kT 731 = (6, 0)))) hl.1 rfl rfl (Nat.le_of_ble_eq_true rfl) ⟨Nat.zero_le _, Nat.zero_le _⟩ dX7_carryOut_26) (fun H locs hM hS => ?_)
      have hM : mm_P G kR 740 M5 H := hM
      refine lv_if_lt (tgt := 38) hx hb dX7_carryOut_29 (by decide) (fun c6 => ?_) (fun c6 => ?_)
      · have heq := if_t c6 heq
        refine lv_aload_n hx hb dX7_carryOut_38 rfl (lv_at hl 0 rfl) ?_
        refine lv_iconst (v := 0) hx hb dX7_carryOut_39 (by decide) ?_
        refine pX7_179 C hM hS (kl (rfl : kT 731 = (6, 0))) (rfl : kT 731 = (6, 0)) dX7_carryOut_40 (fun H locs hM hS _ => ?_)
        obtain ⟨M7, eM7⟩ : ∃ z : mm_M, z = sI M5 731 7 0 := ⟨_, rfl⟩
        rw [← eM7] at hM
        have heq := lt_to eM7 heq
        refine lv_iload_n hx hb dX7_carryOut_43 rfl (lv_at hl 1 rfl) ?_
        cases heq
        exact mm_iret C hM hS dX7_carryOut_44
      · have heq := if_f c6 heq
        obtain ⟨y8, ey8⟩ : ∃ y : Int32, y = (v1 + 1) := ⟨_, rfl⟩
        have heq := lt_to ey8 heq
        refine lv_iinc (v := y8) (lv' := [(1, .int y8), (0, .ref (mm_lo G + 731))]) hx hb dX7_carryOut_32 hl (k := 1) rfl (by rw [ey8]; rfl) (by decide) rfl (fun ls hl => ?_)
        refine lv_goto (tgt := 16) hx hb dX7_carryOut_35 (by decide) ?_
        exact ih _ _ _ _ _ hM hS (lv_sub hl [1, 0] rfl) heq

set_option maxRecDepth 100000 in
set_option maxHeartbeats 4000000 in
theorem tX7_carryOut (l : Launch) (G : mm_G) (M : mm_M)  (r : Int32) (M9 : mm_M) (heq : fX7_carryOut M = some (r, M9)) : Met l yX7_carryOut (mm_ws yX7_carryOut cX7_carryOut 2 (some .int)) rmX7_carryOut (va_Pc [.ref (mm_lo G + 731)] (mm_B G (kR, 740, M))) (mm_Qi G r (kR, 740, M9)) 0 0 (mm_A G) := by
  refine mm_met (cc := cX7_carryOut) (nL := 2) (ret := (some .int)) plRX7 (Nat.le_of_ble_eq_true rfl) ?_
  intro p e s m below meth c ls hin C hM hS hl
  have C : mm_C G p s m _ meth c RX7 cX7_carryOut 2 (some .int) := C
  have hM : mm_P G kR 740 M s.heap := hM
  have hl : lv_has ls 2 [(0, .ref (mm_lo G + 731))] := hl
  obtain ⟨hx, hb, -, -, -, -, -, -, hZ, -⟩ := id C
  rw [fX7_carryOut] at heq
  refine lv_aload_n hx hb dX7_carryOut_0 rfl (lv_at hl 0 rfl) ?_
  obtain ⟨r2, M3, e1, heq⟩ := bn2_of heq
  refine mm_ki hS (mm_runV (rest := []) C hM hS (tX7_fault l G M r2 M3 e1) (uX7_218 _ (Nat.le_of_ble_eq_true rfl) (Nat.le_of_ble_eq_true rfl)) (mm_recv C hM (kl (rfl : kT 731 = (6, 0))) (ci := 6) rfl (mm_e6 (rfl : kT 731 = (6, 0)))) hl.1 rfl rfl (Nat.le_of_ble_eq_true rfl) ⟨Nat.zero_le _, Nat.zero_le _⟩ dX7_carryOut_1) (fun H locs hM hS => ?_)
  have hM : mm_P G kR 740 M3 H := hM
  refine lv_if_lt (tgt := 10) hx hb dX7_carryOut_4 (by decide) (fun c4 => ?_) (fun c4 => ?_)
  · have heq := if_t c4 heq
    refine lv_aload_n hx hb dX7_carryOut_10 rfl (lv_at hl 0 rfl) ?_
    obtain ⟨M6, e5, heq⟩ := bn_of heq
    refine mm_kv hS (mm_runV (rest := []) C hM hS (tX7_keep l G M3 M6 e5) (uX7_43 _ (Nat.le_of_ble_eq_true rfl) (Nat.le_of_ble_eq_true rfl)) (mm_recv C hM (kl (rfl : kT 731 = (6, 0))) (ci := 6) rfl (mm_e6 (rfl : kT 731 = (6, 0)))) hl.1 rfl rfl (Nat.le_of_ble_eq_true rfl) ⟨Nat.zero_le _, Nat.zero_le _⟩ dX7_carryOut_11) (fun H locs hM hS => ?_)
    have hM : mm_P G kR 740 M6 H := hM
    refine lv_iconst (v := 0) hx hb dX7_carryOut_14 (by decide) ?_
    refine lv_istore_n (lv' := [(1, .int 0), (0, .ref (mm_lo G + 731))]) hx hb dX7_carryOut_15 rfl hl (by decide) rfl (fun ls hl => ?_)
    exact tX7_carryOut_16 C FU _ _ _ _ _ hM hS (lv_sub hl [1, 0] rfl) heq
  · have heq := if_f c4 heq
    refine lv_bipush (v := (-3)) hx hb dX7_carryOut_7 (by decide) ?_
    cases heq
    exact mm_iret C hM hS dX7_carryOut_9

set_option maxRecDepth 100000 in
set_option maxHeartbeats 4000000 in
theorem tX7_undo_22 (C : mm_C G p s m args meth c RX7 cX7_undo 2 (some .int))  {r : Int32} {M9 : mm_M} : ∀ n : Nat, ∀ (M : mm_M) (v1 : Int32) (H : Heap) (locs : List Loc) (ls : Array Slot), mm_P G kR 740 M H → va_S (mm_A G) s.heap H locs → lv_has ls 2 [(0, .ref (mm_lo G + 731)), (1, .int v1)] → fX7_undo_22 n M v1 = some (r, M9) → W p l e rmX7_undo s m args below meth c H locs 0 0 (MQ below (mm_Qi G r (kR, 740, M9)) args s 0 0 (mm_A G)) (F0 m 22 ls []) := by
  obtain ⟨hx, hb, -, -, -, -, -, -, hZ, -⟩ := id C
  intro n
  induction n with
  | zero =>
    intro M v1 H locs ls hM hS hl heq
    rw [fX7_undo_22] at heq
    cases heq
  | succ n ih =>
    intro M v1 H locs ls hM hS hl heq
    rw [fX7_undo_22] at heq
    refine lv_iload_n hx hb dX7_undo_22 rfl (lv_at hl 1 rfl) ?_
    refine lv_sipush (v := 3592) hx hb dX7_undo_23 (by decide) ?_
    refine lv_icmp_ge (tgt := 56) hx hb dX7_undo_26 (by decide) (fun c1 => ?_) (fun c1 => ?_)
    · have heq := if_t c1 heq
      refine lv_aload_n hx hb dX7_undo_56 rfl (lv_at hl 0 rfl) ?_
      refine gX7_39 C hM (kl (rfl : kT 731 = (6, 0))) (rfl : kT 731 = (6, 0)) dX7_undo_57 ?_
      cases heq
      exact mm_iret C hM hS dX7_undo_60
    · have heq := if_f c1 heq
      refine lv_aload_n hx hb dX7_undo_29 rfl (lv_at hl 0 rfl) ?_
      refine gX7_7 C hM (kl (rfl : kT 731 = (6, 0))) (rfl : kT 731 = (6, 0)) (rfl : kR 731 0 = some 732) dX7_undo_30 ?_
      refine lv_iload_n hx hb dX7_undo_33 rfl (lv_at hl 1 rfl) ?_
      refine lv_aload_n hx hb dX7_undo_34 rfl (lv_at hl 0 rfl) ?_
      refine gX7_13 C hM (kl (rfl : kT 731 = (6, 0))) (rfl : kT 731 = (6, 0)) (rfl : kR 731 1 = some 733) dX7_undo_35 ?_
      refine lv_sipush (v := 3592) hx hb dX7_undo_38 (by decide) ?_
      refine lv_aload_n hx hb dX7_undo_41 rfl (lv_at hl 0 rfl) ?_
      refine gX7_39 C hM (kl (rfl : kT 731 = (6, 0))) (rfl : kT 731 = (6, 0)) dX7_undo_42 ?_
      refine lv_imul hx hb dX7_undo_45 ?_
      refine lv_iload_n hx hb dX7_undo_46 rfl (lv_at hl 1 rfl) ?_
      refine lv_iadd hx hb dX7_undo_47 ?_
      obtain ⟨g2, heq⟩ := gd_of heq
      refine mm_ildk C hM (kl (rfl : kT 733 = (8, 21552))) (rfl : kT 733 = (8, 21552)) (vp_in_of2 g2) rfl dX7_undo_48 ?_
      obtain ⟨g3, heq⟩ := gd_of heq
      refine mm_istk C hM hS (kl (rfl : kT 732 = (8, 3592))) (rfl : kT 732 = (8, 3592)) (vp_in_of2 g3) rfl dX7_undo_49 (fun H locs hM hS _ => ?_)
      obtain ⟨M4, eM4⟩ : ∃ z : mm_M, z = sI M 732 v1.toNatClampNeg (M.1 733 ((3592 * (M.1 731 2)) + v1).toNatClampNeg) := ⟨_, rfl⟩
      rw [← eM4] at hM
      have heq := lt_to eM4 heq
      obtain ⟨y5, ey5⟩ : ∃ y : Int32, y = (v1 + 1) := ⟨_, rfl⟩
      have heq := lt_to ey5 heq
      refine lv_iinc (v := y5) (lv' := [(1, .int y5), (0, .ref (mm_lo G + 731))]) hx hb dX7_undo_50 hl (k := 1) rfl (by rw [ey5]; rfl) (by decide) rfl (fun ls hl => ?_)
      refine lv_goto (tgt := 22) hx hb dX7_undo_53 (by decide) ?_
      exact ih _ _ _ _ _ hM hS (lv_sub hl [1, 0] rfl) heq

set_option maxRecDepth 100000 in
set_option maxHeartbeats 4000000 in
theorem tX7_undo (l : Launch) (G : mm_G) (M : mm_M)  (r : Int32) (M9 : mm_M) (heq : fX7_undo M = some (r, M9)) : Met l yX7_undo (mm_ws yX7_undo cX7_undo 2 (some .int)) rmX7_undo (va_Pc [.ref (mm_lo G + 731)] (mm_B G (kR, 740, M))) (mm_Qi G r (kR, 740, M9)) 0 0 (mm_A G) := by
  refine mm_met (cc := cX7_undo) (nL := 2) (ret := (some .int)) plRX7 (Nat.le_of_ble_eq_true rfl) ?_
  intro p e s m below meth c ls hin C hM hS hl
  have C : mm_C G p s m _ meth c RX7 cX7_undo 2 (some .int) := C
  have hM : mm_P G kR 740 M s.heap := hM
  have hl : lv_has ls 2 [(0, .ref (mm_lo G + 731))] := hl
  obtain ⟨hx, hb, -, -, -, -, -, -, hZ, -⟩ := id C
  rw [fX7_undo] at heq
  refine lv_aload_n hx hb dX7_undo_0 rfl (lv_at hl 0 rfl) ?_
  refine gX7_39 C hM (kl (rfl : kT 731 = (6, 0))) (rfl : kT 731 = (6, 0)) dX7_undo_1 ?_
  refine lv_if_ne (tgt := 10) hx hb dX7_undo_4 (by decide) (fun c1 => ?_) (fun c1 => ?_)
  · have heq := if_f c1 heq
    refine lv_aload_n hx hb dX7_undo_10 rfl (lv_at hl 0 rfl) ?_
    refine lv_dup hx hb dX7_undo_11 rfl ?_
    refine gX7_39 C hM (kl (rfl : kT 731 = (6, 0))) (rfl : kT 731 = (6, 0)) dX7_undo_12 ?_
    refine lv_iconst (v := 1) hx hb dX7_undo_15 (by decide) ?_
    refine lv_isub hx hb dX7_undo_16 ?_
    refine pX7_39 C hM hS (kl (rfl : kT 731 = (6, 0))) (rfl : kT 731 = (6, 0)) dX7_undo_17 (fun H locs hM hS _ => ?_)
    obtain ⟨M2, eM2⟩ : ∃ z : mm_M, z = sI M 731 2 ((M.1 731 2) - 1) := ⟨_, rfl⟩
    rw [← eM2] at hM
    have heq := lt_to eM2 heq
    refine lv_iconst (v := 0) hx hb dX7_undo_20 (by decide) ?_
    refine lv_istore_n (lv' := [(1, .int 0), (0, .ref (mm_lo G + 731))]) hx hb dX7_undo_21 rfl hl (by decide) rfl (fun ls hl => ?_)
    exact tX7_undo_22 C FU _ _ _ _ _ hM hS (lv_sub hl [1, 0] rfl) heq
  · have heq := if_t c1 heq
    refine lv_bipush (v := (-5)) hx hb dX7_undo_7 (by decide) ?_
    cases heq
    exact mm_iret C hM hS dX7_undo_9
end WALK
