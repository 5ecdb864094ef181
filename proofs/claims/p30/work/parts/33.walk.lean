section WALK
variable {p : Program} {l : Launch} {e : Env} {s : State} {m : MethodId} {args : Array Value} {below : List Frame} {meth : Method} {c : Code} {G : mm_G}
set_option maxRecDepth 100000 in
set_option maxHeartbeats 4000000 in
theorem tX7_save_14 (C : mm_C G p s m args meth c RX7 cX7_save 3 (some .int)) (x1 : Int32) {r : Int32} {M9 : mm_M} : ∀ n : Nat, ∀ (M : mm_M) (v2 : Int32) (H : Heap) (locs : List Loc) (ls : Array Slot), mm_P G kR 740 M H → va_S (mm_A G) s.heap H locs → lv_has ls 3 [(0, .ref (mm_lo G + 731)), (1, .int x1), (2, .int v2)] → fX7_save_14 x1 n M v2 = some (r, M9) → W p l e rmX7_save s m args below meth c H locs 0 0 (MQ below (mm_Qi G r (kR, 740, M9)) args s 0 0 (mm_A G)) (F0 m 14 ls []) := by
  obtain ⟨hx, hb, -, -, -, -, -, -, hZ, -⟩ := id C
  intro n
  induction n with
  | zero =>
    intro M v2 H locs ls hM hS hl heq
    rw [fX7_save_14] at heq
    cases heq
  | succ n ih =>
    intro M v2 H locs ls hM hS hl heq
    rw [fX7_save_14] at heq
    refine lv_iload_n hx hb dX7_save_14 rfl (lv_at hl 2 rfl) ?_
    refine lv_sipush (v := 3592) hx hb dX7_save_15 (by decide) ?_
    refine lv_icmp_ge (tgt := 45) hx hb dX7_save_18 (by decide) (fun c1 => ?_) (fun c1 => ?_)
    · have heq := if_t c1 heq
      refine lv_aload_n hx hb dX7_save_45 rfl (lv_at hl 0 rfl) ?_
      refine gX7_19 C hM (kl (rfl : kT 731 = (6, 0))) (rfl : kT 731 = (6, 0)) (rfl : kR 731 4 = some 735) dX7_save_46 ?_
      refine lv_iload_n hx hb dX7_save_49 rfl (lv_at hl 1 rfl) ?_
      refine lv_iconst (v := 1) hx hb dX7_save_50 (by decide) ?_
      obtain ⟨g2, heq⟩ := gd_of heq
      refine mm_zstk C hM hS (kl (rfl : kT 735 = (9, 2))) (rfl : kT 735 = (9, 2)) (vp_in_of2 g2) rfl rfl dX7_save_51 (fun H locs hM hS _ => ?_)
      obtain ⟨M3, eM3⟩ : ∃ z : mm_M, z = sI M 735 x1.toNatClampNeg 1 := ⟨_, rfl⟩
      rw [← eM3] at hM
      have heq := lt_to eM3 heq
      refine lv_aload_n hx hb dX7_save_52 rfl (lv_at hl 0 rfl) ?_
      refine gX7_7 C hM (kl (rfl : kT 731 = (6, 0))) (rfl : kT 731 = (6, 0)) (rfl : kR 731 0 = some 732) dX7_save_53 ?_
      refine lv_bipush (v := 10) hx hb dX7_save_56 (by decide) ?_
      refine mm_ildk C hM (kl (rfl : kT 732 = (8, 3592))) (rfl : kT 732 = (8, 3592)) (vp_in_of2 (by decide)) (by decide : (10 : Int32).toNatClampNeg = 10) dX7_save_58 ?_
      cases heq
      exact mm_iret C hM hS dX7_save_59
    · have heq := if_f c1 heq
      refine lv_aload_n hx hb dX7_save_21 rfl (lv_at hl 0 rfl) ?_
      refine gX7_16 C hM (kl (rfl : kT 731 = (6, 0))) (rfl : kT 731 = (6, 0)) (rfl : kR 731 3 = some 734) dX7_save_22 ?_
      refine lv_sipush (v := 3592) hx hb dX7_save_25 (by decide) ?_
      refine lv_iload_n hx hb dX7_save_28 rfl (lv_at hl 1 rfl) ?_
      refine lv_imul hx hb dX7_save_29 ?_
      refine lv_iload_n hx hb dX7_save_30 rfl (lv_at hl 2 rfl) ?_
      refine lv_iadd hx hb dX7_save_31 ?_
      refine lv_aload_n hx hb dX7_save_32 rfl (lv_at hl 0 rfl) ?_
      refine gX7_7 C hM (kl (rfl : kT 731 = (6, 0))) (rfl : kT 731 = (6, 0)) (rfl : kR 731 0 = some 732) dX7_save_33 ?_
      refine lv_iload_n hx hb dX7_save_36 rfl (lv_at hl 2 rfl) ?_
      obtain ⟨g4, heq⟩ := gd_of heq
      refine mm_ildk C hM (kl (rfl : kT 732 = (8, 3592))) (rfl : kT 732 = (8, 3592)) (vp_in_of2 g4) rfl dX7_save_37 ?_
      obtain ⟨g5, heq⟩ := gd_of heq
      refine mm_istk C hM hS (kl (rfl : kT 734 = (8, 7184))) (rfl : kT 734 = (8, 7184)) (vp_in_of2 g5) rfl dX7_save_38 (fun H locs hM hS _ => ?_)
      obtain ⟨M6, eM6⟩ : ∃ z : mm_M, z = sI M 734 ((3592 * x1) + v2).toNatClampNeg (M.1 732 v2.toNatClampNeg) := ⟨_, rfl⟩
      rw [← eM6] at hM
      have heq := lt_to eM6 heq
      obtain ⟨y7, ey7⟩ : ∃ y : Int32, y = (v2 + 1) := ⟨_, rfl⟩
      have heq := lt_to ey7 heq
      refine lv_iinc (v := y7) (lv' := [(2, .int y7), (0, .ref (mm_lo G + 731)), (1, .int x1)]) hx hb dX7_save_39 hl (k := 2) rfl (by rw [ey7]; rfl) (by decide) rfl (fun ls hl => ?_)
      refine lv_goto (tgt := 14) hx hb dX7_save_42 (by decide) ?_
      exact ih _ _ _ _ _ hM hS (lv_sub hl [1, 2, 0] rfl) heq

set_option maxRecDepth 100000 in
set_option maxHeartbeats 4000000 in
theorem tX7_save (l : Launch) (G : mm_G) (M : mm_M) (x1 : Int32) (r : Int32) (M9 : mm_M) (heq : fX7_save M x1 = some (r, M9)) : Met l yX7_save (mm_ws yX7_save cX7_save 3 (some .int)) rmX7_save (va_Pc [.ref (mm_lo G + 731), .int x1] (mm_B G (kR, 740, M))) (mm_Qi G r (kR, 740, M9)) 0 0 (mm_A G) := by
  refine mm_met (cc := cX7_save) (nL := 3) (ret := (some .int)) plRX7 (Nat.le_of_ble_eq_true rfl) ?_
  intro p e s m below meth c ls hin C hM hS hl
  have C : mm_C G p s m _ meth c RX7 cX7_save 3 (some .int) := C
  have hM : mm_P G kR 740 M s.heap := hM
  have hl : lv_has ls 3 [(0, .ref (mm_lo G + 731)), (1, .int x1)] := hl
  obtain ⟨hx, hb, -, -, -, -, -, -, hZ, -⟩ := id C
  rw [fX7_save] at heq
  refine lv_iload_n hx hb dX7_save_0 rfl (lv_at hl 1 rfl) ?_
  refine lv_iconst (v := 0) hx hb dX7_save_1 (by decide) ?_
  refine lv_iconst (v := 1) hx hb dX7_save_2 (by decide) ?_
  obtain ⟨r2, e1, heq⟩ := bn_of heq
  refine mm_ki hS (mm_runS (rest := []) C hM hS (tX7_in l G M x1 0 1 r2 e1) (uX7_35 _ (Nat.le_of_ble_eq_true rfl) (Nat.le_of_ble_eq_true rfl)) hl.1 rfl rfl (Nat.le_of_ble_eq_true rfl) ⟨Nat.zero_le _, Nat.zero_le _⟩ dX7_save_3) (fun H locs hM hS => ?_)
  have hM : mm_P G kR 740 M H := hM
  refine mm_ifneZ (tgt := 12) C dX7_save_6 (by decide) (fun c3 => ?_) (fun c3 => ?_)
  · have heq := if_t c3 heq
    refine lv_iconst (v := 0) hx hb dX7_save_12 (by decide) ?_
    refine lv_istore_n (lv' := [(2, .int 0), (0, .ref (mm_lo G + 731)), (1, .int x1)]) hx hb dX7_save_13 rfl hl (by decide) rfl (fun ls hl => ?_)
    exact tX7_save_14 C x1 FU _ _ _ _ _ hM hS (lv_sub hl [1, 2, 0] rfl) heq
  · have heq := if_f c3 heq
    refine lv_bipush (v := (-2)) hx hb dX7_save_9 (by decide) ?_
    cases heq
    exact mm_iret C hM hS dX7_save_11

set_option maxRecDepth 100000 in
set_option maxHeartbeats 4000000 in
theorem tX7_restore_30 (C : mm_C G p s m args meth c RX7 cX7_restore 3 (some .int)) (x1 : Int32) {r : Int32} {M9 : mm_M} : ∀ n : Nat, ∀ (M : mm_M) (v2 : Int32) (H : Heap) (locs : List Loc) (ls : Array Slot), mm_P G kR 740 M H → va_S (mm_A G) s.heap H locs → lv_has ls 3 [(0, .ref (mm_lo G + 731)), (1, .int x1), (2, .int v2)] → fX7_restore_30 x1 n M v2 = some (r, M9) → W p l e rmX7_restore s m args below meth c H locs 0 0 (MQ below (mm_Qi G r (kR, 740, M9)) args s 0 0 (mm_A G)) (F0 m 30 ls []) := by
  obtain ⟨hx, hb, -, -, -, -, -, -, hZ, -⟩ := id C
  intro n
  induction n with
  | zero =>
    intro M v2 H locs ls hM hS hl heq
    rw [fX7_restore_30] at heq
    cases heq
  | succ n ih =>
    intro M v2 H locs ls hM hS hl heq
    rw [fX7_restore_30] at heq
    refine lv_iload_n hx hb dX7_restore_30 rfl (lv_at hl 2 rfl) ?_
    refine lv_sipush (v := 3592) hx hb dX7_restore_31 (by decide) ?_
    refine lv_icmp_ge (tgt := 61) hx hb dX7_restore_34 (by decide) (fun c1 => ?_) (fun c1 => ?_)
    · have heq := if_t c1 heq
      refine lv_aload_n hx hb dX7_restore_61 rfl (lv_at hl 0 rfl) ?_
      refine gX7_7 C hM (kl (rfl : kT 731 = (6, 0))) (rfl : kT 731 = (6, 0)) (rfl : kR 731 0 = some 732) dX7_restore_62 ?_
      refine lv_bipush (v := 10) hx hb dX7_restore_65 (by decide) ?_
      refine mm_ildk C hM (kl (rfl : kT 732 = (8, 3592))) (rfl : kT 732 = (8, 3592)) (vp_in_of2 (by decide)) (by decide : (10 : Int32).toNatClampNeg = 10) dX7_restore_67 ?_
      cases heq
      exact mm_iret C hM hS dX7_restore_68
    · have heq := if_f c1 heq
      refine lv_aload_n hx hb dX7_restore_37 rfl (lv_at hl 0 rfl) ?_
      refine gX7_7 C hM (kl (rfl : kT 731 = (6, 0))) (rfl : kT 731 = (6, 0)) (rfl : kR 731 0 = some 732) dX7_restore_38 ?_
      refine lv_iload_n hx hb dX7_restore_41 rfl (lv_at hl 2 rfl) ?_
      refine lv_aload_n hx hb dX7_restore_42 rfl (lv_at hl 0 rfl) ?_
      refine gX7_16 C hM (kl (rfl : kT 731 = (6, 0))) (rfl : kT 731 = (6, 0)) (rfl : kR 731 3 = some 734) dX7_restore_43 ?_
      refine lv_sipush (v := 3592) hx hb dX7_restore_46 (by decide) ?_
      refine lv_iload_n hx hb dX7_restore_49 rfl (lv_at hl 1 rfl) ?_
      refine lv_imul hx hb dX7_restore_50 ?_
      refine lv_iload_n hx hb dX7_restore_51 rfl (lv_at hl 2 rfl) ?_
      refine lv_iadd hx hb dX7_restore_52 ?_
      obtain ⟨g2, heq⟩ := gd_of heq
      refine mm_ildk C hM (kl (rfl : kT 734 = (8, 7184))) (rfl : kT 734 = (8, 7184)) (vp_in_of2 g2) rfl dX7_restore_53 ?_
      obtain ⟨g3, heq⟩ := gd_of heq
      refine mm_istk C hM hS (kl (rfl : kT 732 = (8, 3592))) (rfl : kT 732 = (8, 3592)) (vp_in_of2 g3) rfl dX7_restore_54 (fun H locs hM hS _ => ?_)
      obtain ⟨M4, eM4⟩ : ∃ z : mm_M, z = sI M 732 v2.toNatClampNeg (M.1 734 ((3592 * x1) + v2).toNatClampNeg) := ⟨_, rfl⟩
      rw [← eM4] at hM
      have heq := lt_to eM4 heq
      obtain ⟨y5, ey5⟩ : ∃ y : Int32, y = (v2 + 1) := ⟨_, rfl⟩
      have heq := lt_to ey5 heq
      refine lv_iinc (v := y5) (lv' := [(2, .int y5), (0, .ref (mm_lo G + 731)), (1, .int x1)]) hx hb dX7_restore_55 hl (k := 2) rfl (by rw [ey5]; rfl) (by decide) rfl (fun ls hl => ?_)
      refine lv_goto (tgt := 30) hx hb dX7_restore_58 (by decide) ?_
      exact ih _ _ _ _ _ hM hS (lv_sub hl [1, 2, 0] rfl) heq

set_option maxRecDepth 100000 in
set_option maxHeartbeats 4000000 in
theorem tX7_restore (l : Launch) (G : mm_G) (M : mm_M) (x1 : Int32) (r : Int32) (M9 : mm_M) (heq : fX7_restore M x1 = some (r, M9)) : Met l yX7_restore (mm_ws yX7_restore cX7_restore 3 (some .int)) rmX7_restore (va_Pc [.ref (mm_lo G + 731), .int x1] (mm_B G (kR, 740, M))) (mm_Qi G r (kR, 740, M9)) 0 0 (mm_A G) := by
  refine mm_met (cc := cX7_restore) (nL := 3) (ret := (some .int)) plRX7 (Nat.le_of_ble_eq_true rfl) ?_
  intro p e s m below meth c ls hin C hM hS hl
  have C : mm_C G p s m _ meth c RX7 cX7_restore 3 (some .int) := C
  have hM : mm_P G kR 740 M s.heap := hM
  have hl : lv_has ls 3 [(0, .ref (mm_lo G + 731)), (1, .int x1)] := hl
  obtain ⟨hx, hb, -, -, -, -, -, -, hZ, -⟩ := id C
  rw [fX7_restore] at heq
  refine lv_iload_n hx hb dX7_restore_0 rfl (lv_at hl 1 rfl) ?_
  refine lv_iconst (v := 0) hx hb dX7_restore_1 (by decide) ?_
  refine lv_iconst (v := 1) hx hb dX7_restore_2 (by decide) ?_
  obtain ⟨r2, e1, heq⟩ := bn_of heq
  refine mm_ki hS (mm_runS (rest := []) C hM hS (tX7_in l G M x1 0 1 r2 e1) (uX7_35 _ (Nat.le_of_ble_eq_true rfl) (Nat.le_of_ble_eq_true rfl)) hl.1 rfl rfl (Nat.le_of_ble_eq_true rfl) ⟨Nat.zero_le _, Nat.zero_le _⟩ dX7_restore_3) (fun H locs hM hS => ?_)
  have hM : mm_P G kR 740 M H := hM
  refine mm_ifneZ (tgt := 12) C dX7_restore_6 (by decide) (fun c3 => ?_) (fun c3 => ?_)
  · have heq := if_t c3 heq
    refine lv_aload_n hx hb dX7_restore_12 rfl (lv_at hl 0 rfl) ?_
    refine gX7_19 C hM (kl (rfl : kT 731 = (6, 0))) (rfl : kT 731 = (6, 0)) (rfl : kR 731 4 = some 735) dX7_restore_13 ?_
    refine lv_iload_n hx hb dX7_restore_16 rfl (lv_at hl 1 rfl) ?_
    obtain ⟨g4, heq⟩ := gd_of heq
    refine mm_zldk C hM (kl (rfl : kT 735 = (9, 2))) (rfl : kT 735 = (9, 2)) (vp_in_of2 g4) rfl dX7_restore_17 ?_
    refine lv_if_ne (tgt := 24) hx hb dX7_restore_18 (by decide) (fun c5 => ?_) (fun c5 => ?_)
    · have heq := if_f c5 heq
      refine lv_aload_n hx hb dX7_restore_24 rfl (lv_at hl 0 rfl) ?_
      obtain ⟨M7, e6, heq⟩ := bn_of heq
      refine mm_kv hS (mm_runV (rest := []) C hM hS (tX7_keep l G M M7 e6) (uX7_43 _ (Nat.le_of_ble_eq_true rfl) (Nat.le_of_ble_eq_true rfl)) (mm_recv C hM (kl (rfl : kT 731 = (6, 0))) (ci := 6) rfl (mm_e6 (rfl : kT 731 = (6, 0)))) hl.1 rfl rfl (Nat.le_of_ble_eq_true rfl) ⟨Nat.zero_le _, Nat.zero_le _⟩ dX7_restore_25) (fun H locs hM hS => ?_)
      have hM : mm_P G kR 740 M7 H := hM
      refine lv_iconst (v := 0) hx hb dX7_restore_28 (by decide) ?_
      refine lv_istore_n (lv' := [(2, .int 0), (0, .ref (mm_lo G + 731)), (1, .int x1)]) hx hb dX7_restore_29 rfl hl (by decide) rfl (fun ls hl => ?_)
      exact tX7_restore_30 C x1 FU _ _ _ _ _ hM hS (lv_sub hl [1, 2, 0] rfl) heq
    · have heq := if_t c5 heq
      refine lv_bipush (v := (-5)) hx hb dX7_restore_21 (by decide) ?_
      cases heq
      exact mm_iret C hM hS dX7_restore_23
  · have heq := if_f c3 heq
    refine lv_bipush (v := (-2)) hx hb dX7_restore_9 (by decide) ?_
    cases heq
    exact mm_iret C hM hS dX7_restore_11
end WALK
