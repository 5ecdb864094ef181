section WALK
variable {p : Program} {l : Launch} {e : Env} {s : State} {m : MethodId} {args : Array Value} {below : List Frame} {meth : Method} {c : Code} {G : mm_G}
set_option maxRecDepth 100000 in
set_option maxHeartbeats 4000000 in
theorem tX6_whyNot_50 (C : mm_C G p s m args meth c RX6 cX6_whyNot 4 (some .int)) (x1 : Int32) (x2 : Int32) (M : mm_M) {r : Int32} : ∀ (H : Heap) (locs : List Loc) (ls : Array Slot), mm_P G kR 740 M H → va_S (mm_A G) s.heap H locs → lv_has ls 4 [(0, .ref (mm_lo G + 0)), (1, .int x1), (2, .int x2)] → fX6_whyNot_50 x1 x2 M = some r → W p l e rmX6_whyNot s m args below meth c H locs 0 0 (MQ below (mm_Qi G r (kR, 740, M)) args s 0 0 (mm_A G)) (F0 m 50 ls []) := by
  obtain ⟨hx, hb, -, -, -, -, -, -, hZ, -⟩ := id C
  intro H locs ls hM hS hl heq
  rw [fX6_whyNot_50] at heq
  refine lv_aload_n hx hb dX6_whyNot_50 rfl (lv_at hl 0 rfl) ?_
  refine gX6_10 C hM (kl (rfl : kT 0 = (5, 0))) (rfl : kT 0 = (5, 0)) (rfl : kR 0 0 = some 1) dX6_whyNot_51 ?_
  refine lv_iload_n hx hb dX6_whyNot_54 rfl (lv_at hl 1 rfl) ?_
  refine lv_iload_n hx hb dX6_whyNot_55 rfl (lv_at hl 2 rfl) ?_
  obtain ⟨r2, e1, heq⟩ := bn_of heq
  refine mm_ki hS (mm_runV (rest := []) C hM hS (tX5_sameKindBeside l G M 1 (rfl : kT 1 = (4, 0)) x1 x2 r2 e1) (uX6_230 _ (Nat.le_of_ble_eq_true rfl) (Nat.le_of_ble_eq_true rfl)) (mm_recv C hM (kl (rfl : kT 1 = (4, 0))) (ci := 4) rfl (mm_e4 (rfl : kT 1 = (4, 0)))) hl.1 rfl rfl (Nat.le_of_ble_eq_true rfl) ⟨Nat.zero_le _, Nat.zero_le _⟩ dX6_whyNot_56) (fun H locs hM hS => ?_)
  have hM : mm_P G kR 740 M H := hM
  refine mm_ifeqZ (tgt := 66) C dX6_whyNot_59 (by decide) (fun c3 => ?_) (fun c3 => ?_)
  · have heq := if_f c3 heq
    refine lv_iconst (v := 0) hx hb dX6_whyNot_66 (by decide) ?_
    cases heq
    exact mm_iret C hM hS dX6_whyNot_67
  · have heq := if_t c3 heq
    refine lv_iconst (v := 2) hx hb dX6_whyNot_62 (by decide) ?_
    refine lv_goto (tgt := 67) hx hb dX6_whyNot_63 (by decide) ?_
    cases heq
    exact mm_iret C hM hS dX6_whyNot_67

set_option maxRecDepth 100000 in
set_option maxHeartbeats 4000000 in
theorem tX6_whyNot (l : Launch) (G : mm_G) (M : mm_M) (x1 : Int32) (x2 : Int32) (r : Int32) (heq : fX6_whyNot M x1 x2 = some r) : Met l yX6_whyNot (mm_ws yX6_whyNot cX6_whyNot 4 (some .int)) rmX6_whyNot (va_Pc [.ref (mm_lo G + 0), .int x1, .int x2] (mm_B G (kR, 740, M))) (mm_Qi G r (kR, 740, M)) 0 0 (mm_A G) := by
  refine mm_met (cc := cX6_whyNot) (nL := 4) (ret := (some .int)) plRX6 (Nat.le_of_ble_eq_true rfl) ?_
  intro p e s m below meth c ls hin C hM hS hl
  have C : mm_C G p s m _ meth c RX6 cX6_whyNot 4 (some .int) := C
  have hM : mm_P G kR 740 M s.heap := hM
  have hl : lv_has ls 4 [(0, .ref (mm_lo G + 0)), (1, .int x1), (2, .int x2)] := hl
  obtain ⟨hx, hb, -, -, -, -, -, -, hZ, -⟩ := id C
  rw [fX6_whyNot] at heq
  refine lv_aload_n hx hb dX6_whyNot_0 rfl (lv_at hl 0 rfl) ?_
  refine gX6_10 C hM (kl (rfl : kT 0 = (5, 0))) (rfl : kT 0 = (5, 0)) (rfl : kR 0 0 = some 1) dX6_whyNot_1 ?_
  refine lv_iload_n hx hb dX6_whyNot_4 rfl (lv_at hl 1 rfl) ?_
  obtain ⟨r2, e1, heq⟩ := bn_of heq
  refine mm_ki hS (mm_runV (rest := []) C hM hS (tX5_hasCart l G M 1 (rfl : kT 1 = (4, 0)) x1 r2 e1) (uX6_85 _ (Nat.le_of_ble_eq_true rfl) (Nat.le_of_ble_eq_true rfl)) (mm_recv C hM (kl (rfl : kT 1 = (4, 0))) (ci := 4) rfl (mm_e4 (rfl : kT 1 = (4, 0)))) hl.1 rfl rfl (Nat.le_of_ble_eq_true rfl) ⟨Nat.zero_le _, Nat.zero_le _⟩ dX6_whyNot_5) (fun H locs hM hS => ?_)
  have hM : mm_P G kR 740 M H := hM
  refine mm_ifeqZ (tgt := 22) C dX6_whyNot_8 (by decide) (fun c3 => ?_) (fun c3 => ?_)
  · have heq := if_f c3 heq
    refine lv_iconst (v := (-1)) hx hb dX6_whyNot_22 (by decide) ?_
    cases heq
    exact mm_iret C hM hS dX6_whyNot_23
  · have heq := if_t c3 heq
    refine lv_aload_n hx hb dX6_whyNot_11 rfl (lv_at hl 0 rfl) ?_
    refine gX6_10 C hM (kl (rfl : kT 0 = (5, 0))) (rfl : kT 0 = (5, 0)) (rfl : kR 0 0 = some 1) dX6_whyNot_12 ?_
    refine lv_iload_n hx hb dX6_whyNot_15 rfl (lv_at hl 2 rfl) ?_
    obtain ⟨r5, e4, heq⟩ := bn_of heq
    refine mm_ki hS (mm_runV (rest := []) C hM hS (tX5_hasPitch l G M 1 (rfl : kT 1 = (4, 0)) x2 r5 e4) (uX6_175 _ (Nat.le_of_ble_eq_true rfl) (Nat.le_of_ble_eq_true rfl)) (mm_recv C hM (kl (rfl : kT 1 = (4, 0))) (ci := 4) rfl (mm_e4 (rfl : kT 1 = (4, 0)))) hl.1 rfl rfl (Nat.le_of_ble_eq_true rfl) ⟨Nat.zero_le _, Nat.zero_le _⟩ dX6_whyNot_16) (fun H locs hM hS => ?_)
    have hM : mm_P G kR 740 M H := hM
    refine mm_ifneZ (tgt := 24) C dX6_whyNot_19 (by decide) (fun c6 => ?_) (fun c6 => ?_)
    · have heq := if_t c6 heq
      refine lv_aload_n hx hb dX6_whyNot_24 rfl (lv_at hl 0 rfl) ?_
      refine gX6_10 C hM (kl (rfl : kT 0 = (5, 0))) (rfl : kT 0 = (5, 0)) (rfl : kR 0 0 = some 1) dX6_whyNot_25 ?_
      refine gX6_178 C hM (kl (rfl : kT 1 = (4, 0))) (rfl : kT 1 = (4, 0)) (rS_8 (rfl : kT 1 = (4, 0))) dX6_whyNot_28 ?_
      refine lv_iload_n hx hb dX6_whyNot_31 rfl (lv_at hl 2 rfl) ?_
      obtain ⟨g7, heq⟩ := gd_of heq
      refine mm_ald C hM (kl (kS_8 (rfl : kT 1 = (4, 0)))) (Or.inr (Or.inl rfl)) (kS_8 (rfl : kT 1 = (4, 0))) (vp_in_of2 g7) (rS_pitch (rfl : kT 1 = (4, 0)) (vp_lt g7)) dX6_whyNot_32 ?_
      refine gX6_193 C hM (kl (kS_pitch (rfl : kT 1 = (4, 0)) (vp_lt g7))) (kS_pitch (rfl : kT 1 = (4, 0)) (vp_lt g7)) dX6_whyNot_33 ?_
      refine lv_topi (fun y8 ey8 => ?_)
      have heq := lt_to ey8 heq
      refine lv_istore_n (lv' := [(3, .int y8), (0, .ref (mm_lo G + 0)), (1, .int x1), (2, .int x2)]) hx hb dX6_whyNot_36 rfl hl (by decide) rfl (fun ls hl => ?_)
      refine lv_iload_n hx hb dX6_whyNot_37 rfl (lv_at hl 0 rfl) ?_
      refine lv_bipush (v := (-6)) hx hb dX6_whyNot_38 (by decide) ?_
      refine lv_icmp_eq (tgt := 50) hx hb dX6_whyNot_40 (by decide) (fun c9 => ?_) (fun c9 => ?_)
      · have heq := if_t c9 heq
        exact tX6_whyNot_50 C x1 x2 M _ _ _ hM hS (lv_sub hl [1, 2, 3] rfl) heq
      · have heq := if_f c9 heq
        refine lv_iload_n hx hb dX6_whyNot_43 rfl (lv_at hl 0 rfl) ?_
        refine lv_iload_n hx hb dX6_whyNot_44 rfl (lv_at hl 2 rfl) ?_
        refine lv_icmp_eq (tgt := 50) hx hb dX6_whyNot_45 (by decide) (fun c10 => ?_) (fun c10 => ?_)
        · have heq := if_t c10 heq
          exact tX6_whyNot_50 C x1 x2 M _ _ _ hM hS (lv_sub hl [1, 2, 3] rfl) heq
        · have heq := if_f c10 heq
          refine lv_iconst (v := 1) hx hb dX6_whyNot_48 (by decide) ?_
          cases heq
          exact mm_iret C hM hS dX6_whyNot_49
    · have heq := if_f c6 heq
      refine lv_iconst (v := (-1)) hx hb dX6_whyNot_22 (by decide) ?_
      cases heq
      exact mm_iret C hM hS dX6_whyNot_23

set_option maxRecDepth 100000 in
set_option maxHeartbeats 4000000 in
theorem tX6_put (l : Launch) (G : mm_G) (M : mm_M) (x1 : Int64) (r : Int32) (M9 : mm_M) (heq : fX6_put M x1 = some (r, M9)) : Met l yX6_put (mm_ws yX6_put cX6_put 3 (some .int)) rmX6_put (va_Pc [.ref (mm_lo G + 0), .long x1] (mm_B G (kR, 740, M))) (mm_Qi G r (kR, 740, M9)) 0 0 (mm_A G) := by
  refine mm_met (cc := cX6_put) (nL := 3) (ret := (some .int)) plRX6 (Nat.le_of_ble_eq_true rfl) ?_
  intro p e s m below meth c ls hin C hM hS hl
  have C : mm_C G p s m _ meth c RX6 cX6_put 3 (some .int) := C
  have hM : mm_P G kR 740 M s.heap := hM
  have hl : lv_has ls 3 [(0, .ref (mm_lo G + 0)), (1, .long x1)] := hl
  obtain ⟨hx, hb, -, -, -, -, -, -, hZ, -⟩ := id C
  rw [fX6_put] at heq
  refine lv_aload_n hx hb dX6_put_0 rfl (lv_at hl 0 rfl) ?_
  refine gX6_35 C hM (kl (rfl : kT 0 = (5, 0))) (rfl : kT 0 = (5, 0)) (rfl : kR 0 5 = some 729) dX6_put_1 ?_
  refine lv_lload_n hx hb dX6_put_4 rfl (lv_at hl 1 rfl) ?_
  obtain ⟨r2, M3, e1, heq⟩ := bn2_of heq
  refine mm_ki hS (mm_runV (rest := []) C hM hS (tX3_append l G M 729 (rfl : kT 729 = (2, 0)) x1 r2 M3 e1) (uX6_234 _ (Nat.le_of_ble_eq_true rfl) (Nat.le_of_ble_eq_true rfl)) (mm_recv C hM (kl (rfl : kT 729 = (2, 0))) (ci := 2) rfl (mm_e2 (rfl : kT 729 = (2, 0)))) hl.1 rfl rfl (Nat.le_of_ble_eq_true rfl) ⟨Nat.zero_le _, Nat.zero_le _⟩ dX6_put_5) (fun H locs hM hS => ?_)
  have hM : mm_P G kR 740 M3 H := hM
  cases heq
  exact mm_iret C hM hS dX6_put_8

set_option maxRecDepth 100000 in
set_option maxHeartbeats 4000000 in
theorem tX6_wipe (l : Launch) (G : mm_G) (M : mm_M)  (r : Int32) (M9 : mm_M) (heq : fX6_wipe M = some (r, M9)) : Met l yX6_wipe (mm_ws yX6_wipe cX6_wipe 2 (some .int)) rmX6_wipe (va_Pc [.ref (mm_lo G + 0)] (mm_B G (kR, 740, M))) (mm_Qi G r (kR, 740, M9)) 0 0 (mm_A G) := by
  refine mm_met (cc := cX6_wipe) (nL := 2) (ret := (some .int)) plRX6 (Nat.le_of_ble_eq_true rfl) ?_
  intro p e s m below meth c ls hin C hM hS hl
  have C : mm_C G p s m _ meth c RX6 cX6_wipe 2 (some .int) := C
  have hM : mm_P G kR 740 M s.heap := hM
  have hl : lv_has ls 2 [(0, .ref (mm_lo G + 0))] := hl
  obtain ⟨hx, hb, -, -, -, -, -, -, hZ, -⟩ := id C
  rw [fX6_wipe] at heq
  refine lv_aload_n hx hb dX6_wipe_0 rfl (lv_at hl 0 rfl) ?_
  refine gX6_35 C hM (kl (rfl : kT 0 = (5, 0))) (rfl : kT 0 = (5, 0)) (rfl : kR 0 5 = some 729) dX6_wipe_1 ?_
  refine gX6_212 C hM (kl (rfl : kT 729 = (2, 0))) (rfl : kT 729 = (2, 0)) dX6_wipe_4 ?_
  refine lv_topi (fun y1 ey1 => ?_)
  have heq := lt_to ey1 heq
  refine lv_istore_n (lv' := [(1, .int y1), (0, .ref (mm_lo G + 0))]) hx hb dX6_wipe_7 rfl hl (by decide) rfl (fun ls hl => ?_)
  refine lv_aload_n hx hb dX6_wipe_8 rfl (lv_at hl 1 rfl) ?_
  refine gX6_35 C hM (kl (rfl : kT 0 = (5, 0))) (rfl : kT 0 = (5, 0)) (rfl : kR 0 5 = some 729) dX6_wipe_9 ?_
  refine lv_iconst (v := 0) hx hb dX6_wipe_12 (by decide) ?_
  refine pX6_212 C hM hS (kl (rfl : kT 729 = (2, 0))) (rfl : kT 729 = (2, 0)) dX6_wipe_13 (fun H locs hM hS _ => ?_)
  obtain ⟨M2, eM2⟩ : ∃ z : mm_M, z = sI M 729 1 0 := ⟨_, rfl⟩
  rw [← eM2] at hM
  have heq := lt_to eM2 heq
  refine lv_iload_n hx hb dX6_wipe_16 rfl (lv_at hl 0 rfl) ?_
  cases heq
  exact mm_iret C hM hS dX6_wipe_17

set_option maxRecDepth 100000 in
set_option maxHeartbeats 4000000 in
theorem tX6_fault (l : Launch) (G : mm_G) (M : mm_M)  (r : Int32) (heq : fX6_fault M = some r) : Met l yX6_fault (mm_ws yX6_fault cX6_fault 1 (some .int)) rmX6_fault (va_Pc [.ref (mm_lo G + 0)] (mm_B G (kR, 740, M))) (mm_Qi G r (kR, 740, M)) 0 0 (mm_A G) := by
  refine mm_met (cc := cX6_fault) (nL := 1) (ret := (some .int)) plRX6 (Nat.le_of_ble_eq_true rfl) ?_
  intro p e s m below meth c ls hin C hM hS hl
  have C : mm_C G p s m _ meth c RX6 cX6_fault 1 (some .int) := C
  have hM : mm_P G kR 740 M s.heap := hM
  have hl : lv_has ls 1 [(0, .ref (mm_lo G + 0))] := hl
  obtain ⟨hx, hb, -, -, -, -, -, -, hZ, -⟩ := id C
  rw [fX6_fault] at heq
  refine lv_aload_n hx hb dX6_fault_0 rfl (lv_at hl 0 rfl) ?_
  refine gX6_35 C hM (kl (rfl : kT 0 = (5, 0))) (rfl : kT 0 = (5, 0)) (rfl : kR 0 5 = some 729) dX6_fault_1 ?_
  obtain ⟨r2, e1, heq⟩ := bn_of heq
  refine mm_ki hS (mm_runV (rest := []) C hM hS (tX3_findFault l G M 729 (rfl : kT 729 = (2, 0)) r2 e1) (uX6_238 _ (Nat.le_of_ble_eq_true rfl) (Nat.le_of_ble_eq_true rfl)) (mm_recv C hM (kl (rfl : kT 729 = (2, 0))) (ci := 2) rfl (mm_e2 (rfl : kT 729 = (2, 0)))) hl.1 rfl rfl (Nat.le_of_ble_eq_true rfl) ⟨Nat.zero_le _, Nat.zero_le _⟩ dX6_fault_4) (fun H locs hM hS => ?_)
  have hM : mm_P G kR 740 M H := hM
  cases heq
  exact mm_iret C hM hS dX6_fault_7

set_option maxRecDepth 100000 in
set_option maxHeartbeats 4000000 in
theorem tX6_performOrder (l : Launch) (G : mm_G) (M : mm_M) (x1 : Int32) (x2 : Int32) (r : Int32) (M9 : mm_M) (heq : fX6_performOrder M x1 x2 = some (r, M9)) : Met l yX6_performOrder (mm_ws yX6_performOrder cX6_performOrder 4 (some .int)) rmX6_performOrder (va_Pc [.ref (mm_lo G + 0), .int x1, .int x2] (mm_B G (kR, 740, M))) (mm_Qi G r (kR, 740, M9)) 0 0 (mm_A G) := by
  refine mm_met (cc := cX6_performOrder) (nL := 4) (ret := (some .int)) plRX6 (Nat.le_of_ble_eq_true rfl) ?_
  intro p e s m below meth c ls hin C hM hS hl
  have C : mm_C G p s m _ meth c RX6 cX6_performOrder 4 (some .int) := C
  have hM : mm_P G kR 740 M s.heap := hM
  have hl : lv_has ls 4 [(0, .ref (mm_lo G + 0)), (1, .int x1), (2, .int x2)] := hl
  obtain ⟨hx, hb, -, -, -, -, -, -, hZ, -⟩ := id C
  rw [fX6_performOrder] at heq
  refine lv_aload_n hx hb dX6_performOrder_0 rfl (lv_at hl 0 rfl) ?_
  refine gX6_35 C hM (kl (rfl : kT 0 = (5, 0))) (rfl : kT 0 = (5, 0)) (rfl : kR 0 5 = some 729) dX6_performOrder_1 ?_
  refine lv_iload_n hx hb dX6_performOrder_4 rfl (lv_at hl 1 rfl) ?_
  refine lv_iconst (v := 1) hx hb dX6_performOrder_5 (by decide) ?_
  refine lv_iadd hx hb dX6_performOrder_6 ?_
  obtain ⟨r2, e1, heq⟩ := bn_of heq
  refine mm_ki hS (mm_runV (rest := []) C hM hS (tX3_signAt l G M 729 (rfl : kT 729 = (2, 0)) (x1 + 1) r2 e1) (uX6_247 _ (Nat.le_of_ble_eq_true rfl) (Nat.le_of_ble_eq_true rfl)) (mm_recv C hM (kl (rfl : kT 729 = (2, 0))) (ci := 2) rfl (mm_e2 (rfl : kT 729 = (2, 0)))) hl.1 rfl rfl (Nat.le_of_ble_eq_true rfl) ⟨Nat.zero_le _, Nat.zero_le _⟩ dX6_performOrder_7) (fun H locs hM hS => ?_)
  have hM : mm_P G kR 740 M H := hM
  refine lv_bipush (v := 65) hx hb dX6_performOrder_10 (by decide) ?_
  refine lv_isub hx hb dX6_performOrder_12 ?_
  refine lv_topi (fun y3 ey3 => ?_)
  have heq := lt_to ey3 heq
  refine lv_istore_n (lv' := [(3, .int y3), (0, .ref (mm_lo G + 0)), (1, .int x1), (2, .int x2)]) hx hb dX6_performOrder_13 rfl hl (by decide) rfl (fun ls hl => ?_)
  refine lv_aload_n hx hb dX6_performOrder_14 rfl (lv_at hl 1 rfl) ?_
  refine gX6_35 C hM (kl (rfl : kT 0 = (5, 0))) (rfl : kT 0 = (5, 0)) (rfl : kR 0 5 = some 729) dX6_performOrder_15 ?_
  refine lv_iload_n hx hb dX6_performOrder_18 rfl (lv_at hl 2 rfl) ?_
  obtain ⟨r5, e4, heq⟩ := bn_of heq
  refine mm_ki hS (mm_runV (rest := []) C hM hS (tX3_signAt l G M 729 (rfl : kT 729 = (2, 0)) x1 r5 e4) (uX6_247 _ (Nat.le_of_ble_eq_true rfl) (Nat.le_of_ble_eq_true rfl)) (mm_recv C hM (kl (rfl : kT 729 = (2, 0))) (ci := 2) rfl (mm_e2 (rfl : kT 729 = (2, 0)))) hl.1 rfl rfl (Nat.le_of_ble_eq_true rfl) ⟨Nat.zero_le _, Nat.zero_le _⟩ dX6_performOrder_19) (fun H locs hM hS => ?_)
  have hM : mm_P G kR 740 M H := hM
  by_cases c6 : r5 = 99
  · have heq := if_t c6 heq
    refine lv_lookup (tgt := 126) (off := 104) hx hb dX6_performOrder_22 rfl (by rw [c6]; try rfl) (by decide) ?_
    refine lv_aload_n hx hb dX6_performOrder_126 rfl (lv_at hl 1 rfl) ?_
    refine gX6_10 C hM (kl (rfl : kT 0 = (5, 0))) (rfl : kT 0 = (5, 0)) (rfl : kR 0 0 = some 1) dX6_performOrder_127 ?_
    refine lv_iload_n hx hb dX6_performOrder_130 rfl (lv_at hl 0 rfl) ?_
    obtain ⟨r8, M9, e7, heq⟩ := bn2_of heq
    refine mm_ki hS (mm_runV (rest := []) C hM hS (tX5_askCheck l G M 1 (rfl : kT 1 = (4, 0)) y3 r8 M9 e7) (uX6_70 _ (Nat.le_of_ble_eq_true rfl) (Nat.le_of_ble_eq_true rfl)) (mm_recv C hM (kl (rfl : kT 1 = (4, 0))) (ci := 4) rfl (mm_e4 (rfl : kT 1 = (4, 0)))) hl.1 rfl rfl (Nat.le_of_ble_eq_true rfl) ⟨Nat.zero_le _, Nat.zero_le _⟩ dX6_performOrder_131) (fun H locs hM hS => ?_)
    have hM : mm_P G kR 740 M9 H := hM
    cases heq
    exact mm_iret C hM hS dX6_performOrder_134
  · have heq := if_f c6 heq
    by_cases c10 : r5 = 102
    · have heq := if_t c10 heq
      refine lv_lookup (tgt := 106) (off := 84) hx hb dX6_performOrder_22 rfl (by rw [c10]; try rfl) (by decide) ?_
      refine lv_aload_n hx hb dX6_performOrder_106 rfl (lv_at hl 1 rfl) ?_
      refine gX6_10 C hM (kl (rfl : kT 0 = (5, 0))) (rfl : kT 0 = (5, 0)) (rfl : kR 0 0 = some 1) dX6_performOrder_107 ?_
      refine lv_iload_n hx hb dX6_performOrder_110 rfl (lv_at hl 0 rfl) ?_
      refine lv_aload_n hx hb dX6_performOrder_111 rfl (lv_at hl 1 rfl) ?_
      refine gX6_35 C hM (kl (rfl : kT 0 = (5, 0))) (rfl : kT 0 = (5, 0)) (rfl : kR 0 5 = some 729) dX6_performOrder_112 ?_
      refine lv_iload_n hx hb dX6_performOrder_115 rfl (lv_at hl 2 rfl) ?_
      refine lv_iconst (v := 2) hx hb dX6_performOrder_116 (by decide) ?_
      refine lv_iadd hx hb dX6_performOrder_117 ?_
      refine lv_iload_n hx hb dX6_performOrder_118 rfl (lv_at hl 3 rfl) ?_
      obtain ⟨r12, e11, heq⟩ := bn_of heq
      refine mm_ki hS (mm_runV (rest := [.int y3, .ref (mm_lo G + 1)]) C hM hS (tX3_numberAt l G M 729 (rfl : kT 729 = (2, 0)) (x1 + 2) x2 r12 e11) (uX6_252 _ (Nat.le_of_ble_eq_true rfl) (Nat.le_of_ble_eq_true rfl)) (mm_recv C hM (kl (rfl : kT 729 = (2, 0))) (ci := 2) rfl (mm_e2 (rfl : kT 729 = (2, 0)))) hl.1 rfl rfl (Nat.le_of_ble_eq_true rfl) ⟨Nat.zero_le _, Nat.zero_le _⟩ dX6_performOrder_119) (fun H locs hM hS => ?_)
      have hM : mm_P G kR 740 M H := hM
      obtain ⟨r14, M15, e13, heq⟩ := bn2_of heq
      refine mm_ki hS (mm_runV (rest := []) C hM hS (tX5_punish l G M 1 (rfl : kT 1 = (4, 0)) y3 r12 r14 M15 e13) (uX6_67 _ (Nat.le_of_ble_eq_true rfl) (Nat.le_of_ble_eq_true rfl)) (mm_recv C hM (kl (rfl : kT 1 = (4, 0))) (ci := 4) rfl (mm_e4 (rfl : kT 1 = (4, 0)))) hl.1 rfl rfl (Nat.le_of_ble_eq_true rfl) ⟨Nat.zero_le _, Nat.zero_le _⟩ dX6_performOrder_122) (fun H locs hM hS => ?_)
      have hM : mm_P G kR 740 M15 H := hM
      cases heq
      exact mm_iret C hM hS dX6_performOrder_125
    · have heq := if_f c10 heq
      by_cases c16 : r5 = 115
      · have heq := if_t c16 heq
        refine lv_lookup (tgt := 135) (off := 113) hx hb dX6_performOrder_22 rfl (by rw [c16]; try rfl) (by decide) ?_
        refine lv_aload_n hx hb dX6_performOrder_135 rfl (lv_at hl 1 rfl) ?_
        refine gX6_10 C hM (kl (rfl : kT 0 = (5, 0))) (rfl : kT 0 = (5, 0)) (rfl : kR 0 0 = some 1) dX6_performOrder_136 ?_
        refine lv_iload_n hx hb dX6_performOrder_139 rfl (lv_at hl 0 rfl) ?_
        refine lv_aload_n hx hb dX6_performOrder_140 rfl (lv_at hl 1 rfl) ?_
        refine gX6_35 C hM (kl (rfl : kT 0 = (5, 0))) (rfl : kT 0 = (5, 0)) (rfl : kR 0 5 = some 729) dX6_performOrder_141 ?_
        refine lv_iload_n hx hb dX6_performOrder_144 rfl (lv_at hl 2 rfl) ?_
        refine lv_iconst (v := 2) hx hb dX6_performOrder_145 (by decide) ?_
        refine lv_iadd hx hb dX6_performOrder_146 ?_
        obtain ⟨r18, e17, heq⟩ := bn_of heq
        refine mm_ki hS (mm_runV (rest := [.int y3, .ref (mm_lo G + 1)]) C hM hS (tX3_signAt l G M 729 (rfl : kT 729 = (2, 0)) (x1 + 2) r18 e17) (uX6_247 _ (Nat.le_of_ble_eq_true rfl) (Nat.le_of_ble_eq_true rfl)) (mm_recv C hM (kl (rfl : kT 729 = (2, 0))) (ci := 2) rfl (mm_e2 (rfl : kT 729 = (2, 0)))) hl.1 rfl rfl (Nat.le_of_ble_eq_true rfl) ⟨Nat.zero_le _, Nat.zero_le _⟩ dX6_performOrder_147) (fun H locs hM hS => ?_)
        have hM : mm_P G kR 740 M H := hM
        refine lv_bipush (v := 65) hx hb dX6_performOrder_150 (by decide) ?_
        refine lv_isub hx hb dX6_performOrder_152 ?_
        obtain ⟨r20, M21, e19, heq⟩ := bn2_of heq
        refine mm_ki hS (mm_runV (rest := []) C hM hS (tX5_askSwap l G M 1 (rfl : kT 1 = (4, 0)) y3 (r18 - 65) r20 M21 e19) (uX6_73 _ (Nat.le_of_ble_eq_true rfl) (Nat.le_of_ble_eq_true rfl)) (mm_recv C hM (kl (rfl : kT 1 = (4, 0))) (ci := 4) rfl (mm_e4 (rfl : kT 1 = (4, 0)))) hl.1 rfl rfl (Nat.le_of_ble_eq_true rfl) ⟨Nat.zero_le _, Nat.zero_le _⟩ dX6_performOrder_153) (fun H locs hM hS => ?_)
        have hM : mm_P G kR 740 M21 H := hM
        cases heq
        exact mm_iret C hM hS dX6_performOrder_156
      · have heq := if_f c16 heq
        by_cases c22 : r5 = 119
        · have heq := if_t c22 heq
          refine lv_lookup (tgt := 64) (off := 42) hx hb dX6_performOrder_22 rfl (by rw [c22]; try rfl) (by decide) ?_
          refine lv_aload_n hx hb dX6_performOrder_64 rfl (lv_at hl 1 rfl) ?_
          refine gX6_10 C hM (kl (rfl : kT 0 = (5, 0))) (rfl : kT 0 = (5, 0)) (rfl : kR 0 0 = some 1) dX6_performOrder_65 ?_
          refine lv_iload_n hx hb dX6_performOrder_68 rfl (lv_at hl 0 rfl) ?_
          refine lv_aload_n hx hb dX6_performOrder_69 rfl (lv_at hl 1 rfl) ?_
          refine gX6_35 C hM (kl (rfl : kT 0 = (5, 0))) (rfl : kT 0 = (5, 0)) (rfl : kR 0 5 = some 729) dX6_performOrder_70 ?_
          refine lv_iload_n hx hb dX6_performOrder_73 rfl (lv_at hl 2 rfl) ?_
          refine lv_iconst (v := 2) hx hb dX6_performOrder_74 (by decide) ?_
          refine lv_iadd hx hb dX6_performOrder_75 ?_
          refine lv_iload_n hx hb dX6_performOrder_76 rfl (lv_at hl 3 rfl) ?_
          obtain ⟨r24, e23, heq⟩ := bn_of heq
          refine mm_ki hS (mm_runV (rest := [.int y3, .ref (mm_lo G + 1)]) C hM hS (tX3_wishAt l G M 729 (rfl : kT 729 = (2, 0)) (x1 + 2) x2 r24 e23) (uX6_250 _ (Nat.le_of_ble_eq_true rfl) (Nat.le_of_ble_eq_true rfl)) (mm_recv C hM (kl (rfl : kT 729 = (2, 0))) (ci := 2) rfl (mm_e2 (rfl : kT 729 = (2, 0)))) hl.1 rfl rfl (Nat.le_of_ble_eq_true rfl) ⟨Nat.zero_le _, Nat.zero_le _⟩ dX6_performOrder_77) (fun H locs hM hS => ?_)
          have hM : mm_P G kR 740 M H := hM
          refine lv_aload_n hx hb dX6_performOrder_80 rfl (lv_at hl 1 rfl) ?_
          refine gX6_35 C hM (kl (rfl : kT 0 = (5, 0))) (rfl : kT 0 = (5, 0)) (rfl : kR 0 5 = some 729) dX6_performOrder_81 ?_
          refine lv_iload_n hx hb dX6_performOrder_84 rfl (lv_at hl 2 rfl) ?_
          refine lv_iconst (v := 3) hx hb dX6_performOrder_85 (by decide) ?_
          refine lv_iadd hx hb dX6_performOrder_86 ?_
          refine lv_iload_n hx hb dX6_performOrder_87 rfl (lv_at hl 3 rfl) ?_
          obtain ⟨r26, e25, heq⟩ := bn_of heq
          refine mm_ki hS (mm_runV (rest := [.int r24, .int y3, .ref (mm_lo G + 1)]) C hM hS (tX3_wishAt l G M 729 (rfl : kT 729 = (2, 0)) (x1 + 3) x2 r26 e25) (uX6_250 _ (Nat.le_of_ble_eq_true rfl) (Nat.le_of_ble_eq_true rfl)) (mm_recv C hM (kl (rfl : kT 729 = (2, 0))) (ci := 2) rfl (mm_e2 (rfl : kT 729 = (2, 0)))) hl.1 rfl rfl (Nat.le_of_ble_eq_true rfl) ⟨Nat.zero_le _, Nat.zero_le _⟩ dX6_performOrder_88) (fun H locs hM hS => ?_)
          have hM : mm_P G kR 740 M H := hM
          refine lv_aload_n hx hb dX6_performOrder_91 rfl (lv_at hl 1 rfl) ?_
          refine gX6_35 C hM (kl (rfl : kT 0 = (5, 0))) (rfl : kT 0 = (5, 0)) (rfl : kR 0 5 = some 729) dX6_performOrder_92 ?_
          refine lv_iload_n hx hb dX6_performOrder_95 rfl (lv_at hl 2 rfl) ?_
          refine lv_iconst (v := 4) hx hb dX6_performOrder_96 (by decide) ?_
          refine lv_iadd hx hb dX6_performOrder_97 ?_
          refine lv_iload_n hx hb dX6_performOrder_98 rfl (lv_at hl 3 rfl) ?_
          obtain ⟨r28, e27, heq⟩ := bn_of heq
          refine mm_ki hS (mm_runV (rest := [.int r26, .int r24, .int y3, .ref (mm_lo G + 1)]) C hM hS (tX3_wishAt l G M 729 (rfl : kT 729 = (2, 0)) (x1 + 4) x2 r28 e27) (uX6_250 _ (Nat.le_of_ble_eq_true rfl) (Nat.le_of_ble_eq_true rfl)) (mm_recv C hM (kl (rfl : kT 729 = (2, 0))) (ci := 2) rfl (mm_e2 (rfl : kT 729 = (2, 0)))) hl.1 rfl rfl (Nat.le_of_ble_eq_true rfl) ⟨Nat.zero_le _, Nat.zero_le _⟩ dX6_performOrder_99) (fun H locs hM hS => ?_)
          have hM : mm_P G kR 740 M H := hM
          obtain ⟨r30, M31, e29, heq⟩ := bn2_of heq
          refine mm_ki hS (mm_runV (rest := []) C hM hS (tX5_tellWishes l G M 1 (rfl : kT 1 = (4, 0)) y3 r24 r26 r28 r30 M31 e29) (uX6_63 _ (Nat.le_of_ble_eq_true rfl) (Nat.le_of_ble_eq_true rfl)) (mm_recv C hM (kl (rfl : kT 1 = (4, 0))) (ci := 4) rfl (mm_e4 (rfl : kT 1 = (4, 0)))) hl.1 rfl rfl (Nat.le_of_ble_eq_true rfl) ⟨Nat.zero_le _, Nat.zero_le _⟩ dX6_performOrder_102) (fun H locs hM hS => ?_)
          have hM : mm_P G kR 740 M31 H := hM
          cases heq
          exact mm_iret C hM hS dX6_performOrder_105
        · have heq := if_f c22 heq
          refine lv_lookup (tgt := 157) (off := 135) hx hb dX6_performOrder_22 rfl (by show Op.lookupswitch.offset [(99, 104), (102, 84), (115, 113), (119, 42)] 135 _ = _; rw [lv_osw (a := 99) c6 rfl, lv_osw (a := 102) c10 rfl, lv_osw (a := 115) c16 rfl, lv_osw (a := 119) c22 rfl]; try rfl) (by decide) ?_
          refine lv_aload_n hx hb dX6_performOrder_157 rfl (lv_at hl 1 rfl) ?_
          refine gX6_10 C hM (kl (rfl : kT 0 = (5, 0))) (rfl : kT 0 = (5, 0)) (rfl : kR 0 0 = some 1) dX6_performOrder_158 ?_
          refine lv_aload_n hx hb dX6_performOrder_161 rfl (lv_at hl 1 rfl) ?_
          refine gX6_35 C hM (kl (rfl : kT 0 = (5, 0))) (rfl : kT 0 = (5, 0)) (rfl : kR 0 5 = some 729) dX6_performOrder_162 ?_
          refine lv_iload_n hx hb dX6_performOrder_165 rfl (lv_at hl 2 rfl) ?_
          refine lv_iconst (v := 1) hx hb dX6_performOrder_166 (by decide) ?_
          refine lv_iadd hx hb dX6_performOrder_167 ?_
          refine lv_iload_n hx hb dX6_performOrder_168 rfl (lv_at hl 3 rfl) ?_
          obtain ⟨r33, e32, heq⟩ := bn_of heq
          refine mm_ki hS (mm_runV (rest := [.ref (mm_lo G + 1)]) C hM hS (tX3_numberAt l G M 729 (rfl : kT 729 = (2, 0)) (x1 + 1) x2 r33 e32) (uX6_252 _ (Nat.le_of_ble_eq_true rfl) (Nat.le_of_ble_eq_true rfl)) (mm_recv C hM (kl (rfl : kT 729 = (2, 0))) (ci := 2) rfl (mm_e2 (rfl : kT 729 = (2, 0)))) hl.1 rfl rfl (Nat.le_of_ble_eq_true rfl) ⟨Nat.zero_le _, Nat.zero_le _⟩ dX6_performOrder_169) (fun H locs hM hS => ?_)
          have hM : mm_P G kR 740 M H := hM
          obtain ⟨r35, M36, e34, heq⟩ := bn2_of heq
          refine mm_ki hS (mm_runV (rest := []) C hM hS (tX5_passDays l G M 1 (rfl : kT 1 = (4, 0)) r33 r35 M36 e34) (uX6_79 _ (Nat.le_of_ble_eq_true rfl) (Nat.le_of_ble_eq_true rfl)) (mm_recv C hM (kl (rfl : kT 1 = (4, 0))) (ci := 4) rfl (mm_e4 (rfl : kT 1 = (4, 0)))) hl.1 rfl rfl (Nat.le_of_ble_eq_true rfl) ⟨Nat.zero_le _, Nat.zero_le _⟩ dX6_performOrder_172) (fun H locs hM hS => ?_)
          have hM : mm_P G kR 740 M36 H := hM
          cases heq
          exact mm_iret C hM hS dX6_performOrder_175

set_option maxRecDepth 100000 in
set_option maxHeartbeats 4000000 in
theorem tX6_carryOut_82 (C : mm_C G p s m args meth c RX6 cX6_carryOut 4 (some .int))  {r : Int32} {M9 : mm_M} : ∀ (M : mm_M) (v1 : Int32) (H : Heap) (locs : List Loc) (ls : Array Slot), mm_P G kR 740 M H → va_S (mm_A G) s.heap H locs → lv_has ls 4 [(0, .ref (mm_lo G + 0)), (1, .int v1)] → fX6_carryOut_82 M v1 = some (r, M9) → W p l e rmX6_carryOut s m args below meth c H locs 0 0 (MQ below (mm_Qi G r (kR, 740, M9)) args s 0 0 (mm_A G)) (F0 m 82 ls []) := by
  obtain ⟨hx, hb, -, -, -, -, -, -, hZ, -⟩ := id C
  intro M v1 H locs ls hM hS hl heq
  rw [fX6_carryOut_82] at heq
  refine lv_aload_n hx hb dX6_carryOut_82 rfl (lv_at hl 0 rfl) ?_
  refine gX6_35 C hM (kl (rfl : kT 0 = (5, 0))) (rfl : kT 0 = (5, 0)) (rfl : kR 0 5 = some 729) dX6_carryOut_83 ?_
  refine lv_iconst (v := 0) hx hb dX6_carryOut_86 (by decide) ?_
  refine pX6_212 C hM hS (kl (rfl : kT 729 = (2, 0))) (rfl : kT 729 = (2, 0)) dX6_carryOut_87 (fun H locs hM hS _ => ?_)
  obtain ⟨M1, eM1⟩ : ∃ z : mm_M, z = sI M 729 1 0 := ⟨_, rfl⟩
  rw [← eM1] at hM
  have heq := lt_to eM1 heq
  refine lv_aload_n hx hb dX6_carryOut_90 rfl (lv_at hl 0 rfl) ?_
  refine lv_iload_n hx hb dX6_carryOut_91 rfl (lv_at hl 1 rfl) ?_
  obtain ⟨r3, M4, e2, heq⟩ := bn2_of heq
  refine mm_ki hS (mm_runV (rest := []) C hM hS (tX6_recorded l G M1 v1 r3 M4 e2) (uX6_47 _ (Nat.le_of_ble_eq_true rfl) (Nat.le_of_ble_eq_true rfl)) (mm_recv C hM (kl (rfl : kT 0 = (5, 0))) (ci := 5) rfl (mm_e5 (rfl : kT 0 = (5, 0)))) hl.1 rfl rfl (Nat.le_of_ble_eq_true rfl) ⟨Nat.zero_le _, Nat.zero_le _⟩ dX6_carryOut_92) (fun H locs hM hS => ?_)
  have hM : mm_P G kR 740 M4 H := hM
  cases heq
  exact mm_iret C hM hS dX6_carryOut_95

set_option maxRecDepth 100000 in
set_option maxHeartbeats 4000000 in
theorem tX6_carryOut_32 (C : mm_C G p s m args meth c RX6 cX6_carryOut 4 (some .int))  {r : Int32} {M9 : mm_M} : ∀ n : Nat, ∀ (M : mm_M) (v1 : Int32) (v2 : Int32) (v3 : Int32) (H : Heap) (locs : List Loc) (ls : Array Slot), mm_P G kR 740 M H → va_S (mm_A G) s.heap H locs → lv_has ls 4 [(0, .ref (mm_lo G + 0)), (1, .int v1), (2, .int v2), (3, .int v3)] → fX6_carryOut_32 n M v1 v2 v3 = some (r, M9) → W p l e rmX6_carryOut s m args below meth c H locs 0 0 (MQ below (mm_Qi G r (kR, 740, M9)) args s 0 0 (mm_A G)) (F0 m 32 ls []) := by
  obtain ⟨hx, hb, -, -, -, -, -, -, hZ, -⟩ := id C
  intro n
  induction n with
  | zero =>
    intro M v1 v2 v3 H locs ls hM hS hl heq
    rw [fX6_carryOut_32] at heq
    cases heq
  | succ n ih =>
    intro M v1 v2 v3 H locs ls hM hS hl heq
    rw [fX6_carryOut_32] at heq
    refine lv_iload_n hx hb dX6_carryOut_32 rfl (lv_at hl 3 rfl) ?_
    refine lv_aload_n hx hb dX6_carryOut_33 rfl (lv_at hl 0 rfl) ?_
    refine gX6_35 C hM (kl (rfl : kT 0 = (5, 0))) (rfl : kT 0 = (5, 0)) (rfl : kR 0 5 = some 729) dX6_carryOut_34 ?_
    refine gX6_212 C hM (kl (rfl : kT 729 = (2, 0))) (rfl : kT 729 = (2, 0)) dX6_carryOut_37 ?_
    refine lv_icmp_gt (tgt := 82) hx hb dX6_carryOut_40 (by decide) (fun c1 => ?_) (fun c1 => ?_)
    · have heq := if_t c1 heq
      exact tX6_carryOut_82 C _ _ _ _ _ hM hS (lv_sub hl [0, 1] rfl) heq
    · have heq := if_f c1 heq
      refine lv_aload_n hx hb dX6_carryOut_43 rfl (lv_at hl 0 rfl) ?_
      refine gX6_35 C hM (kl (rfl : kT 0 = (5, 0))) (rfl : kT 0 = (5, 0)) (rfl : kR 0 5 = some 729) dX6_carryOut_44 ?_
      refine lv_iload_n hx hb dX6_carryOut_47 rfl (lv_at hl 3 rfl) ?_
      obtain ⟨r3, e2, heq⟩ := bn_of heq
      refine mm_ki hS (mm_runV (rest := []) C hM hS (tX3_endsOrder l G M 729 (rfl : kT 729 = (2, 0)) v3 r3 e2) (uX6_241 _ (Nat.le_of_ble_eq_true rfl) (Nat.le_of_ble_eq_true rfl)) (mm_recv C hM (kl (rfl : kT 729 = (2, 0))) (ci := 2) rfl (mm_e2 (rfl : kT 729 = (2, 0)))) hl.1 rfl rfl (Nat.le_of_ble_eq_true rfl) ⟨Nat.zero_le _, Nat.zero_le _⟩ dX6_carryOut_48) (fun H locs hM hS => ?_)
      have hM : mm_P G kR 740 M H := hM
      refine mm_ifneZ (tgt := 57) C dX6_carryOut_51 (by decide) (fun c4 => ?_) (fun c4 => ?_)
      · have heq := if_t c4 heq
        refine lv_aload_n hx hb dX6_carryOut_57 rfl (lv_at hl 0 rfl) ?_
        refine lv_iload_n hx hb dX6_carryOut_58 rfl (lv_at hl 2 rfl) ?_
        refine lv_iload_n hx hb dX6_carryOut_59 rfl (lv_at hl 3 rfl) ?_
        obtain ⟨r6, M7, e5, heq⟩ := bn2_of heq
        refine mm_ki hS (mm_runV (rest := []) C hM hS (tX6_performOrder l G M v2 v3 r6 M7 e5) (uX6_244 _ (Nat.le_of_ble_eq_true rfl) (Nat.le_of_ble_eq_true rfl)) (mm_recv C hM (kl (rfl : kT 0 = (5, 0))) (ci := 5) rfl (mm_e5 (rfl : kT 0 = (5, 0)))) hl.1 rfl rfl (Nat.le_of_ble_eq_true rfl) ⟨Nat.zero_le _, Nat.zero_le _⟩ dX6_carryOut_60) (fun H locs hM hS => ?_)
        have hM : mm_P G kR 740 M7 H := hM
        refine lv_if_ge (tgt := 69) hx hb dX6_carryOut_63 (by decide) (fun c8 => ?_) (fun c8 => ?_)
        · have heq := if_t c8 heq
          obtain ⟨y9, ey9⟩ : ∃ y : Int32, y = (v1 + 1) := ⟨_, rfl⟩
          have heq := lt_to ey9 heq
          refine lv_iinc (v := y9) (lv' := [(1, .int y9), (0, .ref (mm_lo G + 0)), (2, .int v2), (3, .int v3)]) hx hb dX6_carryOut_69 hl (k := 1) rfl (by rw [ey9]; rfl) (by decide) rfl (fun ls hl => ?_)
          refine lv_iload_n hx hb dX6_carryOut_72 rfl (lv_at hl 3 rfl) ?_
          refine lv_iconst (v := 1) hx hb dX6_carryOut_73 (by decide) ?_
          refine lv_iadd hx hb dX6_carryOut_74 ?_
          refine lv_topi (fun y10 ey10 => ?_)
          have heq := lt_to ey10 heq
          refine lv_istore_n (lv' := [(2, .int y10), (1, .int y9), (0, .ref (mm_lo G + 0)), (3, .int v3)]) hx hb dX6_carryOut_75 rfl hl (by decide) rfl (fun ls hl => ?_)
          obtain ⟨y11, ey11⟩ : ∃ y : Int32, y = (v3 + 1) := ⟨_, rfl⟩
          have heq := lt_to ey11 heq
          refine lv_iinc (v := y11) (lv' := [(3, .int y11), (2, .int y10), (1, .int y9), (0, .ref (mm_lo G + 0))]) hx hb dX6_carryOut_76 hl (k := 3) rfl (by rw [ey11]; rfl) (by decide) rfl (fun ls hl => ?_)
          refine lv_goto (tgt := 32) hx hb dX6_carryOut_79 (by decide) ?_
          exact ih _ _ _ _ _ _ _ hM hS (lv_sub hl [3, 2, 1, 0] rfl) heq
        · have heq := if_f c8 heq
          refine lv_goto (tgt := 82) hx hb dX6_carryOut_66 (by decide) ?_
          exact tX6_carryOut_82 C _ _ _ _ _ hM hS (lv_sub hl [0, 1] rfl) heq
      · have heq := if_f c4 heq
        refine lv_goto (tgt := 76) hx hb dX6_carryOut_54 (by decide) ?_
        obtain ⟨y12, ey12⟩ : ∃ y : Int32, y = (v3 + 1) := ⟨_, rfl⟩
        have heq := lt_to ey12 heq
        refine lv_iinc (v := y12) (lv' := [(3, .int y12), (0, .ref (mm_lo G + 0)), (1, .int v1), (2, .int v2)]) hx hb dX6_carryOut_76 hl (k := 3) rfl (by rw [ey12]; rfl) (by decide) rfl (fun ls hl => ?_)
        refine lv_goto (tgt := 32) hx hb dX6_carryOut_79 (by decide) ?_
        exact ih _ _ _ _ _ _ _ hM hS (lv_sub hl [1, 2, 3, 0] rfl) heq

set_option maxRecDepth 100000 in
set_option maxHeartbeats 4000000 in
theorem tX6_carryOut (l : Launch) (G : mm_G) (M : mm_M)  (r : Int32) (M9 : mm_M) (heq : fX6_carryOut M = some (r, M9)) : Met l yX6_carryOut (mm_ws yX6_carryOut cX6_carryOut 4 (some .int)) rmX6_carryOut (va_Pc [.ref (mm_lo G + 0)] (mm_B G (kR, 740, M))) (mm_Qi G r (kR, 740, M9)) 0 0 (mm_A G) := by
  refine mm_met (cc := cX6_carryOut) (nL := 4) (ret := (some .int)) plRX6 (Nat.le_of_ble_eq_true rfl) ?_
  intro p e s m below meth c ls hin C hM hS hl
  have C : mm_C G p s m _ meth c RX6 cX6_carryOut 4 (some .int) := C
  have hM : mm_P G kR 740 M s.heap := hM
  have hl : lv_has ls 4 [(0, .ref (mm_lo G + 0))] := hl
  obtain ⟨hx, hb, -, -, -, -, -, -, hZ, -⟩ := id C
  rw [fX6_carryOut] at heq
  refine lv_aload_n hx hb dX6_carryOut_0 rfl (lv_at hl 0 rfl) ?_
  refine gX6_35 C hM (kl (rfl : kT 0 = (5, 0))) (rfl : kT 0 = (5, 0)) (rfl : kR 0 5 = some 729) dX6_carryOut_1 ?_
  obtain ⟨r2, e1, heq⟩ := bn_of heq
  refine mm_ki hS (mm_runV (rest := []) C hM hS (tX3_findFault l G M 729 (rfl : kT 729 = (2, 0)) r2 e1) (uX6_238 _ (Nat.le_of_ble_eq_true rfl) (Nat.le_of_ble_eq_true rfl)) (mm_recv C hM (kl (rfl : kT 729 = (2, 0))) (ci := 2) rfl (mm_e2 (rfl : kT 729 = (2, 0)))) hl.1 rfl rfl (Nat.le_of_ble_eq_true rfl) ⟨Nat.zero_le _, Nat.zero_le _⟩ dX6_carryOut_4) (fun H locs hM hS => ?_)
  have hM : mm_P G kR 740 M H := hM
  refine lv_bipush (v := (-6)) hx hb dX6_carryOut_7 (by decide) ?_
  refine lv_icmp_eq (tgt := 15) hx hb dX6_carryOut_9 (by decide) (fun c3 => ?_) (fun c3 => ?_)
  · have heq := if_t c3 heq
    refine lv_aload_n hx hb dX6_carryOut_15 rfl (lv_at hl 0 rfl) ?_
    refine gX6_22 C hM (kl (rfl : kT 0 = (5, 0))) (rfl : kT 0 = (5, 0)) (rfl : kR 0 2 = some 133) dX6_carryOut_16 ?_
    refine lv_aload_n hx hb dX6_carryOut_19 rfl (lv_at hl 0 rfl) ?_
    refine gX6_10 C hM (kl (rfl : kT 0 = (5, 0))) (rfl : kT 0 = (5, 0)) (rfl : kR 0 0 = some 1) dX6_carryOut_20 ?_
    obtain ⟨M5, e4, heq⟩ := bn_of heq
    refine mm_kv hS (mm_runV (rest := []) C hM hS (tX2_prepare l G M 133 (rfl : kT 133 = (1, 0)) 1 (rfl : kT 1 = (4, 0)) M5 e4) (uX6_39 _ (Nat.le_of_ble_eq_true rfl) (Nat.le_of_ble_eq_true rfl)) (mm_recv C hM (kl (rfl : kT 133 = (1, 0))) (ci := 1) rfl (mm_e1 (rfl : kT 133 = (1, 0)))) hl.1 rfl rfl (Nat.le_of_ble_eq_true rfl) ⟨Nat.zero_le _, Nat.zero_le _⟩ dX6_carryOut_23) (fun H locs hM hS => ?_)
    have hM : mm_P G kR 740 M5 H := hM
    refine lv_iconst (v := 0) hx hb dX6_carryOut_26 (by decide) ?_
    refine lv_istore_n (lv' := [(1, .int 0), (0, .ref (mm_lo G + 0))]) hx hb dX6_carryOut_27 rfl hl (by decide) rfl (fun ls hl => ?_)
    refine lv_iconst (v := 0) hx hb dX6_carryOut_28 (by decide) ?_
    refine lv_istore_n (lv' := [(2, .int 0), (1, .int 0), (0, .ref (mm_lo G + 0))]) hx hb dX6_carryOut_29 rfl hl (by decide) rfl (fun ls hl => ?_)
    refine lv_iconst (v := 0) hx hb dX6_carryOut_30 (by decide) ?_
    refine lv_istore_n (lv' := [(3, .int 0), (2, .int 0), (1, .int 0), (0, .ref (mm_lo G + 0))]) hx hb dX6_carryOut_31 rfl hl (by decide) rfl (fun ls hl => ?_)
    exact tX6_carryOut_32 C FU _ _ _ _ _ _ _ hM hS (lv_sub hl [3, 2, 1, 0] rfl) heq
  · have heq := if_f c3 heq
    refine lv_bipush (v := (-3)) hx hb dX6_carryOut_12 (by decide) ?_
    cases heq
    exact mm_iret C hM hS dX6_carryOut_14

set_option maxRecDepth 100000 in
set_option maxHeartbeats 4000000 in
theorem tX6_undo (l : Launch) (G : mm_G) (M : mm_M)  (r : Int32) (M9 : mm_M) (heq : fX6_undo M = some (r, M9)) : Met l yX6_undo (mm_ws yX6_undo cX6_undo 1 (some .int)) rmX6_undo (va_Pc [.ref (mm_lo G + 0)] (mm_B G (kR, 740, M))) (mm_Qi G r (kR, 740, M9)) 0 0 (mm_A G) := by
  refine mm_met (cc := cX6_undo) (nL := 1) (ret := (some .int)) plRX6 (Nat.le_of_ble_eq_true rfl) ?_
  intro p e s m below meth c ls hin C hM hS hl
  have C : mm_C G p s m _ meth c RX6 cX6_undo 1 (some .int) := C
  have hM : mm_P G kR 740 M s.heap := hM
  have hl : lv_has ls 1 [(0, .ref (mm_lo G + 0))] := hl
  obtain ⟨hx, hb, -, -, -, -, -, -, hZ, -⟩ := id C
  rw [fX6_undo] at heq
  refine lv_aload_n hx hb dX6_undo_0 rfl (lv_at hl 0 rfl) ?_
  refine gX6_22 C hM (kl (rfl : kT 0 = (5, 0))) (rfl : kT 0 = (5, 0)) (rfl : kR 0 2 = some 133) dX6_undo_1 ?_
  refine gX6_215 C hM (kl (rfl : kT 133 = (1, 0))) (rfl : kT 133 = (1, 0)) dX6_undo_4 ?_
  refine lv_if_ne (tgt := 13) hx hb dX6_undo_7 (by decide) (fun c1 => ?_) (fun c1 => ?_)
  · have heq := if_f c1 heq
    refine lv_aload_n hx hb dX6_undo_13 rfl (lv_at hl 0 rfl) ?_
    refine gX6_22 C hM (kl (rfl : kT 0 = (5, 0))) (rfl : kT 0 = (5, 0)) (rfl : kR 0 2 = some 133) dX6_undo_14 ?_
    refine lv_aload_n hx hb dX6_undo_17 rfl (lv_at hl 0 rfl) ?_
    refine gX6_10 C hM (kl (rfl : kT 0 = (5, 0))) (rfl : kT 0 = (5, 0)) (rfl : kR 0 0 = some 1) dX6_undo_18 ?_
    obtain ⟨M3, e2, heq⟩ := bn_of heq
    refine mm_kv hS (mm_runV (rest := []) C hM hS (tX2_takeBack l G M 133 (rfl : kT 133 = (1, 0)) 1 (rfl : kT 1 = (4, 0)) M3 e2) (uX6_255 _ (Nat.le_of_ble_eq_true rfl) (Nat.le_of_ble_eq_true rfl)) (mm_recv C hM (kl (rfl : kT 133 = (1, 0))) (ci := 1) rfl (mm_e1 (rfl : kT 133 = (1, 0)))) hl.1 rfl rfl (Nat.le_of_ble_eq_true rfl) ⟨Nat.zero_le _, Nat.zero_le _⟩ dX6_undo_21) (fun H locs hM hS => ?_)
    have hM : mm_P G kR 740 M3 H := hM
    refine lv_aload_n hx hb dX6_undo_24 rfl (lv_at hl 0 rfl) ?_
    refine gX6_22 C hM (kl (rfl : kT 0 = (5, 0))) (rfl : kT 0 = (5, 0)) (rfl : kR 0 2 = some 133) dX6_undo_25 ?_
    refine gX6_215 C hM (kl (rfl : kT 133 = (1, 0))) (rfl : kT 133 = (1, 0)) dX6_undo_28 ?_
    cases heq
    exact mm_iret C hM hS dX6_undo_31
  · have heq := if_t c1 heq
    refine lv_bipush (v := (-5)) hx hb dX6_undo_10 (by decide) ?_
    cases heq
    exact mm_iret C hM hS dX6_undo_12

set_option maxRecDepth 100000 in
set_option maxHeartbeats 4000000 in
theorem tX6_save_27 (C : mm_C G p s m args meth c RX6 cX6_save 3 (some .int)) (x1 : Int32) {r : Int32} {M9 : mm_M} : ∀ (M : mm_M) (t0 : Nat) (H : Heap) (locs : List Loc) (ls : Array Slot), kT t0 = (4, 0) → mm_P G kR 740 M H → va_S (mm_A G) s.heap H locs → lv_has ls 3 [(0, .ref (mm_lo G + 0))] → fX6_save_27 x1 M t0 = some (r, M9) → W p l e rmX6_save s m args below meth c H locs 0 0 (MQ below (mm_Qi G r (kR, 740, M9)) args s 0 0 (mm_A G)) (F0 m 27 ls [.ref (mm_lo G + t0)]) := by
  obtain ⟨hx, hb, -, -, -, -, -, -, hZ, -⟩ := id C
  intro M t0 H locs ls g_t0 hM hS hl heq
  rw [fX6_save_27] at heq
  refine lv_astore_n (lv' := [(2, .ref (mm_lo G + t0)), (0, .ref (mm_lo G + 0))]) hx hb dX6_save_27 rfl hl (by decide) rfl (fun ls hl => ?_)
  refine lv_aload_n hx hb dX6_save_28 rfl (lv_at hl 0 rfl) ?_
  refine lv_aload_n hx hb dX6_save_29 rfl (lv_at hl 1 rfl) ?_
  refine gX6_10 C hM (kl (rfl : kT 0 = (5, 0))) (rfl : kT 0 = (5, 0)) (rfl : kR 0 0 = some 1) dX6_save_30 ?_
  obtain ⟨M2, e1, heq⟩ := bn_of heq
  refine mm_kv hS (mm_runV (rest := []) C hM hS (tX5_copyFrom l G M t0 g_t0 1 (rfl : kT 1 = (4, 0)) M2 e1) (uX6_224 _ (Nat.le_of_ble_eq_true rfl) (Nat.le_of_ble_eq_true rfl)) (mm_recv C hM (kl g_t0) (ci := 4) rfl (mm_e4 g_t0)) hl.1 rfl rfl (Nat.le_of_ble_eq_true rfl) ⟨Nat.zero_le _, Nat.zero_le _⟩ dX6_save_33) (fun H locs hM hS => ?_)
  have hM : mm_P G kR 740 M2 H := hM
  refine lv_aload_n hx hb dX6_save_36 rfl (lv_at hl 0 rfl) ?_
  refine lv_iconst (v := 1) hx hb dX6_save_37 (by decide) ?_
  refine pX6_258 C hM hS (kl g_t0) g_t0 (Or.inr rfl) dX6_save_38 (fun H locs hM hS _ => ?_)
  obtain ⟨M3, eM3⟩ : ∃ z : mm_M, z = sI M2 t0 6 1 := ⟨_, rfl⟩
  rw [← eM3] at hM
  have heq := lt_to eM3 heq
  refine lv_aload_n hx hb dX6_save_41 rfl (lv_at hl 1 rfl) ?_
  refine gX6_10 C hM (kl (rfl : kT 0 = (5, 0))) (rfl : kT 0 = (5, 0)) (rfl : kR 0 0 = some 1) dX6_save_42 ?_
  refine gX6_125 C hM (kl (rfl : kT 1 = (4, 0))) (rfl : kT 1 = (4, 0)) dX6_save_45 ?_
  cases heq
  exact mm_iret C hM hS dX6_save_48

set_option maxRecDepth 100000 in
set_option maxHeartbeats 4000000 in
theorem tX6_save (l : Launch) (G : mm_G) (M : mm_M) (x1 : Int32) (r : Int32) (M9 : mm_M) (heq : fX6_save M x1 = some (r, M9)) : Met l yX6_save (mm_ws yX6_save cX6_save 3 (some .int)) rmX6_save (va_Pc [.ref (mm_lo G + 0), .int x1] (mm_B G (kR, 740, M))) (mm_Qi G r (kR, 740, M9)) 0 0 (mm_A G) := by
  refine mm_met (cc := cX6_save) (nL := 3) (ret := (some .int)) plRX6 (Nat.le_of_ble_eq_true rfl) ?_
  intro p e s m below meth c ls hin C hM hS hl
  have C : mm_C G p s m _ meth c RX6 cX6_save 3 (some .int) := C
  have hM : mm_P G kR 740 M s.heap := hM
  have hl : lv_has ls 3 [(0, .ref (mm_lo G + 0)), (1, .int x1)] := hl
  obtain ⟨hx, hb, -, -, -, -, -, -, hZ, -⟩ := id C
  rw [fX6_save] at heq
  refine lv_iload_n hx hb dX6_save_0 rfl (lv_at hl 1 rfl) ?_
  refine lv_if_lt (tgt := 9) hx hb dX6_save_1 (by decide) (fun c1 => ?_) (fun c1 => ?_)
  · have heq := if_t c1 heq
    refine lv_bipush (v := (-2)) hx hb dX6_save_9 (by decide) ?_
    cases heq
    exact mm_iret C hM hS dX6_save_11
  · have heq := if_f c1 heq
    refine lv_iload_n hx hb dX6_save_4 rfl (lv_at hl 1 rfl) ?_
    refine lv_iconst (v := 2) hx hb dX6_save_5 (by decide) ?_
    refine lv_icmp_lt (tgt := 12) hx hb dX6_save_6 (by decide) (fun c2 => ?_) (fun c2 => ?_)
    · have heq := if_t c2 heq
      refine lv_iload_n hx hb dX6_save_12 rfl (lv_at hl 1 rfl) ?_
      refine lv_if_ne (tgt := 23) hx hb dX6_save_13 (by decide) (fun c3 => ?_) (fun c3 => ?_)
      · have heq := if_f c3 heq
        refine lv_aload_n hx hb dX6_save_23 rfl (lv_at hl 0 rfl) ?_
        refine gX6_29 C hM (kl (rfl : kT 0 = (5, 0))) (rfl : kT 0 = (5, 0)) (rfl : kR 0 4 = some 663) dX6_save_24 ?_
        exact tX6_save_27 C x1 _ _ _ _ _ (rfl : kT 663 = (4, 0)) hM hS (lv_sub hl [0] rfl) heq
      · have heq := if_t c3 heq
        refine lv_aload_n hx hb dX6_save_16 rfl (lv_at hl 0 rfl) ?_
        refine gX6_26 C hM (kl (rfl : kT 0 = (5, 0))) (rfl : kT 0 = (5, 0)) (rfl : kR 0 3 = some 597) dX6_save_17 ?_
        refine lv_goto (tgt := 27) hx hb dX6_save_20 (by decide) ?_
        exact tX6_save_27 C x1 _ _ _ _ _ (rfl : kT 597 = (4, 0)) hM hS (lv_sub hl [0] rfl) heq
    · have heq := if_f c2 heq
      refine lv_bipush (v := (-2)) hx hb dX6_save_9 (by decide) ?_
      cases heq
      exact mm_iret C hM hS dX6_save_11

set_option maxRecDepth 100000 in
set_option maxHeartbeats 4000000 in
theorem tX6_restore_27 (C : mm_C G p s m args meth c RX6 cX6_restore 3 (some .int)) (x1 : Int32) {r : Int32} {M9 : mm_M} : ∀ (M : mm_M) (t0 : Nat) (H : Heap) (locs : List Loc) (ls : Array Slot), kT t0 = (4, 0) → mm_P G kR 740 M H → va_S (mm_A G) s.heap H locs → lv_has ls 3 [(0, .ref (mm_lo G + 0))] → fX6_restore_27 x1 M t0 = some (r, M9) → W p l e rmX6_restore s m args below meth c H locs 0 0 (MQ below (mm_Qi G r (kR, 740, M9)) args s 0 0 (mm_A G)) (F0 m 27 ls [.ref (mm_lo G + t0)]) := by
  obtain ⟨hx, hb, -, -, -, -, -, -, hZ, -⟩ := id C
  intro M t0 H locs ls g_t0 hM hS hl heq
  rw [fX6_restore_27] at heq
  refine lv_astore_n (lv' := [(2, .ref (mm_lo G + t0)), (0, .ref (mm_lo G + 0))]) hx hb dX6_restore_27 rfl hl (by decide) rfl (fun ls hl => ?_)
  refine lv_aload_n hx hb dX6_restore_28 rfl (lv_at hl 0 rfl) ?_
  refine gX6_258 C hM (kl g_t0) g_t0 dX6_restore_29 ?_
  refine lv_if_ne (tgt := 38) hx hb dX6_restore_32 (by decide) (fun c1 => ?_) (fun c1 => ?_)
  · have heq := if_f c1 heq
    refine lv_aload_n hx hb dX6_restore_38 rfl (lv_at hl 1 rfl) ?_
    refine gX6_22 C hM (kl (rfl : kT 0 = (5, 0))) (rfl : kT 0 = (5, 0)) (rfl : kR 0 2 = some 133) dX6_restore_39 ?_
    refine lv_aload_n hx hb dX6_restore_42 rfl (lv_at hl 1 rfl) ?_
    refine gX6_10 C hM (kl (rfl : kT 0 = (5, 0))) (rfl : kT 0 = (5, 0)) (rfl : kR 0 0 = some 1) dX6_restore_43 ?_
    obtain ⟨M3, e2, heq⟩ := bn_of heq
    refine mm_kv hS (mm_runV (rest := []) C hM hS (tX2_prepare l G M 133 (rfl : kT 133 = (1, 0)) 1 (rfl : kT 1 = (4, 0)) M3 e2) (uX6_39 _ (Nat.le_of_ble_eq_true rfl) (Nat.le_of_ble_eq_true rfl)) (mm_recv C hM (kl (rfl : kT 133 = (1, 0))) (ci := 1) rfl (mm_e1 (rfl : kT 133 = (1, 0)))) hl.1 rfl rfl (Nat.le_of_ble_eq_true rfl) ⟨Nat.zero_le _, Nat.zero_le _⟩ dX6_restore_46) (fun H locs hM hS => ?_)
    have hM : mm_P G kR 740 M3 H := hM
    refine lv_aload_n hx hb dX6_restore_49 rfl (lv_at hl 1 rfl) ?_
    refine gX6_10 C hM (kl (rfl : kT 0 = (5, 0))) (rfl : kT 0 = (5, 0)) (rfl : kR 0 0 = some 1) dX6_restore_50 ?_
    refine lv_aload_n hx hb dX6_restore_53 rfl (lv_at hl 0 rfl) ?_
    obtain ⟨M5, e4, heq⟩ := bn_of heq
    refine mm_kv hS (mm_runV (rest := []) C hM hS (tX5_copyFrom l G M3 1 (rfl : kT 1 = (4, 0)) t0 g_t0 M5 e4) (uX6_224 _ (Nat.le_of_ble_eq_true rfl) (Nat.le_of_ble_eq_true rfl)) (mm_recv C hM (kl (rfl : kT 1 = (4, 0))) (ci := 4) rfl (mm_e4 (rfl : kT 1 = (4, 0)))) hl.1 rfl rfl (Nat.le_of_ble_eq_true rfl) ⟨Nat.zero_le _, Nat.zero_le _⟩ dX6_restore_54) (fun H locs hM hS => ?_)
    have hM : mm_P G kR 740 M5 H := hM
    refine lv_aload_n hx hb dX6_restore_57 rfl (lv_at hl 1 rfl) ?_
    refine lv_aload_n hx hb dX6_restore_58 rfl (lv_at hl 1 rfl) ?_
    refine gX6_10 C hM (kl (rfl : kT 0 = (5, 0))) (rfl : kT 0 = (5, 0)) (rfl : kR 0 0 = some 1) dX6_restore_59 ?_
    refine gX6_125 C hM (kl (rfl : kT 1 = (4, 0))) (rfl : kT 1 = (4, 0)) dX6_restore_62 ?_
    obtain ⟨r7, M8, e6, heq⟩ := bn2_of heq
    refine mm_ki hS (mm_runV (rest := []) C hM hS (tX6_recorded l G M5 (M5.1 1 0) r7 M8 e6) (uX6_47 _ (Nat.le_of_ble_eq_true rfl) (Nat.le_of_ble_eq_true rfl)) (mm_recv C hM (kl (rfl : kT 0 = (5, 0))) (ci := 5) rfl (mm_e5 (rfl : kT 0 = (5, 0)))) hl.1 rfl rfl (Nat.le_of_ble_eq_true rfl) ⟨Nat.zero_le _, Nat.zero_le _⟩ dX6_restore_65) (fun H locs hM hS => ?_)
    have hM : mm_P G kR 740 M8 H := hM
    cases heq
    exact mm_iret C hM hS dX6_restore_68
  · have heq := if_t c1 heq
    refine lv_bipush (v := (-5)) hx hb dX6_restore_35 (by decide) ?_
    cases heq
    exact mm_iret C hM hS dX6_restore_37

set_option maxRecDepth 100000 in
set_option maxHeartbeats 4000000 in
theorem tX6_restore (l : Launch) (G : mm_G) (M : mm_M) (x1 : Int32) (r : Int32) (M9 : mm_M) (heq : fX6_restore M x1 = some (r, M9)) : Met l yX6_restore (mm_ws yX6_restore cX6_restore 3 (some .int)) rmX6_restore (va_Pc [.ref (mm_lo G + 0), .int x1] (mm_B G (kR, 740, M))) (mm_Qi G r (kR, 740, M9)) 0 0 (mm_A G) := by
  refine mm_met (cc := cX6_restore) (nL := 3) (ret := (some .int)) plRX6 (Nat.le_of_ble_eq_true rfl) ?_
  intro p e s m below meth c ls hin C hM hS hl
  have C : mm_C G p s m _ meth c RX6 cX6_restore 3 (some .int) := C
  have hM : mm_P G kR 740 M s.heap := hM
  have hl : lv_has ls 3 [(0, .ref (mm_lo G + 0)), (1, .int x1)] := hl
  obtain ⟨hx, hb, -, -, -, -, -, -, hZ, -⟩ := id C
  rw [fX6_restore] at heq
  refine lv_iload_n hx hb dX6_restore_0 rfl (lv_at hl 1 rfl) ?_
  refine lv_if_lt (tgt := 9) hx hb dX6_restore_1 (by decide) (fun c1 => ?_) (fun c1 => ?_)
  · have heq := if_t c1 heq
    refine lv_bipush (v := (-2)) hx hb dX6_restore_9 (by decide) ?_
    cases heq
    exact mm_iret C hM hS dX6_restore_11
  · have heq := if_f c1 heq
    refine lv_iload_n hx hb dX6_restore_4 rfl (lv_at hl 1 rfl) ?_
    refine lv_iconst (v := 2) hx hb dX6_restore_5 (by decide) ?_
    refine lv_icmp_lt (tgt := 12) hx hb dX6_restore_6 (by decide) (fun c2 => ?_) (fun c2 => ?_)
    · have heq := if_t c2 heq
      refine lv_iload_n hx hb dX6_restore_12 rfl (lv_at hl 1 rfl) ?_
      refine lv_if_ne (tgt := 23) hx hb dX6_restore_13 (by decide) (fun c3 => ?_) (fun c3 => ?_)
      · have heq := if_f c3 heq
        refine lv_aload_n hx hb dX6_restore_23 rfl (lv_at hl 0 rfl) ?_
        refine gX6_29 C hM (kl (rfl : kT 0 = (5, 0))) (rfl : kT 0 = (5, 0)) (rfl : kR 0 4 = some 663) dX6_restore_24 ?_
        exact tX6_restore_27 C x1 _ _ _ _ _ (rfl : kT 663 = (4, 0)) hM hS (lv_sub hl [0] rfl) heq
      · have heq := if_t c3 heq
        refine lv_aload_n hx hb dX6_restore_16 rfl (lv_at hl 0 rfl) ?_
        refine gX6_26 C hM (kl (rfl : kT 0 = (5, 0))) (rfl : kT 0 = (5, 0)) (rfl : kR 0 3 = some 597) dX6_restore_17 ?_
        refine lv_goto (tgt := 27) hx hb dX6_restore_20 (by decide) ?_
        exact tX6_restore_27 C x1 _ _ _ _ _ (rfl : kT 597 = (4, 0)) hM hS (lv_sub hl [0] rfl) heq
    · have heq := if_f c2 heq
      refine lv_bipush (v := (-2)) hx hb dX6_restore_9 (by decide) ?_
      cases heq
      exact mm_iret C hM hS dX6_restore_11

set_option maxRecDepth 100000 in
set_option maxHeartbeats 4000000 in
theorem tX7_in (l : Launch) (G : mm_G) (M : mm_M) (x0 : Int32) (x1 : Int32) (x2 : Int32) (r : Bool) (heq : fX7_in M x0 x1 x2 = some r) : Met l yX7_in (mm_ws yX7_in cX7_in 3 (some .boolean)) rmX7_in (va_Pc [.int x0, .int x1, .int x2] (mm_B G (kR, 740, M))) (mm_Qi G (b2i r) (kR, 740, M)) 0 0 (mm_A G) := by
  refine mm_met (cc := cX7_in) (nL := 3) (ret := (some .boolean)) plRX7 (Nat.le_of_ble_eq_true rfl) ?_
  intro p e s m below meth c ls hin C hM hS hl
  have C : mm_C G p s m _ meth c RX7 cX7_in 3 (some .boolean) := C
  have hM : mm_P G kR 740 M s.heap := hM
  have hl : lv_has ls 3 [(0, .int x0), (1, .int x1), (2, .int x2)] := hl
  obtain ⟨hx, hb, -, -, -, -, -, -, hZ, -⟩ := id C
  rw [fX7_in] at heq
  refine lv_iload_n hx hb dX7_in_0 rfl (lv_at hl 0 rfl) ?_
  refine lv_iload_n hx hb dX7_in_1 rfl (lv_at hl 1 rfl) ?_
  refine lv_icmp_lt (tgt := 14) hx hb dX7_in_2 (by decide) (fun c1 => ?_) (fun c1 => ?_)
  · have heq := if_t c1 heq
    refine lv_iconst (v := 0) hx hb dX7_in_14 (by decide) ?_
    cases heq
    exact mm_zret C hM hS dX7_in_15
  · have heq := if_f c1 heq
    refine lv_iload_n hx hb dX7_in_5 rfl (lv_at hl 0 rfl) ?_
    refine lv_iload_n hx hb dX7_in_6 rfl (lv_at hl 2 rfl) ?_
    refine lv_icmp_gt (tgt := 14) hx hb dX7_in_7 (by decide) (fun c2 => ?_) (fun c2 => ?_)
    · have heq := if_t c2 heq
      refine lv_iconst (v := 0) hx hb dX7_in_14 (by decide) ?_
      cases heq
      exact mm_zret C hM hS dX7_in_15
    · have heq := if_f c2 heq
      refine lv_iconst (v := 1) hx hb dX7_in_10 (by decide) ?_
      refine lv_goto (tgt := 15) hx hb dX7_in_11 (by decide) ?_
      cases heq
      exact mm_zret C hM hS dX7_in_15

set_option maxRecDepth 100000 in
set_option maxHeartbeats 4000000 in
theorem tX7_of (l : Launch) (G : mm_G) (M : mm_M) (x1 : Int32) (x2 : Int32) (r : Int32) (heq : fX7_of M x1 x2 = some r) : Met l yX7_of (mm_ws yX7_of cX7_of 3 (some .int)) rmX7_of (va_Pc [.ref (mm_lo G + 731), .int x1, .int x2] (mm_B G (kR, 740, M))) (mm_Qi G r (kR, 740, M)) 0 0 (mm_A G) := by
  refine mm_met (cc := cX7_of) (nL := 3) (ret := (some .int)) plRX7 (Nat.le_of_ble_eq_true rfl) ?_
  intro p e s m below meth c ls hin C hM hS hl
  have C : mm_C G p s m _ meth c RX7 cX7_of 3 (some .int) := C
  have hM : mm_P G kR 740 M s.heap := hM
  have hl : lv_has ls 3 [(0, .ref (mm_lo G + 731)), (1, .int x1), (2, .int x2)] := hl
  obtain ⟨hx, hb, -, -, -, -, -, -, hZ, -⟩ := id C
  rw [fX7_of] at heq
  refine lv_aload_n hx hb dX7_of_0 rfl (lv_at hl 0 rfl) ?_
  refine gX7_7 C hM (kl (rfl : kT 731 = (6, 0))) (rfl : kT 731 = (6, 0)) (rfl : kR 731 0 = some 732) dX7_of_1 ?_
  refine lv_bipush (v := 72) hx hb dX7_of_4 (by decide) ?_
  refine lv_bipush (v := 20) hx hb dX7_of_6 (by decide) ?_
  refine lv_iload_n hx hb dX7_of_8 rfl (lv_at hl 1 rfl) ?_
  refine lv_imul hx hb dX7_of_9 ?_
  refine lv_iadd hx hb dX7_of_10 ?_
  refine lv_iload_n hx hb dX7_of_11 rfl (lv_at hl 2 rfl) ?_
  refine lv_iadd hx hb dX7_of_12 ?_
  obtain ⟨g1, heq⟩ := gd_of heq
  refine mm_ildk C hM (kl (rfl : kT 732 = (8, 3592))) (rfl : kT 732 = (8, 3592)) (vp_in_of2 g1) rfl dX7_of_13 ?_
  cases heq
  exact mm_iret C hM hS dX7_of_14

set_option maxRecDepth 100000 in
set_option maxHeartbeats 4000000 in
theorem tX7_lay (l : Launch) (G : mm_G) (M : mm_M) (x1 : Int32) (x2 : Int32) (x3 : Int32) (M9 : mm_M) (heq : fX7_lay M x1 x2 x3 = some M9) : Met l yX7_lay (mm_ws yX7_lay cX7_lay 4 none) rmX7_lay (va_Pc [.ref (mm_lo G + 731), .int x1, .int x2, .int x3] (mm_B G (kR, 740, M))) (mm_Qv G (kR, 740, M9)) 0 0 (mm_A G) := by
  refine mm_met (cc := cX7_lay) (nL := 4) (ret := none) plRX7 (Nat.le_of_ble_eq_true rfl) ?_
  intro p e s m below meth c ls hin C hM hS hl
  have C : mm_C G p s m _ meth c RX7 cX7_lay 4 none := C
  have hM : mm_P G kR 740 M s.heap := hM
  have hl : lv_has ls 4 [(0, .ref (mm_lo G + 731)), (1, .int x1), (2, .int x2), (3, .int x3)] := hl
  obtain ⟨hx, hb, -, -, -, -, -, -, hZ, -⟩ := id C
  rw [fX7_lay] at heq
  refine lv_aload_n hx hb dX7_lay_0 rfl (lv_at hl 0 rfl) ?_
  refine gX7_7 C hM (kl (rfl : kT 731 = (6, 0))) (rfl : kT 731 = (6, 0)) (rfl : kR 731 0 = some 732) dX7_lay_1 ?_
  refine lv_bipush (v := 72) hx hb dX7_lay_4 (by decide) ?_
  refine lv_bipush (v := 20) hx hb dX7_lay_6 (by decide) ?_
  refine lv_iload_n hx hb dX7_lay_8 rfl (lv_at hl 1 rfl) ?_
  refine lv_imul hx hb dX7_lay_9 ?_
  refine lv_iadd hx hb dX7_lay_10 ?_
  refine lv_iload_n hx hb dX7_lay_11 rfl (lv_at hl 2 rfl) ?_
  refine lv_iadd hx hb dX7_lay_12 ?_
  refine lv_iload_n hx hb dX7_lay_13 rfl (lv_at hl 3 rfl) ?_
  obtain ⟨g1, heq⟩ := gd_of heq
  refine mm_istk C hM hS (kl (rfl : kT 732 = (8, 3592))) (rfl : kT 732 = (8, 3592)) (vp_in_of2 g1) rfl dX7_lay_14 (fun H locs hM hS _ => ?_)
  obtain ⟨M2, eM2⟩ : ∃ z : mm_M, z = sI M 732 ((72 + (20 * x1)) + x2).toNatClampNeg x3 := ⟨_, rfl⟩
  rw [← eM2] at hM
  have heq := lt_to eM2 heq
  cases heq
  exact mm_vret C hM hS dX7_lay_15

set_option maxRecDepth 100000 in
set_option maxHeartbeats 4000000 in
theorem tX7_ofP (l : Launch) (G : mm_G) (M : mm_M) (x1 : Int32) (x2 : Int32) (r : Int32) (heq : fX7_ofP M x1 x2 = some r) : Met l yX7_ofP (mm_ws yX7_ofP cX7_ofP 3 (some .int)) rmX7_ofP (va_Pc [.ref (mm_lo G + 731), .int x1, .int x2] (mm_B G (kR, 740, M))) (mm_Qi G r (kR, 740, M)) 0 0 (mm_A G) := by
  refine mm_met (cc := cX7_ofP) (nL := 3) (ret := (some .int)) plRX7 (Nat.le_of_ble_eq_true rfl) ?_
  intro p e s m below meth c ls hin C hM hS hl
  have C : mm_C G p s m _ meth c RX7 cX7_ofP 3 (some .int) := C
  have hM : mm_P G kR 740 M s.heap := hM
  have hl : lv_has ls 3 [(0, .ref (mm_lo G + 731)), (1, .int x1), (2, .int x2)] := hl
  obtain ⟨hx, hb, -, -, -, -, -, -, hZ, -⟩ := id C
  rw [fX7_ofP] at heq
  refine lv_aload_n hx hb dX7_ofP_0 rfl (lv_at hl 0 rfl) ?_
  refine gX7_7 C hM (kl (rfl : kT 731 = (6, 0))) (rfl : kT 731 = (6, 0)) (rfl : kR 731 0 = some 732) dX7_ofP_1 ?_
  refine lv_bipush (v := 32) hx hb dX7_ofP_4 (by decide) ?_
  refine lv_iconst (v := 4) hx hb dX7_ofP_6 (by decide) ?_
  refine lv_iload_n hx hb dX7_ofP_7 rfl (lv_at hl 1 rfl) ?_
  refine lv_imul hx hb dX7_ofP_8 ?_
  refine lv_iadd hx hb dX7_ofP_9 ?_
  refine lv_iload_n hx hb dX7_ofP_10 rfl (lv_at hl 2 rfl) ?_
  refine lv_iadd hx hb dX7_ofP_11 ?_
  obtain ⟨g1, heq⟩ := gd_of heq
  refine mm_ildk C hM (kl (rfl : kT 732 = (8, 3592))) (rfl : kT 732 = (8, 3592)) (vp_in_of2 g1) rfl dX7_ofP_12 ?_
  cases heq
  exact mm_iret C hM hS dX7_ofP_13

set_option maxRecDepth 100000 in
set_option maxHeartbeats 4000000 in
theorem tX7_isCart (l : Launch) (G : mm_G) (M : mm_M) (x1 : Int32) (r : Bool) (heq : fX7_isCart M x1 = some r) : Met l yX7_isCart (mm_ws yX7_isCart cX7_isCart 2 (some .boolean)) rmX7_isCart (va_Pc [.ref (mm_lo G + 731), .int x1] (mm_B G (kR, 740, M))) (mm_Qi G (b2i r) (kR, 740, M)) 0 0 (mm_A G) := by
  refine mm_met (cc := cX7_isCart) (nL := 2) (ret := (some .boolean)) plRX7 (Nat.le_of_ble_eq_true rfl) ?_
  intro p e s m below meth c ls hin C hM hS hl
  have C : mm_C G p s m _ meth c RX7 cX7_isCart 2 (some .boolean) := C
  have hM : mm_P G kR 740 M s.heap := hM
  have hl : lv_has ls 2 [(0, .ref (mm_lo G + 731)), (1, .int x1)] := hl
  obtain ⟨hx, hb, -, -, -, -, -, -, hZ, -⟩ := id C
  rw [fX7_isCart] at heq
  refine lv_iload_n hx hb dX7_isCart_0 rfl (lv_at hl 1 rfl) ?_
  refine lv_iconst (v := 0) hx hb dX7_isCart_1 (by decide) ?_
  refine lv_aload_n hx hb dX7_isCart_2 rfl (lv_at hl 0 rfl) ?_
  refine gX7_7 C hM (kl (rfl : kT 731 = (6, 0))) (rfl : kT 731 = (6, 0)) (rfl : kR 731 0 = some 732) dX7_isCart_3 ?_
  refine lv_bipush (v := 13) hx hb dX7_isCart_6 (by decide) ?_
  refine mm_ildk C hM (kl (rfl : kT 732 = (8, 3592))) (rfl : kT 732 = (8, 3592)) (vp_in_of2 (by decide)) (by decide : (13 : Int32).toNatClampNeg = 13) dX7_isCart_8 ?_
  refine lv_iconst (v := 1) hx hb dX7_isCart_9 (by decide) ?_
  refine lv_isub hx hb dX7_isCart_10 ?_
  obtain ⟨r2, e1, heq⟩ := bn_of heq
  refine mm_ki hS (mm_runS (rest := []) C hM hS (tX7_in l G M x1 0 ((M.1 732 13) - 1) r2 e1) (uX7_35 _ (Nat.le_of_ble_eq_true rfl) (Nat.le_of_ble_eq_true rfl)) hl.1 rfl rfl (Nat.le_of_ble_eq_true rfl) ⟨Nat.zero_le _, Nat.zero_le _⟩ dX7_isCart_11) (fun H locs hM hS => ?_)
  have hM : mm_P G kR 740 M H := hM
  cases heq
  exact mm_zret C hM hS dX7_isCart_14

set_option maxRecDepth 100000 in
set_option maxHeartbeats 4000000 in
theorem tX7_isPitch (l : Launch) (G : mm_G) (M : mm_M) (x1 : Int32) (r : Bool) (heq : fX7_isPitch M x1 = some r) : Met l yX7_isPitch (mm_ws yX7_isPitch cX7_isPitch 2 (some .boolean)) rmX7_isPitch (va_Pc [.ref (mm_lo G + 731), .int x1] (mm_B G (kR, 740, M))) (mm_Qi G (b2i r) (kR, 740, M)) 0 0 (mm_A G) := by
  refine mm_met (cc := cX7_isPitch) (nL := 2) (ret := (some .boolean)) plRX7 (Nat.le_of_ble_eq_true rfl) ?_
  intro p e s m below meth c ls hin C hM hS hl
  have C : mm_C G p s m _ meth c RX7 cX7_isPitch 2 (some .boolean) := C
  have hM : mm_P G kR 740 M s.heap := hM
  have hl : lv_has ls 2 [(0, .ref (mm_lo G + 731)), (1, .int x1)] := hl
  obtain ⟨hx, hb, -, -, -, -, -, -, hZ, -⟩ := id C
  rw [fX7_isPitch] at heq
  refine lv_iload_n hx hb dX7_isPitch_0 rfl (lv_at hl 1 rfl) ?_
  refine lv_iconst (v := 0) hx hb dX7_isPitch_1 (by decide) ?_
  refine lv_aload_n hx hb dX7_isPitch_2 rfl (lv_at hl 0 rfl) ?_
  refine gX7_7 C hM (kl (rfl : kT 731 = (6, 0))) (rfl : kT 731 = (6, 0)) (rfl : kR 731 0 = some 732) dX7_isPitch_3 ?_
  refine lv_bipush (v := 12) hx hb dX7_isPitch_6 (by decide) ?_
  refine mm_ildk C hM (kl (rfl : kT 732 = (8, 3592))) (rfl : kT 732 = (8, 3592)) (vp_in_of2 (by decide)) (by decide : (12 : Int32).toNatClampNeg = 12) dX7_isPitch_8 ?_
  refine lv_iconst (v := 1) hx hb dX7_isPitch_9 (by decide) ?_
  refine lv_isub hx hb dX7_isPitch_10 ?_
  obtain ⟨r2, e1, heq⟩ := bn_of heq
  refine mm_ki hS (mm_runS (rest := []) C hM hS (tX7_in l G M x1 0 ((M.1 732 12) - 1) r2 e1) (uX7_35 _ (Nat.le_of_ble_eq_true rfl) (Nat.le_of_ble_eq_true rfl)) hl.1 rfl rfl (Nat.le_of_ble_eq_true rfl) ⟨Nat.zero_le _, Nat.zero_le _⟩ dX7_isPitch_11) (fun H locs hM hS => ?_)
  have hM : mm_P G kR 740 M H := hM
  cases heq
  exact mm_zret C hM hS dX7_isPitch_14

set_option maxRecDepth 100000 in
set_option maxHeartbeats 4000000 in
theorem tX7_keep_52 (C : mm_C G p s m args meth c RX7 cX7_keep 2 none)  {M9 : mm_M} : ∀ n : Nat, ∀ (M : mm_M) (v1 : Int32) (H : Heap) (locs : List Loc) (ls : Array Slot), mm_P G kR 740 M H → va_S (mm_A G) s.heap H locs → lv_has ls 2 [(0, .ref (mm_lo G + 731)), (1, .int v1)] → fX7_keep_52 n M v1 = some M9 → W p l e rmX7_keep s m args below meth c H locs 0 0 (MQ below (mm_Qv G (kR, 740, M9)) args s 0 0 (mm_A G)) (F0 m 52 ls []) := by
  obtain ⟨hx, hb, -, -, -, -, -, -, hZ, -⟩ := id C
  intro n
  induction n with
  | zero =>
    intro M v1 H locs ls hM hS hl heq
    rw [fX7_keep_52] at heq
    cases heq
  | succ n ih =>
    intro M v1 H locs ls hM hS hl heq
    rw [fX7_keep_52] at heq
    refine lv_iload_n hx hb dX7_keep_52 rfl (lv_at hl 1 rfl) ?_
    refine lv_sipush (v := 3592) hx hb dX7_keep_53 (by decide) ?_
    refine lv_icmp_ge (tgt := 86) hx hb dX7_keep_56 (by decide) (fun c1 => ?_) (fun c1 => ?_)
    · have heq := if_t c1 heq
      refine lv_aload_n hx hb dX7_keep_86 rfl (lv_at hl 0 rfl) ?_
      refine lv_dup hx hb dX7_keep_87 rfl ?_
      refine gX7_39 C hM (kl (rfl : kT 731 = (6, 0))) (rfl : kT 731 = (6, 0)) dX7_keep_88 ?_
      refine lv_iconst (v := 1) hx hb dX7_keep_91 (by decide) ?_
      refine lv_iadd hx hb dX7_keep_92 ?_
      refine pX7_39 C hM hS (kl (rfl : kT 731 = (6, 0))) (rfl : kT 731 = (6, 0)) dX7_keep_93 (fun H locs hM hS _ => ?_)
      obtain ⟨M2, eM2⟩ : ∃ z : mm_M, z = sI M 731 2 ((M.1 731 2) + 1) := ⟨_, rfl⟩
      rw [← eM2] at hM
      have heq := lt_to eM2 heq
      cases heq
      exact mm_vret C hM hS dX7_keep_96
    · have heq := if_f c1 heq
      refine lv_aload_n hx hb dX7_keep_59 rfl (lv_at hl 0 rfl) ?_
      refine gX7_13 C hM (kl (rfl : kT 731 = (6, 0))) (rfl : kT 731 = (6, 0)) (rfl : kR 731 1 = some 733) dX7_keep_60 ?_
      refine lv_sipush (v := 3592) hx hb dX7_keep_63 (by decide) ?_
      refine lv_aload_n hx hb dX7_keep_66 rfl (lv_at hl 0 rfl) ?_
      refine gX7_39 C hM (kl (rfl : kT 731 = (6, 0))) (rfl : kT 731 = (6, 0)) dX7_keep_67 ?_
      refine lv_imul hx hb dX7_keep_70 ?_
      refine lv_iload_n hx hb dX7_keep_71 rfl (lv_at hl 1 rfl) ?_
      refine lv_iadd hx hb dX7_keep_72 ?_
      refine lv_aload_n hx hb dX7_keep_73 rfl (lv_at hl 0 rfl) ?_
      refine gX7_7 C hM (kl (rfl : kT 731 = (6, 0))) (rfl : kT 731 = (6, 0)) (rfl : kR 731 0 = some 732) dX7_keep_74 ?_
      refine lv_iload_n hx hb dX7_keep_77 rfl (lv_at hl 1 rfl) ?_
      obtain ⟨g3, heq⟩ := gd_of heq
      refine mm_ildk C hM (kl (rfl : kT 732 = (8, 3592))) (rfl : kT 732 = (8, 3592)) (vp_in_of2 g3) rfl dX7_keep_78 ?_
      obtain ⟨g4, heq⟩ := gd_of heq
      refine mm_istk C hM hS (kl (rfl : kT 733 = (8, 21552))) (rfl : kT 733 = (8, 21552)) (vp_in_of2 g4) rfl dX7_keep_79 (fun H locs hM hS _ => ?_)
      obtain ⟨M5, eM5⟩ : ∃ z : mm_M, z = sI M 733 ((3592 * (M.1 731 2)) + v1).toNatClampNeg (M.1 732 v1.toNatClampNeg) := ⟨_, rfl⟩
      rw [← eM5] at hM
      have heq := lt_to eM5 heq
      obtain ⟨y6, ey6⟩ : ∃ y : Int32, y = (v1 + 1) := ⟨_, rfl⟩
      have heq := lt_to ey6 heq
      refine lv_iinc (v := y6) (lv' := [(1, .int y6), (0, .ref (mm_lo G + 731))]) hx hb dX7_keep_80 hl (k := 1) rfl (by rw [ey6]; rfl) (by decide) rfl (fun ls hl => ?_)
      refine lv_goto (tgt := 52) hx hb dX7_keep_83 (by decide) ?_
      exact ih _ _ _ _ _ hM hS (lv_sub hl [1, 0] rfl) heq

set_option maxRecDepth 100000 in
set_option maxHeartbeats 4000000 in
theorem tX7_keep_11 (C : mm_C G p s m args meth c RX7 cX7_keep 2 none)  {M9 : mm_M} : ∀ n : Nat, ∀ (M : mm_M) (v1 : Int32) (H : Heap) (locs : List Loc) (ls : Array Slot), mm_P G kR 740 M H → va_S (mm_A G) s.heap H locs → lv_has ls 2 [(0, .ref (mm_lo G + 731)), (1, .int v1)] → fX7_keep_11 n M v1 = some M9 → W p l e rmX7_keep s m args below meth c H locs 0 0 (MQ below (mm_Qv G (kR, 740, M9)) args s 0 0 (mm_A G)) (F0 m 11 ls []) := by
  obtain ⟨hx, hb, -, -, -, -, -, -, hZ, -⟩ := id C
  intro n
  induction n with
  | zero =>
    intro M v1 H locs ls hM hS hl heq
    rw [fX7_keep_11] at heq
    cases heq
  | succ n ih =>
    intro M v1 H locs ls hM hS hl heq
    rw [fX7_keep_11] at heq
    refine lv_iload_n hx hb dX7_keep_11 rfl (lv_at hl 1 rfl) ?_
    refine lv_sipush (v := 17960) hx hb dX7_keep_12 (by decide) ?_
    refine lv_icmp_ge (tgt := 40) hx hb dX7_keep_15 (by decide) (fun c1 => ?_) (fun c1 => ?_)
    · have heq := if_t c1 heq
      refine lv_aload_n hx hb dX7_keep_40 rfl (lv_at hl 0 rfl) ?_
      refine lv_dup hx hb dX7_keep_41 rfl ?_
      refine gX7_39 C hM (kl (rfl : kT 731 = (6, 0))) (rfl : kT 731 = (6, 0)) dX7_keep_42 ?_
      refine lv_iconst (v := 1) hx hb dX7_keep_45 (by decide) ?_
      refine lv_isub hx hb dX7_keep_46 ?_
      refine pX7_39 C hM hS (kl (rfl : kT 731 = (6, 0))) (rfl : kT 731 = (6, 0)) dX7_keep_47 (fun H locs hM hS _ => ?_)
      obtain ⟨M2, eM2⟩ : ∃ z : mm_M, z = sI M 731 2 ((M.1 731 2) - 1) := ⟨_, rfl⟩
      rw [← eM2] at hM
      have heq := lt_to eM2 heq
      refine lv_iconst (v := 0) hx hb dX7_keep_50 (by decide) ?_
      refine lv_istore_n (lv' := [(1, .int 0), (0, .ref (mm_lo G + 731))]) hx hb dX7_keep_51 rfl hl (by decide) rfl (fun ls hl => ?_)
      exact tX7_keep_52 C FU _ _ _ _ _ hM hS (lv_sub hl [1, 0] rfl) heq
    · have heq := if_f c1 heq
      refine lv_aload_n hx hb dX7_keep_18 rfl (lv_at hl 0 rfl) ?_
      refine gX7_13 C hM (kl (rfl : kT 731 = (6, 0))) (rfl : kT 731 = (6, 0)) (rfl : kR 731 1 = some 733) dX7_keep_19 ?_
      refine lv_iload_n hx hb dX7_keep_22 rfl (lv_at hl 1 rfl) ?_
      refine lv_aload_n hx hb dX7_keep_23 rfl (lv_at hl 0 rfl) ?_
      refine gX7_13 C hM (kl (rfl : kT 731 = (6, 0))) (rfl : kT 731 = (6, 0)) (rfl : kR 731 1 = some 733) dX7_keep_24 ?_
      refine lv_iload_n hx hb dX7_keep_27 rfl (lv_at hl 1 rfl) ?_
      refine lv_sipush (v := 3592) hx hb dX7_keep_28 (by decide) ?_
      refine lv_iadd hx hb dX7_keep_31 ?_
      obtain ⟨g3, heq⟩ := gd_of heq
      refine mm_ildk C hM (kl (rfl : kT 733 = (8, 21552))) (rfl : kT 733 = (8, 21552)) (vp_in_of2 g3) rfl dX7_keep_32 ?_
      obtain ⟨g4, heq⟩ := gd_of heq
      refine mm_istk C hM hS (kl (rfl : kT 733 = (8, 21552))) (rfl : kT 733 = (8, 21552)) (vp_in_of2 g4) rfl dX7_keep_33 (fun H locs hM hS _ => ?_)
      obtain ⟨M5, eM5⟩ : ∃ z : mm_M, z = sI M 733 v1.toNatClampNeg (M.1 733 (v1 + 3592).toNatClampNeg) := ⟨_, rfl⟩
      rw [← eM5] at hM
      have heq := lt_to eM5 heq
      obtain ⟨y6, ey6⟩ : ∃ y : Int32, y = (v1 + 1) := ⟨_, rfl⟩
      have heq := lt_to ey6 heq
      refine lv_iinc (v := y6) (lv' := [(1, .int y6), (0, .ref (mm_lo G + 731))]) hx hb dX7_keep_34 hl (k := 1) rfl (by rw [ey6]; rfl) (by decide) rfl (fun ls hl => ?_)
      refine lv_goto (tgt := 11) hx hb dX7_keep_37 (by decide) ?_
      exact ih _ _ _ _ _ hM hS (lv_sub hl [1, 0] rfl) heq

set_option maxRecDepth 100000 in
set_option maxHeartbeats 4000000 in
theorem tX7_keep (l : Launch) (G : mm_G) (M : mm_M)  (M9 : mm_M) (heq : fX7_keep M = some M9) : Met l yX7_keep (mm_ws yX7_keep cX7_keep 2 none) rmX7_keep (va_Pc [.ref (mm_lo G + 731)] (mm_B G (kR, 740, M))) (mm_Qv G (kR, 740, M9)) 0 0 (mm_A G) := by
  refine mm_met (cc := cX7_keep) (nL := 2) (ret := none) plRX7 (Nat.le_of_ble_eq_true rfl) ?_
  intro p e s m below meth c ls hin C hM hS hl
  have C : mm_C G p s m _ meth c RX7 cX7_keep 2 none := C
  have hM : mm_P G kR 740 M s.heap := hM
  have hl : lv_has ls 2 [(0, .ref (mm_lo G + 731))] := hl
  obtain ⟨hx, hb, -, -, -, -, -, -, hZ, -⟩ := id C
  rw [fX7_keep] at heq
  refine lv_aload_n hx hb dX7_keep_0 rfl (lv_at hl 0 rfl) ?_
  refine gX7_39 C hM (kl (rfl : kT 731 = (6, 0))) (rfl : kT 731 = (6, 0)) dX7_keep_1 ?_
  refine lv_bipush (v := 6) hx hb dX7_keep_4 (by decide) ?_
  refine lv_icmp_ne (tgt := 50) hx hb dX7_keep_6 (by decide) (fun c1 => ?_) (fun c1 => ?_)
  · have heq := if_f c1 heq
    refine lv_iconst (v := 0) hx hb dX7_keep_50 (by decide) ?_
    refine lv_istore_n (lv' := [(1, .int 0), (0, .ref (mm_lo G + 731))]) hx hb dX7_keep_51 rfl hl (by decide) rfl (fun ls hl => ?_)
    exact tX7_keep_52 C FU _ _ _ _ _ hM hS (lv_sub hl [1, 0] rfl) heq
  · have heq := if_t c1 heq
    refine lv_iconst (v := 0) hx hb dX7_keep_9 (by decide) ?_
    refine lv_istore_n (lv' := [(1, .int 0), (0, .ref (mm_lo G + 731))]) hx hb dX7_keep_10 rfl hl (by decide) rfl (fun ls hl => ?_)
    exact tX7_keep_11 C FU _ _ _ _ _ hM hS (lv_sub hl [1, 0] rfl) heq

set_option maxRecDepth 100000 in
set_option maxHeartbeats 4000000 in
theorem tX7_keepIf (l : Launch) (G : mm_G) (M : mm_M) (x1 : Bool) (M9 : mm_M) (heq : fX7_keepIf M x1 = some M9) : Met l yX7_keepIf (mm_ws yX7_keepIf cX7_keepIf 2 none) rmX7_keepIf (va_Pc [.ref (mm_lo G + 731), .int (b2i x1)] (mm_B G (kR, 740, M))) (mm_Qv G (kR, 740, M9)) 0 0 (mm_A G) := by
  refine mm_met (cc := cX7_keepIf) (nL := 2) (ret := none) plRX7 (Nat.le_of_ble_eq_true rfl) ?_
  intro p e s m below meth c ls hin C hM hS hl
  have C : mm_C G p s m _ meth c RX7 cX7_keepIf 2 none := C
  have hM : mm_P G kR 740 M s.heap := hM
  have hl : lv_has ls 2 [(0, .ref (mm_lo G + 731)), (1, .int (b2i x1))] := hl
  obtain ⟨hx, hb, -, -, -, -, -, -, hZ, -⟩ := id C
  rw [fX7_keepIf] at heq
  refine lv_iload_n hx hb dX7_keepIf_0 rfl (lv_at hl 1 rfl) ?_
  refine mm_ifeqZ (tgt := 8) C dX7_keepIf_1 (by decide) (fun c1 => ?_) (fun c1 => ?_)
  · have heq := if_f c1 heq
    cases heq
    exact mm_vret C hM hS dX7_keepIf_8
  · have heq := if_t c1 heq
    refine lv_aload_n hx hb dX7_keepIf_4 rfl (lv_at hl 0 rfl) ?_
    obtain ⟨M3, e2, heq⟩ := bn_of heq
    refine mm_kv hS (mm_runV (rest := []) C hM hS (tX7_keep l G M M3 e2) (uX7_43 _ (Nat.le_of_ble_eq_true rfl) (Nat.le_of_ble_eq_true rfl)) (mm_recv C hM (kl (rfl : kT 731 = (6, 0))) (ci := 6) rfl (mm_e6 (rfl : kT 731 = (6, 0)))) hl.1 rfl rfl (Nat.le_of_ble_eq_true rfl) ⟨Nat.zero_le _, Nat.zero_le _⟩ dX7_keepIf_5) (fun H locs hM hS => ?_)
    have hM : mm_P G kR 740 M3 H := hM
    cases heq
    exact mm_vret C hM hS dX7_keepIf_8

set_option maxRecDepth 100000 in
set_option maxHeartbeats 4000000 in
theorem tX7_layAside_2 (C : mm_C G p s m args meth c RX7 cX7_layAside 2 none)  {M9 : mm_M} : ∀ n : Nat, ∀ (M : mm_M) (v1 : Int32) (H : Heap) (locs : List Loc) (ls : Array Slot), mm_P G kR 740 M H → va_S (mm_A G) s.heap H locs → lv_has ls 2 [(0, .ref (mm_lo G + 731)), (1, .int v1)] → fX7_layAside_2 n M v1 = some M9 → W p l e rmX7_layAside s m args below meth c H locs 0 0 (MQ below (mm_Qv G (kR, 740, M9)) args s 0 0 (mm_A G)) (F0 m 2 ls []) := by
  obtain ⟨hx, hb, -, -, -, -, -, -, hZ, -⟩ := id C
  intro n
  induction n with
  | zero =>
    intro M v1 H locs ls hM hS hl heq
    rw [fX7_layAside_2] at heq
    cases heq
  | succ n ih =>
    intro M v1 H locs ls hM hS hl heq
    rw [fX7_layAside_2] at heq
    refine lv_iload_n hx hb dX7_layAside_2 rfl (lv_at hl 1 rfl) ?_
    refine lv_sipush (v := 3592) hx hb dX7_layAside_3 (by decide) ?_
    refine lv_icmp_ge (tgt := 27) hx hb dX7_layAside_6 (by decide) (fun c1 => ?_) (fun c1 => ?_)
    · have heq := if_t c1 heq
      cases heq
      exact mm_vret C hM hS dX7_layAside_27
    · have heq := if_f c1 heq
      refine lv_aload_n hx hb dX7_layAside_9 rfl (lv_at hl 0 rfl) ?_
      refine gX7_23 C hM (kl (rfl : kT 731 = (6, 0))) (rfl : kT 731 = (6, 0)) (rfl : kR 731 5 = some 736) dX7_layAside_10 ?_
      refine lv_iload_n hx hb dX7_layAside_13 rfl (lv_at hl 1 rfl) ?_
      refine lv_aload_n hx hb dX7_layAside_14 rfl (lv_at hl 0 rfl) ?_
      refine gX7_7 C hM (kl (rfl : kT 731 = (6, 0))) (rfl : kT 731 = (6, 0)) (rfl : kR 731 0 = some 732) dX7_layAside_15 ?_
      refine lv_iload_n hx hb dX7_layAside_18 rfl (lv_at hl 1 rfl) ?_
      obtain ⟨g2, heq⟩ := gd_of heq
      refine mm_ildk C hM (kl (rfl : kT 732 = (8, 3592))) (rfl : kT 732 = (8, 3592)) (vp_in_of2 g2) rfl dX7_layAside_19 ?_
      refine mm_istk C hM hS (kl (rfl : kT 736 = (8, 3592))) (rfl : kT 736 = (8, 3592)) (vp_in_of2 g2) rfl dX7_layAside_20 (fun H locs hM hS _ => ?_)
      obtain ⟨M3, eM3⟩ : ∃ z : mm_M, z = sI M 736 v1.toNatClampNeg (M.1 732 v1.toNatClampNeg) := ⟨_, rfl⟩
      rw [← eM3] at hM
      have heq := lt_to eM3 heq
      obtain ⟨y4, ey4⟩ : ∃ y : Int32, y = (v1 + 1) := ⟨_, rfl⟩
      have heq := lt_to ey4 heq
      refine lv_iinc (v := y4) (lv' := [(1, .int y4), (0, .ref (mm_lo G + 731))]) hx hb dX7_layAside_21 hl (k := 1) rfl (by rw [ey4]; rfl) (by decide) rfl (fun ls hl => ?_)
      refine lv_goto (tgt := 2) hx hb dX7_layAside_24 (by decide) ?_
      exact ih _ _ _ _ _ hM hS (lv_sub hl [1, 0] rfl) heq

set_option maxRecDepth 100000 in
set_option maxHeartbeats 4000000 in
theorem tX7_layAside (l : Launch) (G : mm_G) (M : mm_M)  (M9 : mm_M) (heq : fX7_layAside M = some M9) : Met l yX7_layAside (mm_ws yX7_layAside cX7_layAside 2 none) rmX7_layAside (va_Pc [.ref (mm_lo G + 731)] (mm_B G (kR, 740, M))) (mm_Qv G (kR, 740, M9)) 0 0 (mm_A G) := by
  refine mm_met (cc := cX7_layAside) (nL := 2) (ret := none) plRX7 (Nat.le_of_ble_eq_true rfl) ?_
  intro p e s m below meth c ls hin C hM hS hl
  have C : mm_C G p s m _ meth c RX7 cX7_layAside 2 none := C
  have hM : mm_P G kR 740 M s.heap := hM
  have hl : lv_has ls 2 [(0, .ref (mm_lo G + 731))] := hl
  obtain ⟨hx, hb, -, -, -, -, -, -, hZ, -⟩ := id C
  rw [fX7_layAside] at heq
  refine lv_iconst (v := 0) hx hb dX7_layAside_0 (by decide) ?_
  refine lv_istore_n (lv' := [(1, .int 0), (0, .ref (mm_lo G + 731))]) hx hb dX7_layAside_1 rfl hl (by decide) rfl (fun ls hl => ?_)
  exact tX7_layAside_2 C FU _ _ _ _ _ hM hS (lv_sub hl [1, 0] rfl) heq
end WALK
