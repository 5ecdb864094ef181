section WALK
variable {p : Program} {l : Launch} {e : Env} {s : State} {m : MethodId} {args : Array Value} {below : List Frame} {meth : Method} {c : Code} {G : mm_G}
set_option maxRecDepth 100000 in
set_option maxHeartbeats 4000000 in
theorem tX0_beginDay (l : Launch) (G : mm_G) (M : mm_M) (a0 : Nat) (h0 : kT a0 = (0, 0)) (M9 : mm_M) (heq : fX0_beginDay M a0 = some M9) : Met l yX0_beginDay (mm_ws yX0_beginDay cX0_beginDay 1 none) rmX0_beginDay (va_Pc [.ref (mm_lo G + a0)] (mm_B G (kR, 740, M))) (mm_Qv G (kR, 740, M9)) 0 0 (mm_A G) := by
  refine mm_met (cc := cX0_beginDay) (nL := 1) (ret := none) plRX0 (Nat.le_of_ble_eq_true rfl) ?_
  intro p e s m below meth c ls hin C hM hS hl
  have C : mm_C G p s m _ meth c RX0 cX0_beginDay 1 none := C
  have hM : mm_P G kR 740 M s.heap := hM
  have hl : lv_has ls 1 [(0, .ref (mm_lo G + a0))] := hl
  obtain ⟨hx, hb, -, -, -, -, -, -, hZ, -⟩ := id C
  rw [fX0_beginDay] at heq
  refine lv_aload_n hx hb dX0_beginDay_0 rfl (lv_at hl 0 rfl) ?_
  refine lv_bipush (v := (-6)) hx hb dX0_beginDay_1 (by decide) ?_
  refine pX0_63 C hM hS (kl h0) h0 dX0_beginDay_3 (fun H locs hM hS _ => ?_)
  obtain ⟨M1, eM1⟩ : ∃ z : mm_M, z = sI M a0 8 (-6) := ⟨_, rfl⟩
  rw [← eM1] at hM
  have heq := lt_to eM1 heq
  refine lv_aload_n hx hb dX0_beginDay_6 rfl (lv_at hl 0 rfl) ?_
  refine lv_bipush (v := (-6)) hx hb dX0_beginDay_7 (by decide) ?_
  refine pX0_66 C hM hS (kl h0) h0 dX0_beginDay_9 (fun H locs hM hS _ => ?_)
  obtain ⟨M2, eM2⟩ : ∃ z : mm_M, z = sI M1 a0 9 (-6) := ⟨_, rfl⟩
  rw [← eM2] at hM
  have heq := lt_to eM2 heq
  refine lv_aload_n hx hb dX0_beginDay_12 rfl (lv_at hl 0 rfl) ?_
  refine lv_iconst (v := 0) hx hb dX0_beginDay_13 (by decide) ?_
  refine pX0_69 C hM hS (kl h0) h0 dX0_beginDay_14 (fun H locs hM hS _ => ?_)
  obtain ⟨M3, eM3⟩ : ∃ z : mm_M, z = sI M2 a0 10 0 := ⟨_, rfl⟩
  rw [← eM3] at hM
  have heq := lt_to eM3 heq
  refine lv_aload_n hx hb dX0_beginDay_17 rfl (lv_at hl 0 rfl) ?_
  refine lv_bipush (v := (-6)) hx hb dX0_beginDay_18 (by decide) ?_
  refine pX0_72 C hM hS (kl h0) h0 dX0_beginDay_20 (fun H locs hM hS _ => ?_)
  obtain ⟨M4, eM4⟩ : ∃ z : mm_M, z = sI M3 a0 11 (-6) := ⟨_, rfl⟩
  rw [← eM4] at hM
  have heq := lt_to eM4 heq
  cases heq
  exact mm_vret C hM hS dX0_beginDay_23

set_option maxRecDepth 100000 in
set_option maxHeartbeats 4000000 in
theorem tX0_dropAllPoints_2 (C : mm_C G p s m args meth c RX0 cX0_dropAllPoints 2 none) (a0 : Nat) (h0 : kT a0 = (0, 0)) {M9 : mm_M} : ∀ n : Nat, ∀ (M : mm_M) (v1 : Int32) (H : Heap) (locs : List Loc) (ls : Array Slot), mm_P G kR 740 M H → va_S (mm_A G) s.heap H locs → lv_has ls 2 [(0, .ref (mm_lo G + a0)), (1, .int v1)] → fX0_dropAllPoints_2 a0 n M v1 = some M9 → W p l e rmX0_dropAllPoints s m args below meth c H locs 0 0 (MQ below (mm_Qv G (kR, 740, M9)) args s 0 0 (mm_A G)) (F0 m 2 ls []) := by
  obtain ⟨hx, hb, -, -, -, -, -, -, hZ, -⟩ := id C
  intro n
  induction n with
  | zero =>
    intro M v1 H locs ls hM hS hl heq
    rw [fX0_dropAllPoints_2] at heq
    cases heq
  | succ n ih =>
    intro M v1 H locs ls hM hS hl heq
    rw [fX0_dropAllPoints_2] at heq
    refine lv_iload_n hx hb dX0_dropAllPoints_2 rfl (lv_at hl 1 rfl) ?_
    refine lv_sipush (v := 200) hx hb dX0_dropAllPoints_3 (by decide) ?_
    refine lv_icmp_ge (tgt := 22) hx hb dX0_dropAllPoints_6 (by decide) (fun c1 => ?_) (fun c1 => ?_)
    · have heq := if_t c1 heq
      cases heq
      exact mm_vret C hM hS dX0_dropAllPoints_22
    · have heq := if_f c1 heq
      refine lv_aload_n hx hb dX0_dropAllPoints_9 rfl (lv_at hl 0 rfl) ?_
      refine gX0_15 C hM (kl h0) h0 (rC_17 h0) dX0_dropAllPoints_10 ?_
      refine lv_iload_n hx hb dX0_dropAllPoints_13 rfl (lv_at hl 1 rfl) ?_
      refine lv_iconst (v := 0) hx hb dX0_dropAllPoints_14 (by decide) ?_
      obtain ⟨g2, heq⟩ := gd_of heq
      refine mm_istk C hM hS (kl (kC_17 h0)) (kC_17 h0) (vp_in_of2 g2) rfl dX0_dropAllPoints_15 (fun H locs hM hS _ => ?_)
      obtain ⟨M3, eM3⟩ : ∃ z : mm_M, z = sI M (a0 + 2) v1.toNatClampNeg 0 := ⟨_, rfl⟩
      rw [← eM3] at hM
      have heq := lt_to eM3 heq
      obtain ⟨y4, ey4⟩ : ∃ y : Int32, y = (v1 + 1) := ⟨_, rfl⟩
      have heq := lt_to ey4 heq
      refine lv_iinc (v := y4) (lv' := [(1, .int y4), (0, .ref (mm_lo G + a0))]) hx hb dX0_dropAllPoints_16 hl (k := 1) rfl (by rw [ey4]; rfl) (by decide) rfl (fun ls hl => ?_)
      refine lv_goto (tgt := 2) hx hb dX0_dropAllPoints_19 (by decide) ?_
      exact ih _ _ _ _ _ hM hS (lv_sub hl [1, 0] rfl) heq

set_option maxRecDepth 100000 in
set_option maxHeartbeats 4000000 in
theorem tX0_dropAllPoints (l : Launch) (G : mm_G) (M : mm_M) (a0 : Nat) (h0 : kT a0 = (0, 0)) (M9 : mm_M) (heq : fX0_dropAllPoints M a0 = some M9) : Met l yX0_dropAllPoints (mm_ws yX0_dropAllPoints cX0_dropAllPoints 2 none) rmX0_dropAllPoints (va_Pc [.ref (mm_lo G + a0)] (mm_B G (kR, 740, M))) (mm_Qv G (kR, 740, M9)) 0 0 (mm_A G) := by
  refine mm_met (cc := cX0_dropAllPoints) (nL := 2) (ret := none) plRX0 (Nat.le_of_ble_eq_true rfl) ?_
  intro p e s m below meth c ls hin C hM hS hl
  have C : mm_C G p s m _ meth c RX0 cX0_dropAllPoints 2 none := C
  have hM : mm_P G kR 740 M s.heap := hM
  have hl : lv_has ls 2 [(0, .ref (mm_lo G + a0))] := hl
  obtain ⟨hx, hb, -, -, -, -, -, -, hZ, -⟩ := id C
  rw [fX0_dropAllPoints] at heq
  refine lv_iconst (v := 0) hx hb dX0_dropAllPoints_0 (by decide) ?_
  refine lv_istore_n (lv' := [(1, .int 0), (0, .ref (mm_lo G + a0))]) hx hb dX0_dropAllPoints_1 rfl hl (by decide) rfl (fun ls hl => ?_)
  exact tX0_dropAllPoints_2 C a0 h0 FU _ _ _ _ _ hM hS (lv_sub hl [1, 0] rfl) heq

set_option maxRecDepth 100000 in
set_option maxHeartbeats 4000000 in
theorem tX0_begin (l : Launch) (G : mm_G) (M : mm_M) (a0 : Nat) (h0 : kT a0 = (0, 0)) (x1 : Int32) (x2 : Int32) (x3 : Int32) (M9 : mm_M) (heq : fX0_begin M a0 x1 x2 x3 = some M9) : Met l yX0_begin (mm_ws yX0_begin cX0_begin 4 none) rmX0_begin (va_Pc [.ref (mm_lo G + a0), .int x1, .int x2, .int x3] (mm_B G (kR, 740, M))) (mm_Qv G (kR, 740, M9)) 0 0 (mm_A G) := by
  refine mm_met (cc := cX0_begin) (nL := 4) (ret := none) plRX0 (Nat.le_of_ble_eq_true rfl) ?_
  intro p e s m below meth c ls hin C hM hS hl
  have C : mm_C G p s m _ meth c RX0 cX0_begin 4 none := C
  have hM : mm_P G kR 740 M s.heap := hM
  have hl : lv_has ls 4 [(0, .ref (mm_lo G + a0)), (1, .int x1), (2, .int x2), (3, .int x3)] := hl
  obtain ⟨hx, hb, -, -, -, -, -, -, hZ, -⟩ := id C
  rw [fX0_begin] at heq
  refine lv_aload_n hx hb dX0_begin_0 rfl (lv_at hl 0 rfl) ?_
  refine lv_iload_n hx hb dX0_begin_1 rfl (lv_at hl 1 rfl) ?_
  refine pX0_18 C hM hS (kl h0) h0 dX0_begin_2 (fun H locs hM hS _ => ?_)
  obtain ⟨M1, eM1⟩ : ∃ z : mm_M, z = sI M a0 0 x1 := ⟨_, rfl⟩
  rw [← eM1] at hM
  have heq := lt_to eM1 heq
  refine lv_aload_n hx hb dX0_begin_5 rfl (lv_at hl 0 rfl) ?_
  refine lv_iload_n hx hb dX0_begin_6 rfl (lv_at hl 2 rfl) ?_
  refine pX0_22 C hM hS (kl h0) h0 dX0_begin_7 (fun H locs hM hS _ => ?_)
  obtain ⟨M2, eM2⟩ : ∃ z : mm_M, z = sI M1 a0 1 x2 := ⟨_, rfl⟩
  rw [← eM2] at hM
  have heq := lt_to eM2 heq
  refine lv_aload_n hx hb dX0_begin_10 rfl (lv_at hl 0 rfl) ?_
  refine lv_iload_n hx hb dX0_begin_11 rfl (lv_at hl 3 rfl) ?_
  refine pX0_25 C hM hS (kl h0) h0 dX0_begin_12 (fun H locs hM hS _ => ?_)
  obtain ⟨M3, eM3⟩ : ∃ z : mm_M, z = sI M2 a0 4 x3 := ⟨_, rfl⟩
  rw [← eM3] at hM
  have heq := lt_to eM3 heq
  refine lv_aload_n hx hb dX0_begin_15 rfl (lv_at hl 0 rfl) ?_
  refine lv_iconst (v := 0) hx hb dX0_begin_16 (by decide) ?_
  refine pX0_28 C hM hS (kl h0) h0 dX0_begin_17 (fun H locs hM hS _ => ?_)
  obtain ⟨M4, eM4⟩ : ∃ z : mm_M, z = sI M3 a0 2 0 := ⟨_, rfl⟩
  rw [← eM4] at hM
  have heq := lt_to eM4 heq
  refine lv_aload_n hx hb dX0_begin_20 rfl (lv_at hl 0 rfl) ?_
  refine lv_iconst (v := 0) hx hb dX0_begin_21 (by decide) ?_
  refine pX0_31 C hM hS (kl h0) h0 dX0_begin_22 (fun H locs hM hS _ => ?_)
  obtain ⟨M5, eM5⟩ : ∃ z : mm_M, z = sI M4 a0 3 0 := ⟨_, rfl⟩
  rw [← eM5] at hM
  have heq := lt_to eM5 heq
  refine lv_aload_n hx hb dX0_begin_25 rfl (lv_at hl 0 rfl) ?_
  refine lv_iconst (v := 0) hx hb dX0_begin_26 (by decide) ?_
  refine pX0_34 C hM hS (kl h0) h0 (Or.inl rfl) dX0_begin_27 (fun H locs hM hS _ => ?_)
  obtain ⟨M6, eM6⟩ : ∃ z : mm_M, z = sI M5 a0 5 0 := ⟨_, rfl⟩
  rw [← eM6] at hM
  have heq := lt_to eM6 heq
  refine lv_aload_n hx hb dX0_begin_30 rfl (lv_at hl 0 rfl) ?_
  refine lv_bipush (v := (-6)) hx hb dX0_begin_31 (by decide) ?_
  refine pX0_38 C hM hS (kl h0) h0 dX0_begin_33 (fun H locs hM hS _ => ?_)
  obtain ⟨M7, eM7⟩ : ∃ z : mm_M, z = sI M6 a0 6 (-6) := ⟨_, rfl⟩
  rw [← eM7] at hM
  have heq := lt_to eM7 heq
  refine lv_aload_n hx hb dX0_begin_36 rfl (lv_at hl 0 rfl) ?_
  refine lv_iconst (v := 0) hx hb dX0_begin_37 (by decide) ?_
  refine pX0_41 C hM hS (kl h0) h0 dX0_begin_38 (fun H locs hM hS _ => ?_)
  obtain ⟨M8, eM8⟩ : ∃ z : mm_M, z = sI M7 a0 7 0 := ⟨_, rfl⟩
  rw [← eM8] at hM
  have heq := lt_to eM8 heq
  refine lv_aload_n hx hb dX0_begin_41 rfl (lv_at hl 0 rfl) ?_
  refine lv_lconst (v := 0) hx hb dX0_begin_42 (by decide) ?_
  refine pX0_44 C hM hS (kl h0) h0 dX0_begin_43 (fun H locs hM hS _ => ?_)
  obtain ⟨M9, eM9⟩ : ∃ z : mm_M, z = sL M8 a0 12 (0 : Int64) := ⟨_, rfl⟩
  rw [← eM9] at hM
  have heq := lt_to eM9 heq
  refine lv_aload_n hx hb dX0_begin_46 rfl (lv_at hl 0 rfl) ?_
  refine lv_lconst (v := 0) hx hb dX0_begin_47 (by decide) ?_
  refine pX0_48 C hM hS (kl h0) h0 dX0_begin_48 (fun H locs hM hS _ => ?_)
  obtain ⟨M10, eM10⟩ : ∃ z : mm_M, z = sL M9 a0 13 (0 : Int64) := ⟨_, rfl⟩
  rw [← eM10] at hM
  have heq := lt_to eM10 heq
  refine lv_aload_n hx hb dX0_begin_51 rfl (lv_at hl 0 rfl) ?_
  refine lv_lconst (v := 0) hx hb dX0_begin_52 (by decide) ?_
  refine pX0_51 C hM hS (kl h0) h0 dX0_begin_53 (fun H locs hM hS _ => ?_)
  obtain ⟨M11, eM11⟩ : ∃ z : mm_M, z = sL M10 a0 14 (0 : Int64) := ⟨_, rfl⟩
  rw [← eM11] at hM
  have heq := lt_to eM11 heq
  refine lv_aload_n hx hb dX0_begin_56 rfl (lv_at hl 0 rfl) ?_
  refine lv_lconst (v := 0) hx hb dX0_begin_57 (by decide) ?_
  refine pX0_54 C hM hS (kl h0) h0 dX0_begin_58 (fun H locs hM hS _ => ?_)
  obtain ⟨M12, eM12⟩ : ∃ z : mm_M, z = sL M11 a0 15 (0 : Int64) := ⟨_, rfl⟩
  rw [← eM12] at hM
  have heq := lt_to eM12 heq
  refine lv_aload_n hx hb dX0_begin_61 rfl (lv_at hl 0 rfl) ?_
  obtain ⟨M14, e13, heq⟩ := bn_of heq
  refine mm_kv hS (mm_runV (rest := []) C hM hS (tX0_dropAllPoints l G M12 a0 h0 M14 e13) (uX0_57 _ (Nat.le_of_ble_eq_true rfl) (Nat.le_of_ble_eq_true rfl)) (mm_recv C hM (kl h0) (ci := 0) rfl (mm_e0 h0)) hl.1 rfl rfl (Nat.le_of_ble_eq_true rfl) ⟨Nat.zero_le _, Nat.zero_le _⟩ dX0_begin_62) (fun H locs hM hS => ?_)
  have hM : mm_P G kR 740 M14 H := hM
  refine lv_aload_n hx hb dX0_begin_65 rfl (lv_at hl 0 rfl) ?_
  obtain ⟨M16, e15, heq⟩ := bn_of heq
  refine mm_kv hS (mm_runV (rest := []) C hM hS (tX0_beginDay l G M14 a0 h0 M16 e15) (uX0_60 _ (Nat.le_of_ble_eq_true rfl) (Nat.le_of_ble_eq_true rfl)) (mm_recv C hM (kl h0) (ci := 0) rfl (mm_e0 h0)) hl.1 rfl rfl (Nat.le_of_ble_eq_true rfl) ⟨Nat.zero_le _, Nat.zero_le _⟩ dX0_begin_66) (fun H locs hM hS => ?_)
  have hM : mm_P G kR 740 M16 H := hM
  cases heq
  exact mm_vret C hM hS dX0_begin_69

set_option maxRecDepth 100000 in
set_option maxHeartbeats 4000000 in
theorem tX0_copyFrom (l : Launch) (G : mm_G) (M : mm_M) (a0 : Nat) (h0 : kT a0 = (0, 0)) (a1 : Nat) (h1 : kT a1 = (0, 0)) (M9 : mm_M) (heq : fX0_copyFrom M a0 a1 = some M9) : Met l yX0_copyFrom (mm_ws yX0_copyFrom cX0_copyFrom 2 none) rmX0_copyFrom (va_Pc [.ref (mm_lo G + a0), .ref (mm_lo G + a1)] (mm_B G (kR, 740, M))) (mm_Qv G (kR, 740, M9)) 0 0 (mm_A G) := by
  refine mm_met (cc := cX0_copyFrom) (nL := 2) (ret := none) plRX0 (Nat.le_of_ble_eq_true rfl) ?_
  intro p e s m below meth c ls hin C hM hS hl
  have C : mm_C G p s m _ meth c RX0 cX0_copyFrom 2 none := C
  have hM : mm_P G kR 740 M s.heap := hM
  have hl : lv_has ls 2 [(0, .ref (mm_lo G + a0)), (1, .ref (mm_lo G + a1))] := hl
  obtain ⟨hx, hb, -, -, -, -, -, -, hZ, -⟩ := id C
  rw [fX0_copyFrom] at heq
  refine lv_aload_n hx hb dX0_copyFrom_0 rfl (lv_at hl 0 rfl) ?_
  refine lv_aload_n hx hb dX0_copyFrom_1 rfl (lv_at hl 1 rfl) ?_
  refine gX0_18 C hM (kl h1) h1 dX0_copyFrom_2 ?_
  refine pX0_18 C hM hS (kl h0) h0 dX0_copyFrom_5 (fun H locs hM hS _ => ?_)
  obtain ⟨M1, eM1⟩ : ∃ z : mm_M, z = sI M a0 0 (M.1 a1 0) := ⟨_, rfl⟩
  rw [← eM1] at hM
  have heq := lt_to eM1 heq
  refine lv_aload_n hx hb dX0_copyFrom_8 rfl (lv_at hl 0 rfl) ?_
  refine lv_aload_n hx hb dX0_copyFrom_9 rfl (lv_at hl 1 rfl) ?_
  refine gX0_22 C hM (kl h1) h1 dX0_copyFrom_10 ?_
  refine pX0_22 C hM hS (kl h0) h0 dX0_copyFrom_13 (fun H locs hM hS _ => ?_)
  obtain ⟨M2, eM2⟩ : ∃ z : mm_M, z = sI M1 a0 1 (M1.1 a1 1) := ⟨_, rfl⟩
  rw [← eM2] at hM
  have heq := lt_to eM2 heq
  refine lv_aload_n hx hb dX0_copyFrom_16 rfl (lv_at hl 0 rfl) ?_
  refine lv_aload_n hx hb dX0_copyFrom_17 rfl (lv_at hl 1 rfl) ?_
  refine gX0_28 C hM (kl h1) h1 dX0_copyFrom_18 ?_
  refine pX0_28 C hM hS (kl h0) h0 dX0_copyFrom_21 (fun H locs hM hS _ => ?_)
  obtain ⟨M3, eM3⟩ : ∃ z : mm_M, z = sI M2 a0 2 (M2.1 a1 2) := ⟨_, rfl⟩
  rw [← eM3] at hM
  have heq := lt_to eM3 heq
  refine lv_aload_n hx hb dX0_copyFrom_24 rfl (lv_at hl 0 rfl) ?_
  refine lv_aload_n hx hb dX0_copyFrom_25 rfl (lv_at hl 1 rfl) ?_
  refine gX0_31 C hM (kl h1) h1 dX0_copyFrom_26 ?_
  refine pX0_31 C hM hS (kl h0) h0 dX0_copyFrom_29 (fun H locs hM hS _ => ?_)
  obtain ⟨M4, eM4⟩ : ∃ z : mm_M, z = sI M3 a0 3 (M3.1 a1 3) := ⟨_, rfl⟩
  rw [← eM4] at hM
  have heq := lt_to eM4 heq
  refine lv_aload_n hx hb dX0_copyFrom_32 rfl (lv_at hl 0 rfl) ?_
  refine lv_aload_n hx hb dX0_copyFrom_33 rfl (lv_at hl 1 rfl) ?_
  refine gX0_25 C hM (kl h1) h1 dX0_copyFrom_34 ?_
  refine pX0_25 C hM hS (kl h0) h0 dX0_copyFrom_37 (fun H locs hM hS _ => ?_)
  obtain ⟨M5, eM5⟩ : ∃ z : mm_M, z = sI M4 a0 4 (M4.1 a1 4) := ⟨_, rfl⟩
  rw [← eM5] at hM
  have heq := lt_to eM5 heq
  refine lv_aload_n hx hb dX0_copyFrom_40 rfl (lv_at hl 0 rfl) ?_
  refine lv_aload_n hx hb dX0_copyFrom_41 rfl (lv_at hl 1 rfl) ?_
  refine gX0_34 C hM (kl h1) h1 dX0_copyFrom_42 ?_
  obtain ⟨g6, heq⟩ := gd_of heq
  refine pX0_34 C hM hS (kl h0) h0 g6 dX0_copyFrom_45 (fun H locs hM hS _ => ?_)
  obtain ⟨M7, eM7⟩ : ∃ z : mm_M, z = sI M5 a0 5 (M5.1 a1 5) := ⟨_, rfl⟩
  rw [← eM7] at hM
  have heq := lt_to eM7 heq
  refine lv_aload_n hx hb dX0_copyFrom_48 rfl (lv_at hl 0 rfl) ?_
  refine lv_aload_n hx hb dX0_copyFrom_49 rfl (lv_at hl 1 rfl) ?_
  refine gX0_38 C hM (kl h1) h1 dX0_copyFrom_50 ?_
  refine pX0_38 C hM hS (kl h0) h0 dX0_copyFrom_53 (fun H locs hM hS _ => ?_)
  obtain ⟨M8, eM8⟩ : ∃ z : mm_M, z = sI M7 a0 6 (M7.1 a1 6) := ⟨_, rfl⟩
  rw [← eM8] at hM
  have heq := lt_to eM8 heq
  refine lv_aload_n hx hb dX0_copyFrom_56 rfl (lv_at hl 0 rfl) ?_
  refine lv_aload_n hx hb dX0_copyFrom_57 rfl (lv_at hl 1 rfl) ?_
  refine gX0_41 C hM (kl h1) h1 dX0_copyFrom_58 ?_
  refine pX0_41 C hM hS (kl h0) h0 dX0_copyFrom_61 (fun H locs hM hS _ => ?_)
  obtain ⟨M9, eM9⟩ : ∃ z : mm_M, z = sI M8 a0 7 (M8.1 a1 7) := ⟨_, rfl⟩
  rw [← eM9] at hM
  have heq := lt_to eM9 heq
  refine lv_aload_n hx hb dX0_copyFrom_64 rfl (lv_at hl 0 rfl) ?_
  refine lv_aload_n hx hb dX0_copyFrom_65 rfl (lv_at hl 1 rfl) ?_
  refine gX0_63 C hM (kl h1) h1 dX0_copyFrom_66 ?_
  refine pX0_63 C hM hS (kl h0) h0 dX0_copyFrom_69 (fun H locs hM hS _ => ?_)
  obtain ⟨M10, eM10⟩ : ∃ z : mm_M, z = sI M9 a0 8 (M9.1 a1 8) := ⟨_, rfl⟩
  rw [← eM10] at hM
  have heq := lt_to eM10 heq
  refine lv_aload_n hx hb dX0_copyFrom_72 rfl (lv_at hl 0 rfl) ?_
  refine lv_aload_n hx hb dX0_copyFrom_73 rfl (lv_at hl 1 rfl) ?_
  refine gX0_66 C hM (kl h1) h1 dX0_copyFrom_74 ?_
  refine pX0_66 C hM hS (kl h0) h0 dX0_copyFrom_77 (fun H locs hM hS _ => ?_)
  obtain ⟨M11, eM11⟩ : ∃ z : mm_M, z = sI M10 a0 9 (M10.1 a1 9) := ⟨_, rfl⟩
  rw [← eM11] at hM
  have heq := lt_to eM11 heq
  refine lv_aload_n hx hb dX0_copyFrom_80 rfl (lv_at hl 0 rfl) ?_
  refine lv_aload_n hx hb dX0_copyFrom_81 rfl (lv_at hl 1 rfl) ?_
  refine gX0_69 C hM (kl h1) h1 dX0_copyFrom_82 ?_
  refine pX0_69 C hM hS (kl h0) h0 dX0_copyFrom_85 (fun H locs hM hS _ => ?_)
  obtain ⟨M12, eM12⟩ : ∃ z : mm_M, z = sI M11 a0 10 (M11.1 a1 10) := ⟨_, rfl⟩
  rw [← eM12] at hM
  have heq := lt_to eM12 heq
  refine lv_aload_n hx hb dX0_copyFrom_88 rfl (lv_at hl 0 rfl) ?_
  refine lv_aload_n hx hb dX0_copyFrom_89 rfl (lv_at hl 1 rfl) ?_
  refine gX0_72 C hM (kl h1) h1 dX0_copyFrom_90 ?_
  refine pX0_72 C hM hS (kl h0) h0 dX0_copyFrom_93 (fun H locs hM hS _ => ?_)
  obtain ⟨M13, eM13⟩ : ∃ z : mm_M, z = sI M12 a0 11 (M12.1 a1 11) := ⟨_, rfl⟩
  rw [← eM13] at hM
  have heq := lt_to eM13 heq
  refine lv_aload_n hx hb dX0_copyFrom_96 rfl (lv_at hl 0 rfl) ?_
  refine lv_aload_n hx hb dX0_copyFrom_97 rfl (lv_at hl 1 rfl) ?_
  refine gX0_44 C hM (kl h1) h1 dX0_copyFrom_98 ?_
  refine pX0_44 C hM hS (kl h0) h0 dX0_copyFrom_101 (fun H locs hM hS _ => ?_)
  obtain ⟨M14, eM14⟩ : ∃ z : mm_M, z = sL M13 a0 12 (M13.2 a1 12) := ⟨_, rfl⟩
  rw [← eM14] at hM
  have heq := lt_to eM14 heq
  refine lv_aload_n hx hb dX0_copyFrom_104 rfl (lv_at hl 0 rfl) ?_
  refine lv_aload_n hx hb dX0_copyFrom_105 rfl (lv_at hl 1 rfl) ?_
  refine gX0_48 C hM (kl h1) h1 dX0_copyFrom_106 ?_
  refine pX0_48 C hM hS (kl h0) h0 dX0_copyFrom_109 (fun H locs hM hS _ => ?_)
  obtain ⟨M15, eM15⟩ : ∃ z : mm_M, z = sL M14 a0 13 (M14.2 a1 13) := ⟨_, rfl⟩
  rw [← eM15] at hM
  have heq := lt_to eM15 heq
  refine lv_aload_n hx hb dX0_copyFrom_112 rfl (lv_at hl 0 rfl) ?_
  refine lv_aload_n hx hb dX0_copyFrom_113 rfl (lv_at hl 1 rfl) ?_
  refine gX0_51 C hM (kl h1) h1 dX0_copyFrom_114 ?_
  refine pX0_51 C hM hS (kl h0) h0 dX0_copyFrom_117 (fun H locs hM hS _ => ?_)
  obtain ⟨M16, eM16⟩ : ∃ z : mm_M, z = sL M15 a0 14 (M15.2 a1 14) := ⟨_, rfl⟩
  rw [← eM16] at hM
  have heq := lt_to eM16 heq
  refine lv_aload_n hx hb dX0_copyFrom_120 rfl (lv_at hl 0 rfl) ?_
  refine lv_aload_n hx hb dX0_copyFrom_121 rfl (lv_at hl 1 rfl) ?_
  refine gX0_54 C hM (kl h1) h1 dX0_copyFrom_122 ?_
  refine pX0_54 C hM hS (kl h0) h0 dX0_copyFrom_125 (fun H locs hM hS _ => ?_)
  obtain ⟨M17, eM17⟩ : ∃ z : mm_M, z = sL M16 a0 15 (M16.2 a1 15) := ⟨_, rfl⟩
  rw [← eM17] at hM
  have heq := lt_to eM17 heq
  refine lv_aload_n hx hb dX0_copyFrom_128 rfl (lv_at hl 1 rfl) ?_
  refine gX0_9 C hM (kl h1) h1 (rC_16 h1) dX0_copyFrom_129 ?_
  refine lv_iconst (v := 0) hx hb dX0_copyFrom_132 (by decide) ?_
  refine lv_aload_n hx hb dX0_copyFrom_133 rfl (lv_at hl 0 rfl) ?_
  refine gX0_9 C hM (kl h0) h0 (rC_16 h0) dX0_copyFrom_134 ?_
  refine lv_iconst (v := 0) hx hb dX0_copyFrom_137 (by decide) ?_
  refine lv_iconst (v := 3) hx hb dX0_copyFrom_138 (by decide) ?_
  refine mm_cpy C hM hS (kl (kC_16 h1)) (kl (kC_16 h0)) (kC_16 h1) (kC_16 h0) hl.1 (kn := 3) (by decide) (by decide) (by decide) (by decide) mX0_75 wCpy1 wCpy2 wCpy3 (Nat.le_of_ble_eq_true rfl) (Nat.le_of_ble_eq_true rfl) dX0_copyFrom_139 (fun H locs hM hS => ?_)
  obtain ⟨M18, eM18⟩ : ∃ z : mm_M, z = sC M17 (a0 + 1) (fun j => if j < 3 then M17.1 (a1 + 1) j else M17.1 (a0 + 1) j) := ⟨_, rfl⟩
  rw [← eM18] at hM
  have heq := lt_to eM18 heq
  refine lv_aload_n hx hb dX0_copyFrom_142 rfl (lv_at hl 1 rfl) ?_
  refine gX0_15 C hM (kl h1) h1 (rC_17 h1) dX0_copyFrom_143 ?_
  refine lv_iconst (v := 0) hx hb dX0_copyFrom_146 (by decide) ?_
  refine lv_aload_n hx hb dX0_copyFrom_147 rfl (lv_at hl 0 rfl) ?_
  refine gX0_15 C hM (kl h0) h0 (rC_17 h0) dX0_copyFrom_148 ?_
  refine lv_iconst (v := 0) hx hb dX0_copyFrom_151 (by decide) ?_
  refine lv_sipush (v := 200) hx hb dX0_copyFrom_152 (by decide) ?_
  refine mm_cpy C hM hS (kl (kC_17 h1)) (kl (kC_17 h0)) (kC_17 h1) (kC_17 h0) hl.1 (kn := 200) (by decide) (by decide) (by decide) (by decide) mX0_75 wCpy1 wCpy2 wCpy3 (Nat.le_of_ble_eq_true rfl) (Nat.le_of_ble_eq_true rfl) dX0_copyFrom_155 (fun H locs hM hS => ?_)
  obtain ⟨M19, eM19⟩ : ∃ z : mm_M, z = sC M18 (a0 + 2) (fun j => if j < 200 then M18.1 (a1 + 2) j else M18.1 (a0 + 2) j) := ⟨_, rfl⟩
  rw [← eM19] at hM
  have heq := lt_to eM19 heq
  cases heq
  exact mm_vret C hM hS dX0_copyFrom_158

set_option maxRecDepth 100000 in
set_option maxHeartbeats 4000000 in
theorem tX0_balance (l : Launch) (G : mm_G) (M : mm_M) (a0 : Nat) (h0 : kT a0 = (0, 0)) (r : Int64) (heq : fX0_balance M a0 = some r) : Met l yX0_balance (mm_ws yX0_balance cX0_balance 1 (some .long)) rmX0_balance (va_Pc [.ref (mm_lo G + a0)] (mm_B G (kR, 740, M))) (mm_Ql G r (kR, 740, M)) 0 0 (mm_A G) := by
  refine mm_met (cc := cX0_balance) (nL := 1) (ret := (some .long)) plRX0 (Nat.le_of_ble_eq_true rfl) ?_
  intro p e s m below meth c ls hin C hM hS hl
  have C : mm_C G p s m _ meth c RX0 cX0_balance 1 (some .long) := C
  have hM : mm_P G kR 740 M s.heap := hM
  have hl : lv_has ls 1 [(0, .ref (mm_lo G + a0))] := hl
  obtain ⟨hx, hb, -, -, -, -, -, -, hZ, -⟩ := id C
  rw [fX0_balance] at heq
  refine lv_aload_n hx hb dX0_balance_0 rfl (lv_at hl 0 rfl) ?_
  refine gX0_44 C hM (kl h0) h0 dX0_balance_1 ?_
  refine lv_aload_n hx hb dX0_balance_4 rfl (lv_at hl 0 rfl) ?_
  refine gX0_48 C hM (kl h0) h0 dX0_balance_5 ?_
  refine lv_lsub hx hb dX0_balance_8 ?_
  refine lv_aload_n hx hb dX0_balance_9 rfl (lv_at hl 0 rfl) ?_
  refine gX0_51 C hM (kl h0) h0 dX0_balance_10 ?_
  refine lv_lsub hx hb dX0_balance_13 ?_
  refine lv_aload_n hx hb dX0_balance_14 rfl (lv_at hl 0 rfl) ?_
  refine gX0_54 C hM (kl h0) h0 dX0_balance_15 ?_
  refine lv_lsub hx hb dX0_balance_18 ?_
  cases heq
  exact mm_lret C hM hS dX0_balance_19

set_option maxRecDepth 100000 in
set_option maxHeartbeats 4000000 in
theorem tX0_wishAt (l : Launch) (G : mm_G) (M : mm_M) (a0 : Nat) (h0 : kT a0 = (0, 0)) (x1 : Int32) (r : Int32) (heq : fX0_wishAt M a0 x1 = some r) : Met l yX0_wishAt (mm_ws yX0_wishAt cX0_wishAt 2 (some .int)) rmX0_wishAt (va_Pc [.ref (mm_lo G + a0), .int x1] (mm_B G (kR, 740, M))) (mm_Qi G r (kR, 740, M)) 0 0 (mm_A G) := by
  refine mm_met (cc := cX0_wishAt) (nL := 2) (ret := (some .int)) plRX0 (Nat.le_of_ble_eq_true rfl) ?_
  intro p e s m below meth c ls hin C hM hS hl
  have C : mm_C G p s m _ meth c RX0 cX0_wishAt 2 (some .int) := C
  have hM : mm_P G kR 740 M s.heap := hM
  have hl : lv_has ls 2 [(0, .ref (mm_lo G + a0)), (1, .int x1)] := hl
  obtain ⟨hx, hb, -, -, -, -, -, -, hZ, -⟩ := id C
  rw [fX0_wishAt] at heq
  refine lv_iload_n hx hb dX0_wishAt_0 rfl (lv_at hl 1 rfl) ?_
  refine lv_if_lt (tgt := 26) hx hb dX0_wishAt_1 (by decide) (fun c1 => ?_) (fun c1 => ?_)
  · have heq := if_t c1 heq
    refine lv_bipush (v := (-6)) hx hb dX0_wishAt_26 (by decide) ?_
    cases heq
    exact mm_iret C hM hS dX0_wishAt_28
  · have heq := if_f c1 heq
    refine lv_iload_n hx hb dX0_wishAt_4 rfl (lv_at hl 1 rfl) ?_
    refine lv_aload_n hx hb dX0_wishAt_5 rfl (lv_at hl 0 rfl) ?_
    refine gX0_28 C hM (kl h0) h0 dX0_wishAt_6 ?_
    refine lv_icmp_ge (tgt := 26) hx hb dX0_wishAt_9 (by decide) (fun c2 => ?_) (fun c2 => ?_)
    · have heq := if_t c2 heq
      refine lv_bipush (v := (-6)) hx hb dX0_wishAt_26 (by decide) ?_
      cases heq
      exact mm_iret C hM hS dX0_wishAt_28
    · have heq := if_f c2 heq
      refine lv_iload_n hx hb dX0_wishAt_12 rfl (lv_at hl 1 rfl) ?_
      refine lv_iconst (v := 3) hx hb dX0_wishAt_13 (by decide) ?_
      refine lv_icmp_ge (tgt := 26) hx hb dX0_wishAt_14 (by decide) (fun c3 => ?_) (fun c3 => ?_)
      · have heq := if_t c3 heq
        refine lv_bipush (v := (-6)) hx hb dX0_wishAt_26 (by decide) ?_
        cases heq
        exact mm_iret C hM hS dX0_wishAt_28
      · have heq := if_f c3 heq
        refine lv_aload_n hx hb dX0_wishAt_17 rfl (lv_at hl 0 rfl) ?_
        refine gX0_9 C hM (kl h0) h0 (rC_16 h0) dX0_wishAt_18 ?_
        refine lv_iload_n hx hb dX0_wishAt_21 rfl (lv_at hl 1 rfl) ?_
        obtain ⟨g4, heq⟩ := gd_of heq
        refine mm_ildk C hM (kl (kC_16 h0)) (kC_16 h0) (vp_in_of2 g4) rfl dX0_wishAt_22 ?_
        refine lv_goto (tgt := 28) hx hb dX0_wishAt_23 (by decide) ?_
        cases heq
        exact mm_iret C hM hS dX0_wishAt_28

set_option maxRecDepth 100000 in
set_option maxHeartbeats 4000000 in
theorem tX0_addPoints (l : Launch) (G : mm_G) (M : mm_M) (a0 : Nat) (h0 : kT a0 = (0, 0)) (x1 : Int32) (x2 : Int32) (M9 : mm_M) (heq : fX0_addPoints M a0 x1 x2 = some M9) : Met l yX0_addPoints (mm_ws yX0_addPoints cX0_addPoints 4 none) rmX0_addPoints (va_Pc [.ref (mm_lo G + a0), .int x1, .int x2] (mm_B G (kR, 740, M))) (mm_Qv G (kR, 740, M9)) 0 0 (mm_A G) := by
  refine mm_met (cc := cX0_addPoints) (nL := 4) (ret := none) plRX0 (Nat.le_of_ble_eq_true rfl) ?_
  intro p e s m below meth c ls hin C hM hS hl
  have C : mm_C G p s m _ meth c RX0 cX0_addPoints 4 none := C
  have hM : mm_P G kR 740 M s.heap := hM
  have hl : lv_has ls 4 [(0, .ref (mm_lo G + a0)), (1, .int x1), (2, .int x2)] := hl
  obtain ⟨hx, hb, -, -, -, -, -, -, hZ, -⟩ := id C
  rw [fX0_addPoints] at heq
  refine lv_iload_n hx hb dX0_addPoints_0 rfl (lv_at hl 1 rfl) ?_
  refine lv_sipush (v := 200) hx hb dX0_addPoints_1 (by decide) ?_
  refine lv_irem hx hb dX0_addPoints_4 (by decide) ?_
  refine lv_topi (fun y1 ey1 => ?_)
  have heq := lt_to ey1 heq
  refine lv_istore_n (lv' := [(3, .int y1), (0, .ref (mm_lo G + a0)), (1, .int x1), (2, .int x2)]) hx hb dX0_addPoints_5 rfl hl (by decide) rfl (fun ls hl => ?_)
  refine lv_iload_n hx hb dX0_addPoints_6 rfl (lv_at hl 0 rfl) ?_
  refine lv_if_lt (tgt := 20) hx hb dX0_addPoints_7 (by decide) (fun c2 => ?_) (fun c2 => ?_)
  · have heq := if_t c2 heq
    cases heq
    exact mm_vret C hM hS dX0_addPoints_20
  · have heq := if_f c2 heq
    refine lv_aload_n hx hb dX0_addPoints_10 rfl (lv_at hl 1 rfl) ?_
    refine gX0_15 C hM (kl h0) h0 (rC_17 h0) dX0_addPoints_11 ?_
    refine lv_iload_n hx hb dX0_addPoints_14 rfl (lv_at hl 0 rfl) ?_
    refine lv_dup2_11 hx hb dX0_addPoints_15 rfl rfl ?_
    obtain ⟨g3, heq⟩ := gd_of heq
    refine mm_ildk C hM (kl (kC_17 h0)) (kC_17 h0) (vp_in_of2 g3) rfl dX0_addPoints_16 ?_
    refine lv_iload_n hx hb dX0_addPoints_17 rfl (lv_at hl 3 rfl) ?_
    refine lv_iadd hx hb dX0_addPoints_18 ?_
    refine mm_istk C hM hS (kl (kC_17 h0)) (kC_17 h0) (vp_in_of2 g3) rfl dX0_addPoints_19 (fun H locs hM hS _ => ?_)
    obtain ⟨M4, eM4⟩ : ∃ z : mm_M, z = sI M (a0 + 2) y1.toNatClampNeg ((M.1 (a0 + 2) y1.toNatClampNeg) + x2) := ⟨_, rfl⟩
    rw [← eM4] at hM
    have heq := lt_to eM4 heq
    cases heq
    exact mm_vret C hM hS dX0_addPoints_20

set_option maxRecDepth 100000 in
set_option maxHeartbeats 4000000 in
theorem tX0_dropPointsOfSameSpot (l : Launch) (G : mm_G) (M : mm_M) (a0 : Nat) (h0 : kT a0 = (0, 0)) (x1 : Int32) (M9 : mm_M) (heq : fX0_dropPointsOfSameSpot M a0 x1 = some M9) : Met l yX0_dropPointsOfSameSpot (mm_ws yX0_dropPointsOfSameSpot cX0_dropPointsOfSameSpot 3 none) rmX0_dropPointsOfSameSpot (va_Pc [.ref (mm_lo G + a0), .int x1] (mm_B G (kR, 740, M))) (mm_Qv G (kR, 740, M9)) 0 0 (mm_A G) := by
  refine mm_met (cc := cX0_dropPointsOfSameSpot) (nL := 3) (ret := none) plRX0 (Nat.le_of_ble_eq_true rfl) ?_
  intro p e s m below meth c ls hin C hM hS hl
  have C : mm_C G p s m _ meth c RX0 cX0_dropPointsOfSameSpot 3 none := C
  have hM : mm_P G kR 740 M s.heap := hM
  have hl : lv_has ls 3 [(0, .ref (mm_lo G + a0)), (1, .int x1)] := hl
  obtain ⟨hx, hb, -, -, -, -, -, -, hZ, -⟩ := id C
  rw [fX0_dropPointsOfSameSpot] at heq
  refine lv_iload_n hx hb dX0_dropPointsOfSameSpot_0 rfl (lv_at hl 1 rfl) ?_
  refine lv_sipush (v := 200) hx hb dX0_dropPointsOfSameSpot_1 (by decide) ?_
  refine lv_irem hx hb dX0_dropPointsOfSameSpot_4 (by decide) ?_
  refine lv_topi (fun y1 ey1 => ?_)
  have heq := lt_to ey1 heq
  refine lv_istore_n (lv' := [(2, .int y1), (0, .ref (mm_lo G + a0)), (1, .int x1)]) hx hb dX0_dropPointsOfSameSpot_5 rfl hl (by decide) rfl (fun ls hl => ?_)
  refine lv_iload_n hx hb dX0_dropPointsOfSameSpot_6 rfl (lv_at hl 0 rfl) ?_
  refine lv_if_lt (tgt := 17) hx hb dX0_dropPointsOfSameSpot_7 (by decide) (fun c2 => ?_) (fun c2 => ?_)
  · have heq := if_t c2 heq
    cases heq
    exact mm_vret C hM hS dX0_dropPointsOfSameSpot_17
  · have heq := if_f c2 heq
    refine lv_aload_n hx hb dX0_dropPointsOfSameSpot_10 rfl (lv_at hl 1 rfl) ?_
    refine gX0_15 C hM (kl h0) h0 (rC_17 h0) dX0_dropPointsOfSameSpot_11 ?_
    refine lv_iload_n hx hb dX0_dropPointsOfSameSpot_14 rfl (lv_at hl 0 rfl) ?_
    refine lv_iconst (v := 0) hx hb dX0_dropPointsOfSameSpot_15 (by decide) ?_
    obtain ⟨g3, heq⟩ := gd_of heq
    refine mm_istk C hM hS (kl (kC_17 h0)) (kC_17 h0) (vp_in_of2 g3) rfl dX0_dropPointsOfSameSpot_16 (fun H locs hM hS _ => ?_)
    obtain ⟨M4, eM4⟩ : ∃ z : mm_M, z = sI M (a0 + 2) y1.toNatClampNeg 0 := ⟨_, rfl⟩
    rw [← eM4] at hM
    have heq := lt_to eM4 heq
    cases heq
    exact mm_vret C hM hS dX0_dropPointsOfSameSpot_17

set_option maxRecDepth 100000 in
set_option maxHeartbeats 4000000 in
theorem tX0_pointsLeft_6 (C : mm_C G p s m args meth c RX0 cX0_pointsLeft 7 (some .int)) (a0 : Nat) (h0 : kT a0 = (0, 0)) (x1 : Int32) (x2 : Int32) (x3 : Int32) (M : mm_M) {r : Int32} : ∀ n : Nat, ∀ (v4 : Int32) (v5 : Int32) (H : Heap) (locs : List Loc) (ls : Array Slot), mm_P G kR 740 M H → va_S (mm_A G) s.heap H locs → lv_has ls 7 [(0, .ref (mm_lo G + a0)), (1, .int x1), (2, .int x2), (3, .int x3), (4, .int v4), (5, .int v5)] → fX0_pointsLeft_6 a0 x1 x2 x3 M n v4 v5 = some r → W p l e rmX0_pointsLeft s m args below meth c H locs 0 0 (MQ below (mm_Qi G r (kR, 740, M)) args s 0 0 (mm_A G)) (F0 m 6 ls []) := by
  obtain ⟨hx, hb, -, -, -, -, -, -, hZ, -⟩ := id C
  intro n
  induction n with
  | zero =>
    intro v4 v5 H locs ls hM hS hl heq
    rw [fX0_pointsLeft_6] at heq
    cases heq
  | succ n ih =>
    intro v4 v5 H locs ls hM hS hl heq
    rw [fX0_pointsLeft_6] at heq
    refine lv_iload hx hb dX0_pointsLeft_6 (lv_at hl 5 rfl) ?_
    refine lv_iload_n hx hb dX0_pointsLeft_8 rfl (lv_at hl 3 rfl) ?_
    refine lv_icmp_ge (tgt := 59) hx hb dX0_pointsLeft_9 (by decide) (fun c1 => ?_) (fun c1 => ?_)
    · have heq := if_t c1 heq
      refine lv_iload hx hb dX0_pointsLeft_59 (lv_at hl 4 rfl) ?_
      cases heq
      exact mm_iret C hM hS dX0_pointsLeft_61
    · have heq := if_f c1 heq
      refine lv_iload hx hb dX0_pointsLeft_12 (lv_at hl 5 rfl) ?_
      refine lv_sipush (v := 200) hx hb dX0_pointsLeft_14 (by decide) ?_
      refine lv_icmp_ge (tgt := 59) hx hb dX0_pointsLeft_17 (by decide) (fun c2 => ?_) (fun c2 => ?_)
      · have heq := if_t c2 heq
        refine lv_iload hx hb dX0_pointsLeft_59 (lv_at hl 4 rfl) ?_
        cases heq
        exact mm_iret C hM hS dX0_pointsLeft_61
      · have heq := if_f c2 heq
        refine lv_iload_n hx hb dX0_pointsLeft_20 rfl (lv_at hl 1 rfl) ?_
        refine lv_iload hx hb dX0_pointsLeft_21 (lv_at hl 5 rfl) ?_
        refine lv_isub hx hb dX0_pointsLeft_23 ?_
        refine lv_topi (fun y3 ey3 => ?_)
        have heq := lt_to ey3 heq
        refine lv_istore (lv' := [(6, .int y3), (0, .ref (mm_lo G + a0)), (1, .int x1), (2, .int x2), (3, .int x3), (4, .int v4), (5, .int v5)]) hx hb dX0_pointsLeft_24 hl (by decide) rfl (fun ls hl => ?_)
        refine lv_iload hx hb dX0_pointsLeft_26 (lv_at hl 0 rfl) ?_
        refine lv_if_lt (tgt := 53) hx hb dX0_pointsLeft_28 (by decide) (fun c4 => ?_) (fun c4 => ?_)
        · have heq := if_t c4 heq
          obtain ⟨y5, ey5⟩ : ∃ y : Int32, y = (v5 + 1) := ⟨_, rfl⟩
          have heq := lt_to ey5 heq
          refine lv_iinc (v := y5) (lv' := [(5, .int y5), (6, .int y3), (0, .ref (mm_lo G + a0)), (1, .int x1), (2, .int x2), (3, .int x3), (4, .int v4)]) hx hb dX0_pointsLeft_53 hl (k := 6) rfl (by rw [ey5]; rfl) (by decide) rfl (fun ls hl => ?_)
          refine lv_goto (tgt := 6) hx hb dX0_pointsLeft_56 (by decide) ?_
          exact ih _ _ _ _ _ hM hS (lv_sub hl [2, 3, 4, 5, 6, 0] rfl) heq
        · have heq := if_f c4 heq
          refine lv_iload hx hb dX0_pointsLeft_31 (lv_at hl 0 rfl) ?_
          refine lv_iload_n hx hb dX0_pointsLeft_33 rfl (lv_at hl 3 rfl) ?_
          refine lv_icmp_gt (tgt := 53) hx hb dX0_pointsLeft_34 (by decide) (fun c6 => ?_) (fun c6 => ?_)
          · have heq := if_t c6 heq
            obtain ⟨y7, ey7⟩ : ∃ y : Int32, y = (v5 + 1) := ⟨_, rfl⟩
            have heq := lt_to ey7 heq
            refine lv_iinc (v := y7) (lv' := [(5, .int y7), (6, .int y3), (0, .ref (mm_lo G + a0)), (1, .int x1), (2, .int x2), (3, .int x3), (4, .int v4)]) hx hb dX0_pointsLeft_53 hl (k := 6) rfl (by rw [ey7]; rfl) (by decide) rfl (fun ls hl => ?_)
            refine lv_goto (tgt := 6) hx hb dX0_pointsLeft_56 (by decide) ?_
            exact ih _ _ _ _ _ hM hS (lv_sub hl [2, 3, 4, 5, 6, 0] rfl) heq
          · have heq := if_f c6 heq
            refine lv_iload hx hb dX0_pointsLeft_37 (lv_at hl 5 rfl) ?_
            refine lv_aload_n hx hb dX0_pointsLeft_39 rfl (lv_at hl 1 rfl) ?_
            refine gX0_15 C hM (kl h0) h0 (rC_17 h0) dX0_pointsLeft_40 ?_
            refine lv_iload hx hb dX0_pointsLeft_43 (lv_at hl 0 rfl) ?_
            refine lv_sipush (v := 200) hx hb dX0_pointsLeft_45 (by decide) ?_
            refine lv_irem hx hb dX0_pointsLeft_48 (by decide) ?_
            obtain ⟨g8, heq⟩ := gd_of heq
            refine mm_ildk C hM (kl (kC_17 h0)) (kC_17 h0) (vp_in_of2 g8) rfl dX0_pointsLeft_49 ?_
            refine lv_iadd hx hb dX0_pointsLeft_50 ?_
            refine lv_topi (fun y9 ey9 => ?_)
            have heq := lt_to ey9 heq
            refine lv_istore (lv' := [(4, .int y9), (6, .int y3), (0, .ref (mm_lo G + a0)), (1, .int x1), (2, .int x2), (3, .int x3), (5, .int v5)]) hx hb dX0_pointsLeft_51 hl (by decide) rfl (fun ls hl => ?_)
            obtain ⟨y10, ey10⟩ : ∃ y : Int32, y = (v5 + 1) := ⟨_, rfl⟩
            have heq := lt_to ey10 heq
            refine lv_iinc (v := y10) (lv' := [(5, .int y10), (4, .int y9), (6, .int y3), (0, .ref (mm_lo G + a0)), (1, .int x1), (2, .int x2), (3, .int x3)]) hx hb dX0_pointsLeft_53 hl (k := 6) rfl (by rw [ey10]; rfl) (by decide) rfl (fun ls hl => ?_)
            refine lv_goto (tgt := 6) hx hb dX0_pointsLeft_56 (by decide) ?_
            exact ih _ _ _ _ _ hM hS (lv_sub hl [3, 4, 5, 6, 1, 0] rfl) heq

set_option maxRecDepth 100000 in
set_option maxHeartbeats 4000000 in
theorem tX0_pointsLeft (l : Launch) (G : mm_G) (M : mm_M) (a0 : Nat) (h0 : kT a0 = (0, 0)) (x1 : Int32) (x2 : Int32) (x3 : Int32) (r : Int32) (heq : fX0_pointsLeft M a0 x1 x2 x3 = some r) : Met l yX0_pointsLeft (mm_ws yX0_pointsLeft cX0_pointsLeft 7 (some .int)) rmX0_pointsLeft (va_Pc [.ref (mm_lo G + a0), .int x1, .int x2, .int x3] (mm_B G (kR, 740, M))) (mm_Qi G r (kR, 740, M)) 0 0 (mm_A G) := by
  refine mm_met (cc := cX0_pointsLeft) (nL := 7) (ret := (some .int)) plRX0 (Nat.le_of_ble_eq_true rfl) ?_
  intro p e s m below meth c ls hin C hM hS hl
  have C : mm_C G p s m _ meth c RX0 cX0_pointsLeft 7 (some .int) := C
  have hM : mm_P G kR 740 M s.heap := hM
  have hl : lv_has ls 7 [(0, .ref (mm_lo G + a0)), (1, .int x1), (2, .int x2), (3, .int x3)] := hl
  obtain ⟨hx, hb, -, -, -, -, -, -, hZ, -⟩ := id C
  rw [fX0_pointsLeft] at heq
  refine lv_iconst (v := 0) hx hb dX0_pointsLeft_0 (by decide) ?_
  refine lv_istore (lv' := [(4, .int 0), (0, .ref (mm_lo G + a0)), (1, .int x1), (2, .int x2), (3, .int x3)]) hx hb dX0_pointsLeft_1 hl (by decide) rfl (fun ls hl => ?_)
  refine lv_iconst (v := 0) hx hb dX0_pointsLeft_3 (by decide) ?_
  refine lv_istore (lv' := [(5, .int 0), (4, .int 0), (0, .ref (mm_lo G + a0)), (1, .int x1), (2, .int x2), (3, .int x3)]) hx hb dX0_pointsLeft_4 hl (by decide) rfl (fun ls hl => ?_)
  exact tX0_pointsLeft_6 C a0 h0 x1 x2 x3 M FU _ _ _ _ _ hM hS (lv_sub hl [2, 3, 4, 5, 1, 0] rfl) heq

set_option maxRecDepth 100000 in
set_option maxHeartbeats 4000000 in
theorem tX0_reasonBeforeLots (l : Launch) (G : mm_G) (M : mm_M) (a0 : Nat) (h0 : kT a0 = (0, 0)) (x1 : Int32) (r : Int32) (heq : fX0_reasonBeforeLots M a0 x1 = some r) : Met l yX0_reasonBeforeLots (mm_ws yX0_reasonBeforeLots cX0_reasonBeforeLots 2 (some .int)) rmX0_reasonBeforeLots (va_Pc [.ref (mm_lo G + a0), .int x1] (mm_B G (kR, 740, M))) (mm_Qi G r (kR, 740, M)) 0 0 (mm_A G) := by
  refine mm_met (cc := cX0_reasonBeforeLots) (nL := 2) (ret := (some .int)) plRX0 (Nat.le_of_ble_eq_true rfl) ?_
  intro p e s m below meth c ls hin C hM hS hl
  have C : mm_C G p s m _ meth c RX0 cX0_reasonBeforeLots 2 (some .int) := C
  have hM : mm_P G kR 740 M s.heap := hM
  have hl : lv_has ls 2 [(0, .ref (mm_lo G + a0)), (1, .int x1)] := hl
  obtain ⟨hx, hb, -, -, -, -, -, -, hZ, -⟩ := id C
  rw [fX0_reasonBeforeLots] at heq
  refine lv_aload_n hx hb dX0_reasonBeforeLots_0 rfl (lv_at hl 0 rfl) ?_
  refine gX0_28 C hM (kl h0) h0 dX0_reasonBeforeLots_1 ?_
  refine lv_if_ne (tgt := 9) hx hb dX0_reasonBeforeLots_4 (by decide) (fun c1 => ?_) (fun c1 => ?_)
  · have heq := if_f c1 heq
    refine lv_aload_n hx hb dX0_reasonBeforeLots_9 rfl (lv_at hl 0 rfl) ?_
    refine gX0_25 C hM (kl h0) h0 dX0_reasonBeforeLots_10 ?_
    refine lv_iload_n hx hb dX0_reasonBeforeLots_13 rfl (lv_at hl 1 rfl) ?_
    refine lv_icmp_ge (tgt := 19) hx hb dX0_reasonBeforeLots_14 (by decide) (fun c2 => ?_) (fun c2 => ?_)
    · have heq := if_t c2 heq
      refine lv_aload_n hx hb dX0_reasonBeforeLots_19 rfl (lv_at hl 0 rfl) ?_
      refine gX0_38 C hM (kl h0) h0 dX0_reasonBeforeLots_20 ?_
      refine lv_iload_n hx hb dX0_reasonBeforeLots_23 rfl (lv_at hl 1 rfl) ?_
      refine lv_icmp_lt (tgt := 31) hx hb dX0_reasonBeforeLots_24 (by decide) (fun c3 => ?_) (fun c3 => ?_)
      · have heq := if_t c3 heq
        refine lv_iconst (v := 4) hx hb dX0_reasonBeforeLots_31 (by decide) ?_
        cases heq
        exact mm_iret C hM hS dX0_reasonBeforeLots_32
      · have heq := if_f c3 heq
        refine lv_iconst (v := 3) hx hb dX0_reasonBeforeLots_27 (by decide) ?_
        refine lv_goto (tgt := 32) hx hb dX0_reasonBeforeLots_28 (by decide) ?_
        cases heq
        exact mm_iret C hM hS dX0_reasonBeforeLots_32
    · have heq := if_f c2 heq
      refine lv_iconst (v := 2) hx hb dX0_reasonBeforeLots_17 (by decide) ?_
      cases heq
      exact mm_iret C hM hS dX0_reasonBeforeLots_18
  · have heq := if_t c1 heq
    refine lv_iconst (v := 1) hx hb dX0_reasonBeforeLots_7 (by decide) ?_
    cases heq
    exact mm_iret C hM hS dX0_reasonBeforeLots_8

set_option maxRecDepth 100000 in
set_option maxHeartbeats 4000000 in
theorem tX1_nextToCheck_4 (C : mm_C G p s m args meth c RX1 cX1_nextToCheck 4 (some (.object "CartPitches$Cart"))) (a0 : Nat) (h0 : kT a0 = (4, 0)) (M : mm_M) {r : Option Nat} : ∀ n : Nat, ∀ (v1 : Option Nat) (v2 : Int32) (H : Heap) (locs : List Loc) (ls : Array Slot), mm_P G kR 740 M H → va_S (mm_A G) s.heap H locs → lv_has ls 4 [(0, .ref (mm_lo G + a0)), (1, mm_q G v1), (2, .int v2)] → fX1_nextToCheck_4 a0 M n v1 v2 = some r → W p l e rmX1_nextToCheck s m args below meth c H locs 0 0 (MQ below (mm_Qq G r (kR, 740, M)) args s 0 0 (mm_A G)) (F0 m 4 ls []) := by
  obtain ⟨hx, hb, -, -, -, -, -, -, hZ, -⟩ := id C
  intro n
  induction n with
  | zero =>
    intro v1 v2 H locs ls hM hS hl heq
    rw [fX1_nextToCheck_4] at heq
    cases heq
  | succ n ih =>
    intro v1 v2 H locs ls hM hS hl heq
    rw [fX1_nextToCheck_4] at heq
    refine lv_iload_n hx hb dX1_nextToCheck_4 rfl (lv_at hl 2 rfl) ?_
    refine lv_aload_n hx hb dX1_nextToCheck_5 rfl (lv_at hl 0 rfl) ?_
    refine gX1_34 C hM (kl h0) h0 dX1_nextToCheck_6 ?_
    refine lv_icmp_ge (tgt := 49) hx hb dX1_nextToCheck_9 (by decide) (fun c1 => ?_) (fun c1 => ?_)
    · have heq := if_t c1 heq
      refine mm_aldo_n hx hb dX1_nextToCheck_49 rfl (lv_at hl 1 rfl) ?_
      cases heq
      exact mm_aret C hM hS rfl dX1_nextToCheck_50
    · have heq := if_f c1 heq
      refine lv_aload_n hx hb dX1_nextToCheck_12 rfl (lv_at hl 0 rfl) ?_
      refine gX1_37 C hM (kl h0) h0 (rS_9 h0) dX1_nextToCheck_13 ?_
      refine lv_iload_n hx hb dX1_nextToCheck_16 rfl (lv_at hl 2 rfl) ?_
      obtain ⟨g2, heq⟩ := gd_of heq
      refine mm_ald C hM (kl (kS_9 h0)) (Or.inl rfl) (kS_9 h0) (vp_in_of2 g2) (rS_cart h0 (vp_lt g2)) dX1_nextToCheck_17 ?_
      refine lv_astore_n (lv' := [(3, .ref (mm_lo G + (a0 + 18 + 3 * v2.toNatClampNeg))), (0, .ref (mm_lo G + a0)), (1, mm_q G v1), (2, .int v2)]) hx hb dX1_nextToCheck_18 rfl hl (by decide) rfl (fun ls hl => ?_)
      refine lv_aload_n hx hb dX1_nextToCheck_19 rfl (lv_at hl 0 rfl) ?_
      refine gX1_30 C hM (kl (kS_cart h0 (vp_lt g2))) (kS_cart h0 (vp_lt g2)) dX1_nextToCheck_20 ?_
      refine lv_if_eq (tgt := 43) hx hb dX1_nextToCheck_23 (by decide) (fun c3 => ?_) (fun c3 => ?_)
      · have heq := if_t c3 heq
        obtain ⟨y4, ey4⟩ : ∃ y : Int32, y = (v2 + 1) := ⟨_, rfl⟩
        have heq := lt_to ey4 heq
        refine lv_iinc (v := y4) (lv' := [(2, .int y4), (3, .ref (mm_lo G + (a0 + 18 + 3 * v2.toNatClampNeg))), (0, .ref (mm_lo G + a0)), (1, mm_q G v1)]) hx hb dX1_nextToCheck_43 hl (k := 3) rfl (by rw [ey4]; rfl) (by decide) (by cases v1 <;> rfl) (fun ls hl => ?_)
        refine lv_goto (tgt := 4) hx hb dX1_nextToCheck_46 (by decide) ?_
        exact ih _ _ _ _ _ hM hS (lv_sub hl [2, 3, 0] rfl) heq
      · have heq := if_f c3 heq
        refine mm_aldo_n hx hb dX1_nextToCheck_26 rfl (lv_at hl 2 rfl) ?_
        cases v1 with
        | none =>
          have heq := om_n heq
          have hl : lv_has ls 4 [(3, .ref (mm_lo G + (a0 + 18 + 3 * v2.toNatClampNeg))), (0, .ref (mm_lo G + a0)), (1, .null), (2, .int v2)] := hl
          refine lv_ifnullN (tgt := 41) hx hb dX1_nextToCheck_27 (by decide) ?_
          refine lv_aload_n hx hb dX1_nextToCheck_41 rfl (lv_at hl 0 rfl) ?_
          refine lv_astore_n (lv' := [(1, .ref (mm_lo G + (a0 + 18 + 3 * v2.toNatClampNeg))), (3, .ref (mm_lo G + (a0 + 18 + 3 * v2.toNatClampNeg))), (0, .ref (mm_lo G + a0)), (2, .int v2)]) hx hb dX1_nextToCheck_42 rfl hl (by decide) rfl (fun ls hl => ?_)
          obtain ⟨y6, ey6⟩ : ∃ y : Int32, y = (v2 + 1) := ⟨_, rfl⟩
          have heq := lt_to ey6 heq
          refine lv_iinc (v := y6) (lv' := [(2, .int y6), (1, .ref (mm_lo G + (a0 + 18 + 3 * v2.toNatClampNeg))), (3, .ref (mm_lo G + (a0 + 18 + 3 * v2.toNatClampNeg))), (0, .ref (mm_lo G + a0))]) hx hb dX1_nextToCheck_43 hl (k := 3) rfl (by rw [ey6]; rfl) (by decide) rfl (fun ls hl => ?_)
          refine lv_goto (tgt := 4) hx hb dX1_nextToCheck_46 (by decide) ?_
          exact ih _ _ _ _ _ hM hS (lv_sub hl [3, 1, 0] rfl) heq
        | some b5 =>
          have heq := om_s heq
          obtain ⟨g7, heq⟩ := gd_of heq
          have hl : lv_has ls 4 [(3, .ref (mm_lo G + (a0 + 18 + 3 * v2.toNatClampNeg))), (0, .ref (mm_lo G + a0)), (1, .ref (mm_lo G + b5)), (2, .int v2)] := hl
          refine lv_ifnull hx hb dX1_nextToCheck_27 ?_
          refine lv_aload_n hx hb dX1_nextToCheck_30 rfl (lv_at hl 0 rfl) ?_
          refine gX1_25 C hM (kl (kS_cart h0 (vp_lt g2))) (kS_cart h0 (vp_lt g2)) dX1_nextToCheck_31 ?_
          refine lv_aload_n hx hb dX1_nextToCheck_34 rfl (lv_at hl 2 rfl) ?_
          refine gX1_25 C hM (kl g7) g7 dX1_nextToCheck_35 ?_
          refine lv_icmp_ge (tgt := 43) hx hb dX1_nextToCheck_38 (by decide) (fun c8 => ?_) (fun c8 => ?_)
          · have heq := if_t c8 heq
            obtain ⟨y9, ey9⟩ : ∃ y : Int32, y = (v2 + 1) := ⟨_, rfl⟩
            have heq := lt_to ey9 heq
            refine lv_iinc (v := y9) (lv' := [(2, .int y9), (3, .ref (mm_lo G + (a0 + 18 + 3 * v2.toNatClampNeg))), (0, .ref (mm_lo G + a0)), (1, .ref (mm_lo G + b5))]) hx hb dX1_nextToCheck_43 hl (k := 3) rfl (by rw [ey9]; rfl) (by decide) rfl (fun ls hl => ?_)
            refine lv_goto (tgt := 4) hx hb dX1_nextToCheck_46 (by decide) ?_
            exact ih _ _ _ _ _ hM hS (lv_sub hl [2, 3, 0] rfl) heq
          · have heq := if_f c8 heq
            refine lv_aload_n hx hb dX1_nextToCheck_41 rfl (lv_at hl 0 rfl) ?_
            refine lv_astore_n (lv' := [(1, .ref (mm_lo G + (a0 + 18 + 3 * v2.toNatClampNeg))), (3, .ref (mm_lo G + (a0 + 18 + 3 * v2.toNatClampNeg))), (0, .ref (mm_lo G + a0)), (2, .int v2)]) hx hb dX1_nextToCheck_42 rfl hl (by decide) rfl (fun ls hl => ?_)
            obtain ⟨y10, ey10⟩ : ∃ y : Int32, y = (v2 + 1) := ⟨_, rfl⟩
            have heq := lt_to ey10 heq
            refine lv_iinc (v := y10) (lv' := [(2, .int y10), (1, .ref (mm_lo G + (a0 + 18 + 3 * v2.toNatClampNeg))), (3, .ref (mm_lo G + (a0 + 18 + 3 * v2.toNatClampNeg))), (0, .ref (mm_lo G + a0))]) hx hb dX1_nextToCheck_43 hl (k := 3) rfl (by rw [ey10]; rfl) (by decide) rfl (fun ls hl => ?_)
            refine lv_goto (tgt := 4) hx hb dX1_nextToCheck_46 (by decide) ?_
            exact ih _ _ _ _ _ hM hS (lv_sub hl [3, 1, 0] rfl) heq

set_option maxRecDepth 100000 in
set_option maxHeartbeats 4000000 in
theorem tX1_nextToCheck (l : Launch) (G : mm_G) (M : mm_M) (a0 : Nat) (h0 : kT a0 = (4, 0)) (r : Option Nat) (heq : fX1_nextToCheck M a0 = some r) : Met l yX1_nextToCheck (mm_ws yX1_nextToCheck cX1_nextToCheck 4 (some (.object "CartPitches$Cart"))) rmX1_nextToCheck (va_Pc [.ref (mm_lo G + a0)] (mm_B G (kR, 740, M))) (mm_Qq G r (kR, 740, M)) 0 0 (mm_A G) := by
  refine mm_met (cc := cX1_nextToCheck) (nL := 4) (ret := (some (.object "CartPitches$Cart"))) plRX1 (Nat.le_of_ble_eq_true rfl) ?_
  intro p e s m below meth c ls hin C hM hS hl
  have C : mm_C G p s m _ meth c RX1 cX1_nextToCheck 4 (some (.object "CartPitches$Cart")) := C
  have hM : mm_P G kR 740 M s.heap := hM
  have hl : lv_has ls 4 [(0, .ref (mm_lo G + a0))] := hl
  obtain ⟨hx, hb, -, -, -, -, -, -, hZ, -⟩ := id C
  rw [fX1_nextToCheck] at heq
  refine lv_null hx hb dX1_nextToCheck_0 ?_
  refine lv_astore_nN (lv' := [(1, .null), (0, .ref (mm_lo G + a0))]) hx hb dX1_nextToCheck_1 rfl hl (by decide) rfl (fun ls hl => ?_)
  refine lv_iconst (v := 0) hx hb dX1_nextToCheck_2 (by decide) ?_
  refine lv_istore_n (lv' := [(2, .int 0), (1, .null), (0, .ref (mm_lo G + a0))]) hx hb dX1_nextToCheck_3 rfl hl (by decide) rfl (fun ls hl => ?_)
  exact tX1_nextToCheck_4 C a0 h0 M FU _ _ _ _ _ hM hS (lv_sub hl [2, 1, 0] rfl) heq

set_option maxRecDepth 100000 in
set_option maxHeartbeats 4000000 in
theorem tX1_runChecks_2 (C : mm_C G p s m args meth c RX1 cX1_runChecks 3 none) (a0 : Nat) (h0 : kT a0 = (4, 0)) {M9 : mm_M} : ∀ n : Nat, ∀ (M : mm_M) (v1 : Int32) (H : Heap) (locs : List Loc) (ls : Array Slot), mm_P G kR 740 M H → va_S (mm_A G) s.heap H locs → lv_has ls 3 [(0, .ref (mm_lo G + a0)), (1, .int v1)] → fX1_runChecks_2 a0 n M v1 = some M9 → W p l e rmX1_runChecks s m args below meth c H locs 0 0 (MQ below (mm_Qv G (kR, 740, M9)) args s 0 0 (mm_A G)) (F0 m 2 ls []) := by
  obtain ⟨hx, hb, -, -, -, -, -, -, hZ, -⟩ := id C
  intro n
  induction n with
  | zero =>
    intro M v1 H locs ls hM hS hl heq
    rw [fX1_runChecks_2] at heq
    cases heq
  | succ n ih =>
    intro M v1 H locs ls hM hS hl heq
    rw [fX1_runChecks_2] at heq
    refine lv_iload_n hx hb dX1_runChecks_2 rfl (lv_at hl 1 rfl) ?_
    refine lv_aload_n hx hb dX1_runChecks_3 rfl (lv_at hl 0 rfl) ?_
    refine gX1_9 C hM (kl h0) h0 (rS_7 h0) dX1_runChecks_4 ?_
    refine lv_iconst (v := 2) hx hb dX1_runChecks_7 (by decide) ?_
    refine mm_ildk C hM (kl (kS_7 h0)) (kS_7 h0) (vp_in_of2 (by decide)) (by decide : (2 : Int32).toNatClampNeg = 2) dX1_runChecks_8 ?_
    refine lv_icmp_ge (tgt := 48) hx hb dX1_runChecks_9 (by decide) (fun c1 => ?_) (fun c1 => ?_)
    · have heq := if_t c1 heq
      cases heq
      exact mm_vret C hM hS dX1_runChecks_48
    · have heq := if_f c1 heq
      refine lv_aload_n hx hb dX1_runChecks_12 rfl (lv_at hl 0 rfl) ?_
      obtain ⟨r3, e2, heq⟩ := bn_of heq
      refine mm_kq hS (mm_runS (rest := []) C hM hS (tX1_nextToCheck l G M a0 h0 r3 e2) (uX1_15 _ (Nat.le_of_ble_eq_true rfl) (Nat.le_of_ble_eq_true rfl)) hl.1 rfl rfl (Nat.le_of_ble_eq_true rfl) ⟨Nat.zero_le _, Nat.zero_le _⟩ dX1_runChecks_13) (fun H locs hM hS => ?_)
      have hM : mm_P G kR 740 M H := hM
      refine mm_asto_n (lv' := [(2, mm_q G r3), (0, .ref (mm_lo G + a0)), (1, .int v1)]) hx hb dX1_runChecks_16 rfl hl (by decide) rfl (fun ls hl => ?_)
      refine mm_aldo_n hx hb dX1_runChecks_17 rfl (lv_at hl 0 rfl) ?_
      cases r3 with
      | none =>
        have heq := om_n heq
        have hl : lv_has ls 3 [(2, .null), (0, .ref (mm_lo G + a0)), (1, .int v1)] := hl
        refine lv_ifnonnullN hx hb dX1_runChecks_18 ?_
        cases heq
        exact mm_vret C hM hS dX1_runChecks_21
      | some b4 =>
        have heq := om_s heq
        obtain ⟨g5, heq⟩ := gd_of heq
        have hl : lv_has ls 3 [(2, .ref (mm_lo G + b4)), (0, .ref (mm_lo G + a0)), (1, .int v1)] := hl
        refine lv_ifnonnull (tgt := 22) hx hb dX1_runChecks_18 (by decide) ?_
        refine lv_aload_n hx hb dX1_runChecks_22 rfl (lv_at hl 0 rfl) ?_
        refine lv_aload_n hx hb dX1_runChecks_23 rfl (lv_at hl 1 rfl) ?_
        refine gX1_21 C hM (kl h0) h0 dX1_runChecks_24 ?_
        refine lv_aload_n hx hb dX1_runChecks_27 rfl (lv_at hl 1 rfl) ?_
        refine gX1_9 C hM (kl h0) h0 (rS_7 h0) dX1_runChecks_28 ?_
        refine lv_iconst (v := 1) hx hb dX1_runChecks_31 (by decide) ?_
        refine mm_ildk C hM (kl (kS_7 h0)) (kS_7 h0) (vp_in_of2 (by decide)) (by decide : (1 : Int32).toNatClampNeg = 1) dX1_runChecks_32 ?_
        refine lv_iadd hx hb dX1_runChecks_33 ?_
        refine pX1_25 C hM hS (kl g5) g5 dX1_runChecks_34 (fun H locs hM hS _ => ?_)
        obtain ⟨M6, eM6⟩ : ∃ z : mm_M, z = sI M b4 4 ((M.1 a0 0) + (M.1 (a0 + 1) 1)) := ⟨_, rfl⟩
        rw [← eM6] at hM
        have heq := lt_to eM6 heq
        refine lv_aload_n hx hb dX1_runChecks_37 rfl (lv_at hl 0 rfl) ?_
        refine lv_iconst (v := 0) hx hb dX1_runChecks_38 (by decide) ?_
        refine pX1_30 C hM hS (kl g5) g5 (Or.inl rfl) dX1_runChecks_39 (fun H locs hM hS _ => ?_)
        obtain ⟨M7, eM7⟩ : ∃ z : mm_M, z = sI M6 b4 5 0 := ⟨_, rfl⟩
        rw [← eM7] at hM
        have heq := lt_to eM7 heq
        obtain ⟨y8, ey8⟩ : ∃ y : Int32, y = (v1 + 1) := ⟨_, rfl⟩
        have heq := lt_to ey8 heq
        refine lv_iinc (v := y8) (lv' := [(1, .int y8), (2, .ref (mm_lo G + b4)), (0, .ref (mm_lo G + a0))]) hx hb dX1_runChecks_42 hl (k := 2) rfl (by rw [ey8]; rfl) (by decide) rfl (fun ls hl => ?_)
        refine lv_goto (tgt := 2) hx hb dX1_runChecks_45 (by decide) ?_
        exact ih _ _ _ _ _ hM hS (lv_sub hl [2, 0] rfl) heq

set_option maxRecDepth 100000 in
set_option maxHeartbeats 4000000 in
theorem tX1_runChecks (l : Launch) (G : mm_G) (M : mm_M) (a0 : Nat) (h0 : kT a0 = (4, 0)) (M9 : mm_M) (heq : fX1_runChecks M a0 = some M9) : Met l yX1_runChecks (mm_ws yX1_runChecks cX1_runChecks 3 none) rmX1_runChecks (va_Pc [.ref (mm_lo G + a0)] (mm_B G (kR, 740, M))) (mm_Qv G (kR, 740, M9)) 0 0 (mm_A G) := by
  refine mm_met (cc := cX1_runChecks) (nL := 3) (ret := none) plRX1 (Nat.le_of_ble_eq_true rfl) ?_
  intro p e s m below meth c ls hin C hM hS hl
  have C : mm_C G p s m _ meth c RX1 cX1_runChecks 3 none := C
  have hM : mm_P G kR 740 M s.heap := hM
  have hl : lv_has ls 3 [(0, .ref (mm_lo G + a0))] := hl
  obtain ⟨hx, hb, -, -, -, -, -, -, hZ, -⟩ := id C
  rw [fX1_runChecks] at heq
  refine lv_iconst (v := 0) hx hb dX1_runChecks_0 (by decide) ?_
  refine lv_istore_n (lv' := [(1, .int 0), (0, .ref (mm_lo G + a0))]) hx hb dX1_runChecks_1 rfl hl (by decide) rfl (fun ls hl => ?_)
  exact tX1_runChecks_2 C a0 h0 FU _ _ _ _ _ hM hS (lv_sub hl [1, 0] rfl) heq

set_option maxRecDepth 100000 in
set_option maxHeartbeats 4000000 in
theorem tX1_clearLastDay_29 (C : mm_C G p s m args meth c RX1 cX1_clearLastDay 2 none) (a0 : Nat) (h0 : kT a0 = (4, 0)) {M9 : mm_M} : ∀ n : Nat, ∀ (M : mm_M) (v1 : Int32) (H : Heap) (locs : List Loc) (ls : Array Slot), mm_P G kR 740 M H → va_S (mm_A G) s.heap H locs → lv_has ls 2 [(0, .ref (mm_lo G + a0)), (1, .int v1)] → fX1_clearLastDay_29 a0 n M v1 = some M9 → W p l e rmX1_clearLastDay s m args below meth c H locs 0 0 (MQ below (mm_Qv G (kR, 740, M9)) args s 0 0 (mm_A G)) (F0 m 29 ls []) := by
  obtain ⟨hx, hb, -, -, -, -, -, -, hZ, -⟩ := id C
  intro n
  induction n with
  | zero =>
    intro M v1 H locs ls hM hS hl heq
    rw [fX1_clearLastDay_29] at heq
    cases heq
  | succ n ih =>
    intro M v1 H locs ls hM hS hl heq
    rw [fX1_clearLastDay_29] at heq
    refine lv_iload_n hx hb dX1_clearLastDay_29 rfl (lv_at hl 1 rfl) ?_
    refine lv_aload_n hx hb dX1_clearLastDay_30 rfl (lv_at hl 0 rfl) ?_
    refine gX1_34 C hM (kl h0) h0 dX1_clearLastDay_31 ?_
    refine lv_icmp_ge (tgt := 52) hx hb dX1_clearLastDay_34 (by decide) (fun c1 => ?_) (fun c1 => ?_)
    · have heq := if_t c1 heq
      cases heq
      exact mm_vret C hM hS dX1_clearLastDay_52
    · have heq := if_f c1 heq
      refine lv_aload_n hx hb dX1_clearLastDay_37 rfl (lv_at hl 0 rfl) ?_
      refine gX1_37 C hM (kl h0) h0 (rS_9 h0) dX1_clearLastDay_38 ?_
      refine lv_iload_n hx hb dX1_clearLastDay_41 rfl (lv_at hl 1 rfl) ?_
      obtain ⟨g2, heq⟩ := gd_of heq
      refine mm_ald C hM (kl (kS_9 h0)) (Or.inl rfl) (kS_9 h0) (vp_in_of2 g2) (rS_cart h0 (vp_lt g2)) dX1_clearLastDay_42 ?_
      obtain ⟨M4, e3, heq⟩ := bn_of heq
      refine mm_kv hS (mm_runV (rest := []) C hM hS (tX0_beginDay l G M (a0 + 18 + 3 * v1.toNatClampNeg) (kS_cart h0 (vp_lt g2)) M4 e3) (uX1_53 _ (Nat.le_of_ble_eq_true rfl) (Nat.le_of_ble_eq_true rfl)) (mm_recv C hM (kl (kS_cart h0 (vp_lt g2))) (ci := 0) rfl (mm_e0 (kS_cart h0 (vp_lt g2)))) hl.1 rfl rfl (Nat.le_of_ble_eq_true rfl) ⟨Nat.zero_le _, Nat.zero_le _⟩ dX1_clearLastDay_43) (fun H locs hM hS => ?_)
      have hM : mm_P G kR 740 M4 H := hM
      obtain ⟨y5, ey5⟩ : ∃ y : Int32, y = (v1 + 1) := ⟨_, rfl⟩
      have heq := lt_to ey5 heq
      refine lv_iinc (v := y5) (lv' := [(1, .int y5), (0, .ref (mm_lo G + a0))]) hx hb dX1_clearLastDay_46 hl (k := 1) rfl (by rw [ey5]; rfl) (by decide) rfl (fun ls hl => ?_)
      refine lv_goto (tgt := 29) hx hb dX1_clearLastDay_49 (by decide) ?_
      exact ih _ _ _ _ _ hM hS (lv_sub hl [1, 0] rfl) heq

set_option maxRecDepth 100000 in
set_option maxHeartbeats 4000000 in
theorem tX1_clearLastDay_2 (C : mm_C G p s m args meth c RX1 cX1_clearLastDay 2 none) (a0 : Nat) (h0 : kT a0 = (4, 0)) {M9 : mm_M} : ∀ n : Nat, ∀ (M : mm_M) (v1 : Int32) (H : Heap) (locs : List Loc) (ls : Array Slot), mm_P G kR 740 M H → va_S (mm_A G) s.heap H locs → lv_has ls 2 [(0, .ref (mm_lo G + a0)), (1, .int v1)] → fX1_clearLastDay_2 a0 n M v1 = some M9 → W p l e rmX1_clearLastDay s m args below meth c H locs 0 0 (MQ below (mm_Qv G (kR, 740, M9)) args s 0 0 (mm_A G)) (F0 m 2 ls []) := by
  obtain ⟨hx, hb, -, -, -, -, -, -, hZ, -⟩ := id C
  intro n
  induction n with
  | zero =>
    intro M v1 H locs ls hM hS hl heq
    rw [fX1_clearLastDay_2] at heq
    cases heq
  | succ n ih =>
    intro M v1 H locs ls hM hS hl heq
    rw [fX1_clearLastDay_2] at heq
    refine lv_iload_n hx hb dX1_clearLastDay_2 rfl (lv_at hl 1 rfl) ?_
    refine lv_aload_n hx hb dX1_clearLastDay_3 rfl (lv_at hl 0 rfl) ?_
    refine gX1_41 C hM (kl h0) h0 dX1_clearLastDay_4 ?_
    refine lv_icmp_ge (tgt := 27) hx hb dX1_clearLastDay_7 (by decide) (fun c1 => ?_) (fun c1 => ?_)
    · have heq := if_t c1 heq
      refine lv_iconst (v := 0) hx hb dX1_clearLastDay_27 (by decide) ?_
      refine lv_istore_n (lv' := [(1, .int 0), (0, .ref (mm_lo G + a0))]) hx hb dX1_clearLastDay_28 rfl hl (by decide) rfl (fun ls hl => ?_)
      exact tX1_clearLastDay_29 C a0 h0 FU _ _ _ _ _ hM hS (lv_sub hl [1, 0] rfl) heq
    · have heq := if_f c1 heq
      refine lv_aload_n hx hb dX1_clearLastDay_10 rfl (lv_at hl 0 rfl) ?_
      refine gX1_44 C hM (kl h0) h0 (rS_8 h0) dX1_clearLastDay_11 ?_
      refine lv_iload_n hx hb dX1_clearLastDay_14 rfl (lv_at hl 1 rfl) ?_
      obtain ⟨g2, heq⟩ := gd_of heq
      refine mm_ald C hM (kl (kS_8 h0)) (Or.inr (Or.inl rfl)) (kS_8 h0) (vp_in_of2 g2) (rS_pitch h0 (vp_lt g2)) dX1_clearLastDay_15 ?_
      refine lv_bipush (v := (-6)) hx hb dX1_clearLastDay_16 (by decide) ?_
      refine pX1_48 C hM hS (kl (kS_pitch h0 (vp_lt g2))) (kS_pitch h0 (vp_lt g2)) dX1_clearLastDay_18 (fun H locs hM hS _ => ?_)
      obtain ⟨M3, eM3⟩ : ∃ z : mm_M, z = sI M (a0 + 8 + v1.toNatClampNeg) 3 (-6) := ⟨_, rfl⟩
      rw [← eM3] at hM
      have heq := lt_to eM3 heq
      obtain ⟨y4, ey4⟩ : ∃ y : Int32, y = (v1 + 1) := ⟨_, rfl⟩
      have heq := lt_to ey4 heq
      refine lv_iinc (v := y4) (lv' := [(1, .int y4), (0, .ref (mm_lo G + a0))]) hx hb dX1_clearLastDay_21 hl (k := 1) rfl (by rw [ey4]; rfl) (by decide) rfl (fun ls hl => ?_)
      refine lv_goto (tgt := 2) hx hb dX1_clearLastDay_24 (by decide) ?_
      exact ih _ _ _ _ _ hM hS (lv_sub hl [1, 0] rfl) heq

set_option maxRecDepth 100000 in
set_option maxHeartbeats 4000000 in
theorem tX1_clearLastDay (l : Launch) (G : mm_G) (M : mm_M) (a0 : Nat) (h0 : kT a0 = (4, 0)) (M9 : mm_M) (heq : fX1_clearLastDay M a0 = some M9) : Met l yX1_clearLastDay (mm_ws yX1_clearLastDay cX1_clearLastDay 2 none) rmX1_clearLastDay (va_Pc [.ref (mm_lo G + a0)] (mm_B G (kR, 740, M))) (mm_Qv G (kR, 740, M9)) 0 0 (mm_A G) := by
  refine mm_met (cc := cX1_clearLastDay) (nL := 2) (ret := none) plRX1 (Nat.le_of_ble_eq_true rfl) ?_
  intro p e s m below meth c ls hin C hM hS hl
  have C : mm_C G p s m _ meth c RX1 cX1_clearLastDay 2 none := C
  have hM : mm_P G kR 740 M s.heap := hM
  have hl : lv_has ls 2 [(0, .ref (mm_lo G + a0))] := hl
  obtain ⟨hx, hb, -, -, -, -, -, -, hZ, -⟩ := id C
  rw [fX1_clearLastDay] at heq
  refine lv_iconst (v := 0) hx hb dX1_clearLastDay_0 (by decide) ?_
  refine lv_istore_n (lv' := [(1, .int 0), (0, .ref (mm_lo G + a0))]) hx hb dX1_clearLastDay_1 rfl hl (by decide) rfl (fun ls hl => ?_)
  exact tX1_clearLastDay_2 C a0 h0 FU _ _ _ _ _ hM hS (lv_sub hl [1, 0] rfl) heq

set_option maxRecDepth 100000 in
set_option maxHeartbeats 4000000 in
theorem tX5_hasCart (l : Launch) (G : mm_G) (M : mm_M) (a0 : Nat) (h0 : kT a0 = (4, 0)) (x1 : Int32) (r : Bool) (heq : fX5_hasCart M a0 x1 = some r) : Met l yX5_hasCart (mm_ws yX5_hasCart cX5_hasCart 2 (some .boolean)) rmX5_hasCart (va_Pc [.ref (mm_lo G + a0), .int x1] (mm_B G (kR, 740, M))) (mm_Qi G (b2i r) (kR, 740, M)) 0 0 (mm_A G) := by
  refine mm_met (cc := cX5_hasCart) (nL := 2) (ret := (some .boolean)) plRX5 (Nat.le_of_ble_eq_true rfl) ?_
  intro p e s m below meth c ls hin C hM hS hl
  have C : mm_C G p s m _ meth c RX5 cX5_hasCart 2 (some .boolean) := C
  have hM : mm_P G kR 740 M s.heap := hM
  have hl : lv_has ls 2 [(0, .ref (mm_lo G + a0)), (1, .int x1)] := hl
  obtain ⟨hx, hb, -, -, -, -, -, -, hZ, -⟩ := id C
  rw [fX5_hasCart] at heq
  refine lv_iload_n hx hb dX5_hasCart_0 rfl (lv_at hl 1 rfl) ?_
  refine lv_if_lt (tgt := 22) hx hb dX5_hasCart_1 (by decide) (fun c1 => ?_) (fun c1 => ?_)
  · have heq := if_t c1 heq
    refine lv_iconst (v := 0) hx hb dX5_hasCart_22 (by decide) ?_
    cases heq
    exact mm_zret C hM hS dX5_hasCart_23
  · have heq := if_f c1 heq
    refine lv_iload_n hx hb dX5_hasCart_4 rfl (lv_at hl 1 rfl) ?_
    refine lv_aload_n hx hb dX5_hasCart_5 rfl (lv_at hl 0 rfl) ?_
    refine gX5_54 C hM (kl h0) h0 dX5_hasCart_6 ?_
    refine lv_icmp_ge (tgt := 22) hx hb dX5_hasCart_9 (by decide) (fun c2 => ?_) (fun c2 => ?_)
    · have heq := if_t c2 heq
      refine lv_iconst (v := 0) hx hb dX5_hasCart_22 (by decide) ?_
      cases heq
      exact mm_zret C hM hS dX5_hasCart_23
    · have heq := if_f c2 heq
      refine lv_iload_n hx hb dX5_hasCart_12 rfl (lv_at hl 1 rfl) ?_
      refine lv_bipush (v := 16) hx hb dX5_hasCart_13 (by decide) ?_
      refine lv_icmp_ge (tgt := 22) hx hb dX5_hasCart_15 (by decide) (fun c3 => ?_) (fun c3 => ?_)
      · have heq := if_t c3 heq
        refine lv_iconst (v := 0) hx hb dX5_hasCart_22 (by decide) ?_
        cases heq
        exact mm_zret C hM hS dX5_hasCart_23
      · have heq := if_f c3 heq
        refine lv_iconst (v := 1) hx hb dX5_hasCart_18 (by decide) ?_
        refine lv_goto (tgt := 23) hx hb dX5_hasCart_19 (by decide) ?_
        cases heq
        exact mm_zret C hM hS dX5_hasCart_23

set_option maxRecDepth 100000 in
set_option maxHeartbeats 4000000 in
theorem tX5_hasPitch (l : Launch) (G : mm_G) (M : mm_M) (a0 : Nat) (h0 : kT a0 = (4, 0)) (x1 : Int32) (r : Bool) (heq : fX5_hasPitch M a0 x1 = some r) : Met l yX5_hasPitch (mm_ws yX5_hasPitch cX5_hasPitch 2 (some .boolean)) rmX5_hasPitch (va_Pc [.ref (mm_lo G + a0), .int x1] (mm_B G (kR, 740, M))) (mm_Qi G (b2i r) (kR, 740, M)) 0 0 (mm_A G) := by
  refine mm_met (cc := cX5_hasPitch) (nL := 2) (ret := (some .boolean)) plRX5 (Nat.le_of_ble_eq_true rfl) ?_
  intro p e s m below meth c ls hin C hM hS hl
  have C : mm_C G p s m _ meth c RX5 cX5_hasPitch 2 (some .boolean) := C
  have hM : mm_P G kR 740 M s.heap := hM
  have hl : lv_has ls 2 [(0, .ref (mm_lo G + a0)), (1, .int x1)] := hl
  obtain ⟨hx, hb, -, -, -, -, -, -, hZ, -⟩ := id C
  rw [fX5_hasPitch] at heq
  refine lv_iload_n hx hb dX5_hasPitch_0 rfl (lv_at hl 1 rfl) ?_
  refine lv_if_lt (tgt := 22) hx hb dX5_hasPitch_1 (by decide) (fun c1 => ?_) (fun c1 => ?_)
  · have heq := if_t c1 heq
    refine lv_iconst (v := 0) hx hb dX5_hasPitch_22 (by decide) ?_
    cases heq
    exact mm_zret C hM hS dX5_hasPitch_23
  · have heq := if_f c1 heq
    refine lv_iload_n hx hb dX5_hasPitch_4 rfl (lv_at hl 1 rfl) ?_
    refine lv_aload_n hx hb dX5_hasPitch_5 rfl (lv_at hl 0 rfl) ?_
    refine gX5_51 C hM (kl h0) h0 dX5_hasPitch_6 ?_
    refine lv_icmp_ge (tgt := 22) hx hb dX5_hasPitch_9 (by decide) (fun c2 => ?_) (fun c2 => ?_)
    · have heq := if_t c2 heq
      refine lv_iconst (v := 0) hx hb dX5_hasPitch_22 (by decide) ?_
      cases heq
      exact mm_zret C hM hS dX5_hasPitch_23
    · have heq := if_f c2 heq
      refine lv_iload_n hx hb dX5_hasPitch_12 rfl (lv_at hl 1 rfl) ?_
      refine lv_bipush (v := 10) hx hb dX5_hasPitch_13 (by decide) ?_
      refine lv_icmp_ge (tgt := 22) hx hb dX5_hasPitch_15 (by decide) (fun c3 => ?_) (fun c3 => ?_)
      · have heq := if_t c3 heq
        refine lv_iconst (v := 0) hx hb dX5_hasPitch_22 (by decide) ?_
        cases heq
        exact mm_zret C hM hS dX5_hasPitch_23
      · have heq := if_f c3 heq
        refine lv_iconst (v := 1) hx hb dX5_hasPitch_18 (by decide) ?_
        refine lv_goto (tgt := 23) hx hb dX5_hasPitch_19 (by decide) ?_
        cases heq
        exact mm_zret C hM hS dX5_hasPitch_23
end WALK
