section WALK
variable {p : Program} {l : Launch} {e : Env} {s : State} {m : MethodId} {args : Array Value} {below : List Frame} {meth : Method} {c : Code} {G : mm_G}
set_option maxRecDepth 100000 in
set_option maxHeartbeats 4000000 in
theorem tX5_sameKindBeside_43 (C : mm_C G p s m args meth c RX5 cX5_sameKindBeside 5 (some .boolean)) (a0 : Nat) (h0 : kT a0 = (4, 0)) (x1 : Int32) (x2 : Int32) (M : mm_M) {r : Bool} {k14 : Int32 → Option (Bool)} (hk14 : ∀ (v3 : Int32) (H : Heap) (locs : List Loc) (ls : Array Slot), mm_P G kR 740 M H → va_S (mm_A G) s.heap H locs → lv_has ls 5 [(0, .ref (mm_lo G + a0)), (1, .int x1), (2, .int x2), (3, .int v3)] → k14 v3 = some r → W p l e rmX5_sameKindBeside s m args below meth c H locs 0 0 (MQ below (mm_Qi G (b2i r) (kR, 740, M)) args s 0 0 (mm_A G)) (F0 m 14 ls [])) : ∀ (v3 : Int32) (t0 : Int32) (H : Heap) (locs : List Loc) (ls : Array Slot), mm_P G kR 740 M H → va_S (mm_A G) s.heap H locs → lv_has ls 5 [(0, .ref (mm_lo G + a0)), (1, .int x1), (2, .int x2), (3, .int v3)] → fX5_sameKindBeside_43 a0 x1 x2 M k14 v3 t0 = some r → W p l e rmX5_sameKindBeside s m args below meth c H locs 0 0 (MQ below (mm_Qi G (b2i r) (kR, 740, M)) args s 0 0 (mm_A G)) (F0 m 43 ls [.int t0]) := by
  obtain ⟨hx, hb, -, -, -, -, -, -, hZ, -⟩ := id C
  intro v3 t0 H locs ls hM hS hl heq
  rw [fX5_sameKindBeside_43] at heq
  refine lv_istore (lv' := [(4, .int t0), (0, .ref (mm_lo G + a0)), (1, .int x1), (2, .int x2), (3, .int v3)]) hx hb dX5_sameKindBeside_43 hl (by decide) rfl (fun ls hl => ?_)
  refine lv_iload hx hb dX5_sameKindBeside_45 (lv_at hl 0 rfl) ?_
  refine lv_iload_n hx hb dX5_sameKindBeside_47 rfl (lv_at hl 2 rfl) ?_
  refine lv_icmp_eq (tgt := 84) hx hb dX5_sameKindBeside_48 (by decide) (fun c1 => ?_) (fun c1 => ?_)
  · have heq := if_t c1 heq
    obtain ⟨y2, ey2⟩ : ∃ y : Int32, y = (v3 + 2) := ⟨_, rfl⟩
    have heq := lt_to ey2 heq
    refine lv_iinc (v := y2) (lv' := [(3, .int y2), (4, .int t0), (0, .ref (mm_lo G + a0)), (1, .int x1), (2, .int x2)]) hx hb dX5_sameKindBeside_84 hl (k := 4) rfl (by rw [ey2]; rfl) (by decide) rfl (fun ls hl => ?_)
    refine lv_goto (tgt := 14) hx hb dX5_sameKindBeside_87 (by decide) ?_
    exact hk14 _ _ _ _ hM hS (lv_sub hl [2, 3, 4, 0] rfl) heq
  · have heq := if_f c1 heq
    refine lv_aload_n hx hb dX5_sameKindBeside_51 rfl (lv_at hl 1 rfl) ?_
    refine lv_iload hx hb dX5_sameKindBeside_52 (lv_at hl 0 rfl) ?_
    obtain ⟨r4, e3, heq⟩ := bn_of heq
    refine mm_ki hS (mm_runV (rest := []) C hM hS (tX5_hasCart l G M a0 h0 t0 r4 e3) (uX5_97 _ (Nat.le_of_ble_eq_true rfl) (Nat.le_of_ble_eq_true rfl)) (mm_recv C hM (kl h0) (ci := 4) rfl (mm_e4 h0)) hl.1 rfl rfl (Nat.le_of_ble_eq_true rfl) ⟨Nat.zero_le _, Nat.zero_le _⟩ dX5_sameKindBeside_54) (fun H locs hM hS => ?_)
    have hM : mm_P G kR 740 M H := hM
    refine mm_ifeqZ (tgt := 84) C dX5_sameKindBeside_57 (by decide) (fun c5 => ?_) (fun c5 => ?_)
    · have heq := if_f c5 heq
      obtain ⟨y6, ey6⟩ : ∃ y : Int32, y = (v3 + 2) := ⟨_, rfl⟩
      have heq := lt_to ey6 heq
      refine lv_iinc (v := y6) (lv' := [(3, .int y6), (4, .int t0), (0, .ref (mm_lo G + a0)), (1, .int x1), (2, .int x2)]) hx hb dX5_sameKindBeside_84 hl (k := 4) rfl (by rw [ey6]; rfl) (by decide) rfl (fun ls hl => ?_)
      refine lv_goto (tgt := 14) hx hb dX5_sameKindBeside_87 (by decide) ?_
      exact hk14 _ _ _ _ hM hS (lv_sub hl [2, 3, 4, 0] rfl) heq
    · have heq := if_t c5 heq
      refine lv_aload_n hx hb dX5_sameKindBeside_60 rfl (lv_at hl 1 rfl) ?_
      refine gX5_27 C hM (kl h0) h0 (rS_9 h0) dX5_sameKindBeside_61 ?_
      refine lv_iload hx hb dX5_sameKindBeside_64 (lv_at hl 0 rfl) ?_
      obtain ⟨g7, heq⟩ := gd_of heq
      refine mm_ald C hM (kl (kS_9 h0)) (Or.inl rfl) (kS_9 h0) (vp_in_of2 g7) (rS_cart h0 (vp_lt g7)) dX5_sameKindBeside_66 ?_
      refine gX5_180 C hM (kl (kS_cart h0 (vp_lt g7))) (kS_cart h0 (vp_lt g7)) dX5_sameKindBeside_67 ?_
      refine lv_aload_n hx hb dX5_sameKindBeside_70 rfl (lv_at hl 1 rfl) ?_
      refine gX5_27 C hM (kl h0) h0 (rS_9 h0) dX5_sameKindBeside_71 ?_
      refine lv_iload_n hx hb dX5_sameKindBeside_74 rfl (lv_at hl 2 rfl) ?_
      obtain ⟨g8, heq⟩ := gd_of heq
      refine mm_ald C hM (kl (kS_9 h0)) (Or.inl rfl) (kS_9 h0) (vp_in_of2 g8) (rS_cart h0 (vp_lt g8)) dX5_sameKindBeside_75 ?_
      refine gX5_180 C hM (kl (kS_cart h0 (vp_lt g8))) (kS_cart h0 (vp_lt g8)) dX5_sameKindBeside_76 ?_
      refine lv_icmp_ne (tgt := 84) hx hb dX5_sameKindBeside_79 (by decide) (fun c9 => ?_) (fun c9 => ?_)
      · have heq := if_f c9 heq
        obtain ⟨y10, ey10⟩ : ∃ y : Int32, y = (v3 + 2) := ⟨_, rfl⟩
        have heq := lt_to ey10 heq
        refine lv_iinc (v := y10) (lv' := [(3, .int y10), (4, .int t0), (0, .ref (mm_lo G + a0)), (1, .int x1), (2, .int x2)]) hx hb dX5_sameKindBeside_84 hl (k := 4) rfl (by rw [ey10]; rfl) (by decide) rfl (fun ls hl => ?_)
        refine lv_goto (tgt := 14) hx hb dX5_sameKindBeside_87 (by decide) ?_
        exact hk14 _ _ _ _ hM hS (lv_sub hl [2, 3, 4, 0] rfl) heq
      · have heq := if_t c9 heq
        refine lv_iconst (v := 1) hx hb dX5_sameKindBeside_82 (by decide) ?_
        cases heq
        exact mm_zret C hM hS dX5_sameKindBeside_83

set_option maxRecDepth 100000 in
set_option maxHeartbeats 4000000 in
theorem tX5_sameKindBeside_14 (C : mm_C G p s m args meth c RX5 cX5_sameKindBeside 5 (some .boolean)) (a0 : Nat) (h0 : kT a0 = (4, 0)) (x1 : Int32) (x2 : Int32) (M : mm_M) {r : Bool} : ∀ n : Nat, ∀ (v3 : Int32) (H : Heap) (locs : List Loc) (ls : Array Slot), mm_P G kR 740 M H → va_S (mm_A G) s.heap H locs → lv_has ls 5 [(0, .ref (mm_lo G + a0)), (1, .int x1), (2, .int x2), (3, .int v3)] → fX5_sameKindBeside_14 a0 x1 x2 M n v3 = some r → W p l e rmX5_sameKindBeside s m args below meth c H locs 0 0 (MQ below (mm_Qi G (b2i r) (kR, 740, M)) args s 0 0 (mm_A G)) (F0 m 14 ls []) := by
  obtain ⟨hx, hb, -, -, -, -, -, -, hZ, -⟩ := id C
  intro n
  induction n with
  | zero =>
    intro v3 H locs ls hM hS hl heq
    rw [fX5_sameKindBeside_14] at heq
    cases heq
  | succ n ih =>
    intro v3 H locs ls hM hS hl heq
    rw [fX5_sameKindBeside_14] at heq
    refine lv_iload_n hx hb dX5_sameKindBeside_14 rfl (lv_at hl 3 rfl) ?_
    refine lv_iload_n hx hb dX5_sameKindBeside_15 rfl (lv_at hl 2 rfl) ?_
    refine lv_iconst (v := 1) hx hb dX5_sameKindBeside_16 (by decide) ?_
    refine lv_iadd hx hb dX5_sameKindBeside_17 ?_
    refine lv_icmp_gt (tgt := 90) hx hb dX5_sameKindBeside_18 (by decide) (fun c1 => ?_) (fun c1 => ?_)
    · have heq := if_t c1 heq
      refine lv_iconst (v := 0) hx hb dX5_sameKindBeside_90 (by decide) ?_
      cases heq
      exact mm_zret C hM hS dX5_sameKindBeside_91
    · have heq := if_f c1 heq
      refine lv_aload_n hx hb dX5_sameKindBeside_21 rfl (lv_at hl 0 rfl) ?_
      refine lv_iload_n hx hb dX5_sameKindBeside_22 rfl (lv_at hl 3 rfl) ?_
      obtain ⟨r3, e2, heq⟩ := bn_of heq
      refine mm_ki hS (mm_runV (rest := []) C hM hS (tX5_hasPitch l G M a0 h0 v3 r3 e2) (uX5_87 _ (Nat.le_of_ble_eq_true rfl) (Nat.le_of_ble_eq_true rfl)) (mm_recv C hM (kl h0) (ci := 4) rfl (mm_e4 h0)) hl.1 rfl rfl (Nat.le_of_ble_eq_true rfl) ⟨Nat.zero_le _, Nat.zero_le _⟩ dX5_sameKindBeside_23) (fun H locs hM hS => ?_)
      have hM : mm_P G kR 740 M H := hM
      refine mm_ifeqZ (tgt := 41) C dX5_sameKindBeside_26 (by decide) (fun c4 => ?_) (fun c4 => ?_)
      · have heq := if_f c4 heq
        refine lv_bipush (v := (-6)) hx hb dX5_sameKindBeside_41 (by decide) ?_
        exact tX5_sameKindBeside_43 C a0 h0 x1 x2 M ih _ _ _ _ _ hM hS (lv_sub hl [0, 1, 2, 3] rfl) heq
      · have heq := if_t c4 heq
        refine lv_aload_n hx hb dX5_sameKindBeside_29 rfl (lv_at hl 0 rfl) ?_
        refine gX5_21 C hM (kl h0) h0 (rS_8 h0) dX5_sameKindBeside_30 ?_
        refine lv_iload_n hx hb dX5_sameKindBeside_33 rfl (lv_at hl 3 rfl) ?_
        obtain ⟨g5, heq⟩ := gd_of heq
        refine mm_ald C hM (kl (kS_8 h0)) (Or.inr (Or.inl rfl)) (kS_8 h0) (vp_in_of2 g5) (rS_pitch h0 (vp_lt g5)) dX5_sameKindBeside_34 ?_
        refine gX5_177 C hM (kl (kS_pitch h0 (vp_lt g5))) (kS_pitch h0 (vp_lt g5)) dX5_sameKindBeside_35 ?_
        refine lv_goto (tgt := 43) hx hb dX5_sameKindBeside_38 (by decide) ?_
        exact tX5_sameKindBeside_43 C a0 h0 x1 x2 M ih _ _ _ _ _ hM hS (lv_sub hl [0, 1, 2, 3] rfl) heq

set_option maxRecDepth 100000 in
set_option maxHeartbeats 4000000 in
theorem tX5_sameKindBeside (l : Launch) (G : mm_G) (M : mm_M) (a0 : Nat) (h0 : kT a0 = (4, 0)) (x1 : Int32) (x2 : Int32) (r : Bool) (heq : fX5_sameKindBeside M a0 x1 x2 = some r) : Met l yX5_sameKindBeside (mm_ws yX5_sameKindBeside cX5_sameKindBeside 5 (some .boolean)) rmX5_sameKindBeside (va_Pc [.ref (mm_lo G + a0), .int x1, .int x2] (mm_B G (kR, 740, M))) (mm_Qi G (b2i r) (kR, 740, M)) 0 0 (mm_A G) := by
  refine mm_met (cc := cX5_sameKindBeside) (nL := 5) (ret := (some .boolean)) plRX5 (Nat.le_of_ble_eq_true rfl) ?_
  intro p e s m below meth c ls hin C hM hS hl
  have C : mm_C G p s m _ meth c RX5 cX5_sameKindBeside 5 (some .boolean) := C
  have hM : mm_P G kR 740 M s.heap := hM
  have hl : lv_has ls 5 [(0, .ref (mm_lo G + a0)), (1, .int x1), (2, .int x2)] := hl
  obtain ⟨hx, hb, -, -, -, -, -, -, hZ, -⟩ := id C
  rw [fX5_sameKindBeside] at heq
  refine lv_aload_n hx hb dX5_sameKindBeside_0 rfl (lv_at hl 0 rfl) ?_
  refine lv_iload_n hx hb dX5_sameKindBeside_1 rfl (lv_at hl 1 rfl) ?_
  obtain ⟨r2, e1, heq⟩ := bn_of heq
  refine mm_ki hS (mm_runV (rest := []) C hM hS (tX5_hasCart l G M a0 h0 x1 r2 e1) (uX5_97 _ (Nat.le_of_ble_eq_true rfl) (Nat.le_of_ble_eq_true rfl)) (mm_recv C hM (kl h0) (ci := 4) rfl (mm_e4 h0)) hl.1 rfl rfl (Nat.le_of_ble_eq_true rfl) ⟨Nat.zero_le _, Nat.zero_le _⟩ dX5_sameKindBeside_2) (fun H locs hM hS => ?_)
  have hM : mm_P G kR 740 M H := hM
  refine mm_ifneZ (tgt := 10) C dX5_sameKindBeside_5 (by decide) (fun c3 => ?_) (fun c3 => ?_)
  · have heq := if_t c3 heq
    refine lv_iload_n hx hb dX5_sameKindBeside_10 rfl (lv_at hl 2 rfl) ?_
    refine lv_iconst (v := 1) hx hb dX5_sameKindBeside_11 (by decide) ?_
    refine lv_isub hx hb dX5_sameKindBeside_12 ?_
    refine lv_topi (fun y4 ey4 => ?_)
    have heq := lt_to ey4 heq
    refine lv_istore_n (lv' := [(3, .int y4), (0, .ref (mm_lo G + a0)), (1, .int x1), (2, .int x2)]) hx hb dX5_sameKindBeside_13 rfl hl (by decide) rfl (fun ls hl => ?_)
    exact tX5_sameKindBeside_14 C a0 h0 x1 x2 M FU _ _ _ _ hM hS (lv_sub hl [1, 2, 3, 0] rfl) heq
  · have heq := if_f c3 heq
    refine lv_iconst (v := 0) hx hb dX5_sameKindBeside_8 (by decide) ?_
    cases heq
    exact mm_zret C hM hS dX5_sameKindBeside_9

set_option maxRecDepth 100000 in
set_option maxHeartbeats 4000000 in
theorem tX5_seat (l : Launch) (G : mm_G) (M : mm_M) (a0 : Nat) (h0 : kT a0 = (4, 0)) (x1 : Int32) (x2 : Int32) (M9 : mm_M) (heq : fX5_seat M a0 x1 x2 = some M9) : Met l yX5_seat (mm_ws yX5_seat cX5_seat 3 none) rmX5_seat (va_Pc [.ref (mm_lo G + a0), .int x1, .int x2] (mm_B G (kR, 740, M))) (mm_Qv G (kR, 740, M9)) 0 0 (mm_A G) := by
  refine mm_met (cc := cX5_seat) (nL := 3) (ret := none) plRX5 (Nat.le_of_ble_eq_true rfl) ?_
  intro p e s m below meth c ls hin C hM hS hl
  have C : mm_C G p s m _ meth c RX5 cX5_seat 3 none := C
  have hM : mm_P G kR 740 M s.heap := hM
  have hl : lv_has ls 3 [(0, .ref (mm_lo G + a0)), (1, .int x1), (2, .int x2)] := hl
  obtain ⟨hx, hb, -, -, -, -, -, -, hZ, -⟩ := id C
  rw [fX5_seat] at heq
  refine lv_aload_n hx hb dX5_seat_0 rfl (lv_at hl 0 rfl) ?_
  refine lv_iload_n hx hb dX5_seat_1 rfl (lv_at hl 1 rfl) ?_
  obtain ⟨r2, e1, heq⟩ := bn_of heq
  refine mm_ki hS (mm_runV (rest := []) C hM hS (tX5_hasCart l G M a0 h0 x1 r2 e1) (uX5_97 _ (Nat.le_of_ble_eq_true rfl) (Nat.le_of_ble_eq_true rfl)) (mm_recv C hM (kl h0) (ci := 4) rfl (mm_e4 h0)) hl.1 rfl rfl (Nat.le_of_ble_eq_true rfl) ⟨Nat.zero_le _, Nat.zero_le _⟩ dX5_seat_2) (fun H locs hM hS => ?_)
  have hM : mm_P G kR 740 M H := hM
  refine mm_ifeqZ (tgt := 36) C dX5_seat_5 (by decide) (fun c3 => ?_) (fun c3 => ?_)
  · have heq := if_f c3 heq
    cases heq
    exact mm_vret C hM hS dX5_seat_36
  · have heq := if_t c3 heq
    refine lv_aload_n hx hb dX5_seat_8 rfl (lv_at hl 0 rfl) ?_
    refine lv_iload_n hx hb dX5_seat_9 rfl (lv_at hl 2 rfl) ?_
    obtain ⟨r5, e4, heq⟩ := bn_of heq
    refine mm_ki hS (mm_runV (rest := []) C hM hS (tX5_hasPitch l G M a0 h0 x2 r5 e4) (uX5_87 _ (Nat.le_of_ble_eq_true rfl) (Nat.le_of_ble_eq_true rfl)) (mm_recv C hM (kl h0) (ci := 4) rfl (mm_e4 h0)) hl.1 rfl rfl (Nat.le_of_ble_eq_true rfl) ⟨Nat.zero_le _, Nat.zero_le _⟩ dX5_seat_10) (fun H locs hM hS => ?_)
    have hM : mm_P G kR 740 M H := hM
    refine mm_ifeqZ (tgt := 36) C dX5_seat_13 (by decide) (fun c6 => ?_) (fun c6 => ?_)
    · have heq := if_f c6 heq
      cases heq
      exact mm_vret C hM hS dX5_seat_36
    · have heq := if_t c6 heq
      refine lv_aload_n hx hb dX5_seat_16 rfl (lv_at hl 0 rfl) ?_
      refine gX5_21 C hM (kl h0) h0 (rS_8 h0) dX5_seat_17 ?_
      refine lv_iload_n hx hb dX5_seat_20 rfl (lv_at hl 2 rfl) ?_
      obtain ⟨g7, heq⟩ := gd_of heq
      refine mm_ald C hM (kl (kS_8 h0)) (Or.inr (Or.inl rfl)) (kS_8 h0) (vp_in_of2 g7) (rS_pitch h0 (vp_lt g7)) dX5_seat_21 ?_
      refine lv_iload_n hx hb dX5_seat_22 rfl (lv_at hl 1 rfl) ?_
      refine pX5_177 C hM hS (kl (kS_pitch h0 (vp_lt g7))) (kS_pitch h0 (vp_lt g7)) dX5_seat_23 (fun H locs hM hS _ => ?_)
      obtain ⟨M8, eM8⟩ : ∃ z : mm_M, z = sI M (a0 + 8 + x2.toNatClampNeg) 3 x1 := ⟨_, rfl⟩
      rw [← eM8] at hM
      have heq := lt_to eM8 heq
      refine lv_aload_n hx hb dX5_seat_26 rfl (lv_at hl 0 rfl) ?_
      refine gX5_27 C hM (kl h0) h0 (rS_9 h0) dX5_seat_27 ?_
      refine lv_iload_n hx hb dX5_seat_30 rfl (lv_at hl 1 rfl) ?_
      obtain ⟨g9, heq⟩ := gd_of heq
      refine mm_ald C hM (kl (kS_9 h0)) (Or.inl rfl) (kS_9 h0) (vp_in_of2 g9) (rS_cart h0 (vp_lt g9)) dX5_seat_31 ?_
      refine lv_iload_n hx hb dX5_seat_32 rfl (lv_at hl 2 rfl) ?_
      refine pX5_174 C hM hS (kl (kS_cart h0 (vp_lt g9))) (kS_cart h0 (vp_lt g9)) dX5_seat_33 (fun H locs hM hS _ => ?_)
      obtain ⟨M10, eM10⟩ : ∃ z : mm_M, z = sI M8 (a0 + 18 + 3 * x1.toNatClampNeg) 8 x2 := ⟨_, rfl⟩
      rw [← eM10] at hM
      have heq := lt_to eM10 heq
      cases heq
      exact mm_vret C hM hS dX5_seat_36

set_option maxRecDepth 100000 in
set_option maxHeartbeats 4000000 in
theorem tX1_choosePitch_18 (C : mm_C G p s m args meth c RX1 cX1_choosePitch 5 none) (a0 : Nat) (h0 : kT a0 = (4, 0)) (x1 : Int32) {M9 : mm_M} : ∀ n : Nat, ∀ (M : mm_M) (v2 : Nat) (v3 : Int32) (H : Heap) (locs : List Loc) (ls : Array Slot), kT v2 = (0, 0) → mm_P G kR 740 M H → va_S (mm_A G) s.heap H locs → lv_has ls 5 [(0, .ref (mm_lo G + a0)), (1, .int x1), (2, .ref (mm_lo G + v2)), (3, .int v3)] → fX1_choosePitch_18 a0 x1 n M v2 v3 = some M9 → W p l e rmX1_choosePitch s m args below meth c H locs 0 0 (MQ below (mm_Qv G (kR, 740, M9)) args s 0 0 (mm_A G)) (F0 m 18 ls []) := by
  obtain ⟨hx, hb, -, -, -, -, -, -, hZ, -⟩ := id C
  intro n
  induction n with
  | zero =>
    intro M v2 v3 H locs ls g_v2 hM hS hl heq
    rw [fX1_choosePitch_18] at heq
    cases heq
  | succ n ih =>
    intro M v2 v3 H locs ls g_v2 hM hS hl heq
    rw [fX1_choosePitch_18] at heq
    refine lv_iload_n hx hb dX1_choosePitch_18 rfl (lv_at hl 3 rfl) ?_
    refine lv_aload_n hx hb dX1_choosePitch_19 rfl (lv_at hl 2 rfl) ?_
    refine gX1_104 C hM (kl g_v2) g_v2 dX1_choosePitch_20 ?_
    refine lv_icmp_ge (tgt := 86) hx hb dX1_choosePitch_23 (by decide) (fun c1 => ?_) (fun c1 => ?_)
    · have heq := if_t c1 heq
      cases heq
      exact mm_vret C hM hS dX1_choosePitch_86
    · have heq := if_f c1 heq
      refine lv_aload_n hx hb dX1_choosePitch_26 rfl (lv_at hl 2 rfl) ?_
      refine lv_iload_n hx hb dX1_choosePitch_27 rfl (lv_at hl 3 rfl) ?_
      obtain ⟨r3, e2, heq⟩ := bn_of heq
      refine mm_ki hS (mm_runV (rest := []) C hM hS (tX0_wishAt l G M v2 g_v2 v3 r3 e2) (uX1_107 _ (Nat.le_of_ble_eq_true rfl) (Nat.le_of_ble_eq_true rfl)) (mm_recv C hM (kl g_v2) (ci := 0) rfl (mm_e0 g_v2)) hl.1 rfl rfl (Nat.le_of_ble_eq_true rfl) ⟨Nat.zero_le _, Nat.zero_le _⟩ dX1_choosePitch_28) (fun H locs hM hS => ?_)
      have hM : mm_P G kR 740 M H := hM
      refine lv_istore (lv' := [(4, .int r3), (0, .ref (mm_lo G + a0)), (1, .int x1), (2, .ref (mm_lo G + v2)), (3, .int v3)]) hx hb dX1_choosePitch_31 hl (by decide) rfl (fun ls hl => ?_)
      refine lv_aload_n hx hb dX1_choosePitch_33 rfl (lv_at hl 1 rfl) ?_
      refine lv_iload hx hb dX1_choosePitch_34 (lv_at hl 0 rfl) ?_
      obtain ⟨r5, e4, heq⟩ := bn_of heq
      refine mm_ki hS (mm_runV (rest := []) C hM hS (tX5_hasPitch l G M a0 h0 r3 r5 e4) (uX1_110 _ (Nat.le_of_ble_eq_true rfl) (Nat.le_of_ble_eq_true rfl)) (mm_recv C hM (kl h0) (ci := 4) rfl (mm_e4 h0)) hl.1 rfl rfl (Nat.le_of_ble_eq_true rfl) ⟨Nat.zero_le _, Nat.zero_le _⟩ dX1_choosePitch_36) (fun H locs hM hS => ?_)
      have hM : mm_P G kR 740 M H := hM
      refine mm_ifeqZ (tgt := 80) C dX1_choosePitch_39 (by decide) (fun c6 => ?_) (fun c6 => ?_)
      · have heq := if_f c6 heq
        obtain ⟨y7, ey7⟩ : ∃ y : Int32, y = (v3 + 1) := ⟨_, rfl⟩
        have heq := lt_to ey7 heq
        refine lv_iinc (v := y7) (lv' := [(3, .int y7), (4, .int r3), (0, .ref (mm_lo G + a0)), (1, .int x1), (2, .ref (mm_lo G + v2))]) hx hb dX1_choosePitch_80 hl (k := 4) rfl (by rw [ey7]; rfl) (by decide) rfl (fun ls hl => ?_)
        refine lv_goto (tgt := 18) hx hb dX1_choosePitch_83 (by decide) ?_
        exact ih _ _ _ _ _ _ g_v2 hM hS (lv_sub hl [2, 3, 4, 0] rfl) heq
      · have heq := if_t c6 heq
        refine lv_aload_n hx hb dX1_choosePitch_42 rfl (lv_at hl 1 rfl) ?_
        refine gX1_44 C hM (kl h0) h0 (rS_8 h0) dX1_choosePitch_43 ?_
        refine lv_iload hx hb dX1_choosePitch_46 (lv_at hl 0 rfl) ?_
        obtain ⟨g8, heq⟩ := gd_of heq
        refine mm_ald C hM (kl (kS_8 h0)) (Or.inr (Or.inl rfl)) (kS_8 h0) (vp_in_of2 g8) (rS_pitch h0 (vp_lt g8)) dX1_choosePitch_48 ?_
        refine gX1_48 C hM (kl (kS_pitch h0 (vp_lt g8))) (kS_pitch h0 (vp_lt g8)) dX1_choosePitch_49 ?_
        refine lv_bipush (v := (-6)) hx hb dX1_choosePitch_52 (by decide) ?_
        refine lv_icmp_ne (tgt := 80) hx hb dX1_choosePitch_54 (by decide) (fun c9 => ?_) (fun c9 => ?_)
        · have heq := if_f c9 heq
          obtain ⟨y10, ey10⟩ : ∃ y : Int32, y = (v3 + 1) := ⟨_, rfl⟩
          have heq := lt_to ey10 heq
          refine lv_iinc (v := y10) (lv' := [(3, .int y10), (4, .int r3), (0, .ref (mm_lo G + a0)), (1, .int x1), (2, .ref (mm_lo G + v2))]) hx hb dX1_choosePitch_80 hl (k := 4) rfl (by rw [ey10]; rfl) (by decide) rfl (fun ls hl => ?_)
          refine lv_goto (tgt := 18) hx hb dX1_choosePitch_83 (by decide) ?_
          exact ih _ _ _ _ _ _ g_v2 hM hS (lv_sub hl [2, 3, 4, 0] rfl) heq
        · have heq := if_t c9 heq
          refine lv_aload_n hx hb dX1_choosePitch_57 rfl (lv_at hl 1 rfl) ?_
          refine lv_iload_n hx hb dX1_choosePitch_58 rfl (lv_at hl 2 rfl) ?_
          refine lv_iload hx hb dX1_choosePitch_59 (lv_at hl 0 rfl) ?_
          obtain ⟨r12, e11, heq⟩ := bn_of heq
          refine mm_ki hS (mm_runV (rest := []) C hM hS (tX5_sameKindBeside l G M a0 h0 x1 r3 r12 e11) (uX1_113 _ (Nat.le_of_ble_eq_true rfl) (Nat.le_of_ble_eq_true rfl)) (mm_recv C hM (kl h0) (ci := 4) rfl (mm_e4 h0)) hl.1 rfl rfl (Nat.le_of_ble_eq_true rfl) ⟨Nat.zero_le _, Nat.zero_le _⟩ dX1_choosePitch_61) (fun H locs hM hS => ?_)
          have hM : mm_P G kR 740 M H := hM
          refine mm_ifneZ (tgt := 80) C dX1_choosePitch_64 (by decide) (fun c13 => ?_) (fun c13 => ?_)
          · have heq := if_t c13 heq
            obtain ⟨y14, ey14⟩ : ∃ y : Int32, y = (v3 + 1) := ⟨_, rfl⟩
            have heq := lt_to ey14 heq
            refine lv_iinc (v := y14) (lv' := [(3, .int y14), (4, .int r3), (0, .ref (mm_lo G + a0)), (1, .int x1), (2, .ref (mm_lo G + v2))]) hx hb dX1_choosePitch_80 hl (k := 4) rfl (by rw [ey14]; rfl) (by decide) rfl (fun ls hl => ?_)
            refine lv_goto (tgt := 18) hx hb dX1_choosePitch_83 (by decide) ?_
            exact ih _ _ _ _ _ _ g_v2 hM hS (lv_sub hl [2, 3, 4, 0] rfl) heq
          · have heq := if_f c13 heq
            refine lv_aload_n hx hb dX1_choosePitch_67 rfl (lv_at hl 1 rfl) ?_
            refine lv_iload_n hx hb dX1_choosePitch_68 rfl (lv_at hl 2 rfl) ?_
            refine lv_iload hx hb dX1_choosePitch_69 (lv_at hl 0 rfl) ?_
            obtain ⟨M16, e15, heq⟩ := bn_of heq
            refine mm_kv hS (mm_runV (rest := []) C hM hS (tX5_seat l G M a0 h0 x1 r3 M16 e15) (uX1_117 _ (Nat.le_of_ble_eq_true rfl) (Nat.le_of_ble_eq_true rfl)) (mm_recv C hM (kl h0) (ci := 4) rfl (mm_e4 h0)) hl.1 rfl rfl (Nat.le_of_ble_eq_true rfl) ⟨Nat.zero_le _, Nat.zero_le _⟩ dX1_choosePitch_71) (fun H locs hM hS => ?_)
            have hM : mm_P G kR 740 M16 H := hM
            refine lv_aload_n hx hb dX1_choosePitch_74 rfl (lv_at hl 3 rfl) ?_
            refine lv_iconst (v := 0) hx hb dX1_choosePitch_75 (by decide) ?_
            refine pX1_92 C hM hS (kl g_v2) g_v2 dX1_choosePitch_76 (fun H locs hM hS _ => ?_)
            obtain ⟨M17, eM17⟩ : ∃ z : mm_M, z = sI M16 v2 10 0 := ⟨_, rfl⟩
            rw [← eM17] at hM
            have heq := lt_to eM17 heq
            cases heq
            exact mm_vret C hM hS dX1_choosePitch_79

set_option maxRecDepth 100000 in
set_option maxHeartbeats 4000000 in
theorem tX1_choosePitch (l : Launch) (G : mm_G) (M : mm_M) (a0 : Nat) (h0 : kT a0 = (4, 0)) (x1 : Int32) (M9 : mm_M) (heq : fX1_choosePitch M a0 x1 = some M9) : Met l yX1_choosePitch (mm_ws yX1_choosePitch cX1_choosePitch 5 none) rmX1_choosePitch (va_Pc [.ref (mm_lo G + a0), .int x1] (mm_B G (kR, 740, M))) (mm_Qv G (kR, 740, M9)) 0 0 (mm_A G) := by
  refine mm_met (cc := cX1_choosePitch) (nL := 5) (ret := none) plRX1 (Nat.le_of_ble_eq_true rfl) ?_
  intro p e s m below meth c ls hin C hM hS hl
  have C : mm_C G p s m _ meth c RX1 cX1_choosePitch 5 none := C
  have hM : mm_P G kR 740 M s.heap := hM
  have hl : lv_has ls 5 [(0, .ref (mm_lo G + a0)), (1, .int x1)] := hl
  obtain ⟨hx, hb, -, -, -, -, -, -, hZ, -⟩ := id C
  rw [fX1_choosePitch] at heq
  refine lv_aload_n hx hb dX1_choosePitch_0 rfl (lv_at hl 0 rfl) ?_
  refine lv_iload_n hx hb dX1_choosePitch_1 rfl (lv_at hl 1 rfl) ?_
  obtain ⟨r2, e1, heq⟩ := bn_of heq
  refine mm_ki hS (mm_runV (rest := []) C hM hS (tX5_hasCart l G M a0 h0 x1 r2 e1) (uX1_71 _ (Nat.le_of_ble_eq_true rfl) (Nat.le_of_ble_eq_true rfl)) (mm_recv C hM (kl h0) (ci := 4) rfl (mm_e4 h0)) hl.1 rfl rfl (Nat.le_of_ble_eq_true rfl) ⟨Nat.zero_le _, Nat.zero_le _⟩ dX1_choosePitch_2) (fun H locs hM hS => ?_)
  have hM : mm_P G kR 740 M H := hM
  refine mm_ifneZ (tgt := 9) C dX1_choosePitch_5 (by decide) (fun c3 => ?_) (fun c3 => ?_)
  · have heq := if_t c3 heq
    refine lv_aload_n hx hb dX1_choosePitch_9 rfl (lv_at hl 0 rfl) ?_
    refine gX1_37 C hM (kl h0) h0 (rS_9 h0) dX1_choosePitch_10 ?_
    refine lv_iload_n hx hb dX1_choosePitch_13 rfl (lv_at hl 1 rfl) ?_
    obtain ⟨g4, heq⟩ := gd_of heq
    refine mm_ald C hM (kl (kS_9 h0)) (Or.inl rfl) (kS_9 h0) (vp_in_of2 g4) (rS_cart h0 (vp_lt g4)) dX1_choosePitch_14 ?_
    refine lv_astore_n (lv' := [(2, .ref (mm_lo G + (a0 + 18 + 3 * x1.toNatClampNeg))), (0, .ref (mm_lo G + a0)), (1, .int x1)]) hx hb dX1_choosePitch_15 rfl hl (by decide) rfl (fun ls hl => ?_)
    refine lv_iconst (v := 0) hx hb dX1_choosePitch_16 (by decide) ?_
    refine lv_istore_n (lv' := [(3, .int 0), (2, .ref (mm_lo G + (a0 + 18 + 3 * x1.toNatClampNeg))), (0, .ref (mm_lo G + a0)), (1, .int x1)]) hx hb dX1_choosePitch_17 rfl hl (by decide) rfl (fun ls hl => ?_)
    exact tX1_choosePitch_18 C a0 h0 x1 FU _ _ _ _ _ _ (kS_cart h0 (vp_lt g4)) hM hS (lv_sub hl [2, 3, 1, 0] rfl) heq
  · have heq := if_f c3 heq
    cases heq
    exact mm_vret C hM hS dX1_choosePitch_8

set_option maxRecDepth 100000 in
set_option maxHeartbeats 4000000 in
theorem tX1_handOutTickets_75 (C : mm_C G p s m args meth c RX1 cX1_handOutTickets 5 (some .int)) (a0 : Nat) (h0 : kT a0 = (4, 0)) {r : Int32} {M9 : mm_M} {k4 : mm_M → Int32 → Int32 → Option (Int32 × mm_M)} (hk4 : ∀ (M : mm_M) (v1 : Int32) (v2 : Int32) (H : Heap) (locs : List Loc) (ls : Array Slot), mm_P G kR 740 M H → va_S (mm_A G) s.heap H locs → lv_has ls 5 [(0, .ref (mm_lo G + a0)), (1, .int v1), (2, .int v2)] → k4 M v1 v2 = some (r, M9) → W p l e rmX1_handOutTickets s m args below meth c H locs 0 0 (MQ below (mm_Qi G r (kR, 740, M9)) args s 0 0 (mm_A G)) (F0 m 4 ls [])) : ∀ (M : mm_M) (v1 : Int32) (v2 : Int32) (t0 : Nat) (t1 : Int32) (t2 : Int32) (H : Heap) (locs : List Loc) (ls : Array Slot), kT t0 = (8, 16) → mm_P G kR 740 M H → va_S (mm_A G) s.heap H locs → lv_has ls 5 [(0, .ref (mm_lo G + a0)), (1, .int v1), (2, .int v2)] → fX1_handOutTickets_75 a0 k4 M v1 v2 t0 t1 t2 = some (r, M9) → W p l e rmX1_handOutTickets s m args below meth c H locs 0 0 (MQ below (mm_Qi G r (kR, 740, M9)) args s 0 0 (mm_A G)) (F0 m 75 ls [.int t2, .int t1, .ref (mm_lo G + t0)]) := by
  obtain ⟨hx, hb, -, -, -, -, -, -, hZ, -⟩ := id C
  intro M v1 v2 t0 t1 t2 H locs ls g_t0 hM hS hl heq
  rw [fX1_handOutTickets_75] at heq
  obtain ⟨g1, heq⟩ := gd_of heq
  refine mm_istk C hM hS (kl g_t0) g_t0 (vp_in_of2 g1) rfl dX1_handOutTickets_75 (fun H locs hM hS _ => ?_)
  obtain ⟨M2, eM2⟩ : ∃ z : mm_M, z = sI M t0 t1.toNatClampNeg t2 := ⟨_, rfl⟩
  rw [← eM2] at hM
  have heq := lt_to eM2 heq
  refine lv_iload_n hx hb dX1_handOutTickets_76 rfl (lv_at hl 1 rfl) ?_
  refine lv_aload_n hx hb dX1_handOutTickets_77 rfl (lv_at hl 0 rfl) ?_
  refine gX1_75 C hM (kl h0) h0 (rS_12 h0) dX1_handOutTickets_78 ?_
  refine lv_iload_n hx hb dX1_handOutTickets_81 rfl (lv_at hl 2 rfl) ?_
  obtain ⟨g3, heq⟩ := gd_of heq
  refine mm_ildk C hM (kl (kS_12 h0)) (kS_12 h0) (vp_in_of2 g3) rfl dX1_handOutTickets_82 ?_
  refine lv_iadd hx hb dX1_handOutTickets_83 ?_
  refine lv_topi (fun y4 ey4 => ?_)
  have heq := lt_to ey4 heq
  refine lv_istore_n (lv' := [(1, .int y4), (0, .ref (mm_lo G + a0)), (2, .int v2)]) hx hb dX1_handOutTickets_84 rfl hl (by decide) rfl (fun ls hl => ?_)
  obtain ⟨y5, ey5⟩ : ∃ y : Int32, y = (v2 + 1) := ⟨_, rfl⟩
  have heq := lt_to ey5 heq
  refine lv_iinc (v := y5) (lv' := [(2, .int y5), (1, .int y4), (0, .ref (mm_lo G + a0))]) hx hb dX1_handOutTickets_85 hl (k := 2) rfl (by rw [ey5]; rfl) (by decide) rfl (fun ls hl => ?_)
  refine lv_goto (tgt := 4) hx hb dX1_handOutTickets_88 (by decide) ?_
  exact hk4 _ _ _ _ _ _ hM hS (lv_sub hl [2, 1, 0] rfl) heq

set_option maxRecDepth 100000 in
set_option maxHeartbeats 4000000 in
theorem tX1_handOutTickets_44 (C : mm_C G p s m args meth c RX1 cX1_handOutTickets 5 (some .int)) (a0 : Nat) (h0 : kT a0 = (4, 0)) {r : Int32} {M9 : mm_M} {k4 : mm_M → Int32 → Int32 → Option (Int32 × mm_M)} (hk4 : ∀ (M : mm_M) (v1 : Int32) (v2 : Int32) (H : Heap) (locs : List Loc) (ls : Array Slot), mm_P G kR 740 M H → va_S (mm_A G) s.heap H locs → lv_has ls 5 [(0, .ref (mm_lo G + a0)), (1, .int v1), (2, .int v2)] → k4 M v1 v2 = some (r, M9) → W p l e rmX1_handOutTickets s m args below meth c H locs 0 0 (MQ below (mm_Qi G r (kR, 740, M9)) args s 0 0 (mm_A G)) (F0 m 4 ls [])) : ∀ (M : mm_M) (v1 : Int32) (v2 : Int32) (v3 : Nat) (t0 : Bool) (H : Heap) (locs : List Loc) (ls : Array Slot), kT v3 = (0, 0) → mm_P G kR 740 M H → va_S (mm_A G) s.heap H locs → lv_has ls 5 [(0, .ref (mm_lo G + a0)), (1, .int v1), (2, .int v2), (3, .ref (mm_lo G + v3))] → fX1_handOutTickets_44 a0 k4 M v1 v2 v3 t0 = some (r, M9) → W p l e rmX1_handOutTickets s m args below meth c H locs 0 0 (MQ below (mm_Qi G r (kR, 740, M9)) args s 0 0 (mm_A G)) (F0 m 44 ls [.int (b2i t0)]) := by
  obtain ⟨hx, hb, -, -, -, -, -, -, hZ, -⟩ := id C
  intro M v1 v2 v3 t0 H locs ls g_v3 hM hS hl heq
  rw [fX1_handOutTickets_44] at heq
  refine lv_istore (lv' := [(4, .int (b2i t0)), (0, .ref (mm_lo G + a0)), (1, .int v1), (2, .int v2), (3, .ref (mm_lo G + v3))]) hx hb dX1_handOutTickets_44 hl (by decide) rfl (fun ls hl => ?_)
  refine lv_aload_n hx hb dX1_handOutTickets_46 rfl (lv_at hl 1 rfl) ?_
  refine gX1_75 C hM (kl h0) h0 (rS_12 h0) dX1_handOutTickets_47 ?_
  refine lv_iload_n hx hb dX1_handOutTickets_50 rfl (lv_at hl 3 rfl) ?_
  refine lv_iload hx hb dX1_handOutTickets_51 (lv_at hl 0 rfl) ?_
  refine mm_ifeqZ (tgt := 74) C dX1_handOutTickets_53 (by decide) (fun c1 => ?_) (fun c1 => ?_)
  · have heq := if_f c1 heq
    refine lv_iconst (v := 0) hx hb dX1_handOutTickets_74 (by decide) ?_
    exact tX1_handOutTickets_75 C a0 h0 hk4 _ _ _ _ _ _ _ _ _ (kS_12 h0) hM hS (lv_sub hl [1, 2, 3] rfl) heq
  · have heq := if_t c1 heq
    refine lv_iconst (v := 1) hx hb dX1_handOutTickets_56 (by decide) ?_
    refine lv_aload_n hx hb dX1_handOutTickets_57 rfl (lv_at hl 4 rfl) ?_
    refine gX1_95 C hM (kl g_v3) g_v3 dX1_handOutTickets_58 ?_
    refine lv_iadd hx hb dX1_handOutTickets_61 ?_
    refine lv_aload_n hx hb dX1_handOutTickets_62 rfl (lv_at hl 1 rfl) ?_
    refine gX1_9 C hM (kl h0) h0 (rS_7 h0) dX1_handOutTickets_63 ?_
    refine lv_iconst (v := 0) hx hb dX1_handOutTickets_66 (by decide) ?_
    refine mm_ildk C hM (kl (kS_7 h0)) (kS_7 h0) (vp_in_of2 (by decide)) (by decide : (0 : Int32).toNatClampNeg = 0) dX1_handOutTickets_67 ?_
    refine mm_min C hl.1 mX1_98 wMin1 wMin2 wMin3 (Nat.le_of_ble_eq_true rfl) (Nat.le_of_ble_eq_true rfl) ⟨Nat.zero_le _, Nat.zero_le _⟩ dX1_handOutTickets_68 ?_
    refine lv_goto (tgt := 75) hx hb dX1_handOutTickets_71 (by decide) ?_
    exact tX1_handOutTickets_75 C a0 h0 hk4 _ _ _ _ _ _ _ _ _ (kS_12 h0) hM hS (lv_sub hl [1, 2, 3] rfl) heq

set_option maxRecDepth 100000 in
set_option maxHeartbeats 4000000 in
theorem tX1_handOutTickets_4 (C : mm_C G p s m args meth c RX1 cX1_handOutTickets 5 (some .int)) (a0 : Nat) (h0 : kT a0 = (4, 0)) {r : Int32} {M9 : mm_M} : ∀ n : Nat, ∀ (M : mm_M) (v1 : Int32) (v2 : Int32) (H : Heap) (locs : List Loc) (ls : Array Slot), mm_P G kR 740 M H → va_S (mm_A G) s.heap H locs → lv_has ls 5 [(0, .ref (mm_lo G + a0)), (1, .int v1), (2, .int v2)] → fX1_handOutTickets_4 a0 n M v1 v2 = some (r, M9) → W p l e rmX1_handOutTickets s m args below meth c H locs 0 0 (MQ below (mm_Qi G r (kR, 740, M9)) args s 0 0 (mm_A G)) (F0 m 4 ls []) := by
  obtain ⟨hx, hb, -, -, -, -, -, -, hZ, -⟩ := id C
  intro n
  induction n with
  | zero =>
    intro M v1 v2 H locs ls hM hS hl heq
    rw [fX1_handOutTickets_4] at heq
    cases heq
  | succ n ih =>
    intro M v1 v2 H locs ls hM hS hl heq
    rw [fX1_handOutTickets_4] at heq
    refine lv_iload_n hx hb dX1_handOutTickets_4 rfl (lv_at hl 2 rfl) ?_
    refine lv_aload_n hx hb dX1_handOutTickets_5 rfl (lv_at hl 0 rfl) ?_
    refine gX1_34 C hM (kl h0) h0 dX1_handOutTickets_6 ?_
    refine lv_icmp_ge (tgt := 91) hx hb dX1_handOutTickets_9 (by decide) (fun c1 => ?_) (fun c1 => ?_)
    · have heq := if_t c1 heq
      refine lv_iload_n hx hb dX1_handOutTickets_91 rfl (lv_at hl 1 rfl) ?_
      cases heq
      exact mm_iret C hM hS dX1_handOutTickets_92
    · have heq := if_f c1 heq
      refine lv_aload_n hx hb dX1_handOutTickets_12 rfl (lv_at hl 0 rfl) ?_
      refine gX1_37 C hM (kl h0) h0 (rS_9 h0) dX1_handOutTickets_13 ?_
      refine lv_iload_n hx hb dX1_handOutTickets_16 rfl (lv_at hl 2 rfl) ?_
      obtain ⟨g2, heq⟩ := gd_of heq
      refine mm_ald C hM (kl (kS_9 h0)) (Or.inl rfl) (kS_9 h0) (vp_in_of2 g2) (rS_cart h0 (vp_lt g2)) dX1_handOutTickets_17 ?_
      refine lv_astore_n (lv' := [(3, .ref (mm_lo G + (a0 + 18 + 3 * v2.toNatClampNeg))), (0, .ref (mm_lo G + a0)), (1, .int v1), (2, .int v2)]) hx hb dX1_handOutTickets_18 rfl hl (by decide) rfl (fun ls hl => ?_)
      refine lv_aload_n hx hb dX1_handOutTickets_19 rfl (lv_at hl 0 rfl) ?_
      refine lv_aload_n hx hb dX1_handOutTickets_20 rfl (lv_at hl 0 rfl) ?_
      refine lv_aload_n hx hb dX1_handOutTickets_21 rfl (lv_at hl 1 rfl) ?_
      refine gX1_21 C hM (kl h0) h0 dX1_handOutTickets_22 ?_
      obtain ⟨r4, e3, heq⟩ := bn_of heq
      refine mm_ki hS (mm_runV (rest := [.ref (mm_lo G + (a0 + 18 + 3 * v2.toNatClampNeg))]) C hM hS (tX0_reasonBeforeLots l G M (a0 + 18 + 3 * v2.toNatClampNeg) (kS_cart h0 (vp_lt g2)) (M.1 a0 0) r4 e3) (uX1_88 _ (Nat.le_of_ble_eq_true rfl) (Nat.le_of_ble_eq_true rfl)) (mm_recv C hM (kl (kS_cart h0 (vp_lt g2))) (ci := 0) rfl (mm_e0 (kS_cart h0 (vp_lt g2)))) hl.1 rfl rfl (Nat.le_of_ble_eq_true rfl) ⟨Nat.zero_le _, Nat.zero_le _⟩ dX1_handOutTickets_25) (fun H locs hM hS => ?_)
      have hM : mm_P G kR 740 M H := hM
      refine pX1_92 C hM hS (kl (kS_cart h0 (vp_lt g2))) (kS_cart h0 (vp_lt g2)) dX1_handOutTickets_28 (fun H locs hM hS _ => ?_)
      obtain ⟨M5, eM5⟩ : ∃ z : mm_M, z = sI M (a0 + 18 + 3 * v2.toNatClampNeg) 10 r4 := ⟨_, rfl⟩
      rw [← eM5] at hM
      have heq := lt_to eM5 heq
      refine lv_aload_n hx hb dX1_handOutTickets_31 rfl (lv_at hl 0 rfl) ?_
      refine gX1_92 C hM (kl (kS_cart h0 (vp_lt g2))) (kS_cart h0 (vp_lt g2)) dX1_handOutTickets_32 ?_
      refine lv_iconst (v := 4) hx hb dX1_handOutTickets_35 (by decide) ?_
      refine lv_icmp_ne (tgt := 43) hx hb dX1_handOutTickets_36 (by decide) (fun c6 => ?_) (fun c6 => ?_)
      · have heq := if_f c6 heq
        refine lv_iconst (v := 0) hx hb dX1_handOutTickets_43 (by decide) ?_
        exact tX1_handOutTickets_44 C a0 h0 ih _ _ _ _ _ _ _ _ (kS_cart h0 (vp_lt g2)) hM hS (lv_sub hl [1, 2, 3, 0] rfl) heq
      · have heq := if_t c6 heq
        refine lv_iconst (v := 1) hx hb dX1_handOutTickets_39 (by decide) ?_
        refine lv_goto (tgt := 44) hx hb dX1_handOutTickets_40 (by decide) ?_
        exact tX1_handOutTickets_44 C a0 h0 ih _ _ _ _ _ _ _ _ (kS_cart h0 (vp_lt g2)) hM hS (lv_sub hl [1, 2, 3, 0] rfl) heq

set_option maxRecDepth 100000 in
set_option maxHeartbeats 4000000 in
theorem tX1_handOutTickets (l : Launch) (G : mm_G) (M : mm_M) (a0 : Nat) (h0 : kT a0 = (4, 0)) (r : Int32) (M9 : mm_M) (heq : fX1_handOutTickets M a0 = some (r, M9)) : Met l yX1_handOutTickets (mm_ws yX1_handOutTickets cX1_handOutTickets 5 (some .int)) rmX1_handOutTickets (va_Pc [.ref (mm_lo G + a0)] (mm_B G (kR, 740, M))) (mm_Qi G r (kR, 740, M9)) 0 0 (mm_A G) := by
  refine mm_met (cc := cX1_handOutTickets) (nL := 5) (ret := (some .int)) plRX1 (Nat.le_of_ble_eq_true rfl) ?_
  intro p e s m below meth c ls hin C hM hS hl
  have C : mm_C G p s m _ meth c RX1 cX1_handOutTickets 5 (some .int) := C
  have hM : mm_P G kR 740 M s.heap := hM
  have hl : lv_has ls 5 [(0, .ref (mm_lo G + a0))] := hl
  obtain ⟨hx, hb, -, -, -, -, -, -, hZ, -⟩ := id C
  rw [fX1_handOutTickets] at heq
  refine lv_iconst (v := 0) hx hb dX1_handOutTickets_0 (by decide) ?_
  refine lv_istore_n (lv' := [(1, .int 0), (0, .ref (mm_lo G + a0))]) hx hb dX1_handOutTickets_1 rfl hl (by decide) rfl (fun ls hl => ?_)
  refine lv_iconst (v := 0) hx hb dX1_handOutTickets_2 (by decide) ?_
  refine lv_istore_n (lv' := [(2, .int 0), (1, .int 0), (0, .ref (mm_lo G + a0))]) hx hb dX1_handOutTickets_3 rfl hl (by decide) rfl (fun ls hl => ?_)
  exact tX1_handOutTickets_4 C a0 h0 FU _ _ _ _ _ _ hM hS (lv_sub hl [2, 1, 0] rfl) heq

set_option maxRecDepth 100000 in
set_option maxHeartbeats 4000000 in
theorem tX1_holderOfTicket_4 (C : mm_C G p s m args meth c RX1 cX1_holderOfTicket 4 (some .int)) (a0 : Nat) (h0 : kT a0 = (4, 0)) (x1 : Int32) (M : mm_M) {r : Int32} : ∀ n : Nat, ∀ (v2 : Int32) (v3 : Int32) (H : Heap) (locs : List Loc) (ls : Array Slot), mm_P G kR 740 M H → va_S (mm_A G) s.heap H locs → lv_has ls 4 [(0, .ref (mm_lo G + a0)), (1, .int x1), (2, .int v2), (3, .int v3)] → fX1_holderOfTicket_4 a0 x1 M n v2 v3 = some r → W p l e rmX1_holderOfTicket s m args below meth c H locs 0 0 (MQ below (mm_Qi G r (kR, 740, M)) args s 0 0 (mm_A G)) (F0 m 4 ls []) := by
  obtain ⟨hx, hb, -, -, -, -, -, -, hZ, -⟩ := id C
  intro n
  induction n with
  | zero =>
    intro v2 v3 H locs ls hM hS hl heq
    rw [fX1_holderOfTicket_4] at heq
    cases heq
  | succ n ih =>
    intro v2 v3 H locs ls hM hS hl heq
    rw [fX1_holderOfTicket_4] at heq
    refine lv_iload_n hx hb dX1_holderOfTicket_4 rfl (lv_at hl 3 rfl) ?_
    refine lv_aload_n hx hb dX1_holderOfTicket_5 rfl (lv_at hl 0 rfl) ?_
    refine gX1_34 C hM (kl h0) h0 dX1_holderOfTicket_6 ?_
    refine lv_icmp_ge (tgt := 34) hx hb dX1_holderOfTicket_9 (by decide) (fun c1 => ?_) (fun c1 => ?_)
    · have heq := if_t c1 heq
      refine lv_bipush (v := (-6)) hx hb dX1_holderOfTicket_34 (by decide) ?_
      cases heq
      exact mm_iret C hM hS dX1_holderOfTicket_36
    · have heq := if_f c1 heq
      refine lv_iload_n hx hb dX1_holderOfTicket_12 rfl (lv_at hl 2 rfl) ?_
      refine lv_aload_n hx hb dX1_holderOfTicket_13 rfl (lv_at hl 0 rfl) ?_
      refine gX1_75 C hM (kl h0) h0 (rS_12 h0) dX1_holderOfTicket_14 ?_
      refine lv_iload_n hx hb dX1_holderOfTicket_17 rfl (lv_at hl 3 rfl) ?_
      obtain ⟨g2, heq⟩ := gd_of heq
      refine mm_ildk C hM (kl (kS_12 h0)) (kS_12 h0) (vp_in_of2 g2) rfl dX1_holderOfTicket_18 ?_
      refine lv_iadd hx hb dX1_holderOfTicket_19 ?_
      refine lv_topi (fun y3 ey3 => ?_)
      have heq := lt_to ey3 heq
      refine lv_istore_n (lv' := [(2, .int y3), (0, .ref (mm_lo G + a0)), (1, .int x1), (3, .int v3)]) hx hb dX1_holderOfTicket_20 rfl hl (by decide) rfl (fun ls hl => ?_)
      refine lv_iload_n hx hb dX1_holderOfTicket_21 rfl (lv_at hl 2 rfl) ?_
      refine lv_iload_n hx hb dX1_holderOfTicket_22 rfl (lv_at hl 0 rfl) ?_
      refine lv_icmp_ge (tgt := 28) hx hb dX1_holderOfTicket_23 (by decide) (fun c4 => ?_) (fun c4 => ?_)
      · have heq := if_t c4 heq
        obtain ⟨y5, ey5⟩ : ∃ y : Int32, y = (v3 + 1) := ⟨_, rfl⟩
        have heq := lt_to ey5 heq
        refine lv_iinc (v := y5) (lv' := [(3, .int y5), (2, .int y3), (0, .ref (mm_lo G + a0)), (1, .int x1)]) hx hb dX1_holderOfTicket_28 hl (k := 3) rfl (by rw [ey5]; rfl) (by decide) rfl (fun ls hl => ?_)
        refine lv_goto (tgt := 4) hx hb dX1_holderOfTicket_31 (by decide) ?_
        exact ih _ _ _ _ _ hM hS (lv_sub hl [2, 3, 1, 0] rfl) heq
      · have heq := if_f c4 heq
        refine lv_iload_n hx hb dX1_holderOfTicket_26 rfl (lv_at hl 3 rfl) ?_
        cases heq
        exact mm_iret C hM hS dX1_holderOfTicket_27

set_option maxRecDepth 100000 in
set_option maxHeartbeats 4000000 in
theorem tX1_holderOfTicket (l : Launch) (G : mm_G) (M : mm_M) (a0 : Nat) (h0 : kT a0 = (4, 0)) (x1 : Int32) (r : Int32) (heq : fX1_holderOfTicket M a0 x1 = some r) : Met l yX1_holderOfTicket (mm_ws yX1_holderOfTicket cX1_holderOfTicket 4 (some .int)) rmX1_holderOfTicket (va_Pc [.ref (mm_lo G + a0), .int x1] (mm_B G (kR, 740, M))) (mm_Qi G r (kR, 740, M)) 0 0 (mm_A G) := by
  refine mm_met (cc := cX1_holderOfTicket) (nL := 4) (ret := (some .int)) plRX1 (Nat.le_of_ble_eq_true rfl) ?_
  intro p e s m below meth c ls hin C hM hS hl
  have C : mm_C G p s m _ meth c RX1 cX1_holderOfTicket 4 (some .int) := C
  have hM : mm_P G kR 740 M s.heap := hM
  have hl : lv_has ls 4 [(0, .ref (mm_lo G + a0)), (1, .int x1)] := hl
  obtain ⟨hx, hb, -, -, -, -, -, -, hZ, -⟩ := id C
  rw [fX1_holderOfTicket] at heq
  refine lv_iconst (v := 0) hx hb dX1_holderOfTicket_0 (by decide) ?_
  refine lv_istore_n (lv' := [(2, .int 0), (0, .ref (mm_lo G + a0)), (1, .int x1)]) hx hb dX1_holderOfTicket_1 rfl hl (by decide) rfl (fun ls hl => ?_)
  refine lv_iconst (v := 0) hx hb dX1_holderOfTicket_2 (by decide) ?_
  refine lv_istore_n (lv' := [(3, .int 0), (2, .int 0), (0, .ref (mm_lo G + a0)), (1, .int x1)]) hx hb dX1_holderOfTicket_3 rfl hl (by decide) rfl (fun ls hl => ?_)
  exact tX1_holderOfTicket_4 C a0 h0 x1 M FU _ _ _ _ _ hM hS (lv_sub hl [2, 3, 1, 0] rfl) heq

set_option maxRecDepth 100000 in
set_option maxHeartbeats 4000000 in
theorem tX1_drawLots_12 (C : mm_C G p s m args meth c RX1 cX1_drawLots 4 none) (a0 : Nat) (h0 : kT a0 = (4, 0)) {M9 : mm_M} : ∀ n : Nat, ∀ (M : mm_M) (v1 : Int32) (v2 : Int32) (H : Heap) (locs : List Loc) (ls : Array Slot), mm_P G kR 740 M H → va_S (mm_A G) s.heap H locs → lv_has ls 4 [(0, .ref (mm_lo G + a0)), (1, .int v1), (2, .int v2)] → fX1_drawLots_12 a0 n M v1 v2 = some M9 → W p l e rmX1_drawLots s m args below meth c H locs 0 0 (MQ below (mm_Qv G (kR, 740, M9)) args s 0 0 (mm_A G)) (F0 m 12 ls []) := by
  obtain ⟨hx, hb, -, -, -, -, -, -, hZ, -⟩ := id C
  intro n
  induction n with
  | zero =>
    intro M v1 v2 H locs ls hM hS hl heq
    rw [fX1_drawLots_12] at heq
    cases heq
  | succ n ih =>
    intro M v1 v2 H locs ls hM hS hl heq
    rw [fX1_drawLots_12] at heq
    refine lv_iload_n hx hb dX1_drawLots_12 rfl (lv_at hl 1 rfl) ?_
    refine lv_if_le (tgt := 112) hx hb dX1_drawLots_13 (by decide) (fun c1 => ?_) (fun c1 => ?_)
    · have heq := if_t c1 heq
      cases heq
      exact mm_vret C hM hS dX1_drawLots_112
    · have heq := if_f c1 heq
      refine lv_iload_n hx hb dX1_drawLots_16 rfl (lv_at hl 2 rfl) ?_
      refine lv_aload_n hx hb dX1_drawLots_17 rfl (lv_at hl 0 rfl) ?_
      refine gX1_34 C hM (kl h0) h0 dX1_drawLots_18 ?_
      refine lv_icmp_ge (tgt := 112) hx hb dX1_drawLots_21 (by decide) (fun c2 => ?_) (fun c2 => ?_)
      · have heq := if_t c2 heq
        cases heq
        exact mm_vret C hM hS dX1_drawLots_112
      · have heq := if_f c2 heq
        refine lv_aload_n hx hb dX1_drawLots_24 rfl (lv_at hl 0 rfl) ?_
        refine lv_bipush (v := 75) hx hb dX1_drawLots_25 (by decide) ?_
        refine lv_aload_n hx hb dX1_drawLots_27 rfl (lv_at hl 0 rfl) ?_
        refine gX1_63 C hM (kl h0) h0 dX1_drawLots_28 ?_
        refine lv_imul hx hb dX1_drawLots_31 ?_
        refine lv_bipush (v := 74) hx hb dX1_drawLots_32 (by decide) ?_
        refine lv_iadd hx hb dX1_drawLots_34 ?_
        refine mm_ldc C kX1_66 dX1_drawLots_35 ?_
        refine lv_irem hx hb dX1_drawLots_37 (by decide) ?_
        refine pX1_63 C hM hS (kl h0) h0 dX1_drawLots_38 (fun H locs hM hS _ => ?_)
        obtain ⟨M3, eM3⟩ : ∃ z : mm_M, z = sI M a0 1 (((75 * (M.1 a0 1)) + 74) - ((75 * (M.1 a0 1)) + 74) / 65537 * 65537) := ⟨_, rfl⟩
        rw [← eM3] at hM
        have heq := lt_to eM3 heq
        refine lv_aload_n hx hb dX1_drawLots_41 rfl (lv_at hl 0 rfl) ?_
        refine lv_aload_n hx hb dX1_drawLots_42 rfl (lv_at hl 0 rfl) ?_
        refine gX1_63 C hM (kl h0) h0 dX1_drawLots_43 ?_
        refine lv_iload_n hx hb dX1_drawLots_46 rfl (lv_at hl 1 rfl) ?_
        obtain ⟨g4, heq⟩ := gd_of heq
        refine lv_irem hx hb dX1_drawLots_47 g4 ?_
        obtain ⟨r6, e5, heq⟩ := bn_of heq
        refine mm_ki hS (mm_runS (rest := []) C hM hS (tX1_holderOfTicket l G M3 a0 h0 ((M3.1 a0 1) - (M3.1 a0 1) / v1 * v1) r6 e5) (uX1_67 _ (Nat.le_of_ble_eq_true rfl) (Nat.le_of_ble_eq_true rfl)) hl.1 rfl rfl (Nat.le_of_ble_eq_true rfl) ⟨Nat.zero_le _, Nat.zero_le _⟩ dX1_drawLots_48) (fun H locs hM hS => ?_)
        have hM : mm_P G kR 740 M3 H := hM
        refine lv_istore_n (lv' := [(3, .int r6), (0, .ref (mm_lo G + a0)), (1, .int v1), (2, .int v2)]) hx hb dX1_drawLots_51 rfl hl (by decide) rfl (fun ls hl => ?_)
        refine lv_aload_n hx hb dX1_drawLots_52 rfl (lv_at hl 1 rfl) ?_
        refine lv_iload_n hx hb dX1_drawLots_53 rfl (lv_at hl 0 rfl) ?_
        obtain ⟨r8, e7, heq⟩ := bn_of heq
        refine mm_ki hS (mm_runV (rest := []) C hM hS (tX5_hasCart l G M3 a0 h0 r6 r8 e7) (uX1_71 _ (Nat.le_of_ble_eq_true rfl) (Nat.le_of_ble_eq_true rfl)) (mm_recv C hM (kl h0) (ci := 4) rfl (mm_e4 h0)) hl.1 rfl rfl (Nat.le_of_ble_eq_true rfl) ⟨Nat.zero_le _, Nat.zero_le _⟩ dX1_drawLots_54) (fun H locs hM hS => ?_)
        have hM : mm_P G kR 740 M3 H := hM
        refine mm_ifneZ (tgt := 61) C dX1_drawLots_57 (by decide) (fun c9 => ?_) (fun c9 => ?_)
        · have heq := if_t c9 heq
          refine lv_iload_n hx hb dX1_drawLots_61 rfl (lv_at hl 2 rfl) ?_
          refine lv_aload_n hx hb dX1_drawLots_62 rfl (lv_at hl 1 rfl) ?_
          refine gX1_75 C hM (kl h0) h0 (rS_12 h0) dX1_drawLots_63 ?_
          refine lv_iload_n hx hb dX1_drawLots_66 rfl (lv_at hl 0 rfl) ?_
          obtain ⟨g10, heq⟩ := gd_of heq
          refine mm_ildk C hM (kl (kS_12 h0)) (kS_12 h0) (vp_in_of2 g10) rfl dX1_drawLots_67 ?_
          refine lv_isub hx hb dX1_drawLots_68 ?_
          refine lv_topi (fun y11 ey11 => ?_)
          have heq := lt_to ey11 heq
          refine lv_istore_n (lv' := [(1, .int y11), (3, .int r6), (0, .ref (mm_lo G + a0)), (2, .int v2)]) hx hb dX1_drawLots_69 rfl hl (by decide) rfl (fun ls hl => ?_)
          refine lv_aload_n hx hb dX1_drawLots_70 rfl (lv_at hl 2 rfl) ?_
          refine gX1_75 C hM (kl h0) h0 (rS_12 h0) dX1_drawLots_71 ?_
          refine lv_iload_n hx hb dX1_drawLots_74 rfl (lv_at hl 1 rfl) ?_
          refine lv_iconst (v := 0) hx hb dX1_drawLots_75 (by decide) ?_
          refine mm_istk C hM hS (kl (kS_12 h0)) (kS_12 h0) (vp_in_of2 g10) rfl dX1_drawLots_76 (fun H locs hM hS _ => ?_)
          obtain ⟨M12, eM12⟩ : ∃ z : mm_M, z = sI M3 (a0 + 6) r6.toNatClampNeg 0 := ⟨_, rfl⟩
          rw [← eM12] at hM
          have heq := lt_to eM12 heq
          refine lv_aload_n hx hb dX1_drawLots_77 rfl (lv_at hl 2 rfl) ?_
          refine gX1_78 C hM (kl h0) h0 (rS_13 h0) dX1_drawLots_78 ?_
          refine lv_iload_n hx hb dX1_drawLots_81 rfl (lv_at hl 3 rfl) ?_
          refine lv_iload_n hx hb dX1_drawLots_82 rfl (lv_at hl 1 rfl) ?_
          obtain ⟨g13, heq⟩ := gd_of heq
          refine mm_istk C hM hS (kl (kS_13 h0)) (kS_13 h0) (vp_in_of2 g13) rfl dX1_drawLots_83 (fun H locs hM hS _ => ?_)
          obtain ⟨M14, eM14⟩ : ∃ z : mm_M, z = sI M12 (a0 + 7) v2.toNatClampNeg r6 := ⟨_, rfl⟩
          rw [← eM14] at hM
          have heq := lt_to eM14 heq
          refine lv_aload_n hx hb dX1_drawLots_84 rfl (lv_at hl 2 rfl) ?_
          refine lv_iload_n hx hb dX1_drawLots_85 rfl (lv_at hl 3 rfl) ?_
          refine lv_iconst (v := 1) hx hb dX1_drawLots_86 (by decide) ?_
          refine lv_iadd hx hb dX1_drawLots_87 ?_
          refine pX1_60 C hM hS (kl h0) h0 dX1_drawLots_88 (fun H locs hM hS _ => ?_)
          obtain ⟨M15, eM15⟩ : ∃ z : mm_M, z = sI M14 a0 14 (v2 + 1) := ⟨_, rfl⟩
          rw [← eM15] at hM
          have heq := lt_to eM15 heq
          refine lv_aload_n hx hb dX1_drawLots_91 rfl (lv_at hl 2 rfl) ?_
          refine gX1_37 C hM (kl h0) h0 (rS_9 h0) dX1_drawLots_92 ?_
          refine lv_iload_n hx hb dX1_drawLots_95 rfl (lv_at hl 1 rfl) ?_
          refine mm_ald C hM (kl (kS_9 h0)) (Or.inl rfl) (kS_9 h0) (vp_in_of2 g10) (rS_cart h0 (vp_lt g10)) dX1_drawLots_96 ?_
          refine lv_iload_n hx hb dX1_drawLots_97 rfl (lv_at hl 3 rfl) ?_
          refine pX1_81 C hM hS (kl (kS_cart h0 (vp_lt g10))) (kS_cart h0 (vp_lt g10)) dX1_drawLots_98 (fun H locs hM hS _ => ?_)
          obtain ⟨M16, eM16⟩ : ∃ z : mm_M, z = sI M15 (a0 + 18 + 3 * r6.toNatClampNeg) 11 v2 := ⟨_, rfl⟩
          rw [← eM16] at hM
          have heq := lt_to eM16 heq
          refine lv_aload_n hx hb dX1_drawLots_101 rfl (lv_at hl 2 rfl) ?_
          refine lv_iload_n hx hb dX1_drawLots_102 rfl (lv_at hl 1 rfl) ?_
          obtain ⟨M18, e17, heq⟩ := bn_of heq
          refine mm_kv hS (mm_runS (rest := []) C hM hS (tX1_choosePitch l G M16 a0 h0 r6 M18 e17) (uX1_84 _ (Nat.le_of_ble_eq_true rfl) (Nat.le_of_ble_eq_true rfl)) hl.1 rfl rfl (Nat.le_of_ble_eq_true rfl) ⟨Nat.zero_le _, Nat.zero_le _⟩ dX1_drawLots_103) (fun H locs hM hS => ?_)
          have hM : mm_P G kR 740 M18 H := hM
          obtain ⟨y19, ey19⟩ : ∃ y : Int32, y = (v2 + 1) := ⟨_, rfl⟩
          have heq := lt_to ey19 heq
          refine lv_iinc (v := y19) (lv' := [(2, .int y19), (1, .int y11), (3, .int r6), (0, .ref (mm_lo G + a0))]) hx hb dX1_drawLots_106 hl (k := 3) rfl (by rw [ey19]; rfl) (by decide) rfl (fun ls hl => ?_)
          refine lv_goto (tgt := 12) hx hb dX1_drawLots_109 (by decide) ?_
          exact ih _ _ _ _ _ _ hM hS (lv_sub hl [3, 1, 0] rfl) heq
        · have heq := if_f c9 heq
          cases heq
          exact mm_vret C hM hS dX1_drawLots_60

set_option maxRecDepth 100000 in
set_option maxHeartbeats 4000000 in
theorem tX1_drawLots (l : Launch) (G : mm_G) (M : mm_M) (a0 : Nat) (h0 : kT a0 = (4, 0)) (M9 : mm_M) (heq : fX1_drawLots M a0 = some M9) : Met l yX1_drawLots (mm_ws yX1_drawLots cX1_drawLots 4 none) rmX1_drawLots (va_Pc [.ref (mm_lo G + a0)] (mm_B G (kR, 740, M))) (mm_Qv G (kR, 740, M9)) 0 0 (mm_A G) := by
  refine mm_met (cc := cX1_drawLots) (nL := 4) (ret := none) plRX1 (Nat.le_of_ble_eq_true rfl) ?_
  intro p e s m below meth c ls hin C hM hS hl
  have C : mm_C G p s m _ meth c RX1 cX1_drawLots 4 none := C
  have hM : mm_P G kR 740 M s.heap := hM
  have hl : lv_has ls 4 [(0, .ref (mm_lo G + a0))] := hl
  obtain ⟨hx, hb, -, -, -, -, -, -, hZ, -⟩ := id C
  rw [fX1_drawLots] at heq
  refine lv_aload_n hx hb dX1_drawLots_0 rfl (lv_at hl 0 rfl) ?_
  obtain ⟨r2, M3, e1, heq⟩ := bn2_of heq
  refine mm_ki hS (mm_runS (rest := []) C hM hS (tX1_handOutTickets l G M a0 h0 r2 M3 e1) (uX1_56 _ (Nat.le_of_ble_eq_true rfl) (Nat.le_of_ble_eq_true rfl)) hl.1 rfl rfl (Nat.le_of_ble_eq_true rfl) ⟨Nat.zero_le _, Nat.zero_le _⟩ dX1_drawLots_1) (fun H locs hM hS => ?_)
  have hM : mm_P G kR 740 M3 H := hM
  refine lv_istore_n (lv' := [(1, .int r2), (0, .ref (mm_lo G + a0))]) hx hb dX1_drawLots_4 rfl hl (by decide) rfl (fun ls hl => ?_)
  refine lv_aload_n hx hb dX1_drawLots_5 rfl (lv_at hl 1 rfl) ?_
  refine lv_iconst (v := 0) hx hb dX1_drawLots_6 (by decide) ?_
  refine pX1_60 C hM hS (kl h0) h0 dX1_drawLots_7 (fun H locs hM hS _ => ?_)
  obtain ⟨M4, eM4⟩ : ∃ z : mm_M, z = sI M3 a0 14 0 := ⟨_, rfl⟩
  rw [← eM4] at hM
  have heq := lt_to eM4 heq
  refine lv_iconst (v := 0) hx hb dX1_drawLots_10 (by decide) ?_
  refine lv_istore_n (lv' := [(2, .int 0), (1, .int r2), (0, .ref (mm_lo G + a0))]) hx hb dX1_drawLots_11 rfl hl (by decide) rfl (fun ls hl => ?_)
  exact tX1_drawLots_12 C a0 h0 FU _ _ _ _ _ _ hM hS (lv_sub hl [2, 1, 0] rfl) heq

set_option maxRecDepth 100000 in
set_option maxHeartbeats 4000000 in
theorem tX5_givePoints (l : Launch) (G : mm_G) (M : mm_M) (a0 : Nat) (h0 : kT a0 = (4, 0)) (a1 : Nat) (h1 : kT a1 = (0, 0)) (x2 : Int32) (r : Int32) (M9 : mm_M) (heq : fX5_givePoints M a0 a1 x2 = some (r, M9)) : Met l yX5_givePoints (mm_ws yX5_givePoints cX5_givePoints 4 (some .int)) rmX5_givePoints (va_Pc [.ref (mm_lo G + a0), .ref (mm_lo G + a1), .int x2] (mm_B G (kR, 740, M))) (mm_Qi G r (kR, 740, M9)) 0 0 (mm_A G) := by
  refine mm_met (cc := cX5_givePoints) (nL := 4) (ret := (some .int)) plRX5 (Nat.le_of_ble_eq_true rfl) ?_
  intro p e s m below meth c ls hin C hM hS hl
  have C : mm_C G p s m _ meth c RX5 cX5_givePoints 4 (some .int) := C
  have hM : mm_P G kR 740 M s.heap := hM
  have hl : lv_has ls 4 [(0, .ref (mm_lo G + a0)), (1, .ref (mm_lo G + a1)), (2, .int x2)] := hl
  obtain ⟨hx, hb, -, -, -, -, -, -, hZ, -⟩ := id C
  rw [fX5_givePoints] at heq
  refine lv_aload_n hx hb dX5_givePoints_0 rfl (lv_at hl 1 rfl) ?_
  refine lv_dup hx hb dX5_givePoints_1 rfl ?_
  refine gX5_113 C hM (kl h1) h1 dX5_givePoints_2 ?_
  refine lv_iload_n hx hb dX5_givePoints_5 rfl (lv_at hl 2 rfl) ?_
  refine lv_i2l hx hb dX5_givePoints_6 rfl ?_
  refine lv_aload_n hx hb dX5_givePoints_7 rfl (lv_at hl 0 rfl) ?_
  refine gX5_15 C hM (kl h0) h0 (rS_7 h0) dX5_givePoints_8 ?_
  refine lv_bipush (v := 6) hx hb dX5_givePoints_11 (by decide) ?_
  refine mm_ildk C hM (kl (kS_7 h0)) (kS_7 h0) (vp_in_of2 (by decide)) (by decide : (6 : Int32).toNatClampNeg = 6) dX5_givePoints_13 ?_
  refine lv_i2l hx hb dX5_givePoints_14 rfl ?_
  refine lv_lmul hx hb dX5_givePoints_15 ?_
  refine lv_ladd hx hb dX5_givePoints_16 ?_
  refine pX5_113 C hM hS (kl h1) h1 dX5_givePoints_17 (fun H locs hM hS _ => ?_)
  obtain ⟨M1, eM1⟩ : ∃ z : mm_M, z = sL M a1 14 ((M.2 a1 14) + ((x2.toInt64) * ((M.1 (a0 + 1) 6).toInt64))) := ⟨_, rfl⟩
  rw [← eM1] at hM
  have heq := lt_to eM1 heq
  refine lv_aload_n hx hb dX5_givePoints_20 rfl (lv_at hl 1 rfl) ?_
  refine lv_aload_n hx hb dX5_givePoints_21 rfl (lv_at hl 0 rfl) ?_
  refine gX5_48 C hM (kl h0) h0 dX5_givePoints_22 ?_
  refine lv_iload_n hx hb dX5_givePoints_25 rfl (lv_at hl 2 rfl) ?_
  obtain ⟨M3, e2, heq⟩ := bn_of heq
  refine mm_kv hS (mm_runV (rest := []) C hM hS (tX0_addPoints l G M1 a1 h1 (M1.1 a0 0) x2 M3 e2) (uX5_117 _ (Nat.le_of_ble_eq_true rfl) (Nat.le_of_ble_eq_true rfl)) (mm_recv C hM (kl h1) (ci := 0) rfl (mm_e0 h1)) hl.1 rfl rfl (Nat.le_of_ble_eq_true rfl) ⟨Nat.zero_le _, Nat.zero_le _⟩ dX5_givePoints_26) (fun H locs hM hS => ?_)
  have hM : mm_P G kR 740 M3 H := hM
  refine lv_aload_n hx hb dX5_givePoints_29 rfl (lv_at hl 1 rfl) ?_
  refine lv_aload_n hx hb dX5_givePoints_30 rfl (lv_at hl 0 rfl) ?_
  refine gX5_48 C hM (kl h0) h0 dX5_givePoints_31 ?_
  refine lv_aload_n hx hb dX5_givePoints_34 rfl (lv_at hl 0 rfl) ?_
  refine gX5_48 C hM (kl h0) h0 dX5_givePoints_35 ?_
  refine lv_aload_n hx hb dX5_givePoints_38 rfl (lv_at hl 0 rfl) ?_
  refine gX5_15 C hM (kl h0) h0 (rS_7 h0) dX5_givePoints_39 ?_
  refine lv_iconst (v := 5) hx hb dX5_givePoints_42 (by decide) ?_
  refine mm_ildk C hM (kl (kS_7 h0)) (kS_7 h0) (vp_in_of2 (by decide)) (by decide : (5 : Int32).toNatClampNeg = 5) dX5_givePoints_43 ?_
  obtain ⟨r5, e4, heq⟩ := bn_of heq
  refine mm_ki hS (mm_runV (rest := []) C hM hS (tX0_pointsLeft l G M3 a1 h1 (M3.1 a0 0) (M3.1 a0 0) (M3.1 (a0 + 1) 5) r5 e4) (uX5_121 _ (Nat.le_of_ble_eq_true rfl) (Nat.le_of_ble_eq_true rfl)) (mm_recv C hM (kl h1) (ci := 0) rfl (mm_e0 h1)) hl.1 rfl rfl (Nat.le_of_ble_eq_true rfl) ⟨Nat.zero_le _, Nat.zero_le _⟩ dX5_givePoints_44) (fun H locs hM hS => ?_)
  have hM : mm_P G kR 740 M3 H := hM
  refine lv_istore_n (lv' := [(3, .int r5), (0, .ref (mm_lo G + a0)), (1, .ref (mm_lo G + a1)), (2, .int x2)]) hx hb dX5_givePoints_47 rfl hl (by decide) rfl (fun ls hl => ?_)
  refine lv_iload_n hx hb dX5_givePoints_48 rfl (lv_at hl 0 rfl) ?_
  refine lv_aload_n hx hb dX5_givePoints_49 rfl (lv_at hl 1 rfl) ?_
  refine gX5_15 C hM (kl h0) h0 (rS_7 h0) dX5_givePoints_50 ?_
  refine lv_iconst (v := 3) hx hb dX5_givePoints_53 (by decide) ?_
  refine mm_ildk C hM (kl (kS_7 h0)) (kS_7 h0) (vp_in_of2 (by decide)) (by decide : (3 : Int32).toNatClampNeg = 3) dX5_givePoints_54 ?_
  refine lv_icmp_ge (tgt := 60) hx hb dX5_givePoints_55 (by decide) (fun c6 => ?_) (fun c6 => ?_)
  · have heq := if_t c6 heq
    refine lv_aload_n hx hb dX5_givePoints_60 rfl (lv_at hl 2 rfl) ?_
    refine lv_aload_n hx hb dX5_givePoints_61 rfl (lv_at hl 1 rfl) ?_
    refine gX5_48 C hM (kl h0) h0 dX5_givePoints_62 ?_
    refine lv_aload_n hx hb dX5_givePoints_65 rfl (lv_at hl 1 rfl) ?_
    refine gX5_15 C hM (kl h0) h0 (rS_7 h0) dX5_givePoints_66 ?_
    refine lv_iconst (v := 4) hx hb dX5_givePoints_69 (by decide) ?_
    refine mm_ildk C hM (kl (kS_7 h0)) (kS_7 h0) (vp_in_of2 (by decide)) (by decide : (4 : Int32).toNatClampNeg = 4) dX5_givePoints_70 ?_
    refine lv_iadd hx hb dX5_givePoints_71 ?_
    refine pX5_125 C hM hS (kl h1) h1 dX5_givePoints_72 (fun H locs hM hS _ => ?_)
    obtain ⟨M7, eM7⟩ : ∃ z : mm_M, z = sI M3 a1 6 ((M3.1 a0 0) + (M3.1 (a0 + 1) 4)) := ⟨_, rfl⟩
    rw [← eM7] at hM
    have heq := lt_to eM7 heq
    refine lv_aload_n hx hb dX5_givePoints_75 rfl (lv_at hl 2 rfl) ?_
    obtain ⟨M9, e8, heq⟩ := bn_of heq
    refine mm_kv hS (mm_runV (rest := []) C hM hS (tX0_dropAllPoints l G M7 a1 h1 M9 e8) (uX5_128 _ (Nat.le_of_ble_eq_true rfl) (Nat.le_of_ble_eq_true rfl)) (mm_recv C hM (kl h1) (ci := 0) rfl (mm_e0 h1)) hl.1 rfl rfl (Nat.le_of_ble_eq_true rfl) ⟨Nat.zero_le _, Nat.zero_le _⟩ dX5_givePoints_76) (fun H locs hM hS => ?_)
    have hM : mm_P G kR 740 M9 H := hM
    refine lv_iconst (v := 0) hx hb dX5_givePoints_79 (by decide) ?_
    cases heq
    exact mm_iret C hM hS dX5_givePoints_80
  · have heq := if_f c6 heq
    refine lv_iload_n hx hb dX5_givePoints_58 rfl (lv_at hl 0 rfl) ?_
    cases heq
    exact mm_iret C hM hS dX5_givePoints_59

set_option maxRecDepth 100000 in
set_option maxHeartbeats 4000000 in
theorem tX5_unseat (l : Launch) (G : mm_G) (M : mm_M) (a0 : Nat) (h0 : kT a0 = (4, 0)) (a1 : Nat) (h1 : kT a1 = (0, 0)) (M9 : mm_M) (heq : fX5_unseat M a0 a1 = some M9) : Met l yX5_unseat (mm_ws yX5_unseat cX5_unseat 2 none) rmX5_unseat (va_Pc [.ref (mm_lo G + a0), .ref (mm_lo G + a1)] (mm_B G (kR, 740, M))) (mm_Qv G (kR, 740, M9)) 0 0 (mm_A G) := by
  refine mm_met (cc := cX5_unseat) (nL := 2) (ret := none) plRX5 (Nat.le_of_ble_eq_true rfl) ?_
  intro p e s m below meth c ls hin C hM hS hl
  have C : mm_C G p s m _ meth c RX5 cX5_unseat 2 none := C
  have hM : mm_P G kR 740 M s.heap := hM
  have hl : lv_has ls 2 [(0, .ref (mm_lo G + a0)), (1, .ref (mm_lo G + a1))] := hl
  obtain ⟨hx, hb, -, -, -, -, -, -, hZ, -⟩ := id C
  rw [fX5_unseat] at heq
  refine lv_aload_n hx hb dX5_unseat_0 rfl (lv_at hl 0 rfl) ?_
  refine lv_aload_n hx hb dX5_unseat_1 rfl (lv_at hl 1 rfl) ?_
  refine gX5_174 C hM (kl h1) h1 dX5_unseat_2 ?_
  obtain ⟨r2, e1, heq⟩ := bn_of heq
  refine mm_ki hS (mm_runV (rest := []) C hM hS (tX5_hasPitch l G M a0 h0 (M.1 a1 8) r2 e1) (uX5_87 _ (Nat.le_of_ble_eq_true rfl) (Nat.le_of_ble_eq_true rfl)) (mm_recv C hM (kl h0) (ci := 4) rfl (mm_e4 h0)) hl.1 rfl rfl (Nat.le_of_ble_eq_true rfl) ⟨Nat.zero_le _, Nat.zero_le _⟩ dX5_unseat_5) (fun H locs hM hS => ?_)
  have hM : mm_P G kR 740 M H := hM
  refine mm_ifeqZ (tgt := 25) C dX5_unseat_8 (by decide) (fun c3 => ?_) (fun c3 => ?_)
  · have heq := if_f c3 heq
    refine lv_aload_n hx hb dX5_unseat_25 rfl (lv_at hl 1 rfl) ?_
    refine lv_bipush (v := (-6)) hx hb dX5_unseat_26 (by decide) ?_
    refine pX5_174 C hM hS (kl h1) h1 dX5_unseat_28 (fun H locs hM hS _ => ?_)
    obtain ⟨M4, eM4⟩ : ∃ z : mm_M, z = sI M a1 8 (-6) := ⟨_, rfl⟩
    rw [← eM4] at hM
    have heq := lt_to eM4 heq
    cases heq
    exact mm_vret C hM hS dX5_unseat_31
  · have heq := if_t c3 heq
    refine lv_aload_n hx hb dX5_unseat_11 rfl (lv_at hl 0 rfl) ?_
    refine gX5_21 C hM (kl h0) h0 (rS_8 h0) dX5_unseat_12 ?_
    refine lv_aload_n hx hb dX5_unseat_15 rfl (lv_at hl 1 rfl) ?_
    refine gX5_174 C hM (kl h1) h1 dX5_unseat_16 ?_
    obtain ⟨g5, heq⟩ := gd_of heq
    refine mm_ald C hM (kl (kS_8 h0)) (Or.inr (Or.inl rfl)) (kS_8 h0) (vp_in_of2 g5) (rS_pitch h0 (vp_lt g5)) dX5_unseat_19 ?_
    refine lv_bipush (v := (-6)) hx hb dX5_unseat_20 (by decide) ?_
    refine pX5_177 C hM hS (kl (kS_pitch h0 (vp_lt g5))) (kS_pitch h0 (vp_lt g5)) dX5_unseat_22 (fun H locs hM hS _ => ?_)
    obtain ⟨M6, eM6⟩ : ∃ z : mm_M, z = sI M (a0 + 8 + (M.1 a1 8).toNatClampNeg) 3 (-6) := ⟨_, rfl⟩
    rw [← eM6] at hM
    have heq := lt_to eM6 heq
    refine lv_aload_n hx hb dX5_unseat_25 rfl (lv_at hl 1 rfl) ?_
    refine lv_bipush (v := (-6)) hx hb dX5_unseat_26 (by decide) ?_
    refine pX5_174 C hM hS (kl h1) h1 dX5_unseat_28 (fun H locs hM hS _ => ?_)
    obtain ⟨M7, eM7⟩ : ∃ z : mm_M, z = sI M6 a1 8 (-6) := ⟨_, rfl⟩
    rw [← eM7] at hM
    have heq := lt_to eM7 heq
    cases heq
    exact mm_vret C hM hS dX5_unseat_31

set_option maxRecDepth 100000 in
set_option maxHeartbeats 4000000 in
theorem tX1_shareKitchens_6 (C : mm_C G p s m args meth c RX1 cX1_shareKitchens 7 none) (a0 : Nat) (h0 : kT a0 = (4, 0)) {M9 : mm_M} : ∀ n : Nat, ∀ (M : mm_M) (v1 : Int32) (v2 : Int32) (v3 : Int32) (H : Heap) (locs : List Loc) (ls : Array Slot), mm_P G kR 740 M H → va_S (mm_A G) s.heap H locs → lv_has ls 7 [(0, .ref (mm_lo G + a0)), (1, .int v1), (2, .int v2), (3, .int v3)] → fX1_shareKitchens_6 a0 n M v1 v2 v3 = some M9 → W p l e rmX1_shareKitchens s m args below meth c H locs 0 0 (MQ below (mm_Qv G (kR, 740, M9)) args s 0 0 (mm_A G)) (F0 m 6 ls []) := by
  obtain ⟨hx, hb, -, -, -, -, -, -, hZ, -⟩ := id C
  intro n
  induction n with
  | zero =>
    intro M v1 v2 v3 H locs ls hM hS hl heq
    rw [fX1_shareKitchens_6] at heq
    cases heq
  | succ n ih =>
    intro M v1 v2 v3 H locs ls hM hS hl heq
    rw [fX1_shareKitchens_6] at heq
    refine lv_iload_n hx hb dX1_shareKitchens_6 rfl (lv_at hl 3 rfl) ?_
    refine lv_aload_n hx hb dX1_shareKitchens_7 rfl (lv_at hl 0 rfl) ?_
    refine gX1_60 C hM (kl h0) h0 dX1_shareKitchens_8 ?_
    refine lv_icmp_ge (tgt := 160) hx hb dX1_shareKitchens_11 (by decide) (fun c1 => ?_) (fun c1 => ?_)
    · have heq := if_t c1 heq
      cases heq
      exact mm_vret C hM hS dX1_shareKitchens_160
    · have heq := if_f c1 heq
      refine lv_aload_n hx hb dX1_shareKitchens_14 rfl (lv_at hl 0 rfl) ?_
      refine gX1_78 C hM (kl h0) h0 (rS_13 h0) dX1_shareKitchens_15 ?_
      refine lv_iload_n hx hb dX1_shareKitchens_18 rfl (lv_at hl 3 rfl) ?_
      obtain ⟨g2, heq⟩ := gd_of heq
      refine mm_ildk C hM (kl (kS_13 h0)) (kS_13 h0) (vp_in_of2 g2) rfl dX1_shareKitchens_19 ?_
      refine lv_topi (fun y3 ey3 => ?_)
      have heq := lt_to ey3 heq
      refine lv_istore (lv' := [(4, .int y3), (0, .ref (mm_lo G + a0)), (1, .int v1), (2, .int v2), (3, .int v3)]) hx hb dX1_shareKitchens_20 hl (by decide) rfl (fun ls hl => ?_)
      refine lv_aload_n hx hb dX1_shareKitchens_22 rfl (lv_at hl 1 rfl) ?_
      refine lv_iload hx hb dX1_shareKitchens_23 (lv_at hl 0 rfl) ?_
      obtain ⟨r5, e4, heq⟩ := bn_of heq
      refine mm_ki hS (mm_runV (rest := []) C hM hS (tX5_hasCart l G M a0 h0 y3 r5 e4) (uX1_71 _ (Nat.le_of_ble_eq_true rfl) (Nat.le_of_ble_eq_true rfl)) (mm_recv C hM (kl h0) (ci := 4) rfl (mm_e4 h0)) hl.1 rfl rfl (Nat.le_of_ble_eq_true rfl) ⟨Nat.zero_le _, Nat.zero_le _⟩ dX1_shareKitchens_25) (fun H locs hM hS => ?_)
      have hM : mm_P G kR 740 M H := hM
      refine mm_ifeqZ (tgt := 154) C dX1_shareKitchens_28 (by decide) (fun c6 => ?_) (fun c6 => ?_)
      · have heq := if_f c6 heq
        obtain ⟨y7, ey7⟩ : ∃ y : Int32, y = (v3 + 1) := ⟨_, rfl⟩
        have heq := lt_to ey7 heq
        refine lv_iinc (v := y7) (lv' := [(3, .int y7), (4, .int y3), (0, .ref (mm_lo G + a0)), (1, .int v1), (2, .int v2)]) hx hb dX1_shareKitchens_154 hl (k := 4) rfl (by rw [ey7]; rfl) (by decide) rfl (fun ls hl => ?_)
        refine lv_goto (tgt := 6) hx hb dX1_shareKitchens_157 (by decide) ?_
        exact ih _ _ _ _ _ _ _ hM hS (lv_sub hl [2, 3, 4, 0] rfl) heq
      · have heq := if_t c6 heq
        refine lv_aload_n hx hb dX1_shareKitchens_31 rfl (lv_at hl 1 rfl) ?_
        refine gX1_37 C hM (kl h0) h0 (rS_9 h0) dX1_shareKitchens_32 ?_
        refine lv_iload hx hb dX1_shareKitchens_35 (lv_at hl 0 rfl) ?_
        obtain ⟨g8, heq⟩ := gd_of heq
        refine mm_ald C hM (kl (kS_9 h0)) (Or.inl rfl) (kS_9 h0) (vp_in_of2 g8) (rS_cart h0 (vp_lt g8)) dX1_shareKitchens_37 ?_
        refine gX1_121 C hM (kl (kS_cart h0 (vp_lt g8))) (kS_cart h0 (vp_lt g8)) dX1_shareKitchens_38 ?_
        refine lv_bipush (v := (-6)) hx hb dX1_shareKitchens_41 (by decide) ?_
        refine lv_icmp_ne (tgt := 49) hx hb dX1_shareKitchens_43 (by decide) (fun c9 => ?_) (fun c9 => ?_)
        · have heq := if_f c9 heq
          refine lv_aload_n hx hb dX1_shareKitchens_49 rfl (lv_at hl 1 rfl) ?_
          refine gX1_37 C hM (kl h0) h0 (rS_9 h0) dX1_shareKitchens_50 ?_
          refine lv_iload hx hb dX1_shareKitchens_53 (lv_at hl 0 rfl) ?_
          refine mm_ald C hM (kl (kS_9 h0)) (Or.inl rfl) (kS_9 h0) (vp_in_of2 g8) (rS_cart h0 (vp_lt g8)) dX1_shareKitchens_55 ?_
          refine lv_astore (lv' := [(5, .ref (mm_lo G + (a0 + 18 + 3 * y3.toNatClampNeg))), (4, .int y3), (0, .ref (mm_lo G + a0)), (1, .int v1), (2, .int v2), (3, .int v3)]) hx hb dX1_shareKitchens_56 hl (by decide) rfl (fun ls hl => ?_)
          refine lv_iload_n hx hb dX1_shareKitchens_58 rfl (lv_at hl 3 rfl) ?_
          refine lv_iload_n hx hb dX1_shareKitchens_59 rfl (lv_at hl 4 rfl) ?_
          refine mm_min C hl.1 mX1_98 wMin1 wMin2 wMin3 (Nat.le_of_ble_eq_true rfl) (Nat.le_of_ble_eq_true rfl) ⟨Nat.zero_le _, Nat.zero_le _⟩ dX1_shareKitchens_60 ?_
          refine lv_topi (fun y10 ey10 => ?_)
          have heq := lt_to ey10 heq
          refine lv_istore (lv' := [(6, .int y10), (5, .ref (mm_lo G + (a0 + 18 + 3 * y3.toNatClampNeg))), (4, .int y3), (0, .ref (mm_lo G + a0)), (1, .int v1), (2, .int v2), (3, .int v3)]) hx hb dX1_shareKitchens_63 hl (by decide) rfl (fun ls hl => ?_)
          refine lv_iload hx hb dX1_shareKitchens_65 (lv_at hl 0 rfl) ?_
          refine lv_aload hx hb dX1_shareKitchens_67 (lv_at hl 1 rfl) ?_
          refine gX1_124 C hM (kl (kS_cart h0 (vp_lt g8))) (kS_cart h0 (vp_lt g8)) dX1_shareKitchens_69 ?_
          refine lv_iadd hx hb dX1_shareKitchens_72 ?_
          refine lv_aload_n hx hb dX1_shareKitchens_73 rfl (lv_at hl 3 rfl) ?_
          refine gX1_9 C hM (kl h0) h0 (rS_7 h0) dX1_shareKitchens_74 ?_
          refine lv_bipush (v := 8) hx hb dX1_shareKitchens_77 (by decide) ?_
          refine mm_ildk C hM (kl (kS_7 h0)) (kS_7 h0) (vp_in_of2 (by decide)) (by decide : (8 : Int32).toNatClampNeg = 8) dX1_shareKitchens_79 ?_
          refine lv_icmp_le (tgt := 122) hx hb dX1_shareKitchens_80 (by decide) (fun c11 => ?_) (fun c11 => ?_)
          · have heq := if_t c11 heq
            refine lv_aload hx hb dX1_shareKitchens_122 (lv_at hl 1 rfl) ?_
            refine lv_iload hx hb dX1_shareKitchens_124 (lv_at hl 0 rfl) ?_
            refine pX1_135 C hM hS (kl (kS_cart h0 (vp_lt g8))) (kS_cart h0 (vp_lt g8)) dX1_shareKitchens_126 (fun H locs hM hS _ => ?_)
            obtain ⟨M12, eM12⟩ : ∃ z : mm_M, z = sI M (a0 + 18 + 3 * y3.toNatClampNeg) 9 y10 := ⟨_, rfl⟩
            rw [← eM12] at hM
            have heq := lt_to eM12 heq
            refine lv_iload hx hb dX1_shareKitchens_129 (lv_at hl 0 rfl) ?_
            refine lv_iload_n hx hb dX1_shareKitchens_131 rfl (lv_at hl 4 rfl) ?_
            refine lv_icmp_ne (tgt := 146) hx hb dX1_shareKitchens_132 (by decide) (fun c13 => ?_) (fun c13 => ?_)
            · have heq := if_f c13 heq
              refine lv_iload_n hx hb dX1_shareKitchens_146 rfl (lv_at hl 5 rfl) ?_
              refine lv_aload hx hb dX1_shareKitchens_147 (lv_at hl 1 rfl) ?_
              refine gX1_124 C hM (kl (kS_cart h0 (vp_lt g8))) (kS_cart h0 (vp_lt g8)) dX1_shareKitchens_149 ?_
              refine lv_iadd hx hb dX1_shareKitchens_152 ?_
              refine lv_topi (fun y14 ey14 => ?_)
              have heq := lt_to ey14 heq
              refine lv_istore_n (lv' := [(2, .int y14), (6, .int y10), (5, .ref (mm_lo G + (a0 + 18 + 3 * y3.toNatClampNeg))), (4, .int y3), (0, .ref (mm_lo G + a0)), (1, .int v1), (3, .int v3)]) hx hb dX1_shareKitchens_153 rfl hl (by decide) rfl (fun ls hl => ?_)
              obtain ⟨y15, ey15⟩ : ∃ y : Int32, y = (v3 + 1) := ⟨_, rfl⟩
              have heq := lt_to ey15 heq
              refine lv_iinc (v := y15) (lv' := [(3, .int y15), (2, .int y14), (6, .int y10), (5, .ref (mm_lo G + (a0 + 18 + 3 * y3.toNatClampNeg))), (4, .int y3), (0, .ref (mm_lo G + a0)), (1, .int v1)]) hx hb dX1_shareKitchens_154 hl (k := 6) rfl (by rw [ey15]; rfl) (by decide) rfl (fun ls hl => ?_)
              refine lv_goto (tgt := 6) hx hb dX1_shareKitchens_157 (by decide) ?_
              exact ih _ _ _ _ _ _ _ hM hS (lv_sub hl [5, 6, 1, 0] rfl) heq
            · have heq := if_t c13 heq
              refine lv_iload_n hx hb dX1_shareKitchens_135 rfl (lv_at hl 4 rfl) ?_
              refine lv_aload hx hb dX1_shareKitchens_136 (lv_at hl 1 rfl) ?_
              refine gX1_124 C hM (kl (kS_cart h0 (vp_lt g8))) (kS_cart h0 (vp_lt g8)) dX1_shareKitchens_138 ?_
              refine lv_iadd hx hb dX1_shareKitchens_141 ?_
              refine lv_topi (fun y16 ey16 => ?_)
              have heq := lt_to ey16 heq
              refine lv_istore_n (lv' := [(1, .int y16), (6, .int y10), (5, .ref (mm_lo G + (a0 + 18 + 3 * y3.toNatClampNeg))), (4, .int y3), (0, .ref (mm_lo G + a0)), (2, .int v2), (3, .int v3)]) hx hb dX1_shareKitchens_142 rfl hl (by decide) rfl (fun ls hl => ?_)
              refine lv_goto (tgt := 154) hx hb dX1_shareKitchens_143 (by decide) ?_
              obtain ⟨y17, ey17⟩ : ∃ y : Int32, y = (v3 + 1) := ⟨_, rfl⟩
              have heq := lt_to ey17 heq
              refine lv_iinc (v := y17) (lv' := [(3, .int y17), (1, .int y16), (6, .int y10), (5, .ref (mm_lo G + (a0 + 18 + 3 * y3.toNatClampNeg))), (4, .int y3), (0, .ref (mm_lo G + a0)), (2, .int v2)]) hx hb dX1_shareKitchens_154 hl (k := 6) rfl (by rw [ey17]; rfl) (by decide) rfl (fun ls hl => ?_)
              refine lv_goto (tgt := 6) hx hb dX1_shareKitchens_157 (by decide) ?_
              exact ih _ _ _ _ _ _ _ hM hS (lv_sub hl [5, 1, 6, 0] rfl) heq
          · have heq := if_f c11 heq
            refine lv_aload_n hx hb dX1_shareKitchens_83 rfl (lv_at hl 3 rfl) ?_
            refine lv_aload hx hb dX1_shareKitchens_84 (lv_at hl 1 rfl) ?_
            obtain ⟨M19, e18, heq⟩ := bn_of heq
            refine mm_kv hS (mm_runV (rest := []) C hM hS (tX5_unseat l G M a0 h0 (a0 + 18 + 3 * y3.toNatClampNeg) (kS_cart h0 (vp_lt g8)) M19 e18) (uX1_127 _ (Nat.le_of_ble_eq_true rfl) (Nat.le_of_ble_eq_true rfl)) (mm_recv C hM (kl h0) (ci := 4) rfl (mm_e4 h0)) hl.1 rfl rfl (Nat.le_of_ble_eq_true rfl) ⟨Nat.zero_le _, Nat.zero_le _⟩ dX1_shareKitchens_86) (fun H locs hM hS => ?_)
            have hM : mm_P G kR 740 M19 H := hM
            refine lv_aload hx hb dX1_shareKitchens_89 (lv_at hl 1 rfl) ?_
            refine lv_iconst (v := 5) hx hb dX1_shareKitchens_91 (by decide) ?_
            refine pX1_92 C hM hS (kl (kS_cart h0 (vp_lt g8))) (kS_cart h0 (vp_lt g8)) dX1_shareKitchens_92 (fun H locs hM hS _ => ?_)
            obtain ⟨M20, eM20⟩ : ∃ z : mm_M, z = sI M19 (a0 + 18 + 3 * y3.toNatClampNeg) 10 5 := ⟨_, rfl⟩
            rw [← eM20] at hM
            have heq := lt_to eM20 heq
            refine lv_aload_n hx hb dX1_shareKitchens_95 rfl (lv_at hl 3 rfl) ?_
            refine gX1_9 C hM (kl h0) h0 (rS_7 h0) dX1_shareKitchens_96 ?_
            refine lv_bipush (v := 7) hx hb dX1_shareKitchens_99 (by decide) ?_
            refine mm_ildk C hM (kl (kS_7 h0)) (kS_7 h0) (vp_in_of2 (by decide)) (by decide : (7 : Int32).toNatClampNeg = 7) dX1_shareKitchens_101 ?_
            refine lv_if_le (tgt := 154) hx hb dX1_shareKitchens_102 (by decide) (fun c21 => ?_) (fun c21 => ?_)
            · have heq := if_t c21 heq
              obtain ⟨y22, ey22⟩ : ∃ y : Int32, y = (v3 + 1) := ⟨_, rfl⟩
              have heq := lt_to ey22 heq
              refine lv_iinc (v := y22) (lv' := [(3, .int y22), (6, .int y10), (5, .ref (mm_lo G + (a0 + 18 + 3 * y3.toNatClampNeg))), (4, .int y3), (0, .ref (mm_lo G + a0)), (1, .int v1), (2, .int v2)]) hx hb dX1_shareKitchens_154 hl (k := 6) rfl (by rw [ey22]; rfl) (by decide) rfl (fun ls hl => ?_)
              refine lv_goto (tgt := 6) hx hb dX1_shareKitchens_157 (by decide) ?_
              exact ih _ _ _ _ _ _ _ hM hS (lv_sub hl [4, 5, 6, 0] rfl) heq
            · have heq := if_f c21 heq
              refine lv_aload_n hx hb dX1_shareKitchens_105 rfl (lv_at hl 3 rfl) ?_
              refine lv_aload hx hb dX1_shareKitchens_106 (lv_at hl 1 rfl) ?_
              refine lv_aload_n hx hb dX1_shareKitchens_108 rfl (lv_at hl 3 rfl) ?_
              refine gX1_9 C hM (kl h0) h0 (rS_7 h0) dX1_shareKitchens_109 ?_
              refine lv_bipush (v := 7) hx hb dX1_shareKitchens_112 (by decide) ?_
              refine mm_ildk C hM (kl (kS_7 h0)) (kS_7 h0) (vp_in_of2 (by decide)) (by decide : (7 : Int32).toNatClampNeg = 7) dX1_shareKitchens_114 ?_
              obtain ⟨r24, M25, e23, heq⟩ := bn2_of heq
              refine mm_ki hS (mm_runV (rest := []) C hM hS (tX5_givePoints l G M20 a0 h0 (a0 + 18 + 3 * y3.toNatClampNeg) (kS_cart h0 (vp_lt g8)) (M20.1 (a0 + 1) 7) r24 M25 e23) (uX1_131 _ (Nat.le_of_ble_eq_true rfl) (Nat.le_of_ble_eq_true rfl)) (mm_recv C hM (kl h0) (ci := 4) rfl (mm_e4 h0)) hl.1 rfl rfl (Nat.le_of_ble_eq_true rfl) ⟨Nat.zero_le _, Nat.zero_le _⟩ dX1_shareKitchens_115) (fun H locs hM hS => ?_)
              have hM : mm_P G kR 740 M25 H := hM
              refine lv_pop hx hb dX1_shareKitchens_118 rfl ?_
              refine lv_goto (tgt := 154) hx hb dX1_shareKitchens_119 (by decide) ?_
              obtain ⟨y26, ey26⟩ : ∃ y : Int32, y = (v3 + 1) := ⟨_, rfl⟩
              have heq := lt_to ey26 heq
              refine lv_iinc (v := y26) (lv' := [(3, .int y26), (6, .int y10), (5, .ref (mm_lo G + (a0 + 18 + 3 * y3.toNatClampNeg))), (4, .int y3), (0, .ref (mm_lo G + a0)), (1, .int v1), (2, .int v2)]) hx hb dX1_shareKitchens_154 hl (k := 6) rfl (by rw [ey26]; rfl) (by decide) rfl (fun ls hl => ?_)
              refine lv_goto (tgt := 6) hx hb dX1_shareKitchens_157 (by decide) ?_
              exact ih _ _ _ _ _ _ _ hM hS (lv_sub hl [4, 5, 6, 0] rfl) heq
        · have heq := if_t c9 heq
          refine lv_goto (tgt := 154) hx hb dX1_shareKitchens_46 (by decide) ?_
          obtain ⟨y27, ey27⟩ : ∃ y : Int32, y = (v3 + 1) := ⟨_, rfl⟩
          have heq := lt_to ey27 heq
          refine lv_iinc (v := y27) (lv' := [(3, .int y27), (4, .int y3), (0, .ref (mm_lo G + a0)), (1, .int v1), (2, .int v2)]) hx hb dX1_shareKitchens_154 hl (k := 4) rfl (by rw [ey27]; rfl) (by decide) rfl (fun ls hl => ?_)
          refine lv_goto (tgt := 6) hx hb dX1_shareKitchens_157 (by decide) ?_
          exact ih _ _ _ _ _ _ _ hM hS (lv_sub hl [2, 3, 4, 0] rfl) heq

set_option maxRecDepth 100000 in
set_option maxHeartbeats 4000000 in
theorem tX1_shareKitchens (l : Launch) (G : mm_G) (M : mm_M) (a0 : Nat) (h0 : kT a0 = (4, 0)) (M9 : mm_M) (heq : fX1_shareKitchens M a0 = some M9) : Met l yX1_shareKitchens (mm_ws yX1_shareKitchens cX1_shareKitchens 7 none) rmX1_shareKitchens (va_Pc [.ref (mm_lo G + a0)] (mm_B G (kR, 740, M))) (mm_Qv G (kR, 740, M9)) 0 0 (mm_A G) := by
  refine mm_met (cc := cX1_shareKitchens) (nL := 7) (ret := none) plRX1 (Nat.le_of_ble_eq_true rfl) ?_
  intro p e s m below meth c ls hin C hM hS hl
  have C : mm_C G p s m _ meth c RX1 cX1_shareKitchens 7 none := C
  have hM : mm_P G kR 740 M s.heap := hM
  have hl : lv_has ls 7 [(0, .ref (mm_lo G + a0))] := hl
  obtain ⟨hx, hb, -, -, -, -, -, -, hZ, -⟩ := id C
  rw [fX1_shareKitchens] at heq
  refine lv_iconst (v := 0) hx hb dX1_shareKitchens_0 (by decide) ?_
  refine lv_istore_n (lv' := [(1, .int 0), (0, .ref (mm_lo G + a0))]) hx hb dX1_shareKitchens_1 rfl hl (by decide) rfl (fun ls hl => ?_)
  refine lv_iconst (v := 0) hx hb dX1_shareKitchens_2 (by decide) ?_
  refine lv_istore_n (lv' := [(2, .int 0), (1, .int 0), (0, .ref (mm_lo G + a0))]) hx hb dX1_shareKitchens_3 rfl hl (by decide) rfl (fun ls hl => ?_)
  refine lv_iconst (v := 0) hx hb dX1_shareKitchens_4 (by decide) ?_
  refine lv_istore_n (lv' := [(3, .int 0), (2, .int 0), (1, .int 0), (0, .ref (mm_lo G + a0))]) hx hb dX1_shareKitchens_5 rfl hl (by decide) rfl (fun ls hl => ?_)
  exact tX1_shareKitchens_6 C a0 h0 FU _ _ _ _ _ _ _ hM hS (lv_sub hl [3, 2, 1, 0] rfl) heq
end WALK
