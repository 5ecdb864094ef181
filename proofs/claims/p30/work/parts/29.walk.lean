section WALK
variable {p : Program} {l : Launch} {e : Env} {s : State} {m : MethodId} {args : Array Value} {below : List Frame} {meth : Method} {c : Code} {G : mm_G}
set_option maxRecDepth 100000 in
set_option maxHeartbeats 4000000 in
theorem tX7_beginDay_42 (C : mm_C G p s m args meth c RX7 cX7_beginDay 2 none)  {M9 : mm_M} {k2 : mm_M → Int32 → Option (mm_M)} (hk2 : ∀ (M : mm_M) (v1 : Int32) (H : Heap) (locs : List Loc) (ls : Array Slot), mm_P G kR 740 M H → va_S (mm_A G) s.heap H locs → lv_has ls 2 [(0, .ref (mm_lo G + 731)), (1, .int v1)] → k2 M v1 = some M9 → W p l e rmX7_beginDay s m args below meth c H locs 0 0 (MQ below (mm_Qv G (kR, 740, M9)) args s 0 0 (mm_A G)) (F0 m 2 ls [])) : ∀ (M : mm_M) (v1 : Int32) (t1 : Int32) (t3 : Bool) (H : Heap) (locs : List Loc) (ls : Array Slot), mm_P G kR 740 M H → va_S (mm_A G) s.heap H locs → lv_has ls 2 [(0, .ref (mm_lo G + 731)), (1, .int v1)] → fX7_beginDay_42 k2 M v1 t1 t3 = some M9 → W p l e rmX7_beginDay s m args below meth c H locs 0 0 (MQ below (mm_Qv G (kR, 740, M9)) args s 0 0 (mm_A G)) (F0 m 42 ls [.int (b2i t3), .int 19, .int t1, .ref (mm_lo G + 731)]) := by
  obtain ⟨hx, hb, -, -, -, -, -, -, hZ, -⟩ := id C
  intro M v1 t1 t3 H locs ls hM hS hl heq
  rw [fX7_beginDay_42] at heq
  obtain ⟨M2, e1, heq⟩ := bn_of heq
  refine mm_kv hS (mm_runV (rest := []) C hM hS (tX7_lay l G M t1 19 (b2i t3) M2 e1) (uX7_62 _ (Nat.le_of_ble_eq_true rfl) (Nat.le_of_ble_eq_true rfl)) (mm_recv C hM (kl (rfl : kT 731 = (6, 0))) (ci := 6) rfl (mm_e6 (rfl : kT 731 = (6, 0)))) hl.1 rfl rfl (Nat.le_of_ble_eq_true rfl) ⟨Nat.zero_le _, Nat.zero_le _⟩ dX7_beginDay_42) (fun H locs hM hS => ?_)
  have hM : mm_P G kR 740 M2 H := hM
  refine lv_aload_n hx hb dX7_beginDay_45 rfl (lv_at hl 0 rfl) ?_
  refine lv_iload_n hx hb dX7_beginDay_46 rfl (lv_at hl 1 rfl) ?_
  refine lv_bipush (v := 11) hx hb dX7_beginDay_47 (by decide) ?_
  refine lv_bipush (v := (-6)) hx hb dX7_beginDay_49 (by decide) ?_
  obtain ⟨M4, e3, heq⟩ := bn_of heq
  refine mm_kv hS (mm_runV (rest := []) C hM hS (tX7_lay l G M2 v1 11 (-6) M4 e3) (uX7_62 _ (Nat.le_of_ble_eq_true rfl) (Nat.le_of_ble_eq_true rfl)) (mm_recv C hM (kl (rfl : kT 731 = (6, 0))) (ci := 6) rfl (mm_e6 (rfl : kT 731 = (6, 0)))) hl.1 rfl rfl (Nat.le_of_ble_eq_true rfl) ⟨Nat.zero_le _, Nat.zero_le _⟩ dX7_beginDay_51) (fun H locs hM hS => ?_)
  have hM : mm_P G kR 740 M4 H := hM
  refine lv_aload_n hx hb dX7_beginDay_54 rfl (lv_at hl 0 rfl) ?_
  refine lv_iload_n hx hb dX7_beginDay_55 rfl (lv_at hl 1 rfl) ?_
  refine lv_bipush (v := 12) hx hb dX7_beginDay_56 (by decide) ?_
  refine lv_bipush (v := (-6)) hx hb dX7_beginDay_58 (by decide) ?_
  obtain ⟨M6, e5, heq⟩ := bn_of heq
  refine mm_kv hS (mm_runV (rest := []) C hM hS (tX7_lay l G M4 v1 12 (-6) M6 e5) (uX7_62 _ (Nat.le_of_ble_eq_true rfl) (Nat.le_of_ble_eq_true rfl)) (mm_recv C hM (kl (rfl : kT 731 = (6, 0))) (ci := 6) rfl (mm_e6 (rfl : kT 731 = (6, 0)))) hl.1 rfl rfl (Nat.le_of_ble_eq_true rfl) ⟨Nat.zero_le _, Nat.zero_le _⟩ dX7_beginDay_60) (fun H locs hM hS => ?_)
  have hM : mm_P G kR 740 M6 H := hM
  refine lv_aload_n hx hb dX7_beginDay_63 rfl (lv_at hl 0 rfl) ?_
  refine lv_iload_n hx hb dX7_beginDay_64 rfl (lv_at hl 1 rfl) ?_
  refine lv_bipush (v := 14) hx hb dX7_beginDay_65 (by decide) ?_
  refine lv_bipush (v := (-6)) hx hb dX7_beginDay_67 (by decide) ?_
  obtain ⟨M8, e7, heq⟩ := bn_of heq
  refine mm_kv hS (mm_runV (rest := []) C hM hS (tX7_lay l G M6 v1 14 (-6) M8 e7) (uX7_62 _ (Nat.le_of_ble_eq_true rfl) (Nat.le_of_ble_eq_true rfl)) (mm_recv C hM (kl (rfl : kT 731 = (6, 0))) (ci := 6) rfl (mm_e6 (rfl : kT 731 = (6, 0)))) hl.1 rfl rfl (Nat.le_of_ble_eq_true rfl) ⟨Nat.zero_le _, Nat.zero_le _⟩ dX7_beginDay_69) (fun H locs hM hS => ?_)
  have hM : mm_P G kR 740 M8 H := hM
  obtain ⟨y9, ey9⟩ : ∃ y : Int32, y = (v1 + 1) := ⟨_, rfl⟩
  have heq := lt_to ey9 heq
  refine lv_iinc (v := y9) (lv' := [(1, .int y9), (0, .ref (mm_lo G + 731))]) hx hb dX7_beginDay_72 hl (k := 1) rfl (by rw [ey9]; rfl) (by decide) rfl (fun ls hl => ?_)
  refine lv_goto (tgt := 2) hx hb dX7_beginDay_75 (by decide) ?_
  exact hk2 _ _ _ _ _ hM hS (lv_sub hl [1, 0] rfl) heq

set_option maxRecDepth 100000 in
set_option maxHeartbeats 4000000 in
theorem tX7_beginDay_80 (C : mm_C G p s m args meth c RX7 cX7_beginDay 2 none)  {M9 : mm_M} : ∀ n : Nat, ∀ (M : mm_M) (v1 : Int32) (H : Heap) (locs : List Loc) (ls : Array Slot), mm_P G kR 740 M H → va_S (mm_A G) s.heap H locs → lv_has ls 2 [(0, .ref (mm_lo G + 731)), (1, .int v1)] → fX7_beginDay_80 n M v1 = some M9 → W p l e rmX7_beginDay s m args below meth c H locs 0 0 (MQ below (mm_Qv G (kR, 740, M9)) args s 0 0 (mm_A G)) (F0 m 80 ls []) := by
  obtain ⟨hx, hb, -, -, -, -, -, -, hZ, -⟩ := id C
  intro n
  induction n with
  | zero =>
    intro M v1 H locs ls hM hS hl heq
    rw [fX7_beginDay_80] at heq
    cases heq
  | succ n ih =>
    intro M v1 H locs ls hM hS hl heq
    rw [fX7_beginDay_80] at heq
    refine lv_iload_n hx hb dX7_beginDay_80 rfl (lv_at hl 1 rfl) ?_
    refine lv_aload_n hx hb dX7_beginDay_81 rfl (lv_at hl 0 rfl) ?_
    refine gX7_7 C hM (kl (rfl : kT 731 = (6, 0))) (rfl : kT 731 = (6, 0)) (rfl : kR 731 0 = some 732) dX7_beginDay_82 ?_
    refine lv_bipush (v := 12) hx hb dX7_beginDay_85 (by decide) ?_
    refine mm_ildk C hM (kl (rfl : kT 732 = (8, 3592))) (rfl : kT 732 = (8, 3592)) (vp_in_of2 (by decide)) (by decide : (12 : Int32).toNatClampNeg = 12) dX7_beginDay_87 ?_
    refine lv_icmp_ge (tgt := 112) hx hb dX7_beginDay_88 (by decide) (fun c1 => ?_) (fun c1 => ?_)
    · have heq := if_t c1 heq
      cases heq
      exact mm_vret C hM hS dX7_beginDay_112
    · have heq := if_f c1 heq
      refine lv_aload_n hx hb dX7_beginDay_91 rfl (lv_at hl 0 rfl) ?_
      refine gX7_7 C hM (kl (rfl : kT 731 = (6, 0))) (rfl : kT 731 = (6, 0)) (rfl : kR 731 0 = some 732) dX7_beginDay_92 ?_
      refine lv_bipush (v := 32) hx hb dX7_beginDay_95 (by decide) ?_
      refine lv_iconst (v := 4) hx hb dX7_beginDay_97 (by decide) ?_
      refine lv_iload_n hx hb dX7_beginDay_98 rfl (lv_at hl 1 rfl) ?_
      refine lv_imul hx hb dX7_beginDay_99 ?_
      refine lv_iadd hx hb dX7_beginDay_100 ?_
      refine lv_iconst (v := 3) hx hb dX7_beginDay_101 (by decide) ?_
      refine lv_iadd hx hb dX7_beginDay_102 ?_
      refine lv_bipush (v := (-6)) hx hb dX7_beginDay_103 (by decide) ?_
      obtain ⟨g2, heq⟩ := gd_of heq
      refine mm_istk C hM hS (kl (rfl : kT 732 = (8, 3592))) (rfl : kT 732 = (8, 3592)) (vp_in_of2 g2) rfl dX7_beginDay_105 (fun H locs hM hS _ => ?_)
      obtain ⟨M3, eM3⟩ : ∃ z : mm_M, z = sI M 732 ((32 + (4 * v1)) + 3).toNatClampNeg (-6) := ⟨_, rfl⟩
      rw [← eM3] at hM
      have heq := lt_to eM3 heq
      obtain ⟨y4, ey4⟩ : ∃ y : Int32, y = (v1 + 1) := ⟨_, rfl⟩
      have heq := lt_to ey4 heq
      refine lv_iinc (v := y4) (lv' := [(1, .int y4), (0, .ref (mm_lo G + 731))]) hx hb dX7_beginDay_106 hl (k := 1) rfl (by rw [ey4]; rfl) (by decide) rfl (fun ls hl => ?_)
      refine lv_goto (tgt := 80) hx hb dX7_beginDay_109 (by decide) ?_
      exact ih _ _ _ _ _ hM hS (lv_sub hl [1, 0] rfl) heq

set_option maxRecDepth 100000 in
set_option maxHeartbeats 4000000 in
theorem tX7_beginDay_2 (C : mm_C G p s m args meth c RX7 cX7_beginDay 2 none)  {M9 : mm_M} : ∀ n : Nat, ∀ (M : mm_M) (v1 : Int32) (H : Heap) (locs : List Loc) (ls : Array Slot), mm_P G kR 740 M H → va_S (mm_A G) s.heap H locs → lv_has ls 2 [(0, .ref (mm_lo G + 731)), (1, .int v1)] → fX7_beginDay_2 n M v1 = some M9 → W p l e rmX7_beginDay s m args below meth c H locs 0 0 (MQ below (mm_Qv G (kR, 740, M9)) args s 0 0 (mm_A G)) (F0 m 2 ls []) := by
  obtain ⟨hx, hb, -, -, -, -, -, -, hZ, -⟩ := id C
  intro n
  induction n with
  | zero =>
    intro M v1 H locs ls hM hS hl heq
    rw [fX7_beginDay_2] at heq
    cases heq
  | succ n ih =>
    intro M v1 H locs ls hM hS hl heq
    rw [fX7_beginDay_2] at heq
    refine lv_iload_n hx hb dX7_beginDay_2 rfl (lv_at hl 1 rfl) ?_
    refine lv_aload_n hx hb dX7_beginDay_3 rfl (lv_at hl 0 rfl) ?_
    refine gX7_7 C hM (kl (rfl : kT 731 = (6, 0))) (rfl : kT 731 = (6, 0)) (rfl : kR 731 0 = some 732) dX7_beginDay_4 ?_
    refine lv_bipush (v := 13) hx hb dX7_beginDay_7 (by decide) ?_
    refine mm_ildk C hM (kl (rfl : kT 732 = (8, 3592))) (rfl : kT 732 = (8, 3592)) (vp_in_of2 (by decide)) (by decide : (13 : Int32).toNatClampNeg = 13) dX7_beginDay_9 ?_
    refine lv_icmp_ge (tgt := 78) hx hb dX7_beginDay_10 (by decide) (fun c1 => ?_) (fun c1 => ?_)
    · have heq := if_t c1 heq
      refine lv_iconst (v := 0) hx hb dX7_beginDay_78 (by decide) ?_
      refine lv_istore_n (lv' := [(1, .int 0), (0, .ref (mm_lo G + 731))]) hx hb dX7_beginDay_79 rfl hl (by decide) rfl (fun ls hl => ?_)
      exact tX7_beginDay_80 C FU _ _ _ _ _ hM hS (lv_sub hl [1, 0] rfl) heq
    · have heq := if_f c1 heq
      refine lv_aload_n hx hb dX7_beginDay_13 rfl (lv_at hl 0 rfl) ?_
      refine lv_iload_n hx hb dX7_beginDay_14 rfl (lv_at hl 1 rfl) ?_
      refine lv_bipush (v := 13) hx hb dX7_beginDay_15 (by decide) ?_
      refine lv_aload_n hx hb dX7_beginDay_17 rfl (lv_at hl 0 rfl) ?_
      refine lv_iload_n hx hb dX7_beginDay_18 rfl (lv_at hl 1 rfl) ?_
      obtain ⟨r3, e2, heq⟩ := bn_of heq
      refine mm_ki hS (mm_runV (rest := [.int 13, .int v1, .ref (mm_lo G + 731)]) C hM hS (tX7_whyOut l G M v1 r3 e2) (uX7_112 _ (Nat.le_of_ble_eq_true rfl) (Nat.le_of_ble_eq_true rfl)) (mm_recv C hM (kl (rfl : kT 731 = (6, 0))) (ci := 6) rfl (mm_e6 (rfl : kT 731 = (6, 0)))) hl.1 rfl rfl (Nat.le_of_ble_eq_true rfl) ⟨Nat.zero_le _, Nat.zero_le _⟩ dX7_beginDay_19) (fun H locs hM hS => ?_)
      have hM : mm_P G kR 740 M H := hM
      obtain ⟨M5, e4, heq⟩ := bn_of heq
      refine mm_kv hS (mm_runV (rest := []) C hM hS (tX7_lay l G M v1 13 r3 M5 e4) (uX7_62 _ (Nat.le_of_ble_eq_true rfl) (Nat.le_of_ble_eq_true rfl)) (mm_recv C hM (kl (rfl : kT 731 = (6, 0))) (ci := 6) rfl (mm_e6 (rfl : kT 731 = (6, 0)))) hl.1 rfl rfl (Nat.le_of_ble_eq_true rfl) ⟨Nat.zero_le _, Nat.zero_le _⟩ dX7_beginDay_22) (fun H locs hM hS => ?_)
      have hM : mm_P G kR 740 M5 H := hM
      refine lv_aload_n hx hb dX7_beginDay_25 rfl (lv_at hl 0 rfl) ?_
      refine lv_iload_n hx hb dX7_beginDay_26 rfl (lv_at hl 1 rfl) ?_
      refine lv_bipush (v := 19) hx hb dX7_beginDay_27 (by decide) ?_
      refine lv_aload_n hx hb dX7_beginDay_29 rfl (lv_at hl 0 rfl) ?_
      refine lv_iload_n hx hb dX7_beginDay_30 rfl (lv_at hl 1 rfl) ?_
      obtain ⟨r7, e6, heq⟩ := bn_of heq
      refine mm_ki hS (mm_runV (rest := [.int 19, .int v1, .ref (mm_lo G + 731)]) C hM hS (tX7_whyOut l G M5 v1 r7 e6) (uX7_112 _ (Nat.le_of_ble_eq_true rfl) (Nat.le_of_ble_eq_true rfl)) (mm_recv C hM (kl (rfl : kT 731 = (6, 0))) (ci := 6) rfl (mm_e6 (rfl : kT 731 = (6, 0)))) hl.1 rfl rfl (Nat.le_of_ble_eq_true rfl) ⟨Nat.zero_le _, Nat.zero_le _⟩ dX7_beginDay_31) (fun H locs hM hS => ?_)
      have hM : mm_P G kR 740 M5 H := hM
      refine lv_if_ne (tgt := 41) hx hb dX7_beginDay_34 (by decide) (fun c8 => ?_) (fun c8 => ?_)
      · have heq := if_f c8 heq
        refine lv_iconst (v := 0) hx hb dX7_beginDay_41 (by decide) ?_
        exact tX7_beginDay_42 C ih _ _ _ _ _ _ _ hM hS (lv_sub hl [0, 1] rfl) heq
      · have heq := if_t c8 heq
        refine lv_iconst (v := 1) hx hb dX7_beginDay_37 (by decide) ?_
        refine lv_goto (tgt := 42) hx hb dX7_beginDay_38 (by decide) ?_
        exact tX7_beginDay_42 C ih _ _ _ _ _ _ _ hM hS (lv_sub hl [0, 1] rfl) heq

set_option maxRecDepth 100000 in
set_option maxHeartbeats 4000000 in
theorem tX7_beginDay (l : Launch) (G : mm_G) (M : mm_M)  (M9 : mm_M) (heq : fX7_beginDay M = some M9) : Met l yX7_beginDay (mm_ws yX7_beginDay cX7_beginDay 2 none) rmX7_beginDay (va_Pc [.ref (mm_lo G + 731)] (mm_B G (kR, 740, M))) (mm_Qv G (kR, 740, M9)) 0 0 (mm_A G) := by
  refine mm_met (cc := cX7_beginDay) (nL := 2) (ret := none) plRX7 (Nat.le_of_ble_eq_true rfl) ?_
  intro p e s m below meth c ls hin C hM hS hl
  have C : mm_C G p s m _ meth c RX7 cX7_beginDay 2 none := C
  have hM : mm_P G kR 740 M s.heap := hM
  have hl : lv_has ls 2 [(0, .ref (mm_lo G + 731))] := hl
  obtain ⟨hx, hb, -, -, -, -, -, -, hZ, -⟩ := id C
  rw [fX7_beginDay] at heq
  refine lv_iconst (v := 0) hx hb dX7_beginDay_0 (by decide) ?_
  refine lv_istore_n (lv' := [(1, .int 0), (0, .ref (mm_lo G + 731))]) hx hb dX7_beginDay_1 rfl hl (by decide) rfl (fun ls hl => ?_)
  exact tX7_beginDay_2 C FU _ _ _ _ _ hM hS (lv_sub hl [1, 0] rfl) heq

set_option maxRecDepth 100000 in
set_option maxHeartbeats 4000000 in
theorem tX7_isKindAt_19 (C : mm_C G p s m args meth c RX7 cX7_isKindAt 5 (some .boolean)) (x1 : Int32) (x2 : Int32) (x3 : Int32) (M : mm_M) {r : Bool} : ∀ (t0 : Int32) (H : Heap) (locs : List Loc) (ls : Array Slot), mm_P G kR 740 M H → va_S (mm_A G) s.heap H locs → lv_has ls 5 [(0, .ref (mm_lo G + 731)), (2, .int x2), (3, .int x3)] → fX7_isKindAt_19 x1 x2 x3 M t0 = some r → W p l e rmX7_isKindAt s m args below meth c H locs 0 0 (MQ below (mm_Qi G (b2i r) (kR, 740, M)) args s 0 0 (mm_A G)) (F0 m 19 ls [.int t0]) := by
  obtain ⟨hx, hb, -, -, -, -, -, -, hZ, -⟩ := id C
  intro t0 H locs ls hM hS hl heq
  rw [fX7_isKindAt_19] at heq
  refine lv_istore (lv' := [(4, .int t0), (0, .ref (mm_lo G + 731)), (2, .int x2), (3, .int x3)]) hx hb dX7_isKindAt_19 hl (by decide) rfl (fun ls hl => ?_)
  refine lv_iload hx hb dX7_isKindAt_21 (lv_at hl 0 rfl) ?_
  refine lv_if_lt (tgt := 47) hx hb dX7_isKindAt_23 (by decide) (fun c1 => ?_) (fun c1 => ?_)
  · have heq := if_t c1 heq
    refine lv_iconst (v := 0) hx hb dX7_isKindAt_47 (by decide) ?_
    cases heq
    exact mm_zret C hM hS dX7_isKindAt_48
  · have heq := if_f c1 heq
    refine lv_iload hx hb dX7_isKindAt_26 (lv_at hl 0 rfl) ?_
    refine lv_iload_n hx hb dX7_isKindAt_28 rfl (lv_at hl 3 rfl) ?_
    refine lv_icmp_eq (tgt := 47) hx hb dX7_isKindAt_29 (by decide) (fun c2 => ?_) (fun c2 => ?_)
    · have heq := if_t c2 heq
      refine lv_iconst (v := 0) hx hb dX7_isKindAt_47 (by decide) ?_
      cases heq
      exact mm_zret C hM hS dX7_isKindAt_48
    · have heq := if_f c2 heq
      refine lv_aload_n hx hb dX7_isKindAt_32 rfl (lv_at hl 1 rfl) ?_
      refine lv_iload hx hb dX7_isKindAt_33 (lv_at hl 0 rfl) ?_
      refine lv_iconst (v := 0) hx hb dX7_isKindAt_35 (by decide) ?_
      obtain ⟨r4, e3, heq⟩ := bn_of heq
      refine mm_ki hS (mm_runV (rest := []) C hM hS (tX7_of l G M t0 0 r4 e3) (uX7_66 _ (Nat.le_of_ble_eq_true rfl) (Nat.le_of_ble_eq_true rfl)) (mm_recv C hM (kl (rfl : kT 731 = (6, 0))) (ci := 6) rfl (mm_e6 (rfl : kT 731 = (6, 0)))) hl.1 rfl rfl (Nat.le_of_ble_eq_true rfl) ⟨Nat.zero_le _, Nat.zero_le _⟩ dX7_isKindAt_36) (fun H locs hM hS => ?_)
      have hM : mm_P G kR 740 M H := hM
      refine lv_iload_n hx hb dX7_isKindAt_39 rfl (lv_at hl 2 rfl) ?_
      refine lv_icmp_ne (tgt := 47) hx hb dX7_isKindAt_40 (by decide) (fun c5 => ?_) (fun c5 => ?_)
      · have heq := if_f c5 heq
        refine lv_iconst (v := 0) hx hb dX7_isKindAt_47 (by decide) ?_
        cases heq
        exact mm_zret C hM hS dX7_isKindAt_48
      · have heq := if_t c5 heq
        refine lv_iconst (v := 1) hx hb dX7_isKindAt_43 (by decide) ?_
        refine lv_goto (tgt := 48) hx hb dX7_isKindAt_44 (by decide) ?_
        cases heq
        exact mm_zret C hM hS dX7_isKindAt_48

set_option maxRecDepth 100000 in
set_option maxHeartbeats 4000000 in
theorem tX7_isKindAt (l : Launch) (G : mm_G) (M : mm_M) (x1 : Int32) (x2 : Int32) (x3 : Int32) (r : Bool) (heq : fX7_isKindAt M x1 x2 x3 = some r) : Met l yX7_isKindAt (mm_ws yX7_isKindAt cX7_isKindAt 5 (some .boolean)) rmX7_isKindAt (va_Pc [.ref (mm_lo G + 731), .int x1, .int x2, .int x3] (mm_B G (kR, 740, M))) (mm_Qi G (b2i r) (kR, 740, M)) 0 0 (mm_A G) := by
  refine mm_met (cc := cX7_isKindAt) (nL := 5) (ret := (some .boolean)) plRX7 (Nat.le_of_ble_eq_true rfl) ?_
  intro p e s m below meth c ls hin C hM hS hl
  have C : mm_C G p s m _ meth c RX7 cX7_isKindAt 5 (some .boolean) := C
  have hM : mm_P G kR 740 M s.heap := hM
  have hl : lv_has ls 5 [(0, .ref (mm_lo G + 731)), (1, .int x1), (2, .int x2), (3, .int x3)] := hl
  obtain ⟨hx, hb, -, -, -, -, -, -, hZ, -⟩ := id C
  rw [fX7_isKindAt] at heq
  refine lv_aload_n hx hb dX7_isKindAt_0 rfl (lv_at hl 0 rfl) ?_
  refine lv_iload_n hx hb dX7_isKindAt_1 rfl (lv_at hl 1 rfl) ?_
  obtain ⟨r2, e1, heq⟩ := bn_of heq
  refine mm_ki hS (mm_runV (rest := []) C hM hS (tX7_isPitch l G M x1 r2 e1) (uX7_54 _ (Nat.le_of_ble_eq_true rfl) (Nat.le_of_ble_eq_true rfl)) (mm_recv C hM (kl (rfl : kT 731 = (6, 0))) (ci := 6) rfl (mm_e6 (rfl : kT 731 = (6, 0)))) hl.1 rfl rfl (Nat.le_of_ble_eq_true rfl) ⟨Nat.zero_le _, Nat.zero_le _⟩ dX7_isKindAt_2) (fun H locs hM hS => ?_)
  have hM : mm_P G kR 740 M H := hM
  refine mm_ifeqZ (tgt := 17) C dX7_isKindAt_5 (by decide) (fun c3 => ?_) (fun c3 => ?_)
  · have heq := if_f c3 heq
    refine lv_bipush (v := (-6)) hx hb dX7_isKindAt_17 (by decide) ?_
    exact tX7_isKindAt_19 C x1 x2 x3 M _ _ _ _ hM hS (lv_sub hl [0, 2, 3] rfl) heq
  · have heq := if_t c3 heq
    refine lv_aload_n hx hb dX7_isKindAt_8 rfl (lv_at hl 0 rfl) ?_
    refine lv_iload_n hx hb dX7_isKindAt_9 rfl (lv_at hl 1 rfl) ?_
    refine lv_iconst (v := 3) hx hb dX7_isKindAt_10 (by decide) ?_
    obtain ⟨r5, e4, heq⟩ := bn_of heq
    refine mm_ki hS (mm_runV (rest := []) C hM hS (tX7_ofP l G M x1 3 r5 e4) (uX7_58 _ (Nat.le_of_ble_eq_true rfl) (Nat.le_of_ble_eq_true rfl)) (mm_recv C hM (kl (rfl : kT 731 = (6, 0))) (ci := 6) rfl (mm_e6 (rfl : kT 731 = (6, 0)))) hl.1 rfl rfl (Nat.le_of_ble_eq_true rfl) ⟨Nat.zero_le _, Nat.zero_le _⟩ dX7_isKindAt_11) (fun H locs hM hS => ?_)
    have hM : mm_P G kR 740 M H := hM
    refine lv_goto (tgt := 19) hx hb dX7_isKindAt_14 (by decide) ?_
    exact tX7_isKindAt_19 C x1 x2 x3 M _ _ _ _ hM hS (lv_sub hl [0, 2, 3] rfl) heq

set_option maxRecDepth 100000 in
set_option maxHeartbeats 4000000 in
theorem tX7_isApart (l : Launch) (G : mm_G) (M : mm_M) (x1 : Int32) (x2 : Int32) (r : Bool) (heq : fX7_isApart M x1 x2 = some r) : Met l yX7_isApart (mm_ws yX7_isApart cX7_isApart 3 (some .boolean)) rmX7_isApart (va_Pc [.ref (mm_lo G + 731), .int x1, .int x2] (mm_B G (kR, 740, M))) (mm_Qi G (b2i r) (kR, 740, M)) 0 0 (mm_A G) := by
  refine mm_met (cc := cX7_isApart) (nL := 3) (ret := (some .boolean)) plRX7 (Nat.le_of_ble_eq_true rfl) ?_
  intro p e s m below meth c ls hin C hM hS hl
  have C : mm_C G p s m _ meth c RX7 cX7_isApart 3 (some .boolean) := C
  have hM : mm_P G kR 740 M s.heap := hM
  have hl : lv_has ls 3 [(0, .ref (mm_lo G + 731)), (1, .int x1), (2, .int x2)] := hl
  obtain ⟨hx, hb, -, -, -, -, -, -, hZ, -⟩ := id C
  rw [fX7_isApart] at heq
  refine lv_aload_n hx hb dX7_isApart_0 rfl (lv_at hl 0 rfl) ?_
  refine lv_iload_n hx hb dX7_isApart_1 rfl (lv_at hl 2 rfl) ?_
  refine lv_iconst (v := 1) hx hb dX7_isApart_2 (by decide) ?_
  refine lv_isub hx hb dX7_isApart_3 ?_
  refine lv_aload_n hx hb dX7_isApart_4 rfl (lv_at hl 0 rfl) ?_
  refine lv_iload_n hx hb dX7_isApart_5 rfl (lv_at hl 1 rfl) ?_
  refine lv_iconst (v := 0) hx hb dX7_isApart_6 (by decide) ?_
  obtain ⟨r2, e1, heq⟩ := bn_of heq
  refine mm_ki hS (mm_runV (rest := [.int (x2 - 1), .ref (mm_lo G + 731)]) C hM hS (tX7_of l G M x1 0 r2 e1) (uX7_66 _ (Nat.le_of_ble_eq_true rfl) (Nat.le_of_ble_eq_true rfl)) (mm_recv C hM (kl (rfl : kT 731 = (6, 0))) (ci := 6) rfl (mm_e6 (rfl : kT 731 = (6, 0)))) hl.1 rfl rfl (Nat.le_of_ble_eq_true rfl) ⟨Nat.zero_le _, Nat.zero_le _⟩ dX7_isApart_7) (fun H locs hM hS => ?_)
  have hM : mm_P G kR 740 M H := hM
  refine lv_iload_n hx hb dX7_isApart_10 rfl (lv_at hl 1 rfl) ?_
  obtain ⟨r4, e3, heq⟩ := bn_of heq
  refine mm_ki hS (mm_runV (rest := []) C hM hS (tX7_isKindAt l G M (x2 - 1) r2 x1 r4 e3) (uX7_115 _ (Nat.le_of_ble_eq_true rfl) (Nat.le_of_ble_eq_true rfl)) (mm_recv C hM (kl (rfl : kT 731 = (6, 0))) (ci := 6) rfl (mm_e6 (rfl : kT 731 = (6, 0)))) hl.1 rfl rfl (Nat.le_of_ble_eq_true rfl) ⟨Nat.zero_le _, Nat.zero_le _⟩ dX7_isApart_11) (fun H locs hM hS => ?_)
  have hM : mm_P G kR 740 M H := hM
  refine mm_ifneZ (tgt := 38) C dX7_isApart_14 (by decide) (fun c5 => ?_) (fun c5 => ?_)
  · have heq := if_t c5 heq
    refine lv_iconst (v := 0) hx hb dX7_isApart_38 (by decide) ?_
    cases heq
    exact mm_zret C hM hS dX7_isApart_39
  · have heq := if_f c5 heq
    refine lv_aload_n hx hb dX7_isApart_17 rfl (lv_at hl 0 rfl) ?_
    refine lv_iload_n hx hb dX7_isApart_18 rfl (lv_at hl 2 rfl) ?_
    refine lv_iconst (v := 1) hx hb dX7_isApart_19 (by decide) ?_
    refine lv_iadd hx hb dX7_isApart_20 ?_
    refine lv_aload_n hx hb dX7_isApart_21 rfl (lv_at hl 0 rfl) ?_
    refine lv_iload_n hx hb dX7_isApart_22 rfl (lv_at hl 1 rfl) ?_
    refine lv_iconst (v := 0) hx hb dX7_isApart_23 (by decide) ?_
    obtain ⟨r7, e6, heq⟩ := bn_of heq
    refine mm_ki hS (mm_runV (rest := [.int (x2 + 1), .ref (mm_lo G + 731)]) C hM hS (tX7_of l G M x1 0 r7 e6) (uX7_66 _ (Nat.le_of_ble_eq_true rfl) (Nat.le_of_ble_eq_true rfl)) (mm_recv C hM (kl (rfl : kT 731 = (6, 0))) (ci := 6) rfl (mm_e6 (rfl : kT 731 = (6, 0)))) hl.1 rfl rfl (Nat.le_of_ble_eq_true rfl) ⟨Nat.zero_le _, Nat.zero_le _⟩ dX7_isApart_24) (fun H locs hM hS => ?_)
    have hM : mm_P G kR 740 M H := hM
    refine lv_iload_n hx hb dX7_isApart_27 rfl (lv_at hl 1 rfl) ?_
    obtain ⟨r9, e8, heq⟩ := bn_of heq
    refine mm_ki hS (mm_runV (rest := []) C hM hS (tX7_isKindAt l G M (x2 + 1) r7 x1 r9 e8) (uX7_115 _ (Nat.le_of_ble_eq_true rfl) (Nat.le_of_ble_eq_true rfl)) (mm_recv C hM (kl (rfl : kT 731 = (6, 0))) (ci := 6) rfl (mm_e6 (rfl : kT 731 = (6, 0)))) hl.1 rfl rfl (Nat.le_of_ble_eq_true rfl) ⟨Nat.zero_le _, Nat.zero_le _⟩ dX7_isApart_28) (fun H locs hM hS => ?_)
    have hM : mm_P G kR 740 M H := hM
    refine mm_ifneZ (tgt := 38) C dX7_isApart_31 (by decide) (fun c10 => ?_) (fun c10 => ?_)
    · have heq := if_t c10 heq
      refine lv_iconst (v := 0) hx hb dX7_isApart_38 (by decide) ?_
      cases heq
      exact mm_zret C hM hS dX7_isApart_39
    · have heq := if_f c10 heq
      refine lv_iconst (v := 1) hx hb dX7_isApart_34 (by decide) ?_
      refine lv_goto (tgt := 39) hx hb dX7_isApart_35 (by decide) ?_
      cases heq
      exact mm_zret C hM hS dX7_isApart_39

set_option maxRecDepth 100000 in
set_option maxHeartbeats 4000000 in
theorem tX7_put (l : Launch) (G : mm_G) (M : mm_M) (x1 : Int32) (x2 : Int32) (M9 : mm_M) (heq : fX7_put M x1 x2 = some M9) : Met l yX7_put (mm_ws yX7_put cX7_put 3 none) rmX7_put (va_Pc [.ref (mm_lo G + 731), .int x1, .int x2] (mm_B G (kR, 740, M))) (mm_Qv G (kR, 740, M9)) 0 0 (mm_A G) := by
  refine mm_met (cc := cX7_put) (nL := 3) (ret := none) plRX7 (Nat.le_of_ble_eq_true rfl) ?_
  intro p e s m below meth c ls hin C hM hS hl
  have C : mm_C G p s m _ meth c RX7 cX7_put 3 none := C
  have hM : mm_P G kR 740 M s.heap := hM
  have hl : lv_has ls 3 [(0, .ref (mm_lo G + 731)), (1, .int x1), (2, .int x2)] := hl
  obtain ⟨hx, hb, -, -, -, -, -, -, hZ, -⟩ := id C
  rw [fX7_put] at heq
  refine lv_aload_n hx hb dX7_put_0 rfl (lv_at hl 0 rfl) ?_
  refine lv_iload_n hx hb dX7_put_1 rfl (lv_at hl 1 rfl) ?_
  refine lv_bipush (v := 11) hx hb dX7_put_2 (by decide) ?_
  refine lv_iload_n hx hb dX7_put_4 rfl (lv_at hl 2 rfl) ?_
  obtain ⟨M2, e1, heq⟩ := bn_of heq
  refine mm_kv hS (mm_runV (rest := []) C hM hS (tX7_lay l G M x1 11 x2 M2 e1) (uX7_62 _ (Nat.le_of_ble_eq_true rfl) (Nat.le_of_ble_eq_true rfl)) (mm_recv C hM (kl (rfl : kT 731 = (6, 0))) (ci := 6) rfl (mm_e6 (rfl : kT 731 = (6, 0)))) hl.1 rfl rfl (Nat.le_of_ble_eq_true rfl) ⟨Nat.zero_le _, Nat.zero_le _⟩ dX7_put_5) (fun H locs hM hS => ?_)
  have hM : mm_P G kR 740 M2 H := hM
  refine lv_aload_n hx hb dX7_put_8 rfl (lv_at hl 0 rfl) ?_
  refine gX7_7 C hM (kl (rfl : kT 731 = (6, 0))) (rfl : kT 731 = (6, 0)) (rfl : kR 731 0 = some 732) dX7_put_9 ?_
  refine lv_bipush (v := 32) hx hb dX7_put_12 (by decide) ?_
  refine lv_iconst (v := 4) hx hb dX7_put_14 (by decide) ?_
  refine lv_iload_n hx hb dX7_put_15 rfl (lv_at hl 2 rfl) ?_
  refine lv_imul hx hb dX7_put_16 ?_
  refine lv_iadd hx hb dX7_put_17 ?_
  refine lv_iconst (v := 3) hx hb dX7_put_18 (by decide) ?_
  refine lv_iadd hx hb dX7_put_19 ?_
  refine lv_iload_n hx hb dX7_put_20 rfl (lv_at hl 1 rfl) ?_
  obtain ⟨g3, heq⟩ := gd_of heq
  refine mm_istk C hM hS (kl (rfl : kT 732 = (8, 3592))) (rfl : kT 732 = (8, 3592)) (vp_in_of2 g3) rfl dX7_put_21 (fun H locs hM hS _ => ?_)
  obtain ⟨M4, eM4⟩ : ∃ z : mm_M, z = sI M2 732 ((32 + (4 * x2)) + 3).toNatClampNeg x1 := ⟨_, rfl⟩
  rw [← eM4] at hM
  have heq := lt_to eM4 heq
  cases heq
  exact mm_vret C hM hS dX7_put_22

set_option maxRecDepth 100000 in
set_option maxHeartbeats 4000000 in
theorem tX7_choose_2 (C : mm_C G p s m args meth c RX7 cX7_choose 4 none) (x1 : Int32) {M9 : mm_M} : ∀ n : Nat, ∀ (M : mm_M) (v2 : Int32) (H : Heap) (locs : List Loc) (ls : Array Slot), mm_P G kR 740 M H → va_S (mm_A G) s.heap H locs → lv_has ls 4 [(0, .ref (mm_lo G + 731)), (1, .int x1), (2, .int v2)] → fX7_choose_2 x1 n M v2 = some M9 → W p l e rmX7_choose s m args below meth c H locs 0 0 (MQ below (mm_Qv G (kR, 740, M9)) args s 0 0 (mm_A G)) (F0 m 2 ls []) := by
  obtain ⟨hx, hb, -, -, -, -, -, -, hZ, -⟩ := id C
  intro n
  induction n with
  | zero =>
    intro M v2 H locs ls hM hS hl heq
    rw [fX7_choose_2] at heq
    cases heq
  | succ n ih =>
    intro M v2 H locs ls hM hS hl heq
    rw [fX7_choose_2] at heq
    refine lv_iload_n hx hb dX7_choose_2 rfl (lv_at hl 2 rfl) ?_
    refine lv_aload_n hx hb dX7_choose_3 rfl (lv_at hl 0 rfl) ?_
    refine lv_iload_n hx hb dX7_choose_4 rfl (lv_at hl 1 rfl) ?_
    refine lv_iconst (v := 2) hx hb dX7_choose_5 (by decide) ?_
    obtain ⟨r2, e1, heq⟩ := bn_of heq
    refine mm_ki hS (mm_runV (rest := [.int v2]) C hM hS (tX7_of l G M x1 2 r2 e1) (uX7_66 _ (Nat.le_of_ble_eq_true rfl) (Nat.le_of_ble_eq_true rfl)) (mm_recv C hM (kl (rfl : kT 731 = (6, 0))) (ci := 6) rfl (mm_e6 (rfl : kT 731 = (6, 0)))) hl.1 rfl rfl (Nat.le_of_ble_eq_true rfl) ⟨Nat.zero_le _, Nat.zero_le _⟩ dX7_choose_6) (fun H locs hM hS => ?_)
    have hM : mm_P G kR 740 M H := hM
    refine lv_icmp_ge (tgt := 52) hx hb dX7_choose_9 (by decide) (fun c3 => ?_) (fun c3 => ?_)
    · have heq := if_t c3 heq
      refine lv_aload_n hx hb dX7_choose_52 rfl (lv_at hl 0 rfl) ?_
      refine lv_iload_n hx hb dX7_choose_53 rfl (lv_at hl 1 rfl) ?_
      refine lv_bipush (v := 13) hx hb dX7_choose_54 (by decide) ?_
      refine lv_iconst (v := 4) hx hb dX7_choose_56 (by decide) ?_
      obtain ⟨M5, e4, heq⟩ := bn_of heq
      refine mm_kv hS (mm_runV (rest := []) C hM hS (tX7_lay l G M x1 13 4 M5 e4) (uX7_62 _ (Nat.le_of_ble_eq_true rfl) (Nat.le_of_ble_eq_true rfl)) (mm_recv C hM (kl (rfl : kT 731 = (6, 0))) (ci := 6) rfl (mm_e6 (rfl : kT 731 = (6, 0)))) hl.1 rfl rfl (Nat.le_of_ble_eq_true rfl) ⟨Nat.zero_le _, Nat.zero_le _⟩ dX7_choose_57) (fun H locs hM hS => ?_)
      have hM : mm_P G kR 740 M5 H := hM
      cases heq
      exact mm_vret C hM hS dX7_choose_60
    · have heq := if_f c3 heq
      refine lv_aload_n hx hb dX7_choose_12 rfl (lv_at hl 0 rfl) ?_
      refine lv_iload_n hx hb dX7_choose_13 rfl (lv_at hl 1 rfl) ?_
      refine lv_iconst (v := 3) hx hb dX7_choose_14 (by decide) ?_
      refine lv_iload_n hx hb dX7_choose_15 rfl (lv_at hl 2 rfl) ?_
      refine lv_iadd hx hb dX7_choose_16 ?_
      obtain ⟨r7, e6, heq⟩ := bn_of heq
      refine mm_ki hS (mm_runV (rest := []) C hM hS (tX7_of l G M x1 (3 + v2) r7 e6) (uX7_66 _ (Nat.le_of_ble_eq_true rfl) (Nat.le_of_ble_eq_true rfl)) (mm_recv C hM (kl (rfl : kT 731 = (6, 0))) (ci := 6) rfl (mm_e6 (rfl : kT 731 = (6, 0)))) hl.1 rfl rfl (Nat.le_of_ble_eq_true rfl) ⟨Nat.zero_le _, Nat.zero_le _⟩ dX7_choose_17) (fun H locs hM hS => ?_)
      have hM : mm_P G kR 740 M H := hM
      refine lv_istore_n (lv' := [(3, .int r7), (0, .ref (mm_lo G + 731)), (1, .int x1), (2, .int v2)]) hx hb dX7_choose_20 rfl hl (by decide) rfl (fun ls hl => ?_)
      refine lv_aload_n hx hb dX7_choose_21 rfl (lv_at hl 1 rfl) ?_
      refine lv_iload_n hx hb dX7_choose_22 rfl (lv_at hl 0 rfl) ?_
      refine lv_iconst (v := 3) hx hb dX7_choose_23 (by decide) ?_
      obtain ⟨r9, e8, heq⟩ := bn_of heq
      refine mm_ki hS (mm_runV (rest := []) C hM hS (tX7_ofP l G M r7 3 r9 e8) (uX7_58 _ (Nat.le_of_ble_eq_true rfl) (Nat.le_of_ble_eq_true rfl)) (mm_recv C hM (kl (rfl : kT 731 = (6, 0))) (ci := 6) rfl (mm_e6 (rfl : kT 731 = (6, 0)))) hl.1 rfl rfl (Nat.le_of_ble_eq_true rfl) ⟨Nat.zero_le _, Nat.zero_le _⟩ dX7_choose_24) (fun H locs hM hS => ?_)
      have hM : mm_P G kR 740 M H := hM
      refine lv_if_ge (tgt := 46) hx hb dX7_choose_27 (by decide) (fun c10 => ?_) (fun c10 => ?_)
      · have heq := if_t c10 heq
        obtain ⟨y11, ey11⟩ : ∃ y : Int32, y = (v2 + 1) := ⟨_, rfl⟩
        have heq := lt_to ey11 heq
        refine lv_iinc (v := y11) (lv' := [(2, .int y11), (3, .int r7), (0, .ref (mm_lo G + 731)), (1, .int x1)]) hx hb dX7_choose_46 hl (k := 3) rfl (by rw [ey11]; rfl) (by decide) rfl (fun ls hl => ?_)
        refine lv_goto (tgt := 2) hx hb dX7_choose_49 (by decide) ?_
        exact ih _ _ _ _ _ hM hS (lv_sub hl [2, 3, 0] rfl) heq
      · have heq := if_f c10 heq
        refine lv_aload_n hx hb dX7_choose_30 rfl (lv_at hl 1 rfl) ?_
        refine lv_iload_n hx hb dX7_choose_31 rfl (lv_at hl 2 rfl) ?_
        refine lv_iload_n hx hb dX7_choose_32 rfl (lv_at hl 0 rfl) ?_
        obtain ⟨r13, e12, heq⟩ := bn_of heq
        refine mm_ki hS (mm_runV (rest := []) C hM hS (tX7_isApart l G M x1 r7 r13 e12) (uX7_118 _ (Nat.le_of_ble_eq_true rfl) (Nat.le_of_ble_eq_true rfl)) (mm_recv C hM (kl (rfl : kT 731 = (6, 0))) (ci := 6) rfl (mm_e6 (rfl : kT 731 = (6, 0)))) hl.1 rfl rfl (Nat.le_of_ble_eq_true rfl) ⟨Nat.zero_le _, Nat.zero_le _⟩ dX7_choose_33) (fun H locs hM hS => ?_)
        have hM : mm_P G kR 740 M H := hM
        refine mm_ifeqZ (tgt := 46) C dX7_choose_36 (by decide) (fun c14 => ?_) (fun c14 => ?_)
        · have heq := if_f c14 heq
          obtain ⟨y15, ey15⟩ : ∃ y : Int32, y = (v2 + 1) := ⟨_, rfl⟩
          have heq := lt_to ey15 heq
          refine lv_iinc (v := y15) (lv' := [(2, .int y15), (3, .int r7), (0, .ref (mm_lo G + 731)), (1, .int x1)]) hx hb dX7_choose_46 hl (k := 3) rfl (by rw [ey15]; rfl) (by decide) rfl (fun ls hl => ?_)
          refine lv_goto (tgt := 2) hx hb dX7_choose_49 (by decide) ?_
          exact ih _ _ _ _ _ hM hS (lv_sub hl [2, 3, 0] rfl) heq
        · have heq := if_t c14 heq
          refine lv_aload_n hx hb dX7_choose_39 rfl (lv_at hl 1 rfl) ?_
          refine lv_iload_n hx hb dX7_choose_40 rfl (lv_at hl 2 rfl) ?_
          refine lv_iload_n hx hb dX7_choose_41 rfl (lv_at hl 0 rfl) ?_
          obtain ⟨M17, e16, heq⟩ := bn_of heq
          refine mm_kv hS (mm_runV (rest := []) C hM hS (tX7_put l G M x1 r7 M17 e16) (uX7_122 _ (Nat.le_of_ble_eq_true rfl) (Nat.le_of_ble_eq_true rfl)) (mm_recv C hM (kl (rfl : kT 731 = (6, 0))) (ci := 6) rfl (mm_e6 (rfl : kT 731 = (6, 0)))) hl.1 rfl rfl (Nat.le_of_ble_eq_true rfl) ⟨Nat.zero_le _, Nat.zero_le _⟩ dX7_choose_42) (fun H locs hM hS => ?_)
          have hM : mm_P G kR 740 M17 H := hM
          cases heq
          exact mm_vret C hM hS dX7_choose_45

set_option maxRecDepth 100000 in
set_option maxHeartbeats 4000000 in
theorem tX7_choose (l : Launch) (G : mm_G) (M : mm_M) (x1 : Int32) (M9 : mm_M) (heq : fX7_choose M x1 = some M9) : Met l yX7_choose (mm_ws yX7_choose cX7_choose 4 none) rmX7_choose (va_Pc [.ref (mm_lo G + 731), .int x1] (mm_B G (kR, 740, M))) (mm_Qv G (kR, 740, M9)) 0 0 (mm_A G) := by
  refine mm_met (cc := cX7_choose) (nL := 4) (ret := none) plRX7 (Nat.le_of_ble_eq_true rfl) ?_
  intro p e s m below meth c ls hin C hM hS hl
  have C : mm_C G p s m _ meth c RX7 cX7_choose 4 none := C
  have hM : mm_P G kR 740 M s.heap := hM
  have hl : lv_has ls 4 [(0, .ref (mm_lo G + 731)), (1, .int x1)] := hl
  obtain ⟨hx, hb, -, -, -, -, -, -, hZ, -⟩ := id C
  rw [fX7_choose] at heq
  refine lv_iconst (v := 0) hx hb dX7_choose_0 (by decide) ?_
  refine lv_istore_n (lv' := [(2, .int 0), (0, .ref (mm_lo G + 731)), (1, .int x1)]) hx hb dX7_choose_1 rfl hl (by decide) rfl (fun ls hl => ?_)
  exact tX7_choose_2 C x1 FU _ _ _ _ _ hM hS (lv_sub hl [1, 2, 0] rfl) heq

set_option maxRecDepth 100000 in
set_option maxHeartbeats 4000000 in
theorem tX7_isToDraw (l : Launch) (G : mm_G) (M : mm_M) (x1 : Int32) (r : Bool) (heq : fX7_isToDraw M x1 = some r) : Met l yX7_isToDraw (mm_ws yX7_isToDraw cX7_isToDraw 2 (some .boolean)) rmX7_isToDraw (va_Pc [.ref (mm_lo G + 731), .int x1] (mm_B G (kR, 740, M))) (mm_Qi G (b2i r) (kR, 740, M)) 0 0 (mm_A G) := by
  refine mm_met (cc := cX7_isToDraw) (nL := 2) (ret := (some .boolean)) plRX7 (Nat.le_of_ble_eq_true rfl) ?_
  intro p e s m below meth c ls hin C hM hS hl
  have C : mm_C G p s m _ meth c RX7 cX7_isToDraw 2 (some .boolean) := C
  have hM : mm_P G kR 740 M s.heap := hM
  have hl : lv_has ls 2 [(0, .ref (mm_lo G + 731)), (1, .int x1)] := hl
  obtain ⟨hx, hb, -, -, -, -, -, -, hZ, -⟩ := id C
  rw [fX7_isToDraw] at heq
  refine lv_aload_n hx hb dX7_isToDraw_0 rfl (lv_at hl 0 rfl) ?_
  refine lv_iload_n hx hb dX7_isToDraw_1 rfl (lv_at hl 1 rfl) ?_
  refine lv_bipush (v := 19) hx hb dX7_isToDraw_2 (by decide) ?_
  obtain ⟨r2, e1, heq⟩ := bn_of heq
  refine mm_ki hS (mm_runV (rest := []) C hM hS (tX7_of l G M x1 19 r2 e1) (uX7_66 _ (Nat.le_of_ble_eq_true rfl) (Nat.le_of_ble_eq_true rfl)) (mm_recv C hM (kl (rfl : kT 731 = (6, 0))) (ci := 6) rfl (mm_e6 (rfl : kT 731 = (6, 0)))) hl.1 rfl rfl (Nat.le_of_ble_eq_true rfl) ⟨Nat.zero_le _, Nat.zero_le _⟩ dX7_isToDraw_4) (fun H locs hM hS => ?_)
  have hM : mm_P G kR 740 M H := hM
  refine lv_iconst (v := 1) hx hb dX7_isToDraw_7 (by decide) ?_
  refine lv_icmp_ne (tgt := 25) hx hb dX7_isToDraw_8 (by decide) (fun c3 => ?_) (fun c3 => ?_)
  · have heq := if_f c3 heq
    refine lv_iconst (v := 0) hx hb dX7_isToDraw_25 (by decide) ?_
    cases heq
    exact mm_zret C hM hS dX7_isToDraw_26
  · have heq := if_t c3 heq
    refine lv_aload_n hx hb dX7_isToDraw_11 rfl (lv_at hl 0 rfl) ?_
    refine lv_iload_n hx hb dX7_isToDraw_12 rfl (lv_at hl 1 rfl) ?_
    refine lv_bipush (v := 14) hx hb dX7_isToDraw_13 (by decide) ?_
    obtain ⟨r5, e4, heq⟩ := bn_of heq
    refine mm_ki hS (mm_runV (rest := []) C hM hS (tX7_of l G M x1 14 r5 e4) (uX7_66 _ (Nat.le_of_ble_eq_true rfl) (Nat.le_of_ble_eq_true rfl)) (mm_recv C hM (kl (rfl : kT 731 = (6, 0))) (ci := 6) rfl (mm_e6 (rfl : kT 731 = (6, 0)))) hl.1 rfl rfl (Nat.le_of_ble_eq_true rfl) ⟨Nat.zero_le _, Nat.zero_le _⟩ dX7_isToDraw_15) (fun H locs hM hS => ?_)
    have hM : mm_P G kR 740 M H := hM
    refine lv_if_ge (tgt := 25) hx hb dX7_isToDraw_18 (by decide) (fun c6 => ?_) (fun c6 => ?_)
    · have heq := if_t c6 heq
      refine lv_iconst (v := 0) hx hb dX7_isToDraw_25 (by decide) ?_
      cases heq
      exact mm_zret C hM hS dX7_isToDraw_26
    · have heq := if_f c6 heq
      refine lv_iconst (v := 1) hx hb dX7_isToDraw_21 (by decide) ?_
      refine lv_goto (tgt := 26) hx hb dX7_isToDraw_22 (by decide) ?_
      cases heq
      exact mm_zret C hM hS dX7_isToDraw_26

set_option maxRecDepth 100000 in
set_option maxHeartbeats 4000000 in
theorem tX7_ticketsOf (l : Launch) (G : mm_G) (M : mm_M) (x1 : Int32) (r : Int32) (heq : fX7_ticketsOf M x1 = some r) : Met l yX7_ticketsOf (mm_ws yX7_ticketsOf cX7_ticketsOf 3 (some .int)) rmX7_ticketsOf (va_Pc [.ref (mm_lo G + 731), .int x1] (mm_B G (kR, 740, M))) (mm_Qi G r (kR, 740, M)) 0 0 (mm_A G) := by
  refine mm_met (cc := cX7_ticketsOf) (nL := 3) (ret := (some .int)) plRX7 (Nat.le_of_ble_eq_true rfl) ?_
  intro p e s m below meth c ls hin C hM hS hl
  have C : mm_C G p s m _ meth c RX7 cX7_ticketsOf 3 (some .int) := C
  have hM : mm_P G kR 740 M s.heap := hM
  have hl : lv_has ls 3 [(0, .ref (mm_lo G + 731)), (1, .int x1)] := hl
  obtain ⟨hx, hb, -, -, -, -, -, -, hZ, -⟩ := id C
  rw [fX7_ticketsOf] at heq
  refine lv_iconst (v := 1) hx hb dX7_ticketsOf_0 (by decide) ?_
  refine lv_aload_n hx hb dX7_ticketsOf_1 rfl (lv_at hl 0 rfl) ?_
  refine lv_iload_n hx hb dX7_ticketsOf_2 rfl (lv_at hl 1 rfl) ?_
  refine lv_bipush (v := 6) hx hb dX7_ticketsOf_3 (by decide) ?_
  obtain ⟨r2, e1, heq⟩ := bn_of heq
  refine mm_ki hS (mm_runV (rest := [.int 1]) C hM hS (tX7_of l G M x1 6 r2 e1) (uX7_66 _ (Nat.le_of_ble_eq_true rfl) (Nat.le_of_ble_eq_true rfl)) (mm_recv C hM (kl (rfl : kT 731 = (6, 0))) (ci := 6) rfl (mm_e6 (rfl : kT 731 = (6, 0)))) hl.1 rfl rfl (Nat.le_of_ble_eq_true rfl) ⟨Nat.zero_le _, Nat.zero_le _⟩ dX7_ticketsOf_5) (fun H locs hM hS => ?_)
  have hM : mm_P G kR 740 M H := hM
  refine lv_iadd hx hb dX7_ticketsOf_8 ?_
  refine lv_topi (fun y3 ey3 => ?_)
  have heq := lt_to ey3 heq
  refine lv_istore_n (lv' := [(2, .int y3), (0, .ref (mm_lo G + 731)), (1, .int x1)]) hx hb dX7_ticketsOf_9 rfl hl (by decide) rfl (fun ls hl => ?_)
  refine lv_iload_n hx hb dX7_ticketsOf_10 rfl (lv_at hl 0 rfl) ?_
  refine lv_aload_n hx hb dX7_ticketsOf_11 rfl (lv_at hl 1 rfl) ?_
  refine gX7_7 C hM (kl (rfl : kT 731 = (6, 0))) (rfl : kT 731 = (6, 0)) (rfl : kR 731 0 = some 732) dX7_ticketsOf_12 ?_
  refine lv_iconst (v := 0) hx hb dX7_ticketsOf_15 (by decide) ?_
  refine mm_ildk C hM (kl (rfl : kT 732 = (8, 3592))) (rfl : kT 732 = (8, 3592)) (vp_in_of2 (by decide)) (by decide : (0 : Int32).toNatClampNeg = 0) dX7_ticketsOf_16 ?_
  refine lv_icmp_ge (tgt := 24) hx hb dX7_ticketsOf_17 (by decide) (fun c4 => ?_) (fun c4 => ?_)
  · have heq := if_t c4 heq
    refine lv_aload_n hx hb dX7_ticketsOf_24 rfl (lv_at hl 1 rfl) ?_
    refine gX7_7 C hM (kl (rfl : kT 731 = (6, 0))) (rfl : kT 731 = (6, 0)) (rfl : kR 731 0 = some 732) dX7_ticketsOf_25 ?_
    refine lv_iconst (v := 0) hx hb dX7_ticketsOf_28 (by decide) ?_
    refine mm_ildk C hM (kl (rfl : kT 732 = (8, 3592))) (rfl : kT 732 = (8, 3592)) (vp_in_of2 (by decide)) (by decide : (0 : Int32).toNatClampNeg = 0) dX7_ticketsOf_29 ?_
    cases heq
    exact mm_iret C hM hS dX7_ticketsOf_30
  · have heq := if_f c4 heq
    refine lv_iload_n hx hb dX7_ticketsOf_20 rfl (lv_at hl 0 rfl) ?_
    refine lv_goto (tgt := 30) hx hb dX7_ticketsOf_21 (by decide) ?_
    cases heq
    exact mm_iret C hM hS dX7_ticketsOf_30

set_option maxRecDepth 100000 in
set_option maxHeartbeats 4000000 in
theorem tX7_drawOne_52 (C : mm_C G p s m args meth c RX7 cX7_drawOne 4 (some .int)) (x1 : Int32) {r : Int32} {M9 : mm_M} {k35 : mm_M → Int32 → Int32 → Option (Int32 × mm_M)} (hk35 : ∀ (M : mm_M) (v2 : Int32) (v3 : Int32) (H : Heap) (locs : List Loc) (ls : Array Slot), mm_P G kR 740 M H → va_S (mm_A G) s.heap H locs → lv_has ls 4 [(0, .ref (mm_lo G + 731)), (2, .int v2), (3, .int v3)] → k35 M v2 v3 = some (r, M9) → W p l e rmX7_drawOne s m args below meth c H locs 0 0 (MQ below (mm_Qi G r (kR, 740, M9)) args s 0 0 (mm_A G)) (F0 m 35 ls [])) : ∀ (M : mm_M) (v2 : Int32) (v3 : Int32) (H : Heap) (locs : List Loc) (ls : Array Slot), mm_P G kR 740 M H → va_S (mm_A G) s.heap H locs → lv_has ls 4 [(0, .ref (mm_lo G + 731)), (2, .int v2), (3, .int v3)] → fX7_drawOne_52 x1 k35 M v2 v3 = some (r, M9) → W p l e rmX7_drawOne s m args below meth c H locs 0 0 (MQ below (mm_Qi G r (kR, 740, M9)) args s 0 0 (mm_A G)) (F0 m 52 ls []) := by
  obtain ⟨hx, hb, -, -, -, -, -, -, hZ, -⟩ := id C
  intro M v2 v3 H locs ls hM hS hl heq
  rw [fX7_drawOne_52] at heq
  refine lv_iload_n hx hb dX7_drawOne_52 rfl (lv_at hl 1 rfl) ?_
  refine lv_aload_n hx hb dX7_drawOne_53 rfl (lv_at hl 0 rfl) ?_
  refine lv_iload_n hx hb dX7_drawOne_54 rfl (lv_at hl 2 rfl) ?_
  obtain ⟨r2, e1, heq⟩ := bn_of heq
  refine mm_ki hS (mm_runV (rest := [.int v2]) C hM hS (tX7_isToDraw l G M v3 r2 e1) (uX7_126 _ (Nat.le_of_ble_eq_true rfl) (Nat.le_of_ble_eq_true rfl)) (mm_recv C hM (kl (rfl : kT 731 = (6, 0))) (ci := 6) rfl (mm_e6 (rfl : kT 731 = (6, 0)))) hl.1 rfl rfl (Nat.le_of_ble_eq_true rfl) ⟨Nat.zero_le _, Nat.zero_le _⟩ dX7_drawOne_55) (fun H locs hM hS => ?_)
  have hM : mm_P G kR 740 M H := hM
  refine mm_ifeqZ (tgt := 69) C dX7_drawOne_58 (by decide) (fun c3 => ?_) (fun c3 => ?_)
  · have heq := if_f c3 heq
    refine lv_iconst (v := 0) hx hb dX7_drawOne_69 (by decide) ?_
    refine lv_isub hx hb dX7_drawOne_70 ?_
    refine lv_topi (fun y4 ey4 => ?_)
    have heq := lt_to ey4 heq
    refine lv_istore_n (lv' := [(2, .int y4), (0, .ref (mm_lo G + 731)), (3, .int v3)]) hx hb dX7_drawOne_71 rfl hl (by decide) rfl (fun ls hl => ?_)
    obtain ⟨y5, ey5⟩ : ∃ y : Int32, y = (v3 + 1) := ⟨_, rfl⟩
    have heq := lt_to ey5 heq
    refine lv_iinc (v := y5) (lv' := [(3, .int y5), (2, .int y4), (0, .ref (mm_lo G + 731))]) hx hb dX7_drawOne_72 hl (k := 2) rfl (by rw [ey5]; rfl) (by decide) rfl (fun ls hl => ?_)
    refine lv_goto (tgt := 35) hx hb dX7_drawOne_75 (by decide) ?_
    exact hk35 _ _ _ _ _ _ hM hS (lv_sub hl [2, 1, 0] rfl) heq
  · have heq := if_t c3 heq
    refine lv_aload_n hx hb dX7_drawOne_61 rfl (lv_at hl 0 rfl) ?_
    refine lv_iload_n hx hb dX7_drawOne_62 rfl (lv_at hl 2 rfl) ?_
    obtain ⟨r7, e6, heq⟩ := bn_of heq
    refine mm_ki hS (mm_runV (rest := [.int v2]) C hM hS (tX7_ticketsOf l G M v3 r7 e6) (uX7_129 _ (Nat.le_of_ble_eq_true rfl) (Nat.le_of_ble_eq_true rfl)) (mm_recv C hM (kl (rfl : kT 731 = (6, 0))) (ci := 6) rfl (mm_e6 (rfl : kT 731 = (6, 0)))) hl.1 rfl rfl (Nat.le_of_ble_eq_true rfl) ⟨Nat.zero_le _, Nat.zero_le _⟩ dX7_drawOne_63) (fun H locs hM hS => ?_)
    have hM : mm_P G kR 740 M H := hM
    refine lv_goto (tgt := 70) hx hb dX7_drawOne_66 (by decide) ?_
    refine lv_isub hx hb dX7_drawOne_70 ?_
    refine lv_topi (fun y8 ey8 => ?_)
    have heq := lt_to ey8 heq
    refine lv_istore_n (lv' := [(2, .int y8), (0, .ref (mm_lo G + 731)), (3, .int v3)]) hx hb dX7_drawOne_71 rfl hl (by decide) rfl (fun ls hl => ?_)
    obtain ⟨y9, ey9⟩ : ∃ y : Int32, y = (v3 + 1) := ⟨_, rfl⟩
    have heq := lt_to ey9 heq
    refine lv_iinc (v := y9) (lv' := [(3, .int y9), (2, .int y8), (0, .ref (mm_lo G + 731))]) hx hb dX7_drawOne_72 hl (k := 2) rfl (by rw [ey9]; rfl) (by decide) rfl (fun ls hl => ?_)
    refine lv_goto (tgt := 35) hx hb dX7_drawOne_75 (by decide) ?_
    exact hk35 _ _ _ _ _ _ hM hS (lv_sub hl [2, 1, 0] rfl) heq

set_option maxRecDepth 100000 in
set_option maxHeartbeats 4000000 in
theorem tX7_drawOne_35 (C : mm_C G p s m args meth c RX7 cX7_drawOne 4 (some .int)) (x1 : Int32) {r : Int32} {M9 : mm_M} : ∀ n : Nat, ∀ (M : mm_M) (v2 : Int32) (v3 : Int32) (H : Heap) (locs : List Loc) (ls : Array Slot), mm_P G kR 740 M H → va_S (mm_A G) s.heap H locs → lv_has ls 4 [(0, .ref (mm_lo G + 731)), (2, .int v2), (3, .int v3)] → fX7_drawOne_35 x1 n M v2 v3 = some (r, M9) → W p l e rmX7_drawOne s m args below meth c H locs 0 0 (MQ below (mm_Qi G r (kR, 740, M9)) args s 0 0 (mm_A G)) (F0 m 35 ls []) := by
  obtain ⟨hx, hb, -, -, -, -, -, -, hZ, -⟩ := id C
  intro n
  induction n with
  | zero =>
    intro M v2 v3 H locs ls hM hS hl heq
    rw [fX7_drawOne_35] at heq
    cases heq
  | succ n ih =>
    intro M v2 v3 H locs ls hM hS hl heq
    rw [fX7_drawOne_35] at heq
    refine lv_aload_n hx hb dX7_drawOne_35 rfl (lv_at hl 0 rfl) ?_
    refine lv_iload_n hx hb dX7_drawOne_36 rfl (lv_at hl 2 rfl) ?_
    obtain ⟨r2, e1, heq⟩ := bn_of heq
    refine mm_ki hS (mm_runV (rest := []) C hM hS (tX7_isToDraw l G M v3 r2 e1) (uX7_126 _ (Nat.le_of_ble_eq_true rfl) (Nat.le_of_ble_eq_true rfl)) (mm_recv C hM (kl (rfl : kT 731 = (6, 0))) (ci := 6) rfl (mm_e6 (rfl : kT 731 = (6, 0)))) hl.1 rfl rfl (Nat.le_of_ble_eq_true rfl) ⟨Nat.zero_le _, Nat.zero_le _⟩ dX7_drawOne_37) (fun H locs hM hS => ?_)
    have hM : mm_P G kR 740 M H := hM
    refine mm_ifeqZ (tgt := 52) C dX7_drawOne_40 (by decide) (fun c3 => ?_) (fun c3 => ?_)
    · have heq := if_f c3 heq
      exact tX7_drawOne_52 C x1 ih _ _ _ _ _ _ hM hS (lv_sub hl [0, 1, 2] rfl) heq
    · have heq := if_t c3 heq
      refine lv_iload_n hx hb dX7_drawOne_43 rfl (lv_at hl 1 rfl) ?_
      refine lv_aload_n hx hb dX7_drawOne_44 rfl (lv_at hl 0 rfl) ?_
      refine lv_iload_n hx hb dX7_drawOne_45 rfl (lv_at hl 2 rfl) ?_
      obtain ⟨r5, e4, heq⟩ := bn_of heq
      refine mm_ki hS (mm_runV (rest := [.int v2]) C hM hS (tX7_ticketsOf l G M v3 r5 e4) (uX7_129 _ (Nat.le_of_ble_eq_true rfl) (Nat.le_of_ble_eq_true rfl)) (mm_recv C hM (kl (rfl : kT 731 = (6, 0))) (ci := 6) rfl (mm_e6 (rfl : kT 731 = (6, 0)))) hl.1 rfl rfl (Nat.le_of_ble_eq_true rfl) ⟨Nat.zero_le _, Nat.zero_le _⟩ dX7_drawOne_46) (fun H locs hM hS => ?_)
      have hM : mm_P G kR 740 M H := hM
      refine lv_icmp_lt (tgt := 78) hx hb dX7_drawOne_49 (by decide) (fun c6 => ?_) (fun c6 => ?_)
      · have heq := if_t c6 heq
        refine lv_iload_n hx hb dX7_drawOne_78 rfl (lv_at hl 2 rfl) ?_
        cases heq
        exact mm_iret C hM hS dX7_drawOne_79
      · have heq := if_f c6 heq
        exact tX7_drawOne_52 C x1 ih _ _ _ _ _ _ hM hS (lv_sub hl [0, 1, 2] rfl) heq

set_option maxRecDepth 100000 in
set_option maxHeartbeats 4000000 in
theorem tX7_drawOne (l : Launch) (G : mm_G) (M : mm_M) (x1 : Int32) (r : Int32) (M9 : mm_M) (heq : fX7_drawOne M x1 = some (r, M9)) : Met l yX7_drawOne (mm_ws yX7_drawOne cX7_drawOne 4 (some .int)) rmX7_drawOne (va_Pc [.ref (mm_lo G + 731), .int x1] (mm_B G (kR, 740, M))) (mm_Qi G r (kR, 740, M9)) 0 0 (mm_A G) := by
  refine mm_met (cc := cX7_drawOne) (nL := 4) (ret := (some .int)) plRX7 (Nat.le_of_ble_eq_true rfl) ?_
  intro p e s m below meth c ls hin C hM hS hl
  have C : mm_C G p s m _ meth c RX7 cX7_drawOne 4 (some .int) := C
  have hM : mm_P G kR 740 M s.heap := hM
  have hl : lv_has ls 4 [(0, .ref (mm_lo G + 731)), (1, .int x1)] := hl
  obtain ⟨hx, hb, -, -, -, -, -, -, hZ, -⟩ := id C
  rw [fX7_drawOne] at heq
  refine lv_aload_n hx hb dX7_drawOne_0 rfl (lv_at hl 0 rfl) ?_
  refine gX7_7 C hM (kl (rfl : kT 731 = (6, 0))) (rfl : kT 731 = (6, 0)) (rfl : kR 731 0 = some 732) dX7_drawOne_1 ?_
  refine lv_bipush (v := 11) hx hb dX7_drawOne_4 (by decide) ?_
  refine lv_bipush (v := 75) hx hb dX7_drawOne_6 (by decide) ?_
  refine lv_aload_n hx hb dX7_drawOne_8 rfl (lv_at hl 0 rfl) ?_
  refine gX7_7 C hM (kl (rfl : kT 731 = (6, 0))) (rfl : kT 731 = (6, 0)) (rfl : kR 731 0 = some 732) dX7_drawOne_9 ?_
  refine lv_bipush (v := 11) hx hb dX7_drawOne_12 (by decide) ?_
  refine mm_ildk C hM (kl (rfl : kT 732 = (8, 3592))) (rfl : kT 732 = (8, 3592)) (vp_in_of2 (by decide)) (by decide : (11 : Int32).toNatClampNeg = 11) dX7_drawOne_14 ?_
  refine lv_imul hx hb dX7_drawOne_15 ?_
  refine lv_bipush (v := 74) hx hb dX7_drawOne_16 (by decide) ?_
  refine lv_iadd hx hb dX7_drawOne_18 ?_
  refine mm_ldc C kX7_125 dX7_drawOne_19 ?_
  refine lv_irem hx hb dX7_drawOne_21 (by decide) ?_
  refine mm_istk C hM hS (kl (rfl : kT 732 = (8, 3592))) (rfl : kT 732 = (8, 3592)) (vp_in_of2 (by decide)) (by decide : (11 : Int32).toNatClampNeg = 11) dX7_drawOne_22 (fun H locs hM hS _ => ?_)
  obtain ⟨M1, eM1⟩ : ∃ z : mm_M, z = sI M 732 11 (((75 * (M.1 732 11)) + 74) - ((75 * (M.1 732 11)) + 74) / 65537 * 65537) := ⟨_, rfl⟩
  rw [← eM1] at hM
  have heq := lt_to eM1 heq
  refine lv_aload_n hx hb dX7_drawOne_23 rfl (lv_at hl 0 rfl) ?_
  refine gX7_7 C hM (kl (rfl : kT 731 = (6, 0))) (rfl : kT 731 = (6, 0)) (rfl : kR 731 0 = some 732) dX7_drawOne_24 ?_
  refine lv_bipush (v := 11) hx hb dX7_drawOne_27 (by decide) ?_
  refine mm_ildk C hM (kl (rfl : kT 732 = (8, 3592))) (rfl : kT 732 = (8, 3592)) (vp_in_of2 (by decide)) (by decide : (11 : Int32).toNatClampNeg = 11) dX7_drawOne_29 ?_
  refine lv_iload_n hx hb dX7_drawOne_30 rfl (lv_at hl 1 rfl) ?_
  obtain ⟨g2, heq⟩ := gd_of heq
  refine lv_irem hx hb dX7_drawOne_31 g2 ?_
  refine lv_topi (fun y3 ey3 => ?_)
  have heq := lt_to ey3 heq
  refine lv_istore_n (lv' := [(2, .int y3), (0, .ref (mm_lo G + 731)), (1, .int x1)]) hx hb dX7_drawOne_32 rfl hl (by decide) rfl (fun ls hl => ?_)
  refine lv_iconst (v := 0) hx hb dX7_drawOne_33 (by decide) ?_
  refine lv_istore_n (lv' := [(3, .int 0), (2, .int y3), (0, .ref (mm_lo G + 731)), (1, .int x1)]) hx hb dX7_drawOne_34 rfl hl (by decide) rfl (fun ls hl => ?_)
  exact tX7_drawOne_35 C x1 FU _ _ _ _ _ _ hM hS (lv_sub hl [2, 1, 0] rfl) heq

set_option maxRecDepth 100000 in
set_option maxHeartbeats 4000000 in
theorem tX7_drawAll_62 (C : mm_C G p s m args meth c RX7 cX7_drawAll 5 none)  {M9 : mm_M} {k4 : mm_M → Int32 → Bool → Option (mm_M)} (hk4 : ∀ (M : mm_M) (v1 : Int32) (v2 : Bool) (H : Heap) (locs : List Loc) (ls : Array Slot), mm_P G kR 740 M H → va_S (mm_A G) s.heap H locs → lv_has ls 5 [(0, .ref (mm_lo G + 731)), (1, .int v1), (2, .int (b2i v2))] → k4 M v1 v2 = some M9 → W p l e rmX7_drawAll s m args below meth c H locs 0 0 (MQ below (mm_Qv G (kR, 740, M9)) args s 0 0 (mm_A G)) (F0 m 4 ls [])) : ∀ (M : mm_M) (v1 : Int32) (v3 : Int32) (t0 : Bool) (H : Heap) (locs : List Loc) (ls : Array Slot), mm_P G kR 740 M H → va_S (mm_A G) s.heap H locs → lv_has ls 5 [(0, .ref (mm_lo G + 731)), (1, .int v1), (3, .int v3)] → fX7_drawAll_62 k4 M v1 v3 t0 = some M9 → W p l e rmX7_drawAll s m args below meth c H locs 0 0 (MQ below (mm_Qv G (kR, 740, M9)) args s 0 0 (mm_A G)) (F0 m 62 ls [.int (b2i t0)]) := by
  obtain ⟨hx, hb, -, -, -, -, -, -, hZ, -⟩ := id C
  intro M v1 v3 t0 H locs ls hM hS hl heq
  rw [fX7_drawAll_62] at heq
  refine lv_istore_n (lv' := [(2, .int (b2i t0)), (0, .ref (mm_lo G + 731)), (1, .int v1), (3, .int v3)]) hx hb dX7_drawAll_62 rfl hl (by decide) rfl (fun ls hl => ?_)
  refine lv_iload_n hx hb dX7_drawAll_63 rfl (lv_at hl 0 rfl) ?_
  refine mm_ifeqZ (tgt := 92) C dX7_drawAll_64 (by decide) (fun c1 => ?_) (fun c1 => ?_)
  · have heq := if_f c1 heq
    refine lv_goto (tgt := 4) hx hb dX7_drawAll_92 (by decide) ?_
    exact hk4 _ _ _ _ _ _ hM hS (lv_sub hl [1, 2, 0] rfl) heq
  · have heq := if_t c1 heq
    refine lv_aload_n hx hb dX7_drawAll_67 rfl (lv_at hl 1 rfl) ?_
    refine lv_iload_n hx hb dX7_drawAll_68 rfl (lv_at hl 3 rfl) ?_
    obtain ⟨r3, M4, e2, heq⟩ := bn2_of heq
    refine mm_ki hS (mm_runV (rest := []) C hM hS (tX7_drawOne l G M v3 r3 M4 e2) (uX7_132 _ (Nat.le_of_ble_eq_true rfl) (Nat.le_of_ble_eq_true rfl)) (mm_recv C hM (kl (rfl : kT 731 = (6, 0))) (ci := 6) rfl (mm_e6 (rfl : kT 731 = (6, 0)))) hl.1 rfl rfl (Nat.le_of_ble_eq_true rfl) ⟨Nat.zero_le _, Nat.zero_le _⟩ dX7_drawAll_69) (fun H locs hM hS => ?_)
    have hM : mm_P G kR 740 M4 H := hM
    refine lv_istore (lv' := [(4, .int r3), (2, .int (b2i t0)), (0, .ref (mm_lo G + 731)), (1, .int v1), (3, .int v3)]) hx hb dX7_drawAll_72 hl (by decide) rfl (fun ls hl => ?_)
    refine lv_aload_n hx hb dX7_drawAll_74 rfl (lv_at hl 2 rfl) ?_
    refine lv_iload hx hb dX7_drawAll_75 (lv_at hl 0 rfl) ?_
    refine lv_bipush (v := 14) hx hb dX7_drawAll_77 (by decide) ?_
    refine lv_iload_n hx hb dX7_drawAll_79 rfl (lv_at hl 3 rfl) ?_
    obtain ⟨M6, e5, heq⟩ := bn_of heq
    refine mm_kv hS (mm_runV (rest := []) C hM hS (tX7_lay l G M4 r3 14 v1 M6 e5) (uX7_62 _ (Nat.le_of_ble_eq_true rfl) (Nat.le_of_ble_eq_true rfl)) (mm_recv C hM (kl (rfl : kT 731 = (6, 0))) (ci := 6) rfl (mm_e6 (rfl : kT 731 = (6, 0)))) hl.1 rfl rfl (Nat.le_of_ble_eq_true rfl) ⟨Nat.zero_le _, Nat.zero_le _⟩ dX7_drawAll_80) (fun H locs hM hS => ?_)
    have hM : mm_P G kR 740 M6 H := hM
    obtain ⟨y7, ey7⟩ : ∃ y : Int32, y = (v1 + 1) := ⟨_, rfl⟩
    have heq := lt_to ey7 heq
    refine lv_iinc (v := y7) (lv' := [(1, .int y7), (4, .int r3), (2, .int (b2i t0)), (0, .ref (mm_lo G + 731)), (3, .int v3)]) hx hb dX7_drawAll_83 hl (k := 3) rfl (by rw [ey7]; rfl) (by decide) rfl (fun ls hl => ?_)
    refine lv_aload_n hx hb dX7_drawAll_86 rfl (lv_at hl 3 rfl) ?_
    refine lv_iload hx hb dX7_drawAll_87 (lv_at hl 1 rfl) ?_
    obtain ⟨M9, e8, heq⟩ := bn_of heq
    refine mm_kv hS (mm_runV (rest := []) C hM hS (tX7_choose l G M6 r3 M9 e8) (uX7_135 _ (Nat.le_of_ble_eq_true rfl) (Nat.le_of_ble_eq_true rfl)) (mm_recv C hM (kl (rfl : kT 731 = (6, 0))) (ci := 6) rfl (mm_e6 (rfl : kT 731 = (6, 0)))) hl.1 rfl rfl (Nat.le_of_ble_eq_true rfl) ⟨Nat.zero_le _, Nat.zero_le _⟩ dX7_drawAll_89) (fun H locs hM hS => ?_)
    have hM : mm_P G kR 740 M9 H := hM
    refine lv_goto (tgt := 4) hx hb dX7_drawAll_92 (by decide) ?_
    exact hk4 _ _ _ _ _ _ hM hS (lv_sub hl [3, 0, 2] rfl) heq

set_option maxRecDepth 100000 in
set_option maxHeartbeats 4000000 in
theorem tX7_drawAll_13 (C : mm_C G p s m args meth c RX7 cX7_drawAll 5 none)  {M9 : mm_M} {k4 : mm_M → Int32 → Bool → Option (mm_M)} (hk4 : ∀ (M : mm_M) (v1 : Int32) (v2 : Bool) (H : Heap) (locs : List Loc) (ls : Array Slot), mm_P G kR 740 M H → va_S (mm_A G) s.heap H locs → lv_has ls 5 [(0, .ref (mm_lo G + 731)), (1, .int v1), (2, .int (b2i v2))] → k4 M v1 v2 = some M9 → W p l e rmX7_drawAll s m args below meth c H locs 0 0 (MQ below (mm_Qv G (kR, 740, M9)) args s 0 0 (mm_A G)) (F0 m 4 ls [])) : ∀ n : Nat, ∀ (M : mm_M) (v1 : Int32) (v3 : Int32) (v4 : Int32) (H : Heap) (locs : List Loc) (ls : Array Slot), mm_P G kR 740 M H → va_S (mm_A G) s.heap H locs → lv_has ls 5 [(0, .ref (mm_lo G + 731)), (1, .int v1), (3, .int v3), (4, .int v4)] → fX7_drawAll_13 k4 n M v1 v3 v4 = some M9 → W p l e rmX7_drawAll s m args below meth c H locs 0 0 (MQ below (mm_Qv G (kR, 740, M9)) args s 0 0 (mm_A G)) (F0 m 13 ls []) := by
  obtain ⟨hx, hb, -, -, -, -, -, -, hZ, -⟩ := id C
  intro n
  induction n with
  | zero =>
    intro M v1 v3 v4 H locs ls hM hS hl heq
    rw [fX7_drawAll_13] at heq
    cases heq
  | succ n ih =>
    intro M v1 v3 v4 H locs ls hM hS hl heq
    rw [fX7_drawAll_13] at heq
    refine lv_iload hx hb dX7_drawAll_13 (lv_at hl 3 rfl) ?_
    refine lv_aload_n hx hb dX7_drawAll_15 rfl (lv_at hl 0 rfl) ?_
    refine gX7_7 C hM (kl (rfl : kT 731 = (6, 0))) (rfl : kT 731 = (6, 0)) (rfl : kR 731 0 = some 732) dX7_drawAll_16 ?_
    refine lv_bipush (v := 13) hx hb dX7_drawAll_19 (by decide) ?_
    refine mm_ildk C hM (kl (rfl : kT 732 = (8, 3592))) (rfl : kT 732 = (8, 3592)) (vp_in_of2 (by decide)) (by decide : (13 : Int32).toNatClampNeg = 13) dX7_drawAll_21 ?_
    refine lv_icmp_ge (tgt := 53) hx hb dX7_drawAll_22 (by decide) (fun c1 => ?_) (fun c1 => ?_)
    · have heq := if_t c1 heq
      refine lv_iload_n hx hb dX7_drawAll_53 rfl (lv_at hl 2 rfl) ?_
      refine lv_if_le (tgt := 61) hx hb dX7_drawAll_54 (by decide) (fun c2 => ?_) (fun c2 => ?_)
      · have heq := if_t c2 heq
        refine lv_iconst (v := 0) hx hb dX7_drawAll_61 (by decide) ?_
        exact tX7_drawAll_62 C hk4 _ _ _ _ _ _ _ hM hS (lv_sub hl [0, 1, 2] rfl) heq
      · have heq := if_f c2 heq
        refine lv_iconst (v := 1) hx hb dX7_drawAll_57 (by decide) ?_
        refine lv_goto (tgt := 62) hx hb dX7_drawAll_58 (by decide) ?_
        exact tX7_drawAll_62 C hk4 _ _ _ _ _ _ _ hM hS (lv_sub hl [0, 1, 2] rfl) heq
    · have heq := if_f c1 heq
      refine lv_iload_n hx hb dX7_drawAll_25 rfl (lv_at hl 2 rfl) ?_
      refine lv_aload_n hx hb dX7_drawAll_26 rfl (lv_at hl 0 rfl) ?_
      refine lv_iload hx hb dX7_drawAll_27 (lv_at hl 3 rfl) ?_
      obtain ⟨r4, e3, heq⟩ := bn_of heq
      refine mm_ki hS (mm_runV (rest := [.int v3]) C hM hS (tX7_isToDraw l G M v4 r4 e3) (uX7_126 _ (Nat.le_of_ble_eq_true rfl) (Nat.le_of_ble_eq_true rfl)) (mm_recv C hM (kl (rfl : kT 731 = (6, 0))) (ci := 6) rfl (mm_e6 (rfl : kT 731 = (6, 0)))) hl.1 rfl rfl (Nat.le_of_ble_eq_true rfl) ⟨Nat.zero_le _, Nat.zero_le _⟩ dX7_drawAll_29) (fun H locs hM hS => ?_)
      have hM : mm_P G kR 740 M H := hM
      refine mm_ifeqZ (tgt := 44) C dX7_drawAll_32 (by decide) (fun c5 => ?_) (fun c5 => ?_)
      · have heq := if_f c5 heq
        refine lv_iconst (v := 0) hx hb dX7_drawAll_44 (by decide) ?_
        refine lv_iadd hx hb dX7_drawAll_45 ?_
        refine lv_topi (fun y6 ey6 => ?_)
        have heq := lt_to ey6 heq
        refine lv_istore_n (lv' := [(3, .int y6), (0, .ref (mm_lo G + 731)), (1, .int v1), (4, .int v4)]) hx hb dX7_drawAll_46 rfl hl (by decide) rfl (fun ls hl => ?_)
        obtain ⟨y7, ey7⟩ : ∃ y : Int32, y = (v4 + 1) := ⟨_, rfl⟩
        have heq := lt_to ey7 heq
        refine lv_iinc (v := y7) (lv' := [(4, .int y7), (3, .int y6), (0, .ref (mm_lo G + 731)), (1, .int v1)]) hx hb dX7_drawAll_47 hl (k := 3) rfl (by rw [ey7]; rfl) (by decide) rfl (fun ls hl => ?_)
        refine lv_goto (tgt := 13) hx hb dX7_drawAll_50 (by decide) ?_
        exact ih _ _ _ _ _ _ _ hM hS (lv_sub hl [2, 3, 1, 0] rfl) heq
      · have heq := if_t c5 heq
        refine lv_aload_n hx hb dX7_drawAll_35 rfl (lv_at hl 0 rfl) ?_
        refine lv_iload hx hb dX7_drawAll_36 (lv_at hl 3 rfl) ?_
        obtain ⟨r9, e8, heq⟩ := bn_of heq
        refine mm_ki hS (mm_runV (rest := [.int v3]) C hM hS (tX7_ticketsOf l G M v4 r9 e8) (uX7_129 _ (Nat.le_of_ble_eq_true rfl) (Nat.le_of_ble_eq_true rfl)) (mm_recv C hM (kl (rfl : kT 731 = (6, 0))) (ci := 6) rfl (mm_e6 (rfl : kT 731 = (6, 0)))) hl.1 rfl rfl (Nat.le_of_ble_eq_true rfl) ⟨Nat.zero_le _, Nat.zero_le _⟩ dX7_drawAll_38) (fun H locs hM hS => ?_)
        have hM : mm_P G kR 740 M H := hM
        refine lv_goto (tgt := 45) hx hb dX7_drawAll_41 (by decide) ?_
        refine lv_iadd hx hb dX7_drawAll_45 ?_
        refine lv_topi (fun y10 ey10 => ?_)
        have heq := lt_to ey10 heq
        refine lv_istore_n (lv' := [(3, .int y10), (0, .ref (mm_lo G + 731)), (1, .int v1), (4, .int v4)]) hx hb dX7_drawAll_46 rfl hl (by decide) rfl (fun ls hl => ?_)
        obtain ⟨y11, ey11⟩ : ∃ y : Int32, y = (v4 + 1) := ⟨_, rfl⟩
        have heq := lt_to ey11 heq
        refine lv_iinc (v := y11) (lv' := [(4, .int y11), (3, .int y10), (0, .ref (mm_lo G + 731)), (1, .int v1)]) hx hb dX7_drawAll_47 hl (k := 3) rfl (by rw [ey11]; rfl) (by decide) rfl (fun ls hl => ?_)
        refine lv_goto (tgt := 13) hx hb dX7_drawAll_50 (by decide) ?_
        exact ih _ _ _ _ _ _ _ hM hS (lv_sub hl [2, 3, 1, 0] rfl) heq

set_option maxRecDepth 100000 in
set_option maxHeartbeats 4000000 in
theorem tX7_drawAll_4 (C : mm_C G p s m args meth c RX7 cX7_drawAll 5 none)  {M9 : mm_M} : ∀ n : Nat, ∀ (M : mm_M) (v1 : Int32) (v2 : Bool) (H : Heap) (locs : List Loc) (ls : Array Slot), mm_P G kR 740 M H → va_S (mm_A G) s.heap H locs → lv_has ls 5 [(0, .ref (mm_lo G + 731)), (1, .int v1), (2, .int (b2i v2))] → fX7_drawAll_4 n M v1 v2 = some M9 → W p l e rmX7_drawAll s m args below meth c H locs 0 0 (MQ below (mm_Qv G (kR, 740, M9)) args s 0 0 (mm_A G)) (F0 m 4 ls []) := by
  obtain ⟨hx, hb, -, -, -, -, -, -, hZ, -⟩ := id C
  intro n
  induction n with
  | zero =>
    intro M v1 v2 H locs ls hM hS hl heq
    rw [fX7_drawAll_4] at heq
    cases heq
  | succ n ih =>
    intro M v1 v2 H locs ls hM hS hl heq
    rw [fX7_drawAll_4] at heq
    refine lv_iload_n hx hb dX7_drawAll_4 rfl (lv_at hl 2 rfl) ?_
    refine mm_ifeqZ (tgt := 95) C dX7_drawAll_5 (by decide) (fun c1 => ?_) (fun c1 => ?_)
    · have heq := if_f c1 heq
      cases heq
      exact mm_vret C hM hS dX7_drawAll_95
    · have heq := if_t c1 heq
      refine lv_iconst (v := 0) hx hb dX7_drawAll_8 (by decide) ?_
      refine lv_istore_n (lv' := [(3, .int 0), (0, .ref (mm_lo G + 731)), (1, .int v1), (2, .int (b2i v2))]) hx hb dX7_drawAll_9 rfl hl (by decide) rfl (fun ls hl => ?_)
      refine lv_iconst (v := 0) hx hb dX7_drawAll_10 (by decide) ?_
      refine lv_istore (lv' := [(4, .int 0), (3, .int 0), (0, .ref (mm_lo G + 731)), (1, .int v1), (2, .int (b2i v2))]) hx hb dX7_drawAll_11 hl (by decide) rfl (fun ls hl => ?_)
      exact tX7_drawAll_13 C ih FU _ _ _ _ _ _ _ hM hS (lv_sub hl [2, 3, 1, 0] rfl) heq

set_option maxRecDepth 100000 in
set_option maxHeartbeats 4000000 in
theorem tX7_drawAll (l : Launch) (G : mm_G) (M : mm_M)  (M9 : mm_M) (heq : fX7_drawAll M = some M9) : Met l yX7_drawAll (mm_ws yX7_drawAll cX7_drawAll 5 none) rmX7_drawAll (va_Pc [.ref (mm_lo G + 731)] (mm_B G (kR, 740, M))) (mm_Qv G (kR, 740, M9)) 0 0 (mm_A G) := by
  refine mm_met (cc := cX7_drawAll) (nL := 5) (ret := none) plRX7 (Nat.le_of_ble_eq_true rfl) ?_
  intro p e s m below meth c ls hin C hM hS hl
  have C : mm_C G p s m _ meth c RX7 cX7_drawAll 5 none := C
  have hM : mm_P G kR 740 M s.heap := hM
  have hl : lv_has ls 5 [(0, .ref (mm_lo G + 731))] := hl
  obtain ⟨hx, hb, -, -, -, -, -, -, hZ, -⟩ := id C
  rw [fX7_drawAll] at heq
  refine lv_iconst (v := 0) hx hb dX7_drawAll_0 (by decide) ?_
  refine lv_istore_n (lv' := [(1, .int 0), (0, .ref (mm_lo G + 731))]) hx hb dX7_drawAll_1 rfl hl (by decide) rfl (fun ls hl => ?_)
  refine lv_iconst (v := 1) hx hb dX7_drawAll_2 (by decide) ?_
  refine lv_istore_n (lv' := [(2, .int 1), (1, .int 0), (0, .ref (mm_lo G + 731))]) hx hb dX7_drawAll_3 rfl hl (by decide) rfl (fun ls hl => ?_)
  exact tX7_drawAll_4 C FU _ _ _ _ _ _ hM hS (lv_sub hl [2, 1, 0] rfl) heq

set_option maxRecDepth 100000 in
set_option maxHeartbeats 4000000 in
theorem tX7_drawnAt_2 (C : mm_C G p s m args meth c RX7 cX7_drawnAt 3 (some .int)) (x1 : Int32) (M : mm_M) {r : Int32} : ∀ n : Nat, ∀ (v2 : Int32) (H : Heap) (locs : List Loc) (ls : Array Slot), mm_P G kR 740 M H → va_S (mm_A G) s.heap H locs → lv_has ls 3 [(0, .ref (mm_lo G + 731)), (1, .int x1), (2, .int v2)] → fX7_drawnAt_2 x1 M n v2 = some r → W p l e rmX7_drawnAt s m args below meth c H locs 0 0 (MQ below (mm_Qi G r (kR, 740, M)) args s 0 0 (mm_A G)) (F0 m 2 ls []) := by
  obtain ⟨hx, hb, -, -, -, -, -, -, hZ, -⟩ := id C
  intro n
  induction n with
  | zero =>
    intro v2 H locs ls hM hS hl heq
    rw [fX7_drawnAt_2] at heq
    cases heq
  | succ n ih =>
    intro v2 H locs ls hM hS hl heq
    rw [fX7_drawnAt_2] at heq
    refine lv_iload_n hx hb dX7_drawnAt_2 rfl (lv_at hl 2 rfl) ?_
    refine lv_aload_n hx hb dX7_drawnAt_3 rfl (lv_at hl 0 rfl) ?_
    refine gX7_7 C hM (kl (rfl : kT 731 = (6, 0))) (rfl : kT 731 = (6, 0)) (rfl : kR 731 0 = some 732) dX7_drawnAt_4 ?_
    refine lv_bipush (v := 13) hx hb dX7_drawnAt_7 (by decide) ?_
    refine mm_ildk C hM (kl (rfl : kT 732 = (8, 3592))) (rfl : kT 732 = (8, 3592)) (vp_in_of2 (by decide)) (by decide : (13 : Int32).toNatClampNeg = 13) dX7_drawnAt_9 ?_
    refine lv_icmp_ge (tgt := 32) hx hb dX7_drawnAt_10 (by decide) (fun c1 => ?_) (fun c1 => ?_)
    · have heq := if_t c1 heq
      refine lv_bipush (v := (-6)) hx hb dX7_drawnAt_32 (by decide) ?_
      cases heq
      exact mm_iret C hM hS dX7_drawnAt_34
    · have heq := if_f c1 heq
      refine lv_aload_n hx hb dX7_drawnAt_13 rfl (lv_at hl 0 rfl) ?_
      refine lv_iload_n hx hb dX7_drawnAt_14 rfl (lv_at hl 2 rfl) ?_
      refine lv_bipush (v := 14) hx hb dX7_drawnAt_15 (by decide) ?_
      obtain ⟨r3, e2, heq⟩ := bn_of heq
      refine mm_ki hS (mm_runV (rest := []) C hM hS (tX7_of l G M v2 14 r3 e2) (uX7_66 _ (Nat.le_of_ble_eq_true rfl) (Nat.le_of_ble_eq_true rfl)) (mm_recv C hM (kl (rfl : kT 731 = (6, 0))) (ci := 6) rfl (mm_e6 (rfl : kT 731 = (6, 0)))) hl.1 rfl rfl (Nat.le_of_ble_eq_true rfl) ⟨Nat.zero_le _, Nat.zero_le _⟩ dX7_drawnAt_17) (fun H locs hM hS => ?_)
      have hM : mm_P G kR 740 M H := hM
      refine lv_iload_n hx hb dX7_drawnAt_20 rfl (lv_at hl 1 rfl) ?_
      refine lv_icmp_ne (tgt := 26) hx hb dX7_drawnAt_21 (by decide) (fun c4 => ?_) (fun c4 => ?_)
      · have heq := if_f c4 heq
        obtain ⟨y5, ey5⟩ : ∃ y : Int32, y = (v2 + 1) := ⟨_, rfl⟩
        have heq := lt_to ey5 heq
        refine lv_iinc (v := y5) (lv' := [(2, .int y5), (0, .ref (mm_lo G + 731)), (1, .int x1)]) hx hb dX7_drawnAt_26 hl (k := 2) rfl (by rw [ey5]; rfl) (by decide) rfl (fun ls hl => ?_)
        refine lv_goto (tgt := 2) hx hb dX7_drawnAt_29 (by decide) ?_
        exact ih _ _ _ _ hM hS (lv_sub hl [1, 2, 0] rfl) heq
      · have heq := if_t c4 heq
        refine lv_iload_n hx hb dX7_drawnAt_24 rfl (lv_at hl 2 rfl) ?_
        cases heq
        exact mm_iret C hM hS dX7_drawnAt_25

set_option maxRecDepth 100000 in
set_option maxHeartbeats 4000000 in
theorem tX7_drawnAt (l : Launch) (G : mm_G) (M : mm_M) (x1 : Int32) (r : Int32) (heq : fX7_drawnAt M x1 = some r) : Met l yX7_drawnAt (mm_ws yX7_drawnAt cX7_drawnAt 3 (some .int)) rmX7_drawnAt (va_Pc [.ref (mm_lo G + 731), .int x1] (mm_B G (kR, 740, M))) (mm_Qi G r (kR, 740, M)) 0 0 (mm_A G) := by
  refine mm_met (cc := cX7_drawnAt) (nL := 3) (ret := (some .int)) plRX7 (Nat.le_of_ble_eq_true rfl) ?_
  intro p e s m below meth c ls hin C hM hS hl
  have C : mm_C G p s m _ meth c RX7 cX7_drawnAt 3 (some .int) := C
  have hM : mm_P G kR 740 M s.heap := hM
  have hl : lv_has ls 3 [(0, .ref (mm_lo G + 731)), (1, .int x1)] := hl
  obtain ⟨hx, hb, -, -, -, -, -, -, hZ, -⟩ := id C
  rw [fX7_drawnAt] at heq
  refine lv_iconst (v := 0) hx hb dX7_drawnAt_0 (by decide) ?_
  refine lv_istore_n (lv' := [(2, .int 0), (0, .ref (mm_lo G + 731)), (1, .int x1)]) hx hb dX7_drawnAt_1 rfl hl (by decide) rfl (fun ls hl => ?_)
  exact tX7_drawnAt_2 C x1 M FU _ _ _ _ hM hS (lv_sub hl [1, 2, 0] rfl) heq

set_option maxRecDepth 100000 in
set_option maxHeartbeats 4000000 in
theorem tX7_cook_108 (C : mm_C G p s m args meth c RX7 cX7_cook 5 none) (x1 : Int32) {M9 : mm_M} : ∀ (M : mm_M) (H : Heap) (locs : List Loc) (ls : Array Slot), mm_P G kR 740 M H → va_S (mm_A G) s.heap H locs → lv_has ls 5 [(0, .ref (mm_lo G + 731)), (1, .int x1)] → fX7_cook_108 x1 M = some M9 → W p l e rmX7_cook s m args below meth c H locs 0 0 (MQ below (mm_Qv G (kR, 740, M9)) args s 0 0 (mm_A G)) (F0 m 108 ls []) := by
  obtain ⟨hx, hb, -, -, -, -, -, -, hZ, -⟩ := id C
  intro M H locs ls hM hS hl heq
  rw [fX7_cook_108] at heq
  refine lv_aload_n hx hb dX7_cook_108 rfl (lv_at hl 0 rfl) ?_
  refine lv_iload_n hx hb dX7_cook_109 rfl (lv_at hl 1 rfl) ?_
  refine lv_bipush (v := 12) hx hb dX7_cook_110 (by decide) ?_
  obtain ⟨r2, e1, heq⟩ := bn_of heq
  refine mm_ki hS (mm_runV (rest := []) C hM hS (tX7_of l G M x1 12 r2 e1) (uX7_66 _ (Nat.le_of_ble_eq_true rfl) (Nat.le_of_ble_eq_true rfl)) (mm_recv C hM (kl (rfl : kT 731 = (6, 0))) (ci := 6) rfl (mm_e6 (rfl : kT 731 = (6, 0)))) hl.1 rfl rfl (Nat.le_of_ble_eq_true rfl) ⟨Nat.zero_le _, Nat.zero_le _⟩ dX7_cook_112) (fun H locs hM hS => ?_)
  have hM : mm_P G kR 740 M H := hM
  refine lv_if_ge (tgt := 178) hx hb dX7_cook_115 (by decide) (fun c3 => ?_) (fun c3 => ?_)
  · have heq := if_t c3 heq
    cases heq
    exact mm_vret C hM hS dX7_cook_178
  · have heq := if_f c3 heq
    refine lv_aload_n hx hb dX7_cook_118 rfl (lv_at hl 0 rfl) ?_
    refine gX7_7 C hM (kl (rfl : kT 731 = (6, 0))) (rfl : kT 731 = (6, 0)) (rfl : kR 731 0 = some 732) dX7_cook_119 ?_
    refine lv_bipush (v := 32) hx hb dX7_cook_122 (by decide) ?_
    refine lv_iconst (v := 4) hx hb dX7_cook_124 (by decide) ?_
    refine lv_aload_n hx hb dX7_cook_125 rfl (lv_at hl 0 rfl) ?_
    refine lv_iload_n hx hb dX7_cook_126 rfl (lv_at hl 1 rfl) ?_
    refine lv_bipush (v := 11) hx hb dX7_cook_127 (by decide) ?_
    obtain ⟨r5, e4, heq⟩ := bn_of heq
    refine mm_ki hS (mm_runV (rest := [.int 4, .int 32, .ref (mm_lo G + 732)]) C hM hS (tX7_of l G M x1 11 r5 e4) (uX7_66 _ (Nat.le_of_ble_eq_true rfl) (Nat.le_of_ble_eq_true rfl)) (mm_recv C hM (kl (rfl : kT 731 = (6, 0))) (ci := 6) rfl (mm_e6 (rfl : kT 731 = (6, 0)))) hl.1 rfl rfl (Nat.le_of_ble_eq_true rfl) ⟨Nat.zero_le _, Nat.zero_le _⟩ dX7_cook_129) (fun H locs hM hS => ?_)
    have hM : mm_P G kR 740 M H := hM
    refine lv_imul hx hb dX7_cook_132 ?_
    refine lv_iadd hx hb dX7_cook_133 ?_
    refine lv_iconst (v := 3) hx hb dX7_cook_134 (by decide) ?_
    refine lv_iadd hx hb dX7_cook_135 ?_
    refine lv_bipush (v := (-6)) hx hb dX7_cook_136 (by decide) ?_
    obtain ⟨g6, heq⟩ := gd_of heq
    refine mm_istk C hM hS (kl (rfl : kT 732 = (8, 3592))) (rfl : kT 732 = (8, 3592)) (vp_in_of2 g6) rfl dX7_cook_138 (fun H locs hM hS _ => ?_)
    obtain ⟨M7, eM7⟩ : ∃ z : mm_M, z = sI M 732 ((32 + (4 * r5)) + 3).toNatClampNeg (-6) := ⟨_, rfl⟩
    rw [← eM7] at hM
    have heq := lt_to eM7 heq
    refine lv_aload_n hx hb dX7_cook_139 rfl (lv_at hl 0 rfl) ?_
    refine lv_iload_n hx hb dX7_cook_140 rfl (lv_at hl 1 rfl) ?_
    refine lv_bipush (v := 11) hx hb dX7_cook_141 (by decide) ?_
    refine lv_bipush (v := (-6)) hx hb dX7_cook_143 (by decide) ?_
    obtain ⟨M9, e8, heq⟩ := bn_of heq
    refine mm_kv hS (mm_runV (rest := []) C hM hS (tX7_lay l G M7 x1 11 (-6) M9 e8) (uX7_62 _ (Nat.le_of_ble_eq_true rfl) (Nat.le_of_ble_eq_true rfl)) (mm_recv C hM (kl (rfl : kT 731 = (6, 0))) (ci := 6) rfl (mm_e6 (rfl : kT 731 = (6, 0)))) hl.1 rfl rfl (Nat.le_of_ble_eq_true rfl) ⟨Nat.zero_le _, Nat.zero_le _⟩ dX7_cook_145) (fun H locs hM hS => ?_)
    have hM : mm_P G kR 740 M9 H := hM
    refine lv_aload_n hx hb dX7_cook_148 rfl (lv_at hl 0 rfl) ?_
    refine lv_iload_n hx hb dX7_cook_149 rfl (lv_at hl 1 rfl) ?_
    refine lv_bipush (v := 13) hx hb dX7_cook_150 (by decide) ?_
    refine lv_iconst (v := 5) hx hb dX7_cook_152 (by decide) ?_
    obtain ⟨M11, e10, heq⟩ := bn_of heq
    refine mm_kv hS (mm_runV (rest := []) C hM hS (tX7_lay l G M9 x1 13 5 M11 e10) (uX7_62 _ (Nat.le_of_ble_eq_true rfl) (Nat.le_of_ble_eq_true rfl)) (mm_recv C hM (kl (rfl : kT 731 = (6, 0))) (ci := 6) rfl (mm_e6 (rfl : kT 731 = (6, 0)))) hl.1 rfl rfl (Nat.le_of_ble_eq_true rfl) ⟨Nat.zero_le _, Nat.zero_le _⟩ dX7_cook_153) (fun H locs hM hS => ?_)
    have hM : mm_P G kR 740 M11 H := hM
    refine lv_aload_n hx hb dX7_cook_156 rfl (lv_at hl 0 rfl) ?_
    refine gX7_7 C hM (kl (rfl : kT 731 = (6, 0))) (rfl : kT 731 = (6, 0)) (rfl : kR 731 0 = some 732) dX7_cook_157 ?_
    refine lv_bipush (v := 7) hx hb dX7_cook_160 (by decide) ?_
    refine mm_ildk C hM (kl (rfl : kT 732 = (8, 3592))) (rfl : kT 732 = (8, 3592)) (vp_in_of2 (by decide)) (by decide : (7 : Int32).toNatClampNeg = 7) dX7_cook_162 ?_
    refine lv_if_le (tgt := 178) hx hb dX7_cook_163 (by decide) (fun c12 => ?_) (fun c12 => ?_)
    · have heq := if_t c12 heq
      cases heq
      exact mm_vret C hM hS dX7_cook_178
    · have heq := if_f c12 heq
      refine lv_aload_n hx hb dX7_cook_166 rfl (lv_at hl 0 rfl) ?_
      refine lv_iload_n hx hb dX7_cook_167 rfl (lv_at hl 1 rfl) ?_
      refine lv_aload_n hx hb dX7_cook_168 rfl (lv_at hl 0 rfl) ?_
      refine gX7_7 C hM (kl (rfl : kT 731 = (6, 0))) (rfl : kT 731 = (6, 0)) (rfl : kR 731 0 = some 732) dX7_cook_169 ?_
      refine lv_bipush (v := 7) hx hb dX7_cook_172 (by decide) ?_
      refine mm_ildk C hM (kl (rfl : kT 732 = (8, 3592))) (rfl : kT 732 = (8, 3592)) (vp_in_of2 (by decide)) (by decide : (7 : Int32).toNatClampNeg = 7) dX7_cook_174 ?_
      obtain ⟨M14, e13, heq⟩ := bn_of heq
      refine mm_kv hS (mm_runV (rest := []) C hM hS (tX7_give l G M11 x1 (M11.1 732 7) M14 e13) (uX7_86 _ (Nat.le_of_ble_eq_true rfl) (Nat.le_of_ble_eq_true rfl)) (mm_recv C hM (kl (rfl : kT 731 = (6, 0))) (ci := 6) rfl (mm_e6 (rfl : kT 731 = (6, 0)))) hl.1 rfl rfl (Nat.le_of_ble_eq_true rfl) ⟨Nat.zero_le _, Nat.zero_le _⟩ dX7_cook_175) (fun H locs hM hS => ?_)
      have hM : mm_P G kR 740 M14 H := hM
      cases heq
      exact mm_vret C hM hS dX7_cook_178

set_option maxRecDepth 100000 in
set_option maxHeartbeats 4000000 in
theorem tX7_cook_9 (C : mm_C G p s m args meth c RX7 cX7_cook 5 none) (x1 : Int32) {M9 : mm_M} : ∀ n : Nat, ∀ (M : mm_M) (v2 : Int32) (v3 : Int32) (H : Heap) (locs : List Loc) (ls : Array Slot), mm_P G kR 740 M H → va_S (mm_A G) s.heap H locs → lv_has ls 5 [(0, .ref (mm_lo G + 731)), (1, .int x1), (2, .int v2), (3, .int v3)] → fX7_cook_9 x1 n M v2 v3 = some M9 → W p l e rmX7_cook s m args below meth c H locs 0 0 (MQ below (mm_Qv G (kR, 740, M9)) args s 0 0 (mm_A G)) (F0 m 9 ls []) := by
  obtain ⟨hx, hb, -, -, -, -, -, -, hZ, -⟩ := id C
  intro n
  induction n with
  | zero =>
    intro M v2 v3 H locs ls hM hS hl heq
    rw [fX7_cook_9] at heq
    cases heq
  | succ n ih =>
    intro M v2 v3 H locs ls hM hS hl heq
    rw [fX7_cook_9] at heq
    refine lv_iload_n hx hb dX7_cook_9 rfl (lv_at hl 3 rfl) ?_
    refine lv_iload_n hx hb dX7_cook_10 rfl (lv_at hl 2 rfl) ?_
    refine lv_iadd hx hb dX7_cook_11 ?_
    refine lv_aload_n hx hb dX7_cook_12 rfl (lv_at hl 0 rfl) ?_
    refine gX7_7 C hM (kl (rfl : kT 731 = (6, 0))) (rfl : kT 731 = (6, 0)) (rfl : kR 731 0 = some 732) dX7_cook_13 ?_
    refine lv_bipush (v := 8) hx hb dX7_cook_16 (by decide) ?_
    refine mm_ildk C hM (kl (rfl : kT 732 = (8, 3592))) (rfl : kT 732 = (8, 3592)) (vp_in_of2 (by decide)) (by decide : (8 : Int32).toNatClampNeg = 8) dX7_cook_18 ?_
    refine lv_icmp_gt (tgt := 108) hx hb dX7_cook_19 (by decide) (fun c1 => ?_) (fun c1 => ?_)
    · have heq := if_t c1 heq
      exact tX7_cook_108 C x1 _ _ _ _ hM hS (lv_sub hl [0, 1] rfl) heq
    · have heq := if_f c1 heq
      refine lv_aload_n hx hb dX7_cook_22 rfl (lv_at hl 0 rfl) ?_
      refine lv_iload_n hx hb dX7_cook_23 rfl (lv_at hl 1 rfl) ?_
      refine lv_bipush (v := 12) hx hb dX7_cook_24 (by decide) ?_
      obtain ⟨r3, e2, heq⟩ := bn_of heq
      refine mm_ki hS (mm_runV (rest := []) C hM hS (tX7_of l G M x1 12 r3 e2) (uX7_66 _ (Nat.le_of_ble_eq_true rfl) (Nat.le_of_ble_eq_true rfl)) (mm_recv C hM (kl (rfl : kT 731 = (6, 0))) (ci := 6) rfl (mm_e6 (rfl : kT 731 = (6, 0)))) hl.1 rfl rfl (Nat.le_of_ble_eq_true rfl) ⟨Nat.zero_le _, Nat.zero_le _⟩ dX7_cook_26) (fun H locs hM hS => ?_)
      have hM : mm_P G kR 740 M H := hM
      refine lv_if_ge (tgt := 108) hx hb dX7_cook_29 (by decide) (fun c4 => ?_) (fun c4 => ?_)
      · have heq := if_t c4 heq
        exact tX7_cook_108 C x1 _ _ _ _ hM hS (lv_sub hl [0, 1] rfl) heq
      · have heq := if_f c4 heq
        refine lv_iconst (v := 1) hx hb dX7_cook_32 (by decide) ?_
        refine lv_iload_n hx hb dX7_cook_33 rfl (lv_at hl 2 rfl) ?_
        refine lv_ishl hx hb dX7_cook_34 ?_
        refine lv_iconst (v := 1) hx hb dX7_cook_35 (by decide) ?_
        refine lv_isub hx hb dX7_cook_36 ?_
        refine lv_iload_n hx hb dX7_cook_37 rfl (lv_at hl 3 rfl) ?_
        refine lv_ishl hx hb dX7_cook_38 ?_
        refine lv_topi (fun y5 ey5 => ?_)
        have heq := lt_to ey5 heq
        refine lv_istore (lv' := [(4, .int y5), (0, .ref (mm_lo G + 731)), (1, .int x1), (2, .int v2), (3, .int v3)]) hx hb dX7_cook_39 hl (by decide) rfl (fun ls hl => ?_)
        refine lv_aload_n hx hb dX7_cook_41 rfl (lv_at hl 1 rfl) ?_
        refine gX7_139 C hM (kl (rfl : kT 731 = (6, 0))) (rfl : kT 731 = (6, 0)) dX7_cook_42 ?_
        refine lv_iload hx hb dX7_cook_45 (lv_at hl 0 rfl) ?_
        refine lv_iand hx hb dX7_cook_47 ?_
        refine lv_if_ne (tgt := 73) hx hb dX7_cook_48 (by decide) (fun c6 => ?_) (fun c6 => ?_)
        · have heq := if_f c6 heq
          refine lv_aload_n hx hb dX7_cook_73 rfl (lv_at hl 1 rfl) ?_
          refine gX7_142 C hM (kl (rfl : kT 731 = (6, 0))) (rfl : kT 731 = (6, 0)) dX7_cook_74 ?_
          refine lv_iload hx hb dX7_cook_77 (lv_at hl 0 rfl) ?_
          refine lv_iand hx hb dX7_cook_79 ?_
          refine lv_if_ne (tgt := 102) hx hb dX7_cook_80 (by decide) (fun c7 => ?_) (fun c7 => ?_)
          · have heq := if_f c7 heq
            obtain ⟨y8, ey8⟩ : ∃ y : Int32, y = (v3 + 1) := ⟨_, rfl⟩
            have heq := lt_to ey8 heq
            refine lv_iinc (v := y8) (lv' := [(3, .int y8), (4, .int y5), (0, .ref (mm_lo G + 731)), (1, .int x1), (2, .int v2)]) hx hb dX7_cook_102 hl (k := 4) rfl (by rw [ey8]; rfl) (by decide) rfl (fun ls hl => ?_)
            refine lv_goto (tgt := 9) hx hb dX7_cook_105 (by decide) ?_
            exact ih _ _ _ _ _ _ hM hS (lv_sub hl [2, 3, 4, 0] rfl) heq
          · have heq := if_t c7 heq
            refine lv_aload_n hx hb dX7_cook_83 rfl (lv_at hl 1 rfl) ?_
            refine lv_dup hx hb dX7_cook_84 rfl ?_
            refine gX7_142 C hM (kl (rfl : kT 731 = (6, 0))) (rfl : kT 731 = (6, 0)) dX7_cook_85 ?_
            refine lv_iload hx hb dX7_cook_88 (lv_at hl 0 rfl) ?_
            refine lv_ior hx hb dX7_cook_90 ?_
            refine pX7_142 C hM hS (kl (rfl : kT 731 = (6, 0))) (rfl : kT 731 = (6, 0)) dX7_cook_91 (fun H locs hM hS _ => ?_)
            obtain ⟨M9, eM9⟩ : ∃ z : mm_M, z = sI M 731 9 ((M.1 731 9) ||| y5) := ⟨_, rfl⟩
            rw [← eM9] at hM
            have heq := lt_to eM9 heq
            refine lv_aload_n hx hb dX7_cook_94 rfl (lv_at hl 1 rfl) ?_
            refine lv_iload_n hx hb dX7_cook_95 rfl (lv_at hl 2 rfl) ?_
            refine lv_bipush (v := 12) hx hb dX7_cook_96 (by decide) ?_
            refine lv_iload_n hx hb dX7_cook_98 rfl (lv_at hl 4 rfl) ?_
            obtain ⟨M11, e10, heq⟩ := bn_of heq
            refine mm_kv hS (mm_runV (rest := []) C hM hS (tX7_lay l G M9 x1 12 v3 M11 e10) (uX7_62 _ (Nat.le_of_ble_eq_true rfl) (Nat.le_of_ble_eq_true rfl)) (mm_recv C hM (kl (rfl : kT 731 = (6, 0))) (ci := 6) rfl (mm_e6 (rfl : kT 731 = (6, 0)))) hl.1 rfl rfl (Nat.le_of_ble_eq_true rfl) ⟨Nat.zero_le _, Nat.zero_le _⟩ dX7_cook_99) (fun H locs hM hS => ?_)
            have hM : mm_P G kR 740 M11 H := hM
            obtain ⟨y12, ey12⟩ : ∃ y : Int32, y = (v3 + 1) := ⟨_, rfl⟩
            have heq := lt_to ey12 heq
            refine lv_iinc (v := y12) (lv' := [(3, .int y12), (4, .int y5), (0, .ref (mm_lo G + 731)), (1, .int x1), (2, .int v2)]) hx hb dX7_cook_102 hl (k := 4) rfl (by rw [ey12]; rfl) (by decide) rfl (fun ls hl => ?_)
            refine lv_goto (tgt := 9) hx hb dX7_cook_105 (by decide) ?_
            exact ih _ _ _ _ _ _ hM hS (lv_sub hl [2, 3, 4, 0] rfl) heq
        · have heq := if_t c6 heq
          refine lv_aload_n hx hb dX7_cook_51 rfl (lv_at hl 1 rfl) ?_
          refine lv_dup hx hb dX7_cook_52 rfl ?_
          refine gX7_139 C hM (kl (rfl : kT 731 = (6, 0))) (rfl : kT 731 = (6, 0)) dX7_cook_53 ?_
          refine lv_iload hx hb dX7_cook_56 (lv_at hl 0 rfl) ?_
          refine lv_ior hx hb dX7_cook_58 ?_
          refine pX7_139 C hM hS (kl (rfl : kT 731 = (6, 0))) (rfl : kT 731 = (6, 0)) dX7_cook_59 (fun H locs hM hS _ => ?_)
          obtain ⟨M13, eM13⟩ : ∃ z : mm_M, z = sI M 731 8 ((M.1 731 8) ||| y5) := ⟨_, rfl⟩
          rw [← eM13] at hM
          have heq := lt_to eM13 heq
          refine lv_aload_n hx hb dX7_cook_62 rfl (lv_at hl 1 rfl) ?_
          refine lv_iload_n hx hb dX7_cook_63 rfl (lv_at hl 2 rfl) ?_
          refine lv_bipush (v := 12) hx hb dX7_cook_64 (by decide) ?_
          refine lv_iload_n hx hb dX7_cook_66 rfl (lv_at hl 4 rfl) ?_
          obtain ⟨M15, e14, heq⟩ := bn_of heq
          refine mm_kv hS (mm_runV (rest := []) C hM hS (tX7_lay l G M13 x1 12 v3 M15 e14) (uX7_62 _ (Nat.le_of_ble_eq_true rfl) (Nat.le_of_ble_eq_true rfl)) (mm_recv C hM (kl (rfl : kT 731 = (6, 0))) (ci := 6) rfl (mm_e6 (rfl : kT 731 = (6, 0)))) hl.1 rfl rfl (Nat.le_of_ble_eq_true rfl) ⟨Nat.zero_le _, Nat.zero_le _⟩ dX7_cook_67) (fun H locs hM hS => ?_)
          have hM : mm_P G kR 740 M15 H := hM
          refine lv_goto (tgt := 102) hx hb dX7_cook_70 (by decide) ?_
          obtain ⟨y16, ey16⟩ : ∃ y : Int32, y = (v3 + 1) := ⟨_, rfl⟩
          have heq := lt_to ey16 heq
          refine lv_iinc (v := y16) (lv' := [(3, .int y16), (4, .int y5), (0, .ref (mm_lo G + 731)), (1, .int x1), (2, .int v2)]) hx hb dX7_cook_102 hl (k := 4) rfl (by rw [ey16]; rfl) (by decide) rfl (fun ls hl => ?_)
          refine lv_goto (tgt := 9) hx hb dX7_cook_105 (by decide) ?_
          exact ih _ _ _ _ _ _ hM hS (lv_sub hl [2, 3, 4, 0] rfl) heq

set_option maxRecDepth 100000 in
set_option maxHeartbeats 4000000 in
theorem tX7_cook (l : Launch) (G : mm_G) (M : mm_M) (x1 : Int32) (M9 : mm_M) (heq : fX7_cook M x1 = some M9) : Met l yX7_cook (mm_ws yX7_cook cX7_cook 5 none) rmX7_cook (va_Pc [.ref (mm_lo G + 731), .int x1] (mm_B G (kR, 740, M))) (mm_Qv G (kR, 740, M9)) 0 0 (mm_A G) := by
  refine mm_met (cc := cX7_cook) (nL := 5) (ret := none) plRX7 (Nat.le_of_ble_eq_true rfl) ?_
  intro p e s m below meth c ls hin C hM hS hl
  have C : mm_C G p s m _ meth c RX7 cX7_cook 5 none := C
  have hM : mm_P G kR 740 M s.heap := hM
  have hl : lv_has ls 5 [(0, .ref (mm_lo G + 731)), (1, .int x1)] := hl
  obtain ⟨hx, hb, -, -, -, -, -, -, hZ, -⟩ := id C
  rw [fX7_cook] at heq
  refine lv_aload_n hx hb dX7_cook_0 rfl (lv_at hl 0 rfl) ?_
  refine lv_iload_n hx hb dX7_cook_1 rfl (lv_at hl 1 rfl) ?_
  refine lv_iconst (v := 1) hx hb dX7_cook_2 (by decide) ?_
  obtain ⟨r2, e1, heq⟩ := bn_of heq
  refine mm_ki hS (mm_runV (rest := []) C hM hS (tX7_of l G M x1 1 r2 e1) (uX7_66 _ (Nat.le_of_ble_eq_true rfl) (Nat.le_of_ble_eq_true rfl)) (mm_recv C hM (kl (rfl : kT 731 = (6, 0))) (ci := 6) rfl (mm_e6 (rfl : kT 731 = (6, 0)))) hl.1 rfl rfl (Nat.le_of_ble_eq_true rfl) ⟨Nat.zero_le _, Nat.zero_le _⟩ dX7_cook_3) (fun H locs hM hS => ?_)
  have hM : mm_P G kR 740 M H := hM
  refine lv_istore_n (lv' := [(2, .int r2), (0, .ref (mm_lo G + 731)), (1, .int x1)]) hx hb dX7_cook_6 rfl hl (by decide) rfl (fun ls hl => ?_)
  refine lv_iconst (v := 0) hx hb dX7_cook_7 (by decide) ?_
  refine lv_istore_n (lv' := [(3, .int 0), (2, .int r2), (0, .ref (mm_lo G + 731)), (1, .int x1)]) hx hb dX7_cook_8 rfl hl (by decide) rfl (fun ls hl => ?_)
  exact tX7_cook_9 C x1 FU _ _ _ _ _ _ hM hS (lv_sub hl [2, 3, 1, 0] rfl) heq
end WALK
