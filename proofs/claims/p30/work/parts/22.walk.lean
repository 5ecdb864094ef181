section WALK
variable {p : Program} {l : Launch} {e : Env} {s : State} {m : MethodId} {args : Array Value} {below : List Frame} {meth : Method} {c : Code} {G : mm_G}
set_option maxRecDepth 100000 in
set_option maxHeartbeats 4000000 in
theorem tX1_exchange_90 (C : mm_C G p s m args meth c RX1 cX1_exchange 5 (some .boolean)) (a0 : Nat) (h0 : kT a0 = (4, 0)) (x1 : Int32) (x2 : Int32) {r : Bool} {M9 : mm_M} : ∀ (M : mm_M) (v3 : Int32) (v4 : Int32) (H : Heap) (locs : List Loc) (ls : Array Slot), mm_P G kR 740 M H → va_S (mm_A G) s.heap H locs → lv_has ls 5 [(0, .ref (mm_lo G + a0)), (1, .int x1), (2, .int x2), (3, .int v3), (4, .int v4)] → fX1_exchange_90 a0 x1 x2 M v3 v4 = some (r, M9) → W p l e rmX1_exchange s m args below meth c H locs 0 0 (MQ below (mm_Qi G (b2i r) (kR, 740, M9)) args s 0 0 (mm_A G)) (F0 m 90 ls []) := by
  obtain ⟨hx, hb, -, -, -, -, -, -, hZ, -⟩ := id C
  intro M v3 v4 H locs ls hM hS hl heq
  rw [fX1_exchange_90] at heq
  refine lv_aload_n hx hb dX1_exchange_90 rfl (lv_at hl 0 rfl) ?_
  refine lv_iload_n hx hb dX1_exchange_91 rfl (lv_at hl 1 rfl) ?_
  refine lv_iload_n hx hb dX1_exchange_92 rfl (lv_at hl 3 rfl) ?_
  obtain ⟨M2, e1, heq⟩ := bn_of heq
  refine mm_kv hS (mm_runV (rest := []) C hM hS (tX5_seat l G M a0 h0 x1 v3 M2 e1) (uX1_117 _ (Nat.le_of_ble_eq_true rfl) (Nat.le_of_ble_eq_true rfl)) (mm_recv C hM (kl h0) (ci := 4) rfl (mm_e4 h0)) hl.1 rfl rfl (Nat.le_of_ble_eq_true rfl) ⟨Nat.zero_le _, Nat.zero_le _⟩ dX1_exchange_93) (fun H locs hM hS => ?_)
  have hM : mm_P G kR 740 M2 H := hM
  refine lv_aload_n hx hb dX1_exchange_96 rfl (lv_at hl 0 rfl) ?_
  refine lv_iload_n hx hb dX1_exchange_97 rfl (lv_at hl 2 rfl) ?_
  refine lv_iload hx hb dX1_exchange_98 (lv_at hl 4 rfl) ?_
  obtain ⟨M4, e3, heq⟩ := bn_of heq
  refine mm_kv hS (mm_runV (rest := []) C hM hS (tX5_seat l G M2 a0 h0 x2 v4 M4 e3) (uX1_117 _ (Nat.le_of_ble_eq_true rfl) (Nat.le_of_ble_eq_true rfl)) (mm_recv C hM (kl h0) (ci := 4) rfl (mm_e4 h0)) hl.1 rfl rfl (Nat.le_of_ble_eq_true rfl) ⟨Nat.zero_le _, Nat.zero_le _⟩ dX1_exchange_100) (fun H locs hM hS => ?_)
  have hM : mm_P G kR 740 M4 H := hM
  refine lv_iconst (v := 0) hx hb dX1_exchange_103 (by decide) ?_
  cases heq
  exact mm_zret C hM hS dX1_exchange_104

set_option maxRecDepth 100000 in
set_option maxHeartbeats 4000000 in
theorem tX1_exchange (l : Launch) (G : mm_G) (M : mm_M) (a0 : Nat) (h0 : kT a0 = (4, 0)) (x1 : Int32) (x2 : Int32) (r : Bool) (M9 : mm_M) (heq : fX1_exchange M a0 x1 x2 = some (r, M9)) : Met l yX1_exchange (mm_ws yX1_exchange cX1_exchange 5 (some .boolean)) rmX1_exchange (va_Pc [.ref (mm_lo G + a0), .int x1, .int x2] (mm_B G (kR, 740, M))) (mm_Qi G (b2i r) (kR, 740, M9)) 0 0 (mm_A G) := by
  refine mm_met (cc := cX1_exchange) (nL := 5) (ret := (some .boolean)) plRX1 (Nat.le_of_ble_eq_true rfl) ?_
  intro p e s m below meth c ls hin C hM hS hl
  have C : mm_C G p s m _ meth c RX1 cX1_exchange 5 (some .boolean) := C
  have hM : mm_P G kR 740 M s.heap := hM
  have hl : lv_has ls 5 [(0, .ref (mm_lo G + a0)), (1, .int x1), (2, .int x2)] := hl
  obtain ⟨hx, hb, -, -, -, -, -, -, hZ, -⟩ := id C
  rw [fX1_exchange] at heq
  refine lv_aload_n hx hb dX1_exchange_0 rfl (lv_at hl 0 rfl) ?_
  refine lv_iload_n hx hb dX1_exchange_1 rfl (lv_at hl 1 rfl) ?_
  obtain ⟨r2, e1, heq⟩ := bn_of heq
  refine mm_ki hS (mm_runV (rest := []) C hM hS (tX5_hasCart l G M a0 h0 x1 r2 e1) (uX1_71 _ (Nat.le_of_ble_eq_true rfl) (Nat.le_of_ble_eq_true rfl)) (mm_recv C hM (kl h0) (ci := 4) rfl (mm_e4 h0)) hl.1 rfl rfl (Nat.le_of_ble_eq_true rfl) ⟨Nat.zero_le _, Nat.zero_le _⟩ dX1_exchange_2) (fun H locs hM hS => ?_)
  have hM : mm_P G kR 740 M H := hM
  refine mm_ifeqZ (tgt := 16) C dX1_exchange_5 (by decide) (fun c3 => ?_) (fun c3 => ?_)
  · have heq := if_f c3 heq
    refine lv_iconst (v := 0) hx hb dX1_exchange_16 (by decide) ?_
    cases heq
    exact mm_zret C hM hS dX1_exchange_17
  · have heq := if_t c3 heq
    refine lv_aload_n hx hb dX1_exchange_8 rfl (lv_at hl 0 rfl) ?_
    refine lv_iload_n hx hb dX1_exchange_9 rfl (lv_at hl 2 rfl) ?_
    obtain ⟨r5, e4, heq⟩ := bn_of heq
    refine mm_ki hS (mm_runV (rest := []) C hM hS (tX5_hasCart l G M a0 h0 x2 r5 e4) (uX1_71 _ (Nat.le_of_ble_eq_true rfl) (Nat.le_of_ble_eq_true rfl)) (mm_recv C hM (kl h0) (ci := 4) rfl (mm_e4 h0)) hl.1 rfl rfl (Nat.le_of_ble_eq_true rfl) ⟨Nat.zero_le _, Nat.zero_le _⟩ dX1_exchange_10) (fun H locs hM hS => ?_)
    have hM : mm_P G kR 740 M H := hM
    refine mm_ifneZ (tgt := 18) C dX1_exchange_13 (by decide) (fun c6 => ?_) (fun c6 => ?_)
    · have heq := if_t c6 heq
      refine lv_aload_n hx hb dX1_exchange_18 rfl (lv_at hl 0 rfl) ?_
      refine gX1_37 C hM (kl h0) h0 (rS_9 h0) dX1_exchange_19 ?_
      refine lv_iload_n hx hb dX1_exchange_22 rfl (lv_at hl 1 rfl) ?_
      obtain ⟨g7, heq⟩ := gd_of heq
      refine mm_ald C hM (kl (kS_9 h0)) (Or.inl rfl) (kS_9 h0) (vp_in_of2 g7) (rS_cart h0 (vp_lt g7)) dX1_exchange_23 ?_
      refine gX1_121 C hM (kl (kS_cart h0 (vp_lt g7))) (kS_cart h0 (vp_lt g7)) dX1_exchange_24 ?_
      refine lv_topi (fun y8 ey8 => ?_)
      have heq := lt_to ey8 heq
      refine lv_istore_n (lv' := [(3, .int y8), (0, .ref (mm_lo G + a0)), (1, .int x1), (2, .int x2)]) hx hb dX1_exchange_27 rfl hl (by decide) rfl (fun ls hl => ?_)
      refine lv_aload_n hx hb dX1_exchange_28 rfl (lv_at hl 1 rfl) ?_
      refine gX1_37 C hM (kl h0) h0 (rS_9 h0) dX1_exchange_29 ?_
      refine lv_iload_n hx hb dX1_exchange_32 rfl (lv_at hl 3 rfl) ?_
      obtain ⟨g9, heq⟩ := gd_of heq
      refine mm_ald C hM (kl (kS_9 h0)) (Or.inl rfl) (kS_9 h0) (vp_in_of2 g9) (rS_cart h0 (vp_lt g9)) dX1_exchange_33 ?_
      refine gX1_121 C hM (kl (kS_cart h0 (vp_lt g9))) (kS_cart h0 (vp_lt g9)) dX1_exchange_34 ?_
      refine lv_topi (fun y10 ey10 => ?_)
      have heq := lt_to ey10 heq
      refine lv_istore (lv' := [(4, .int y10), (3, .int y8), (0, .ref (mm_lo G + a0)), (1, .int x1), (2, .int x2)]) hx hb dX1_exchange_37 hl (by decide) rfl (fun ls hl => ?_)
      refine lv_aload_n hx hb dX1_exchange_39 rfl (lv_at hl 2 rfl) ?_
      refine lv_iload_n hx hb dX1_exchange_40 rfl (lv_at hl 1 rfl) ?_
      obtain ⟨r12, e11, heq⟩ := bn_of heq
      refine mm_ki hS (mm_runV (rest := []) C hM hS (tX5_hasPitch l G M a0 h0 y8 r12 e11) (uX1_110 _ (Nat.le_of_ble_eq_true rfl) (Nat.le_of_ble_eq_true rfl)) (mm_recv C hM (kl h0) (ci := 4) rfl (mm_e4 h0)) hl.1 rfl rfl (Nat.le_of_ble_eq_true rfl) ⟨Nat.zero_le _, Nat.zero_le _⟩ dX1_exchange_41) (fun H locs hM hS => ?_)
      have hM : mm_P G kR 740 M H := hM
      refine mm_ifeqZ (tgt := 56) C dX1_exchange_44 (by decide) (fun c13 => ?_) (fun c13 => ?_)
      · have heq := if_f c13 heq
        refine lv_iconst (v := 0) hx hb dX1_exchange_56 (by decide) ?_
        cases heq
        exact mm_zret C hM hS dX1_exchange_57
      · have heq := if_t c13 heq
        refine lv_aload_n hx hb dX1_exchange_47 rfl (lv_at hl 2 rfl) ?_
        refine lv_iload hx hb dX1_exchange_48 (lv_at hl 0 rfl) ?_
        obtain ⟨r15, e14, heq⟩ := bn_of heq
        refine mm_ki hS (mm_runV (rest := []) C hM hS (tX5_hasPitch l G M a0 h0 y10 r15 e14) (uX1_110 _ (Nat.le_of_ble_eq_true rfl) (Nat.le_of_ble_eq_true rfl)) (mm_recv C hM (kl h0) (ci := 4) rfl (mm_e4 h0)) hl.1 rfl rfl (Nat.le_of_ble_eq_true rfl) ⟨Nat.zero_le _, Nat.zero_le _⟩ dX1_exchange_50) (fun H locs hM hS => ?_)
        have hM : mm_P G kR 740 M H := hM
        refine mm_ifneZ (tgt := 58) C dX1_exchange_53 (by decide) (fun c16 => ?_) (fun c16 => ?_)
        · have heq := if_t c16 heq
          refine lv_aload_n hx hb dX1_exchange_58 rfl (lv_at hl 2 rfl) ?_
          refine lv_iload_n hx hb dX1_exchange_59 rfl (lv_at hl 3 rfl) ?_
          refine lv_iload hx hb dX1_exchange_60 (lv_at hl 0 rfl) ?_
          obtain ⟨M18, e17, heq⟩ := bn_of heq
          refine mm_kv hS (mm_runV (rest := []) C hM hS (tX5_seat l G M a0 h0 x1 y10 M18 e17) (uX1_117 _ (Nat.le_of_ble_eq_true rfl) (Nat.le_of_ble_eq_true rfl)) (mm_recv C hM (kl h0) (ci := 4) rfl (mm_e4 h0)) hl.1 rfl rfl (Nat.le_of_ble_eq_true rfl) ⟨Nat.zero_le _, Nat.zero_le _⟩ dX1_exchange_62) (fun H locs hM hS => ?_)
          have hM : mm_P G kR 740 M18 H := hM
          refine lv_aload_n hx hb dX1_exchange_65 rfl (lv_at hl 2 rfl) ?_
          refine lv_iload_n hx hb dX1_exchange_66 rfl (lv_at hl 4 rfl) ?_
          refine lv_iload_n hx hb dX1_exchange_67 rfl (lv_at hl 1 rfl) ?_
          obtain ⟨M20, e19, heq⟩ := bn_of heq
          refine mm_kv hS (mm_runV (rest := []) C hM hS (tX5_seat l G M18 a0 h0 x2 y8 M20 e19) (uX1_117 _ (Nat.le_of_ble_eq_true rfl) (Nat.le_of_ble_eq_true rfl)) (mm_recv C hM (kl h0) (ci := 4) rfl (mm_e4 h0)) hl.1 rfl rfl (Nat.le_of_ble_eq_true rfl) ⟨Nat.zero_le _, Nat.zero_le _⟩ dX1_exchange_68) (fun H locs hM hS => ?_)
          have hM : mm_P G kR 740 M20 H := hM
          refine lv_aload_n hx hb dX1_exchange_71 rfl (lv_at hl 2 rfl) ?_
          refine lv_iload_n hx hb dX1_exchange_72 rfl (lv_at hl 3 rfl) ?_
          refine lv_iload hx hb dX1_exchange_73 (lv_at hl 0 rfl) ?_
          obtain ⟨r22, e21, heq⟩ := bn_of heq
          refine mm_ki hS (mm_runV (rest := []) C hM hS (tX5_sameKindBeside l G M20 a0 h0 x1 y10 r22 e21) (uX1_113 _ (Nat.le_of_ble_eq_true rfl) (Nat.le_of_ble_eq_true rfl)) (mm_recv C hM (kl h0) (ci := 4) rfl (mm_e4 h0)) hl.1 rfl rfl (Nat.le_of_ble_eq_true rfl) ⟨Nat.zero_le _, Nat.zero_le _⟩ dX1_exchange_75) (fun H locs hM hS => ?_)
          have hM : mm_P G kR 740 M20 H := hM
          refine mm_ifneZ (tgt := 90) C dX1_exchange_78 (by decide) (fun c23 => ?_) (fun c23 => ?_)
          · have heq := if_t c23 heq
            exact tX1_exchange_90 C a0 h0 x1 x2 _ _ _ _ _ _ hM hS (lv_sub hl [2, 3, 4, 1, 0] rfl) heq
          · have heq := if_f c23 heq
            refine lv_aload_n hx hb dX1_exchange_81 rfl (lv_at hl 2 rfl) ?_
            refine lv_iload_n hx hb dX1_exchange_82 rfl (lv_at hl 4 rfl) ?_
            refine lv_iload_n hx hb dX1_exchange_83 rfl (lv_at hl 1 rfl) ?_
            obtain ⟨r25, e24, heq⟩ := bn_of heq
            refine mm_ki hS (mm_runV (rest := []) C hM hS (tX5_sameKindBeside l G M20 a0 h0 x2 y8 r25 e24) (uX1_113 _ (Nat.le_of_ble_eq_true rfl) (Nat.le_of_ble_eq_true rfl)) (mm_recv C hM (kl h0) (ci := 4) rfl (mm_e4 h0)) hl.1 rfl rfl (Nat.le_of_ble_eq_true rfl) ⟨Nat.zero_le _, Nat.zero_le _⟩ dX1_exchange_84) (fun H locs hM hS => ?_)
            have hM : mm_P G kR 740 M20 H := hM
            refine mm_ifeqZ (tgt := 105) C dX1_exchange_87 (by decide) (fun c26 => ?_) (fun c26 => ?_)
            · have heq := if_f c26 heq
              refine lv_iconst (v := 1) hx hb dX1_exchange_105 (by decide) ?_
              cases heq
              exact mm_zret C hM hS dX1_exchange_106
            · have heq := if_t c26 heq
              exact tX1_exchange_90 C a0 h0 x1 x2 _ _ _ _ _ _ hM hS (lv_sub hl [2, 3, 4, 1, 0] rfl) heq
        · have heq := if_f c16 heq
          refine lv_iconst (v := 0) hx hb dX1_exchange_56 (by decide) ?_
          cases heq
          exact mm_zret C hM hS dX1_exchange_57
    · have heq := if_f c6 heq
      refine lv_iconst (v := 0) hx hb dX1_exchange_16 (by decide) ?_
      cases heq
      exact mm_zret C hM hS dX1_exchange_17

set_option maxRecDepth 100000 in
set_option maxHeartbeats 4000000 in
theorem tX1_makeSwaps_2 (C : mm_C G p s m args meth c RX1 cX1_makeSwaps 4 none) (a0 : Nat) (h0 : kT a0 = (4, 0)) {M9 : mm_M} : ∀ n : Nat, ∀ (M : mm_M) (v1 : Int32) (H : Heap) (locs : List Loc) (ls : Array Slot), mm_P G kR 740 M H → va_S (mm_A G) s.heap H locs → lv_has ls 4 [(0, .ref (mm_lo G + a0)), (1, .int v1)] → fX1_makeSwaps_2 a0 n M v1 = some M9 → W p l e rmX1_makeSwaps s m args below meth c H locs 0 0 (MQ below (mm_Qv G (kR, 740, M9)) args s 0 0 (mm_A G)) (F0 m 2 ls []) := by
  obtain ⟨hx, hb, -, -, -, -, -, -, hZ, -⟩ := id C
  intro n
  induction n with
  | zero =>
    intro M v1 H locs ls hM hS hl heq
    rw [fX1_makeSwaps_2] at heq
    cases heq
  | succ n ih =>
    intro M v1 H locs ls hM hS hl heq
    rw [fX1_makeSwaps_2] at heq
    refine lv_iload_n hx hb dX1_makeSwaps_2 rfl (lv_at hl 1 rfl) ?_
    refine lv_aload_n hx hb dX1_makeSwaps_3 rfl (lv_at hl 0 rfl) ?_
    refine gX1_138 C hM (kl h0) h0 dX1_makeSwaps_4 ?_
    refine lv_icmp_ge (tgt := 93) hx hb dX1_makeSwaps_7 (by decide) (fun c1 => ?_) (fun c1 => ?_)
    · have heq := if_t c1 heq
      refine lv_aload_n hx hb dX1_makeSwaps_93 rfl (lv_at hl 0 rfl) ?_
      refine lv_iconst (v := 0) hx hb dX1_makeSwaps_94 (by decide) ?_
      refine pX1_138 C hM hS (kl h0) h0 dX1_makeSwaps_95 (fun H locs hM hS _ => ?_)
      obtain ⟨M2, eM2⟩ : ∃ z : mm_M, z = sI M a0 4 0 := ⟨_, rfl⟩
      rw [← eM2] at hM
      have heq := lt_to eM2 heq
      cases heq
      exact mm_vret C hM hS dX1_makeSwaps_98
    · have heq := if_f c1 heq
      refine lv_aload_n hx hb dX1_makeSwaps_10 rfl (lv_at hl 0 rfl) ?_
      refine gX1_141 C hM (kl h0) h0 (rS_10 h0) dX1_makeSwaps_11 ?_
      refine lv_iload_n hx hb dX1_makeSwaps_14 rfl (lv_at hl 1 rfl) ?_
      obtain ⟨g3, heq⟩ := gd_of heq
      refine mm_ildk C hM (kl (kS_10 h0)) (kS_10 h0) (vp_in_of2 g3) rfl dX1_makeSwaps_15 ?_
      refine lv_topi (fun y4 ey4 => ?_)
      have heq := lt_to ey4 heq
      refine lv_istore_n (lv' := [(2, .int y4), (0, .ref (mm_lo G + a0)), (1, .int v1)]) hx hb dX1_makeSwaps_16 rfl hl (by decide) rfl (fun ls hl => ?_)
      refine lv_aload_n hx hb dX1_makeSwaps_17 rfl (lv_at hl 1 rfl) ?_
      refine gX1_144 C hM (kl h0) h0 (rS_11 h0) dX1_makeSwaps_18 ?_
      refine lv_iload_n hx hb dX1_makeSwaps_21 rfl (lv_at hl 2 rfl) ?_
      refine mm_ildk C hM (kl (kS_11 h0)) (kS_11 h0) (vp_in_of2 g3) rfl dX1_makeSwaps_22 ?_
      refine lv_topi (fun y5 ey5 => ?_)
      have heq := lt_to ey5 heq
      refine lv_istore_n (lv' := [(3, .int y5), (2, .int y4), (0, .ref (mm_lo G + a0)), (1, .int v1)]) hx hb dX1_makeSwaps_23 rfl hl (by decide) rfl (fun ls hl => ?_)
      refine lv_aload_n hx hb dX1_makeSwaps_24 rfl (lv_at hl 2 rfl) ?_
      refine lv_iload_n hx hb dX1_makeSwaps_25 rfl (lv_at hl 1 rfl) ?_
      refine lv_iload_n hx hb dX1_makeSwaps_26 rfl (lv_at hl 0 rfl) ?_
      obtain ⟨r7, M8, e6, heq⟩ := bn2_of heq
      refine mm_ki hS (mm_runS (rest := []) C hM hS (tX1_exchange l G M a0 h0 y4 y5 r7 M8 e6) (uX1_147 _ (Nat.le_of_ble_eq_true rfl) (Nat.le_of_ble_eq_true rfl)) hl.1 rfl rfl (Nat.le_of_ble_eq_true rfl) ⟨Nat.zero_le _, Nat.zero_le _⟩ dX1_makeSwaps_27) (fun H locs hM hS => ?_)
      have hM : mm_P G kR 740 M8 H := hM
      refine mm_ifeqZ (tgt := 87) C dX1_makeSwaps_30 (by decide) (fun c9 => ?_) (fun c9 => ?_)
      · have heq := if_f c9 heq
        obtain ⟨y10, ey10⟩ : ∃ y : Int32, y = (v1 + 1) := ⟨_, rfl⟩
        have heq := lt_to ey10 heq
        refine lv_iinc (v := y10) (lv' := [(1, .int y10), (3, .int y5), (2, .int y4), (0, .ref (mm_lo G + a0))]) hx hb dX1_makeSwaps_87 hl (k := 3) rfl (by rw [ey10]; rfl) (by decide) rfl (fun ls hl => ?_)
        refine lv_goto (tgt := 2) hx hb dX1_makeSwaps_90 (by decide) ?_
        exact ih _ _ _ _ _ hM hS (lv_sub hl [3, 0] rfl) heq
      · have heq := if_t c9 heq
        refine lv_aload_n hx hb dX1_makeSwaps_33 rfl (lv_at hl 2 rfl) ?_
        refine gX1_37 C hM (kl h0) h0 (rS_9 h0) dX1_makeSwaps_34 ?_
        refine lv_iload_n hx hb dX1_makeSwaps_37 rfl (lv_at hl 1 rfl) ?_
        obtain ⟨g11, heq⟩ := gd_of heq
        refine mm_ald C hM (kl (kS_9 h0)) (Or.inl rfl) (kS_9 h0) (vp_in_of2 g11) (rS_cart h0 (vp_lt g11)) dX1_makeSwaps_38 ?_
        refine lv_dup hx hb dX1_makeSwaps_39 rfl ?_
        refine gX1_151 C hM (kl (kS_cart h0 (vp_lt g11))) (kS_cart h0 (vp_lt g11)) dX1_makeSwaps_40 ?_
        refine lv_aload_n hx hb dX1_makeSwaps_43 rfl (lv_at hl 2 rfl) ?_
        refine gX1_9 C hM (kl h0) h0 (rS_7 h0) dX1_makeSwaps_44 ?_
        refine lv_bipush (v := 9) hx hb dX1_makeSwaps_47 (by decide) ?_
        refine mm_ildk C hM (kl (kS_7 h0)) (kS_7 h0) (vp_in_of2 (by decide)) (by decide : (9 : Int32).toNatClampNeg = 9) dX1_makeSwaps_49 ?_
        refine lv_i2l hx hb dX1_makeSwaps_50 rfl ?_
        refine lv_ladd hx hb dX1_makeSwaps_51 ?_
        refine pX1_151 C hM hS (kl (kS_cart h0 (vp_lt g11))) (kS_cart h0 (vp_lt g11)) dX1_makeSwaps_52 (fun H locs hM hS _ => ?_)
        obtain ⟨M12, eM12⟩ : ∃ z : mm_M, z = sL M8 (a0 + 18 + 3 * y4.toNatClampNeg) 15 ((M8.2 (a0 + 18 + 3 * y4.toNatClampNeg) 15) + ((M8.1 (a0 + 1) 9).toInt64)) := ⟨_, rfl⟩
        rw [← eM12] at hM
        have heq := lt_to eM12 heq
        refine lv_aload_n hx hb dX1_makeSwaps_55 rfl (lv_at hl 2 rfl) ?_
        refine gX1_37 C hM (kl h0) h0 (rS_9 h0) dX1_makeSwaps_56 ?_
        refine lv_iload_n hx hb dX1_makeSwaps_59 rfl (lv_at hl 0 rfl) ?_
        obtain ⟨g13, heq⟩ := gd_of heq
        refine mm_ald C hM (kl (kS_9 h0)) (Or.inl rfl) (kS_9 h0) (vp_in_of2 g13) (rS_cart h0 (vp_lt g13)) dX1_makeSwaps_60 ?_
        refine lv_dup hx hb dX1_makeSwaps_61 rfl ?_
        refine gX1_151 C hM (kl (kS_cart h0 (vp_lt g13))) (kS_cart h0 (vp_lt g13)) dX1_makeSwaps_62 ?_
        refine lv_aload_n hx hb dX1_makeSwaps_65 rfl (lv_at hl 2 rfl) ?_
        refine gX1_9 C hM (kl h0) h0 (rS_7 h0) dX1_makeSwaps_66 ?_
        refine lv_bipush (v := 9) hx hb dX1_makeSwaps_69 (by decide) ?_
        refine mm_ildk C hM (kl (kS_7 h0)) (kS_7 h0) (vp_in_of2 (by decide)) (by decide : (9 : Int32).toNatClampNeg = 9) dX1_makeSwaps_71 ?_
        refine lv_i2l hx hb dX1_makeSwaps_72 rfl ?_
        refine lv_ladd hx hb dX1_makeSwaps_73 ?_
        refine pX1_151 C hM hS (kl (kS_cart h0 (vp_lt g13))) (kS_cart h0 (vp_lt g13)) dX1_makeSwaps_74 (fun H locs hM hS _ => ?_)
        obtain ⟨M14, eM14⟩ : ∃ z : mm_M, z = sL M12 (a0 + 18 + 3 * y5.toNatClampNeg) 15 ((M12.2 (a0 + 18 + 3 * y5.toNatClampNeg) 15) + ((M12.1 (a0 + 1) 9).toInt64)) := ⟨_, rfl⟩
        rw [← eM14] at hM
        have heq := lt_to eM14 heq
        refine lv_aload_n hx hb dX1_makeSwaps_77 rfl (lv_at hl 2 rfl) ?_
        refine lv_dup hx hb dX1_makeSwaps_78 rfl ?_
        refine gX1_155 C hM (kl h0) h0 dX1_makeSwaps_79 ?_
        refine lv_iconst (v := 1) hx hb dX1_makeSwaps_82 (by decide) ?_
        refine lv_iadd hx hb dX1_makeSwaps_83 ?_
        refine pX1_155 C hM hS (kl h0) h0 dX1_makeSwaps_84 (fun H locs hM hS _ => ?_)
        obtain ⟨M15, eM15⟩ : ∃ z : mm_M, z = sI M14 a0 5 ((M14.1 a0 5) + 1) := ⟨_, rfl⟩
        rw [← eM15] at hM
        have heq := lt_to eM15 heq
        obtain ⟨y16, ey16⟩ : ∃ y : Int32, y = (v1 + 1) := ⟨_, rfl⟩
        have heq := lt_to ey16 heq
        refine lv_iinc (v := y16) (lv' := [(1, .int y16), (3, .int y5), (2, .int y4), (0, .ref (mm_lo G + a0))]) hx hb dX1_makeSwaps_87 hl (k := 3) rfl (by rw [ey16]; rfl) (by decide) rfl (fun ls hl => ?_)
        refine lv_goto (tgt := 2) hx hb dX1_makeSwaps_90 (by decide) ?_
        exact ih _ _ _ _ _ hM hS (lv_sub hl [3, 0] rfl) heq

set_option maxRecDepth 100000 in
set_option maxHeartbeats 4000000 in
theorem tX1_makeSwaps (l : Launch) (G : mm_G) (M : mm_M) (a0 : Nat) (h0 : kT a0 = (4, 0)) (M9 : mm_M) (heq : fX1_makeSwaps M a0 = some M9) : Met l yX1_makeSwaps (mm_ws yX1_makeSwaps cX1_makeSwaps 4 none) rmX1_makeSwaps (va_Pc [.ref (mm_lo G + a0)] (mm_B G (kR, 740, M))) (mm_Qv G (kR, 740, M9)) 0 0 (mm_A G) := by
  refine mm_met (cc := cX1_makeSwaps) (nL := 4) (ret := none) plRX1 (Nat.le_of_ble_eq_true rfl) ?_
  intro p e s m below meth c ls hin C hM hS hl
  have C : mm_C G p s m _ meth c RX1 cX1_makeSwaps 4 none := C
  have hM : mm_P G kR 740 M s.heap := hM
  have hl : lv_has ls 4 [(0, .ref (mm_lo G + a0))] := hl
  obtain ⟨hx, hb, -, -, -, -, -, -, hZ, -⟩ := id C
  rw [fX1_makeSwaps] at heq
  refine lv_iconst (v := 0) hx hb dX1_makeSwaps_0 (by decide) ?_
  refine lv_istore_n (lv' := [(1, .int 0), (0, .ref (mm_lo G + a0))]) hx hb dX1_makeSwaps_1 rfl hl (by decide) rfl (fun ls hl => ?_)
  exact tX1_makeSwaps_2 C a0 h0 FU _ _ _ _ _ hM hS (lv_sub hl [1, 0] rfl) heq

set_option maxRecDepth 100000 in
set_option maxHeartbeats 4000000 in
theorem tX1_trade_2 (C : mm_C G p s m args meth c RX1 cX1_trade 4 none) (a0 : Nat) (h0 : kT a0 = (4, 0)) {M9 : mm_M} : ∀ n : Nat, ∀ (M : mm_M) (v1 : Int32) (H : Heap) (locs : List Loc) (ls : Array Slot), mm_P G kR 740 M H → va_S (mm_A G) s.heap H locs → lv_has ls 4 [(0, .ref (mm_lo G + a0)), (1, .int v1)] → fX1_trade_2 a0 n M v1 = some M9 → W p l e rmX1_trade s m args below meth c H locs 0 0 (MQ below (mm_Qv G (kR, 740, M9)) args s 0 0 (mm_A G)) (F0 m 2 ls []) := by
  obtain ⟨hx, hb, -, -, -, -, -, -, hZ, -⟩ := id C
  intro n
  induction n with
  | zero =>
    intro M v1 H locs ls hM hS hl heq
    rw [fX1_trade_2] at heq
    cases heq
  | succ n ih =>
    intro M v1 H locs ls hM hS hl heq
    rw [fX1_trade_2] at heq
    refine lv_iload_n hx hb dX1_trade_2 rfl (lv_at hl 1 rfl) ?_
    refine lv_aload_n hx hb dX1_trade_3 rfl (lv_at hl 0 rfl) ?_
    refine gX1_34 C hM (kl h0) h0 dX1_trade_4 ?_
    refine lv_icmp_ge (tgt := 118) hx hb dX1_trade_7 (by decide) (fun c1 => ?_) (fun c1 => ?_)
    · have heq := if_t c1 heq
      cases heq
      exact mm_vret C hM hS dX1_trade_118
    · have heq := if_f c1 heq
      refine lv_aload_n hx hb dX1_trade_10 rfl (lv_at hl 0 rfl) ?_
      refine gX1_37 C hM (kl h0) h0 (rS_9 h0) dX1_trade_11 ?_
      refine lv_iload_n hx hb dX1_trade_14 rfl (lv_at hl 1 rfl) ?_
      obtain ⟨g2, heq⟩ := gd_of heq
      refine mm_ald C hM (kl (kS_9 h0)) (Or.inl rfl) (kS_9 h0) (vp_in_of2 g2) (rS_cart h0 (vp_lt g2)) dX1_trade_15 ?_
      refine lv_astore_n (lv' := [(2, .ref (mm_lo G + (a0 + 18 + 3 * v1.toNatClampNeg))), (0, .ref (mm_lo G + a0)), (1, .int v1)]) hx hb dX1_trade_16 rfl hl (by decide) rfl (fun ls hl => ?_)
      refine lv_aload_n hx hb dX1_trade_17 rfl (lv_at hl 1 rfl) ?_
      refine lv_aload_n hx hb dX1_trade_18 rfl (lv_at hl 0 rfl) ?_
      refine gX1_121 C hM (kl (kS_cart h0 (vp_lt g2))) (kS_cart h0 (vp_lt g2)) dX1_trade_19 ?_
      obtain ⟨r4, e3, heq⟩ := bn_of heq
      refine mm_ki hS (mm_runV (rest := []) C hM hS (tX5_hasPitch l G M a0 h0 (M.1 (a0 + 18 + 3 * v1.toNatClampNeg) 8) r4 e3) (uX1_110 _ (Nat.le_of_ble_eq_true rfl) (Nat.le_of_ble_eq_true rfl)) (mm_recv C hM (kl h0) (ci := 4) rfl (mm_e4 h0)) hl.1 rfl rfl (Nat.le_of_ble_eq_true rfl) ⟨Nat.zero_le _, Nat.zero_le _⟩ dX1_trade_22) (fun H locs hM hS => ?_)
      have hM : mm_P G kR 740 M H := hM
      refine mm_ifeqZ (tgt := 93) C dX1_trade_25 (by decide) (fun c5 => ?_) (fun c5 => ?_)
      · have heq := if_f c5 heq
        refine lv_aload_n hx hb dX1_trade_93 rfl (lv_at hl 0 rfl) ?_
        refine gX1_81 C hM (kl (kS_cart h0 (vp_lt g2))) (kS_cart h0 (vp_lt g2)) dX1_trade_94 ?_
        refine lv_bipush (v := (-6)) hx hb dX1_trade_97 (by decide) ?_
        refine lv_icmp_eq (tgt := 112) hx hb dX1_trade_99 (by decide) (fun c6 => ?_) (fun c6 => ?_)
        · have heq := if_t c6 heq
          obtain ⟨y7, ey7⟩ : ∃ y : Int32, y = (v1 + 1) := ⟨_, rfl⟩
          have heq := lt_to ey7 heq
          refine lv_iinc (v := y7) (lv' := [(1, .int y7), (2, .ref (mm_lo G + (a0 + 18 + 3 * v1.toNatClampNeg))), (0, .ref (mm_lo G + a0))]) hx hb dX1_trade_112 hl (k := 2) rfl (by rw [ey7]; rfl) (by decide) rfl (fun ls hl => ?_)
          refine lv_goto (tgt := 2) hx hb dX1_trade_115 (by decide) ?_
          exact ih _ _ _ _ _ hM hS (lv_sub hl [2, 0] rfl) heq
        · have heq := if_f c6 heq
          refine lv_aload_n hx hb dX1_trade_102 rfl (lv_at hl 0 rfl) ?_
          refine lv_dup hx hb dX1_trade_103 rfl ?_
          refine gX1_95 C hM (kl (kS_cart h0 (vp_lt g2))) (kS_cart h0 (vp_lt g2)) dX1_trade_104 ?_
          refine lv_iconst (v := 1) hx hb dX1_trade_107 (by decide) ?_
          refine lv_iadd hx hb dX1_trade_108 ?_
          refine pX1_95 C hM hS (kl (kS_cart h0 (vp_lt g2))) (kS_cart h0 (vp_lt g2)) dX1_trade_109 (fun H locs hM hS _ => ?_)
          obtain ⟨M8, eM8⟩ : ∃ z : mm_M, z = sI M (a0 + 18 + 3 * v1.toNatClampNeg) 3 ((M.1 (a0 + 18 + 3 * v1.toNatClampNeg) 3) + 1) := ⟨_, rfl⟩
          rw [← eM8] at hM
          have heq := lt_to eM8 heq
          obtain ⟨y9, ey9⟩ : ∃ y : Int32, y = (v1 + 1) := ⟨_, rfl⟩
          have heq := lt_to ey9 heq
          refine lv_iinc (v := y9) (lv' := [(1, .int y9), (2, .ref (mm_lo G + (a0 + 18 + 3 * v1.toNatClampNeg))), (0, .ref (mm_lo G + a0))]) hx hb dX1_trade_112 hl (k := 2) rfl (by rw [ey9]; rfl) (by decide) rfl (fun ls hl => ?_)
          refine lv_goto (tgt := 2) hx hb dX1_trade_115 (by decide) ?_
          exact ih _ _ _ _ _ hM hS (lv_sub hl [2, 0] rfl) heq
      · have heq := if_t c5 heq
        refine lv_aload_n hx hb dX1_trade_28 rfl (lv_at hl 1 rfl) ?_
        refine gX1_44 C hM (kl h0) h0 (rS_8 h0) dX1_trade_29 ?_
        refine lv_aload_n hx hb dX1_trade_32 rfl (lv_at hl 0 rfl) ?_
        refine gX1_121 C hM (kl (kS_cart h0 (vp_lt g2))) (kS_cart h0 (vp_lt g2)) dX1_trade_33 ?_
        obtain ⟨g10, heq⟩ := gd_of heq
        refine mm_ald C hM (kl (kS_8 h0)) (Or.inr (Or.inl rfl)) (kS_8 h0) (vp_in_of2 g10) (rS_pitch h0 (vp_lt g10)) dX1_trade_36 ?_
        refine lv_astore_n (lv' := [(3, .ref (mm_lo G + (a0 + 8 + (M.1 (a0 + 18 + 3 * v1.toNatClampNeg) 8).toNatClampNeg))), (2, .ref (mm_lo G + (a0 + 18 + 3 * v1.toNatClampNeg))), (0, .ref (mm_lo G + a0)), (1, .int v1)]) hx hb dX1_trade_37 rfl hl (by decide) rfl (fun ls hl => ?_)
        refine lv_aload_n hx hb dX1_trade_38 rfl (lv_at hl 1 rfl) ?_
        refine lv_dup hx hb dX1_trade_39 rfl ?_
        refine gX1_158 C hM (kl (kS_cart h0 (vp_lt g2))) (kS_cart h0 (vp_lt g2)) dX1_trade_40 ?_
        refine lv_aload_n hx hb dX1_trade_43 rfl (lv_at hl 0 rfl) ?_
        refine gX1_161 C hM (kl (kS_pitch h0 (vp_lt g10))) (kS_pitch h0 (vp_lt g10)) dX1_trade_44 ?_
        refine lv_i2l hx hb dX1_trade_47 rfl ?_
        refine lv_ladd hx hb dX1_trade_48 ?_
        refine pX1_158 C hM hS (kl (kS_cart h0 (vp_lt g2))) (kS_cart h0 (vp_lt g2)) dX1_trade_49 (fun H locs hM hS _ => ?_)
        obtain ⟨M11, eM11⟩ : ∃ z : mm_M, z = sL M (a0 + 18 + 3 * v1.toNatClampNeg) 13 ((M.2 (a0 + 18 + 3 * v1.toNatClampNeg) 13) + ((M.1 (a0 + 8 + (M.1 (a0 + 18 + 3 * v1.toNatClampNeg) 8).toNatClampNeg) 0).toInt64)) := ⟨_, rfl⟩
        rw [← eM11] at hM
        have heq := lt_to eM11 heq
        refine lv_aload_n hx hb dX1_trade_52 rfl (lv_at hl 1 rfl) ?_
        refine lv_dup hx hb dX1_trade_53 rfl ?_
        refine gX1_164 C hM (kl (kS_cart h0 (vp_lt g2))) (kS_cart h0 (vp_lt g2)) dX1_trade_54 ?_
        refine lv_iconst (v := 1) hx hb dX1_trade_57 (by decide) ?_
        refine lv_iadd hx hb dX1_trade_58 ?_
        refine pX1_164 C hM hS (kl (kS_cart h0 (vp_lt g2))) (kS_cart h0 (vp_lt g2)) dX1_trade_59 (fun H locs hM hS _ => ?_)
        obtain ⟨M12, eM12⟩ : ∃ z : mm_M, z = sI M11 (a0 + 18 + 3 * v1.toNatClampNeg) 7 ((M11.1 (a0 + 18 + 3 * v1.toNatClampNeg) 7) + 1) := ⟨_, rfl⟩
        rw [← eM12] at hM
        have heq := lt_to eM12 heq
        refine lv_aload_n hx hb dX1_trade_62 rfl (lv_at hl 1 rfl) ?_
        refine lv_iconst (v := 0) hx hb dX1_trade_63 (by decide) ?_
        refine pX1_95 C hM hS (kl (kS_cart h0 (vp_lt g2))) (kS_cart h0 (vp_lt g2)) dX1_trade_64 (fun H locs hM hS _ => ?_)
        obtain ⟨M13, eM13⟩ : ∃ z : mm_M, z = sI M12 (a0 + 18 + 3 * v1.toNatClampNeg) 3 0 := ⟨_, rfl⟩
        rw [← eM13] at hM
        have heq := lt_to eM13 heq
        refine lv_aload_n hx hb dX1_trade_67 rfl (lv_at hl 0 rfl) ?_
        refine lv_dup hx hb dX1_trade_68 rfl ?_
        refine gX1_167 C hM (kl (kS_pitch h0 (vp_lt g10))) (kS_pitch h0 (vp_lt g10)) dX1_trade_69 ?_
        refine lv_aload_n hx hb dX1_trade_72 rfl (lv_at hl 0 rfl) ?_
        refine gX1_161 C hM (kl (kS_pitch h0 (vp_lt g10))) (kS_pitch h0 (vp_lt g10)) dX1_trade_73 ?_
        refine lv_iadd hx hb dX1_trade_76 ?_
        refine pX1_167 C hM hS (kl (kS_pitch h0 (vp_lt g10))) (kS_pitch h0 (vp_lt g10)) dX1_trade_77 (fun H locs hM hS _ => ?_)
        obtain ⟨M14, eM14⟩ : ∃ z : mm_M, z = sI M13 (a0 + 8 + (M.1 (a0 + 18 + 3 * v1.toNatClampNeg) 8).toNatClampNeg) 2 ((M13.1 (a0 + 8 + (M.1 (a0 + 18 + 3 * v1.toNatClampNeg) 8).toNatClampNeg) 2) + (M13.1 (a0 + 8 + (M.1 (a0 + 18 + 3 * v1.toNatClampNeg) 8).toNatClampNeg) 0)) := ⟨_, rfl⟩
        rw [← eM14] at hM
        have heq := lt_to eM14 heq
        refine lv_aload_n hx hb dX1_trade_80 rfl (lv_at hl 0 rfl) ?_
        refine lv_dup hx hb dX1_trade_81 rfl ?_
        refine gX1_170 C hM (kl (kS_pitch h0 (vp_lt g10))) (kS_pitch h0 (vp_lt g10)) dX1_trade_82 ?_
        refine lv_iconst (v := 1) hx hb dX1_trade_85 (by decide) ?_
        refine lv_iadd hx hb dX1_trade_86 ?_
        refine pX1_170 C hM hS (kl (kS_pitch h0 (vp_lt g10))) (kS_pitch h0 (vp_lt g10)) dX1_trade_87 (fun H locs hM hS _ => ?_)
        obtain ⟨M15, eM15⟩ : ∃ z : mm_M, z = sI M14 (a0 + 8 + (M.1 (a0 + 18 + 3 * v1.toNatClampNeg) 8).toNatClampNeg) 1 ((M14.1 (a0 + 8 + (M.1 (a0 + 18 + 3 * v1.toNatClampNeg) 8).toNatClampNeg) 1) + 1) := ⟨_, rfl⟩
        rw [← eM15] at hM
        have heq := lt_to eM15 heq
        refine lv_goto (tgt := 112) hx hb dX1_trade_90 (by decide) ?_
        obtain ⟨y16, ey16⟩ : ∃ y : Int32, y = (v1 + 1) := ⟨_, rfl⟩
        have heq := lt_to ey16 heq
        refine lv_iinc (v := y16) (lv' := [(1, .int y16), (3, .ref (mm_lo G + (a0 + 8 + (M.1 (a0 + 18 + 3 * v1.toNatClampNeg) 8).toNatClampNeg))), (2, .ref (mm_lo G + (a0 + 18 + 3 * v1.toNatClampNeg))), (0, .ref (mm_lo G + a0))]) hx hb dX1_trade_112 hl (k := 3) rfl (by rw [ey16]; rfl) (by decide) rfl (fun ls hl => ?_)
        refine lv_goto (tgt := 2) hx hb dX1_trade_115 (by decide) ?_
        exact ih _ _ _ _ _ hM hS (lv_sub hl [3, 0] rfl) heq

set_option maxRecDepth 100000 in
set_option maxHeartbeats 4000000 in
theorem tX1_trade (l : Launch) (G : mm_G) (M : mm_M) (a0 : Nat) (h0 : kT a0 = (4, 0)) (M9 : mm_M) (heq : fX1_trade M a0 = some M9) : Met l yX1_trade (mm_ws yX1_trade cX1_trade 4 none) rmX1_trade (va_Pc [.ref (mm_lo G + a0)] (mm_B G (kR, 740, M))) (mm_Qv G (kR, 740, M9)) 0 0 (mm_A G) := by
  refine mm_met (cc := cX1_trade) (nL := 4) (ret := none) plRX1 (Nat.le_of_ble_eq_true rfl) ?_
  intro p e s m below meth c ls hin C hM hS hl
  have C : mm_C G p s m _ meth c RX1 cX1_trade 4 none := C
  have hM : mm_P G kR 740 M s.heap := hM
  have hl : lv_has ls 4 [(0, .ref (mm_lo G + a0))] := hl
  obtain ⟨hx, hb, -, -, -, -, -, -, hZ, -⟩ := id C
  rw [fX1_trade] at heq
  refine lv_iconst (v := 0) hx hb dX1_trade_0 (by decide) ?_
  refine lv_istore_n (lv' := [(1, .int 0), (0, .ref (mm_lo G + a0))]) hx hb dX1_trade_1 rfl hl (by decide) rfl (fun ls hl => ?_)
  exact tX1_trade_2 C a0 h0 FU _ _ _ _ _ hM hS (lv_sub hl [1, 0] rfl) heq

set_option maxRecDepth 100000 in
set_option maxHeartbeats 4000000 in
theorem tX4_copyFrom (l : Launch) (G : mm_G) (M : mm_M) (a0 : Nat) (h0 : kT a0 = (3, 0)) (a1 : Nat) (h1 : kT a1 = (3, 0)) (M9 : mm_M) (heq : fX4_copyFrom M a0 a1 = some M9) : Met l yX4_copyFrom (mm_ws yX4_copyFrom cX4_copyFrom 2 none) rmX4_copyFrom (va_Pc [.ref (mm_lo G + a0), .ref (mm_lo G + a1)] (mm_B G (kR, 740, M))) (mm_Qv G (kR, 740, M9)) 0 0 (mm_A G) := by
  refine mm_met (cc := cX4_copyFrom) (nL := 2) (ret := none) plRX4 (Nat.le_of_ble_eq_true rfl) ?_
  intro p e s m below meth c ls hin C hM hS hl
  have C : mm_C G p s m _ meth c RX4 cX4_copyFrom 2 none := C
  have hM : mm_P G kR 740 M s.heap := hM
  have hl : lv_has ls 2 [(0, .ref (mm_lo G + a0)), (1, .ref (mm_lo G + a1))] := hl
  obtain ⟨hx, hb, -, -, -, -, -, -, hZ, -⟩ := id C
  rw [fX4_copyFrom] at heq
  refine lv_aload_n hx hb dX4_copyFrom_0 rfl (lv_at hl 0 rfl) ?_
  refine lv_aload_n hx hb dX4_copyFrom_1 rfl (lv_at hl 1 rfl) ?_
  refine gX4_9 C hM (kl h1) h1 dX4_copyFrom_2 ?_
  refine pX4_9 C hM hS (kl h0) h0 dX4_copyFrom_5 (fun H locs hM hS _ => ?_)
  obtain ⟨M1, eM1⟩ : ∃ z : mm_M, z = sI M a0 0 (M.1 a1 0) := ⟨_, rfl⟩
  rw [← eM1] at hM
  have heq := lt_to eM1 heq
  refine lv_aload_n hx hb dX4_copyFrom_8 rfl (lv_at hl 0 rfl) ?_
  refine lv_aload_n hx hb dX4_copyFrom_9 rfl (lv_at hl 1 rfl) ?_
  refine gX4_15 C hM (kl h1) h1 dX4_copyFrom_10 ?_
  refine pX4_15 C hM hS (kl h0) h0 dX4_copyFrom_13 (fun H locs hM hS _ => ?_)
  obtain ⟨M2, eM2⟩ : ∃ z : mm_M, z = sI M1 a0 1 (M1.1 a1 1) := ⟨_, rfl⟩
  rw [← eM2] at hM
  have heq := lt_to eM2 heq
  refine lv_aload_n hx hb dX4_copyFrom_16 rfl (lv_at hl 0 rfl) ?_
  refine lv_aload_n hx hb dX4_copyFrom_17 rfl (lv_at hl 1 rfl) ?_
  refine gX4_18 C hM (kl h1) h1 dX4_copyFrom_18 ?_
  refine pX4_18 C hM hS (kl h0) h0 dX4_copyFrom_21 (fun H locs hM hS _ => ?_)
  obtain ⟨M3, eM3⟩ : ∃ z : mm_M, z = sI M2 a0 2 (M2.1 a1 2) := ⟨_, rfl⟩
  rw [← eM3] at hM
  have heq := lt_to eM3 heq
  refine lv_aload_n hx hb dX4_copyFrom_24 rfl (lv_at hl 0 rfl) ?_
  refine lv_aload_n hx hb dX4_copyFrom_25 rfl (lv_at hl 1 rfl) ?_
  refine gX4_21 C hM (kl h1) h1 dX4_copyFrom_26 ?_
  refine pX4_21 C hM hS (kl h0) h0 dX4_copyFrom_29 (fun H locs hM hS _ => ?_)
  obtain ⟨M4, eM4⟩ : ∃ z : mm_M, z = sI M3 a0 3 (M3.1 a1 3) := ⟨_, rfl⟩
  rw [← eM4] at hM
  have heq := lt_to eM4 heq
  cases heq
  exact mm_vret C hM hS dX4_copyFrom_32

set_option maxRecDepth 100000 in
set_option maxHeartbeats 4000000 in
theorem tX5_copyFrom_126 (C : mm_C G p s m args meth c RX5 cX5_copyFrom 3 none) (a0 : Nat) (h0 : kT a0 = (4, 0)) (a1 : Nat) (h1 : kT a1 = (4, 0)) {M9 : mm_M} : ∀ n : Nat, ∀ (M : mm_M) (v2 : Int32) (H : Heap) (locs : List Loc) (ls : Array Slot), mm_P G kR 740 M H → va_S (mm_A G) s.heap H locs → lv_has ls 3 [(0, .ref (mm_lo G + a0)), (1, .ref (mm_lo G + a1)), (2, .int v2)] → fX5_copyFrom_126 a0 a1 n M v2 = some M9 → W p l e rmX5_copyFrom s m args below meth c H locs 0 0 (MQ below (mm_Qv G (kR, 740, M9)) args s 0 0 (mm_A G)) (F0 m 126 ls []) := by
  obtain ⟨hx, hb, -, -, -, -, -, -, hZ, -⟩ := id C
  intro n
  induction n with
  | zero =>
    intro M v2 H locs ls hM hS hl heq
    rw [fX5_copyFrom_126] at heq
    cases heq
  | succ n ih =>
    intro M v2 H locs ls hM hS hl heq
    rw [fX5_copyFrom_126] at heq
    refine lv_iload_n hx hb dX5_copyFrom_126 rfl (lv_at hl 2 rfl) ?_
    refine lv_aload_n hx hb dX5_copyFrom_127 rfl (lv_at hl 0 rfl) ?_
    refine gX5_54 C hM (kl h0) h0 dX5_copyFrom_128 ?_
    refine lv_icmp_ge (tgt := 155) hx hb dX5_copyFrom_131 (by decide) (fun c1 => ?_) (fun c1 => ?_)
    · have heq := if_t c1 heq
      cases heq
      exact mm_vret C hM hS dX5_copyFrom_155
    · have heq := if_f c1 heq
      refine lv_aload_n hx hb dX5_copyFrom_134 rfl (lv_at hl 0 rfl) ?_
      refine gX5_27 C hM (kl h0) h0 (rS_9 h0) dX5_copyFrom_135 ?_
      refine lv_iload_n hx hb dX5_copyFrom_138 rfl (lv_at hl 2 rfl) ?_
      obtain ⟨g2, heq⟩ := gd_of heq
      refine mm_ald C hM (kl (kS_9 h0)) (Or.inl rfl) (kS_9 h0) (vp_in_of2 g2) (rS_cart h0 (vp_lt g2)) dX5_copyFrom_139 ?_
      refine lv_aload_n hx hb dX5_copyFrom_140 rfl (lv_at hl 1 rfl) ?_
      refine gX5_27 C hM (kl h1) h1 (rS_9 h1) dX5_copyFrom_141 ?_
      refine lv_iload_n hx hb dX5_copyFrom_144 rfl (lv_at hl 2 rfl) ?_
      refine mm_ald C hM (kl (kS_9 h1)) (Or.inl rfl) (kS_9 h1) (vp_in_of2 g2) (rS_cart h1 (vp_lt g2)) dX5_copyFrom_145 ?_
      obtain ⟨M4, e3, heq⟩ := bn_of heq
      refine mm_kv hS (mm_runV (rest := []) C hM hS (tX0_copyFrom l G M (a0 + 18 + 3 * v2.toNatClampNeg) (kS_cart h0 (vp_lt g2)) (a1 + 18 + 3 * v2.toNatClampNeg) (kS_cart h1 (vp_lt g2)) M4 e3) (uX5_73 _ (Nat.le_of_ble_eq_true rfl) (Nat.le_of_ble_eq_true rfl)) (mm_recv C hM (kl (kS_cart h0 (vp_lt g2))) (ci := 0) rfl (mm_e0 (kS_cart h0 (vp_lt g2)))) hl.1 rfl rfl (Nat.le_of_ble_eq_true rfl) ⟨Nat.zero_le _, Nat.zero_le _⟩ dX5_copyFrom_146) (fun H locs hM hS => ?_)
      have hM : mm_P G kR 740 M4 H := hM
      obtain ⟨y5, ey5⟩ : ∃ y : Int32, y = (v2 + 1) := ⟨_, rfl⟩
      have heq := lt_to ey5 heq
      refine lv_iinc (v := y5) (lv' := [(2, .int y5), (0, .ref (mm_lo G + a0)), (1, .ref (mm_lo G + a1))]) hx hb dX5_copyFrom_149 hl (k := 2) rfl (by rw [ey5]; rfl) (by decide) rfl (fun ls hl => ?_)
      refine lv_goto (tgt := 126) hx hb dX5_copyFrom_152 (by decide) ?_
      exact ih _ _ _ _ _ hM hS (lv_sub hl [1, 2, 0] rfl) heq

set_option maxRecDepth 100000 in
set_option maxHeartbeats 4000000 in
theorem tX5_copyFrom_95 (C : mm_C G p s m args meth c RX5 cX5_copyFrom 3 none) (a0 : Nat) (h0 : kT a0 = (4, 0)) (a1 : Nat) (h1 : kT a1 = (4, 0)) {M9 : mm_M} : ∀ n : Nat, ∀ (M : mm_M) (v2 : Int32) (H : Heap) (locs : List Loc) (ls : Array Slot), mm_P G kR 740 M H → va_S (mm_A G) s.heap H locs → lv_has ls 3 [(0, .ref (mm_lo G + a0)), (1, .ref (mm_lo G + a1)), (2, .int v2)] → fX5_copyFrom_95 a0 a1 n M v2 = some M9 → W p l e rmX5_copyFrom s m args below meth c H locs 0 0 (MQ below (mm_Qv G (kR, 740, M9)) args s 0 0 (mm_A G)) (F0 m 95 ls []) := by
  obtain ⟨hx, hb, -, -, -, -, -, -, hZ, -⟩ := id C
  intro n
  induction n with
  | zero =>
    intro M v2 H locs ls hM hS hl heq
    rw [fX5_copyFrom_95] at heq
    cases heq
  | succ n ih =>
    intro M v2 H locs ls hM hS hl heq
    rw [fX5_copyFrom_95] at heq
    refine lv_iload_n hx hb dX5_copyFrom_95 rfl (lv_at hl 2 rfl) ?_
    refine lv_aload_n hx hb dX5_copyFrom_96 rfl (lv_at hl 0 rfl) ?_
    refine gX5_51 C hM (kl h0) h0 dX5_copyFrom_97 ?_
    refine lv_icmp_ge (tgt := 124) hx hb dX5_copyFrom_100 (by decide) (fun c1 => ?_) (fun c1 => ?_)
    · have heq := if_t c1 heq
      refine lv_iconst (v := 0) hx hb dX5_copyFrom_124 (by decide) ?_
      refine lv_istore_n (lv' := [(2, .int 0), (0, .ref (mm_lo G + a0)), (1, .ref (mm_lo G + a1))]) hx hb dX5_copyFrom_125 rfl hl (by decide) rfl (fun ls hl => ?_)
      exact tX5_copyFrom_126 C a0 h0 a1 h1 FU _ _ _ _ _ hM hS (lv_sub hl [1, 2, 0] rfl) heq
    · have heq := if_f c1 heq
      refine lv_aload_n hx hb dX5_copyFrom_103 rfl (lv_at hl 0 rfl) ?_
      refine gX5_21 C hM (kl h0) h0 (rS_8 h0) dX5_copyFrom_104 ?_
      refine lv_iload_n hx hb dX5_copyFrom_107 rfl (lv_at hl 2 rfl) ?_
      obtain ⟨g2, heq⟩ := gd_of heq
      refine mm_ald C hM (kl (kS_8 h0)) (Or.inr (Or.inl rfl)) (kS_8 h0) (vp_in_of2 g2) (rS_pitch h0 (vp_lt g2)) dX5_copyFrom_108 ?_
      refine lv_aload_n hx hb dX5_copyFrom_109 rfl (lv_at hl 1 rfl) ?_
      refine gX5_21 C hM (kl h1) h1 (rS_8 h1) dX5_copyFrom_110 ?_
      refine lv_iload_n hx hb dX5_copyFrom_113 rfl (lv_at hl 2 rfl) ?_
      refine mm_ald C hM (kl (kS_8 h1)) (Or.inr (Or.inl rfl)) (kS_8 h1) (vp_in_of2 g2) (rS_pitch h1 (vp_lt g2)) dX5_copyFrom_114 ?_
      obtain ⟨M4, e3, heq⟩ := bn_of heq
      refine mm_kv hS (mm_runV (rest := []) C hM hS (tX4_copyFrom l G M (a0 + 8 + v2.toNatClampNeg) (kS_pitch h0 (vp_lt g2)) (a1 + 8 + v2.toNatClampNeg) (kS_pitch h1 (vp_lt g2)) M4 e3) (uX5_69 _ (Nat.le_of_ble_eq_true rfl) (Nat.le_of_ble_eq_true rfl)) (mm_recv C hM (kl (kS_pitch h0 (vp_lt g2))) (ci := 3) rfl (mm_e3 (kS_pitch h0 (vp_lt g2)))) hl.1 rfl rfl (Nat.le_of_ble_eq_true rfl) ⟨Nat.zero_le _, Nat.zero_le _⟩ dX5_copyFrom_115) (fun H locs hM hS => ?_)
      have hM : mm_P G kR 740 M4 H := hM
      obtain ⟨y5, ey5⟩ : ∃ y : Int32, y = (v2 + 1) := ⟨_, rfl⟩
      have heq := lt_to ey5 heq
      refine lv_iinc (v := y5) (lv' := [(2, .int y5), (0, .ref (mm_lo G + a0)), (1, .ref (mm_lo G + a1))]) hx hb dX5_copyFrom_118 hl (k := 2) rfl (by rw [ey5]; rfl) (by decide) rfl (fun ls hl => ?_)
      refine lv_goto (tgt := 95) hx hb dX5_copyFrom_121 (by decide) ?_
      exact ih _ _ _ _ _ hM hS (lv_sub hl [1, 2, 0] rfl) heq

set_option maxRecDepth 100000 in
set_option maxHeartbeats 4000000 in
theorem tX5_copyFrom (l : Launch) (G : mm_G) (M : mm_M) (a0 : Nat) (h0 : kT a0 = (4, 0)) (a1 : Nat) (h1 : kT a1 = (4, 0)) (M9 : mm_M) (heq : fX5_copyFrom M a0 a1 = some M9) : Met l yX5_copyFrom (mm_ws yX5_copyFrom cX5_copyFrom 3 none) rmX5_copyFrom (va_Pc [.ref (mm_lo G + a0), .ref (mm_lo G + a1)] (mm_B G (kR, 740, M))) (mm_Qv G (kR, 740, M9)) 0 0 (mm_A G) := by
  refine mm_met (cc := cX5_copyFrom) (nL := 3) (ret := none) plRX5 (Nat.le_of_ble_eq_true rfl) ?_
  intro p e s m below meth c ls hin C hM hS hl
  have C : mm_C G p s m _ meth c RX5 cX5_copyFrom 3 none := C
  have hM : mm_P G kR 740 M s.heap := hM
  have hl : lv_has ls 3 [(0, .ref (mm_lo G + a0)), (1, .ref (mm_lo G + a1))] := hl
  obtain ⟨hx, hb, -, -, -, -, -, -, hZ, -⟩ := id C
  rw [fX5_copyFrom] at heq
  refine lv_aload_n hx hb dX5_copyFrom_0 rfl (lv_at hl 0 rfl) ?_
  refine lv_aload_n hx hb dX5_copyFrom_1 rfl (lv_at hl 1 rfl) ?_
  refine gX5_48 C hM (kl h1) h1 dX5_copyFrom_2 ?_
  refine pX5_48 C hM hS (kl h0) h0 dX5_copyFrom_5 (fun H locs hM hS _ => ?_)
  obtain ⟨M1, eM1⟩ : ∃ z : mm_M, z = sI M a0 0 (M.1 a1 0) := ⟨_, rfl⟩
  rw [← eM1] at hM
  have heq := lt_to eM1 heq
  refine lv_aload_n hx hb dX5_copyFrom_8 rfl (lv_at hl 0 rfl) ?_
  refine lv_aload_n hx hb dX5_copyFrom_9 rfl (lv_at hl 1 rfl) ?_
  refine gX5_9 C hM (kl h1) h1 dX5_copyFrom_10 ?_
  refine pX5_9 C hM hS (kl h0) h0 dX5_copyFrom_13 (fun H locs hM hS _ => ?_)
  obtain ⟨M2, eM2⟩ : ∃ z : mm_M, z = sI M1 a0 1 (M1.1 a1 1) := ⟨_, rfl⟩
  rw [← eM2] at hM
  have heq := lt_to eM2 heq
  refine lv_aload_n hx hb dX5_copyFrom_16 rfl (lv_at hl 0 rfl) ?_
  refine lv_aload_n hx hb dX5_copyFrom_17 rfl (lv_at hl 1 rfl) ?_
  refine gX5_51 C hM (kl h1) h1 dX5_copyFrom_18 ?_
  refine pX5_51 C hM hS (kl h0) h0 dX5_copyFrom_21 (fun H locs hM hS _ => ?_)
  obtain ⟨M3, eM3⟩ : ∃ z : mm_M, z = sI M2 a0 2 (M2.1 a1 2) := ⟨_, rfl⟩
  rw [← eM3] at hM
  have heq := lt_to eM3 heq
  refine lv_aload_n hx hb dX5_copyFrom_24 rfl (lv_at hl 0 rfl) ?_
  refine lv_aload_n hx hb dX5_copyFrom_25 rfl (lv_at hl 1 rfl) ?_
  refine gX5_54 C hM (kl h1) h1 dX5_copyFrom_26 ?_
  refine pX5_54 C hM hS (kl h0) h0 dX5_copyFrom_29 (fun H locs hM hS _ => ?_)
  obtain ⟨M4, eM4⟩ : ∃ z : mm_M, z = sI M3 a0 3 (M3.1 a1 3) := ⟨_, rfl⟩
  rw [← eM4] at hM
  have heq := lt_to eM4 heq
  refine lv_aload_n hx hb dX5_copyFrom_32 rfl (lv_at hl 0 rfl) ?_
  refine lv_aload_n hx hb dX5_copyFrom_33 rfl (lv_at hl 1 rfl) ?_
  refine gX5_57 C hM (kl h1) h1 dX5_copyFrom_34 ?_
  refine pX5_57 C hM hS (kl h0) h0 dX5_copyFrom_37 (fun H locs hM hS _ => ?_)
  obtain ⟨M5, eM5⟩ : ∃ z : mm_M, z = sI M4 a0 4 (M4.1 a1 4) := ⟨_, rfl⟩
  rw [← eM5] at hM
  have heq := lt_to eM5 heq
  refine lv_aload_n hx hb dX5_copyFrom_40 rfl (lv_at hl 0 rfl) ?_
  refine lv_aload_n hx hb dX5_copyFrom_41 rfl (lv_at hl 1 rfl) ?_
  refine gX5_60 C hM (kl h1) h1 dX5_copyFrom_42 ?_
  refine pX5_60 C hM hS (kl h0) h0 dX5_copyFrom_45 (fun H locs hM hS _ => ?_)
  obtain ⟨M6, eM6⟩ : ∃ z : mm_M, z = sI M5 a0 5 (M5.1 a1 5) := ⟨_, rfl⟩
  rw [← eM6] at hM
  have heq := lt_to eM6 heq
  refine lv_aload_n hx hb dX5_copyFrom_48 rfl (lv_at hl 1 rfl) ?_
  refine gX5_15 C hM (kl h1) h1 (rS_7 h1) dX5_copyFrom_49 ?_
  refine lv_iconst (v := 0) hx hb dX5_copyFrom_52 (by decide) ?_
  refine lv_aload_n hx hb dX5_copyFrom_53 rfl (lv_at hl 0 rfl) ?_
  refine gX5_15 C hM (kl h0) h0 (rS_7 h0) dX5_copyFrom_54 ?_
  refine lv_iconst (v := 0) hx hb dX5_copyFrom_57 (by decide) ?_
  refine lv_bipush (v := 10) hx hb dX5_copyFrom_58 (by decide) ?_
  refine mm_cpy C hM hS (kl (kS_7 h1)) (kl (kS_7 h0)) (kS_7 h1) (kS_7 h0) hl.1 (kn := 10) (by decide) (by decide) (by decide) (by decide) mX5_63 wCpy1 wCpy2 wCpy3 (Nat.le_of_ble_eq_true rfl) (Nat.le_of_ble_eq_true rfl) dX5_copyFrom_60 (fun H locs hM hS => ?_)
  obtain ⟨M7, eM7⟩ : ∃ z : mm_M, z = sC M6 (a0 + 1) (fun j => if j < 10 then M6.1 (a1 + 1) j else M6.1 (a0 + 1) j) := ⟨_, rfl⟩
  rw [← eM7] at hM
  have heq := lt_to eM7 heq
  refine lv_aload_n hx hb dX5_copyFrom_63 rfl (lv_at hl 1 rfl) ?_
  refine gX5_31 C hM (kl h1) h1 (rS_10 h1) dX5_copyFrom_64 ?_
  refine lv_iconst (v := 0) hx hb dX5_copyFrom_67 (by decide) ?_
  refine lv_aload_n hx hb dX5_copyFrom_68 rfl (lv_at hl 0 rfl) ?_
  refine gX5_31 C hM (kl h0) h0 (rS_10 h0) dX5_copyFrom_69 ?_
  refine lv_iconst (v := 0) hx hb dX5_copyFrom_72 (by decide) ?_
  refine lv_bipush (v := 8) hx hb dX5_copyFrom_73 (by decide) ?_
  refine mm_cpy C hM hS (kl (kS_10 h1)) (kl (kS_10 h0)) (kS_10 h1) (kS_10 h0) hl.1 (kn := 8) (by decide) (by decide) (by decide) (by decide) mX5_63 wCpy1 wCpy2 wCpy3 (Nat.le_of_ble_eq_true rfl) (Nat.le_of_ble_eq_true rfl) dX5_copyFrom_75 (fun H locs hM hS => ?_)
  obtain ⟨M8, eM8⟩ : ∃ z : mm_M, z = sC M7 (a0 + 4) (fun j => if j < 8 then M7.1 (a1 + 4) j else M7.1 (a0 + 4) j) := ⟨_, rfl⟩
  rw [← eM8] at hM
  have heq := lt_to eM8 heq
  refine lv_aload_n hx hb dX5_copyFrom_78 rfl (lv_at hl 1 rfl) ?_
  refine gX5_34 C hM (kl h1) h1 (rS_11 h1) dX5_copyFrom_79 ?_
  refine lv_iconst (v := 0) hx hb dX5_copyFrom_82 (by decide) ?_
  refine lv_aload_n hx hb dX5_copyFrom_83 rfl (lv_at hl 0 rfl) ?_
  refine gX5_34 C hM (kl h0) h0 (rS_11 h0) dX5_copyFrom_84 ?_
  refine lv_iconst (v := 0) hx hb dX5_copyFrom_87 (by decide) ?_
  refine lv_bipush (v := 8) hx hb dX5_copyFrom_88 (by decide) ?_
  refine mm_cpy C hM hS (kl (kS_11 h1)) (kl (kS_11 h0)) (kS_11 h1) (kS_11 h0) hl.1 (kn := 8) (by decide) (by decide) (by decide) (by decide) mX5_63 wCpy1 wCpy2 wCpy3 (Nat.le_of_ble_eq_true rfl) (Nat.le_of_ble_eq_true rfl) dX5_copyFrom_90 (fun H locs hM hS => ?_)
  obtain ⟨M9, eM9⟩ : ∃ z : mm_M, z = sC M8 (a0 + 5) (fun j => if j < 8 then M8.1 (a1 + 5) j else M8.1 (a0 + 5) j) := ⟨_, rfl⟩
  rw [← eM9] at hM
  have heq := lt_to eM9 heq
  refine lv_iconst (v := 0) hx hb dX5_copyFrom_93 (by decide) ?_
  refine lv_istore_n (lv' := [(2, .int 0), (0, .ref (mm_lo G + a0)), (1, .ref (mm_lo G + a1))]) hx hb dX5_copyFrom_94 rfl hl (by decide) rfl (fun ls hl => ?_)
  exact tX5_copyFrom_95 C a0 h0 a1 h1 FU _ _ _ _ _ hM hS (lv_sub hl [1, 2, 0] rfl) heq

set_option maxRecDepth 100000 in
set_option maxHeartbeats 4000000 in
theorem tX2_prepare (l : Launch) (G : mm_G) (M : mm_M) (a0 : Nat) (h0 : kT a0 = (1, 0)) (a1 : Nat) (h1 : kT a1 = (4, 0)) (M9 : mm_M) (heq : fX2_prepare M a0 a1 = some M9) : Met l yX2_prepare (mm_ws yX2_prepare cX2_prepare 2 none) rmX2_prepare (va_Pc [.ref (mm_lo G + a0), .ref (mm_lo G + a1)] (mm_B G (kR, 740, M))) (mm_Qv G (kR, 740, M9)) 0 0 (mm_A G) := by
  refine mm_met (cc := cX2_prepare) (nL := 2) (ret := none) plRX2 (Nat.le_of_ble_eq_true rfl) ?_
  intro p e s m below meth c ls hin C hM hS hl
  have C : mm_C G p s m _ meth c RX2 cX2_prepare 2 none := C
  have hM : mm_P G kR 740 M s.heap := hM
  have hl : lv_has ls 2 [(0, .ref (mm_lo G + a0)), (1, .ref (mm_lo G + a1))] := hl
  obtain ⟨hx, hb, -, -, -, -, -, -, hZ, -⟩ := id C
  rw [fX2_prepare] at heq
  refine lv_aload_n hx hb dX2_prepare_0 rfl (lv_at hl 0 rfl) ?_
  refine gX2_13 C hM (kl h0) h0 (rH_0 h0) dX2_prepare_1 ?_
  refine lv_aload_n hx hb dX2_prepare_4 rfl (lv_at hl 0 rfl) ?_
  refine gX2_18 C hM (kl h0) h0 dX2_prepare_5 ?_
  refine lv_aload_n hx hb dX2_prepare_8 rfl (lv_at hl 0 rfl) ?_
  refine gX2_22 C hM (kl h0) h0 dX2_prepare_9 ?_
  refine lv_iadd hx hb dX2_prepare_12 ?_
  refine lv_bipush (v := 7) hx hb dX2_prepare_13 (by decide) ?_
  refine lv_irem hx hb dX2_prepare_15 (by decide) ?_
  obtain ⟨g1, heq⟩ := gd_of heq
  refine mm_ald C hM (kl (kH_0 h0)) (Or.inr (Or.inr rfl)) (kH_0 h0) (vp_in_of2 g1) (rH_row h0 (vp_lt g1)) dX2_prepare_16 ?_
  refine lv_aload_n hx hb dX2_prepare_17 rfl (lv_at hl 1 rfl) ?_
  obtain ⟨M3, e2, heq⟩ := bn_of heq
  refine mm_kv hS (mm_runV (rest := []) C hM hS (tX5_copyFrom l G M (135 + 66 * (((M.1 a0 1) + (M.1 a0 2)) - ((M.1 a0 1) + (M.1 a0 2)) / 7 * 7).toNatClampNeg) (kH_row (vp_lt g1)) a1 h1 M3 e2) (uX2_25 _ (Nat.le_of_ble_eq_true rfl) (Nat.le_of_ble_eq_true rfl)) (mm_recv C hM (kl (kH_row (vp_lt g1))) (ci := 4) rfl (mm_e4 (kH_row (vp_lt g1)))) hl.1 rfl rfl (Nat.le_of_ble_eq_true rfl) ⟨Nat.zero_le _, Nat.zero_le _⟩ dX2_prepare_18) (fun H locs hM hS => ?_)
  have hM : mm_P G kR 740 M3 H := hM
  cases heq
  exact mm_vret C hM hS dX2_prepare_21

set_option maxRecDepth 100000 in
set_option maxHeartbeats 4000000 in
theorem tX2_keepPrepared (l : Launch) (G : mm_G) (M : mm_M) (a0 : Nat) (h0 : kT a0 = (1, 0)) (M9 : mm_M) (heq : fX2_keepPrepared M a0 = some M9) : Met l yX2_keepPrepared (mm_ws yX2_keepPrepared cX2_keepPrepared 1 none) rmX2_keepPrepared (va_Pc [.ref (mm_lo G + a0)] (mm_B G (kR, 740, M))) (mm_Qv G (kR, 740, M9)) 0 0 (mm_A G) := by
  refine mm_met (cc := cX2_keepPrepared) (nL := 1) (ret := none) plRX2 (Nat.le_of_ble_eq_true rfl) ?_
  intro p e s m below meth c ls hin C hM hS hl
  have C : mm_C G p s m _ meth c RX2 cX2_keepPrepared 1 none := C
  have hM : mm_P G kR 740 M s.heap := hM
  have hl : lv_has ls 1 [(0, .ref (mm_lo G + a0))] := hl
  obtain ⟨hx, hb, -, -, -, -, -, -, hZ, -⟩ := id C
  rw [fX2_keepPrepared] at heq
  refine lv_aload_n hx hb dX2_keepPrepared_0 rfl (lv_at hl 0 rfl) ?_
  refine gX2_22 C hM (kl h0) h0 dX2_keepPrepared_1 ?_
  refine lv_bipush (v := 6) hx hb dX2_keepPrepared_4 (by decide) ?_
  refine lv_icmp_ge (tgt := 22) hx hb dX2_keepPrepared_6 (by decide) (fun c1 => ?_) (fun c1 => ?_)
  · have heq := if_t c1 heq
    refine lv_aload_n hx hb dX2_keepPrepared_22 rfl (lv_at hl 0 rfl) ?_
    refine lv_aload_n hx hb dX2_keepPrepared_23 rfl (lv_at hl 0 rfl) ?_
    refine gX2_18 C hM (kl h0) h0 dX2_keepPrepared_24 ?_
    refine lv_iconst (v := 1) hx hb dX2_keepPrepared_27 (by decide) ?_
    refine lv_iadd hx hb dX2_keepPrepared_28 ?_
    refine lv_bipush (v := 7) hx hb dX2_keepPrepared_29 (by decide) ?_
    refine lv_irem hx hb dX2_keepPrepared_31 (by decide) ?_
    refine pX2_18 C hM hS (kl h0) h0 dX2_keepPrepared_32 (fun H locs hM hS _ => ?_)
    obtain ⟨M2, eM2⟩ : ∃ z : mm_M, z = sI M a0 1 (((M.1 a0 1) + 1) - ((M.1 a0 1) + 1) / 7 * 7) := ⟨_, rfl⟩
    rw [← eM2] at hM
    have heq := lt_to eM2 heq
    cases heq
    exact mm_vret C hM hS dX2_keepPrepared_35
  · have heq := if_f c1 heq
    refine lv_aload_n hx hb dX2_keepPrepared_9 rfl (lv_at hl 0 rfl) ?_
    refine lv_dup hx hb dX2_keepPrepared_10 rfl ?_
    refine gX2_22 C hM (kl h0) h0 dX2_keepPrepared_11 ?_
    refine lv_iconst (v := 1) hx hb dX2_keepPrepared_14 (by decide) ?_
    refine lv_iadd hx hb dX2_keepPrepared_15 ?_
    refine pX2_22 C hM hS (kl h0) h0 dX2_keepPrepared_16 (fun H locs hM hS _ => ?_)
    obtain ⟨M3, eM3⟩ : ∃ z : mm_M, z = sI M a0 2 ((M.1 a0 2) + 1) := ⟨_, rfl⟩
    rw [← eM3] at hM
    have heq := lt_to eM3 heq
    refine lv_goto (tgt := 35) hx hb dX2_keepPrepared_19 (by decide) ?_
    cases heq
    exact mm_vret C hM hS dX2_keepPrepared_35

set_option maxRecDepth 100000 in
set_option maxHeartbeats 4000000 in
theorem tX2_takeBack (l : Launch) (G : mm_G) (M : mm_M) (a0 : Nat) (h0 : kT a0 = (1, 0)) (a1 : Nat) (h1 : kT a1 = (4, 0)) (M9 : mm_M) (heq : fX2_takeBack M a0 a1 = some M9) : Met l yX2_takeBack (mm_ws yX2_takeBack cX2_takeBack 2 none) rmX2_takeBack (va_Pc [.ref (mm_lo G + a0), .ref (mm_lo G + a1)] (mm_B G (kR, 740, M))) (mm_Qv G (kR, 740, M9)) 0 0 (mm_A G) := by
  refine mm_met (cc := cX2_takeBack) (nL := 2) (ret := none) plRX2 (Nat.le_of_ble_eq_true rfl) ?_
  intro p e s m below meth c ls hin C hM hS hl
  have C : mm_C G p s m _ meth c RX2 cX2_takeBack 2 none := C
  have hM : mm_P G kR 740 M s.heap := hM
  have hl : lv_has ls 2 [(0, .ref (mm_lo G + a0)), (1, .ref (mm_lo G + a1))] := hl
  obtain ⟨hx, hb, -, -, -, -, -, -, hZ, -⟩ := id C
  rw [fX2_takeBack] at heq
  refine lv_aload_n hx hb dX2_takeBack_0 rfl (lv_at hl 0 rfl) ?_
  refine gX2_22 C hM (kl h0) h0 dX2_takeBack_1 ?_
  refine lv_if_le (tgt := 38) hx hb dX2_takeBack_4 (by decide) (fun c1 => ?_) (fun c1 => ?_)
  · have heq := if_t c1 heq
    cases heq
    exact mm_vret C hM hS dX2_takeBack_38
  · have heq := if_f c1 heq
    refine lv_aload_n hx hb dX2_takeBack_7 rfl (lv_at hl 0 rfl) ?_
    refine lv_dup hx hb dX2_takeBack_8 rfl ?_
    refine gX2_22 C hM (kl h0) h0 dX2_takeBack_9 ?_
    refine lv_iconst (v := 1) hx hb dX2_takeBack_12 (by decide) ?_
    refine lv_isub hx hb dX2_takeBack_13 ?_
    refine pX2_22 C hM hS (kl h0) h0 dX2_takeBack_14 (fun H locs hM hS _ => ?_)
    obtain ⟨M2, eM2⟩ : ∃ z : mm_M, z = sI M a0 2 ((M.1 a0 2) - 1) := ⟨_, rfl⟩
    rw [← eM2] at hM
    have heq := lt_to eM2 heq
    refine lv_aload_n hx hb dX2_takeBack_17 rfl (lv_at hl 1 rfl) ?_
    refine lv_aload_n hx hb dX2_takeBack_18 rfl (lv_at hl 0 rfl) ?_
    refine gX2_13 C hM (kl h0) h0 (rH_0 h0) dX2_takeBack_19 ?_
    refine lv_aload_n hx hb dX2_takeBack_22 rfl (lv_at hl 0 rfl) ?_
    refine gX2_18 C hM (kl h0) h0 dX2_takeBack_23 ?_
    refine lv_aload_n hx hb dX2_takeBack_26 rfl (lv_at hl 0 rfl) ?_
    refine gX2_22 C hM (kl h0) h0 dX2_takeBack_27 ?_
    refine lv_iadd hx hb dX2_takeBack_30 ?_
    refine lv_bipush (v := 7) hx hb dX2_takeBack_31 (by decide) ?_
    refine lv_irem hx hb dX2_takeBack_33 (by decide) ?_
    obtain ⟨g3, heq⟩ := gd_of heq
    refine mm_ald C hM (kl (kH_0 h0)) (Or.inr (Or.inr rfl)) (kH_0 h0) (vp_in_of2 g3) (rH_row h0 (vp_lt g3)) dX2_takeBack_34 ?_
    obtain ⟨M5, e4, heq⟩ := bn_of heq
    refine mm_kv hS (mm_runV (rest := []) C hM hS (tX5_copyFrom l G M2 a1 h1 (135 + 66 * (((M2.1 a0 1) + (M2.1 a0 2)) - ((M2.1 a0 1) + (M2.1 a0 2)) / 7 * 7).toNatClampNeg) (kH_row (vp_lt g3)) M5 e4) (uX2_25 _ (Nat.le_of_ble_eq_true rfl) (Nat.le_of_ble_eq_true rfl)) (mm_recv C hM (kl h1) (ci := 4) rfl (mm_e4 h1)) hl.1 rfl rfl (Nat.le_of_ble_eq_true rfl) ⟨Nat.zero_le _, Nat.zero_le _⟩ dX2_takeBack_35) (fun H locs hM hS => ?_)
    have hM : mm_P G kR 740 M5 H := hM
    cases heq
    exact mm_vret C hM hS dX2_takeBack_38

set_option maxRecDepth 100000 in
set_option maxHeartbeats 4000000 in
theorem tX3_codeAt (l : Launch) (G : mm_G) (M : mm_M) (x0 : Int64) (x2 : Int32) (r : Int32) (heq : fX3_codeAt M x0 x2 = some r) : Met l yX3_codeAt (mm_ws yX3_codeAt cX3_codeAt 3 (some .int)) rmX3_codeAt (va_Pc [.long x0, .int x2] (mm_B G (kR, 740, M))) (mm_Qi G r (kR, 740, M)) 0 0 (mm_A G) := by
  refine mm_met (cc := cX3_codeAt) (nL := 3) (ret := (some .int)) plRX3 (Nat.le_of_ble_eq_true rfl) ?_
  intro p e s m below meth c ls hin C hM hS hl
  have C : mm_C G p s m _ meth c RX3 cX3_codeAt 3 (some .int) := C
  have hM : mm_P G kR 740 M s.heap := hM
  have hl : lv_has ls 3 [(0, .long x0), (2, .int x2)] := hl
  obtain ⟨hx, hb, -, -, -, -, -, -, hZ, -⟩ := id C
  rw [fX3_codeAt] at heq
  refine lv_lload_n hx hb dX3_codeAt_0 rfl (lv_at hl 0 rfl) ?_
  refine lv_bipush (v := 8) hx hb dX3_codeAt_1 (by decide) ?_
  refine lv_iload_n hx hb dX3_codeAt_3 rfl (lv_at hl 1 rfl) ?_
  refine lv_imul hx hb dX3_codeAt_4 ?_
  refine lv_lushr hx hb dX3_codeAt_5 rfl ?_
  refine lv_l2i hx hb dX3_codeAt_6 rfl ?_
  refine lv_sipush (v := 255) hx hb dX3_codeAt_7 (by decide) ?_
  refine lv_iand hx hb dX3_codeAt_10 ?_
  cases heq
  exact mm_iret C hM hS dX3_codeAt_11

set_option maxRecDepth 100000 in
set_option maxHeartbeats 4000000 in
theorem tX3_countGiven_4 (C : mm_C G p s m args meth c RX3 cX3_countGiven 5 (some .int)) (x0 : Int64) (M : mm_M) {r : Int32} : ∀ n : Nat, ∀ (v2 : Int32) (v3 : Int32) (H : Heap) (locs : List Loc) (ls : Array Slot), mm_P G kR 740 M H → va_S (mm_A G) s.heap H locs → lv_has ls 5 [(0, .long x0), (2, .int v2), (3, .int v3)] → fX3_countGiven_4 x0 M n v2 v3 = some r → W p l e rmX3_countGiven s m args below meth c H locs 0 0 (MQ below (mm_Qi G r (kR, 740, M)) args s 0 0 (mm_A G)) (F0 m 4 ls []) := by
  obtain ⟨hx, hb, -, -, -, -, -, -, hZ, -⟩ := id C
  intro n
  induction n with
  | zero =>
    intro v2 v3 H locs ls hM hS hl heq
    rw [fX3_countGiven_4] at heq
    cases heq
  | succ n ih =>
    intro v2 v3 H locs ls hM hS hl heq
    rw [fX3_countGiven_4] at heq
    refine lv_iload_n hx hb dX3_countGiven_4 rfl (lv_at hl 2 rfl) ?_
    refine lv_bipush (v := 8) hx hb dX3_countGiven_5 (by decide) ?_
    refine lv_icmp_ge (tgt := 56) hx hb dX3_countGiven_7 (by decide) (fun c1 => ?_) (fun c1 => ?_)
    · have heq := if_t c1 heq
      refine lv_iload_n hx hb dX3_countGiven_56 rfl (lv_at hl 1 rfl) ?_
      cases heq
      exact mm_iret C hM hS dX3_countGiven_57
    · have heq := if_f c1 heq
      refine lv_lload_n hx hb dX3_countGiven_10 rfl (lv_at hl 0 rfl) ?_
      refine lv_iload_n hx hb dX3_countGiven_11 rfl (lv_at hl 2 rfl) ?_
      obtain ⟨r3, e2, heq⟩ := bn_of heq
      refine mm_ki hS (mm_runS (rest := []) C hM hS (tX3_codeAt l G M x0 v3 r3 e2) (uX3_23 _ (Nat.le_of_ble_eq_true rfl) (Nat.le_of_ble_eq_true rfl)) hl.1 rfl rfl (Nat.le_of_ble_eq_true rfl) ⟨Nat.zero_le _, Nat.zero_le _⟩ dX3_countGiven_12) (fun H locs hM hS => ?_)
      have hM : mm_P G kR 740 M H := hM
      refine lv_istore (lv' := [(4, .int r3), (0, .long x0), (2, .int v2), (3, .int v3)]) hx hb dX3_countGiven_15 hl (by decide) rfl (fun ls hl => ?_)
      refine lv_iload hx hb dX3_countGiven_17 (lv_at hl 0 rfl) ?_
      refine lv_if_ne (tgt := 25) hx hb dX3_countGiven_19 (by decide) (fun c4 => ?_) (fun c4 => ?_)
      · have heq := if_f c4 heq
        refine lv_iload hx hb dX3_countGiven_25 (lv_at hl 0 rfl) ?_
        refine lv_bipush (v := 33) hx hb dX3_countGiven_27 (by decide) ?_
        refine lv_icmp_lt (tgt := 44) hx hb dX3_countGiven_29 (by decide) (fun c5 => ?_) (fun c5 => ?_)
        · have heq := if_t c5 heq
          refine lv_bipush (v := (-2)) hx hb dX3_countGiven_44 (by decide) ?_
          cases heq
          exact mm_iret C hM hS dX3_countGiven_46
        · have heq := if_f c5 heq
          refine lv_iload hx hb dX3_countGiven_32 (lv_at hl 0 rfl) ?_
          refine lv_bipush (v := 126) hx hb dX3_countGiven_34 (by decide) ?_
          refine lv_icmp_gt (tgt := 44) hx hb dX3_countGiven_36 (by decide) (fun c6 => ?_) (fun c6 => ?_)
          · have heq := if_t c6 heq
            refine lv_bipush (v := (-2)) hx hb dX3_countGiven_44 (by decide) ?_
            cases heq
            exact mm_iret C hM hS dX3_countGiven_46
          · have heq := if_f c6 heq
            refine lv_iload_n hx hb dX3_countGiven_39 rfl (lv_at hl 2 rfl) ?_
            refine lv_iload_n hx hb dX3_countGiven_40 rfl (lv_at hl 3 rfl) ?_
            refine lv_icmp_ge (tgt := 47) hx hb dX3_countGiven_41 (by decide) (fun c7 => ?_) (fun c7 => ?_)
            · have heq := if_t c7 heq
              obtain ⟨y8, ey8⟩ : ∃ y : Int32, y = (v2 + 1) := ⟨_, rfl⟩
              have heq := lt_to ey8 heq
              refine lv_iinc (v := y8) (lv' := [(2, .int y8), (4, .int r3), (0, .long x0), (3, .int v3)]) hx hb dX3_countGiven_47 hl (k := 2) rfl (by rw [ey8]; rfl) (by decide) rfl (fun ls hl => ?_)
              obtain ⟨y9, ey9⟩ : ∃ y : Int32, y = (v3 + 1) := ⟨_, rfl⟩
              have heq := lt_to ey9 heq
              refine lv_iinc (v := y9) (lv' := [(3, .int y9), (2, .int y8), (4, .int r3), (0, .long x0)]) hx hb dX3_countGiven_50 hl (k := 3) rfl (by rw [ey9]; rfl) (by decide) rfl (fun ls hl => ?_)
              refine lv_goto (tgt := 4) hx hb dX3_countGiven_53 (by decide) ?_
              exact ih _ _ _ _ _ hM hS (lv_sub hl [3, 1, 0] rfl) heq
            · have heq := if_f c7 heq
              refine lv_bipush (v := (-2)) hx hb dX3_countGiven_44 (by decide) ?_
              cases heq
              exact mm_iret C hM hS dX3_countGiven_46
      · have heq := if_t c4 heq
        refine lv_goto (tgt := 50) hx hb dX3_countGiven_22 (by decide) ?_
        obtain ⟨y10, ey10⟩ : ∃ y : Int32, y = (v3 + 1) := ⟨_, rfl⟩
        have heq := lt_to ey10 heq
        refine lv_iinc (v := y10) (lv' := [(3, .int y10), (4, .int r3), (0, .long x0), (2, .int v2)]) hx hb dX3_countGiven_50 hl (k := 3) rfl (by rw [ey10]; rfl) (by decide) rfl (fun ls hl => ?_)
        refine lv_goto (tgt := 4) hx hb dX3_countGiven_53 (by decide) ?_
        exact ih _ _ _ _ _ hM hS (lv_sub hl [2, 3, 0] rfl) heq

set_option maxRecDepth 100000 in
set_option maxHeartbeats 4000000 in
theorem tX3_countGiven (l : Launch) (G : mm_G) (M : mm_M) (x0 : Int64) (r : Int32) (heq : fX3_countGiven M x0 = some r) : Met l yX3_countGiven (mm_ws yX3_countGiven cX3_countGiven 5 (some .int)) rmX3_countGiven (va_Pc [.long x0] (mm_B G (kR, 740, M))) (mm_Qi G r (kR, 740, M)) 0 0 (mm_A G) := by
  refine mm_met (cc := cX3_countGiven) (nL := 5) (ret := (some .int)) plRX3 (Nat.le_of_ble_eq_true rfl) ?_
  intro p e s m below meth c ls hin C hM hS hl
  have C : mm_C G p s m _ meth c RX3 cX3_countGiven 5 (some .int) := C
  have hM : mm_P G kR 740 M s.heap := hM
  have hl : lv_has ls 5 [(0, .long x0)] := hl
  obtain ⟨hx, hb, -, -, -, -, -, -, hZ, -⟩ := id C
  rw [fX3_countGiven] at heq
  refine lv_iconst (v := 0) hx hb dX3_countGiven_0 (by decide) ?_
  refine lv_istore_n (lv' := [(2, .int 0), (0, .long x0)]) hx hb dX3_countGiven_1 rfl hl (by decide) rfl (fun ls hl => ?_)
  refine lv_iconst (v := 0) hx hb dX3_countGiven_2 (by decide) ?_
  refine lv_istore_n (lv' := [(3, .int 0), (2, .int 0), (0, .long x0)]) hx hb dX3_countGiven_3 rfl hl (by decide) rfl (fun ls hl => ?_)
  exact tX3_countGiven_4 C x0 M FU _ _ _ _ _ hM hS (lv_sub hl [2, 1, 0] rfl) heq

set_option maxRecDepth 100000 in
set_option maxHeartbeats 4000000 in
theorem tX3_append_32 (C : mm_C G p s m args meth c RX3 cX3_append 5 (some .int)) (a0 : Nat) (h0 : kT a0 = (2, 0)) (x1 : Int64) {r : Int32} {M9 : mm_M} : ∀ n : Nat, ∀ (M : mm_M) (v4 : Int32) (H : Heap) (locs : List Loc) (ls : Array Slot), mm_P G kR 740 M H → va_S (mm_A G) s.heap H locs → lv_has ls 5 [(0, .ref (mm_lo G + a0)), (1, .long x1), (4, .int v4)] → fX3_append_32 a0 x1 n M v4 = some (r, M9) → W p l e rmX3_append s m args below meth c H locs 0 0 (MQ below (mm_Qi G r (kR, 740, M9)) args s 0 0 (mm_A G)) (F0 m 32 ls []) := by
  obtain ⟨hx, hb, -, -, -, -, -, -, hZ, -⟩ := id C
  intro n
  induction n with
  | zero =>
    intro M v4 H locs ls hM hS hl heq
    rw [fX3_append_32] at heq
    cases heq
  | succ n ih =>
    intro M v4 H locs ls hM hS hl heq
    rw [fX3_append_32] at heq
    refine lv_iload hx hb dX3_append_32 (lv_at hl 2 rfl) ?_
    refine lv_if_lt (tgt := 69) hx hb dX3_append_34 (by decide) (fun c1 => ?_) (fun c1 => ?_)
    · have heq := if_t c1 heq
      refine lv_aload_n hx hb dX3_append_69 rfl (lv_at hl 0 rfl) ?_
      refine gX3_19 C hM (kl h0) h0 dX3_append_70 ?_
      cases heq
      exact mm_iret C hM hS dX3_append_73
    · have heq := if_f c1 heq
      refine lv_aload_n hx hb dX3_append_37 rfl (lv_at hl 0 rfl) ?_
      refine gX3_9 C hM (kl h0) h0 (rD_0 h0) dX3_append_38 ?_
      refine lv_aload_n hx hb dX3_append_41 rfl (lv_at hl 0 rfl) ?_
      refine gX3_19 C hM (kl h0) h0 dX3_append_42 ?_
      refine lv_lload_n hx hb dX3_append_45 rfl (lv_at hl 1 rfl) ?_
      refine lv_iload hx hb dX3_append_46 (lv_at hl 2 rfl) ?_
      obtain ⟨r3, e2, heq⟩ := bn_of heq
      refine mm_ki hS (mm_runS (rest := [.int (M.1 a0 1), .ref (mm_lo G + (a0 + 1))]) C hM hS (tX3_codeAt l G M x1 v4 r3 e2) (uX3_23 _ (Nat.le_of_ble_eq_true rfl) (Nat.le_of_ble_eq_true rfl)) hl.1 rfl rfl (Nat.le_of_ble_eq_true rfl) ⟨Nat.zero_le _, Nat.zero_le _⟩ dX3_append_48) (fun H locs hM hS => ?_)
      have hM : mm_P G kR 740 M H := hM
      refine lv_i2c hx hb dX3_append_51 rfl ?_
      obtain ⟨g4, heq⟩ := gd_of heq
      refine mm_cstk C hM hS (kl (kD_0 h0)) (kD_0 h0) (vp_in_of2 g4) rfl (pk_nc _) dX3_append_52 (fun H locs hM hS _ => ?_)
      obtain ⟨M5, eM5⟩ : ∃ z : mm_M, z = sI M (a0 + 1) (M.1 a0 1).toNatClampNeg ((r3.toUInt32 % 65536).toInt32) := ⟨_, rfl⟩
      rw [← eM5] at hM
      have heq := lt_to eM5 heq
      refine lv_aload_n hx hb dX3_append_53 rfl (lv_at hl 0 rfl) ?_
      refine lv_dup hx hb dX3_append_54 rfl ?_
      refine gX3_19 C hM (kl h0) h0 dX3_append_55 ?_
      refine lv_iconst (v := 1) hx hb dX3_append_58 (by decide) ?_
      refine lv_iadd hx hb dX3_append_59 ?_
      refine pX3_19 C hM hS (kl h0) h0 dX3_append_60 (fun H locs hM hS _ => ?_)
      obtain ⟨M6, eM6⟩ : ∃ z : mm_M, z = sI M5 a0 1 ((M5.1 a0 1) + 1) := ⟨_, rfl⟩
      rw [← eM6] at hM
      have heq := lt_to eM6 heq
      obtain ⟨y7, ey7⟩ : ∃ y : Int32, y = (v4 + (-1)) := ⟨_, rfl⟩
      have heq := lt_to ey7 heq
      refine lv_iinc (v := y7) (lv' := [(4, .int y7), (0, .ref (mm_lo G + a0)), (1, .long x1)]) hx hb dX3_append_63 hl (k := 2) rfl (by rw [ey7]; rfl) (by decide) rfl (fun ls hl => ?_)
      refine lv_goto (tgt := 32) hx hb dX3_append_66 (by decide) ?_
      exact ih _ _ _ _ _ hM hS (lv_sub hl [1, 2, 0] rfl) heq

set_option maxRecDepth 100000 in
set_option maxHeartbeats 4000000 in
theorem tX3_append (l : Launch) (G : mm_G) (M : mm_M) (a0 : Nat) (h0 : kT a0 = (2, 0)) (x1 : Int64) (r : Int32) (M9 : mm_M) (heq : fX3_append M a0 x1 = some (r, M9)) : Met l yX3_append (mm_ws yX3_append cX3_append 5 (some .int)) rmX3_append (va_Pc [.ref (mm_lo G + a0), .long x1] (mm_B G (kR, 740, M))) (mm_Qi G r (kR, 740, M9)) 0 0 (mm_A G) := by
  refine mm_met (cc := cX3_append) (nL := 5) (ret := (some .int)) plRX3 (Nat.le_of_ble_eq_true rfl) ?_
  intro p e s m below meth c ls hin C hM hS hl
  have C : mm_C G p s m _ meth c RX3 cX3_append 5 (some .int) := C
  have hM : mm_P G kR 740 M s.heap := hM
  have hl : lv_has ls 5 [(0, .ref (mm_lo G + a0)), (1, .long x1)] := hl
  obtain ⟨hx, hb, -, -, -, -, -, -, hZ, -⟩ := id C
  rw [fX3_append] at heq
  refine lv_lload_n hx hb dX3_append_0 rfl (lv_at hl 1 rfl) ?_
  obtain ⟨r2, e1, heq⟩ := bn_of heq
  refine mm_ki hS (mm_runS (rest := []) C hM hS (tX3_countGiven l G M x1 r2 e1) (uX3_15 _ (Nat.le_of_ble_eq_true rfl) (Nat.le_of_ble_eq_true rfl)) hl.1 rfl rfl (Nat.le_of_ble_eq_true rfl) ⟨Nat.zero_le _, Nat.zero_le _⟩ dX3_append_1) (fun H locs hM hS => ?_)
  have hM : mm_P G kR 740 M H := hM
  refine lv_istore_n (lv' := [(3, .int r2), (0, .ref (mm_lo G + a0)), (1, .long x1)]) hx hb dX3_append_4 rfl hl (by decide) rfl (fun ls hl => ?_)
  refine lv_iload_n hx hb dX3_append_5 rfl (lv_at hl 0 rfl) ?_
  refine lv_iconst (v := 1) hx hb dX3_append_6 (by decide) ?_
  refine lv_icmp_ge (tgt := 13) hx hb dX3_append_7 (by decide) (fun c3 => ?_) (fun c3 => ?_)
  · have heq := if_t c3 heq
    refine lv_aload_n hx hb dX3_append_13 rfl (lv_at hl 1 rfl) ?_
    refine gX3_19 C hM (kl h0) h0 dX3_append_14 ?_
    refine lv_iload_n hx hb dX3_append_17 rfl (lv_at hl 0 rfl) ?_
    refine lv_iadd hx hb dX3_append_18 ?_
    refine lv_bipush (v := 80) hx hb dX3_append_19 (by decide) ?_
    refine lv_icmp_le (tgt := 27) hx hb dX3_append_21 (by decide) (fun c4 => ?_) (fun c4 => ?_)
    · have heq := if_t c4 heq
      refine lv_iload_n hx hb dX3_append_27 rfl (lv_at hl 0 rfl) ?_
      refine lv_iconst (v := 1) hx hb dX3_append_28 (by decide) ?_
      refine lv_isub hx hb dX3_append_29 ?_
      refine lv_topi (fun y5 ey5 => ?_)
      have heq := lt_to ey5 heq
      refine lv_istore (lv' := [(4, .int y5), (3, .int r2), (0, .ref (mm_lo G + a0)), (1, .long x1)]) hx hb dX3_append_30 hl (by decide) rfl (fun ls hl => ?_)
      exact tX3_append_32 C a0 h0 x1 FU _ _ _ _ _ hM hS (lv_sub hl [2, 3, 0] rfl) heq
    · have heq := if_f c4 heq
      refine lv_bipush (v := (-4)) hx hb dX3_append_24 (by decide) ?_
      cases heq
      exact mm_iret C hM hS dX3_append_26
  · have heq := if_f c3 heq
    refine lv_bipush (v := (-2)) hx hb dX3_append_10 (by decide) ?_
    cases heq
    exact mm_iret C hM hS dX3_append_12

set_option maxRecDepth 100000 in
set_option maxHeartbeats 4000000 in
theorem tX3_signAt (l : Launch) (G : mm_G) (M : mm_M) (a0 : Nat) (h0 : kT a0 = (2, 0)) (x1 : Int32) (r : Int32) (heq : fX3_signAt M a0 x1 = some r) : Met l yX3_signAt (mm_ws yX3_signAt cX3_signAt 2 (some .int)) rmX3_signAt (va_Pc [.ref (mm_lo G + a0), .int x1] (mm_B G (kR, 740, M))) (mm_Qi G r (kR, 740, M)) 0 0 (mm_A G) := by
  refine mm_met (cc := cX3_signAt) (nL := 2) (ret := (some .int)) plRX3 (Nat.le_of_ble_eq_true rfl) ?_
  intro p e s m below meth c ls hin C hM hS hl
  have C : mm_C G p s m _ meth c RX3 cX3_signAt 2 (some .int) := C
  have hM : mm_P G kR 740 M s.heap := hM
  have hl : lv_has ls 2 [(0, .ref (mm_lo G + a0)), (1, .int x1)] := hl
  obtain ⟨hx, hb, -, -, -, -, -, -, hZ, -⟩ := id C
  rw [fX3_signAt] at heq
  refine lv_iload_n hx hb dX3_signAt_0 rfl (lv_at hl 1 rfl) ?_
  refine lv_if_lt (tgt := 27) hx hb dX3_signAt_1 (by decide) (fun c1 => ?_) (fun c1 => ?_)
  · have heq := if_t c1 heq
    refine lv_iconst (v := 0) hx hb dX3_signAt_27 (by decide) ?_
    cases heq
    exact mm_iret C hM hS dX3_signAt_28
  · have heq := if_f c1 heq
    refine lv_iload_n hx hb dX3_signAt_4 rfl (lv_at hl 1 rfl) ?_
    refine lv_aload_n hx hb dX3_signAt_5 rfl (lv_at hl 0 rfl) ?_
    refine gX3_19 C hM (kl h0) h0 dX3_signAt_6 ?_
    refine lv_icmp_ge (tgt := 27) hx hb dX3_signAt_9 (by decide) (fun c2 => ?_) (fun c2 => ?_)
    · have heq := if_t c2 heq
      refine lv_iconst (v := 0) hx hb dX3_signAt_27 (by decide) ?_
      cases heq
      exact mm_iret C hM hS dX3_signAt_28
    · have heq := if_f c2 heq
      refine lv_iload_n hx hb dX3_signAt_12 rfl (lv_at hl 1 rfl) ?_
      refine lv_bipush (v := 80) hx hb dX3_signAt_13 (by decide) ?_
      refine lv_icmp_ge (tgt := 27) hx hb dX3_signAt_15 (by decide) (fun c3 => ?_) (fun c3 => ?_)
      · have heq := if_t c3 heq
        refine lv_iconst (v := 0) hx hb dX3_signAt_27 (by decide) ?_
        cases heq
        exact mm_iret C hM hS dX3_signAt_28
      · have heq := if_f c3 heq
        refine lv_aload_n hx hb dX3_signAt_18 rfl (lv_at hl 0 rfl) ?_
        refine gX3_9 C hM (kl h0) h0 (rD_0 h0) dX3_signAt_19 ?_
        refine lv_iload_n hx hb dX3_signAt_22 rfl (lv_at hl 1 rfl) ?_
        obtain ⟨g4, heq⟩ := gd_of heq
        refine mm_cldk C hM (kl (kD_0 h0)) (kD_0 h0) (vp_in_of2 g4) rfl dX3_signAt_23 ?_
        refine lv_goto (tgt := 28) hx hb dX3_signAt_24 (by decide) ?_
        cases heq
        exact mm_iret C hM hS dX3_signAt_28
end WALK
