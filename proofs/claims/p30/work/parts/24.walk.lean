section WALK
variable {p : Program} {l : Launch} {e : Env} {s : State} {m : MethodId} {args : Array Value} {below : List Frame} {meth : Method} {c : Code} {G : mm_G}
set_option maxRecDepth 100000 in
set_option maxHeartbeats 4000000 in
theorem tX5_punish (l : Launch) (G : mm_G) (M : mm_M) (a0 : Nat) (h0 : kT a0 = (4, 0)) (x1 : Int32) (x2 : Int32) (r : Int32) (M9 : mm_M) (heq : fX5_punish M a0 x1 x2 = some (r, M9)) : Met l yX5_punish (mm_ws yX5_punish cX5_punish 3 (some .int)) rmX5_punish (va_Pc [.ref (mm_lo G + a0), .int x1, .int x2] (mm_B G (kR, 740, M))) (mm_Qi G r (kR, 740, M9)) 0 0 (mm_A G) := by
  refine mm_met (cc := cX5_punish) (nL := 3) (ret := (some .int)) plRX5 (Nat.le_of_ble_eq_true rfl) ?_
  intro p e s m below meth c ls hin C hM hS hl
  have C : mm_C G p s m _ meth c RX5 cX5_punish 3 (some .int) := C
  have hM : mm_P G kR 740 M s.heap := hM
  have hl : lv_has ls 3 [(0, .ref (mm_lo G + a0)), (1, .int x1), (2, .int x2)] := hl
  obtain ⟨hx, hb, -, -, -, -, -, -, hZ, -⟩ := id C
  rw [fX5_punish] at heq
  refine lv_aload_n hx hb dX5_punish_0 rfl (lv_at hl 0 rfl) ?_
  refine lv_iload_n hx hb dX5_punish_1 rfl (lv_at hl 1 rfl) ?_
  obtain ⟨r2, e1, heq⟩ := bn_of heq
  refine mm_ki hS (mm_runV (rest := []) C hM hS (tX5_hasCart l G M a0 h0 x1 r2 e1) (uX5_97 _ (Nat.le_of_ble_eq_true rfl) (Nat.le_of_ble_eq_true rfl)) (mm_recv C hM (kl h0) (ci := 4) rfl (mm_e4 h0)) hl.1 rfl rfl (Nat.le_of_ble_eq_true rfl) ⟨Nat.zero_le _, Nat.zero_le _⟩ dX5_punish_2) (fun H locs hM hS => ?_)
  have hM : mm_P G kR 740 M H := hM
  refine mm_ifneZ (tgt := 10) C dX5_punish_5 (by decide) (fun c3 => ?_) (fun c3 => ?_)
  · have heq := if_t c3 heq
    refine lv_iload_n hx hb dX5_punish_10 rfl (lv_at hl 2 rfl) ?_
    refine lv_iconst (v := 1) hx hb dX5_punish_11 (by decide) ?_
    refine lv_icmp_lt (tgt := 21) hx hb dX5_punish_12 (by decide) (fun c4 => ?_) (fun c4 => ?_)
    · have heq := if_t c4 heq
      refine lv_bipush (v := (-2)) hx hb dX5_punish_21 (by decide) ?_
      cases heq
      exact mm_iret C hM hS dX5_punish_23
    · have heq := if_f c4 heq
      refine lv_iload_n hx hb dX5_punish_15 rfl (lv_at hl 2 rfl) ?_
      refine lv_bipush (v := 9) hx hb dX5_punish_16 (by decide) ?_
      refine lv_icmp_le (tgt := 24) hx hb dX5_punish_18 (by decide) (fun c5 => ?_) (fun c5 => ?_)
      · have heq := if_t c5 heq
        refine lv_aload_n hx hb dX5_punish_24 rfl (lv_at hl 0 rfl) ?_
        refine lv_aload_n hx hb dX5_punish_25 rfl (lv_at hl 0 rfl) ?_
        refine gX5_27 C hM (kl h0) h0 (rS_9 h0) dX5_punish_26 ?_
        refine lv_iload_n hx hb dX5_punish_29 rfl (lv_at hl 1 rfl) ?_
        obtain ⟨g6, heq⟩ := gd_of heq
        refine mm_ald C hM (kl (kS_9 h0)) (Or.inl rfl) (kS_9 h0) (vp_in_of2 g6) (rS_cart h0 (vp_lt g6)) dX5_punish_30 ?_
        refine lv_iload_n hx hb dX5_punish_31 rfl (lv_at hl 2 rfl) ?_
        obtain ⟨r8, M9, e7, heq⟩ := bn2_of heq
        refine mm_ki hS (mm_runV (rest := []) C hM hS (tX5_givePoints l G M a0 h0 (a0 + 18 + 3 * x1.toNatClampNeg) (kS_cart h0 (vp_lt g6)) x2 r8 M9 e7) (uX5_109 _ (Nat.le_of_ble_eq_true rfl) (Nat.le_of_ble_eq_true rfl)) (mm_recv C hM (kl h0) (ci := 4) rfl (mm_e4 h0)) hl.1 rfl rfl (Nat.le_of_ble_eq_true rfl) ⟨Nat.zero_le _, Nat.zero_le _⟩ dX5_punish_32) (fun H locs hM hS => ?_)
        have hM : mm_P G kR 740 M9 H := hM
        cases heq
        exact mm_iret C hM hS dX5_punish_35
      · have heq := if_f c5 heq
        refine lv_bipush (v := (-2)) hx hb dX5_punish_21 (by decide) ?_
        cases heq
        exact mm_iret C hM hS dX5_punish_23
  · have heq := if_f c3 heq
    refine lv_iconst (v := (-1)) hx hb dX5_punish_8 (by decide) ?_
    cases heq
    exact mm_iret C hM hS dX5_punish_9

set_option maxRecDepth 100000 in
set_option maxHeartbeats 4000000 in
theorem tX5_countWaiting_4 (C : mm_C G p s m args meth c RX5 cX5_countWaiting 3 (some .int)) (a0 : Nat) (h0 : kT a0 = (4, 0)) (M : mm_M) {r : Int32} : ∀ n : Nat, ∀ (v1 : Int32) (v2 : Int32) (H : Heap) (locs : List Loc) (ls : Array Slot), mm_P G kR 740 M H → va_S (mm_A G) s.heap H locs → lv_has ls 3 [(0, .ref (mm_lo G + a0)), (1, .int v1), (2, .int v2)] → fX5_countWaiting_4 a0 M n v1 v2 = some r → W p l e rmX5_countWaiting s m args below meth c H locs 0 0 (MQ below (mm_Qi G r (kR, 740, M)) args s 0 0 (mm_A G)) (F0 m 4 ls []) := by
  obtain ⟨hx, hb, -, -, -, -, -, -, hZ, -⟩ := id C
  intro n
  induction n with
  | zero =>
    intro v1 v2 H locs ls hM hS hl heq
    rw [fX5_countWaiting_4] at heq
    cases heq
  | succ n ih =>
    intro v1 v2 H locs ls hM hS hl heq
    rw [fX5_countWaiting_4] at heq
    refine lv_iload_n hx hb dX5_countWaiting_4 rfl (lv_at hl 2 rfl) ?_
    refine lv_aload_n hx hb dX5_countWaiting_5 rfl (lv_at hl 0 rfl) ?_
    refine gX5_54 C hM (kl h0) h0 dX5_countWaiting_6 ?_
    refine lv_icmp_ge (tgt := 33) hx hb dX5_countWaiting_9 (by decide) (fun c1 => ?_) (fun c1 => ?_)
    · have heq := if_t c1 heq
      refine lv_iload_n hx hb dX5_countWaiting_33 rfl (lv_at hl 1 rfl) ?_
      cases heq
      exact mm_iret C hM hS dX5_countWaiting_34
    · have heq := if_f c1 heq
      refine lv_aload_n hx hb dX5_countWaiting_12 rfl (lv_at hl 0 rfl) ?_
      refine gX5_27 C hM (kl h0) h0 (rS_9 h0) dX5_countWaiting_13 ?_
      refine lv_iload_n hx hb dX5_countWaiting_16 rfl (lv_at hl 2 rfl) ?_
      obtain ⟨g2, heq⟩ := gd_of heq
      refine mm_ald C hM (kl (kS_9 h0)) (Or.inl rfl) (kS_9 h0) (vp_in_of2 g2) (rS_cart h0 (vp_lt g2)) dX5_countWaiting_17 ?_
      refine gX5_131 C hM (kl (kS_cart h0 (vp_lt g2))) (kS_cart h0 (vp_lt g2)) dX5_countWaiting_18 ?_
      refine lv_if_eq (tgt := 27) hx hb dX5_countWaiting_21 (by decide) (fun c3 => ?_) (fun c3 => ?_)
      · have heq := if_t c3 heq
        obtain ⟨y4, ey4⟩ : ∃ y : Int32, y = (v2 + 1) := ⟨_, rfl⟩
        have heq := lt_to ey4 heq
        refine lv_iinc (v := y4) (lv' := [(2, .int y4), (0, .ref (mm_lo G + a0)), (1, .int v1)]) hx hb dX5_countWaiting_27 hl (k := 2) rfl (by rw [ey4]; rfl) (by decide) rfl (fun ls hl => ?_)
        refine lv_goto (tgt := 4) hx hb dX5_countWaiting_30 (by decide) ?_
        exact ih _ _ _ _ _ hM hS (lv_sub hl [1, 2, 0] rfl) heq
      · have heq := if_f c3 heq
        obtain ⟨y5, ey5⟩ : ∃ y : Int32, y = (v1 + 1) := ⟨_, rfl⟩
        have heq := lt_to ey5 heq
        refine lv_iinc (v := y5) (lv' := [(1, .int y5), (0, .ref (mm_lo G + a0)), (2, .int v2)]) hx hb dX5_countWaiting_24 hl (k := 1) rfl (by rw [ey5]; rfl) (by decide) rfl (fun ls hl => ?_)
        obtain ⟨y6, ey6⟩ : ∃ y : Int32, y = (v2 + 1) := ⟨_, rfl⟩
        have heq := lt_to ey6 heq
        refine lv_iinc (v := y6) (lv' := [(2, .int y6), (1, .int y5), (0, .ref (mm_lo G + a0))]) hx hb dX5_countWaiting_27 hl (k := 2) rfl (by rw [ey6]; rfl) (by decide) rfl (fun ls hl => ?_)
        refine lv_goto (tgt := 4) hx hb dX5_countWaiting_30 (by decide) ?_
        exact ih _ _ _ _ _ hM hS (lv_sub hl [2, 1, 0] rfl) heq

set_option maxRecDepth 100000 in
set_option maxHeartbeats 4000000 in
theorem tX5_countWaiting (l : Launch) (G : mm_G) (M : mm_M) (a0 : Nat) (h0 : kT a0 = (4, 0)) (r : Int32) (heq : fX5_countWaiting M a0 = some r) : Met l yX5_countWaiting (mm_ws yX5_countWaiting cX5_countWaiting 3 (some .int)) rmX5_countWaiting (va_Pc [.ref (mm_lo G + a0)] (mm_B G (kR, 740, M))) (mm_Qi G r (kR, 740, M)) 0 0 (mm_A G) := by
  refine mm_met (cc := cX5_countWaiting) (nL := 3) (ret := (some .int)) plRX5 (Nat.le_of_ble_eq_true rfl) ?_
  intro p e s m below meth c ls hin C hM hS hl
  have C : mm_C G p s m _ meth c RX5 cX5_countWaiting 3 (some .int) := C
  have hM : mm_P G kR 740 M s.heap := hM
  have hl : lv_has ls 3 [(0, .ref (mm_lo G + a0))] := hl
  obtain ⟨hx, hb, -, -, -, -, -, -, hZ, -⟩ := id C
  rw [fX5_countWaiting] at heq
  refine lv_iconst (v := 0) hx hb dX5_countWaiting_0 (by decide) ?_
  refine lv_istore_n (lv' := [(1, .int 0), (0, .ref (mm_lo G + a0))]) hx hb dX5_countWaiting_1 rfl hl (by decide) rfl (fun ls hl => ?_)
  refine lv_iconst (v := 0) hx hb dX5_countWaiting_2 (by decide) ?_
  refine lv_istore_n (lv' := [(2, .int 0), (1, .int 0), (0, .ref (mm_lo G + a0))]) hx hb dX5_countWaiting_3 rfl hl (by decide) rfl (fun ls hl => ?_)
  exact tX5_countWaiting_4 C a0 h0 M FU _ _ _ _ _ hM hS (lv_sub hl [2, 1, 0] rfl) heq

set_option maxRecDepth 100000 in
set_option maxHeartbeats 4000000 in
theorem tX5_askCheck (l : Launch) (G : mm_G) (M : mm_M) (a0 : Nat) (h0 : kT a0 = (4, 0)) (x1 : Int32) (r : Int32) (M9 : mm_M) (heq : fX5_askCheck M a0 x1 = some (r, M9)) : Met l yX5_askCheck (mm_ws yX5_askCheck cX5_askCheck 2 (some .int)) rmX5_askCheck (va_Pc [.ref (mm_lo G + a0), .int x1] (mm_B G (kR, 740, M))) (mm_Qi G r (kR, 740, M9)) 0 0 (mm_A G) := by
  refine mm_met (cc := cX5_askCheck) (nL := 2) (ret := (some .int)) plRX5 (Nat.le_of_ble_eq_true rfl) ?_
  intro p e s m below meth c ls hin C hM hS hl
  have C : mm_C G p s m _ meth c RX5 cX5_askCheck 2 (some .int) := C
  have hM : mm_P G kR 740 M s.heap := hM
  have hl : lv_has ls 2 [(0, .ref (mm_lo G + a0)), (1, .int x1)] := hl
  obtain ⟨hx, hb, -, -, -, -, -, -, hZ, -⟩ := id C
  rw [fX5_askCheck] at heq
  refine lv_aload_n hx hb dX5_askCheck_0 rfl (lv_at hl 0 rfl) ?_
  refine lv_iload_n hx hb dX5_askCheck_1 rfl (lv_at hl 1 rfl) ?_
  obtain ⟨r2, e1, heq⟩ := bn_of heq
  refine mm_ki hS (mm_runV (rest := []) C hM hS (tX5_hasCart l G M a0 h0 x1 r2 e1) (uX5_97 _ (Nat.le_of_ble_eq_true rfl) (Nat.le_of_ble_eq_true rfl)) (mm_recv C hM (kl h0) (ci := 4) rfl (mm_e4 h0)) hl.1 rfl rfl (Nat.le_of_ble_eq_true rfl) ⟨Nat.zero_le _, Nat.zero_le _⟩ dX5_askCheck_2) (fun H locs hM hS => ?_)
  have hM : mm_P G kR 740 M H := hM
  refine mm_ifneZ (tgt := 10) C dX5_askCheck_5 (by decide) (fun c3 => ?_) (fun c3 => ?_)
  · have heq := if_t c3 heq
    refine lv_aload_n hx hb dX5_askCheck_10 rfl (lv_at hl 0 rfl) ?_
    refine gX5_27 C hM (kl h0) h0 (rS_9 h0) dX5_askCheck_11 ?_
    refine lv_iload_n hx hb dX5_askCheck_14 rfl (lv_at hl 1 rfl) ?_
    obtain ⟨g4, heq⟩ := gd_of heq
    refine mm_ald C hM (kl (kS_9 h0)) (Or.inl rfl) (kS_9 h0) (vp_in_of2 g4) (rS_cart h0 (vp_lt g4)) dX5_askCheck_15 ?_
    refine gX5_131 C hM (kl (kS_cart h0 (vp_lt g4))) (kS_cart h0 (vp_lt g4)) dX5_askCheck_16 ?_
    refine lv_if_eq (tgt := 25) hx hb dX5_askCheck_19 (by decide) (fun c5 => ?_) (fun c5 => ?_)
    · have heq := if_t c5 heq
      refine lv_aload_n hx hb dX5_askCheck_25 rfl (lv_at hl 0 rfl) ?_
      refine gX5_27 C hM (kl h0) h0 (rS_9 h0) dX5_askCheck_26 ?_
      refine lv_iload_n hx hb dX5_askCheck_29 rfl (lv_at hl 1 rfl) ?_
      refine mm_ald C hM (kl (kS_9 h0)) (Or.inl rfl) (kS_9 h0) (vp_in_of2 g4) (rS_cart h0 (vp_lt g4)) dX5_askCheck_30 ?_
      refine lv_iconst (v := 1) hx hb dX5_askCheck_31 (by decide) ?_
      refine pX5_131 C hM hS (kl (kS_cart h0 (vp_lt g4))) (kS_cart h0 (vp_lt g4)) (Or.inr rfl) dX5_askCheck_32 (fun H locs hM hS _ => ?_)
      obtain ⟨M6, eM6⟩ : ∃ z : mm_M, z = sI M (a0 + 18 + 3 * x1.toNatClampNeg) 5 1 := ⟨_, rfl⟩
      rw [← eM6] at hM
      have heq := lt_to eM6 heq
      refine lv_aload_n hx hb dX5_askCheck_35 rfl (lv_at hl 0 rfl) ?_
      obtain ⟨r8, e7, heq⟩ := bn_of heq
      refine mm_ki hS (mm_runV (rest := []) C hM hS (tX5_countWaiting l G M6 a0 h0 r8 e7) (uX5_135 _ (Nat.le_of_ble_eq_true rfl) (Nat.le_of_ble_eq_true rfl)) (mm_recv C hM (kl h0) (ci := 4) rfl (mm_e4 h0)) hl.1 rfl rfl (Nat.le_of_ble_eq_true rfl) ⟨Nat.zero_le _, Nat.zero_le _⟩ dX5_askCheck_36) (fun H locs hM hS => ?_)
      have hM : mm_P G kR 740 M6 H := hM
      cases heq
      exact mm_iret C hM hS dX5_askCheck_39
    · have heq := if_f c5 heq
      refine lv_bipush (v := (-5)) hx hb dX5_askCheck_22 (by decide) ?_
      cases heq
      exact mm_iret C hM hS dX5_askCheck_24
  · have heq := if_f c3 heq
    refine lv_iconst (v := (-1)) hx hb dX5_askCheck_8 (by decide) ?_
    cases heq
    exact mm_iret C hM hS dX5_askCheck_9

set_option maxRecDepth 100000 in
set_option maxHeartbeats 4000000 in
theorem tX5_askSwap (l : Launch) (G : mm_G) (M : mm_M) (a0 : Nat) (h0 : kT a0 = (4, 0)) (x1 : Int32) (x2 : Int32) (r : Int32) (M9 : mm_M) (heq : fX5_askSwap M a0 x1 x2 = some (r, M9)) : Met l yX5_askSwap (mm_ws yX5_askSwap cX5_askSwap 3 (some .int)) rmX5_askSwap (va_Pc [.ref (mm_lo G + a0), .int x1, .int x2] (mm_B G (kR, 740, M))) (mm_Qi G r (kR, 740, M9)) 0 0 (mm_A G) := by
  refine mm_met (cc := cX5_askSwap) (nL := 3) (ret := (some .int)) plRX5 (Nat.le_of_ble_eq_true rfl) ?_
  intro p e s m below meth c ls hin C hM hS hl
  have C : mm_C G p s m _ meth c RX5 cX5_askSwap 3 (some .int) := C
  have hM : mm_P G kR 740 M s.heap := hM
  have hl : lv_has ls 3 [(0, .ref (mm_lo G + a0)), (1, .int x1), (2, .int x2)] := hl
  obtain ⟨hx, hb, -, -, -, -, -, -, hZ, -⟩ := id C
  rw [fX5_askSwap] at heq
  refine lv_aload_n hx hb dX5_askSwap_0 rfl (lv_at hl 0 rfl) ?_
  refine lv_iload_n hx hb dX5_askSwap_1 rfl (lv_at hl 1 rfl) ?_
  obtain ⟨r2, e1, heq⟩ := bn_of heq
  refine mm_ki hS (mm_runV (rest := []) C hM hS (tX5_hasCart l G M a0 h0 x1 r2 e1) (uX5_97 _ (Nat.le_of_ble_eq_true rfl) (Nat.le_of_ble_eq_true rfl)) (mm_recv C hM (kl h0) (ci := 4) rfl (mm_e4 h0)) hl.1 rfl rfl (Nat.le_of_ble_eq_true rfl) ⟨Nat.zero_le _, Nat.zero_le _⟩ dX5_askSwap_2) (fun H locs hM hS => ?_)
  have hM : mm_P G kR 740 M H := hM
  refine mm_ifeqZ (tgt := 21) C dX5_askSwap_5 (by decide) (fun c3 => ?_) (fun c3 => ?_)
  · have heq := if_f c3 heq
    refine lv_iconst (v := (-1)) hx hb dX5_askSwap_21 (by decide) ?_
    cases heq
    exact mm_iret C hM hS dX5_askSwap_22
  · have heq := if_t c3 heq
    refine lv_aload_n hx hb dX5_askSwap_8 rfl (lv_at hl 0 rfl) ?_
    refine lv_iload_n hx hb dX5_askSwap_9 rfl (lv_at hl 2 rfl) ?_
    obtain ⟨r5, e4, heq⟩ := bn_of heq
    refine mm_ki hS (mm_runV (rest := []) C hM hS (tX5_hasCart l G M a0 h0 x2 r5 e4) (uX5_97 _ (Nat.le_of_ble_eq_true rfl) (Nat.le_of_ble_eq_true rfl)) (mm_recv C hM (kl h0) (ci := 4) rfl (mm_e4 h0)) hl.1 rfl rfl (Nat.le_of_ble_eq_true rfl) ⟨Nat.zero_le _, Nat.zero_le _⟩ dX5_askSwap_10) (fun H locs hM hS => ?_)
    have hM : mm_P G kR 740 M H := hM
    refine mm_ifeqZ (tgt := 21) C dX5_askSwap_13 (by decide) (fun c6 => ?_) (fun c6 => ?_)
    · have heq := if_f c6 heq
      refine lv_iconst (v := (-1)) hx hb dX5_askSwap_21 (by decide) ?_
      cases heq
      exact mm_iret C hM hS dX5_askSwap_22
    · have heq := if_t c6 heq
      refine lv_iload_n hx hb dX5_askSwap_16 rfl (lv_at hl 1 rfl) ?_
      refine lv_iload_n hx hb dX5_askSwap_17 rfl (lv_at hl 2 rfl) ?_
      refine lv_icmp_ne (tgt := 23) hx hb dX5_askSwap_18 (by decide) (fun c7 => ?_) (fun c7 => ?_)
      · have heq := if_f c7 heq
        refine lv_aload_n hx hb dX5_askSwap_23 rfl (lv_at hl 0 rfl) ?_
        refine gX5_57 C hM (kl h0) h0 dX5_askSwap_24 ?_
        refine lv_bipush (v := 8) hx hb dX5_askSwap_27 (by decide) ?_
        refine lv_icmp_lt (tgt := 35) hx hb dX5_askSwap_29 (by decide) (fun c8 => ?_) (fun c8 => ?_)
        · have heq := if_t c8 heq
          refine lv_aload_n hx hb dX5_askSwap_35 rfl (lv_at hl 0 rfl) ?_
          refine gX5_31 C hM (kl h0) h0 (rS_10 h0) dX5_askSwap_36 ?_
          refine lv_aload_n hx hb dX5_askSwap_39 rfl (lv_at hl 0 rfl) ?_
          refine gX5_57 C hM (kl h0) h0 dX5_askSwap_40 ?_
          refine lv_iload_n hx hb dX5_askSwap_43 rfl (lv_at hl 1 rfl) ?_
          obtain ⟨g9, heq⟩ := gd_of heq
          refine mm_istk C hM hS (kl (kS_10 h0)) (kS_10 h0) (vp_in_of2 g9) rfl dX5_askSwap_44 (fun H locs hM hS _ => ?_)
          obtain ⟨M10, eM10⟩ : ∃ z : mm_M, z = sI M (a0 + 4) (M.1 a0 4).toNatClampNeg x1 := ⟨_, rfl⟩
          rw [← eM10] at hM
          have heq := lt_to eM10 heq
          refine lv_aload_n hx hb dX5_askSwap_45 rfl (lv_at hl 0 rfl) ?_
          refine gX5_34 C hM (kl h0) h0 (rS_11 h0) dX5_askSwap_46 ?_
          refine lv_aload_n hx hb dX5_askSwap_49 rfl (lv_at hl 0 rfl) ?_
          refine gX5_57 C hM (kl h0) h0 dX5_askSwap_50 ?_
          refine lv_iload_n hx hb dX5_askSwap_53 rfl (lv_at hl 2 rfl) ?_
          obtain ⟨g11, heq⟩ := gd_of heq
          refine mm_istk C hM hS (kl (kS_11 h0)) (kS_11 h0) (vp_in_of2 g11) rfl dX5_askSwap_54 (fun H locs hM hS _ => ?_)
          obtain ⟨M12, eM12⟩ : ∃ z : mm_M, z = sI M10 (a0 + 5) (M10.1 a0 4).toNatClampNeg x2 := ⟨_, rfl⟩
          rw [← eM12] at hM
          have heq := lt_to eM12 heq
          refine lv_aload_n hx hb dX5_askSwap_55 rfl (lv_at hl 0 rfl) ?_
          refine lv_dup hx hb dX5_askSwap_56 rfl ?_
          refine gX5_57 C hM (kl h0) h0 dX5_askSwap_57 ?_
          refine lv_iconst (v := 1) hx hb dX5_askSwap_60 (by decide) ?_
          refine lv_iadd hx hb dX5_askSwap_61 ?_
          refine pX5_57 C hM hS (kl h0) h0 dX5_askSwap_62 (fun H locs hM hS _ => ?_)
          obtain ⟨M13, eM13⟩ : ∃ z : mm_M, z = sI M12 a0 4 ((M12.1 a0 4) + 1) := ⟨_, rfl⟩
          rw [← eM13] at hM
          have heq := lt_to eM13 heq
          refine lv_aload_n hx hb dX5_askSwap_65 rfl (lv_at hl 0 rfl) ?_
          refine gX5_57 C hM (kl h0) h0 dX5_askSwap_66 ?_
          cases heq
          exact mm_iret C hM hS dX5_askSwap_69
        · have heq := if_f c8 heq
          refine lv_bipush (v := (-4)) hx hb dX5_askSwap_32 (by decide) ?_
          cases heq
          exact mm_iret C hM hS dX5_askSwap_34
      · have heq := if_t c7 heq
        refine lv_iconst (v := (-1)) hx hb dX5_askSwap_21 (by decide) ?_
        cases heq
        exact mm_iret C hM hS dX5_askSwap_22

set_option maxRecDepth 100000 in
set_option maxHeartbeats 4000000 in
theorem tX5_takeMoney (l : Launch) (G : mm_G) (M : mm_M) (a0 : Nat) (h0 : kT a0 = (4, 0)) (x1 : Int32) (x2 : Int32) (r : Int32) (M9 : mm_M) (heq : fX5_takeMoney M a0 x1 x2 = some (r, M9)) : Met l yX5_takeMoney (mm_ws yX5_takeMoney cX5_takeMoney 3 (some .int)) rmX5_takeMoney (va_Pc [.ref (mm_lo G + a0), .int x1, .int x2] (mm_B G (kR, 740, M))) (mm_Qi G r (kR, 740, M9)) 0 0 (mm_A G) := by
  refine mm_met (cc := cX5_takeMoney) (nL := 3) (ret := (some .int)) plRX5 (Nat.le_of_ble_eq_true rfl) ?_
  intro p e s m below meth c ls hin C hM hS hl
  have C : mm_C G p s m _ meth c RX5 cX5_takeMoney 3 (some .int) := C
  have hM : mm_P G kR 740 M s.heap := hM
  have hl : lv_has ls 3 [(0, .ref (mm_lo G + a0)), (1, .int x1), (2, .int x2)] := hl
  obtain ⟨hx, hb, -, -, -, -, -, -, hZ, -⟩ := id C
  rw [fX5_takeMoney] at heq
  refine lv_aload_n hx hb dX5_takeMoney_0 rfl (lv_at hl 0 rfl) ?_
  refine lv_iload_n hx hb dX5_takeMoney_1 rfl (lv_at hl 1 rfl) ?_
  obtain ⟨r2, e1, heq⟩ := bn_of heq
  refine mm_ki hS (mm_runV (rest := []) C hM hS (tX5_hasCart l G M a0 h0 x1 r2 e1) (uX5_97 _ (Nat.le_of_ble_eq_true rfl) (Nat.le_of_ble_eq_true rfl)) (mm_recv C hM (kl h0) (ci := 4) rfl (mm_e4 h0)) hl.1 rfl rfl (Nat.le_of_ble_eq_true rfl) ⟨Nat.zero_le _, Nat.zero_le _⟩ dX5_takeMoney_2) (fun H locs hM hS => ?_)
  have hM : mm_P G kR 740 M H := hM
  refine mm_ifneZ (tgt := 10) C dX5_takeMoney_5 (by decide) (fun c3 => ?_) (fun c3 => ?_)
  · have heq := if_t c3 heq
    refine lv_iload_n hx hb dX5_takeMoney_10 rfl (lv_at hl 2 rfl) ?_
    refine lv_iconst (v := 1) hx hb dX5_takeMoney_11 (by decide) ?_
    refine lv_icmp_lt (tgt := 21) hx hb dX5_takeMoney_12 (by decide) (fun c4 => ?_) (fun c4 => ?_)
    · have heq := if_t c4 heq
      refine lv_bipush (v := (-2)) hx hb dX5_takeMoney_21 (by decide) ?_
      cases heq
      exact mm_iret C hM hS dX5_takeMoney_23
    · have heq := if_f c4 heq
      refine lv_iload_n hx hb dX5_takeMoney_15 rfl (lv_at hl 2 rfl) ?_
      refine mm_ldc C kX5_139 dX5_takeMoney_16 ?_
      refine lv_icmp_le (tgt := 24) hx hb dX5_takeMoney_18 (by decide) (fun c5 => ?_) (fun c5 => ?_)
      · have heq := if_t c5 heq
        refine lv_aload_n hx hb dX5_takeMoney_24 rfl (lv_at hl 0 rfl) ?_
        refine gX5_27 C hM (kl h0) h0 (rS_9 h0) dX5_takeMoney_25 ?_
        refine lv_iload_n hx hb dX5_takeMoney_28 rfl (lv_at hl 1 rfl) ?_
        obtain ⟨g6, heq⟩ := gd_of heq
        refine mm_ald C hM (kl (kS_9 h0)) (Or.inl rfl) (kS_9 h0) (vp_in_of2 g6) (rS_cart h0 (vp_lt g6)) dX5_takeMoney_29 ?_
        refine lv_dup hx hb dX5_takeMoney_30 rfl ?_
        refine gX5_140 C hM (kl (kS_cart h0 (vp_lt g6))) (kS_cart h0 (vp_lt g6)) dX5_takeMoney_31 ?_
        refine lv_iload_n hx hb dX5_takeMoney_34 rfl (lv_at hl 2 rfl) ?_
        refine lv_i2l hx hb dX5_takeMoney_35 rfl ?_
        refine lv_ladd hx hb dX5_takeMoney_36 ?_
        refine pX5_140 C hM hS (kl (kS_cart h0 (vp_lt g6))) (kS_cart h0 (vp_lt g6)) dX5_takeMoney_37 (fun H locs hM hS _ => ?_)
        obtain ⟨M7, eM7⟩ : ∃ z : mm_M, z = sL M (a0 + 18 + 3 * x1.toNatClampNeg) 12 ((M.2 (a0 + 18 + 3 * x1.toNatClampNeg) 12) + (x2.toInt64)) := ⟨_, rfl⟩
        rw [← eM7] at hM
        have heq := lt_to eM7 heq
        refine lv_aload_n hx hb dX5_takeMoney_40 rfl (lv_at hl 0 rfl) ?_
        refine gX5_27 C hM (kl h0) h0 (rS_9 h0) dX5_takeMoney_41 ?_
        refine lv_iload_n hx hb dX5_takeMoney_44 rfl (lv_at hl 1 rfl) ?_
        refine mm_ald C hM (kl (kS_9 h0)) (Or.inl rfl) (kS_9 h0) (vp_in_of2 g6) (rS_cart h0 (vp_lt g6)) dX5_takeMoney_45 ?_
        obtain ⟨r9, e8, heq⟩ := bn_of heq
        refine mm_kl hS (mm_runV (rest := []) C hM hS (tX0_balance l G M7 (a0 + 18 + 3 * x1.toNatClampNeg) (kS_cart h0 (vp_lt g6)) r9 e8) (uX5_143 _ (Nat.le_of_ble_eq_true rfl) (Nat.le_of_ble_eq_true rfl)) (mm_recv C hM (kl (kS_cart h0 (vp_lt g6))) (ci := 0) rfl (mm_e0 (kS_cart h0 (vp_lt g6)))) hl.1 rfl rfl (Nat.le_of_ble_eq_true rfl) ⟨Nat.zero_le _, Nat.zero_le _⟩ dX5_takeMoney_46) (fun H locs hM hS => ?_)
        have hM : mm_P G kR 740 M7 H := hM
        refine lv_lconst (v := 0) hx hb dX5_takeMoney_49 (by decide) ?_
        refine W.lcmp hx hb dX5_takeMoney_50 ?_
        refine lv_if_lt (tgt := 58) hx hb dX5_takeMoney_51 (by decide) (fun c10 => ?_) (fun c10 => ?_)
        · have heq := if_t c10 heq
          refine lv_iconst (v := 0) hx hb dX5_takeMoney_58 (by decide) ?_
          cases heq
          exact mm_iret C hM hS dX5_takeMoney_59
        · have heq := if_f c10 heq
          refine lv_iconst (v := 1) hx hb dX5_takeMoney_54 (by decide) ?_
          refine lv_goto (tgt := 59) hx hb dX5_takeMoney_55 (by decide) ?_
          cases heq
          exact mm_iret C hM hS dX5_takeMoney_59
      · have heq := if_f c5 heq
        refine lv_bipush (v := (-2)) hx hb dX5_takeMoney_21 (by decide) ?_
        cases heq
        exact mm_iret C hM hS dX5_takeMoney_23
  · have heq := if_f c3 heq
    refine lv_iconst (v := (-1)) hx hb dX5_takeMoney_8 (by decide) ?_
    cases heq
    exact mm_iret C hM hS dX5_takeMoney_9

set_option maxRecDepth 100000 in
set_option maxHeartbeats 4000000 in
theorem tX5_beginNextDay_12 (C : mm_C G p s m args meth c RX5 cX5_beginNextDay 2 none) (a0 : Nat) (h0 : kT a0 = (4, 0)) {M9 : mm_M} : ∀ n : Nat, ∀ (M : mm_M) (v1 : Int32) (H : Heap) (locs : List Loc) (ls : Array Slot), mm_P G kR 740 M H → va_S (mm_A G) s.heap H locs → lv_has ls 2 [(0, .ref (mm_lo G + a0)), (1, .int v1)] → fX5_beginNextDay_12 a0 n M v1 = some M9 → W p l e rmX5_beginNextDay s m args below meth c H locs 0 0 (MQ below (mm_Qv G (kR, 740, M9)) args s 0 0 (mm_A G)) (F0 m 12 ls []) := by
  obtain ⟨hx, hb, -, -, -, -, -, -, hZ, -⟩ := id C
  intro n
  induction n with
  | zero =>
    intro M v1 H locs ls hM hS hl heq
    rw [fX5_beginNextDay_12] at heq
    cases heq
  | succ n ih =>
    intro M v1 H locs ls hM hS hl heq
    rw [fX5_beginNextDay_12] at heq
    refine lv_iload_n hx hb dX5_beginNextDay_12 rfl (lv_at hl 1 rfl) ?_
    refine lv_aload_n hx hb dX5_beginNextDay_13 rfl (lv_at hl 0 rfl) ?_
    refine gX5_54 C hM (kl h0) h0 dX5_beginNextDay_14 ?_
    refine lv_icmp_ge (tgt := 39) hx hb dX5_beginNextDay_17 (by decide) (fun c1 => ?_) (fun c1 => ?_)
    · have heq := if_t c1 heq
      cases heq
      exact mm_vret C hM hS dX5_beginNextDay_39
    · have heq := if_f c1 heq
      refine lv_aload_n hx hb dX5_beginNextDay_20 rfl (lv_at hl 0 rfl) ?_
      refine gX5_27 C hM (kl h0) h0 (rS_9 h0) dX5_beginNextDay_21 ?_
      refine lv_iload_n hx hb dX5_beginNextDay_24 rfl (lv_at hl 1 rfl) ?_
      obtain ⟨g2, heq⟩ := gd_of heq
      refine mm_ald C hM (kl (kS_9 h0)) (Or.inl rfl) (kS_9 h0) (vp_in_of2 g2) (rS_cart h0 (vp_lt g2)) dX5_beginNextDay_25 ?_
      refine lv_aload_n hx hb dX5_beginNextDay_26 rfl (lv_at hl 0 rfl) ?_
      refine gX5_48 C hM (kl h0) h0 dX5_beginNextDay_27 ?_
      obtain ⟨M4, e3, heq⟩ := bn_of heq
      refine mm_kv hS (mm_runV (rest := []) C hM hS (tX0_dropPointsOfSameSpot l G M (a0 + 18 + 3 * v1.toNatClampNeg) (kS_cart h0 (vp_lt g2)) (M.1 a0 0) M4 e3) (uX5_171 _ (Nat.le_of_ble_eq_true rfl) (Nat.le_of_ble_eq_true rfl)) (mm_recv C hM (kl (kS_cart h0 (vp_lt g2))) (ci := 0) rfl (mm_e0 (kS_cart h0 (vp_lt g2)))) hl.1 rfl rfl (Nat.le_of_ble_eq_true rfl) ⟨Nat.zero_le _, Nat.zero_le _⟩ dX5_beginNextDay_30) (fun H locs hM hS => ?_)
      have hM : mm_P G kR 740 M4 H := hM
      obtain ⟨y5, ey5⟩ : ∃ y : Int32, y = (v1 + 1) := ⟨_, rfl⟩
      have heq := lt_to ey5 heq
      refine lv_iinc (v := y5) (lv' := [(1, .int y5), (0, .ref (mm_lo G + a0))]) hx hb dX5_beginNextDay_33 hl (k := 1) rfl (by rw [ey5]; rfl) (by decide) rfl (fun ls hl => ?_)
      refine lv_goto (tgt := 12) hx hb dX5_beginNextDay_36 (by decide) ?_
      exact ih _ _ _ _ _ hM hS (lv_sub hl [1, 0] rfl) heq

set_option maxRecDepth 100000 in
set_option maxHeartbeats 4000000 in
theorem tX5_beginNextDay (l : Launch) (G : mm_G) (M : mm_M) (a0 : Nat) (h0 : kT a0 = (4, 0)) (M9 : mm_M) (heq : fX5_beginNextDay M a0 = some M9) : Met l yX5_beginNextDay (mm_ws yX5_beginNextDay cX5_beginNextDay 2 none) rmX5_beginNextDay (va_Pc [.ref (mm_lo G + a0)] (mm_B G (kR, 740, M))) (mm_Qv G (kR, 740, M9)) 0 0 (mm_A G) := by
  refine mm_met (cc := cX5_beginNextDay) (nL := 2) (ret := none) plRX5 (Nat.le_of_ble_eq_true rfl) ?_
  intro p e s m below meth c ls hin C hM hS hl
  have C : mm_C G p s m _ meth c RX5 cX5_beginNextDay 2 none := C
  have hM : mm_P G kR 740 M s.heap := hM
  have hl : lv_has ls 2 [(0, .ref (mm_lo G + a0))] := hl
  obtain ⟨hx, hb, -, -, -, -, -, -, hZ, -⟩ := id C
  rw [fX5_beginNextDay] at heq
  refine lv_aload_n hx hb dX5_beginNextDay_0 rfl (lv_at hl 0 rfl) ?_
  refine lv_dup hx hb dX5_beginNextDay_1 rfl ?_
  refine gX5_48 C hM (kl h0) h0 dX5_beginNextDay_2 ?_
  refine lv_iconst (v := 1) hx hb dX5_beginNextDay_5 (by decide) ?_
  refine lv_iadd hx hb dX5_beginNextDay_6 ?_
  refine pX5_48 C hM hS (kl h0) h0 dX5_beginNextDay_7 (fun H locs hM hS _ => ?_)
  obtain ⟨M1, eM1⟩ : ∃ z : mm_M, z = sI M a0 0 ((M.1 a0 0) + 1) := ⟨_, rfl⟩
  rw [← eM1] at hM
  have heq := lt_to eM1 heq
  refine lv_iconst (v := 0) hx hb dX5_beginNextDay_10 (by decide) ?_
  refine lv_istore_n (lv' := [(1, .int 0), (0, .ref (mm_lo G + a0))]) hx hb dX5_beginNextDay_11 rfl hl (by decide) rfl (fun ls hl => ?_)
  exact tX5_beginNextDay_12 C a0 h0 FU _ _ _ _ _ hM hS (lv_sub hl [1, 0] rfl) heq

set_option maxRecDepth 100000 in
set_option maxHeartbeats 4000000 in
theorem tX5_passDays_16 (C : mm_C G p s m args meth c RX5 cX5_passDays 3 (some .int)) (a0 : Nat) (h0 : kT a0 = (4, 0)) (x1 : Int32) {r : Int32} {M9 : mm_M} : ∀ n : Nat, ∀ (M : mm_M) (v2 : Int32) (H : Heap) (locs : List Loc) (ls : Array Slot), mm_P G kR 740 M H → va_S (mm_A G) s.heap H locs → lv_has ls 3 [(0, .ref (mm_lo G + a0)), (1, .int x1), (2, .int v2)] → fX5_passDays_16 a0 x1 n M v2 = some (r, M9) → W p l e rmX5_passDays s m args below meth c H locs 0 0 (MQ below (mm_Qi G r (kR, 740, M9)) args s 0 0 (mm_A G)) (F0 m 16 ls []) := by
  obtain ⟨hx, hb, -, -, -, -, -, -, hZ, -⟩ := id C
  intro n
  induction n with
  | zero =>
    intro M v2 H locs ls hM hS hl heq
    rw [fX5_passDays_16] at heq
    cases heq
  | succ n ih =>
    intro M v2 H locs ls hM hS hl heq
    rw [fX5_passDays_16] at heq
    refine lv_iload_n hx hb dX5_passDays_16 rfl (lv_at hl 2 rfl) ?_
    refine lv_iload_n hx hb dX5_passDays_17 rfl (lv_at hl 1 rfl) ?_
    refine lv_icmp_ge (tgt := 55) hx hb dX5_passDays_18 (by decide) (fun c1 => ?_) (fun c1 => ?_)
    · have heq := if_t c1 heq
      refine lv_aload_n hx hb dX5_passDays_55 rfl (lv_at hl 0 rfl) ?_
      refine gX5_48 C hM (kl h0) h0 dX5_passDays_56 ?_
      cases heq
      exact mm_iret C hM hS dX5_passDays_59
    · have heq := if_f c1 heq
      refine lv_aload_n hx hb dX5_passDays_21 rfl (lv_at hl 0 rfl) ?_
      obtain ⟨M3, e2, heq⟩ := bn_of heq
      refine mm_kv hS (mm_runS (rest := []) C hM hS (tX1_runChecks l G M a0 h0 M3 e2) (uX5_147 _ (Nat.le_of_ble_eq_true rfl) (Nat.le_of_ble_eq_true rfl)) hl.1 rfl rfl (Nat.le_of_ble_eq_true rfl) ⟨Nat.zero_le _, Nat.zero_le _⟩ dX5_passDays_22) (fun H locs hM hS => ?_)
      have hM : mm_P G kR 740 M3 H := hM
      refine lv_aload_n hx hb dX5_passDays_25 rfl (lv_at hl 0 rfl) ?_
      obtain ⟨M5, e4, heq⟩ := bn_of heq
      refine mm_kv hS (mm_runS (rest := []) C hM hS (tX1_clearLastDay l G M3 a0 h0 M5 e4) (uX5_153 _ (Nat.le_of_ble_eq_true rfl) (Nat.le_of_ble_eq_true rfl)) hl.1 rfl rfl (Nat.le_of_ble_eq_true rfl) ⟨Nat.zero_le _, Nat.zero_le _⟩ dX5_passDays_26) (fun H locs hM hS => ?_)
      have hM : mm_P G kR 740 M5 H := hM
      refine lv_aload_n hx hb dX5_passDays_29 rfl (lv_at hl 0 rfl) ?_
      obtain ⟨M7, e6, heq⟩ := bn_of heq
      refine mm_kv hS (mm_runS (rest := []) C hM hS (tX1_drawLots l G M5 a0 h0 M7 e6) (uX5_156 _ (Nat.le_of_ble_eq_true rfl) (Nat.le_of_ble_eq_true rfl)) hl.1 rfl rfl (Nat.le_of_ble_eq_true rfl) ⟨Nat.zero_le _, Nat.zero_le _⟩ dX5_passDays_30) (fun H locs hM hS => ?_)
      have hM : mm_P G kR 740 M7 H := hM
      refine lv_aload_n hx hb dX5_passDays_33 rfl (lv_at hl 0 rfl) ?_
      obtain ⟨M9, e8, heq⟩ := bn_of heq
      refine mm_kv hS (mm_runS (rest := []) C hM hS (tX1_shareKitchens l G M7 a0 h0 M9 e8) (uX5_159 _ (Nat.le_of_ble_eq_true rfl) (Nat.le_of_ble_eq_true rfl)) hl.1 rfl rfl (Nat.le_of_ble_eq_true rfl) ⟨Nat.zero_le _, Nat.zero_le _⟩ dX5_passDays_34) (fun H locs hM hS => ?_)
      have hM : mm_P G kR 740 M9 H := hM
      refine lv_aload_n hx hb dX5_passDays_37 rfl (lv_at hl 0 rfl) ?_
      obtain ⟨M11, e10, heq⟩ := bn_of heq
      refine mm_kv hS (mm_runS (rest := []) C hM hS (tX1_makeSwaps l G M9 a0 h0 M11 e10) (uX5_162 _ (Nat.le_of_ble_eq_true rfl) (Nat.le_of_ble_eq_true rfl)) hl.1 rfl rfl (Nat.le_of_ble_eq_true rfl) ⟨Nat.zero_le _, Nat.zero_le _⟩ dX5_passDays_38) (fun H locs hM hS => ?_)
      have hM : mm_P G kR 740 M11 H := hM
      refine lv_aload_n hx hb dX5_passDays_41 rfl (lv_at hl 0 rfl) ?_
      obtain ⟨M13, e12, heq⟩ := bn_of heq
      refine mm_kv hS (mm_runS (rest := []) C hM hS (tX1_trade l G M11 a0 h0 M13 e12) (uX5_165 _ (Nat.le_of_ble_eq_true rfl) (Nat.le_of_ble_eq_true rfl)) hl.1 rfl rfl (Nat.le_of_ble_eq_true rfl) ⟨Nat.zero_le _, Nat.zero_le _⟩ dX5_passDays_42) (fun H locs hM hS => ?_)
      have hM : mm_P G kR 740 M13 H := hM
      refine lv_aload_n hx hb dX5_passDays_45 rfl (lv_at hl 0 rfl) ?_
      obtain ⟨M15, e14, heq⟩ := bn_of heq
      refine mm_kv hS (mm_runV (rest := []) C hM hS (tX5_beginNextDay l G M13 a0 h0 M15 e14) (uX5_168 _ (Nat.le_of_ble_eq_true rfl) (Nat.le_of_ble_eq_true rfl)) (mm_recv C hM (kl h0) (ci := 4) rfl (mm_e4 h0)) hl.1 rfl rfl (Nat.le_of_ble_eq_true rfl) ⟨Nat.zero_le _, Nat.zero_le _⟩ dX5_passDays_46) (fun H locs hM hS => ?_)
      have hM : mm_P G kR 740 M15 H := hM
      obtain ⟨y16, ey16⟩ : ∃ y : Int32, y = (v2 + 1) := ⟨_, rfl⟩
      have heq := lt_to ey16 heq
      refine lv_iinc (v := y16) (lv' := [(2, .int y16), (0, .ref (mm_lo G + a0)), (1, .int x1)]) hx hb dX5_passDays_49 hl (k := 2) rfl (by rw [ey16]; rfl) (by decide) rfl (fun ls hl => ?_)
      refine lv_goto (tgt := 16) hx hb dX5_passDays_52 (by decide) ?_
      exact ih _ _ _ _ _ hM hS (lv_sub hl [1, 2, 0] rfl) heq

set_option maxRecDepth 100000 in
set_option maxHeartbeats 4000000 in
theorem tX5_passDays (l : Launch) (G : mm_G) (M : mm_M) (a0 : Nat) (h0 : kT a0 = (4, 0)) (x1 : Int32) (r : Int32) (M9 : mm_M) (heq : fX5_passDays M a0 x1 = some (r, M9)) : Met l yX5_passDays (mm_ws yX5_passDays cX5_passDays 3 (some .int)) rmX5_passDays (va_Pc [.ref (mm_lo G + a0), .int x1] (mm_B G (kR, 740, M))) (mm_Qi G r (kR, 740, M9)) 0 0 (mm_A G) := by
  refine mm_met (cc := cX5_passDays) (nL := 3) (ret := (some .int)) plRX5 (Nat.le_of_ble_eq_true rfl) ?_
  intro p e s m below meth c ls hin C hM hS hl
  have C : mm_C G p s m _ meth c RX5 cX5_passDays 3 (some .int) := C
  have hM : mm_P G kR 740 M s.heap := hM
  have hl : lv_has ls 3 [(0, .ref (mm_lo G + a0)), (1, .int x1)] := hl
  obtain ⟨hx, hb, -, -, -, -, -, -, hZ, -⟩ := id C
  rw [fX5_passDays] at heq
  refine lv_iload_n hx hb dX5_passDays_0 rfl (lv_at hl 1 rfl) ?_
  refine lv_iconst (v := 1) hx hb dX5_passDays_1 (by decide) ?_
  refine lv_icmp_lt (tgt := 11) hx hb dX5_passDays_2 (by decide) (fun c1 => ?_) (fun c1 => ?_)
  · have heq := if_t c1 heq
    refine lv_bipush (v := (-2)) hx hb dX5_passDays_11 (by decide) ?_
    cases heq
    exact mm_iret C hM hS dX5_passDays_13
  · have heq := if_f c1 heq
    refine lv_iload_n hx hb dX5_passDays_5 rfl (lv_at hl 1 rfl) ?_
    refine lv_bipush (v := 60) hx hb dX5_passDays_6 (by decide) ?_
    refine lv_icmp_le (tgt := 14) hx hb dX5_passDays_8 (by decide) (fun c2 => ?_) (fun c2 => ?_)
    · have heq := if_t c2 heq
      refine lv_iconst (v := 0) hx hb dX5_passDays_14 (by decide) ?_
      refine lv_istore_n (lv' := [(2, .int 0), (0, .ref (mm_lo G + a0)), (1, .int x1)]) hx hb dX5_passDays_15 rfl hl (by decide) rfl (fun ls hl => ?_)
      exact tX5_passDays_16 C a0 h0 x1 FU _ _ _ _ _ hM hS (lv_sub hl [1, 2, 0] rfl) heq
    · have heq := if_f c2 heq
      refine lv_bipush (v := (-2)) hx hb dX5_passDays_11 (by decide) ?_
      cases heq
      exact mm_iret C hM hS dX5_passDays_13

set_option maxRecDepth 100000 in
set_option maxHeartbeats 4000000 in
theorem tX5_countOnPitches_4 (C : mm_C G p s m args meth c RX5 cX5_countOnPitches 3 (some .int)) (a0 : Nat) (h0 : kT a0 = (4, 0)) (M : mm_M) {r : Int32} : ∀ n : Nat, ∀ (v1 : Int32) (v2 : Int32) (H : Heap) (locs : List Loc) (ls : Array Slot), mm_P G kR 740 M H → va_S (mm_A G) s.heap H locs → lv_has ls 3 [(0, .ref (mm_lo G + a0)), (1, .int v1), (2, .int v2)] → fX5_countOnPitches_4 a0 M n v1 v2 = some r → W p l e rmX5_countOnPitches s m args below meth c H locs 0 0 (MQ below (mm_Qi G r (kR, 740, M)) args s 0 0 (mm_A G)) (F0 m 4 ls []) := by
  obtain ⟨hx, hb, -, -, -, -, -, -, hZ, -⟩ := id C
  intro n
  induction n with
  | zero =>
    intro v1 v2 H locs ls hM hS hl heq
    rw [fX5_countOnPitches_4] at heq
    cases heq
  | succ n ih =>
    intro v1 v2 H locs ls hM hS hl heq
    rw [fX5_countOnPitches_4] at heq
    refine lv_iload_n hx hb dX5_countOnPitches_4 rfl (lv_at hl 2 rfl) ?_
    refine lv_aload_n hx hb dX5_countOnPitches_5 rfl (lv_at hl 0 rfl) ?_
    refine gX5_54 C hM (kl h0) h0 dX5_countOnPitches_6 ?_
    refine lv_icmp_ge (tgt := 35) hx hb dX5_countOnPitches_9 (by decide) (fun c1 => ?_) (fun c1 => ?_)
    · have heq := if_t c1 heq
      refine lv_iload_n hx hb dX5_countOnPitches_35 rfl (lv_at hl 1 rfl) ?_
      cases heq
      exact mm_iret C hM hS dX5_countOnPitches_36
    · have heq := if_f c1 heq
      refine lv_aload_n hx hb dX5_countOnPitches_12 rfl (lv_at hl 0 rfl) ?_
      refine gX5_27 C hM (kl h0) h0 (rS_9 h0) dX5_countOnPitches_13 ?_
      refine lv_iload_n hx hb dX5_countOnPitches_16 rfl (lv_at hl 2 rfl) ?_
      obtain ⟨g2, heq⟩ := gd_of heq
      refine mm_ald C hM (kl (kS_9 h0)) (Or.inl rfl) (kS_9 h0) (vp_in_of2 g2) (rS_cart h0 (vp_lt g2)) dX5_countOnPitches_17 ?_
      refine gX5_174 C hM (kl (kS_cart h0 (vp_lt g2))) (kS_cart h0 (vp_lt g2)) dX5_countOnPitches_18 ?_
      refine lv_bipush (v := (-6)) hx hb dX5_countOnPitches_21 (by decide) ?_
      refine lv_icmp_eq (tgt := 29) hx hb dX5_countOnPitches_23 (by decide) (fun c3 => ?_) (fun c3 => ?_)
      · have heq := if_t c3 heq
        obtain ⟨y4, ey4⟩ : ∃ y : Int32, y = (v2 + 1) := ⟨_, rfl⟩
        have heq := lt_to ey4 heq
        refine lv_iinc (v := y4) (lv' := [(2, .int y4), (0, .ref (mm_lo G + a0)), (1, .int v1)]) hx hb dX5_countOnPitches_29 hl (k := 2) rfl (by rw [ey4]; rfl) (by decide) rfl (fun ls hl => ?_)
        refine lv_goto (tgt := 4) hx hb dX5_countOnPitches_32 (by decide) ?_
        exact ih _ _ _ _ _ hM hS (lv_sub hl [1, 2, 0] rfl) heq
      · have heq := if_f c3 heq
        obtain ⟨y5, ey5⟩ : ∃ y : Int32, y = (v1 + 1) := ⟨_, rfl⟩
        have heq := lt_to ey5 heq
        refine lv_iinc (v := y5) (lv' := [(1, .int y5), (0, .ref (mm_lo G + a0)), (2, .int v2)]) hx hb dX5_countOnPitches_26 hl (k := 1) rfl (by rw [ey5]; rfl) (by decide) rfl (fun ls hl => ?_)
        obtain ⟨y6, ey6⟩ : ∃ y : Int32, y = (v2 + 1) := ⟨_, rfl⟩
        have heq := lt_to ey6 heq
        refine lv_iinc (v := y6) (lv' := [(2, .int y6), (1, .int y5), (0, .ref (mm_lo G + a0))]) hx hb dX5_countOnPitches_29 hl (k := 2) rfl (by rw [ey6]; rfl) (by decide) rfl (fun ls hl => ?_)
        refine lv_goto (tgt := 4) hx hb dX5_countOnPitches_32 (by decide) ?_
        exact ih _ _ _ _ _ hM hS (lv_sub hl [2, 1, 0] rfl) heq

set_option maxRecDepth 100000 in
set_option maxHeartbeats 4000000 in
theorem tX5_countOnPitches (l : Launch) (G : mm_G) (M : mm_M) (a0 : Nat) (h0 : kT a0 = (4, 0)) (r : Int32) (heq : fX5_countOnPitches M a0 = some r) : Met l yX5_countOnPitches (mm_ws yX5_countOnPitches cX5_countOnPitches 3 (some .int)) rmX5_countOnPitches (va_Pc [.ref (mm_lo G + a0)] (mm_B G (kR, 740, M))) (mm_Qi G r (kR, 740, M)) 0 0 (mm_A G) := by
  refine mm_met (cc := cX5_countOnPitches) (nL := 3) (ret := (some .int)) plRX5 (Nat.le_of_ble_eq_true rfl) ?_
  intro p e s m below meth c ls hin C hM hS hl
  have C : mm_C G p s m _ meth c RX5 cX5_countOnPitches 3 (some .int) := C
  have hM : mm_P G kR 740 M s.heap := hM
  have hl : lv_has ls 3 [(0, .ref (mm_lo G + a0))] := hl
  obtain ⟨hx, hb, -, -, -, -, -, -, hZ, -⟩ := id C
  rw [fX5_countOnPitches] at heq
  refine lv_iconst (v := 0) hx hb dX5_countOnPitches_0 (by decide) ?_
  refine lv_istore_n (lv' := [(1, .int 0), (0, .ref (mm_lo G + a0))]) hx hb dX5_countOnPitches_1 rfl hl (by decide) rfl (fun ls hl => ?_)
  refine lv_iconst (v := 0) hx hb dX5_countOnPitches_2 (by decide) ?_
  refine lv_istore_n (lv' := [(2, .int 0), (1, .int 0), (0, .ref (mm_lo G + a0))]) hx hb dX5_countOnPitches_3 rfl hl (by decide) rfl (fun ls hl => ?_)
  exact tX5_countOnPitches_4 C a0 h0 M FU _ _ _ _ _ hM hS (lv_sub hl [2, 1, 0] rfl) heq

set_option maxRecDepth 100000 in
set_option maxHeartbeats 4000000 in
theorem tX6_recorded (l : Launch) (G : mm_G) (M : mm_M) (x1 : Int32) (r : Int32) (M9 : mm_M) (heq : fX6_recorded M x1 = some (r, M9)) : Met l yX6_recorded (mm_ws yX6_recorded cX6_recorded 2 (some .int)) rmX6_recorded (va_Pc [.ref (mm_lo G + 0), .int x1] (mm_B G (kR, 740, M))) (mm_Qi G r (kR, 740, M9)) 0 0 (mm_A G) := by
  refine mm_met (cc := cX6_recorded) (nL := 2) (ret := (some .int)) plRX6 (Nat.le_of_ble_eq_true rfl) ?_
  intro p e s m below meth c ls hin C hM hS hl
  have C : mm_C G p s m _ meth c RX6 cX6_recorded 2 (some .int) := C
  have hM : mm_P G kR 740 M s.heap := hM
  have hl : lv_has ls 2 [(0, .ref (mm_lo G + 0)), (1, .int x1)] := hl
  obtain ⟨hx, hb, -, -, -, -, -, -, hZ, -⟩ := id C
  rw [fX6_recorded] at heq
  refine lv_iload_n hx hb dX6_recorded_0 rfl (lv_at hl 1 rfl) ?_
  refine lv_if_lt (tgt := 11) hx hb dX6_recorded_1 (by decide) (fun c1 => ?_) (fun c1 => ?_)
  · have heq := if_t c1 heq
    refine lv_iload_n hx hb dX6_recorded_11 rfl (lv_at hl 1 rfl) ?_
    cases heq
    exact mm_iret C hM hS dX6_recorded_12
  · have heq := if_f c1 heq
    refine lv_aload_n hx hb dX6_recorded_4 rfl (lv_at hl 0 rfl) ?_
    refine gX6_22 C hM (kl (rfl : kT 0 = (5, 0))) (rfl : kT 0 = (5, 0)) (rfl : kR 0 2 = some 133) dX6_recorded_5 ?_
    obtain ⟨M3, e2, heq⟩ := bn_of heq
    refine mm_kv hS (mm_runV (rest := []) C hM hS (tX2_keepPrepared l G M 133 (rfl : kT 133 = (1, 0)) M3 e2) (uX6_82 _ (Nat.le_of_ble_eq_true rfl) (Nat.le_of_ble_eq_true rfl)) (mm_recv C hM (kl (rfl : kT 133 = (1, 0))) (ci := 1) rfl (mm_e1 (rfl : kT 133 = (1, 0)))) hl.1 rfl rfl (Nat.le_of_ble_eq_true rfl) ⟨Nat.zero_le _, Nat.zero_le _⟩ dX6_recorded_8) (fun H locs hM hS => ?_)
    have hM : mm_P G kR 740 M3 H := hM
    refine lv_iload_n hx hb dX6_recorded_11 rfl (lv_at hl 1 rfl) ?_
    cases heq
    exact mm_iret C hM hS dX6_recorded_12

set_option maxRecDepth 100000 in
set_option maxHeartbeats 4000000 in
theorem tX6_set (l : Launch) (G : mm_G) (M : mm_M) (x1 : Int32) (x2 : Int32) (r : Int32) (M9 : mm_M) (heq : fX6_set M x1 x2 = some (r, M9)) : Met l yX6_set (mm_ws yX6_set cX6_set 3 (some .int)) rmX6_set (va_Pc [.ref (mm_lo G + 0), .int x1, .int x2] (mm_B G (kR, 740, M))) (mm_Qi G r (kR, 740, M9)) 0 0 (mm_A G) := by
  refine mm_met (cc := cX6_set) (nL := 3) (ret := (some .int)) plRX6 (Nat.le_of_ble_eq_true rfl) ?_
  intro p e s m below meth c ls hin C hM hS hl
  have C : mm_C G p s m _ meth c RX6 cX6_set 3 (some .int) := C
  have hM : mm_P G kR 740 M s.heap := hM
  have hl : lv_has ls 3 [(0, .ref (mm_lo G + 0)), (1, .int x1), (2, .int x2)] := hl
  obtain ⟨hx, hb, -, -, -, -, -, -, hZ, -⟩ := id C
  rw [fX6_set] at heq
  refine lv_aload_n hx hb dX6_set_0 rfl (lv_at hl 0 rfl) ?_
  refine gX6_22 C hM (kl (rfl : kT 0 = (5, 0))) (rfl : kT 0 = (5, 0)) (rfl : kR 0 2 = some 133) dX6_set_1 ?_
  refine lv_aload_n hx hb dX6_set_4 rfl (lv_at hl 0 rfl) ?_
  refine gX6_10 C hM (kl (rfl : kT 0 = (5, 0))) (rfl : kT 0 = (5, 0)) (rfl : kR 0 0 = some 1) dX6_set_5 ?_
  obtain ⟨M2, e1, heq⟩ := bn_of heq
  refine mm_kv hS (mm_runV (rest := []) C hM hS (tX2_prepare l G M 133 (rfl : kT 133 = (1, 0)) 1 (rfl : kT 1 = (4, 0)) M2 e1) (uX6_39 _ (Nat.le_of_ble_eq_true rfl) (Nat.le_of_ble_eq_true rfl)) (mm_recv C hM (kl (rfl : kT 133 = (1, 0))) (ci := 1) rfl (mm_e1 (rfl : kT 133 = (1, 0)))) hl.1 rfl rfl (Nat.le_of_ble_eq_true rfl) ⟨Nat.zero_le _, Nat.zero_le _⟩ dX6_set_8) (fun H locs hM hS => ?_)
  have hM : mm_P G kR 740 M2 H := hM
  refine lv_aload_n hx hb dX6_set_11 rfl (lv_at hl 0 rfl) ?_
  refine lv_aload_n hx hb dX6_set_12 rfl (lv_at hl 0 rfl) ?_
  refine gX6_10 C hM (kl (rfl : kT 0 = (5, 0))) (rfl : kT 0 = (5, 0)) (rfl : kR 0 0 = some 1) dX6_set_13 ?_
  refine lv_iload_n hx hb dX6_set_16 rfl (lv_at hl 1 rfl) ?_
  refine lv_iload_n hx hb dX6_set_17 rfl (lv_at hl 2 rfl) ?_
  obtain ⟨r4, M5, e3, heq⟩ := bn2_of heq
  refine mm_ki hS (mm_runV (rest := [.ref (mm_lo G + 0)]) C hM hS (tX5_changeSetting l G M2 1 (rfl : kT 1 = (4, 0)) x1 x2 r4 M5 e3) (uX6_43 _ (Nat.le_of_ble_eq_true rfl) (Nat.le_of_ble_eq_true rfl)) (mm_recv C hM (kl (rfl : kT 1 = (4, 0))) (ci := 4) rfl (mm_e4 (rfl : kT 1 = (4, 0)))) hl.1 rfl rfl (Nat.le_of_ble_eq_true rfl) ⟨Nat.zero_le _, Nat.zero_le _⟩ dX6_set_18) (fun H locs hM hS => ?_)
  have hM : mm_P G kR 740 M5 H := hM
  obtain ⟨r7, M8, e6, heq⟩ := bn2_of heq
  refine mm_ki hS (mm_runV (rest := []) C hM hS (tX6_recorded l G M5 r4 r7 M8 e6) (uX6_47 _ (Nat.le_of_ble_eq_true rfl) (Nat.le_of_ble_eq_true rfl)) (mm_recv C hM (kl (rfl : kT 0 = (5, 0))) (ci := 5) rfl (mm_e5 (rfl : kT 0 = (5, 0)))) hl.1 rfl rfl (Nat.le_of_ble_eq_true rfl) ⟨Nat.zero_le _, Nat.zero_le _⟩ dX6_set_21) (fun H locs hM hS => ?_)
  have hM : mm_P G kR 740 M8 H := hM
  cases heq
  exact mm_iret C hM hS dX6_set_24

set_option maxRecDepth 100000 in
set_option maxHeartbeats 4000000 in
theorem tX6_seed (l : Launch) (G : mm_G) (M : mm_M) (x1 : Int32) (r : Int32) (M9 : mm_M) (heq : fX6_seed M x1 = some (r, M9)) : Met l yX6_seed (mm_ws yX6_seed cX6_seed 2 (some .int)) rmX6_seed (va_Pc [.ref (mm_lo G + 0), .int x1] (mm_B G (kR, 740, M))) (mm_Qi G r (kR, 740, M9)) 0 0 (mm_A G) := by
  refine mm_met (cc := cX6_seed) (nL := 2) (ret := (some .int)) plRX6 (Nat.le_of_ble_eq_true rfl) ?_
  intro p e s m below meth c ls hin C hM hS hl
  have C : mm_C G p s m _ meth c RX6 cX6_seed 2 (some .int) := C
  have hM : mm_P G kR 740 M s.heap := hM
  have hl : lv_has ls 2 [(0, .ref (mm_lo G + 0)), (1, .int x1)] := hl
  obtain ⟨hx, hb, -, -, -, -, -, -, hZ, -⟩ := id C
  rw [fX6_seed] at heq
  refine lv_aload_n hx hb dX6_seed_0 rfl (lv_at hl 0 rfl) ?_
  refine gX6_22 C hM (kl (rfl : kT 0 = (5, 0))) (rfl : kT 0 = (5, 0)) (rfl : kR 0 2 = some 133) dX6_seed_1 ?_
  refine lv_aload_n hx hb dX6_seed_4 rfl (lv_at hl 0 rfl) ?_
  refine gX6_10 C hM (kl (rfl : kT 0 = (5, 0))) (rfl : kT 0 = (5, 0)) (rfl : kR 0 0 = some 1) dX6_seed_5 ?_
  obtain ⟨M2, e1, heq⟩ := bn_of heq
  refine mm_kv hS (mm_runV (rest := []) C hM hS (tX2_prepare l G M 133 (rfl : kT 133 = (1, 0)) 1 (rfl : kT 1 = (4, 0)) M2 e1) (uX6_39 _ (Nat.le_of_ble_eq_true rfl) (Nat.le_of_ble_eq_true rfl)) (mm_recv C hM (kl (rfl : kT 133 = (1, 0))) (ci := 1) rfl (mm_e1 (rfl : kT 133 = (1, 0)))) hl.1 rfl rfl (Nat.le_of_ble_eq_true rfl) ⟨Nat.zero_le _, Nat.zero_le _⟩ dX6_seed_8) (fun H locs hM hS => ?_)
  have hM : mm_P G kR 740 M2 H := hM
  refine lv_aload_n hx hb dX6_seed_11 rfl (lv_at hl 0 rfl) ?_
  refine lv_aload_n hx hb dX6_seed_12 rfl (lv_at hl 0 rfl) ?_
  refine gX6_10 C hM (kl (rfl : kT 0 = (5, 0))) (rfl : kT 0 = (5, 0)) (rfl : kR 0 0 = some 1) dX6_seed_13 ?_
  refine lv_iload_n hx hb dX6_seed_16 rfl (lv_at hl 1 rfl) ?_
  obtain ⟨r4, M5, e3, heq⟩ := bn2_of heq
  refine mm_ki hS (mm_runV (rest := [.ref (mm_lo G + 0)]) C hM hS (tX5_changeLots l G M2 1 (rfl : kT 1 = (4, 0)) x1 r4 M5 e3) (uX6_51 _ (Nat.le_of_ble_eq_true rfl) (Nat.le_of_ble_eq_true rfl)) (mm_recv C hM (kl (rfl : kT 1 = (4, 0))) (ci := 4) rfl (mm_e4 (rfl : kT 1 = (4, 0)))) hl.1 rfl rfl (Nat.le_of_ble_eq_true rfl) ⟨Nat.zero_le _, Nat.zero_le _⟩ dX6_seed_17) (fun H locs hM hS => ?_)
  have hM : mm_P G kR 740 M5 H := hM
  obtain ⟨r7, M8, e6, heq⟩ := bn2_of heq
  refine mm_ki hS (mm_runV (rest := []) C hM hS (tX6_recorded l G M5 r4 r7 M8 e6) (uX6_47 _ (Nat.le_of_ble_eq_true rfl) (Nat.le_of_ble_eq_true rfl)) (mm_recv C hM (kl (rfl : kT 0 = (5, 0))) (ci := 5) rfl (mm_e5 (rfl : kT 0 = (5, 0)))) hl.1 rfl rfl (Nat.le_of_ble_eq_true rfl) ⟨Nat.zero_le _, Nat.zero_le _⟩ dX6_seed_20) (fun H locs hM hS => ?_)
  have hM : mm_P G kR 740 M8 H := hM
  cases heq
  exact mm_iret C hM hS dX6_seed_23

set_option maxRecDepth 100000 in
set_option maxHeartbeats 4000000 in
theorem tX6_pitch (l : Launch) (G : mm_G) (M : mm_M) (x1 : Int32) (r : Int32) (M9 : mm_M) (heq : fX6_pitch M x1 = some (r, M9)) : Met l yX6_pitch (mm_ws yX6_pitch cX6_pitch 2 (some .int)) rmX6_pitch (va_Pc [.ref (mm_lo G + 0), .int x1] (mm_B G (kR, 740, M))) (mm_Qi G r (kR, 740, M9)) 0 0 (mm_A G) := by
  refine mm_met (cc := cX6_pitch) (nL := 2) (ret := (some .int)) plRX6 (Nat.le_of_ble_eq_true rfl) ?_
  intro p e s m below meth c ls hin C hM hS hl
  have C : mm_C G p s m _ meth c RX6 cX6_pitch 2 (some .int) := C
  have hM : mm_P G kR 740 M s.heap := hM
  have hl : lv_has ls 2 [(0, .ref (mm_lo G + 0)), (1, .int x1)] := hl
  obtain ⟨hx, hb, -, -, -, -, -, -, hZ, -⟩ := id C
  rw [fX6_pitch] at heq
  refine lv_aload_n hx hb dX6_pitch_0 rfl (lv_at hl 0 rfl) ?_
  refine gX6_22 C hM (kl (rfl : kT 0 = (5, 0))) (rfl : kT 0 = (5, 0)) (rfl : kR 0 2 = some 133) dX6_pitch_1 ?_
  refine lv_aload_n hx hb dX6_pitch_4 rfl (lv_at hl 0 rfl) ?_
  refine gX6_10 C hM (kl (rfl : kT 0 = (5, 0))) (rfl : kT 0 = (5, 0)) (rfl : kR 0 0 = some 1) dX6_pitch_5 ?_
  obtain ⟨M2, e1, heq⟩ := bn_of heq
  refine mm_kv hS (mm_runV (rest := []) C hM hS (tX2_prepare l G M 133 (rfl : kT 133 = (1, 0)) 1 (rfl : kT 1 = (4, 0)) M2 e1) (uX6_39 _ (Nat.le_of_ble_eq_true rfl) (Nat.le_of_ble_eq_true rfl)) (mm_recv C hM (kl (rfl : kT 133 = (1, 0))) (ci := 1) rfl (mm_e1 (rfl : kT 133 = (1, 0)))) hl.1 rfl rfl (Nat.le_of_ble_eq_true rfl) ⟨Nat.zero_le _, Nat.zero_le _⟩ dX6_pitch_8) (fun H locs hM hS => ?_)
  have hM : mm_P G kR 740 M2 H := hM
  refine lv_aload_n hx hb dX6_pitch_11 rfl (lv_at hl 0 rfl) ?_
  refine lv_aload_n hx hb dX6_pitch_12 rfl (lv_at hl 0 rfl) ?_
  refine gX6_10 C hM (kl (rfl : kT 0 = (5, 0))) (rfl : kT 0 = (5, 0)) (rfl : kR 0 0 = some 1) dX6_pitch_13 ?_
  refine lv_iload_n hx hb dX6_pitch_16 rfl (lv_at hl 1 rfl) ?_
  obtain ⟨r4, M5, e3, heq⟩ := bn2_of heq
  refine mm_ki hS (mm_runV (rest := [.ref (mm_lo G + 0)]) C hM hS (tX5_addPitch l G M2 1 (rfl : kT 1 = (4, 0)) x1 r4 M5 e3) (uX6_54 _ (Nat.le_of_ble_eq_true rfl) (Nat.le_of_ble_eq_true rfl)) (mm_recv C hM (kl (rfl : kT 1 = (4, 0))) (ci := 4) rfl (mm_e4 (rfl : kT 1 = (4, 0)))) hl.1 rfl rfl (Nat.le_of_ble_eq_true rfl) ⟨Nat.zero_le _, Nat.zero_le _⟩ dX6_pitch_17) (fun H locs hM hS => ?_)
  have hM : mm_P G kR 740 M5 H := hM
  obtain ⟨r7, M8, e6, heq⟩ := bn2_of heq
  refine mm_ki hS (mm_runV (rest := []) C hM hS (tX6_recorded l G M5 r4 r7 M8 e6) (uX6_47 _ (Nat.le_of_ble_eq_true rfl) (Nat.le_of_ble_eq_true rfl)) (mm_recv C hM (kl (rfl : kT 0 = (5, 0))) (ci := 5) rfl (mm_e5 (rfl : kT 0 = (5, 0)))) hl.1 rfl rfl (Nat.le_of_ble_eq_true rfl) ⟨Nat.zero_le _, Nat.zero_le _⟩ dX6_pitch_20) (fun H locs hM hS => ?_)
  have hM : mm_P G kR 740 M8 H := hM
  cases heq
  exact mm_iret C hM hS dX6_pitch_23

set_option maxRecDepth 100000 in
set_option maxHeartbeats 4000000 in
theorem tX6_rent (l : Launch) (G : mm_G) (M : mm_M) (x1 : Int32) (x2 : Int32) (r : Int32) (M9 : mm_M) (heq : fX6_rent M x1 x2 = some (r, M9)) : Met l yX6_rent (mm_ws yX6_rent cX6_rent 3 (some .int)) rmX6_rent (va_Pc [.ref (mm_lo G + 0), .int x1, .int x2] (mm_B G (kR, 740, M))) (mm_Qi G r (kR, 740, M9)) 0 0 (mm_A G) := by
  refine mm_met (cc := cX6_rent) (nL := 3) (ret := (some .int)) plRX6 (Nat.le_of_ble_eq_true rfl) ?_
  intro p e s m below meth c ls hin C hM hS hl
  have C : mm_C G p s m _ meth c RX6 cX6_rent 3 (some .int) := C
  have hM : mm_P G kR 740 M s.heap := hM
  have hl : lv_has ls 3 [(0, .ref (mm_lo G + 0)), (1, .int x1), (2, .int x2)] := hl
  obtain ⟨hx, hb, -, -, -, -, -, -, hZ, -⟩ := id C
  rw [fX6_rent] at heq
  refine lv_aload_n hx hb dX6_rent_0 rfl (lv_at hl 0 rfl) ?_
  refine gX6_22 C hM (kl (rfl : kT 0 = (5, 0))) (rfl : kT 0 = (5, 0)) (rfl : kR 0 2 = some 133) dX6_rent_1 ?_
  refine lv_aload_n hx hb dX6_rent_4 rfl (lv_at hl 0 rfl) ?_
  refine gX6_10 C hM (kl (rfl : kT 0 = (5, 0))) (rfl : kT 0 = (5, 0)) (rfl : kR 0 0 = some 1) dX6_rent_5 ?_
  obtain ⟨M2, e1, heq⟩ := bn_of heq
  refine mm_kv hS (mm_runV (rest := []) C hM hS (tX2_prepare l G M 133 (rfl : kT 133 = (1, 0)) 1 (rfl : kT 1 = (4, 0)) M2 e1) (uX6_39 _ (Nat.le_of_ble_eq_true rfl) (Nat.le_of_ble_eq_true rfl)) (mm_recv C hM (kl (rfl : kT 133 = (1, 0))) (ci := 1) rfl (mm_e1 (rfl : kT 133 = (1, 0)))) hl.1 rfl rfl (Nat.le_of_ble_eq_true rfl) ⟨Nat.zero_le _, Nat.zero_le _⟩ dX6_rent_8) (fun H locs hM hS => ?_)
  have hM : mm_P G kR 740 M2 H := hM
  refine lv_aload_n hx hb dX6_rent_11 rfl (lv_at hl 0 rfl) ?_
  refine lv_aload_n hx hb dX6_rent_12 rfl (lv_at hl 0 rfl) ?_
  refine gX6_10 C hM (kl (rfl : kT 0 = (5, 0))) (rfl : kT 0 = (5, 0)) (rfl : kR 0 0 = some 1) dX6_rent_13 ?_
  refine lv_iload_n hx hb dX6_rent_16 rfl (lv_at hl 1 rfl) ?_
  refine lv_iload_n hx hb dX6_rent_17 rfl (lv_at hl 2 rfl) ?_
  obtain ⟨r4, M5, e3, heq⟩ := bn2_of heq
  refine mm_ki hS (mm_runV (rest := [.ref (mm_lo G + 0)]) C hM hS (tX5_changeRent l G M2 1 (rfl : kT 1 = (4, 0)) x1 x2 r4 M5 e3) (uX6_57 _ (Nat.le_of_ble_eq_true rfl) (Nat.le_of_ble_eq_true rfl)) (mm_recv C hM (kl (rfl : kT 1 = (4, 0))) (ci := 4) rfl (mm_e4 (rfl : kT 1 = (4, 0)))) hl.1 rfl rfl (Nat.le_of_ble_eq_true rfl) ⟨Nat.zero_le _, Nat.zero_le _⟩ dX6_rent_18) (fun H locs hM hS => ?_)
  have hM : mm_P G kR 740 M5 H := hM
  obtain ⟨r7, M8, e6, heq⟩ := bn2_of heq
  refine mm_ki hS (mm_runV (rest := []) C hM hS (tX6_recorded l G M5 r4 r7 M8 e6) (uX6_47 _ (Nat.le_of_ble_eq_true rfl) (Nat.le_of_ble_eq_true rfl)) (mm_recv C hM (kl (rfl : kT 0 = (5, 0))) (ci := 5) rfl (mm_e5 (rfl : kT 0 = (5, 0)))) hl.1 rfl rfl (Nat.le_of_ble_eq_true rfl) ⟨Nat.zero_le _, Nat.zero_le _⟩ dX6_rent_21) (fun H locs hM hS => ?_)
  have hM : mm_P G kR 740 M8 H := hM
  cases heq
  exact mm_iret C hM hS dX6_rent_24

set_option maxRecDepth 100000 in
set_option maxHeartbeats 4000000 in
theorem tX6_cart (l : Launch) (G : mm_G) (M : mm_M) (x1 : Int32) (x2 : Int32) (r : Int32) (M9 : mm_M) (heq : fX6_cart M x1 x2 = some (r, M9)) : Met l yX6_cart (mm_ws yX6_cart cX6_cart 3 (some .int)) rmX6_cart (va_Pc [.ref (mm_lo G + 0), .int x1, .int x2] (mm_B G (kR, 740, M))) (mm_Qi G r (kR, 740, M9)) 0 0 (mm_A G) := by
  refine mm_met (cc := cX6_cart) (nL := 3) (ret := (some .int)) plRX6 (Nat.le_of_ble_eq_true rfl) ?_
  intro p e s m below meth c ls hin C hM hS hl
  have C : mm_C G p s m _ meth c RX6 cX6_cart 3 (some .int) := C
  have hM : mm_P G kR 740 M s.heap := hM
  have hl : lv_has ls 3 [(0, .ref (mm_lo G + 0)), (1, .int x1), (2, .int x2)] := hl
  obtain ⟨hx, hb, -, -, -, -, -, -, hZ, -⟩ := id C
  rw [fX6_cart] at heq
  refine lv_aload_n hx hb dX6_cart_0 rfl (lv_at hl 0 rfl) ?_
  refine gX6_22 C hM (kl (rfl : kT 0 = (5, 0))) (rfl : kT 0 = (5, 0)) (rfl : kR 0 2 = some 133) dX6_cart_1 ?_
  refine lv_aload_n hx hb dX6_cart_4 rfl (lv_at hl 0 rfl) ?_
  refine gX6_10 C hM (kl (rfl : kT 0 = (5, 0))) (rfl : kT 0 = (5, 0)) (rfl : kR 0 0 = some 1) dX6_cart_5 ?_
  obtain ⟨M2, e1, heq⟩ := bn_of heq
  refine mm_kv hS (mm_runV (rest := []) C hM hS (tX2_prepare l G M 133 (rfl : kT 133 = (1, 0)) 1 (rfl : kT 1 = (4, 0)) M2 e1) (uX6_39 _ (Nat.le_of_ble_eq_true rfl) (Nat.le_of_ble_eq_true rfl)) (mm_recv C hM (kl (rfl : kT 133 = (1, 0))) (ci := 1) rfl (mm_e1 (rfl : kT 133 = (1, 0)))) hl.1 rfl rfl (Nat.le_of_ble_eq_true rfl) ⟨Nat.zero_le _, Nat.zero_le _⟩ dX6_cart_8) (fun H locs hM hS => ?_)
  have hM : mm_P G kR 740 M2 H := hM
  refine lv_aload_n hx hb dX6_cart_11 rfl (lv_at hl 0 rfl) ?_
  refine lv_aload_n hx hb dX6_cart_12 rfl (lv_at hl 0 rfl) ?_
  refine gX6_10 C hM (kl (rfl : kT 0 = (5, 0))) (rfl : kT 0 = (5, 0)) (rfl : kR 0 0 = some 1) dX6_cart_13 ?_
  refine lv_iload_n hx hb dX6_cart_16 rfl (lv_at hl 1 rfl) ?_
  refine lv_iload_n hx hb dX6_cart_17 rfl (lv_at hl 2 rfl) ?_
  obtain ⟨r4, M5, e3, heq⟩ := bn2_of heq
  refine mm_ki hS (mm_runV (rest := [.ref (mm_lo G + 0)]) C hM hS (tX5_addCart l G M2 1 (rfl : kT 1 = (4, 0)) x1 x2 r4 M5 e3) (uX6_60 _ (Nat.le_of_ble_eq_true rfl) (Nat.le_of_ble_eq_true rfl)) (mm_recv C hM (kl (rfl : kT 1 = (4, 0))) (ci := 4) rfl (mm_e4 (rfl : kT 1 = (4, 0)))) hl.1 rfl rfl (Nat.le_of_ble_eq_true rfl) ⟨Nat.zero_le _, Nat.zero_le _⟩ dX6_cart_18) (fun H locs hM hS => ?_)
  have hM : mm_P G kR 740 M5 H := hM
  obtain ⟨r7, M8, e6, heq⟩ := bn2_of heq
  refine mm_ki hS (mm_runV (rest := []) C hM hS (tX6_recorded l G M5 r4 r7 M8 e6) (uX6_47 _ (Nat.le_of_ble_eq_true rfl) (Nat.le_of_ble_eq_true rfl)) (mm_recv C hM (kl (rfl : kT 0 = (5, 0))) (ci := 5) rfl (mm_e5 (rfl : kT 0 = (5, 0)))) hl.1 rfl rfl (Nat.le_of_ble_eq_true rfl) ⟨Nat.zero_le _, Nat.zero_le _⟩ dX6_cart_21) (fun H locs hM hS => ?_)
  have hM : mm_P G kR 740 M8 H := hM
  cases heq
  exact mm_iret C hM hS dX6_cart_24

set_option maxRecDepth 100000 in
set_option maxHeartbeats 4000000 in
theorem tX6_wish (l : Launch) (G : mm_G) (M : mm_M) (x1 : Int32) (x2 : Int32) (x3 : Int32) (x4 : Int32) (r : Int32) (M9 : mm_M) (heq : fX6_wish M x1 x2 x3 x4 = some (r, M9)) : Met l yX6_wish (mm_ws yX6_wish cX6_wish 5 (some .int)) rmX6_wish (va_Pc [.ref (mm_lo G + 0), .int x1, .int x2, .int x3, .int x4] (mm_B G (kR, 740, M))) (mm_Qi G r (kR, 740, M9)) 0 0 (mm_A G) := by
  refine mm_met (cc := cX6_wish) (nL := 5) (ret := (some .int)) plRX6 (Nat.le_of_ble_eq_true rfl) ?_
  intro p e s m below meth c ls hin C hM hS hl
  have C : mm_C G p s m _ meth c RX6 cX6_wish 5 (some .int) := C
  have hM : mm_P G kR 740 M s.heap := hM
  have hl : lv_has ls 5 [(0, .ref (mm_lo G + 0)), (1, .int x1), (2, .int x2), (3, .int x3), (4, .int x4)] := hl
  obtain ⟨hx, hb, -, -, -, -, -, -, hZ, -⟩ := id C
  rw [fX6_wish] at heq
  refine lv_aload_n hx hb dX6_wish_0 rfl (lv_at hl 0 rfl) ?_
  refine gX6_22 C hM (kl (rfl : kT 0 = (5, 0))) (rfl : kT 0 = (5, 0)) (rfl : kR 0 2 = some 133) dX6_wish_1 ?_
  refine lv_aload_n hx hb dX6_wish_4 rfl (lv_at hl 0 rfl) ?_
  refine gX6_10 C hM (kl (rfl : kT 0 = (5, 0))) (rfl : kT 0 = (5, 0)) (rfl : kR 0 0 = some 1) dX6_wish_5 ?_
  obtain ⟨M2, e1, heq⟩ := bn_of heq
  refine mm_kv hS (mm_runV (rest := []) C hM hS (tX2_prepare l G M 133 (rfl : kT 133 = (1, 0)) 1 (rfl : kT 1 = (4, 0)) M2 e1) (uX6_39 _ (Nat.le_of_ble_eq_true rfl) (Nat.le_of_ble_eq_true rfl)) (mm_recv C hM (kl (rfl : kT 133 = (1, 0))) (ci := 1) rfl (mm_e1 (rfl : kT 133 = (1, 0)))) hl.1 rfl rfl (Nat.le_of_ble_eq_true rfl) ⟨Nat.zero_le _, Nat.zero_le _⟩ dX6_wish_8) (fun H locs hM hS => ?_)
  have hM : mm_P G kR 740 M2 H := hM
  refine lv_aload_n hx hb dX6_wish_11 rfl (lv_at hl 0 rfl) ?_
  refine lv_aload_n hx hb dX6_wish_12 rfl (lv_at hl 0 rfl) ?_
  refine gX6_10 C hM (kl (rfl : kT 0 = (5, 0))) (rfl : kT 0 = (5, 0)) (rfl : kR 0 0 = some 1) dX6_wish_13 ?_
  refine lv_iload_n hx hb dX6_wish_16 rfl (lv_at hl 1 rfl) ?_
  refine lv_iload_n hx hb dX6_wish_17 rfl (lv_at hl 2 rfl) ?_
  refine lv_iload_n hx hb dX6_wish_18 rfl (lv_at hl 3 rfl) ?_
  refine lv_iload hx hb dX6_wish_19 (lv_at hl 4 rfl) ?_
  obtain ⟨r4, M5, e3, heq⟩ := bn2_of heq
  refine mm_ki hS (mm_runV (rest := [.ref (mm_lo G + 0)]) C hM hS (tX5_tellWishes l G M2 1 (rfl : kT 1 = (4, 0)) x1 x2 x3 x4 r4 M5 e3) (uX6_63 _ (Nat.le_of_ble_eq_true rfl) (Nat.le_of_ble_eq_true rfl)) (mm_recv C hM (kl (rfl : kT 1 = (4, 0))) (ci := 4) rfl (mm_e4 (rfl : kT 1 = (4, 0)))) hl.1 rfl rfl (Nat.le_of_ble_eq_true rfl) ⟨Nat.zero_le _, Nat.zero_le _⟩ dX6_wish_21) (fun H locs hM hS => ?_)
  have hM : mm_P G kR 740 M5 H := hM
  obtain ⟨r7, M8, e6, heq⟩ := bn2_of heq
  refine mm_ki hS (mm_runV (rest := []) C hM hS (tX6_recorded l G M5 r4 r7 M8 e6) (uX6_47 _ (Nat.le_of_ble_eq_true rfl) (Nat.le_of_ble_eq_true rfl)) (mm_recv C hM (kl (rfl : kT 0 = (5, 0))) (ci := 5) rfl (mm_e5 (rfl : kT 0 = (5, 0)))) hl.1 rfl rfl (Nat.le_of_ble_eq_true rfl) ⟨Nat.zero_le _, Nat.zero_le _⟩ dX6_wish_24) (fun H locs hM hS => ?_)
  have hM : mm_P G kR 740 M8 H := hM
  cases heq
  exact mm_iret C hM hS dX6_wish_27

set_option maxRecDepth 100000 in
set_option maxHeartbeats 4000000 in
theorem tX6_fine (l : Launch) (G : mm_G) (M : mm_M) (x1 : Int32) (x2 : Int32) (r : Int32) (M9 : mm_M) (heq : fX6_fine M x1 x2 = some (r, M9)) : Met l yX6_fine (mm_ws yX6_fine cX6_fine 3 (some .int)) rmX6_fine (va_Pc [.ref (mm_lo G + 0), .int x1, .int x2] (mm_B G (kR, 740, M))) (mm_Qi G r (kR, 740, M9)) 0 0 (mm_A G) := by
  refine mm_met (cc := cX6_fine) (nL := 3) (ret := (some .int)) plRX6 (Nat.le_of_ble_eq_true rfl) ?_
  intro p e s m below meth c ls hin C hM hS hl
  have C : mm_C G p s m _ meth c RX6 cX6_fine 3 (some .int) := C
  have hM : mm_P G kR 740 M s.heap := hM
  have hl : lv_has ls 3 [(0, .ref (mm_lo G + 0)), (1, .int x1), (2, .int x2)] := hl
  obtain ⟨hx, hb, -, -, -, -, -, -, hZ, -⟩ := id C
  rw [fX6_fine] at heq
  refine lv_aload_n hx hb dX6_fine_0 rfl (lv_at hl 0 rfl) ?_
  refine gX6_22 C hM (kl (rfl : kT 0 = (5, 0))) (rfl : kT 0 = (5, 0)) (rfl : kR 0 2 = some 133) dX6_fine_1 ?_
  refine lv_aload_n hx hb dX6_fine_4 rfl (lv_at hl 0 rfl) ?_
  refine gX6_10 C hM (kl (rfl : kT 0 = (5, 0))) (rfl : kT 0 = (5, 0)) (rfl : kR 0 0 = some 1) dX6_fine_5 ?_
  obtain ⟨M2, e1, heq⟩ := bn_of heq
  refine mm_kv hS (mm_runV (rest := []) C hM hS (tX2_prepare l G M 133 (rfl : kT 133 = (1, 0)) 1 (rfl : kT 1 = (4, 0)) M2 e1) (uX6_39 _ (Nat.le_of_ble_eq_true rfl) (Nat.le_of_ble_eq_true rfl)) (mm_recv C hM (kl (rfl : kT 133 = (1, 0))) (ci := 1) rfl (mm_e1 (rfl : kT 133 = (1, 0)))) hl.1 rfl rfl (Nat.le_of_ble_eq_true rfl) ⟨Nat.zero_le _, Nat.zero_le _⟩ dX6_fine_8) (fun H locs hM hS => ?_)
  have hM : mm_P G kR 740 M2 H := hM
  refine lv_aload_n hx hb dX6_fine_11 rfl (lv_at hl 0 rfl) ?_
  refine lv_aload_n hx hb dX6_fine_12 rfl (lv_at hl 0 rfl) ?_
  refine gX6_10 C hM (kl (rfl : kT 0 = (5, 0))) (rfl : kT 0 = (5, 0)) (rfl : kR 0 0 = some 1) dX6_fine_13 ?_
  refine lv_iload_n hx hb dX6_fine_16 rfl (lv_at hl 1 rfl) ?_
  refine lv_iload_n hx hb dX6_fine_17 rfl (lv_at hl 2 rfl) ?_
  obtain ⟨r4, M5, e3, heq⟩ := bn2_of heq
  refine mm_ki hS (mm_runV (rest := [.ref (mm_lo G + 0)]) C hM hS (tX5_punish l G M2 1 (rfl : kT 1 = (4, 0)) x1 x2 r4 M5 e3) (uX6_67 _ (Nat.le_of_ble_eq_true rfl) (Nat.le_of_ble_eq_true rfl)) (mm_recv C hM (kl (rfl : kT 1 = (4, 0))) (ci := 4) rfl (mm_e4 (rfl : kT 1 = (4, 0)))) hl.1 rfl rfl (Nat.le_of_ble_eq_true rfl) ⟨Nat.zero_le _, Nat.zero_le _⟩ dX6_fine_18) (fun H locs hM hS => ?_)
  have hM : mm_P G kR 740 M5 H := hM
  obtain ⟨r7, M8, e6, heq⟩ := bn2_of heq
  refine mm_ki hS (mm_runV (rest := []) C hM hS (tX6_recorded l G M5 r4 r7 M8 e6) (uX6_47 _ (Nat.le_of_ble_eq_true rfl) (Nat.le_of_ble_eq_true rfl)) (mm_recv C hM (kl (rfl : kT 0 = (5, 0))) (ci := 5) rfl (mm_e5 (rfl : kT 0 = (5, 0)))) hl.1 rfl rfl (Nat.le_of_ble_eq_true rfl) ⟨Nat.zero_le _, Nat.zero_le _⟩ dX6_fine_21) (fun H locs hM hS => ?_)
  have hM : mm_P G kR 740 M8 H := hM
  cases heq
  exact mm_iret C hM hS dX6_fine_24

set_option maxRecDepth 100000 in
set_option maxHeartbeats 4000000 in
theorem tX6_check (l : Launch) (G : mm_G) (M : mm_M) (x1 : Int32) (r : Int32) (M9 : mm_M) (heq : fX6_check M x1 = some (r, M9)) : Met l yX6_check (mm_ws yX6_check cX6_check 2 (some .int)) rmX6_check (va_Pc [.ref (mm_lo G + 0), .int x1] (mm_B G (kR, 740, M))) (mm_Qi G r (kR, 740, M9)) 0 0 (mm_A G) := by
  refine mm_met (cc := cX6_check) (nL := 2) (ret := (some .int)) plRX6 (Nat.le_of_ble_eq_true rfl) ?_
  intro p e s m below meth c ls hin C hM hS hl
  have C : mm_C G p s m _ meth c RX6 cX6_check 2 (some .int) := C
  have hM : mm_P G kR 740 M s.heap := hM
  have hl : lv_has ls 2 [(0, .ref (mm_lo G + 0)), (1, .int x1)] := hl
  obtain ⟨hx, hb, -, -, -, -, -, -, hZ, -⟩ := id C
  rw [fX6_check] at heq
  refine lv_aload_n hx hb dX6_check_0 rfl (lv_at hl 0 rfl) ?_
  refine gX6_22 C hM (kl (rfl : kT 0 = (5, 0))) (rfl : kT 0 = (5, 0)) (rfl : kR 0 2 = some 133) dX6_check_1 ?_
  refine lv_aload_n hx hb dX6_check_4 rfl (lv_at hl 0 rfl) ?_
  refine gX6_10 C hM (kl (rfl : kT 0 = (5, 0))) (rfl : kT 0 = (5, 0)) (rfl : kR 0 0 = some 1) dX6_check_5 ?_
  obtain ⟨M2, e1, heq⟩ := bn_of heq
  refine mm_kv hS (mm_runV (rest := []) C hM hS (tX2_prepare l G M 133 (rfl : kT 133 = (1, 0)) 1 (rfl : kT 1 = (4, 0)) M2 e1) (uX6_39 _ (Nat.le_of_ble_eq_true rfl) (Nat.le_of_ble_eq_true rfl)) (mm_recv C hM (kl (rfl : kT 133 = (1, 0))) (ci := 1) rfl (mm_e1 (rfl : kT 133 = (1, 0)))) hl.1 rfl rfl (Nat.le_of_ble_eq_true rfl) ⟨Nat.zero_le _, Nat.zero_le _⟩ dX6_check_8) (fun H locs hM hS => ?_)
  have hM : mm_P G kR 740 M2 H := hM
  refine lv_aload_n hx hb dX6_check_11 rfl (lv_at hl 0 rfl) ?_
  refine lv_aload_n hx hb dX6_check_12 rfl (lv_at hl 0 rfl) ?_
  refine gX6_10 C hM (kl (rfl : kT 0 = (5, 0))) (rfl : kT 0 = (5, 0)) (rfl : kR 0 0 = some 1) dX6_check_13 ?_
  refine lv_iload_n hx hb dX6_check_16 rfl (lv_at hl 1 rfl) ?_
  obtain ⟨r4, M5, e3, heq⟩ := bn2_of heq
  refine mm_ki hS (mm_runV (rest := [.ref (mm_lo G + 0)]) C hM hS (tX5_askCheck l G M2 1 (rfl : kT 1 = (4, 0)) x1 r4 M5 e3) (uX6_70 _ (Nat.le_of_ble_eq_true rfl) (Nat.le_of_ble_eq_true rfl)) (mm_recv C hM (kl (rfl : kT 1 = (4, 0))) (ci := 4) rfl (mm_e4 (rfl : kT 1 = (4, 0)))) hl.1 rfl rfl (Nat.le_of_ble_eq_true rfl) ⟨Nat.zero_le _, Nat.zero_le _⟩ dX6_check_17) (fun H locs hM hS => ?_)
  have hM : mm_P G kR 740 M5 H := hM
  obtain ⟨r7, M8, e6, heq⟩ := bn2_of heq
  refine mm_ki hS (mm_runV (rest := []) C hM hS (tX6_recorded l G M5 r4 r7 M8 e6) (uX6_47 _ (Nat.le_of_ble_eq_true rfl) (Nat.le_of_ble_eq_true rfl)) (mm_recv C hM (kl (rfl : kT 0 = (5, 0))) (ci := 5) rfl (mm_e5 (rfl : kT 0 = (5, 0)))) hl.1 rfl rfl (Nat.le_of_ble_eq_true rfl) ⟨Nat.zero_le _, Nat.zero_le _⟩ dX6_check_20) (fun H locs hM hS => ?_)
  have hM : mm_P G kR 740 M8 H := hM
  cases heq
  exact mm_iret C hM hS dX6_check_23

set_option maxRecDepth 100000 in
set_option maxHeartbeats 4000000 in
theorem tX6_swap (l : Launch) (G : mm_G) (M : mm_M) (x1 : Int32) (x2 : Int32) (r : Int32) (M9 : mm_M) (heq : fX6_swap M x1 x2 = some (r, M9)) : Met l yX6_swap (mm_ws yX6_swap cX6_swap 3 (some .int)) rmX6_swap (va_Pc [.ref (mm_lo G + 0), .int x1, .int x2] (mm_B G (kR, 740, M))) (mm_Qi G r (kR, 740, M9)) 0 0 (mm_A G) := by
  refine mm_met (cc := cX6_swap) (nL := 3) (ret := (some .int)) plRX6 (Nat.le_of_ble_eq_true rfl) ?_
  intro p e s m below meth c ls hin C hM hS hl
  have C : mm_C G p s m _ meth c RX6 cX6_swap 3 (some .int) := C
  have hM : mm_P G kR 740 M s.heap := hM
  have hl : lv_has ls 3 [(0, .ref (mm_lo G + 0)), (1, .int x1), (2, .int x2)] := hl
  obtain ⟨hx, hb, -, -, -, -, -, -, hZ, -⟩ := id C
  rw [fX6_swap] at heq
  refine lv_aload_n hx hb dX6_swap_0 rfl (lv_at hl 0 rfl) ?_
  refine gX6_22 C hM (kl (rfl : kT 0 = (5, 0))) (rfl : kT 0 = (5, 0)) (rfl : kR 0 2 = some 133) dX6_swap_1 ?_
  refine lv_aload_n hx hb dX6_swap_4 rfl (lv_at hl 0 rfl) ?_
  refine gX6_10 C hM (kl (rfl : kT 0 = (5, 0))) (rfl : kT 0 = (5, 0)) (rfl : kR 0 0 = some 1) dX6_swap_5 ?_
  obtain ⟨M2, e1, heq⟩ := bn_of heq
  refine mm_kv hS (mm_runV (rest := []) C hM hS (tX2_prepare l G M 133 (rfl : kT 133 = (1, 0)) 1 (rfl : kT 1 = (4, 0)) M2 e1) (uX6_39 _ (Nat.le_of_ble_eq_true rfl) (Nat.le_of_ble_eq_true rfl)) (mm_recv C hM (kl (rfl : kT 133 = (1, 0))) (ci := 1) rfl (mm_e1 (rfl : kT 133 = (1, 0)))) hl.1 rfl rfl (Nat.le_of_ble_eq_true rfl) ⟨Nat.zero_le _, Nat.zero_le _⟩ dX6_swap_8) (fun H locs hM hS => ?_)
  have hM : mm_P G kR 740 M2 H := hM
  refine lv_aload_n hx hb dX6_swap_11 rfl (lv_at hl 0 rfl) ?_
  refine lv_aload_n hx hb dX6_swap_12 rfl (lv_at hl 0 rfl) ?_
  refine gX6_10 C hM (kl (rfl : kT 0 = (5, 0))) (rfl : kT 0 = (5, 0)) (rfl : kR 0 0 = some 1) dX6_swap_13 ?_
  refine lv_iload_n hx hb dX6_swap_16 rfl (lv_at hl 1 rfl) ?_
  refine lv_iload_n hx hb dX6_swap_17 rfl (lv_at hl 2 rfl) ?_
  obtain ⟨r4, M5, e3, heq⟩ := bn2_of heq
  refine mm_ki hS (mm_runV (rest := [.ref (mm_lo G + 0)]) C hM hS (tX5_askSwap l G M2 1 (rfl : kT 1 = (4, 0)) x1 x2 r4 M5 e3) (uX6_73 _ (Nat.le_of_ble_eq_true rfl) (Nat.le_of_ble_eq_true rfl)) (mm_recv C hM (kl (rfl : kT 1 = (4, 0))) (ci := 4) rfl (mm_e4 (rfl : kT 1 = (4, 0)))) hl.1 rfl rfl (Nat.le_of_ble_eq_true rfl) ⟨Nat.zero_le _, Nat.zero_le _⟩ dX6_swap_18) (fun H locs hM hS => ?_)
  have hM : mm_P G kR 740 M5 H := hM
  obtain ⟨r7, M8, e6, heq⟩ := bn2_of heq
  refine mm_ki hS (mm_runV (rest := []) C hM hS (tX6_recorded l G M5 r4 r7 M8 e6) (uX6_47 _ (Nat.le_of_ble_eq_true rfl) (Nat.le_of_ble_eq_true rfl)) (mm_recv C hM (kl (rfl : kT 0 = (5, 0))) (ci := 5) rfl (mm_e5 (rfl : kT 0 = (5, 0)))) hl.1 rfl rfl (Nat.le_of_ble_eq_true rfl) ⟨Nat.zero_le _, Nat.zero_le _⟩ dX6_swap_21) (fun H locs hM hS => ?_)
  have hM : mm_P G kR 740 M8 H := hM
  cases heq
  exact mm_iret C hM hS dX6_swap_24

set_option maxRecDepth 100000 in
set_option maxHeartbeats 4000000 in
theorem tX6_pay (l : Launch) (G : mm_G) (M : mm_M) (x1 : Int32) (x2 : Int32) (r : Int32) (M9 : mm_M) (heq : fX6_pay M x1 x2 = some (r, M9)) : Met l yX6_pay (mm_ws yX6_pay cX6_pay 3 (some .int)) rmX6_pay (va_Pc [.ref (mm_lo G + 0), .int x1, .int x2] (mm_B G (kR, 740, M))) (mm_Qi G r (kR, 740, M9)) 0 0 (mm_A G) := by
  refine mm_met (cc := cX6_pay) (nL := 3) (ret := (some .int)) plRX6 (Nat.le_of_ble_eq_true rfl) ?_
  intro p e s m below meth c ls hin C hM hS hl
  have C : mm_C G p s m _ meth c RX6 cX6_pay 3 (some .int) := C
  have hM : mm_P G kR 740 M s.heap := hM
  have hl : lv_has ls 3 [(0, .ref (mm_lo G + 0)), (1, .int x1), (2, .int x2)] := hl
  obtain ⟨hx, hb, -, -, -, -, -, -, hZ, -⟩ := id C
  rw [fX6_pay] at heq
  refine lv_aload_n hx hb dX6_pay_0 rfl (lv_at hl 0 rfl) ?_
  refine gX6_22 C hM (kl (rfl : kT 0 = (5, 0))) (rfl : kT 0 = (5, 0)) (rfl : kR 0 2 = some 133) dX6_pay_1 ?_
  refine lv_aload_n hx hb dX6_pay_4 rfl (lv_at hl 0 rfl) ?_
  refine gX6_10 C hM (kl (rfl : kT 0 = (5, 0))) (rfl : kT 0 = (5, 0)) (rfl : kR 0 0 = some 1) dX6_pay_5 ?_
  obtain ⟨M2, e1, heq⟩ := bn_of heq
  refine mm_kv hS (mm_runV (rest := []) C hM hS (tX2_prepare l G M 133 (rfl : kT 133 = (1, 0)) 1 (rfl : kT 1 = (4, 0)) M2 e1) (uX6_39 _ (Nat.le_of_ble_eq_true rfl) (Nat.le_of_ble_eq_true rfl)) (mm_recv C hM (kl (rfl : kT 133 = (1, 0))) (ci := 1) rfl (mm_e1 (rfl : kT 133 = (1, 0)))) hl.1 rfl rfl (Nat.le_of_ble_eq_true rfl) ⟨Nat.zero_le _, Nat.zero_le _⟩ dX6_pay_8) (fun H locs hM hS => ?_)
  have hM : mm_P G kR 740 M2 H := hM
  refine lv_aload_n hx hb dX6_pay_11 rfl (lv_at hl 0 rfl) ?_
  refine lv_aload_n hx hb dX6_pay_12 rfl (lv_at hl 0 rfl) ?_
  refine gX6_10 C hM (kl (rfl : kT 0 = (5, 0))) (rfl : kT 0 = (5, 0)) (rfl : kR 0 0 = some 1) dX6_pay_13 ?_
  refine lv_iload_n hx hb dX6_pay_16 rfl (lv_at hl 1 rfl) ?_
  refine lv_iload_n hx hb dX6_pay_17 rfl (lv_at hl 2 rfl) ?_
  obtain ⟨r4, M5, e3, heq⟩ := bn2_of heq
  refine mm_ki hS (mm_runV (rest := [.ref (mm_lo G + 0)]) C hM hS (tX5_takeMoney l G M2 1 (rfl : kT 1 = (4, 0)) x1 x2 r4 M5 e3) (uX6_76 _ (Nat.le_of_ble_eq_true rfl) (Nat.le_of_ble_eq_true rfl)) (mm_recv C hM (kl (rfl : kT 1 = (4, 0))) (ci := 4) rfl (mm_e4 (rfl : kT 1 = (4, 0)))) hl.1 rfl rfl (Nat.le_of_ble_eq_true rfl) ⟨Nat.zero_le _, Nat.zero_le _⟩ dX6_pay_18) (fun H locs hM hS => ?_)
  have hM : mm_P G kR 740 M5 H := hM
  obtain ⟨r7, M8, e6, heq⟩ := bn2_of heq
  refine mm_ki hS (mm_runV (rest := []) C hM hS (tX6_recorded l G M5 r4 r7 M8 e6) (uX6_47 _ (Nat.le_of_ble_eq_true rfl) (Nat.le_of_ble_eq_true rfl)) (mm_recv C hM (kl (rfl : kT 0 = (5, 0))) (ci := 5) rfl (mm_e5 (rfl : kT 0 = (5, 0)))) hl.1 rfl rfl (Nat.le_of_ble_eq_true rfl) ⟨Nat.zero_le _, Nat.zero_le _⟩ dX6_pay_21) (fun H locs hM hS => ?_)
  have hM : mm_P G kR 740 M8 H := hM
  cases heq
  exact mm_iret C hM hS dX6_pay_24

set_option maxRecDepth 100000 in
set_option maxHeartbeats 4000000 in
theorem tX6_days (l : Launch) (G : mm_G) (M : mm_M) (x1 : Int32) (r : Int32) (M9 : mm_M) (heq : fX6_days M x1 = some (r, M9)) : Met l yX6_days (mm_ws yX6_days cX6_days 2 (some .int)) rmX6_days (va_Pc [.ref (mm_lo G + 0), .int x1] (mm_B G (kR, 740, M))) (mm_Qi G r (kR, 740, M9)) 0 0 (mm_A G) := by
  refine mm_met (cc := cX6_days) (nL := 2) (ret := (some .int)) plRX6 (Nat.le_of_ble_eq_true rfl) ?_
  intro p e s m below meth c ls hin C hM hS hl
  have C : mm_C G p s m _ meth c RX6 cX6_days 2 (some .int) := C
  have hM : mm_P G kR 740 M s.heap := hM
  have hl : lv_has ls 2 [(0, .ref (mm_lo G + 0)), (1, .int x1)] := hl
  obtain ⟨hx, hb, -, -, -, -, -, -, hZ, -⟩ := id C
  rw [fX6_days] at heq
  refine lv_aload_n hx hb dX6_days_0 rfl (lv_at hl 0 rfl) ?_
  refine gX6_22 C hM (kl (rfl : kT 0 = (5, 0))) (rfl : kT 0 = (5, 0)) (rfl : kR 0 2 = some 133) dX6_days_1 ?_
  refine lv_aload_n hx hb dX6_days_4 rfl (lv_at hl 0 rfl) ?_
  refine gX6_10 C hM (kl (rfl : kT 0 = (5, 0))) (rfl : kT 0 = (5, 0)) (rfl : kR 0 0 = some 1) dX6_days_5 ?_
  obtain ⟨M2, e1, heq⟩ := bn_of heq
  refine mm_kv hS (mm_runV (rest := []) C hM hS (tX2_prepare l G M 133 (rfl : kT 133 = (1, 0)) 1 (rfl : kT 1 = (4, 0)) M2 e1) (uX6_39 _ (Nat.le_of_ble_eq_true rfl) (Nat.le_of_ble_eq_true rfl)) (mm_recv C hM (kl (rfl : kT 133 = (1, 0))) (ci := 1) rfl (mm_e1 (rfl : kT 133 = (1, 0)))) hl.1 rfl rfl (Nat.le_of_ble_eq_true rfl) ⟨Nat.zero_le _, Nat.zero_le _⟩ dX6_days_8) (fun H locs hM hS => ?_)
  have hM : mm_P G kR 740 M2 H := hM
  refine lv_aload_n hx hb dX6_days_11 rfl (lv_at hl 0 rfl) ?_
  refine lv_aload_n hx hb dX6_days_12 rfl (lv_at hl 0 rfl) ?_
  refine gX6_10 C hM (kl (rfl : kT 0 = (5, 0))) (rfl : kT 0 = (5, 0)) (rfl : kR 0 0 = some 1) dX6_days_13 ?_
  refine lv_iload_n hx hb dX6_days_16 rfl (lv_at hl 1 rfl) ?_
  obtain ⟨r4, M5, e3, heq⟩ := bn2_of heq
  refine mm_ki hS (mm_runV (rest := [.ref (mm_lo G + 0)]) C hM hS (tX5_passDays l G M2 1 (rfl : kT 1 = (4, 0)) x1 r4 M5 e3) (uX6_79 _ (Nat.le_of_ble_eq_true rfl) (Nat.le_of_ble_eq_true rfl)) (mm_recv C hM (kl (rfl : kT 1 = (4, 0))) (ci := 4) rfl (mm_e4 (rfl : kT 1 = (4, 0)))) hl.1 rfl rfl (Nat.le_of_ble_eq_true rfl) ⟨Nat.zero_le _, Nat.zero_le _⟩ dX6_days_17) (fun H locs hM hS => ?_)
  have hM : mm_P G kR 740 M5 H := hM
  obtain ⟨r7, M8, e6, heq⟩ := bn2_of heq
  refine mm_ki hS (mm_runV (rest := []) C hM hS (tX6_recorded l G M5 r4 r7 M8 e6) (uX6_47 _ (Nat.le_of_ble_eq_true rfl) (Nat.le_of_ble_eq_true rfl)) (mm_recv C hM (kl (rfl : kT 0 = (5, 0))) (ci := 5) rfl (mm_e5 (rfl : kT 0 = (5, 0)))) hl.1 rfl rfl (Nat.le_of_ble_eq_true rfl) ⟨Nat.zero_le _, Nat.zero_le _⟩ dX6_days_20) (fun H locs hM hS => ?_)
  have hM : mm_P G kR 740 M8 H := hM
  cases heq
  exact mm_iret C hM hS dX6_days_23

set_option maxRecDepth 100000 in
set_option maxHeartbeats 4000000 in
theorem tX6_aboutCart_63 (C : mm_C G p s m args meth c RX6 cX6_aboutCart 3 (some .int)) (a1 : Nat) (h1 : kT a1 = (0, 0)) (x2 : Int32) (M : mm_M) {r : Int32} : ∀ (H : Heap) (locs : List Loc) (ls : Array Slot), mm_P G kR 740 M H → va_S (mm_A G) s.heap H locs → lv_has ls 3 [(1, .ref (mm_lo G + a1)), (2, .int x2)] → fX6_aboutCart_63 a1 x2 M = some r → W p l e rmX6_aboutCart s m args below meth c H locs 0 0 (MQ below (mm_Qi G r (kR, 740, M)) args s 0 0 (mm_A G)) (F0 m 63 ls []) := by
  obtain ⟨hx, hb, -, -, -, -, -, -, hZ, -⟩ := id C
  intro H locs ls hM hS hl heq
  rw [fX6_aboutCart_63] at heq
  refine lv_aload_n hx hb dX6_aboutCart_63 rfl (lv_at hl 0 rfl) ?_
  refine lv_iload_n hx hb dX6_aboutCart_64 rfl (lv_at hl 1 rfl) ?_
  refine lv_iconst (v := 3) hx hb dX6_aboutCart_65 (by decide) ?_
  refine lv_isub hx hb dX6_aboutCart_66 ?_
  obtain ⟨r2, e1, heq⟩ := bn_of heq
  refine mm_ki hS (mm_runV (rest := []) C hM hS (tX0_wishAt l G M a1 h1 (x2 - 3) r2 e1) (uX6_112 _ (Nat.le_of_ble_eq_true rfl) (Nat.le_of_ble_eq_true rfl)) (mm_recv C hM (kl h1) (ci := 0) rfl (mm_e0 h1)) hl.1 rfl rfl (Nat.le_of_ble_eq_true rfl) ⟨Nat.zero_le _, Nat.zero_le _⟩ dX6_aboutCart_67) (fun H locs hM hS => ?_)
  have hM : mm_P G kR 740 M H := hM
  cases heq
  exact mm_iret C hM hS dX6_aboutCart_70

set_option maxRecDepth 100000 in
set_option maxHeartbeats 4000000 in
theorem tX6_aboutCart (l : Launch) (G : mm_G) (M : mm_M) (a1 : Nat) (h1 : kT a1 = (0, 0)) (x2 : Int32) (r : Int32) (heq : fX6_aboutCart M a1 x2 = some r) : Met l yX6_aboutCart (mm_ws yX6_aboutCart cX6_aboutCart 3 (some .int)) rmX6_aboutCart (va_Pc [.ref (mm_lo G + 0), .ref (mm_lo G + a1), .int x2] (mm_B G (kR, 740, M))) (mm_Qi G r (kR, 740, M)) 0 0 (mm_A G) := by
  refine mm_met (cc := cX6_aboutCart) (nL := 3) (ret := (some .int)) plRX6 (Nat.le_of_ble_eq_true rfl) ?_
  intro p e s m below meth c ls hin C hM hS hl
  have C : mm_C G p s m _ meth c RX6 cX6_aboutCart 3 (some .int) := C
  have hM : mm_P G kR 740 M s.heap := hM
  have hl : lv_has ls 3 [(0, .ref (mm_lo G + 0)), (1, .ref (mm_lo G + a1)), (2, .int x2)] := hl
  obtain ⟨hx, hb, -, -, -, -, -, -, hZ, -⟩ := id C
  rw [fX6_aboutCart] at heq
  refine lv_iload_n hx hb dX6_aboutCart_0 rfl (lv_at hl 2 rfl) ?_
  by_cases c1 : x2 = 0
  · have heq := if_t c1 heq
    refine lv_tableIn (tgt := 48) hx hb dX6_aboutCart_1 (by rw [c1]; decide) (by rw [c1]; decide) (by rw [c1]; rfl) (by decide) ?_
    refine lv_aload_n hx hb dX6_aboutCart_48 rfl (lv_at hl 1 rfl) ?_
    refine gX6_100 C hM (kl h1) h1 dX6_aboutCart_49 ?_
    cases heq
    exact mm_iret C hM hS dX6_aboutCart_52
  · have heq := if_f c1 heq
    by_cases c2 : x2 = 1
    · have heq := if_t c2 heq
      refine lv_tableIn (tgt := 53) hx hb dX6_aboutCart_1 (by rw [c2]; decide) (by rw [c2]; decide) (by rw [c2]; rfl) (by decide) ?_
      refine lv_aload_n hx hb dX6_aboutCart_53 rfl (lv_at hl 1 rfl) ?_
      refine gX6_106 C hM (kl h1) h1 dX6_aboutCart_54 ?_
      cases heq
      exact mm_iret C hM hS dX6_aboutCart_57
    · have heq := if_f c2 heq
      by_cases c3 : x2 = 2
      · have heq := if_t c3 heq
        refine lv_tableIn (tgt := 58) hx hb dX6_aboutCart_1 (by rw [c3]; decide) (by rw [c3]; decide) (by rw [c3]; rfl) (by decide) ?_
        refine lv_aload_n hx hb dX6_aboutCart_58 rfl (lv_at hl 1 rfl) ?_
        refine gX6_109 C hM (kl h1) h1 dX6_aboutCart_59 ?_
        cases heq
        exact mm_iret C hM hS dX6_aboutCart_62
      · have heq := if_f c3 heq
        by_cases c4 : x2 = 3
        · have heq := if_t c4 heq
          refine lv_tableIn (tgt := 63) hx hb dX6_aboutCart_1 (by rw [c4]; decide) (by rw [c4]; decide) (by rw [c4]; rfl) (by decide) ?_
          exact tX6_aboutCart_63 C a1 h1 x2 M _ _ _ hM hS (lv_sub hl [1, 2] rfl) heq
        · have heq := if_f c4 heq
          by_cases c5 : x2 = 4
          · have heq := if_t c5 heq
            refine lv_tableIn (tgt := 63) hx hb dX6_aboutCart_1 (by rw [c5]; decide) (by rw [c5]; decide) (by rw [c5]; rfl) (by decide) ?_
            exact tX6_aboutCart_63 C a1 h1 x2 M _ _ _ hM hS (lv_sub hl [1, 2] rfl) heq
          · have heq := if_f c5 heq
            by_cases c6 : x2 = 5
            · have heq := if_t c6 heq
              refine lv_tableIn (tgt := 63) hx hb dX6_aboutCart_1 (by rw [c6]; decide) (by rw [c6]; decide) (by rw [c6]; rfl) (by decide) ?_
              exact tX6_aboutCart_63 C a1 h1 x2 M _ _ _ hM hS (lv_sub hl [1, 2] rfl) heq
            · have heq := if_f c6 heq
              by_cases c7 : x2 = 6
              · have heq := if_t c7 heq
                refine lv_tableIn (tgt := 71) hx hb dX6_aboutCart_1 (by rw [c7]; decide) (by rw [c7]; decide) (by rw [c7]; rfl) (by decide) ?_
                refine lv_aload_n hx hb dX6_aboutCart_71 rfl (lv_at hl 1 rfl) ?_
                refine gX6_115 C hM (kl h1) h1 dX6_aboutCart_72 ?_
                cases heq
                exact mm_iret C hM hS dX6_aboutCart_75
              · have heq := if_f c7 heq
                by_cases c8 : x2 = 7
                · have heq := if_t c8 heq
                  refine lv_tableIn (tgt := 76) hx hb dX6_aboutCart_1 (by rw [c8]; decide) (by rw [c8]; decide) (by rw [c8]; rfl) (by decide) ?_
                  refine lv_aload_n hx hb dX6_aboutCart_76 rfl (lv_at hl 1 rfl) ?_
                  refine gX6_118 C hM (kl h1) h1 dX6_aboutCart_77 ?_
                  cases heq
                  exact mm_iret C hM hS dX6_aboutCart_80
                · have heq := if_f c8 heq
                  refine lv_tableOut (tgt := 81) hx hb dX6_aboutCart_1 (by have nc1 := lv_neT (k := 0) (a := 0) c1 rfl; have nc2 := lv_neT (k := 1) (a := 1) c2 rfl; have nc3 := lv_neT (k := 2) (a := 2) c3 rfl; have nc4 := lv_neT (k := 3) (a := 3) c4 rfl; have nc5 := lv_neT (k := 4) (a := 4) c5 rfl; have nc6 := lv_neT (k := 5) (a := 5) c6 rfl; have nc7 := lv_neT (k := 6) (a := 6) c7 rfl; have nc8 := lv_neT (k := 7) (a := 7) c8 rfl; omega) (by decide) ?_
                  refine lv_aload_n hx hb dX6_aboutCart_81 rfl (lv_at hl 1 rfl) ?_
                  refine gX6_121 C hM (kl h1) h1 dX6_aboutCart_82 ?_
                  refine lv_if_eq (tgt := 92) hx hb dX6_aboutCart_85 (by decide) (fun c9 => ?_) (fun c9 => ?_)
                  · have heq := if_t c9 heq
                    refine lv_iconst (v := 0) hx hb dX6_aboutCart_92 (by decide) ?_
                    cases heq
                    exact mm_iret C hM hS dX6_aboutCart_93
                  · have heq := if_f c9 heq
                    refine lv_iconst (v := 1) hx hb dX6_aboutCart_88 (by decide) ?_
                    refine lv_goto (tgt := 93) hx hb dX6_aboutCart_89 (by decide) ?_
                    cases heq
                    exact mm_iret C hM hS dX6_aboutCart_93
end WALK
