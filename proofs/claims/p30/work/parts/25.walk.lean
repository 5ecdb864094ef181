section WALK
variable {p : Program} {l : Launch} {e : Env} {s : State} {m : MethodId} {args : Array Value} {below : List Frame} {meth : Method} {c : Code} {G : mm_G}
set_option maxRecDepth 100000 in
set_option maxHeartbeats 4000000 in
theorem tX6_aboutPastOfCart (l : Launch) (G : mm_G) (M : mm_M) (a1 : Nat) (h1 : kT a1 = (0, 0)) (x2 : Int32) (r : Int32) (heq : fX6_aboutPastOfCart M a1 x2 = some r) : Met l yX6_aboutPastOfCart (mm_ws yX6_aboutPastOfCart cX6_aboutPastOfCart 3 (some .int)) rmX6_aboutPastOfCart (va_Pc [.ref (mm_lo G + 0), .ref (mm_lo G + a1), .int x2] (mm_B G (kR, 740, M))) (mm_Qi G r (kR, 740, M)) 0 0 (mm_A G) := by
  refine mm_met (cc := cX6_aboutPastOfCart) (nL := 3) (ret := (some .int)) plRX6 (Nat.le_of_ble_eq_true rfl) ?_
  intro p e s m below meth c ls hin C hM hS hl
  have C : mm_C G p s m _ meth c RX6 cX6_aboutPastOfCart 3 (some .int) := C
  have hM : mm_P G kR 740 M s.heap := hM
  have hl : lv_has ls 3 [(0, .ref (mm_lo G + 0)), (1, .ref (mm_lo G + a1)), (2, .int x2)] := hl
  obtain ⟨hx, hb, -, -, -, -, -, -, hZ, -⟩ := id C
  rw [fX6_aboutPastOfCart] at heq
  refine lv_iload_n hx hb dX6_aboutPastOfCart_0 rfl (lv_at hl 2 rfl) ?_
  by_cases c1 : x2 = 9
  · have heq := if_t c1 heq
    refine lv_tableIn (tgt := 40) hx hb dX6_aboutPastOfCart_1 (by rw [c1]; decide) (by rw [c1]; decide) (by rw [c1]; rfl) (by decide) ?_
    refine lv_aload_n hx hb dX6_aboutPastOfCart_40 rfl (lv_at hl 1 rfl) ?_
    refine lv_aload_n hx hb dX6_aboutPastOfCart_41 rfl (lv_at hl 0 rfl) ?_
    refine gX6_10 C hM (kl (rfl : kT 0 = (5, 0))) (rfl : kT 0 = (5, 0)) (rfl : kR 0 0 = some 1) dX6_aboutPastOfCart_42 ?_
    refine gX6_125 C hM (kl (rfl : kT 1 = (4, 0))) (rfl : kT 1 = (4, 0)) dX6_aboutPastOfCart_45 ?_
    refine lv_aload_n hx hb dX6_aboutPastOfCart_48 rfl (lv_at hl 0 rfl) ?_
    refine gX6_10 C hM (kl (rfl : kT 0 = (5, 0))) (rfl : kT 0 = (5, 0)) (rfl : kR 0 0 = some 1) dX6_aboutPastOfCart_49 ?_
    refine gX6_125 C hM (kl (rfl : kT 1 = (4, 0))) (rfl : kT 1 = (4, 0)) dX6_aboutPastOfCart_52 ?_
    refine lv_aload_n hx hb dX6_aboutPastOfCart_55 rfl (lv_at hl 0 rfl) ?_
    refine gX6_10 C hM (kl (rfl : kT 0 = (5, 0))) (rfl : kT 0 = (5, 0)) (rfl : kR 0 0 = some 1) dX6_aboutPastOfCart_56 ?_
    refine gX6_128 C hM (kl (rfl : kT 1 = (4, 0))) (rfl : kT 1 = (4, 0)) (rS_7 (rfl : kT 1 = (4, 0))) dX6_aboutPastOfCart_59 ?_
    refine lv_iconst (v := 5) hx hb dX6_aboutPastOfCart_62 (by decide) ?_
    refine mm_ildk C hM (kl (kS_7 (rfl : kT 1 = (4, 0)))) (kS_7 (rfl : kT 1 = (4, 0))) (vp_in_of2 (by decide)) (by decide : (5 : Int32).toNatClampNeg = 5) dX6_aboutPastOfCart_63 ?_
    obtain ⟨r3, e2, heq⟩ := bn_of heq
    refine mm_ki hS (mm_runV (rest := []) C hM hS (tX0_pointsLeft l G M a1 h1 (M.1 1 0) (M.1 1 0) (M.1 (1 + 1) 5) r3 e2) (uX6_132 _ (Nat.le_of_ble_eq_true rfl) (Nat.le_of_ble_eq_true rfl)) (mm_recv C hM (kl h1) (ci := 0) rfl (mm_e0 h1)) hl.1 rfl rfl (Nat.le_of_ble_eq_true rfl) ⟨Nat.zero_le _, Nat.zero_le _⟩ dX6_aboutPastOfCart_64) (fun H locs hM hS => ?_)
    have hM : mm_P G kR 740 M H := hM
    cases heq
    exact mm_iret C hM hS dX6_aboutPastOfCart_67
  · have heq := if_f c1 heq
    by_cases c4 : x2 = 10
    · have heq := if_t c4 heq
      refine lv_tableIn (tgt := 68) hx hb dX6_aboutPastOfCart_1 (by rw [c4]; decide) (by rw [c4]; decide) (by rw [c4]; rfl) (by decide) ?_
      refine lv_aload_n hx hb dX6_aboutPastOfCart_68 rfl (lv_at hl 1 rfl) ?_
      refine gX6_136 C hM (kl h1) h1 dX6_aboutPastOfCart_69 ?_
      cases heq
      exact mm_iret C hM hS dX6_aboutPastOfCart_72
    · have heq := if_f c4 heq
      by_cases c5 : x2 = 11
      · have heq := if_t c5 heq
        refine lv_tableIn (tgt := 73) hx hb dX6_aboutPastOfCart_1 (by rw [c5]; decide) (by rw [c5]; decide) (by rw [c5]; rfl) (by decide) ?_
        refine lv_aload_n hx hb dX6_aboutPastOfCart_73 rfl (lv_at hl 1 rfl) ?_
        refine gX6_139 C hM (kl h1) h1 dX6_aboutPastOfCart_74 ?_
        cases heq
        exact mm_iret C hM hS dX6_aboutPastOfCart_77
      · have heq := if_f c5 heq
        by_cases c6 : x2 = 12
        · have heq := if_t c6 heq
          refine lv_tableIn (tgt := 78) hx hb dX6_aboutPastOfCart_1 (by rw [c6]; decide) (by rw [c6]; decide) (by rw [c6]; rfl) (by decide) ?_
          refine lv_aload_n hx hb dX6_aboutPastOfCart_78 rfl (lv_at hl 1 rfl) ?_
          refine gX6_142 C hM (kl h1) h1 dX6_aboutPastOfCart_79 ?_
          cases heq
          exact mm_iret C hM hS dX6_aboutPastOfCart_82
        · have heq := if_f c6 heq
          by_cases c7 : x2 = 13
          · have heq := if_t c7 heq
            refine lv_tableIn (tgt := 83) hx hb dX6_aboutPastOfCart_1 (by rw [c7]; decide) (by rw [c7]; decide) (by rw [c7]; rfl) (by decide) ?_
            refine lv_aload_n hx hb dX6_aboutPastOfCart_83 rfl (lv_at hl 1 rfl) ?_
            refine gX6_145 C hM (kl h1) h1 dX6_aboutPastOfCart_84 ?_
            cases heq
            exact mm_iret C hM hS dX6_aboutPastOfCart_87
          · have heq := if_f c7 heq
            by_cases c8 : x2 = 14
            · have heq := if_t c8 heq
              refine lv_tableIn (tgt := 88) hx hb dX6_aboutPastOfCart_1 (by rw [c8]; decide) (by rw [c8]; decide) (by rw [c8]; rfl) (by decide) ?_
              refine lv_aload_n hx hb dX6_aboutPastOfCart_88 rfl (lv_at hl 1 rfl) ?_
              refine gX6_148 C hM (kl h1) h1 dX6_aboutPastOfCart_89 ?_
              cases heq
              exact mm_iret C hM hS dX6_aboutPastOfCart_92
            · have heq := if_f c8 heq
              refine lv_tableOut (tgt := 93) hx hb dX6_aboutPastOfCart_1 (by have nc1 := lv_neT (k := 9) (a := 9) c1 rfl; have nc4 := lv_neT (k := 10) (a := 10) c4 rfl; have nc5 := lv_neT (k := 11) (a := 11) c5 rfl; have nc6 := lv_neT (k := 12) (a := 12) c6 rfl; have nc7 := lv_neT (k := 13) (a := 13) c7 rfl; have nc8 := lv_neT (k := 14) (a := 14) c8 rfl; omega) (by decide) ?_
              refine lv_aload_n hx hb dX6_aboutPastOfCart_93 rfl (lv_at hl 1 rfl) ?_
              refine gX6_151 C hM (kl h1) h1 dX6_aboutPastOfCart_94 ?_
              cases heq
              exact mm_iret C hM hS dX6_aboutPastOfCart_97

set_option maxRecDepth 100000 in
set_option maxHeartbeats 4000000 in
theorem tX6_ofCart (l : Launch) (G : mm_G) (M : mm_M) (x1 : Int32) (x2 : Int32) (r : Int32) (heq : fX6_ofCart M x1 x2 = some r) : Met l yX6_ofCart (mm_ws yX6_ofCart cX6_ofCart 4 (some .int)) rmX6_ofCart (va_Pc [.ref (mm_lo G + 0), .int x1, .int x2] (mm_B G (kR, 740, M))) (mm_Qi G r (kR, 740, M)) 0 0 (mm_A G) := by
  refine mm_met (cc := cX6_ofCart) (nL := 4) (ret := (some .int)) plRX6 (Nat.le_of_ble_eq_true rfl) ?_
  intro p e s m below meth c ls hin C hM hS hl
  have C : mm_C G p s m _ meth c RX6 cX6_ofCart 4 (some .int) := C
  have hM : mm_P G kR 740 M s.heap := hM
  have hl : lv_has ls 4 [(0, .ref (mm_lo G + 0)), (1, .int x1), (2, .int x2)] := hl
  obtain ⟨hx, hb, -, -, -, -, -, -, hZ, -⟩ := id C
  rw [fX6_ofCart] at heq
  refine lv_aload_n hx hb dX6_ofCart_0 rfl (lv_at hl 0 rfl) ?_
  refine gX6_10 C hM (kl (rfl : kT 0 = (5, 0))) (rfl : kT 0 = (5, 0)) (rfl : kR 0 0 = some 1) dX6_ofCart_1 ?_
  refine lv_iload_n hx hb dX6_ofCart_4 rfl (lv_at hl 1 rfl) ?_
  obtain ⟨r2, e1, heq⟩ := bn_of heq
  refine mm_ki hS (mm_runV (rest := []) C hM hS (tX5_hasCart l G M 1 (rfl : kT 1 = (4, 0)) x1 r2 e1) (uX6_85 _ (Nat.le_of_ble_eq_true rfl) (Nat.le_of_ble_eq_true rfl)) (mm_recv C hM (kl (rfl : kT 1 = (4, 0))) (ci := 4) rfl (mm_e4 (rfl : kT 1 = (4, 0)))) hl.1 rfl rfl (Nat.le_of_ble_eq_true rfl) ⟨Nat.zero_le _, Nat.zero_le _⟩ dX6_ofCart_5) (fun H locs hM hS => ?_)
  have hM : mm_P G kR 740 M H := hM
  refine mm_ifneZ (tgt := 13) C dX6_ofCart_8 (by decide) (fun c3 => ?_) (fun c3 => ?_)
  · have heq := if_t c3 heq
    refine lv_iload_n hx hb dX6_ofCart_13 rfl (lv_at hl 2 rfl) ?_
    refine lv_if_lt (tgt := 23) hx hb dX6_ofCart_14 (by decide) (fun c4 => ?_) (fun c4 => ?_)
    · have heq := if_t c4 heq
      refine lv_bipush (v := (-2)) hx hb dX6_ofCart_23 (by decide) ?_
      cases heq
      exact mm_iret C hM hS dX6_ofCart_25
    · have heq := if_f c4 heq
      refine lv_iload_n hx hb dX6_ofCart_17 rfl (lv_at hl 2 rfl) ?_
      refine lv_bipush (v := 15) hx hb dX6_ofCart_18 (by decide) ?_
      refine lv_icmp_le (tgt := 26) hx hb dX6_ofCart_20 (by decide) (fun c5 => ?_) (fun c5 => ?_)
      · have heq := if_t c5 heq
        refine lv_aload_n hx hb dX6_ofCart_26 rfl (lv_at hl 0 rfl) ?_
        refine gX6_10 C hM (kl (rfl : kT 0 = (5, 0))) (rfl : kT 0 = (5, 0)) (rfl : kR 0 0 = some 1) dX6_ofCart_27 ?_
        refine gX6_89 C hM (kl (rfl : kT 1 = (4, 0))) (rfl : kT 1 = (4, 0)) (rS_9 (rfl : kT 1 = (4, 0))) dX6_ofCart_30 ?_
        refine lv_iload_n hx hb dX6_ofCart_33 rfl (lv_at hl 1 rfl) ?_
        obtain ⟨g6, heq⟩ := gd_of heq
        refine mm_ald C hM (kl (kS_9 (rfl : kT 1 = (4, 0)))) (Or.inl rfl) (kS_9 (rfl : kT 1 = (4, 0))) (vp_in_of2 g6) (rS_cart (rfl : kT 1 = (4, 0)) (vp_lt g6)) dX6_ofCart_34 ?_
        refine lv_astore_n (lv' := [(3, .ref (mm_lo G + (1 + 18 + 3 * x1.toNatClampNeg))), (0, .ref (mm_lo G + 0)), (1, .int x1), (2, .int x2)]) hx hb dX6_ofCart_35 rfl hl (by decide) rfl (fun ls hl => ?_)
        refine lv_iload_n hx hb dX6_ofCart_36 rfl (lv_at hl 3 rfl) ?_
        refine lv_bipush (v := 9) hx hb dX6_ofCart_37 (by decide) ?_
        refine lv_icmp_ge (tgt := 51) hx hb dX6_ofCart_39 (by decide) (fun c7 => ?_) (fun c7 => ?_)
        · have heq := if_t c7 heq
          refine lv_aload_n hx hb dX6_ofCart_51 rfl (lv_at hl 1 rfl) ?_
          refine lv_aload_n hx hb dX6_ofCart_52 rfl (lv_at hl 0 rfl) ?_
          refine lv_iload_n hx hb dX6_ofCart_53 rfl (lv_at hl 3 rfl) ?_
          obtain ⟨r9, e8, heq⟩ := bn_of heq
          refine mm_ki hS (mm_runV (rest := []) C hM hS (tX6_aboutPastOfCart l G M (1 + 18 + 3 * x1.toNatClampNeg) (kS_cart (rfl : kT 1 = (4, 0)) (vp_lt g6)) x2 r9 e8) (uX6_97 _ (Nat.le_of_ble_eq_true rfl) (Nat.le_of_ble_eq_true rfl)) (mm_recv C hM (kl (rfl : kT 0 = (5, 0))) (ci := 5) rfl (mm_e5 (rfl : kT 0 = (5, 0)))) hl.1 rfl rfl (Nat.le_of_ble_eq_true rfl) ⟨Nat.zero_le _, Nat.zero_le _⟩ dX6_ofCart_54) (fun H locs hM hS => ?_)
          have hM : mm_P G kR 740 M H := hM
          cases heq
          exact mm_iret C hM hS dX6_ofCart_57
        · have heq := if_f c7 heq
          refine lv_aload_n hx hb dX6_ofCart_42 rfl (lv_at hl 1 rfl) ?_
          refine lv_aload_n hx hb dX6_ofCart_43 rfl (lv_at hl 0 rfl) ?_
          refine lv_iload_n hx hb dX6_ofCart_44 rfl (lv_at hl 3 rfl) ?_
          obtain ⟨r11, e10, heq⟩ := bn_of heq
          refine mm_ki hS (mm_runV (rest := []) C hM hS (tX6_aboutCart l G M (1 + 18 + 3 * x1.toNatClampNeg) (kS_cart (rfl : kT 1 = (4, 0)) (vp_lt g6)) x2 r11 e10) (uX6_93 _ (Nat.le_of_ble_eq_true rfl) (Nat.le_of_ble_eq_true rfl)) (mm_recv C hM (kl (rfl : kT 0 = (5, 0))) (ci := 5) rfl (mm_e5 (rfl : kT 0 = (5, 0)))) hl.1 rfl rfl (Nat.le_of_ble_eq_true rfl) ⟨Nat.zero_le _, Nat.zero_le _⟩ dX6_ofCart_45) (fun H locs hM hS => ?_)
          have hM : mm_P G kR 740 M H := hM
          refine lv_goto (tgt := 57) hx hb dX6_ofCart_48 (by decide) ?_
          cases heq
          exact mm_iret C hM hS dX6_ofCart_57
      · have heq := if_f c5 heq
        refine lv_bipush (v := (-2)) hx hb dX6_ofCart_23 (by decide) ?_
        cases heq
        exact mm_iret C hM hS dX6_ofCart_25
  · have heq := if_f c3 heq
    refine lv_iconst (v := (-1)) hx hb dX6_ofCart_11 (by decide) ?_
    cases heq
    exact mm_iret C hM hS dX6_ofCart_12

set_option maxRecDepth 100000 in
set_option maxHeartbeats 4000000 in
theorem tX6_money (l : Launch) (G : mm_G) (M : mm_M) (x1 : Int32) (x2 : Int32) (r : Int64) (heq : fX6_money M x1 x2 = some r) : Met l yX6_money (mm_ws yX6_money cX6_money 4 (some .long)) rmX6_money (va_Pc [.ref (mm_lo G + 0), .int x1, .int x2] (mm_B G (kR, 740, M))) (mm_Ql G r (kR, 740, M)) 0 0 (mm_A G) := by
  refine mm_met (cc := cX6_money) (nL := 4) (ret := (some .long)) plRX6 (Nat.le_of_ble_eq_true rfl) ?_
  intro p e s m below meth c ls hin C hM hS hl
  have C : mm_C G p s m _ meth c RX6 cX6_money 4 (some .long) := C
  have hM : mm_P G kR 740 M s.heap := hM
  have hl : lv_has ls 4 [(0, .ref (mm_lo G + 0)), (1, .int x1), (2, .int x2)] := hl
  obtain ⟨hx, hb, -, -, -, -, -, -, hZ, -⟩ := id C
  rw [fX6_money] at heq
  refine lv_aload_n hx hb dX6_money_0 rfl (lv_at hl 0 rfl) ?_
  refine gX6_10 C hM (kl (rfl : kT 0 = (5, 0))) (rfl : kT 0 = (5, 0)) (rfl : kR 0 0 = some 1) dX6_money_1 ?_
  refine lv_iload_n hx hb dX6_money_4 rfl (lv_at hl 1 rfl) ?_
  obtain ⟨r2, e1, heq⟩ := bn_of heq
  refine mm_ki hS (mm_runV (rest := []) C hM hS (tX5_hasCart l G M 1 (rfl : kT 1 = (4, 0)) x1 r2 e1) (uX6_85 _ (Nat.le_of_ble_eq_true rfl) (Nat.le_of_ble_eq_true rfl)) (mm_recv C hM (kl (rfl : kT 1 = (4, 0))) (ci := 4) rfl (mm_e4 (rfl : kT 1 = (4, 0)))) hl.1 rfl rfl (Nat.le_of_ble_eq_true rfl) ⟨Nat.zero_le _, Nat.zero_le _⟩ dX6_money_5) (fun H locs hM hS => ?_)
  have hM : mm_P G kR 740 M H := hM
  refine mm_ifneZ (tgt := 15) C dX6_money_8 (by decide) (fun c3 => ?_) (fun c3 => ?_)
  · have heq := if_t c3 heq
    refine lv_aload_n hx hb dX6_money_15 rfl (lv_at hl 0 rfl) ?_
    refine gX6_10 C hM (kl (rfl : kT 0 = (5, 0))) (rfl : kT 0 = (5, 0)) (rfl : kR 0 0 = some 1) dX6_money_16 ?_
    refine gX6_89 C hM (kl (rfl : kT 1 = (4, 0))) (rfl : kT 1 = (4, 0)) (rS_9 (rfl : kT 1 = (4, 0))) dX6_money_19 ?_
    refine lv_iload_n hx hb dX6_money_22 rfl (lv_at hl 1 rfl) ?_
    obtain ⟨g4, heq⟩ := gd_of heq
    refine mm_ald C hM (kl (kS_9 (rfl : kT 1 = (4, 0)))) (Or.inl rfl) (kS_9 (rfl : kT 1 = (4, 0))) (vp_in_of2 g4) (rS_cart (rfl : kT 1 = (4, 0)) (vp_lt g4)) dX6_money_23 ?_
    refine lv_astore_n (lv' := [(3, .ref (mm_lo G + (1 + 18 + 3 * x1.toNatClampNeg))), (0, .ref (mm_lo G + 0)), (1, .int x1), (2, .int x2)]) hx hb dX6_money_24 rfl hl (by decide) rfl (fun ls hl => ?_)
    refine lv_iload_n hx hb dX6_money_25 rfl (lv_at hl 3 rfl) ?_
    by_cases c5 : x2 = 0
    · have heq := if_t c5 heq
      refine lv_tableIn (tgt := 60) hx hb dX6_money_26 (by rw [c5]; decide) (by rw [c5]; decide) (by rw [c5]; rfl) (by decide) ?_
      refine lv_aload_n hx hb dX6_money_60 rfl (lv_at hl 0 rfl) ?_
      obtain ⟨r7, e6, heq⟩ := bn_of heq
      refine mm_kl hS (mm_runV (rest := []) C hM hS (tX0_balance l G M (1 + 18 + 3 * x1.toNatClampNeg) (kS_cart (rfl : kT 1 = (4, 0)) (vp_lt g4)) r7 e6) (uX6_156 _ (Nat.le_of_ble_eq_true rfl) (Nat.le_of_ble_eq_true rfl)) (mm_recv C hM (kl (kS_cart (rfl : kT 1 = (4, 0)) (vp_lt g4))) (ci := 0) rfl (mm_e0 (kS_cart (rfl : kT 1 = (4, 0)) (vp_lt g4)))) hl.1 rfl rfl (Nat.le_of_ble_eq_true rfl) ⟨Nat.zero_le _, Nat.zero_le _⟩ dX6_money_61) (fun H locs hM hS => ?_)
      have hM : mm_P G kR 740 M H := hM
      cases heq
      exact mm_lret C hM hS dX6_money_64
    · have heq := if_f c5 heq
      by_cases c8 : x2 = 1
      · have heq := if_t c8 heq
        refine lv_tableIn (tgt := 65) hx hb dX6_money_26 (by rw [c8]; decide) (by rw [c8]; decide) (by rw [c8]; rfl) (by decide) ?_
        refine lv_aload_n hx hb dX6_money_65 rfl (lv_at hl 0 rfl) ?_
        refine gX6_160 C hM (kl (kS_cart (rfl : kT 1 = (4, 0)) (vp_lt g4))) (kS_cart (rfl : kT 1 = (4, 0)) (vp_lt g4)) dX6_money_66 ?_
        cases heq
        exact mm_lret C hM hS dX6_money_69
      · have heq := if_f c8 heq
        by_cases c9 : x2 = 2
        · have heq := if_t c9 heq
          refine lv_tableIn (tgt := 70) hx hb dX6_money_26 (by rw [c9]; decide) (by rw [c9]; decide) (by rw [c9]; rfl) (by decide) ?_
          refine lv_aload_n hx hb dX6_money_70 rfl (lv_at hl 0 rfl) ?_
          refine gX6_164 C hM (kl (kS_cart (rfl : kT 1 = (4, 0)) (vp_lt g4))) (kS_cart (rfl : kT 1 = (4, 0)) (vp_lt g4)) dX6_money_71 ?_
          cases heq
          exact mm_lret C hM hS dX6_money_74
        · have heq := if_f c9 heq
          by_cases c10 : x2 = 3
          · have heq := if_t c10 heq
            refine lv_tableIn (tgt := 75) hx hb dX6_money_26 (by rw [c10]; decide) (by rw [c10]; decide) (by rw [c10]; rfl) (by decide) ?_
            refine lv_aload_n hx hb dX6_money_75 rfl (lv_at hl 0 rfl) ?_
            refine gX6_167 C hM (kl (kS_cart (rfl : kT 1 = (4, 0)) (vp_lt g4))) (kS_cart (rfl : kT 1 = (4, 0)) (vp_lt g4)) dX6_money_76 ?_
            cases heq
            exact mm_lret C hM hS dX6_money_79
          · have heq := if_f c10 heq
            by_cases c11 : x2 = 4
            · have heq := if_t c11 heq
              refine lv_tableIn (tgt := 80) hx hb dX6_money_26 (by rw [c11]; decide) (by rw [c11]; decide) (by rw [c11]; rfl) (by decide) ?_
              refine lv_aload_n hx hb dX6_money_80 rfl (lv_at hl 0 rfl) ?_
              refine gX6_170 C hM (kl (kS_cart (rfl : kT 1 = (4, 0)) (vp_lt g4))) (kS_cart (rfl : kT 1 = (4, 0)) (vp_lt g4)) dX6_money_81 ?_
              cases heq
              exact mm_lret C hM hS dX6_money_84
            · have heq := if_f c11 heq
              refine lv_tableOut (tgt := 85) hx hb dX6_money_26 (by have nc5 := lv_neT (k := 0) (a := 0) c5 rfl; have nc8 := lv_neT (k := 1) (a := 1) c8 rfl; have nc9 := lv_neT (k := 2) (a := 2) c9 rfl; have nc10 := lv_neT (k := 3) (a := 3) c10 rfl; have nc11 := lv_neT (k := 4) (a := 4) c11 rfl; omega) (by decide) ?_
              refine mm_ldc2 C kX6_173 dX6_money_85 ?_
              cases heq
              exact mm_lret C hM hS dX6_money_88
  · have heq := if_f c3 heq
    refine mm_ldc2 C kX6_154 dX6_money_11 ?_
    cases heq
    exact mm_lret C hM hS dX6_money_14

set_option maxRecDepth 100000 in
set_option maxHeartbeats 4000000 in
theorem tX6_ofPitch (l : Launch) (G : mm_G) (M : mm_M) (x1 : Int32) (x2 : Int32) (r : Int32) (heq : fX6_ofPitch M x1 x2 = some r) : Met l yX6_ofPitch (mm_ws yX6_ofPitch cX6_ofPitch 4 (some .int)) rmX6_ofPitch (va_Pc [.ref (mm_lo G + 0), .int x1, .int x2] (mm_B G (kR, 740, M))) (mm_Qi G r (kR, 740, M)) 0 0 (mm_A G) := by
  refine mm_met (cc := cX6_ofPitch) (nL := 4) (ret := (some .int)) plRX6 (Nat.le_of_ble_eq_true rfl) ?_
  intro p e s m below meth c ls hin C hM hS hl
  have C : mm_C G p s m _ meth c RX6 cX6_ofPitch 4 (some .int) := C
  have hM : mm_P G kR 740 M s.heap := hM
  have hl : lv_has ls 4 [(0, .ref (mm_lo G + 0)), (1, .int x1), (2, .int x2)] := hl
  obtain ⟨hx, hb, -, -, -, -, -, -, hZ, -⟩ := id C
  rw [fX6_ofPitch] at heq
  refine lv_aload_n hx hb dX6_ofPitch_0 rfl (lv_at hl 0 rfl) ?_
  refine gX6_10 C hM (kl (rfl : kT 0 = (5, 0))) (rfl : kT 0 = (5, 0)) (rfl : kR 0 0 = some 1) dX6_ofPitch_1 ?_
  refine lv_iload_n hx hb dX6_ofPitch_4 rfl (lv_at hl 1 rfl) ?_
  obtain ⟨r2, e1, heq⟩ := bn_of heq
  refine mm_ki hS (mm_runV (rest := []) C hM hS (tX5_hasPitch l G M 1 (rfl : kT 1 = (4, 0)) x1 r2 e1) (uX6_175 _ (Nat.le_of_ble_eq_true rfl) (Nat.le_of_ble_eq_true rfl)) (mm_recv C hM (kl (rfl : kT 1 = (4, 0))) (ci := 4) rfl (mm_e4 (rfl : kT 1 = (4, 0)))) hl.1 rfl rfl (Nat.le_of_ble_eq_true rfl) ⟨Nat.zero_le _, Nat.zero_le _⟩ dX6_ofPitch_5) (fun H locs hM hS => ?_)
  have hM : mm_P G kR 740 M H := hM
  refine mm_ifneZ (tgt := 13) C dX6_ofPitch_8 (by decide) (fun c3 => ?_) (fun c3 => ?_)
  · have heq := if_t c3 heq
    refine lv_aload_n hx hb dX6_ofPitch_13 rfl (lv_at hl 0 rfl) ?_
    refine gX6_10 C hM (kl (rfl : kT 0 = (5, 0))) (rfl : kT 0 = (5, 0)) (rfl : kR 0 0 = some 1) dX6_ofPitch_14 ?_
    refine gX6_178 C hM (kl (rfl : kT 1 = (4, 0))) (rfl : kT 1 = (4, 0)) (rS_8 (rfl : kT 1 = (4, 0))) dX6_ofPitch_17 ?_
    refine lv_iload_n hx hb dX6_ofPitch_20 rfl (lv_at hl 1 rfl) ?_
    obtain ⟨g4, heq⟩ := gd_of heq
    refine mm_ald C hM (kl (kS_8 (rfl : kT 1 = (4, 0)))) (Or.inr (Or.inl rfl)) (kS_8 (rfl : kT 1 = (4, 0))) (vp_in_of2 g4) (rS_pitch (rfl : kT 1 = (4, 0)) (vp_lt g4)) dX6_ofPitch_21 ?_
    refine lv_astore_n (lv' := [(3, .ref (mm_lo G + (1 + 8 + x1.toNatClampNeg))), (0, .ref (mm_lo G + 0)), (1, .int x1), (2, .int x2)]) hx hb dX6_ofPitch_22 rfl hl (by decide) rfl (fun ls hl => ?_)
    refine lv_iload_n hx hb dX6_ofPitch_23 rfl (lv_at hl 3 rfl) ?_
    by_cases c5 : x2 = 0
    · have heq := if_t c5 heq
      refine lv_tableIn (tgt := 56) hx hb dX6_ofPitch_24 (by rw [c5]; decide) (by rw [c5]; decide) (by rw [c5]; rfl) (by decide) ?_
      refine lv_aload_n hx hb dX6_ofPitch_56 rfl (lv_at hl 0 rfl) ?_
      refine gX6_182 C hM (kl (kS_pitch (rfl : kT 1 = (4, 0)) (vp_lt g4))) (kS_pitch (rfl : kT 1 = (4, 0)) (vp_lt g4)) dX6_ofPitch_57 ?_
      cases heq
      exact mm_iret C hM hS dX6_ofPitch_60
    · have heq := if_f c5 heq
      by_cases c6 : x2 = 1
      · have heq := if_t c6 heq
        refine lv_tableIn (tgt := 61) hx hb dX6_ofPitch_24 (by rw [c6]; decide) (by rw [c6]; decide) (by rw [c6]; rfl) (by decide) ?_
        refine lv_aload_n hx hb dX6_ofPitch_61 rfl (lv_at hl 0 rfl) ?_
        refine gX6_187 C hM (kl (kS_pitch (rfl : kT 1 = (4, 0)) (vp_lt g4))) (kS_pitch (rfl : kT 1 = (4, 0)) (vp_lt g4)) dX6_ofPitch_62 ?_
        cases heq
        exact mm_iret C hM hS dX6_ofPitch_65
      · have heq := if_f c6 heq
        by_cases c7 : x2 = 2
        · have heq := if_t c7 heq
          refine lv_tableIn (tgt := 66) hx hb dX6_ofPitch_24 (by rw [c7]; decide) (by rw [c7]; decide) (by rw [c7]; rfl) (by decide) ?_
          refine lv_aload_n hx hb dX6_ofPitch_66 rfl (lv_at hl 0 rfl) ?_
          refine gX6_190 C hM (kl (kS_pitch (rfl : kT 1 = (4, 0)) (vp_lt g4))) (kS_pitch (rfl : kT 1 = (4, 0)) (vp_lt g4)) dX6_ofPitch_67 ?_
          cases heq
          exact mm_iret C hM hS dX6_ofPitch_70
        · have heq := if_f c7 heq
          by_cases c8 : x2 = 3
          · have heq := if_t c8 heq
            refine lv_tableIn (tgt := 71) hx hb dX6_ofPitch_24 (by rw [c8]; decide) (by rw [c8]; decide) (by rw [c8]; rfl) (by decide) ?_
            refine lv_aload_n hx hb dX6_ofPitch_71 rfl (lv_at hl 0 rfl) ?_
            refine gX6_193 C hM (kl (kS_pitch (rfl : kT 1 = (4, 0)) (vp_lt g4))) (kS_pitch (rfl : kT 1 = (4, 0)) (vp_lt g4)) dX6_ofPitch_72 ?_
            cases heq
            exact mm_iret C hM hS dX6_ofPitch_75
          · have heq := if_f c8 heq
            refine lv_tableOut (tgt := 76) hx hb dX6_ofPitch_24 (by have nc5 := lv_neT (k := 0) (a := 0) c5 rfl; have nc6 := lv_neT (k := 1) (a := 1) c6 rfl; have nc7 := lv_neT (k := 2) (a := 2) c7 rfl; have nc8 := lv_neT (k := 3) (a := 3) c8 rfl; omega) (by decide) ?_
            refine lv_bipush (v := (-2)) hx hb dX6_ofPitch_76 (by decide) ?_
            cases heq
            exact mm_iret C hM hS dX6_ofPitch_78
  · have heq := if_f c3 heq
    refine lv_iconst (v := (-1)) hx hb dX6_ofPitch_11 (by decide) ?_
    cases heq
    exact mm_iret C hM hS dX6_ofPitch_12

set_option maxRecDepth 100000 in
set_option maxHeartbeats 4000000 in
theorem tX6_count_25 (C : mm_C G p s m args meth c RX6 cX6_count 2 (some .int)) (x1 : Int32) (M : mm_M) {r : Int32} : ∀ (H : Heap) (locs : List Loc) (ls : Array Slot), mm_P G kR 740 M H → va_S (mm_A G) s.heap H locs → lv_has ls 2 [(0, .ref (mm_lo G + 0)), (1, .int x1)] → fX6_count_25 x1 M = some r → W p l e rmX6_count s m args below meth c H locs 0 0 (MQ below (mm_Qi G r (kR, 740, M)) args s 0 0 (mm_A G)) (F0 m 25 ls []) := by
  obtain ⟨hx, hb, -, -, -, -, -, -, hZ, -⟩ := id C
  intro H locs ls hM hS hl heq
  rw [fX6_count_25] at heq
  refine lv_iload_n hx hb dX6_count_25 rfl (lv_at hl 1 rfl) ?_
  by_cases c1 : x1 = 0
  · have heq := if_t c1 heq
    refine lv_tableIn (tgt := 120) hx hb dX6_count_26 (by rw [c1]; decide) (by rw [c1]; decide) (by rw [c1]; rfl) (by decide) ?_
    refine lv_aload_n hx hb dX6_count_120 rfl (lv_at hl 0 rfl) ?_
    refine gX6_10 C hM (kl (rfl : kT 0 = (5, 0))) (rfl : kT 0 = (5, 0)) (rfl : kR 0 0 = some 1) dX6_count_121 ?_
    refine gX6_125 C hM (kl (rfl : kT 1 = (4, 0))) (rfl : kT 1 = (4, 0)) dX6_count_124 ?_
    cases heq
    exact mm_iret C hM hS dX6_count_127
  · have heq := if_f c1 heq
    by_cases c2 : x1 = 1
    · have heq := if_t c2 heq
      refine lv_tableIn (tgt := 128) hx hb dX6_count_26 (by rw [c2]; decide) (by rw [c2]; decide) (by rw [c2]; rfl) (by decide) ?_
      refine lv_aload_n hx hb dX6_count_128 rfl (lv_at hl 0 rfl) ?_
      refine gX6_10 C hM (kl (rfl : kT 0 = (5, 0))) (rfl : kT 0 = (5, 0)) (rfl : kR 0 0 = some 1) dX6_count_129 ?_
      refine gX6_196 C hM (kl (rfl : kT 1 = (4, 0))) (rfl : kT 1 = (4, 0)) dX6_count_132 ?_
      cases heq
      exact mm_iret C hM hS dX6_count_135
    · have heq := if_f c2 heq
      by_cases c3 : x1 = 2
      · have heq := if_t c3 heq
        refine lv_tableIn (tgt := 136) hx hb dX6_count_26 (by rw [c3]; decide) (by rw [c3]; decide) (by rw [c3]; rfl) (by decide) ?_
        refine lv_aload_n hx hb dX6_count_136 rfl (lv_at hl 0 rfl) ?_
        refine gX6_10 C hM (kl (rfl : kT 0 = (5, 0))) (rfl : kT 0 = (5, 0)) (rfl : kR 0 0 = some 1) dX6_count_137 ?_
        refine gX6_199 C hM (kl (rfl : kT 1 = (4, 0))) (rfl : kT 1 = (4, 0)) dX6_count_140 ?_
        cases heq
        exact mm_iret C hM hS dX6_count_143
      · have heq := if_f c3 heq
        by_cases c4 : x1 = 3
        · have heq := if_t c4 heq
          refine lv_tableIn (tgt := 144) hx hb dX6_count_26 (by rw [c4]; decide) (by rw [c4]; decide) (by rw [c4]; rfl) (by decide) ?_
          refine lv_aload_n hx hb dX6_count_144 rfl (lv_at hl 0 rfl) ?_
          refine gX6_10 C hM (kl (rfl : kT 0 = (5, 0))) (rfl : kT 0 = (5, 0)) (rfl : kR 0 0 = some 1) dX6_count_145 ?_
          refine gX6_202 C hM (kl (rfl : kT 1 = (4, 0))) (rfl : kT 1 = (4, 0)) dX6_count_148 ?_
          cases heq
          exact mm_iret C hM hS dX6_count_151
        · have heq := if_f c4 heq
          by_cases c5 : x1 = 4
          · have heq := if_t c5 heq
            refine lv_tableIn (tgt := 152) hx hb dX6_count_26 (by rw [c5]; decide) (by rw [c5]; decide) (by rw [c5]; rfl) (by decide) ?_
            refine lv_aload_n hx hb dX6_count_152 rfl (lv_at hl 0 rfl) ?_
            refine gX6_10 C hM (kl (rfl : kT 0 = (5, 0))) (rfl : kT 0 = (5, 0)) (rfl : kR 0 0 = some 1) dX6_count_153 ?_
            obtain ⟨r7, e6, heq⟩ := bn_of heq
            refine mm_ki hS (mm_runV (rest := []) C hM hS (tX5_countWaiting l G M 1 (rfl : kT 1 = (4, 0)) r7 e6) (uX6_205 _ (Nat.le_of_ble_eq_true rfl) (Nat.le_of_ble_eq_true rfl)) (mm_recv C hM (kl (rfl : kT 1 = (4, 0))) (ci := 4) rfl (mm_e4 (rfl : kT 1 = (4, 0)))) hl.1 rfl rfl (Nat.le_of_ble_eq_true rfl) ⟨Nat.zero_le _, Nat.zero_le _⟩ dX6_count_156) (fun H locs hM hS => ?_)
            have hM : mm_P G kR 740 M H := hM
            cases heq
            exact mm_iret C hM hS dX6_count_159
          · have heq := if_f c5 heq
            by_cases c8 : x1 = 5
            · have heq := if_t c8 heq
              refine lv_tableIn (tgt := 160) hx hb dX6_count_26 (by rw [c8]; decide) (by rw [c8]; decide) (by rw [c8]; rfl) (by decide) ?_
              refine lv_aload_n hx hb dX6_count_160 rfl (lv_at hl 0 rfl) ?_
              refine gX6_10 C hM (kl (rfl : kT 0 = (5, 0))) (rfl : kT 0 = (5, 0)) (rfl : kR 0 0 = some 1) dX6_count_161 ?_
              refine gX6_209 C hM (kl (rfl : kT 1 = (4, 0))) (rfl : kT 1 = (4, 0)) dX6_count_164 ?_
              cases heq
              exact mm_iret C hM hS dX6_count_167
            · have heq := if_f c8 heq
              by_cases c9 : x1 = 6
              · have heq := if_t c9 heq
                refine lv_tableIn (tgt := 168) hx hb dX6_count_26 (by rw [c9]; decide) (by rw [c9]; decide) (by rw [c9]; rfl) (by decide) ?_
                refine lv_aload_n hx hb dX6_count_168 rfl (lv_at hl 0 rfl) ?_
                refine gX6_35 C hM (kl (rfl : kT 0 = (5, 0))) (rfl : kT 0 = (5, 0)) (rfl : kR 0 5 = some 729) dX6_count_169 ?_
                refine gX6_212 C hM (kl (rfl : kT 729 = (2, 0))) (rfl : kT 729 = (2, 0)) dX6_count_172 ?_
                cases heq
                exact mm_iret C hM hS dX6_count_175
              · have heq := if_f c9 heq
                by_cases c10 : x1 = 7
                · have heq := if_t c10 heq
                  refine lv_tableIn (tgt := 176) hx hb dX6_count_26 (by rw [c10]; decide) (by rw [c10]; decide) (by rw [c10]; rfl) (by decide) ?_
                  refine lv_aload_n hx hb dX6_count_176 rfl (lv_at hl 0 rfl) ?_
                  refine gX6_22 C hM (kl (rfl : kT 0 = (5, 0))) (rfl : kT 0 = (5, 0)) (rfl : kR 0 2 = some 133) dX6_count_177 ?_
                  refine gX6_215 C hM (kl (rfl : kT 133 = (1, 0))) (rfl : kT 133 = (1, 0)) dX6_count_180 ?_
                  cases heq
                  exact mm_iret C hM hS dX6_count_183
                · have heq := if_f c10 heq
                  by_cases c11 : x1 = 8
                  · have heq := if_t c11 heq
                    refine lv_tableIn (tgt := 200) hx hb dX6_count_26 (by rw [c11]; decide) (by rw [c11]; decide) (by rw [c11]; rfl) (by decide) ?_
                    refine lv_bipush (v := (-2)) hx hb dX6_count_200 (by decide) ?_
                    cases heq
                    exact mm_iret C hM hS dX6_count_202
                  · have heq := if_f c11 heq
                    by_cases c12 : x1 = 9
                    · have heq := if_t c12 heq
                      refine lv_tableIn (tgt := 200) hx hb dX6_count_26 (by rw [c12]; decide) (by rw [c12]; decide) (by rw [c12]; rfl) (by decide) ?_
                      refine lv_bipush (v := (-2)) hx hb dX6_count_200 (by decide) ?_
                      cases heq
                      exact mm_iret C hM hS dX6_count_202
                    · have heq := if_f c12 heq
                      by_cases c13 : x1 = 10
                      · have heq := if_t c13 heq
                        refine lv_tableIn (tgt := 200) hx hb dX6_count_26 (by rw [c13]; decide) (by rw [c13]; decide) (by rw [c13]; rfl) (by decide) ?_
                        refine lv_bipush (v := (-2)) hx hb dX6_count_200 (by decide) ?_
                        cases heq
                        exact mm_iret C hM hS dX6_count_202
                      · have heq := if_f c13 heq
                        by_cases c14 : x1 = 11
                        · have heq := if_t c14 heq
                          refine lv_tableIn (tgt := 200) hx hb dX6_count_26 (by rw [c14]; decide) (by rw [c14]; decide) (by rw [c14]; rfl) (by decide) ?_
                          refine lv_bipush (v := (-2)) hx hb dX6_count_200 (by decide) ?_
                          cases heq
                          exact mm_iret C hM hS dX6_count_202
                        · have heq := if_f c14 heq
                          by_cases c15 : x1 = 12
                          · have heq := if_t c15 heq
                            refine lv_tableIn (tgt := 200) hx hb dX6_count_26 (by rw [c15]; decide) (by rw [c15]; decide) (by rw [c15]; rfl) (by decide) ?_
                            refine lv_bipush (v := (-2)) hx hb dX6_count_200 (by decide) ?_
                            cases heq
                            exact mm_iret C hM hS dX6_count_202
                          · have heq := if_f c15 heq
                            by_cases c16 : x1 = 13
                            · have heq := if_t c16 heq
                              refine lv_tableIn (tgt := 200) hx hb dX6_count_26 (by rw [c16]; decide) (by rw [c16]; decide) (by rw [c16]; rfl) (by decide) ?_
                              refine lv_bipush (v := (-2)) hx hb dX6_count_200 (by decide) ?_
                              cases heq
                              exact mm_iret C hM hS dX6_count_202
                            · have heq := if_f c16 heq
                              by_cases c17 : x1 = 14
                              · have heq := if_t c17 heq
                                refine lv_tableIn (tgt := 200) hx hb dX6_count_26 (by rw [c17]; decide) (by rw [c17]; decide) (by rw [c17]; rfl) (by decide) ?_
                                refine lv_bipush (v := (-2)) hx hb dX6_count_200 (by decide) ?_
                                cases heq
                                exact mm_iret C hM hS dX6_count_202
                              · have heq := if_f c17 heq
                                by_cases c18 : x1 = 15
                                · have heq := if_t c18 heq
                                  refine lv_tableIn (tgt := 200) hx hb dX6_count_26 (by rw [c18]; decide) (by rw [c18]; decide) (by rw [c18]; rfl) (by decide) ?_
                                  refine lv_bipush (v := (-2)) hx hb dX6_count_200 (by decide) ?_
                                  cases heq
                                  exact mm_iret C hM hS dX6_count_202
                                · have heq := if_f c18 heq
                                  by_cases c19 : x1 = 16
                                  · have heq := if_t c19 heq
                                    refine lv_tableIn (tgt := 200) hx hb dX6_count_26 (by rw [c19]; decide) (by rw [c19]; decide) (by rw [c19]; rfl) (by decide) ?_
                                    refine lv_bipush (v := (-2)) hx hb dX6_count_200 (by decide) ?_
                                    cases heq
                                    exact mm_iret C hM hS dX6_count_202
                                  · have heq := if_f c19 heq
                                    by_cases c20 : x1 = 17
                                    · have heq := if_t c20 heq
                                      refine lv_tableIn (tgt := 200) hx hb dX6_count_26 (by rw [c20]; decide) (by rw [c20]; decide) (by rw [c20]; rfl) (by decide) ?_
                                      refine lv_bipush (v := (-2)) hx hb dX6_count_200 (by decide) ?_
                                      cases heq
                                      exact mm_iret C hM hS dX6_count_202
                                    · have heq := if_f c20 heq
                                      by_cases c21 : x1 = 18
                                      · have heq := if_t c21 heq
                                        refine lv_tableIn (tgt := 184) hx hb dX6_count_26 (by rw [c21]; decide) (by rw [c21]; decide) (by rw [c21]; rfl) (by decide) ?_
                                        refine lv_aload_n hx hb dX6_count_184 rfl (lv_at hl 0 rfl) ?_
                                        refine gX6_10 C hM (kl (rfl : kT 0 = (5, 0))) (rfl : kT 0 = (5, 0)) (rfl : kR 0 0 = some 1) dX6_count_185 ?_
                                        obtain ⟨r23, e22, heq⟩ := bn_of heq
                                        refine mm_ki hS (mm_runV (rest := []) C hM hS (tX5_countOnPitches l G M 1 (rfl : kT 1 = (4, 0)) r23 e22) (uX6_218 _ (Nat.le_of_ble_eq_true rfl) (Nat.le_of_ble_eq_true rfl)) (mm_recv C hM (kl (rfl : kT 1 = (4, 0))) (ci := 4) rfl (mm_e4 (rfl : kT 1 = (4, 0)))) hl.1 rfl rfl (Nat.le_of_ble_eq_true rfl) ⟨Nat.zero_le _, Nat.zero_le _⟩ dX6_count_188) (fun H locs hM hS => ?_)
                                        have hM : mm_P G kR 740 M H := hM
                                        cases heq
                                        exact mm_iret C hM hS dX6_count_191
                                      · have heq := if_f c21 heq
                                        by_cases c24 : x1 = 19
                                        · have heq := if_t c24 heq
                                          refine lv_tableIn (tgt := 192) hx hb dX6_count_26 (by rw [c24]; decide) (by rw [c24]; decide) (by rw [c24]; rfl) (by decide) ?_
                                          refine lv_aload_n hx hb dX6_count_192 rfl (lv_at hl 0 rfl) ?_
                                          refine gX6_10 C hM (kl (rfl : kT 0 = (5, 0))) (rfl : kT 0 = (5, 0)) (rfl : kR 0 0 = some 1) dX6_count_193 ?_
                                          refine gX6_221 C hM (kl (rfl : kT 1 = (4, 0))) (rfl : kT 1 = (4, 0)) dX6_count_196 ?_
                                          cases heq
                                          exact mm_iret C hM hS dX6_count_199
                                        · have heq := if_f c24 heq
                                          refine lv_tableOut (tgt := 200) hx hb dX6_count_26 (by have nc1 := lv_neT (k := 0) (a := 0) c1 rfl; have nc2 := lv_neT (k := 1) (a := 1) c2 rfl; have nc3 := lv_neT (k := 2) (a := 2) c3 rfl; have nc4 := lv_neT (k := 3) (a := 3) c4 rfl; have nc5 := lv_neT (k := 4) (a := 4) c5 rfl; have nc8 := lv_neT (k := 5) (a := 5) c8 rfl; have nc9 := lv_neT (k := 6) (a := 6) c9 rfl; have nc10 := lv_neT (k := 7) (a := 7) c10 rfl; have nc11 := lv_neT (k := 8) (a := 8) c11 rfl; have nc12 := lv_neT (k := 9) (a := 9) c12 rfl; have nc13 := lv_neT (k := 10) (a := 10) c13 rfl; have nc14 := lv_neT (k := 11) (a := 11) c14 rfl; have nc15 := lv_neT (k := 12) (a := 12) c15 rfl; have nc16 := lv_neT (k := 13) (a := 13) c16 rfl; have nc17 := lv_neT (k := 14) (a := 14) c17 rfl; have nc18 := lv_neT (k := 15) (a := 15) c18 rfl; have nc19 := lv_neT (k := 16) (a := 16) c19 rfl; have nc20 := lv_neT (k := 17) (a := 17) c20 rfl; have nc21 := lv_neT (k := 18) (a := 18) c21 rfl; have nc24 := lv_neT (k := 19) (a := 19) c24 rfl; omega) (by decide) ?_
                                          refine lv_bipush (v := (-2)) hx hb dX6_count_200 (by decide) ?_
                                          cases heq
                                          exact mm_iret C hM hS dX6_count_202

set_option maxRecDepth 100000 in
set_option maxHeartbeats 4000000 in
theorem tX6_count (l : Launch) (G : mm_G) (M : mm_M) (x1 : Int32) (r : Int32) (heq : fX6_count M x1 = some r) : Met l yX6_count (mm_ws yX6_count cX6_count 2 (some .int)) rmX6_count (va_Pc [.ref (mm_lo G + 0), .int x1] (mm_B G (kR, 740, M))) (mm_Qi G r (kR, 740, M)) 0 0 (mm_A G) := by
  refine mm_met (cc := cX6_count) (nL := 2) (ret := (some .int)) plRX6 (Nat.le_of_ble_eq_true rfl) ?_
  intro p e s m below meth c ls hin C hM hS hl
  have C : mm_C G p s m _ meth c RX6 cX6_count 2 (some .int) := C
  have hM : mm_P G kR 740 M s.heap := hM
  have hl : lv_has ls 2 [(0, .ref (mm_lo G + 0)), (1, .int x1)] := hl
  obtain ⟨hx, hb, -, -, -, -, -, -, hZ, -⟩ := id C
  rw [fX6_count] at heq
  refine lv_iload_n hx hb dX6_count_0 rfl (lv_at hl 1 rfl) ?_
  refine lv_bipush (v := 8) hx hb dX6_count_1 (by decide) ?_
  refine lv_icmp_lt (tgt := 25) hx hb dX6_count_3 (by decide) (fun c1 => ?_) (fun c1 => ?_)
  · have heq := if_t c1 heq
    exact tX6_count_25 C x1 M _ _ _ hM hS (lv_sub hl [0, 1] rfl) heq
  · have heq := if_f c1 heq
    refine lv_iload_n hx hb dX6_count_6 rfl (lv_at hl 1 rfl) ?_
    refine lv_bipush (v := 18) hx hb dX6_count_7 (by decide) ?_
    refine lv_icmp_ge (tgt := 25) hx hb dX6_count_9 (by decide) (fun c2 => ?_) (fun c2 => ?_)
    · have heq := if_t c2 heq
      exact tX6_count_25 C x1 M _ _ _ hM hS (lv_sub hl [0, 1] rfl) heq
    · have heq := if_f c2 heq
      refine lv_aload_n hx hb dX6_count_12 rfl (lv_at hl 0 rfl) ?_
      refine gX6_10 C hM (kl (rfl : kT 0 = (5, 0))) (rfl : kT 0 = (5, 0)) (rfl : kR 0 0 = some 1) dX6_count_13 ?_
      refine gX6_128 C hM (kl (rfl : kT 1 = (4, 0))) (rfl : kT 1 = (4, 0)) (rS_7 (rfl : kT 1 = (4, 0))) dX6_count_16 ?_
      refine lv_iload_n hx hb dX6_count_19 rfl (lv_at hl 1 rfl) ?_
      refine lv_bipush (v := 8) hx hb dX6_count_20 (by decide) ?_
      refine lv_isub hx hb dX6_count_22 ?_
      obtain ⟨g3, heq⟩ := gd_of heq
      refine mm_ildk C hM (kl (kS_7 (rfl : kT 1 = (4, 0)))) (kS_7 (rfl : kT 1 = (4, 0))) (vp_in_of2 g3) rfl dX6_count_23 ?_
      cases heq
      exact mm_iret C hM hS dX6_count_24

set_option maxRecDepth 100000 in
set_option maxHeartbeats 4000000 in
theorem tX6_pointsOn (l : Launch) (G : mm_G) (M : mm_M) (x1 : Int32) (x2 : Int32) (r : Int32) (heq : fX6_pointsOn M x1 x2 = some r) : Met l yX6_pointsOn (mm_ws yX6_pointsOn cX6_pointsOn 3 (some .int)) rmX6_pointsOn (va_Pc [.ref (mm_lo G + 0), .int x1, .int x2] (mm_B G (kR, 740, M))) (mm_Qi G r (kR, 740, M)) 0 0 (mm_A G) := by
  refine mm_met (cc := cX6_pointsOn) (nL := 3) (ret := (some .int)) plRX6 (Nat.le_of_ble_eq_true rfl) ?_
  intro p e s m below meth c ls hin C hM hS hl
  have C : mm_C G p s m _ meth c RX6 cX6_pointsOn 3 (some .int) := C
  have hM : mm_P G kR 740 M s.heap := hM
  have hl : lv_has ls 3 [(0, .ref (mm_lo G + 0)), (1, .int x1), (2, .int x2)] := hl
  obtain ⟨hx, hb, -, -, -, -, -, -, hZ, -⟩ := id C
  rw [fX6_pointsOn] at heq
  refine lv_aload_n hx hb dX6_pointsOn_0 rfl (lv_at hl 0 rfl) ?_
  refine gX6_10 C hM (kl (rfl : kT 0 = (5, 0))) (rfl : kT 0 = (5, 0)) (rfl : kR 0 0 = some 1) dX6_pointsOn_1 ?_
  refine lv_iload_n hx hb dX6_pointsOn_4 rfl (lv_at hl 1 rfl) ?_
  obtain ⟨r2, e1, heq⟩ := bn_of heq
  refine mm_ki hS (mm_runV (rest := []) C hM hS (tX5_hasCart l G M 1 (rfl : kT 1 = (4, 0)) x1 r2 e1) (uX6_85 _ (Nat.le_of_ble_eq_true rfl) (Nat.le_of_ble_eq_true rfl)) (mm_recv C hM (kl (rfl : kT 1 = (4, 0))) (ci := 4) rfl (mm_e4 (rfl : kT 1 = (4, 0)))) hl.1 rfl rfl (Nat.le_of_ble_eq_true rfl) ⟨Nat.zero_le _, Nat.zero_le _⟩ dX6_pointsOn_5) (fun H locs hM hS => ?_)
  have hM : mm_P G kR 740 M H := hM
  refine mm_ifneZ (tgt := 13) C dX6_pointsOn_8 (by decide) (fun c3 => ?_) (fun c3 => ?_)
  · have heq := if_t c3 heq
    refine lv_iload_n hx hb dX6_pointsOn_13 rfl (lv_at hl 2 rfl) ?_
    refine lv_aload_n hx hb dX6_pointsOn_14 rfl (lv_at hl 0 rfl) ?_
    refine gX6_10 C hM (kl (rfl : kT 0 = (5, 0))) (rfl : kT 0 = (5, 0)) (rfl : kR 0 0 = some 1) dX6_pointsOn_15 ?_
    refine gX6_125 C hM (kl (rfl : kT 1 = (4, 0))) (rfl : kT 1 = (4, 0)) dX6_pointsOn_18 ?_
    refine lv_icmp_lt (tgt := 39) hx hb dX6_pointsOn_21 (by decide) (fun c4 => ?_) (fun c4 => ?_)
    · have heq := if_t c4 heq
      refine lv_bipush (v := (-2)) hx hb dX6_pointsOn_39 (by decide) ?_
      cases heq
      exact mm_iret C hM hS dX6_pointsOn_41
    · have heq := if_f c4 heq
      refine lv_iload_n hx hb dX6_pointsOn_24 rfl (lv_at hl 2 rfl) ?_
      refine lv_aload_n hx hb dX6_pointsOn_25 rfl (lv_at hl 0 rfl) ?_
      refine gX6_10 C hM (kl (rfl : kT 0 = (5, 0))) (rfl : kT 0 = (5, 0)) (rfl : kR 0 0 = some 1) dX6_pointsOn_26 ?_
      refine gX6_125 C hM (kl (rfl : kT 1 = (4, 0))) (rfl : kT 1 = (4, 0)) dX6_pointsOn_29 ?_
      refine lv_sipush (v := 400) hx hb dX6_pointsOn_32 (by decide) ?_
      refine lv_iadd hx hb dX6_pointsOn_35 ?_
      refine lv_icmp_le (tgt := 42) hx hb dX6_pointsOn_36 (by decide) (fun c5 => ?_) (fun c5 => ?_)
      · have heq := if_t c5 heq
        refine lv_aload_n hx hb dX6_pointsOn_42 rfl (lv_at hl 0 rfl) ?_
        refine gX6_10 C hM (kl (rfl : kT 0 = (5, 0))) (rfl : kT 0 = (5, 0)) (rfl : kR 0 0 = some 1) dX6_pointsOn_43 ?_
        refine gX6_89 C hM (kl (rfl : kT 1 = (4, 0))) (rfl : kT 1 = (4, 0)) (rS_9 (rfl : kT 1 = (4, 0))) dX6_pointsOn_46 ?_
        refine lv_iload_n hx hb dX6_pointsOn_49 rfl (lv_at hl 1 rfl) ?_
        obtain ⟨g6, heq⟩ := gd_of heq
        refine mm_ald C hM (kl (kS_9 (rfl : kT 1 = (4, 0)))) (Or.inl rfl) (kS_9 (rfl : kT 1 = (4, 0))) (vp_in_of2 g6) (rS_cart (rfl : kT 1 = (4, 0)) (vp_lt g6)) dX6_pointsOn_50 ?_
        refine lv_iload_n hx hb dX6_pointsOn_51 rfl (lv_at hl 2 rfl) ?_
        refine lv_aload_n hx hb dX6_pointsOn_52 rfl (lv_at hl 0 rfl) ?_
        refine gX6_10 C hM (kl (rfl : kT 0 = (5, 0))) (rfl : kT 0 = (5, 0)) (rfl : kR 0 0 = some 1) dX6_pointsOn_53 ?_
        refine gX6_125 C hM (kl (rfl : kT 1 = (4, 0))) (rfl : kT 1 = (4, 0)) dX6_pointsOn_56 ?_
        refine lv_aload_n hx hb dX6_pointsOn_59 rfl (lv_at hl 0 rfl) ?_
        refine gX6_10 C hM (kl (rfl : kT 0 = (5, 0))) (rfl : kT 0 = (5, 0)) (rfl : kR 0 0 = some 1) dX6_pointsOn_60 ?_
        refine gX6_128 C hM (kl (rfl : kT 1 = (4, 0))) (rfl : kT 1 = (4, 0)) (rS_7 (rfl : kT 1 = (4, 0))) dX6_pointsOn_63 ?_
        refine lv_iconst (v := 5) hx hb dX6_pointsOn_66 (by decide) ?_
        refine mm_ildk C hM (kl (kS_7 (rfl : kT 1 = (4, 0)))) (kS_7 (rfl : kT 1 = (4, 0))) (vp_in_of2 (by decide)) (by decide : (5 : Int32).toNatClampNeg = 5) dX6_pointsOn_67 ?_
        obtain ⟨r8, e7, heq⟩ := bn_of heq
        refine mm_ki hS (mm_runV (rest := []) C hM hS (tX0_pointsLeft l G M (1 + 18 + 3 * x1.toNatClampNeg) (kS_cart (rfl : kT 1 = (4, 0)) (vp_lt g6)) x2 (M.1 1 0) (M.1 (1 + 1) 5) r8 e7) (uX6_132 _ (Nat.le_of_ble_eq_true rfl) (Nat.le_of_ble_eq_true rfl)) (mm_recv C hM (kl (kS_cart (rfl : kT 1 = (4, 0)) (vp_lt g6))) (ci := 0) rfl (mm_e0 (kS_cart (rfl : kT 1 = (4, 0)) (vp_lt g6)))) hl.1 rfl rfl (Nat.le_of_ble_eq_true rfl) ⟨Nat.zero_le _, Nat.zero_le _⟩ dX6_pointsOn_68) (fun H locs hM hS => ?_)
        have hM : mm_P G kR 740 M H := hM
        cases heq
        exact mm_iret C hM hS dX6_pointsOn_71
      · have heq := if_f c5 heq
        refine lv_bipush (v := (-2)) hx hb dX6_pointsOn_39 (by decide) ?_
        cases heq
        exact mm_iret C hM hS dX6_pointsOn_41
  · have heq := if_f c3 heq
    refine lv_iconst (v := (-1)) hx hb dX6_pointsOn_11 (by decide) ?_
    cases heq
    exact mm_iret C hM hS dX6_pointsOn_12

set_option maxRecDepth 100000 in
set_option maxHeartbeats 4000000 in
theorem tX6_pitchOnTrialDay (l : Launch) (G : mm_G) (M : mm_M) (x1 : Int32) (r : Int32) (M9 : mm_M) (heq : fX6_pitchOnTrialDay M x1 = some (r, M9)) : Met l yX6_pitchOnTrialDay (mm_ws yX6_pitchOnTrialDay cX6_pitchOnTrialDay 2 (some .int)) rmX6_pitchOnTrialDay (va_Pc [.ref (mm_lo G + 0), .int x1] (mm_B G (kR, 740, M))) (mm_Qi G r (kR, 740, M9)) 0 0 (mm_A G) := by
  refine mm_met (cc := cX6_pitchOnTrialDay) (nL := 2) (ret := (some .int)) plRX6 (Nat.le_of_ble_eq_true rfl) ?_
  intro p e s m below meth c ls hin C hM hS hl
  have C : mm_C G p s m _ meth c RX6 cX6_pitchOnTrialDay 2 (some .int) := C
  have hM : mm_P G kR 740 M s.heap := hM
  have hl : lv_has ls 2 [(0, .ref (mm_lo G + 0)), (1, .int x1)] := hl
  obtain ⟨hx, hb, -, -, -, -, -, -, hZ, -⟩ := id C
  rw [fX6_pitchOnTrialDay] at heq
  refine lv_aload_n hx hb dX6_pitchOnTrialDay_0 rfl (lv_at hl 0 rfl) ?_
  refine gX6_16 C hM (kl (rfl : kT 0 = (5, 0))) (rfl : kT 0 = (5, 0)) (rfl : kR 0 1 = some 67) dX6_pitchOnTrialDay_1 ?_
  refine lv_iconst (v := 1) hx hb dX6_pitchOnTrialDay_4 (by decide) ?_
  obtain ⟨r2, M3, e1, heq⟩ := bn2_of heq
  refine mm_ki hS (mm_runV (rest := []) C hM hS (tX5_passDays l G M 67 (rfl : kT 67 = (4, 0)) 1 r2 M3 e1) (uX6_79 _ (Nat.le_of_ble_eq_true rfl) (Nat.le_of_ble_eq_true rfl)) (mm_recv C hM (kl (rfl : kT 67 = (4, 0))) (ci := 4) rfl (mm_e4 (rfl : kT 67 = (4, 0)))) hl.1 rfl rfl (Nat.le_of_ble_eq_true rfl) ⟨Nat.zero_le _, Nat.zero_le _⟩ dX6_pitchOnTrialDay_5) (fun H locs hM hS => ?_)
  have hM : mm_P G kR 740 M3 H := hM
  refine lv_pop hx hb dX6_pitchOnTrialDay_8 rfl ?_
  refine lv_aload_n hx hb dX6_pitchOnTrialDay_9 rfl (lv_at hl 0 rfl) ?_
  refine gX6_16 C hM (kl (rfl : kT 0 = (5, 0))) (rfl : kT 0 = (5, 0)) (rfl : kR 0 1 = some 67) dX6_pitchOnTrialDay_10 ?_
  refine lv_iload_n hx hb dX6_pitchOnTrialDay_13 rfl (lv_at hl 1 rfl) ?_
  obtain ⟨r5, e4, heq⟩ := bn_of heq
  refine mm_ki hS (mm_runV (rest := []) C hM hS (tX5_hasCart l G M3 67 (rfl : kT 67 = (4, 0)) x1 r5 e4) (uX6_85 _ (Nat.le_of_ble_eq_true rfl) (Nat.le_of_ble_eq_true rfl)) (mm_recv C hM (kl (rfl : kT 67 = (4, 0))) (ci := 4) rfl (mm_e4 (rfl : kT 67 = (4, 0)))) hl.1 rfl rfl (Nat.le_of_ble_eq_true rfl) ⟨Nat.zero_le _, Nat.zero_le _⟩ dX6_pitchOnTrialDay_14) (fun H locs hM hS => ?_)
  have hM : mm_P G kR 740 M3 H := hM
  refine mm_ifeqZ (tgt := 35) C dX6_pitchOnTrialDay_17 (by decide) (fun c6 => ?_) (fun c6 => ?_)
  · have heq := if_f c6 heq
    refine lv_bipush (v := (-6)) hx hb dX6_pitchOnTrialDay_35 (by decide) ?_
    cases heq
    exact mm_iret C hM hS dX6_pitchOnTrialDay_37
  · have heq := if_t c6 heq
    refine lv_aload_n hx hb dX6_pitchOnTrialDay_20 rfl (lv_at hl 0 rfl) ?_
    refine gX6_16 C hM (kl (rfl : kT 0 = (5, 0))) (rfl : kT 0 = (5, 0)) (rfl : kR 0 1 = some 67) dX6_pitchOnTrialDay_21 ?_
    refine gX6_89 C hM (kl (rfl : kT 67 = (4, 0))) (rfl : kT 67 = (4, 0)) (rS_9 (rfl : kT 67 = (4, 0))) dX6_pitchOnTrialDay_24 ?_
    refine lv_iload_n hx hb dX6_pitchOnTrialDay_27 rfl (lv_at hl 1 rfl) ?_
    obtain ⟨g7, heq⟩ := gd_of heq
    refine mm_ald C hM (kl (kS_9 (rfl : kT 67 = (4, 0)))) (Or.inl rfl) (kS_9 (rfl : kT 67 = (4, 0))) (vp_in_of2 g7) (rS_cart (rfl : kT 67 = (4, 0)) (vp_lt g7)) dX6_pitchOnTrialDay_28 ?_
    refine gX6_142 C hM (kl (kS_cart (rfl : kT 67 = (4, 0)) (vp_lt g7))) (kS_cart (rfl : kT 67 = (4, 0)) (vp_lt g7)) dX6_pitchOnTrialDay_29 ?_
    refine lv_goto (tgt := 37) hx hb dX6_pitchOnTrialDay_32 (by decide) ?_
    cases heq
    exact mm_iret C hM hS dX6_pitchOnTrialDay_37

set_option maxRecDepth 100000 in
set_option maxHeartbeats 4000000 in
theorem tX6_wouldHave (l : Launch) (G : mm_G) (M : mm_M) (x1 : Int32) (r : Int32) (M9 : mm_M) (heq : fX6_wouldHave M x1 = some (r, M9)) : Met l yX6_wouldHave (mm_ws yX6_wouldHave cX6_wouldHave 2 (some .int)) rmX6_wouldHave (va_Pc [.ref (mm_lo G + 0), .int x1] (mm_B G (kR, 740, M))) (mm_Qi G r (kR, 740, M9)) 0 0 (mm_A G) := by
  refine mm_met (cc := cX6_wouldHave) (nL := 2) (ret := (some .int)) plRX6 (Nat.le_of_ble_eq_true rfl) ?_
  intro p e s m below meth c ls hin C hM hS hl
  have C : mm_C G p s m _ meth c RX6 cX6_wouldHave 2 (some .int) := C
  have hM : mm_P G kR 740 M s.heap := hM
  have hl : lv_has ls 2 [(0, .ref (mm_lo G + 0)), (1, .int x1)] := hl
  obtain ⟨hx, hb, -, -, -, -, -, -, hZ, -⟩ := id C
  rw [fX6_wouldHave] at heq
  refine lv_aload_n hx hb dX6_wouldHave_0 rfl (lv_at hl 0 rfl) ?_
  refine gX6_10 C hM (kl (rfl : kT 0 = (5, 0))) (rfl : kT 0 = (5, 0)) (rfl : kR 0 0 = some 1) dX6_wouldHave_1 ?_
  refine lv_iload_n hx hb dX6_wouldHave_4 rfl (lv_at hl 1 rfl) ?_
  obtain ⟨r2, e1, heq⟩ := bn_of heq
  refine mm_ki hS (mm_runV (rest := []) C hM hS (tX5_hasCart l G M 1 (rfl : kT 1 = (4, 0)) x1 r2 e1) (uX6_85 _ (Nat.le_of_ble_eq_true rfl) (Nat.le_of_ble_eq_true rfl)) (mm_recv C hM (kl (rfl : kT 1 = (4, 0))) (ci := 4) rfl (mm_e4 (rfl : kT 1 = (4, 0)))) hl.1 rfl rfl (Nat.le_of_ble_eq_true rfl) ⟨Nat.zero_le _, Nat.zero_le _⟩ dX6_wouldHave_5) (fun H locs hM hS => ?_)
  have hM : mm_P G kR 740 M H := hM
  refine mm_ifneZ (tgt := 13) C dX6_wouldHave_8 (by decide) (fun c3 => ?_) (fun c3 => ?_)
  · have heq := if_t c3 heq
    refine lv_aload_n hx hb dX6_wouldHave_13 rfl (lv_at hl 0 rfl) ?_
    refine gX6_16 C hM (kl (rfl : kT 0 = (5, 0))) (rfl : kT 0 = (5, 0)) (rfl : kR 0 1 = some 67) dX6_wouldHave_14 ?_
    refine lv_aload_n hx hb dX6_wouldHave_17 rfl (lv_at hl 0 rfl) ?_
    refine gX6_10 C hM (kl (rfl : kT 0 = (5, 0))) (rfl : kT 0 = (5, 0)) (rfl : kR 0 0 = some 1) dX6_wouldHave_18 ?_
    obtain ⟨M5, e4, heq⟩ := bn_of heq
    refine mm_kv hS (mm_runV (rest := []) C hM hS (tX5_copyFrom l G M 67 (rfl : kT 67 = (4, 0)) 1 (rfl : kT 1 = (4, 0)) M5 e4) (uX6_224 _ (Nat.le_of_ble_eq_true rfl) (Nat.le_of_ble_eq_true rfl)) (mm_recv C hM (kl (rfl : kT 67 = (4, 0))) (ci := 4) rfl (mm_e4 (rfl : kT 67 = (4, 0)))) hl.1 rfl rfl (Nat.le_of_ble_eq_true rfl) ⟨Nat.zero_le _, Nat.zero_le _⟩ dX6_wouldHave_21) (fun H locs hM hS => ?_)
    have hM : mm_P G kR 740 M5 H := hM
    refine lv_aload_n hx hb dX6_wouldHave_24 rfl (lv_at hl 0 rfl) ?_
    refine lv_iload_n hx hb dX6_wouldHave_25 rfl (lv_at hl 1 rfl) ?_
    obtain ⟨r7, M8, e6, heq⟩ := bn2_of heq
    refine mm_ki hS (mm_runV (rest := []) C hM hS (tX6_pitchOnTrialDay l G M5 x1 r7 M8 e6) (uX6_227 _ (Nat.le_of_ble_eq_true rfl) (Nat.le_of_ble_eq_true rfl)) (mm_recv C hM (kl (rfl : kT 0 = (5, 0))) (ci := 5) rfl (mm_e5 (rfl : kT 0 = (5, 0)))) hl.1 rfl rfl (Nat.le_of_ble_eq_true rfl) ⟨Nat.zero_le _, Nat.zero_le _⟩ dX6_wouldHave_26) (fun H locs hM hS => ?_)
    have hM : mm_P G kR 740 M8 H := hM
    cases heq
    exact mm_iret C hM hS dX6_wouldHave_29
  · have heq := if_f c3 heq
    refine lv_iconst (v := (-1)) hx hb dX6_wouldHave_11 (by decide) ?_
    cases heq
    exact mm_iret C hM hS dX6_wouldHave_12

set_option maxRecDepth 100000 in
set_option maxHeartbeats 4000000 in
theorem tX6_ifWished (l : Launch) (G : mm_G) (M : mm_M) (x1 : Int32) (x2 : Int32) (r : Int32) (M9 : mm_M) (heq : fX6_ifWished M x1 x2 = some (r, M9)) : Met l yX6_ifWished (mm_ws yX6_ifWished cX6_ifWished 3 (some .int)) rmX6_ifWished (va_Pc [.ref (mm_lo G + 0), .int x1, .int x2] (mm_B G (kR, 740, M))) (mm_Qi G r (kR, 740, M9)) 0 0 (mm_A G) := by
  refine mm_met (cc := cX6_ifWished) (nL := 3) (ret := (some .int)) plRX6 (Nat.le_of_ble_eq_true rfl) ?_
  intro p e s m below meth c ls hin C hM hS hl
  have C : mm_C G p s m _ meth c RX6 cX6_ifWished 3 (some .int) := C
  have hM : mm_P G kR 740 M s.heap := hM
  have hl : lv_has ls 3 [(0, .ref (mm_lo G + 0)), (1, .int x1), (2, .int x2)] := hl
  obtain ⟨hx, hb, -, -, -, -, -, -, hZ, -⟩ := id C
  rw [fX6_ifWished] at heq
  refine lv_aload_n hx hb dX6_ifWished_0 rfl (lv_at hl 0 rfl) ?_
  refine gX6_10 C hM (kl (rfl : kT 0 = (5, 0))) (rfl : kT 0 = (5, 0)) (rfl : kR 0 0 = some 1) dX6_ifWished_1 ?_
  refine lv_iload_n hx hb dX6_ifWished_4 rfl (lv_at hl 1 rfl) ?_
  obtain ⟨r2, e1, heq⟩ := bn_of heq
  refine mm_ki hS (mm_runV (rest := []) C hM hS (tX5_hasCart l G M 1 (rfl : kT 1 = (4, 0)) x1 r2 e1) (uX6_85 _ (Nat.le_of_ble_eq_true rfl) (Nat.le_of_ble_eq_true rfl)) (mm_recv C hM (kl (rfl : kT 1 = (4, 0))) (ci := 4) rfl (mm_e4 (rfl : kT 1 = (4, 0)))) hl.1 rfl rfl (Nat.le_of_ble_eq_true rfl) ⟨Nat.zero_le _, Nat.zero_le _⟩ dX6_ifWished_5) (fun H locs hM hS => ?_)
  have hM : mm_P G kR 740 M H := hM
  refine mm_ifeqZ (tgt := 22) C dX6_ifWished_8 (by decide) (fun c3 => ?_) (fun c3 => ?_)
  · have heq := if_f c3 heq
    refine lv_iconst (v := (-1)) hx hb dX6_ifWished_22 (by decide) ?_
    cases heq
    exact mm_iret C hM hS dX6_ifWished_23
  · have heq := if_t c3 heq
    refine lv_aload_n hx hb dX6_ifWished_11 rfl (lv_at hl 0 rfl) ?_
    refine gX6_10 C hM (kl (rfl : kT 0 = (5, 0))) (rfl : kT 0 = (5, 0)) (rfl : kR 0 0 = some 1) dX6_ifWished_12 ?_
    refine lv_iload_n hx hb dX6_ifWished_15 rfl (lv_at hl 2 rfl) ?_
    obtain ⟨r5, e4, heq⟩ := bn_of heq
    refine mm_ki hS (mm_runV (rest := []) C hM hS (tX5_hasPitch l G M 1 (rfl : kT 1 = (4, 0)) x2 r5 e4) (uX6_175 _ (Nat.le_of_ble_eq_true rfl) (Nat.le_of_ble_eq_true rfl)) (mm_recv C hM (kl (rfl : kT 1 = (4, 0))) (ci := 4) rfl (mm_e4 (rfl : kT 1 = (4, 0)))) hl.1 rfl rfl (Nat.le_of_ble_eq_true rfl) ⟨Nat.zero_le _, Nat.zero_le _⟩ dX6_ifWished_16) (fun H locs hM hS => ?_)
    have hM : mm_P G kR 740 M H := hM
    refine mm_ifneZ (tgt := 24) C dX6_ifWished_19 (by decide) (fun c6 => ?_) (fun c6 => ?_)
    · have heq := if_t c6 heq
      refine lv_aload_n hx hb dX6_ifWished_24 rfl (lv_at hl 0 rfl) ?_
      refine gX6_16 C hM (kl (rfl : kT 0 = (5, 0))) (rfl : kT 0 = (5, 0)) (rfl : kR 0 1 = some 67) dX6_ifWished_25 ?_
      refine lv_aload_n hx hb dX6_ifWished_28 rfl (lv_at hl 0 rfl) ?_
      refine gX6_10 C hM (kl (rfl : kT 0 = (5, 0))) (rfl : kT 0 = (5, 0)) (rfl : kR 0 0 = some 1) dX6_ifWished_29 ?_
      obtain ⟨M8, e7, heq⟩ := bn_of heq
      refine mm_kv hS (mm_runV (rest := []) C hM hS (tX5_copyFrom l G M 67 (rfl : kT 67 = (4, 0)) 1 (rfl : kT 1 = (4, 0)) M8 e7) (uX6_224 _ (Nat.le_of_ble_eq_true rfl) (Nat.le_of_ble_eq_true rfl)) (mm_recv C hM (kl (rfl : kT 67 = (4, 0))) (ci := 4) rfl (mm_e4 (rfl : kT 67 = (4, 0)))) hl.1 rfl rfl (Nat.le_of_ble_eq_true rfl) ⟨Nat.zero_le _, Nat.zero_le _⟩ dX6_ifWished_32) (fun H locs hM hS => ?_)
      have hM : mm_P G kR 740 M8 H := hM
      refine lv_aload_n hx hb dX6_ifWished_35 rfl (lv_at hl 0 rfl) ?_
      refine gX6_16 C hM (kl (rfl : kT 0 = (5, 0))) (rfl : kT 0 = (5, 0)) (rfl : kR 0 1 = some 67) dX6_ifWished_36 ?_
      refine lv_iload_n hx hb dX6_ifWished_39 rfl (lv_at hl 1 rfl) ?_
      refine lv_iload_n hx hb dX6_ifWished_40 rfl (lv_at hl 2 rfl) ?_
      refine lv_bipush (v := (-6)) hx hb dX6_ifWished_41 (by decide) ?_
      refine lv_bipush (v := (-6)) hx hb dX6_ifWished_43 (by decide) ?_
      obtain ⟨r10, M11, e9, heq⟩ := bn2_of heq
      refine mm_ki hS (mm_runV (rest := []) C hM hS (tX5_tellWishes l G M8 67 (rfl : kT 67 = (4, 0)) x1 x2 (-6) (-6) r10 M11 e9) (uX6_63 _ (Nat.le_of_ble_eq_true rfl) (Nat.le_of_ble_eq_true rfl)) (mm_recv C hM (kl (rfl : kT 67 = (4, 0))) (ci := 4) rfl (mm_e4 (rfl : kT 67 = (4, 0)))) hl.1 rfl rfl (Nat.le_of_ble_eq_true rfl) ⟨Nat.zero_le _, Nat.zero_le _⟩ dX6_ifWished_45) (fun H locs hM hS => ?_)
      have hM : mm_P G kR 740 M11 H := hM
      refine lv_pop hx hb dX6_ifWished_48 rfl ?_
      refine lv_aload_n hx hb dX6_ifWished_49 rfl (lv_at hl 0 rfl) ?_
      refine lv_iload_n hx hb dX6_ifWished_50 rfl (lv_at hl 1 rfl) ?_
      obtain ⟨r13, M14, e12, heq⟩ := bn2_of heq
      refine mm_ki hS (mm_runV (rest := []) C hM hS (tX6_pitchOnTrialDay l G M11 x1 r13 M14 e12) (uX6_227 _ (Nat.le_of_ble_eq_true rfl) (Nat.le_of_ble_eq_true rfl)) (mm_recv C hM (kl (rfl : kT 0 = (5, 0))) (ci := 5) rfl (mm_e5 (rfl : kT 0 = (5, 0)))) hl.1 rfl rfl (Nat.le_of_ble_eq_true rfl) ⟨Nat.zero_le _, Nat.zero_le _⟩ dX6_ifWished_51) (fun H locs hM hS => ?_)
      have hM : mm_P G kR 740 M14 H := hM
      cases heq
      exact mm_iret C hM hS dX6_ifWished_54
    · have heq := if_f c6 heq
      refine lv_iconst (v := (-1)) hx hb dX6_ifWished_22 (by decide) ?_
      cases heq
      exact mm_iret C hM hS dX6_ifWished_23

set_option maxRecDepth 100000 in
set_option maxHeartbeats 4000000 in
theorem tX6_firstDay_26 (C : mm_C G p s m args meth c RX6 cX6_firstDay 3 (some .int)) (x1 : Int32) {r : Int32} {M9 : mm_M} : ∀ n : Nat, ∀ (M : mm_M) (v2 : Int32) (H : Heap) (locs : List Loc) (ls : Array Slot), mm_P G kR 740 M H → va_S (mm_A G) s.heap H locs → lv_has ls 3 [(0, .ref (mm_lo G + 0)), (1, .int x1), (2, .int v2)] → fX6_firstDay_26 x1 n M v2 = some (r, M9) → W p l e rmX6_firstDay s m args below meth c H locs 0 0 (MQ below (mm_Qi G r (kR, 740, M9)) args s 0 0 (mm_A G)) (F0 m 26 ls []) := by
  obtain ⟨hx, hb, -, -, -, -, -, -, hZ, -⟩ := id C
  intro n
  induction n with
  | zero =>
    intro M v2 H locs ls hM hS hl heq
    rw [fX6_firstDay_26] at heq
    cases heq
  | succ n ih =>
    intro M v2 H locs ls hM hS hl heq
    rw [fX6_firstDay_26] at heq
    refine lv_iload_n hx hb dX6_firstDay_26 rfl (lv_at hl 2 rfl) ?_
    refine lv_bipush (v := 60) hx hb dX6_firstDay_27 (by decide) ?_
    refine lv_icmp_ge (tgt := 50) hx hb dX6_firstDay_29 (by decide) (fun c1 => ?_) (fun c1 => ?_)
    · have heq := if_t c1 heq
      refine lv_bipush (v := (-6)) hx hb dX6_firstDay_50 (by decide) ?_
      cases heq
      exact mm_iret C hM hS dX6_firstDay_52
    · have heq := if_f c1 heq
      refine lv_aload_n hx hb dX6_firstDay_32 rfl (lv_at hl 0 rfl) ?_
      refine lv_iload_n hx hb dX6_firstDay_33 rfl (lv_at hl 1 rfl) ?_
      obtain ⟨r3, M4, e2, heq⟩ := bn2_of heq
      refine mm_ki hS (mm_runV (rest := []) C hM hS (tX6_pitchOnTrialDay l G M x1 r3 M4 e2) (uX6_227 _ (Nat.le_of_ble_eq_true rfl) (Nat.le_of_ble_eq_true rfl)) (mm_recv C hM (kl (rfl : kT 0 = (5, 0))) (ci := 5) rfl (mm_e5 (rfl : kT 0 = (5, 0)))) hl.1 rfl rfl (Nat.le_of_ble_eq_true rfl) ⟨Nat.zero_le _, Nat.zero_le _⟩ dX6_firstDay_34) (fun H locs hM hS => ?_)
      have hM : mm_P G kR 740 M4 H := hM
      refine lv_bipush (v := (-6)) hx hb dX6_firstDay_37 (by decide) ?_
      refine lv_icmp_eq (tgt := 44) hx hb dX6_firstDay_39 (by decide) (fun c5 => ?_) (fun c5 => ?_)
      · have heq := if_t c5 heq
        obtain ⟨y6, ey6⟩ : ∃ y : Int32, y = (v2 + 1) := ⟨_, rfl⟩
        have heq := lt_to ey6 heq
        refine lv_iinc (v := y6) (lv' := [(2, .int y6), (0, .ref (mm_lo G + 0)), (1, .int x1)]) hx hb dX6_firstDay_44 hl (k := 2) rfl (by rw [ey6]; rfl) (by decide) rfl (fun ls hl => ?_)
        refine lv_goto (tgt := 26) hx hb dX6_firstDay_47 (by decide) ?_
        exact ih _ _ _ _ _ hM hS (lv_sub hl [1, 2, 0] rfl) heq
      · have heq := if_f c5 heq
        refine lv_iload_n hx hb dX6_firstDay_42 rfl (lv_at hl 2 rfl) ?_
        cases heq
        exact mm_iret C hM hS dX6_firstDay_43

set_option maxRecDepth 100000 in
set_option maxHeartbeats 4000000 in
theorem tX6_firstDay (l : Launch) (G : mm_G) (M : mm_M) (x1 : Int32) (r : Int32) (M9 : mm_M) (heq : fX6_firstDay M x1 = some (r, M9)) : Met l yX6_firstDay (mm_ws yX6_firstDay cX6_firstDay 3 (some .int)) rmX6_firstDay (va_Pc [.ref (mm_lo G + 0), .int x1] (mm_B G (kR, 740, M))) (mm_Qi G r (kR, 740, M9)) 0 0 (mm_A G) := by
  refine mm_met (cc := cX6_firstDay) (nL := 3) (ret := (some .int)) plRX6 (Nat.le_of_ble_eq_true rfl) ?_
  intro p e s m below meth c ls hin C hM hS hl
  have C : mm_C G p s m _ meth c RX6 cX6_firstDay 3 (some .int) := C
  have hM : mm_P G kR 740 M s.heap := hM
  have hl : lv_has ls 3 [(0, .ref (mm_lo G + 0)), (1, .int x1)] := hl
  obtain ⟨hx, hb, -, -, -, -, -, -, hZ, -⟩ := id C
  rw [fX6_firstDay] at heq
  refine lv_aload_n hx hb dX6_firstDay_0 rfl (lv_at hl 0 rfl) ?_
  refine gX6_10 C hM (kl (rfl : kT 0 = (5, 0))) (rfl : kT 0 = (5, 0)) (rfl : kR 0 0 = some 1) dX6_firstDay_1 ?_
  refine lv_iload_n hx hb dX6_firstDay_4 rfl (lv_at hl 1 rfl) ?_
  obtain ⟨r2, e1, heq⟩ := bn_of heq
  refine mm_ki hS (mm_runV (rest := []) C hM hS (tX5_hasCart l G M 1 (rfl : kT 1 = (4, 0)) x1 r2 e1) (uX6_85 _ (Nat.le_of_ble_eq_true rfl) (Nat.le_of_ble_eq_true rfl)) (mm_recv C hM (kl (rfl : kT 1 = (4, 0))) (ci := 4) rfl (mm_e4 (rfl : kT 1 = (4, 0)))) hl.1 rfl rfl (Nat.le_of_ble_eq_true rfl) ⟨Nat.zero_le _, Nat.zero_le _⟩ dX6_firstDay_5) (fun H locs hM hS => ?_)
  have hM : mm_P G kR 740 M H := hM
  refine mm_ifneZ (tgt := 13) C dX6_firstDay_8 (by decide) (fun c3 => ?_) (fun c3 => ?_)
  · have heq := if_t c3 heq
    refine lv_aload_n hx hb dX6_firstDay_13 rfl (lv_at hl 0 rfl) ?_
    refine gX6_16 C hM (kl (rfl : kT 0 = (5, 0))) (rfl : kT 0 = (5, 0)) (rfl : kR 0 1 = some 67) dX6_firstDay_14 ?_
    refine lv_aload_n hx hb dX6_firstDay_17 rfl (lv_at hl 0 rfl) ?_
    refine gX6_10 C hM (kl (rfl : kT 0 = (5, 0))) (rfl : kT 0 = (5, 0)) (rfl : kR 0 0 = some 1) dX6_firstDay_18 ?_
    obtain ⟨M5, e4, heq⟩ := bn_of heq
    refine mm_kv hS (mm_runV (rest := []) C hM hS (tX5_copyFrom l G M 67 (rfl : kT 67 = (4, 0)) 1 (rfl : kT 1 = (4, 0)) M5 e4) (uX6_224 _ (Nat.le_of_ble_eq_true rfl) (Nat.le_of_ble_eq_true rfl)) (mm_recv C hM (kl (rfl : kT 67 = (4, 0))) (ci := 4) rfl (mm_e4 (rfl : kT 67 = (4, 0)))) hl.1 rfl rfl (Nat.le_of_ble_eq_true rfl) ⟨Nat.zero_le _, Nat.zero_le _⟩ dX6_firstDay_21) (fun H locs hM hS => ?_)
    have hM : mm_P G kR 740 M5 H := hM
    refine lv_iconst (v := 0) hx hb dX6_firstDay_24 (by decide) ?_
    refine lv_istore_n (lv' := [(2, .int 0), (0, .ref (mm_lo G + 0)), (1, .int x1)]) hx hb dX6_firstDay_25 rfl hl (by decide) rfl (fun ls hl => ?_)
    exact tX6_firstDay_26 C x1 FU _ _ _ _ _ hM hS (lv_sub hl [1, 2, 0] rfl) heq
  · have heq := if_f c3 heq
    refine lv_iconst (v := (-1)) hx hb dX6_firstDay_11 (by decide) ?_
    cases heq
    exact mm_iret C hM hS dX6_firstDay_12

set_option maxRecDepth 100000 in
set_option maxHeartbeats 4000000 in
theorem tX6_daysOf_43 (C : mm_C G p s m args meth c RX6 cX6_daysOf 5 (some .int)) (x1 : Int32) (x2 : Int32) {r : Int32} {M9 : mm_M} : ∀ n : Nat, ∀ (M : mm_M) (v3 : Int32) (v4 : Int32) (H : Heap) (locs : List Loc) (ls : Array Slot), mm_P G kR 740 M H → va_S (mm_A G) s.heap H locs → lv_has ls 5 [(0, .ref (mm_lo G + 0)), (1, .int x1), (2, .int x2), (3, .int v3), (4, .int v4)] → fX6_daysOf_43 x1 x2 n M v3 v4 = some (r, M9) → W p l e rmX6_daysOf s m args below meth c H locs 0 0 (MQ below (mm_Qi G r (kR, 740, M9)) args s 0 0 (mm_A G)) (F0 m 43 ls []) := by
  obtain ⟨hx, hb, -, -, -, -, -, -, hZ, -⟩ := id C
  intro n
  induction n with
  | zero =>
    intro M v3 v4 H locs ls hM hS hl heq
    rw [fX6_daysOf_43] at heq
    cases heq
  | succ n ih =>
    intro M v3 v4 H locs ls hM hS hl heq
    rw [fX6_daysOf_43] at heq
    refine lv_iload hx hb dX6_daysOf_43 (lv_at hl 4 rfl) ?_
    refine lv_iload_n hx hb dX6_daysOf_45 rfl (lv_at hl 2 rfl) ?_
    refine lv_icmp_ge (tgt := 68) hx hb dX6_daysOf_46 (by decide) (fun c1 => ?_) (fun c1 => ?_)
    · have heq := if_t c1 heq
      refine lv_iload_n hx hb dX6_daysOf_68 rfl (lv_at hl 3 rfl) ?_
      cases heq
      exact mm_iret C hM hS dX6_daysOf_69
    · have heq := if_f c1 heq
      refine lv_aload_n hx hb dX6_daysOf_49 rfl (lv_at hl 0 rfl) ?_
      refine lv_iload_n hx hb dX6_daysOf_50 rfl (lv_at hl 1 rfl) ?_
      obtain ⟨r3, M4, e2, heq⟩ := bn2_of heq
      refine mm_ki hS (mm_runV (rest := []) C hM hS (tX6_pitchOnTrialDay l G M x1 r3 M4 e2) (uX6_227 _ (Nat.le_of_ble_eq_true rfl) (Nat.le_of_ble_eq_true rfl)) (mm_recv C hM (kl (rfl : kT 0 = (5, 0))) (ci := 5) rfl (mm_e5 (rfl : kT 0 = (5, 0)))) hl.1 rfl rfl (Nat.le_of_ble_eq_true rfl) ⟨Nat.zero_le _, Nat.zero_le _⟩ dX6_daysOf_51) (fun H locs hM hS => ?_)
      have hM : mm_P G kR 740 M4 H := hM
      refine lv_bipush (v := (-6)) hx hb dX6_daysOf_54 (by decide) ?_
      refine lv_icmp_eq (tgt := 62) hx hb dX6_daysOf_56 (by decide) (fun c5 => ?_) (fun c5 => ?_)
      · have heq := if_t c5 heq
        obtain ⟨y6, ey6⟩ : ∃ y : Int32, y = (v4 + 1) := ⟨_, rfl⟩
        have heq := lt_to ey6 heq
        refine lv_iinc (v := y6) (lv' := [(4, .int y6), (0, .ref (mm_lo G + 0)), (1, .int x1), (2, .int x2), (3, .int v3)]) hx hb dX6_daysOf_62 hl (k := 4) rfl (by rw [ey6]; rfl) (by decide) rfl (fun ls hl => ?_)
        refine lv_goto (tgt := 43) hx hb dX6_daysOf_65 (by decide) ?_
        exact ih _ _ _ _ _ _ hM hS (lv_sub hl [1, 2, 3, 4, 0] rfl) heq
      · have heq := if_f c5 heq
        obtain ⟨y7, ey7⟩ : ∃ y : Int32, y = (v3 + 1) := ⟨_, rfl⟩
        have heq := lt_to ey7 heq
        refine lv_iinc (v := y7) (lv' := [(3, .int y7), (0, .ref (mm_lo G + 0)), (1, .int x1), (2, .int x2), (4, .int v4)]) hx hb dX6_daysOf_59 hl (k := 3) rfl (by rw [ey7]; rfl) (by decide) rfl (fun ls hl => ?_)
        obtain ⟨y8, ey8⟩ : ∃ y : Int32, y = (v4 + 1) := ⟨_, rfl⟩
        have heq := lt_to ey8 heq
        refine lv_iinc (v := y8) (lv' := [(4, .int y8), (3, .int y7), (0, .ref (mm_lo G + 0)), (1, .int x1), (2, .int x2)]) hx hb dX6_daysOf_62 hl (k := 4) rfl (by rw [ey8]; rfl) (by decide) rfl (fun ls hl => ?_)
        refine lv_goto (tgt := 43) hx hb dX6_daysOf_65 (by decide) ?_
        exact ih _ _ _ _ _ _ hM hS (lv_sub hl [2, 3, 4, 1, 0] rfl) heq

set_option maxRecDepth 100000 in
set_option maxHeartbeats 4000000 in
theorem tX6_daysOf (l : Launch) (G : mm_G) (M : mm_M) (x1 : Int32) (x2 : Int32) (r : Int32) (M9 : mm_M) (heq : fX6_daysOf M x1 x2 = some (r, M9)) : Met l yX6_daysOf (mm_ws yX6_daysOf cX6_daysOf 5 (some .int)) rmX6_daysOf (va_Pc [.ref (mm_lo G + 0), .int x1, .int x2] (mm_B G (kR, 740, M))) (mm_Qi G r (kR, 740, M9)) 0 0 (mm_A G) := by
  refine mm_met (cc := cX6_daysOf) (nL := 5) (ret := (some .int)) plRX6 (Nat.le_of_ble_eq_true rfl) ?_
  intro p e s m below meth c ls hin C hM hS hl
  have C : mm_C G p s m _ meth c RX6 cX6_daysOf 5 (some .int) := C
  have hM : mm_P G kR 740 M s.heap := hM
  have hl : lv_has ls 5 [(0, .ref (mm_lo G + 0)), (1, .int x1), (2, .int x2)] := hl
  obtain ⟨hx, hb, -, -, -, -, -, -, hZ, -⟩ := id C
  rw [fX6_daysOf] at heq
  refine lv_aload_n hx hb dX6_daysOf_0 rfl (lv_at hl 0 rfl) ?_
  refine gX6_10 C hM (kl (rfl : kT 0 = (5, 0))) (rfl : kT 0 = (5, 0)) (rfl : kR 0 0 = some 1) dX6_daysOf_1 ?_
  refine lv_iload_n hx hb dX6_daysOf_4 rfl (lv_at hl 1 rfl) ?_
  obtain ⟨r2, e1, heq⟩ := bn_of heq
  refine mm_ki hS (mm_runV (rest := []) C hM hS (tX5_hasCart l G M 1 (rfl : kT 1 = (4, 0)) x1 r2 e1) (uX6_85 _ (Nat.le_of_ble_eq_true rfl) (Nat.le_of_ble_eq_true rfl)) (mm_recv C hM (kl (rfl : kT 1 = (4, 0))) (ci := 4) rfl (mm_e4 (rfl : kT 1 = (4, 0)))) hl.1 rfl rfl (Nat.le_of_ble_eq_true rfl) ⟨Nat.zero_le _, Nat.zero_le _⟩ dX6_daysOf_5) (fun H locs hM hS => ?_)
  have hM : mm_P G kR 740 M H := hM
  refine mm_ifneZ (tgt := 13) C dX6_daysOf_8 (by decide) (fun c3 => ?_) (fun c3 => ?_)
  · have heq := if_t c3 heq
    refine lv_iload_n hx hb dX6_daysOf_13 rfl (lv_at hl 2 rfl) ?_
    refine lv_iconst (v := 1) hx hb dX6_daysOf_14 (by decide) ?_
    refine lv_icmp_lt (tgt := 24) hx hb dX6_daysOf_15 (by decide) (fun c4 => ?_) (fun c4 => ?_)
    · have heq := if_t c4 heq
      refine lv_bipush (v := (-2)) hx hb dX6_daysOf_24 (by decide) ?_
      cases heq
      exact mm_iret C hM hS dX6_daysOf_26
    · have heq := if_f c4 heq
      refine lv_iload_n hx hb dX6_daysOf_18 rfl (lv_at hl 2 rfl) ?_
      refine lv_bipush (v := 60) hx hb dX6_daysOf_19 (by decide) ?_
      refine lv_icmp_le (tgt := 27) hx hb dX6_daysOf_21 (by decide) (fun c5 => ?_) (fun c5 => ?_)
      · have heq := if_t c5 heq
        refine lv_aload_n hx hb dX6_daysOf_27 rfl (lv_at hl 0 rfl) ?_
        refine gX6_16 C hM (kl (rfl : kT 0 = (5, 0))) (rfl : kT 0 = (5, 0)) (rfl : kR 0 1 = some 67) dX6_daysOf_28 ?_
        refine lv_aload_n hx hb dX6_daysOf_31 rfl (lv_at hl 0 rfl) ?_
        refine gX6_10 C hM (kl (rfl : kT 0 = (5, 0))) (rfl : kT 0 = (5, 0)) (rfl : kR 0 0 = some 1) dX6_daysOf_32 ?_
        obtain ⟨M7, e6, heq⟩ := bn_of heq
        refine mm_kv hS (mm_runV (rest := []) C hM hS (tX5_copyFrom l G M 67 (rfl : kT 67 = (4, 0)) 1 (rfl : kT 1 = (4, 0)) M7 e6) (uX6_224 _ (Nat.le_of_ble_eq_true rfl) (Nat.le_of_ble_eq_true rfl)) (mm_recv C hM (kl (rfl : kT 67 = (4, 0))) (ci := 4) rfl (mm_e4 (rfl : kT 67 = (4, 0)))) hl.1 rfl rfl (Nat.le_of_ble_eq_true rfl) ⟨Nat.zero_le _, Nat.zero_le _⟩ dX6_daysOf_35) (fun H locs hM hS => ?_)
        have hM : mm_P G kR 740 M7 H := hM
        refine lv_iconst (v := 0) hx hb dX6_daysOf_38 (by decide) ?_
        refine lv_istore_n (lv' := [(3, .int 0), (0, .ref (mm_lo G + 0)), (1, .int x1), (2, .int x2)]) hx hb dX6_daysOf_39 rfl hl (by decide) rfl (fun ls hl => ?_)
        refine lv_iconst (v := 0) hx hb dX6_daysOf_40 (by decide) ?_
        refine lv_istore (lv' := [(4, .int 0), (3, .int 0), (0, .ref (mm_lo G + 0)), (1, .int x1), (2, .int x2)]) hx hb dX6_daysOf_41 hl (by decide) rfl (fun ls hl => ?_)
        exact tX6_daysOf_43 C x1 x2 FU _ _ _ _ _ _ hM hS (lv_sub hl [2, 3, 4, 1, 0] rfl) heq
      · have heq := if_f c5 heq
        refine lv_bipush (v := (-2)) hx hb dX6_daysOf_24 (by decide) ?_
        cases heq
        exact mm_iret C hM hS dX6_daysOf_26
  · have heq := if_f c3 heq
    refine lv_iconst (v := (-1)) hx hb dX6_daysOf_11 (by decide) ?_
    cases heq
    exact mm_iret C hM hS dX6_daysOf_12

set_option maxRecDepth 100000 in
set_option maxHeartbeats 4000000 in
theorem tX6_luckySeed_32 (C : mm_C G p s m args meth c RX6 cX6_luckySeed 5 (some .int)) (x1 : Int32) (x2 : Int32) {r : Int32} {M9 : mm_M} : ∀ n : Nat, ∀ (M : mm_M) (v3 : Int32) (H : Heap) (locs : List Loc) (ls : Array Slot), mm_P G kR 740 M H → va_S (mm_A G) s.heap H locs → lv_has ls 5 [(0, .ref (mm_lo G + 0)), (1, .int x1), (2, .int x2), (3, .int v3)] → fX6_luckySeed_32 x1 x2 n M v3 = some (r, M9) → W p l e rmX6_luckySeed s m args below meth c H locs 0 0 (MQ below (mm_Qi G r (kR, 740, M9)) args s 0 0 (mm_A G)) (F0 m 32 ls []) := by
  obtain ⟨hx, hb, -, -, -, -, -, -, hZ, -⟩ := id C
  intro n
  induction n with
  | zero =>
    intro M v3 H locs ls hM hS hl heq
    rw [fX6_luckySeed_32] at heq
    cases heq
  | succ n ih =>
    intro M v3 H locs ls hM hS hl heq
    rw [fX6_luckySeed_32] at heq
    refine lv_iload_n hx hb dX6_luckySeed_32 rfl (lv_at hl 3 rfl) ?_
    refine lv_sipush (v := 200) hx hb dX6_luckySeed_33 (by decide) ?_
    refine lv_icmp_ge (tgt := 93) hx hb dX6_luckySeed_36 (by decide) (fun c1 => ?_) (fun c1 => ?_)
    · have heq := if_t c1 heq
      refine lv_bipush (v := (-6)) hx hb dX6_luckySeed_93 (by decide) ?_
      cases heq
      exact mm_iret C hM hS dX6_luckySeed_95
    · have heq := if_f c1 heq
      refine lv_aload_n hx hb dX6_luckySeed_39 rfl (lv_at hl 0 rfl) ?_
      refine gX6_16 C hM (kl (rfl : kT 0 = (5, 0))) (rfl : kT 0 = (5, 0)) (rfl : kR 0 1 = some 67) dX6_luckySeed_40 ?_
      refine lv_aload_n hx hb dX6_luckySeed_43 rfl (lv_at hl 0 rfl) ?_
      refine gX6_10 C hM (kl (rfl : kT 0 = (5, 0))) (rfl : kT 0 = (5, 0)) (rfl : kR 0 0 = some 1) dX6_luckySeed_44 ?_
      obtain ⟨M3, e2, heq⟩ := bn_of heq
      refine mm_kv hS (mm_runV (rest := []) C hM hS (tX5_copyFrom l G M 67 (rfl : kT 67 = (4, 0)) 1 (rfl : kT 1 = (4, 0)) M3 e2) (uX6_224 _ (Nat.le_of_ble_eq_true rfl) (Nat.le_of_ble_eq_true rfl)) (mm_recv C hM (kl (rfl : kT 67 = (4, 0))) (ci := 4) rfl (mm_e4 (rfl : kT 67 = (4, 0)))) hl.1 rfl rfl (Nat.le_of_ble_eq_true rfl) ⟨Nat.zero_le _, Nat.zero_le _⟩ dX6_luckySeed_47) (fun H locs hM hS => ?_)
      have hM : mm_P G kR 740 M3 H := hM
      refine lv_aload_n hx hb dX6_luckySeed_50 rfl (lv_at hl 0 rfl) ?_
      refine gX6_16 C hM (kl (rfl : kT 0 = (5, 0))) (rfl : kT 0 = (5, 0)) (rfl : kR 0 1 = some 67) dX6_luckySeed_51 ?_
      refine lv_iload_n hx hb dX6_luckySeed_54 rfl (lv_at hl 3 rfl) ?_
      obtain ⟨r5, M6, e4, heq⟩ := bn2_of heq
      refine mm_ki hS (mm_runV (rest := []) C hM hS (tX5_changeLots l G M3 67 (rfl : kT 67 = (4, 0)) v3 r5 M6 e4) (uX6_51 _ (Nat.le_of_ble_eq_true rfl) (Nat.le_of_ble_eq_true rfl)) (mm_recv C hM (kl (rfl : kT 67 = (4, 0))) (ci := 4) rfl (mm_e4 (rfl : kT 67 = (4, 0)))) hl.1 rfl rfl (Nat.le_of_ble_eq_true rfl) ⟨Nat.zero_le _, Nat.zero_le _⟩ dX6_luckySeed_55) (fun H locs hM hS => ?_)
      have hM : mm_P G kR 740 M6 H := hM
      refine lv_pop hx hb dX6_luckySeed_58 rfl ?_
      refine lv_aload_n hx hb dX6_luckySeed_59 rfl (lv_at hl 0 rfl) ?_
      refine lv_iload_n hx hb dX6_luckySeed_60 rfl (lv_at hl 1 rfl) ?_
      obtain ⟨r8, M9, e7, heq⟩ := bn2_of heq
      refine mm_ki hS (mm_runV (rest := []) C hM hS (tX6_pitchOnTrialDay l G M6 x1 r8 M9 e7) (uX6_227 _ (Nat.le_of_ble_eq_true rfl) (Nat.le_of_ble_eq_true rfl)) (mm_recv C hM (kl (rfl : kT 0 = (5, 0))) (ci := 5) rfl (mm_e5 (rfl : kT 0 = (5, 0)))) hl.1 rfl rfl (Nat.le_of_ble_eq_true rfl) ⟨Nat.zero_le _, Nat.zero_le _⟩ dX6_luckySeed_61) (fun H locs hM hS => ?_)
      have hM : mm_P G kR 740 M9 H := hM
      refine lv_istore (lv' := [(4, .int r8), (0, .ref (mm_lo G + 0)), (1, .int x1), (2, .int x2), (3, .int v3)]) hx hb dX6_luckySeed_64 hl (by decide) rfl (fun ls hl => ?_)
      refine lv_iload hx hb dX6_luckySeed_66 (lv_at hl 0 rfl) ?_
      refine lv_bipush (v := (-6)) hx hb dX6_luckySeed_68 (by decide) ?_
      refine lv_icmp_eq (tgt := 87) hx hb dX6_luckySeed_70 (by decide) (fun c10 => ?_) (fun c10 => ?_)
      · have heq := if_t c10 heq
        obtain ⟨y11, ey11⟩ : ∃ y : Int32, y = (v3 + 1) := ⟨_, rfl⟩
        have heq := lt_to ey11 heq
        refine lv_iinc (v := y11) (lv' := [(3, .int y11), (4, .int r8), (0, .ref (mm_lo G + 0)), (1, .int x1), (2, .int x2)]) hx hb dX6_luckySeed_87 hl (k := 4) rfl (by rw [ey11]; rfl) (by decide) rfl (fun ls hl => ?_)
        refine lv_goto (tgt := 32) hx hb dX6_luckySeed_90 (by decide) ?_
        exact ih _ _ _ _ _ hM hS (lv_sub hl [2, 3, 4, 0] rfl) heq
      · have heq := if_f c10 heq
        refine lv_iload_n hx hb dX6_luckySeed_73 rfl (lv_at hl 3 rfl) ?_
        refine lv_bipush (v := (-6)) hx hb dX6_luckySeed_74 (by decide) ?_
        refine lv_icmp_eq (tgt := 85) hx hb dX6_luckySeed_76 (by decide) (fun c12 => ?_) (fun c12 => ?_)
        · have heq := if_t c12 heq
          refine lv_iload_n hx hb dX6_luckySeed_85 rfl (lv_at hl 4 rfl) ?_
          cases heq
          exact mm_iret C hM hS dX6_luckySeed_86
        · have heq := if_f c12 heq
          refine lv_iload hx hb dX6_luckySeed_79 (lv_at hl 0 rfl) ?_
          refine lv_iload_n hx hb dX6_luckySeed_81 rfl (lv_at hl 3 rfl) ?_
          refine lv_icmp_ne (tgt := 87) hx hb dX6_luckySeed_82 (by decide) (fun c13 => ?_) (fun c13 => ?_)
          · have heq := if_f c13 heq
            obtain ⟨y14, ey14⟩ : ∃ y : Int32, y = (v3 + 1) := ⟨_, rfl⟩
            have heq := lt_to ey14 heq
            refine lv_iinc (v := y14) (lv' := [(3, .int y14), (4, .int r8), (0, .ref (mm_lo G + 0)), (1, .int x1), (2, .int x2)]) hx hb dX6_luckySeed_87 hl (k := 4) rfl (by rw [ey14]; rfl) (by decide) rfl (fun ls hl => ?_)
            refine lv_goto (tgt := 32) hx hb dX6_luckySeed_90 (by decide) ?_
            exact ih _ _ _ _ _ hM hS (lv_sub hl [2, 3, 4, 0] rfl) heq
          · have heq := if_t c13 heq
            refine lv_iload_n hx hb dX6_luckySeed_85 rfl (lv_at hl 4 rfl) ?_
            cases heq
            exact mm_iret C hM hS dX6_luckySeed_86

set_option maxRecDepth 100000 in
set_option maxHeartbeats 4000000 in
theorem tX6_luckySeed (l : Launch) (G : mm_G) (M : mm_M) (x1 : Int32) (x2 : Int32) (r : Int32) (M9 : mm_M) (heq : fX6_luckySeed M x1 x2 = some (r, M9)) : Met l yX6_luckySeed (mm_ws yX6_luckySeed cX6_luckySeed 5 (some .int)) rmX6_luckySeed (va_Pc [.ref (mm_lo G + 0), .int x1, .int x2] (mm_B G (kR, 740, M))) (mm_Qi G r (kR, 740, M9)) 0 0 (mm_A G) := by
  refine mm_met (cc := cX6_luckySeed) (nL := 5) (ret := (some .int)) plRX6 (Nat.le_of_ble_eq_true rfl) ?_
  intro p e s m below meth c ls hin C hM hS hl
  have C : mm_C G p s m _ meth c RX6 cX6_luckySeed 5 (some .int) := C
  have hM : mm_P G kR 740 M s.heap := hM
  have hl : lv_has ls 5 [(0, .ref (mm_lo G + 0)), (1, .int x1), (2, .int x2)] := hl
  obtain ⟨hx, hb, -, -, -, -, -, -, hZ, -⟩ := id C
  rw [fX6_luckySeed] at heq
  refine lv_aload_n hx hb dX6_luckySeed_0 rfl (lv_at hl 0 rfl) ?_
  refine gX6_10 C hM (kl (rfl : kT 0 = (5, 0))) (rfl : kT 0 = (5, 0)) (rfl : kR 0 0 = some 1) dX6_luckySeed_1 ?_
  refine lv_iload_n hx hb dX6_luckySeed_4 rfl (lv_at hl 1 rfl) ?_
  obtain ⟨r2, e1, heq⟩ := bn_of heq
  refine mm_ki hS (mm_runV (rest := []) C hM hS (tX5_hasCart l G M 1 (rfl : kT 1 = (4, 0)) x1 r2 e1) (uX6_85 _ (Nat.le_of_ble_eq_true rfl) (Nat.le_of_ble_eq_true rfl)) (mm_recv C hM (kl (rfl : kT 1 = (4, 0))) (ci := 4) rfl (mm_e4 (rfl : kT 1 = (4, 0)))) hl.1 rfl rfl (Nat.le_of_ble_eq_true rfl) ⟨Nat.zero_le _, Nat.zero_le _⟩ dX6_luckySeed_5) (fun H locs hM hS => ?_)
  have hM : mm_P G kR 740 M H := hM
  refine mm_ifeqZ (tgt := 28) C dX6_luckySeed_8 (by decide) (fun c3 => ?_) (fun c3 => ?_)
  · have heq := if_f c3 heq
    refine lv_iconst (v := (-1)) hx hb dX6_luckySeed_28 (by decide) ?_
    cases heq
    exact mm_iret C hM hS dX6_luckySeed_29
  · have heq := if_t c3 heq
    refine lv_iload_n hx hb dX6_luckySeed_11 rfl (lv_at hl 2 rfl) ?_
    refine lv_bipush (v := (-6)) hx hb dX6_luckySeed_12 (by decide) ?_
    refine lv_icmp_eq (tgt := 30) hx hb dX6_luckySeed_14 (by decide) (fun c4 => ?_) (fun c4 => ?_)
    · have heq := if_t c4 heq
      refine lv_iconst (v := 0) hx hb dX6_luckySeed_30 (by decide) ?_
      refine lv_istore_n (lv' := [(3, .int 0), (0, .ref (mm_lo G + 0)), (1, .int x1), (2, .int x2)]) hx hb dX6_luckySeed_31 rfl hl (by decide) rfl (fun ls hl => ?_)
      exact tX6_luckySeed_32 C x1 x2 FU _ _ _ _ _ hM hS (lv_sub hl [1, 2, 3, 0] rfl) heq
    · have heq := if_f c4 heq
      refine lv_aload_n hx hb dX6_luckySeed_17 rfl (lv_at hl 0 rfl) ?_
      refine gX6_10 C hM (kl (rfl : kT 0 = (5, 0))) (rfl : kT 0 = (5, 0)) (rfl : kR 0 0 = some 1) dX6_luckySeed_18 ?_
      refine lv_iload_n hx hb dX6_luckySeed_21 rfl (lv_at hl 2 rfl) ?_
      obtain ⟨r6, e5, heq⟩ := bn_of heq
      refine mm_ki hS (mm_runV (rest := []) C hM hS (tX5_hasPitch l G M 1 (rfl : kT 1 = (4, 0)) x2 r6 e5) (uX6_175 _ (Nat.le_of_ble_eq_true rfl) (Nat.le_of_ble_eq_true rfl)) (mm_recv C hM (kl (rfl : kT 1 = (4, 0))) (ci := 4) rfl (mm_e4 (rfl : kT 1 = (4, 0)))) hl.1 rfl rfl (Nat.le_of_ble_eq_true rfl) ⟨Nat.zero_le _, Nat.zero_le _⟩ dX6_luckySeed_22) (fun H locs hM hS => ?_)
      have hM : mm_P G kR 740 M H := hM
      refine mm_ifneZ (tgt := 30) C dX6_luckySeed_25 (by decide) (fun c7 => ?_) (fun c7 => ?_)
      · have heq := if_t c7 heq
        refine lv_iconst (v := 0) hx hb dX6_luckySeed_30 (by decide) ?_
        refine lv_istore_n (lv' := [(3, .int 0), (0, .ref (mm_lo G + 0)), (1, .int x1), (2, .int x2)]) hx hb dX6_luckySeed_31 rfl hl (by decide) rfl (fun ls hl => ?_)
        exact tX6_luckySeed_32 C x1 x2 FU _ _ _ _ _ hM hS (lv_sub hl [1, 2, 3, 0] rfl) heq
      · have heq := if_f c7 heq
        refine lv_iconst (v := (-1)) hx hb dX6_luckySeed_28 (by decide) ?_
        cases heq
        exact mm_iret C hM hS dX6_luckySeed_29
end WALK
