section WALK
variable {p : Program} {l : Launch} {e : Env} {s : State} {m : MethodId} {args : Array Value} {below : List Frame} {meth : Method} {c : Code} {G : mm_G}
set_option maxRecDepth 100000 in
set_option maxHeartbeats 4000000 in
theorem tX3_awaitedBehindOrder (l : Launch) (G : mm_G) (M : mm_M) (x0 : Int32) (r : Int32) (heq : fX3_awaitedBehindOrder M x0 = some r) : Met l yX3_awaitedBehindOrder (mm_ws yX3_awaitedBehindOrder cX3_awaitedBehindOrder 1 (some .int)) rmX3_awaitedBehindOrder (va_Pc [.int x0] (mm_B G (kR, 740, M))) (mm_Qi G r (kR, 740, M)) 0 0 (mm_A G) := by
  refine mm_met (cc := cX3_awaitedBehindOrder) (nL := 1) (ret := (some .int)) plRX3 (Nat.le_of_ble_eq_true rfl) ?_
  intro p e s m below meth c ls hin C hM hS hl
  have C : mm_C G p s m _ meth c RX3 cX3_awaitedBehindOrder 1 (some .int) := C
  have hM : mm_P G kR 740 M s.heap := hM
  have hl : lv_has ls 1 [(0, .int x0)] := hl
  obtain ⟨hx, hb, -, -, -, -, -, -, hZ, -⟩ := id C
  rw [fX3_awaitedBehindOrder] at heq
  refine lv_iload_n hx hb dX3_awaitedBehindOrder_0 rfl (lv_at hl 0 rfl) ?_
  by_cases c1 : x0 = 99
  · have heq := if_t c1 heq
    refine lv_lookup (tgt := 57) (off := 56) hx hb dX3_awaitedBehindOrder_1 rfl (by rw [c1]; try rfl) (by decide) ?_
    refine lv_bipush (v := 9) hx hb dX3_awaitedBehindOrder_57 (by decide) ?_
    cases heq
    exact mm_iret C hM hS dX3_awaitedBehindOrder_59
  · have heq := if_f c1 heq
    by_cases c2 : x0 = 100
    · have heq := if_t c2 heq
      refine lv_lookup (tgt := 63) (off := 62) hx hb dX3_awaitedBehindOrder_1 rfl (by rw [c2]; try rfl) (by decide) ?_
      refine lv_bipush (v := 10) hx hb dX3_awaitedBehindOrder_63 (by decide) ?_
      cases heq
      exact mm_iret C hM hS dX3_awaitedBehindOrder_65
    · have heq := if_f c2 heq
      by_cases c3 : x0 = 102
      · have heq := if_t c3 heq
        refine lv_lookup (tgt := 54) (off := 53) hx hb dX3_awaitedBehindOrder_1 rfl (by rw [c3]; try rfl) (by decide) ?_
        refine lv_bipush (v := 6) hx hb dX3_awaitedBehindOrder_54 (by decide) ?_
        cases heq
        exact mm_iret C hM hS dX3_awaitedBehindOrder_56
      · have heq := if_f c3 heq
        by_cases c4 : x0 = 115
        · have heq := if_t c4 heq
          refine lv_lookup (tgt := 60) (off := 59) hx hb dX3_awaitedBehindOrder_1 rfl (by rw [c4]; try rfl) (by decide) ?_
          refine lv_bipush (v := 8) hx hb dX3_awaitedBehindOrder_60 (by decide) ?_
          cases heq
          exact mm_iret C hM hS dX3_awaitedBehindOrder_62
        · have heq := if_f c4 heq
          by_cases c5 : x0 = 119
          · have heq := if_t c5 heq
            refine lv_lookup (tgt := 52) (off := 51) hx hb dX3_awaitedBehindOrder_1 rfl (by rw [c5]; try rfl) (by decide) ?_
            refine lv_iconst (v := 5) hx hb dX3_awaitedBehindOrder_52 (by decide) ?_
            cases heq
            exact mm_iret C hM hS dX3_awaitedBehindOrder_53
          · have heq := if_f c5 heq
            refine lv_lookup (tgt := 66) (off := 65) hx hb dX3_awaitedBehindOrder_1 rfl (by show Op.lookupswitch.offset [(99, 56), (100, 62), (102, 53), (115, 59), (119, 51)] 65 _ = _; rw [lv_osw (a := 99) c1 rfl, lv_osw (a := 100) c2 rfl, lv_osw (a := 102) c3 rfl, lv_osw (a := 115) c4 rfl, lv_osw (a := 119) c5 rfl]; try rfl) (by decide) ?_
            refine lv_bipush (v := 11) hx hb dX3_awaitedBehindOrder_66 (by decide) ?_
            cases heq
            exact mm_iret C hM hS dX3_awaitedBehindOrder_68

set_option maxRecDepth 100000 in
set_option maxHeartbeats 4000000 in
theorem tX3_isCart (l : Launch) (G : mm_G) (M : mm_M) (x0 : Int32) (r : Bool) (heq : fX3_isCart M x0 = some r) : Met l yX3_isCart (mm_ws yX3_isCart cX3_isCart 1 (some .boolean)) rmX3_isCart (va_Pc [.int x0] (mm_B G (kR, 740, M))) (mm_Qi G (b2i r) (kR, 740, M)) 0 0 (mm_A G) := by
  refine mm_met (cc := cX3_isCart) (nL := 1) (ret := (some .boolean)) plRX3 (Nat.le_of_ble_eq_true rfl) ?_
  intro p e s m below meth c ls hin C hM hS hl
  have C : mm_C G p s m _ meth c RX3 cX3_isCart 1 (some .boolean) := C
  have hM : mm_P G kR 740 M s.heap := hM
  have hl : lv_has ls 1 [(0, .int x0)] := hl
  obtain ⟨hx, hb, -, -, -, -, -, -, hZ, -⟩ := id C
  rw [fX3_isCart] at heq
  refine lv_iload_n hx hb dX3_isCart_0 rfl (lv_at hl 0 rfl) ?_
  refine lv_bipush (v := 65) hx hb dX3_isCart_1 (by decide) ?_
  refine lv_icmp_lt (tgt := 16) hx hb dX3_isCart_3 (by decide) (fun c1 => ?_) (fun c1 => ?_)
  · have heq := if_t c1 heq
    refine lv_iconst (v := 0) hx hb dX3_isCart_16 (by decide) ?_
    cases heq
    exact mm_zret C hM hS dX3_isCart_17
  · have heq := if_f c1 heq
    refine lv_iload_n hx hb dX3_isCart_6 rfl (lv_at hl 0 rfl) ?_
    refine lv_bipush (v := 80) hx hb dX3_isCart_7 (by decide) ?_
    refine lv_icmp_gt (tgt := 16) hx hb dX3_isCart_9 (by decide) (fun c2 => ?_) (fun c2 => ?_)
    · have heq := if_t c2 heq
      refine lv_iconst (v := 0) hx hb dX3_isCart_16 (by decide) ?_
      cases heq
      exact mm_zret C hM hS dX3_isCart_17
    · have heq := if_f c2 heq
      refine lv_iconst (v := 1) hx hb dX3_isCart_12 (by decide) ?_
      refine lv_goto (tgt := 17) hx hb dX3_isCart_13 (by decide) ?_
      cases heq
      exact mm_zret C hM hS dX3_isCart_17

set_option maxRecDepth 100000 in
set_option maxHeartbeats 4000000 in
theorem tX3_isDigit (l : Launch) (G : mm_G) (M : mm_M) (x0 : Int32) (r : Bool) (heq : fX3_isDigit M x0 = some r) : Met l yX3_isDigit (mm_ws yX3_isDigit cX3_isDigit 1 (some .boolean)) rmX3_isDigit (va_Pc [.int x0] (mm_B G (kR, 740, M))) (mm_Qi G (b2i r) (kR, 740, M)) 0 0 (mm_A G) := by
  refine mm_met (cc := cX3_isDigit) (nL := 1) (ret := (some .boolean)) plRX3 (Nat.le_of_ble_eq_true rfl) ?_
  intro p e s m below meth c ls hin C hM hS hl
  have C : mm_C G p s m _ meth c RX3 cX3_isDigit 1 (some .boolean) := C
  have hM : mm_P G kR 740 M s.heap := hM
  have hl : lv_has ls 1 [(0, .int x0)] := hl
  obtain ⟨hx, hb, -, -, -, -, -, -, hZ, -⟩ := id C
  rw [fX3_isDigit] at heq
  refine lv_iload_n hx hb dX3_isDigit_0 rfl (lv_at hl 0 rfl) ?_
  refine lv_bipush (v := 48) hx hb dX3_isDigit_1 (by decide) ?_
  refine lv_icmp_lt (tgt := 16) hx hb dX3_isDigit_3 (by decide) (fun c1 => ?_) (fun c1 => ?_)
  · have heq := if_t c1 heq
    refine lv_iconst (v := 0) hx hb dX3_isDigit_16 (by decide) ?_
    cases heq
    exact mm_zret C hM hS dX3_isDigit_17
  · have heq := if_f c1 heq
    refine lv_iload_n hx hb dX3_isDigit_6 rfl (lv_at hl 0 rfl) ?_
    refine lv_bipush (v := 57) hx hb dX3_isDigit_7 (by decide) ?_
    refine lv_icmp_gt (tgt := 16) hx hb dX3_isDigit_9 (by decide) (fun c2 => ?_) (fun c2 => ?_)
    · have heq := if_t c2 heq
      refine lv_iconst (v := 0) hx hb dX3_isDigit_16 (by decide) ?_
      cases heq
      exact mm_zret C hM hS dX3_isDigit_17
    · have heq := if_f c2 heq
      refine lv_iconst (v := 1) hx hb dX3_isDigit_12 (by decide) ?_
      refine lv_goto (tgt := 17) hx hb dX3_isDigit_13 (by decide) ?_
      cases heq
      exact mm_zret C hM hS dX3_isDigit_17

set_option maxRecDepth 100000 in
set_option maxHeartbeats 4000000 in
theorem tX3_awaitedBehind (l : Launch) (G : mm_G) (M : mm_M) (x0 : Int32) (x1 : Int32) (r : Int32) (heq : fX3_awaitedBehind M x0 x1 = some r) : Met l yX3_awaitedBehind (mm_ws yX3_awaitedBehind cX3_awaitedBehind 2 (some .int)) rmX3_awaitedBehind (va_Pc [.int x0, .int x1] (mm_B G (kR, 740, M))) (mm_Qi G r (kR, 740, M)) 0 0 (mm_A G) := by
  refine mm_met (cc := cX3_awaitedBehind) (nL := 2) (ret := (some .int)) plRX3 (Nat.le_of_ble_eq_true rfl) ?_
  intro p e s m below meth c ls hin C hM hS hl
  have C : mm_C G p s m _ meth c RX3 cX3_awaitedBehind 2 (some .int) := C
  have hM : mm_P G kR 740 M s.heap := hM
  have hl : lv_has ls 2 [(0, .int x0), (1, .int x1)] := hl
  obtain ⟨hx, hb, -, -, -, -, -, -, hZ, -⟩ := id C
  rw [fX3_awaitedBehind] at heq
  refine lv_iload_n hx hb dX3_awaitedBehind_0 rfl (lv_at hl 0 rfl) ?_
  by_cases c1 : x0 = 4
  · have heq := if_t c1 heq
    refine lv_tableIn (tgt := 44) hx hb dX3_awaitedBehind_1 (by rw [c1]; decide) (by rw [c1]; decide) (by rw [c1]; rfl) (by decide) ?_
    refine lv_iload_n hx hb dX3_awaitedBehind_44 rfl (lv_at hl 1 rfl) ?_
    obtain ⟨r3, e2, heq⟩ := bn_of heq
    refine mm_ki hS (mm_runS (rest := []) C hM hS (tX3_awaitedBehindOrder l G M x1 r3 e2) (uX3_35 _ (Nat.le_of_ble_eq_true rfl) (Nat.le_of_ble_eq_true rfl)) hl.1 rfl rfl (Nat.le_of_ble_eq_true rfl) ⟨Nat.zero_le _, Nat.zero_le _⟩ dX3_awaitedBehind_45) (fun H locs hM hS => ?_)
    have hM : mm_P G kR 740 M H := hM
    cases heq
    exact mm_iret C hM hS dX3_awaitedBehind_48
  · have heq := if_f c1 heq
    by_cases c4 : x0 = 5
    · have heq := if_t c4 heq
      refine lv_tableIn (tgt := 49) hx hb dX3_awaitedBehind_1 (by rw [c4]; decide) (by rw [c4]; decide) (by rw [c4]; rfl) (by decide) ?_
      refine lv_iload_n hx hb dX3_awaitedBehind_49 rfl (lv_at hl 1 rfl) ?_
      obtain ⟨r6, e5, heq⟩ := bn_of heq
      refine mm_ki hS (mm_runS (rest := []) C hM hS (tX3_isCart l G M x1 r6 e5) (uX3_38 _ (Nat.le_of_ble_eq_true rfl) (Nat.le_of_ble_eq_true rfl)) hl.1 rfl rfl (Nat.le_of_ble_eq_true rfl) ⟨Nat.zero_le _, Nat.zero_le _⟩ dX3_awaitedBehind_50) (fun H locs hM hS => ?_)
      have hM : mm_P G kR 740 M H := hM
      refine mm_ifeqZ (tgt := 60) C dX3_awaitedBehind_53 (by decide) (fun c7 => ?_) (fun c7 => ?_)
      · have heq := if_f c7 heq
        refine lv_bipush (v := 11) hx hb dX3_awaitedBehind_60 (by decide) ?_
        cases heq
        exact mm_iret C hM hS dX3_awaitedBehind_62
      · have heq := if_t c7 heq
        refine lv_iconst (v := 3) hx hb dX3_awaitedBehind_56 (by decide) ?_
        refine lv_goto (tgt := 62) hx hb dX3_awaitedBehind_57 (by decide) ?_
        cases heq
        exact mm_iret C hM hS dX3_awaitedBehind_62
    · have heq := if_f c4 heq
      by_cases c8 : x0 = 6
      · have heq := if_t c8 heq
        refine lv_tableIn (tgt := 63) hx hb dX3_awaitedBehind_1 (by rw [c8]; decide) (by rw [c8]; decide) (by rw [c8]; rfl) (by decide) ?_
        refine lv_iload_n hx hb dX3_awaitedBehind_63 rfl (lv_at hl 1 rfl) ?_
        obtain ⟨r10, e9, heq⟩ := bn_of heq
        refine mm_ki hS (mm_runS (rest := []) C hM hS (tX3_isCart l G M x1 r10 e9) (uX3_38 _ (Nat.le_of_ble_eq_true rfl) (Nat.le_of_ble_eq_true rfl)) hl.1 rfl rfl (Nat.le_of_ble_eq_true rfl) ⟨Nat.zero_le _, Nat.zero_le _⟩ dX3_awaitedBehind_64) (fun H locs hM hS => ?_)
        have hM : mm_P G kR 740 M H := hM
        refine mm_ifeqZ (tgt := 75) C dX3_awaitedBehind_67 (by decide) (fun c11 => ?_) (fun c11 => ?_)
        · have heq := if_f c11 heq
          refine lv_bipush (v := 11) hx hb dX3_awaitedBehind_75 (by decide) ?_
          cases heq
          exact mm_iret C hM hS dX3_awaitedBehind_77
        · have heq := if_t c11 heq
          refine lv_bipush (v := 7) hx hb dX3_awaitedBehind_70 (by decide) ?_
          refine lv_goto (tgt := 77) hx hb dX3_awaitedBehind_72 (by decide) ?_
          cases heq
          exact mm_iret C hM hS dX3_awaitedBehind_77
      · have heq := if_f c8 heq
        by_cases c12 : x0 = 7
        · have heq := if_t c12 heq
          refine lv_tableIn (tgt := 78) hx hb dX3_awaitedBehind_1 (by rw [c12]; decide) (by rw [c12]; decide) (by rw [c12]; rfl) (by decide) ?_
          refine lv_iload_n hx hb dX3_awaitedBehind_78 rfl (lv_at hl 1 rfl) ?_
          refine lv_bipush (v := 49) hx hb dX3_awaitedBehind_79 (by decide) ?_
          refine lv_icmp_lt (tgt := 94) hx hb dX3_awaitedBehind_81 (by decide) (fun c13 => ?_) (fun c13 => ?_)
          · have heq := if_t c13 heq
            refine lv_bipush (v := 11) hx hb dX3_awaitedBehind_94 (by decide) ?_
            cases heq
            exact mm_iret C hM hS dX3_awaitedBehind_96
          · have heq := if_f c13 heq
            refine lv_iload_n hx hb dX3_awaitedBehind_84 rfl (lv_at hl 1 rfl) ?_
            refine lv_bipush (v := 57) hx hb dX3_awaitedBehind_85 (by decide) ?_
            refine lv_icmp_gt (tgt := 94) hx hb dX3_awaitedBehind_87 (by decide) (fun c14 => ?_) (fun c14 => ?_)
            · have heq := if_t c14 heq
              refine lv_bipush (v := 11) hx hb dX3_awaitedBehind_94 (by decide) ?_
              cases heq
              exact mm_iret C hM hS dX3_awaitedBehind_96
            · have heq := if_f c14 heq
              refine lv_iconst (v := 0) hx hb dX3_awaitedBehind_90 (by decide) ?_
              refine lv_goto (tgt := 96) hx hb dX3_awaitedBehind_91 (by decide) ?_
              cases heq
              exact mm_iret C hM hS dX3_awaitedBehind_96
        · have heq := if_f c12 heq
          by_cases c15 : x0 = 8
          · have heq := if_t c15 heq
            refine lv_tableIn (tgt := 97) hx hb dX3_awaitedBehind_1 (by rw [c15]; decide) (by rw [c15]; decide) (by rw [c15]; rfl) (by decide) ?_
            refine lv_iload_n hx hb dX3_awaitedBehind_97 rfl (lv_at hl 1 rfl) ?_
            obtain ⟨r17, e16, heq⟩ := bn_of heq
            refine mm_ki hS (mm_runS (rest := []) C hM hS (tX3_isCart l G M x1 r17 e16) (uX3_38 _ (Nat.le_of_ble_eq_true rfl) (Nat.le_of_ble_eq_true rfl)) hl.1 rfl rfl (Nat.le_of_ble_eq_true rfl) ⟨Nat.zero_le _, Nat.zero_le _⟩ dX3_awaitedBehind_98) (fun H locs hM hS => ?_)
            have hM : mm_P G kR 740 M H := hM
            refine mm_ifeqZ (tgt := 109) C dX3_awaitedBehind_101 (by decide) (fun c18 => ?_) (fun c18 => ?_)
            · have heq := if_f c18 heq
              refine lv_bipush (v := 11) hx hb dX3_awaitedBehind_109 (by decide) ?_
              cases heq
              exact mm_iret C hM hS dX3_awaitedBehind_111
            · have heq := if_t c18 heq
              refine lv_bipush (v := 9) hx hb dX3_awaitedBehind_104 (by decide) ?_
              refine lv_goto (tgt := 111) hx hb dX3_awaitedBehind_106 (by decide) ?_
              cases heq
              exact mm_iret C hM hS dX3_awaitedBehind_111
          · have heq := if_f c15 heq
            by_cases c19 : x0 = 9
            · have heq := if_t c19 heq
              refine lv_tableIn (tgt := 112) hx hb dX3_awaitedBehind_1 (by rw [c19]; decide) (by rw [c19]; decide) (by rw [c19]; rfl) (by decide) ?_
              refine lv_iload_n hx hb dX3_awaitedBehind_112 rfl (lv_at hl 1 rfl) ?_
              obtain ⟨r21, e20, heq⟩ := bn_of heq
              refine mm_ki hS (mm_runS (rest := []) C hM hS (tX3_isCart l G M x1 r21 e20) (uX3_38 _ (Nat.le_of_ble_eq_true rfl) (Nat.le_of_ble_eq_true rfl)) hl.1 rfl rfl (Nat.le_of_ble_eq_true rfl) ⟨Nat.zero_le _, Nat.zero_le _⟩ dX3_awaitedBehind_113) (fun H locs hM hS => ?_)
              have hM : mm_P G kR 740 M H := hM
              refine mm_ifeqZ (tgt := 123) C dX3_awaitedBehind_116 (by decide) (fun c22 => ?_) (fun c22 => ?_)
              · have heq := if_f c22 heq
                refine lv_bipush (v := 11) hx hb dX3_awaitedBehind_123 (by decide) ?_
                cases heq
                exact mm_iret C hM hS dX3_awaitedBehind_125
              · have heq := if_t c22 heq
                refine lv_iconst (v := 0) hx hb dX3_awaitedBehind_119 (by decide) ?_
                refine lv_goto (tgt := 125) hx hb dX3_awaitedBehind_120 (by decide) ?_
                cases heq
                exact mm_iret C hM hS dX3_awaitedBehind_125
            · have heq := if_f c19 heq
              by_cases c23 : x0 = 10
              · have heq := if_t c23 heq
                refine lv_tableIn (tgt := 126) hx hb dX3_awaitedBehind_1 (by rw [c23]; decide) (by rw [c23]; decide) (by rw [c23]; rfl) (by decide) ?_
                refine lv_iload_n hx hb dX3_awaitedBehind_126 rfl (lv_at hl 1 rfl) ?_
                obtain ⟨r25, e24, heq⟩ := bn_of heq
                refine mm_ki hS (mm_runS (rest := []) C hM hS (tX3_isDigit l G M x1 r25 e24) (uX3_42 _ (Nat.le_of_ble_eq_true rfl) (Nat.le_of_ble_eq_true rfl)) hl.1 rfl rfl (Nat.le_of_ble_eq_true rfl) ⟨Nat.zero_le _, Nat.zero_le _⟩ dX3_awaitedBehind_127) (fun H locs hM hS => ?_)
                have hM : mm_P G kR 740 M H := hM
                refine mm_ifneZ (tgt := 138) C dX3_awaitedBehind_130 (by decide) (fun c26 => ?_) (fun c26 => ?_)
                · have heq := if_t c26 heq
                  refine lv_iload_n hx hb dX3_awaitedBehind_138 rfl (lv_at hl 1 rfl) ?_
                  refine lv_bipush (v := 48) hx hb dX3_awaitedBehind_139 (by decide) ?_
                  refine lv_icmp_ne (tgt := 148) hx hb dX3_awaitedBehind_141 (by decide) (fun c27 => ?_) (fun c27 => ?_)
                  · have heq := if_f c27 heq
                    refine lv_iconst (v := 1) hx hb dX3_awaitedBehind_148 (by decide) ?_
                    cases heq
                    exact mm_iret C hM hS dX3_awaitedBehind_149
                  · have heq := if_t c27 heq
                    refine lv_iconst (v := 0) hx hb dX3_awaitedBehind_144 (by decide) ?_
                    refine lv_goto (tgt := 149) hx hb dX3_awaitedBehind_145 (by decide) ?_
                    cases heq
                    exact mm_iret C hM hS dX3_awaitedBehind_149
                · have heq := if_f c26 heq
                  refine lv_bipush (v := 11) hx hb dX3_awaitedBehind_133 (by decide) ?_
                  refine lv_goto (tgt := 149) hx hb dX3_awaitedBehind_135 (by decide) ?_
                  cases heq
                  exact mm_iret C hM hS dX3_awaitedBehind_149
              · have heq := if_f c23 heq
                refine lv_tableOut (tgt := 150) hx hb dX3_awaitedBehind_1 (by have nc1 := lv_neT (k := 4) (a := 4) c1 rfl; have nc4 := lv_neT (k := 5) (a := 5) c4 rfl; have nc8 := lv_neT (k := 6) (a := 6) c8 rfl; have nc12 := lv_neT (k := 7) (a := 7) c12 rfl; have nc15 := lv_neT (k := 8) (a := 8) c15 rfl; have nc19 := lv_neT (k := 9) (a := 9) c19 rfl; have nc23 := lv_neT (k := 10) (a := 10) c23 rfl; omega) (by decide) ?_
                refine lv_iload_n hx hb dX3_awaitedBehind_150 rfl (lv_at hl 1 rfl) ?_
                refine lv_bipush (v := 59) hx hb dX3_awaitedBehind_151 (by decide) ?_
                refine lv_icmp_ne (tgt := 160) hx hb dX3_awaitedBehind_153 (by decide) (fun c28 => ?_) (fun c28 => ?_)
                · have heq := if_f c28 heq
                  refine lv_iload_n hx hb dX3_awaitedBehind_160 rfl (lv_at hl 0 rfl) ?_
                  refine lv_if_le (tgt := 177) hx hb dX3_awaitedBehind_161 (by decide) (fun c29 => ?_) (fun c29 => ?_)
                  · have heq := if_t c29 heq
                    refine lv_bipush (v := 11) hx hb dX3_awaitedBehind_177 (by decide) ?_
                    cases heq
                    exact mm_iret C hM hS dX3_awaitedBehind_179
                  · have heq := if_f c29 heq
                    refine lv_iload_n hx hb dX3_awaitedBehind_164 rfl (lv_at hl 1 rfl) ?_
                    obtain ⟨r31, e30, heq⟩ := bn_of heq
                    refine mm_ki hS (mm_runS (rest := []) C hM hS (tX3_isDigit l G M x1 r31 e30) (uX3_42 _ (Nat.le_of_ble_eq_true rfl) (Nat.le_of_ble_eq_true rfl)) hl.1 rfl rfl (Nat.le_of_ble_eq_true rfl) ⟨Nat.zero_le _, Nat.zero_le _⟩ dX3_awaitedBehind_165) (fun H locs hM hS => ?_)
                    have hM : mm_P G kR 740 M H := hM
                    refine mm_ifeqZ (tgt := 177) C dX3_awaitedBehind_168 (by decide) (fun c32 => ?_) (fun c32 => ?_)
                    · have heq := if_f c32 heq
                      refine lv_bipush (v := 11) hx hb dX3_awaitedBehind_177 (by decide) ?_
                      cases heq
                      exact mm_iret C hM hS dX3_awaitedBehind_179
                    · have heq := if_t c32 heq
                      refine lv_iload_n hx hb dX3_awaitedBehind_171 rfl (lv_at hl 0 rfl) ?_
                      refine lv_iconst (v := 1) hx hb dX3_awaitedBehind_172 (by decide) ?_
                      refine lv_isub hx hb dX3_awaitedBehind_173 ?_
                      refine lv_goto (tgt := 179) hx hb dX3_awaitedBehind_174 (by decide) ?_
                      cases heq
                      exact mm_iret C hM hS dX3_awaitedBehind_179
                · have heq := if_t c28 heq
                  refine lv_iconst (v := 4) hx hb dX3_awaitedBehind_156 (by decide) ?_
                  refine lv_goto (tgt := 179) hx hb dX3_awaitedBehind_157 (by decide) ?_
                  cases heq
                  exact mm_iret C hM hS dX3_awaitedBehind_179

set_option maxRecDepth 100000 in
set_option maxHeartbeats 4000000 in
theorem tX3_findFault_4 (C : mm_C G p s m args meth c RX3 cX3_findFault 3 (some .int)) (a0 : Nat) (h0 : kT a0 = (2, 0)) (M : mm_M) {r : Int32} : ∀ n : Nat, ∀ (v1 : Int32) (v2 : Int32) (H : Heap) (locs : List Loc) (ls : Array Slot), mm_P G kR 740 M H → va_S (mm_A G) s.heap H locs → lv_has ls 3 [(0, .ref (mm_lo G + a0)), (1, .int v1), (2, .int v2)] → fX3_findFault_4 a0 M n v1 v2 = some r → W p l e rmX3_findFault s m args below meth c H locs 0 0 (MQ below (mm_Qi G r (kR, 740, M)) args s 0 0 (mm_A G)) (F0 m 4 ls []) := by
  obtain ⟨hx, hb, -, -, -, -, -, -, hZ, -⟩ := id C
  intro n
  induction n with
  | zero =>
    intro v1 v2 H locs ls hM hS hl heq
    rw [fX3_findFault_4] at heq
    cases heq
  | succ n ih =>
    intro v1 v2 H locs ls hM hS hl heq
    rw [fX3_findFault_4] at heq
    refine lv_iload_n hx hb dX3_findFault_4 rfl (lv_at hl 2 rfl) ?_
    refine lv_aload_n hx hb dX3_findFault_5 rfl (lv_at hl 0 rfl) ?_
    refine gX3_19 C hM (kl h0) h0 dX3_findFault_6 ?_
    refine lv_icmp_ge (tgt := 36) hx hb dX3_findFault_9 (by decide) (fun c1 => ?_) (fun c1 => ?_)
    · have heq := if_t c1 heq
      refine lv_iload_n hx hb dX3_findFault_36 rfl (lv_at hl 1 rfl) ?_
      refine lv_iconst (v := 3) hx hb dX3_findFault_37 (by decide) ?_
      refine lv_icmp_gt (tgt := 46) hx hb dX3_findFault_38 (by decide) (fun c2 => ?_) (fun c2 => ?_)
      · have heq := if_t c2 heq
        refine lv_aload_n hx hb dX3_findFault_46 rfl (lv_at hl 0 rfl) ?_
        refine gX3_19 C hM (kl h0) h0 dX3_findFault_47 ?_
        cases heq
        exact mm_iret C hM hS dX3_findFault_50
      · have heq := if_f c2 heq
        refine lv_bipush (v := (-6)) hx hb dX3_findFault_41 (by decide) ?_
        refine lv_goto (tgt := 50) hx hb dX3_findFault_43 (by decide) ?_
        cases heq
        exact mm_iret C hM hS dX3_findFault_50
    · have heq := if_f c1 heq
      refine lv_iload_n hx hb dX3_findFault_12 rfl (lv_at hl 1 rfl) ?_
      refine lv_aload_n hx hb dX3_findFault_13 rfl (lv_at hl 0 rfl) ?_
      refine lv_iload_n hx hb dX3_findFault_14 rfl (lv_at hl 2 rfl) ?_
      obtain ⟨r4, e3, heq⟩ := bn_of heq
      refine mm_ki hS (mm_runV (rest := [.int v1]) C hM hS (tX3_signAt l G M a0 h0 v2 r4 e3) (uX3_27 _ (Nat.le_of_ble_eq_true rfl) (Nat.le_of_ble_eq_true rfl)) (mm_recv C hM (kl h0) (ci := 2) rfl (mm_e2 h0)) hl.1 rfl rfl (Nat.le_of_ble_eq_true rfl) ⟨Nat.zero_le _, Nat.zero_le _⟩ dX3_findFault_15) (fun H locs hM hS => ?_)
      have hM : mm_P G kR 740 M H := hM
      obtain ⟨r6, e5, heq⟩ := bn_of heq
      refine mm_ki hS (mm_runS (rest := []) C hM hS (tX3_awaitedBehind l G M v1 r4 r6 e5) (uX3_31 _ (Nat.le_of_ble_eq_true rfl) (Nat.le_of_ble_eq_true rfl)) hl.1 rfl rfl (Nat.le_of_ble_eq_true rfl) ⟨Nat.zero_le _, Nat.zero_le _⟩ dX3_findFault_18) (fun H locs hM hS => ?_)
      have hM : mm_P G kR 740 M H := hM
      refine lv_istore_n (lv' := [(1, .int r6), (0, .ref (mm_lo G + a0)), (2, .int v2)]) hx hb dX3_findFault_21 rfl hl (by decide) rfl (fun ls hl => ?_)
      refine lv_iload_n hx hb dX3_findFault_22 rfl (lv_at hl 0 rfl) ?_
      refine lv_bipush (v := 11) hx hb dX3_findFault_23 (by decide) ?_
      refine lv_icmp_ne (tgt := 30) hx hb dX3_findFault_25 (by decide) (fun c7 => ?_) (fun c7 => ?_)
      · have heq := if_f c7 heq
        obtain ⟨y8, ey8⟩ : ∃ y : Int32, y = (v2 + 1) := ⟨_, rfl⟩
        have heq := lt_to ey8 heq
        refine lv_iinc (v := y8) (lv' := [(2, .int y8), (1, .int r6), (0, .ref (mm_lo G + a0))]) hx hb dX3_findFault_30 hl (k := 2) rfl (by rw [ey8]; rfl) (by decide) rfl (fun ls hl => ?_)
        refine lv_goto (tgt := 4) hx hb dX3_findFault_33 (by decide) ?_
        exact ih _ _ _ _ _ hM hS (lv_sub hl [2, 1, 0] rfl) heq
      · have heq := if_t c7 heq
        refine lv_iload_n hx hb dX3_findFault_28 rfl (lv_at hl 2 rfl) ?_
        cases heq
        exact mm_iret C hM hS dX3_findFault_29

set_option maxRecDepth 100000 in
set_option maxHeartbeats 4000000 in
theorem tX3_findFault (l : Launch) (G : mm_G) (M : mm_M) (a0 : Nat) (h0 : kT a0 = (2, 0)) (r : Int32) (heq : fX3_findFault M a0 = some r) : Met l yX3_findFault (mm_ws yX3_findFault cX3_findFault 3 (some .int)) rmX3_findFault (va_Pc [.ref (mm_lo G + a0)] (mm_B G (kR, 740, M))) (mm_Qi G r (kR, 740, M)) 0 0 (mm_A G) := by
  refine mm_met (cc := cX3_findFault) (nL := 3) (ret := (some .int)) plRX3 (Nat.le_of_ble_eq_true rfl) ?_
  intro p e s m below meth c ls hin C hM hS hl
  have C : mm_C G p s m _ meth c RX3 cX3_findFault 3 (some .int) := C
  have hM : mm_P G kR 740 M s.heap := hM
  have hl : lv_has ls 3 [(0, .ref (mm_lo G + a0))] := hl
  obtain ⟨hx, hb, -, -, -, -, -, -, hZ, -⟩ := id C
  rw [fX3_findFault] at heq
  refine lv_iconst (v := 4) hx hb dX3_findFault_0 (by decide) ?_
  refine lv_istore_n (lv' := [(1, .int 4), (0, .ref (mm_lo G + a0))]) hx hb dX3_findFault_1 rfl hl (by decide) rfl (fun ls hl => ?_)
  refine lv_iconst (v := 0) hx hb dX3_findFault_2 (by decide) ?_
  refine lv_istore_n (lv' := [(2, .int 0), (1, .int 4), (0, .ref (mm_lo G + a0))]) hx hb dX3_findFault_3 rfl hl (by decide) rfl (fun ls hl => ?_)
  exact tX3_findFault_4 C a0 h0 M FU _ _ _ _ _ hM hS (lv_sub hl [2, 1, 0] rfl) heq

set_option maxRecDepth 100000 in
set_option maxHeartbeats 4000000 in
theorem tX3_endsOrder (l : Launch) (G : mm_G) (M : mm_M) (a0 : Nat) (h0 : kT a0 = (2, 0)) (x1 : Int32) (r : Bool) (heq : fX3_endsOrder M a0 x1 = some r) : Met l yX3_endsOrder (mm_ws yX3_endsOrder cX3_endsOrder 2 (some .boolean)) rmX3_endsOrder (va_Pc [.ref (mm_lo G + a0), .int x1] (mm_B G (kR, 740, M))) (mm_Qi G (b2i r) (kR, 740, M)) 0 0 (mm_A G) := by
  refine mm_met (cc := cX3_endsOrder) (nL := 2) (ret := (some .boolean)) plRX3 (Nat.le_of_ble_eq_true rfl) ?_
  intro p e s m below meth c ls hin C hM hS hl
  have C : mm_C G p s m _ meth c RX3 cX3_endsOrder 2 (some .boolean) := C
  have hM : mm_P G kR 740 M s.heap := hM
  have hl : lv_has ls 2 [(0, .ref (mm_lo G + a0)), (1, .int x1)] := hl
  obtain ⟨hx, hb, -, -, -, -, -, -, hZ, -⟩ := id C
  rw [fX3_endsOrder] at heq
  refine lv_iload_n hx hb dX3_endsOrder_0 rfl (lv_at hl 1 rfl) ?_
  refine lv_aload_n hx hb dX3_endsOrder_1 rfl (lv_at hl 0 rfl) ?_
  refine gX3_19 C hM (kl h0) h0 dX3_endsOrder_2 ?_
  refine lv_icmp_eq (tgt := 18) hx hb dX3_endsOrder_5 (by decide) (fun c1 => ?_) (fun c1 => ?_)
  · have heq := if_t c1 heq
    refine lv_iconst (v := 1) hx hb dX3_endsOrder_18 (by decide) ?_
    refine lv_goto (tgt := 23) hx hb dX3_endsOrder_19 (by decide) ?_
    cases heq
    exact mm_zret C hM hS dX3_endsOrder_23
  · have heq := if_f c1 heq
    refine lv_aload_n hx hb dX3_endsOrder_8 rfl (lv_at hl 0 rfl) ?_
    refine lv_iload_n hx hb dX3_endsOrder_9 rfl (lv_at hl 1 rfl) ?_
    obtain ⟨r3, e2, heq⟩ := bn_of heq
    refine mm_ki hS (mm_runV (rest := []) C hM hS (tX3_signAt l G M a0 h0 x1 r3 e2) (uX3_27 _ (Nat.le_of_ble_eq_true rfl) (Nat.le_of_ble_eq_true rfl)) (mm_recv C hM (kl h0) (ci := 2) rfl (mm_e2 h0)) hl.1 rfl rfl (Nat.le_of_ble_eq_true rfl) ⟨Nat.zero_le _, Nat.zero_le _⟩ dX3_endsOrder_10) (fun H locs hM hS => ?_)
    have hM : mm_P G kR 740 M H := hM
    refine lv_bipush (v := 59) hx hb dX3_endsOrder_13 (by decide) ?_
    refine lv_icmp_ne (tgt := 22) hx hb dX3_endsOrder_15 (by decide) (fun c4 => ?_) (fun c4 => ?_)
    · have heq := if_f c4 heq
      refine lv_iconst (v := 0) hx hb dX3_endsOrder_22 (by decide) ?_
      cases heq
      exact mm_zret C hM hS dX3_endsOrder_23
    · have heq := if_t c4 heq
      refine lv_iconst (v := 1) hx hb dX3_endsOrder_18 (by decide) ?_
      refine lv_goto (tgt := 23) hx hb dX3_endsOrder_19 (by decide) ?_
      cases heq
      exact mm_zret C hM hS dX3_endsOrder_23

set_option maxRecDepth 100000 in
set_option maxHeartbeats 4000000 in
theorem tX3_wishAt (l : Launch) (G : mm_G) (M : mm_M) (a0 : Nat) (h0 : kT a0 = (2, 0)) (x1 : Int32) (x2 : Int32) (r : Int32) (heq : fX3_wishAt M a0 x1 x2 = some r) : Met l yX3_wishAt (mm_ws yX3_wishAt cX3_wishAt 3 (some .int)) rmX3_wishAt (va_Pc [.ref (mm_lo G + a0), .int x1, .int x2] (mm_B G (kR, 740, M))) (mm_Qi G r (kR, 740, M)) 0 0 (mm_A G) := by
  refine mm_met (cc := cX3_wishAt) (nL := 3) (ret := (some .int)) plRX3 (Nat.le_of_ble_eq_true rfl) ?_
  intro p e s m below meth c ls hin C hM hS hl
  have C : mm_C G p s m _ meth c RX3 cX3_wishAt 3 (some .int) := C
  have hM : mm_P G kR 740 M s.heap := hM
  have hl : lv_has ls 3 [(0, .ref (mm_lo G + a0)), (1, .int x1), (2, .int x2)] := hl
  obtain ⟨hx, hb, -, -, -, -, -, -, hZ, -⟩ := id C
  rw [fX3_wishAt] at heq
  refine lv_iload_n hx hb dX3_wishAt_0 rfl (lv_at hl 1 rfl) ?_
  refine lv_iload_n hx hb dX3_wishAt_1 rfl (lv_at hl 2 rfl) ?_
  refine lv_icmp_ge (tgt := 16) hx hb dX3_wishAt_2 (by decide) (fun c1 => ?_) (fun c1 => ?_)
  · have heq := if_t c1 heq
    refine lv_bipush (v := (-6)) hx hb dX3_wishAt_16 (by decide) ?_
    cases heq
    exact mm_iret C hM hS dX3_wishAt_18
  · have heq := if_f c1 heq
    refine lv_aload_n hx hb dX3_wishAt_5 rfl (lv_at hl 0 rfl) ?_
    refine lv_iload_n hx hb dX3_wishAt_6 rfl (lv_at hl 1 rfl) ?_
    obtain ⟨r3, e2, heq⟩ := bn_of heq
    refine mm_ki hS (mm_runV (rest := []) C hM hS (tX3_signAt l G M a0 h0 x1 r3 e2) (uX3_27 _ (Nat.le_of_ble_eq_true rfl) (Nat.le_of_ble_eq_true rfl)) (mm_recv C hM (kl h0) (ci := 2) rfl (mm_e2 h0)) hl.1 rfl rfl (Nat.le_of_ble_eq_true rfl) ⟨Nat.zero_le _, Nat.zero_le _⟩ dX3_wishAt_7) (fun H locs hM hS => ?_)
    have hM : mm_P G kR 740 M H := hM
    refine lv_bipush (v := 48) hx hb dX3_wishAt_10 (by decide) ?_
    refine lv_isub hx hb dX3_wishAt_12 ?_
    refine lv_goto (tgt := 18) hx hb dX3_wishAt_13 (by decide) ?_
    cases heq
    exact mm_iret C hM hS dX3_wishAt_18

set_option maxRecDepth 100000 in
set_option maxHeartbeats 4000000 in
theorem tX3_numberAt_5 (C : mm_C G p s m args meth c RX3 cX3_numberAt 5 (some .int)) (a0 : Nat) (h0 : kT a0 = (2, 0)) (x1 : Int32) (x2 : Int32) (M : mm_M) {r : Int32} : ∀ n : Nat, ∀ (v3 : Int32) (v4 : Int32) (H : Heap) (locs : List Loc) (ls : Array Slot), mm_P G kR 740 M H → va_S (mm_A G) s.heap H locs → lv_has ls 5 [(0, .ref (mm_lo G + a0)), (2, .int x2), (3, .int v3), (4, .int v4)] → fX3_numberAt_5 a0 x1 x2 M n v3 v4 = some r → W p l e rmX3_numberAt s m args below meth c H locs 0 0 (MQ below (mm_Qi G r (kR, 740, M)) args s 0 0 (mm_A G)) (F0 m 5 ls []) := by
  obtain ⟨hx, hb, -, -, -, -, -, -, hZ, -⟩ := id C
  intro n
  induction n with
  | zero =>
    intro v3 v4 H locs ls hM hS hl heq
    rw [fX3_numberAt_5] at heq
    cases heq
  | succ n ih =>
    intro v3 v4 H locs ls hM hS hl heq
    rw [fX3_numberAt_5] at heq
    refine lv_iload hx hb dX3_numberAt_5 (lv_at hl 3 rfl) ?_
    refine lv_iload_n hx hb dX3_numberAt_7 rfl (lv_at hl 1 rfl) ?_
    refine lv_icmp_ge (tgt := 32) hx hb dX3_numberAt_8 (by decide) (fun c1 => ?_) (fun c1 => ?_)
    · have heq := if_t c1 heq
      refine lv_iload_n hx hb dX3_numberAt_32 rfl (lv_at hl 2 rfl) ?_
      cases heq
      exact mm_iret C hM hS dX3_numberAt_33
    · have heq := if_f c1 heq
      refine lv_bipush (v := 10) hx hb dX3_numberAt_11 (by decide) ?_
      refine lv_iload_n hx hb dX3_numberAt_13 rfl (lv_at hl 2 rfl) ?_
      refine lv_imul hx hb dX3_numberAt_14 ?_
      refine lv_aload_n hx hb dX3_numberAt_15 rfl (lv_at hl 0 rfl) ?_
      refine lv_iload hx hb dX3_numberAt_16 (lv_at hl 3 rfl) ?_
      obtain ⟨r3, e2, heq⟩ := bn_of heq
      refine mm_ki hS (mm_runV (rest := [.int (10 * v3)]) C hM hS (tX3_signAt l G M a0 h0 v4 r3 e2) (uX3_27 _ (Nat.le_of_ble_eq_true rfl) (Nat.le_of_ble_eq_true rfl)) (mm_recv C hM (kl h0) (ci := 2) rfl (mm_e2 h0)) hl.1 rfl rfl (Nat.le_of_ble_eq_true rfl) ⟨Nat.zero_le _, Nat.zero_le _⟩ dX3_numberAt_18) (fun H locs hM hS => ?_)
      have hM : mm_P G kR 740 M H := hM
      refine lv_iadd hx hb dX3_numberAt_21 ?_
      refine lv_bipush (v := 48) hx hb dX3_numberAt_22 (by decide) ?_
      refine lv_isub hx hb dX3_numberAt_24 ?_
      refine lv_topi (fun y4 ey4 => ?_)
      have heq := lt_to ey4 heq
      refine lv_istore_n (lv' := [(3, .int y4), (0, .ref (mm_lo G + a0)), (2, .int x2), (4, .int v4)]) hx hb dX3_numberAt_25 rfl hl (by decide) rfl (fun ls hl => ?_)
      obtain ⟨y5, ey5⟩ : ∃ y : Int32, y = (v4 + 1) := ⟨_, rfl⟩
      have heq := lt_to ey5 heq
      refine lv_iinc (v := y5) (lv' := [(4, .int y5), (3, .int y4), (0, .ref (mm_lo G + a0)), (2, .int x2)]) hx hb dX3_numberAt_26 hl (k := 3) rfl (by rw [ey5]; rfl) (by decide) rfl (fun ls hl => ?_)
      refine lv_goto (tgt := 5) hx hb dX3_numberAt_29 (by decide) ?_
      exact ih _ _ _ _ _ hM hS (lv_sub hl [2, 3, 1, 0] rfl) heq

set_option maxRecDepth 100000 in
set_option maxHeartbeats 4000000 in
theorem tX3_numberAt (l : Launch) (G : mm_G) (M : mm_M) (a0 : Nat) (h0 : kT a0 = (2, 0)) (x1 : Int32) (x2 : Int32) (r : Int32) (heq : fX3_numberAt M a0 x1 x2 = some r) : Met l yX3_numberAt (mm_ws yX3_numberAt cX3_numberAt 5 (some .int)) rmX3_numberAt (va_Pc [.ref (mm_lo G + a0), .int x1, .int x2] (mm_B G (kR, 740, M))) (mm_Qi G r (kR, 740, M)) 0 0 (mm_A G) := by
  refine mm_met (cc := cX3_numberAt) (nL := 5) (ret := (some .int)) plRX3 (Nat.le_of_ble_eq_true rfl) ?_
  intro p e s m below meth c ls hin C hM hS hl
  have C : mm_C G p s m _ meth c RX3 cX3_numberAt 5 (some .int) := C
  have hM : mm_P G kR 740 M s.heap := hM
  have hl : lv_has ls 5 [(0, .ref (mm_lo G + a0)), (1, .int x1), (2, .int x2)] := hl
  obtain ⟨hx, hb, -, -, -, -, -, -, hZ, -⟩ := id C
  rw [fX3_numberAt] at heq
  refine lv_iconst (v := 0) hx hb dX3_numberAt_0 (by decide) ?_
  refine lv_istore_n (lv' := [(3, .int 0), (0, .ref (mm_lo G + a0)), (1, .int x1), (2, .int x2)]) hx hb dX3_numberAt_1 rfl hl (by decide) rfl (fun ls hl => ?_)
  refine lv_iload_n hx hb dX3_numberAt_2 rfl (lv_at hl 2 rfl) ?_
  refine lv_istore (lv' := [(4, .int x1), (3, .int 0), (0, .ref (mm_lo G + a0)), (1, .int x1), (2, .int x2)]) hx hb dX3_numberAt_3 hl (by decide) rfl (fun ls hl => ?_)
  exact tX3_numberAt_5 C a0 h0 x1 x2 M FU _ _ _ _ _ hM hS (lv_sub hl [2, 4, 1, 0] rfl) heq

set_option maxRecDepth 100000 in
set_option maxHeartbeats 4000000 in
theorem tX4_begin (l : Launch) (G : mm_G) (M : mm_M) (a0 : Nat) (h0 : kT a0 = (3, 0)) (x1 : Int32) (M9 : mm_M) (heq : fX4_begin M a0 x1 = some M9) : Met l yX4_begin (mm_ws yX4_begin cX4_begin 2 none) rmX4_begin (va_Pc [.ref (mm_lo G + a0), .int x1] (mm_B G (kR, 740, M))) (mm_Qv G (kR, 740, M9)) 0 0 (mm_A G) := by
  refine mm_met (cc := cX4_begin) (nL := 2) (ret := none) plRX4 (Nat.le_of_ble_eq_true rfl) ?_
  intro p e s m below meth c ls hin C hM hS hl
  have C : mm_C G p s m _ meth c RX4 cX4_begin 2 none := C
  have hM : mm_P G kR 740 M s.heap := hM
  have hl : lv_has ls 2 [(0, .ref (mm_lo G + a0)), (1, .int x1)] := hl
  obtain ⟨hx, hb, -, -, -, -, -, -, hZ, -⟩ := id C
  rw [fX4_begin] at heq
  refine lv_aload_n hx hb dX4_begin_0 rfl (lv_at hl 0 rfl) ?_
  refine lv_iload_n hx hb dX4_begin_1 rfl (lv_at hl 1 rfl) ?_
  refine pX4_9 C hM hS (kl h0) h0 dX4_begin_2 (fun H locs hM hS _ => ?_)
  obtain ⟨M1, eM1⟩ : ∃ z : mm_M, z = sI M a0 0 x1 := ⟨_, rfl⟩
  rw [← eM1] at hM
  have heq := lt_to eM1 heq
  refine lv_aload_n hx hb dX4_begin_5 rfl (lv_at hl 0 rfl) ?_
  refine lv_iconst (v := 0) hx hb dX4_begin_6 (by decide) ?_
  refine pX4_15 C hM hS (kl h0) h0 dX4_begin_7 (fun H locs hM hS _ => ?_)
  obtain ⟨M2, eM2⟩ : ∃ z : mm_M, z = sI M1 a0 1 0 := ⟨_, rfl⟩
  rw [← eM2] at hM
  have heq := lt_to eM2 heq
  refine lv_aload_n hx hb dX4_begin_10 rfl (lv_at hl 0 rfl) ?_
  refine lv_iconst (v := 0) hx hb dX4_begin_11 (by decide) ?_
  refine pX4_18 C hM hS (kl h0) h0 dX4_begin_12 (fun H locs hM hS _ => ?_)
  obtain ⟨M3, eM3⟩ : ∃ z : mm_M, z = sI M2 a0 2 0 := ⟨_, rfl⟩
  rw [← eM3] at hM
  have heq := lt_to eM3 heq
  refine lv_aload_n hx hb dX4_begin_15 rfl (lv_at hl 0 rfl) ?_
  refine lv_bipush (v := (-6)) hx hb dX4_begin_16 (by decide) ?_
  refine pX4_21 C hM hS (kl h0) h0 dX4_begin_18 (fun H locs hM hS _ => ?_)
  obtain ⟨M4, eM4⟩ : ∃ z : mm_M, z = sI M3 a0 3 (-6) := ⟨_, rfl⟩
  rw [← eM4] at hM
  have heq := lt_to eM4 heq
  cases heq
  exact mm_vret C hM hS dX4_begin_21

set_option maxRecDepth 100000 in
set_option maxHeartbeats 4000000 in
theorem tX5_changeSetting (l : Launch) (G : mm_G) (M : mm_M) (a0 : Nat) (h0 : kT a0 = (4, 0)) (x1 : Int32) (x2 : Int32) (r : Int32) (M9 : mm_M) (heq : fX5_changeSetting M a0 x1 x2 = some (r, M9)) : Met l yX5_changeSetting (mm_ws yX5_changeSetting cX5_changeSetting 4 (some .int)) rmX5_changeSetting (va_Pc [.ref (mm_lo G + a0), .int x1, .int x2] (mm_B G (kR, 740, M))) (mm_Qi G r (kR, 740, M9)) 0 0 (mm_A G) := by
  refine mm_met (cc := cX5_changeSetting) (nL := 4) (ret := (some .int)) plRX5 (Nat.le_of_ble_eq_true rfl) ?_
  intro p e s m below meth c ls hin C hM hS hl
  have C : mm_C G p s m _ meth c RX5 cX5_changeSetting 4 (some .int) := C
  have hM : mm_P G kR 740 M s.heap := hM
  have hl : lv_has ls 4 [(0, .ref (mm_lo G + a0)), (1, .int x1), (2, .int x2)] := hl
  obtain ⟨hx, hb, -, -, -, -, -, -, hZ, -⟩ := id C
  rw [fX5_changeSetting] at heq
  refine lv_iload_n hx hb dX5_changeSetting_0 rfl (lv_at hl 1 rfl) ?_
  refine lv_if_lt (tgt := 28) hx hb dX5_changeSetting_1 (by decide) (fun c1 => ?_) (fun c1 => ?_)
  · have heq := if_t c1 heq
    refine lv_bipush (v := (-2)) hx hb dX5_changeSetting_28 (by decide) ?_
    cases heq
    exact mm_iret C hM hS dX5_changeSetting_30
  · have heq := if_f c1 heq
    refine lv_iload_n hx hb dX5_changeSetting_4 rfl (lv_at hl 1 rfl) ?_
    refine lv_bipush (v := 10) hx hb dX5_changeSetting_5 (by decide) ?_
    refine lv_icmp_ge (tgt := 28) hx hb dX5_changeSetting_7 (by decide) (fun c2 => ?_) (fun c2 => ?_)
    · have heq := if_t c2 heq
      refine lv_bipush (v := (-2)) hx hb dX5_changeSetting_28 (by decide) ?_
      cases heq
      exact mm_iret C hM hS dX5_changeSetting_30
    · have heq := if_f c2 heq
      refine lv_iload_n hx hb dX5_changeSetting_10 rfl (lv_at hl 2 rfl) ?_
      refine mm_gst C hS hZ.2.1 sX5_76 dX5_changeSetting_11 ?_
      refine lv_iload_n hx hb dX5_changeSetting_14 rfl (lv_at hl 1 rfl) ?_
      obtain ⟨g3, heq⟩ := gd_of heq
      refine mm_tld C hS hZ.2.1 (vp_in_of2 g3) dX5_changeSetting_15 ?_
      refine lv_icmp_lt (tgt := 28) hx hb dX5_changeSetting_16 (by decide) (fun c4 => ?_) (fun c4 => ?_)
      · have heq := if_t c4 heq
        refine lv_bipush (v := (-2)) hx hb dX5_changeSetting_28 (by decide) ?_
        cases heq
        exact mm_iret C hM hS dX5_changeSetting_30
      · have heq := if_f c4 heq
        refine lv_iload_n hx hb dX5_changeSetting_19 rfl (lv_at hl 2 rfl) ?_
        refine mm_gst C hS hZ.2.2 sX5_79 dX5_changeSetting_20 ?_
        refine lv_iload_n hx hb dX5_changeSetting_23 rfl (lv_at hl 1 rfl) ?_
        refine mm_tld C hS hZ.2.2 (vp_in_of2 g3) dX5_changeSetting_24 ?_
        refine lv_icmp_le (tgt := 31) hx hb dX5_changeSetting_25 (by decide) (fun c5 => ?_) (fun c5 => ?_)
        · have heq := if_t c5 heq
          refine lv_aload_n hx hb dX5_changeSetting_31 rfl (lv_at hl 0 rfl) ?_
          refine gX5_15 C hM (kl h0) h0 (rS_7 h0) dX5_changeSetting_32 ?_
          refine lv_iload_n hx hb dX5_changeSetting_35 rfl (lv_at hl 1 rfl) ?_
          refine mm_ildk C hM (kl (kS_7 h0)) (kS_7 h0) (vp_in_of2 g3) rfl dX5_changeSetting_36 ?_
          refine lv_topi (fun y6 ey6 => ?_)
          have heq := lt_to ey6 heq
          refine lv_istore_n (lv' := [(3, .int y6), (0, .ref (mm_lo G + a0)), (1, .int x1), (2, .int x2)]) hx hb dX5_changeSetting_37 rfl hl (by decide) rfl (fun ls hl => ?_)
          refine lv_aload_n hx hb dX5_changeSetting_38 rfl (lv_at hl 1 rfl) ?_
          refine gX5_15 C hM (kl h0) h0 (rS_7 h0) dX5_changeSetting_39 ?_
          refine lv_iload_n hx hb dX5_changeSetting_42 rfl (lv_at hl 2 rfl) ?_
          refine lv_iload_n hx hb dX5_changeSetting_43 rfl (lv_at hl 3 rfl) ?_
          refine mm_istk C hM hS (kl (kS_7 h0)) (kS_7 h0) (vp_in_of2 g3) rfl dX5_changeSetting_44 (fun H locs hM hS _ => ?_)
          obtain ⟨M7, eM7⟩ : ∃ z : mm_M, z = sI M (a0 + 1) x1.toNatClampNeg x2 := ⟨_, rfl⟩
          rw [← eM7] at hM
          have heq := lt_to eM7 heq
          refine lv_iload_n hx hb dX5_changeSetting_45 rfl (lv_at hl 0 rfl) ?_
          cases heq
          exact mm_iret C hM hS dX5_changeSetting_46
        · have heq := if_f c5 heq
          refine lv_bipush (v := (-2)) hx hb dX5_changeSetting_28 (by decide) ?_
          cases heq
          exact mm_iret C hM hS dX5_changeSetting_30

set_option maxRecDepth 100000 in
set_option maxHeartbeats 4000000 in
theorem tX5_changeLots (l : Launch) (G : mm_G) (M : mm_M) (a0 : Nat) (h0 : kT a0 = (4, 0)) (x1 : Int32) (r : Int32) (M9 : mm_M) (heq : fX5_changeLots M a0 x1 = some (r, M9)) : Met l yX5_changeLots (mm_ws yX5_changeLots cX5_changeLots 3 (some .int)) rmX5_changeLots (va_Pc [.ref (mm_lo G + a0), .int x1] (mm_B G (kR, 740, M))) (mm_Qi G r (kR, 740, M9)) 0 0 (mm_A G) := by
  refine mm_met (cc := cX5_changeLots) (nL := 3) (ret := (some .int)) plRX5 (Nat.le_of_ble_eq_true rfl) ?_
  intro p e s m below meth c ls hin C hM hS hl
  have C : mm_C G p s m _ meth c RX5 cX5_changeLots 3 (some .int) := C
  have hM : mm_P G kR 740 M s.heap := hM
  have hl : lv_has ls 3 [(0, .ref (mm_lo G + a0)), (1, .int x1)] := hl
  obtain ⟨hx, hb, -, -, -, -, -, -, hZ, -⟩ := id C
  rw [fX5_changeLots] at heq
  refine lv_iload_n hx hb dX5_changeLots_0 rfl (lv_at hl 1 rfl) ?_
  refine lv_if_lt (tgt := 10) hx hb dX5_changeLots_1 (by decide) (fun c1 => ?_) (fun c1 => ?_)
  · have heq := if_t c1 heq
    refine lv_bipush (v := (-2)) hx hb dX5_changeLots_10 (by decide) ?_
    cases heq
    exact mm_iret C hM hS dX5_changeLots_12
  · have heq := if_f c1 heq
    refine lv_iload_n hx hb dX5_changeLots_4 rfl (lv_at hl 1 rfl) ?_
    refine mm_ldc C kX5_82 dX5_changeLots_5 ?_
    refine lv_icmp_lt (tgt := 13) hx hb dX5_changeLots_7 (by decide) (fun c2 => ?_) (fun c2 => ?_)
    · have heq := if_t c2 heq
      refine lv_aload_n hx hb dX5_changeLots_13 rfl (lv_at hl 0 rfl) ?_
      refine gX5_9 C hM (kl h0) h0 dX5_changeLots_14 ?_
      refine lv_topi (fun y3 ey3 => ?_)
      have heq := lt_to ey3 heq
      refine lv_istore_n (lv' := [(2, .int y3), (0, .ref (mm_lo G + a0)), (1, .int x1)]) hx hb dX5_changeLots_17 rfl hl (by decide) rfl (fun ls hl => ?_)
      refine lv_aload_n hx hb dX5_changeLots_18 rfl (lv_at hl 1 rfl) ?_
      refine lv_iload_n hx hb dX5_changeLots_19 rfl (lv_at hl 2 rfl) ?_
      refine pX5_9 C hM hS (kl h0) h0 dX5_changeLots_20 (fun H locs hM hS _ => ?_)
      obtain ⟨M4, eM4⟩ : ∃ z : mm_M, z = sI M a0 1 x1 := ⟨_, rfl⟩
      rw [← eM4] at hM
      have heq := lt_to eM4 heq
      refine lv_iload_n hx hb dX5_changeLots_23 rfl (lv_at hl 0 rfl) ?_
      cases heq
      exact mm_iret C hM hS dX5_changeLots_24
    · have heq := if_f c2 heq
      refine lv_bipush (v := (-2)) hx hb dX5_changeLots_10 (by decide) ?_
      cases heq
      exact mm_iret C hM hS dX5_changeLots_12

set_option maxRecDepth 100000 in
set_option maxHeartbeats 4000000 in
theorem tX5_addPitch (l : Launch) (G : mm_G) (M : mm_M) (a0 : Nat) (h0 : kT a0 = (4, 0)) (x1 : Int32) (r : Int32) (M9 : mm_M) (heq : fX5_addPitch M a0 x1 = some (r, M9)) : Met l yX5_addPitch (mm_ws yX5_addPitch cX5_addPitch 2 (some .int)) rmX5_addPitch (va_Pc [.ref (mm_lo G + a0), .int x1] (mm_B G (kR, 740, M))) (mm_Qi G r (kR, 740, M9)) 0 0 (mm_A G) := by
  refine mm_met (cc := cX5_addPitch) (nL := 2) (ret := (some .int)) plRX5 (Nat.le_of_ble_eq_true rfl) ?_
  intro p e s m below meth c ls hin C hM hS hl
  have C : mm_C G p s m _ meth c RX5 cX5_addPitch 2 (some .int) := C
  have hM : mm_P G kR 740 M s.heap := hM
  have hl : lv_has ls 2 [(0, .ref (mm_lo G + a0)), (1, .int x1)] := hl
  obtain ⟨hx, hb, -, -, -, -, -, -, hZ, -⟩ := id C
  rw [fX5_addPitch] at heq
  refine lv_iload_n hx hb dX5_addPitch_0 rfl (lv_at hl 1 rfl) ?_
  refine lv_if_lt (tgt := 11) hx hb dX5_addPitch_1 (by decide) (fun c1 => ?_) (fun c1 => ?_)
  · have heq := if_t c1 heq
    refine lv_bipush (v := (-2)) hx hb dX5_addPitch_11 (by decide) ?_
    cases heq
    exact mm_iret C hM hS dX5_addPitch_13
  · have heq := if_f c1 heq
    refine lv_iload_n hx hb dX5_addPitch_4 rfl (lv_at hl 1 rfl) ?_
    refine lv_sipush (v := 20000) hx hb dX5_addPitch_5 (by decide) ?_
    refine lv_icmp_le (tgt := 14) hx hb dX5_addPitch_8 (by decide) (fun c2 => ?_) (fun c2 => ?_)
    · have heq := if_t c2 heq
      refine lv_aload_n hx hb dX5_addPitch_14 rfl (lv_at hl 0 rfl) ?_
      refine gX5_51 C hM (kl h0) h0 dX5_addPitch_15 ?_
      refine lv_bipush (v := 10) hx hb dX5_addPitch_18 (by decide) ?_
      refine lv_icmp_lt (tgt := 26) hx hb dX5_addPitch_20 (by decide) (fun c3 => ?_) (fun c3 => ?_)
      · have heq := if_t c3 heq
        refine lv_aload_n hx hb dX5_addPitch_26 rfl (lv_at hl 0 rfl) ?_
        refine gX5_21 C hM (kl h0) h0 (rS_8 h0) dX5_addPitch_27 ?_
        refine lv_aload_n hx hb dX5_addPitch_30 rfl (lv_at hl 0 rfl) ?_
        refine gX5_51 C hM (kl h0) h0 dX5_addPitch_31 ?_
        obtain ⟨g4, heq⟩ := gd_of heq
        refine mm_ald C hM (kl (kS_8 h0)) (Or.inr (Or.inl rfl)) (kS_8 h0) (vp_in_of2 g4) (rS_pitch h0 (vp_lt g4)) dX5_addPitch_34 ?_
        refine lv_iload_n hx hb dX5_addPitch_35 rfl (lv_at hl 1 rfl) ?_
        obtain ⟨M6, e5, heq⟩ := bn_of heq
        refine mm_kv hS (mm_runV (rest := []) C hM hS (tX4_begin l G M (a0 + 8 + (M.1 a0 2).toNatClampNeg) (kS_pitch h0 (vp_lt g4)) x1 M6 e5) (uX5_83 _ (Nat.le_of_ble_eq_true rfl) (Nat.le_of_ble_eq_true rfl)) (mm_recv C hM (kl (kS_pitch h0 (vp_lt g4))) (ci := 3) rfl (mm_e3 (kS_pitch h0 (vp_lt g4)))) hl.1 rfl rfl (Nat.le_of_ble_eq_true rfl) ⟨Nat.zero_le _, Nat.zero_le _⟩ dX5_addPitch_36) (fun H locs hM hS => ?_)
        have hM : mm_P G kR 740 M6 H := hM
        refine lv_aload_n hx hb dX5_addPitch_39 rfl (lv_at hl 0 rfl) ?_
        refine lv_dup hx hb dX5_addPitch_40 rfl ?_
        refine gX5_51 C hM (kl h0) h0 dX5_addPitch_41 ?_
        refine lv_iconst (v := 1) hx hb dX5_addPitch_44 (by decide) ?_
        refine lv_iadd hx hb dX5_addPitch_45 ?_
        refine pX5_51 C hM hS (kl h0) h0 dX5_addPitch_46 (fun H locs hM hS _ => ?_)
        obtain ⟨M7, eM7⟩ : ∃ z : mm_M, z = sI M6 a0 2 ((M6.1 a0 2) + 1) := ⟨_, rfl⟩
        rw [← eM7] at hM
        have heq := lt_to eM7 heq
        refine lv_aload_n hx hb dX5_addPitch_49 rfl (lv_at hl 0 rfl) ?_
        refine gX5_51 C hM (kl h0) h0 dX5_addPitch_50 ?_
        refine lv_iconst (v := 1) hx hb dX5_addPitch_53 (by decide) ?_
        refine lv_isub hx hb dX5_addPitch_54 ?_
        cases heq
        exact mm_iret C hM hS dX5_addPitch_55
      · have heq := if_f c3 heq
        refine lv_bipush (v := (-4)) hx hb dX5_addPitch_23 (by decide) ?_
        cases heq
        exact mm_iret C hM hS dX5_addPitch_25
    · have heq := if_f c2 heq
      refine lv_bipush (v := (-2)) hx hb dX5_addPitch_11 (by decide) ?_
      cases heq
      exact mm_iret C hM hS dX5_addPitch_13

set_option maxRecDepth 100000 in
set_option maxHeartbeats 4000000 in
theorem tX5_changeRent (l : Launch) (G : mm_G) (M : mm_M) (a0 : Nat) (h0 : kT a0 = (4, 0)) (x1 : Int32) (x2 : Int32) (r : Int32) (M9 : mm_M) (heq : fX5_changeRent M a0 x1 x2 = some (r, M9)) : Met l yX5_changeRent (mm_ws yX5_changeRent cX5_changeRent 4 (some .int)) rmX5_changeRent (va_Pc [.ref (mm_lo G + a0), .int x1, .int x2] (mm_B G (kR, 740, M))) (mm_Qi G r (kR, 740, M9)) 0 0 (mm_A G) := by
  refine mm_met (cc := cX5_changeRent) (nL := 4) (ret := (some .int)) plRX5 (Nat.le_of_ble_eq_true rfl) ?_
  intro p e s m below meth c ls hin C hM hS hl
  have C : mm_C G p s m _ meth c RX5 cX5_changeRent 4 (some .int) := C
  have hM : mm_P G kR 740 M s.heap := hM
  have hl : lv_has ls 4 [(0, .ref (mm_lo G + a0)), (1, .int x1), (2, .int x2)] := hl
  obtain ⟨hx, hb, -, -, -, -, -, -, hZ, -⟩ := id C
  rw [fX5_changeRent] at heq
  refine lv_aload_n hx hb dX5_changeRent_0 rfl (lv_at hl 0 rfl) ?_
  refine lv_iload_n hx hb dX5_changeRent_1 rfl (lv_at hl 1 rfl) ?_
  obtain ⟨r2, e1, heq⟩ := bn_of heq
  refine mm_ki hS (mm_runV (rest := []) C hM hS (tX5_hasPitch l G M a0 h0 x1 r2 e1) (uX5_87 _ (Nat.le_of_ble_eq_true rfl) (Nat.le_of_ble_eq_true rfl)) (mm_recv C hM (kl h0) (ci := 4) rfl (mm_e4 h0)) hl.1 rfl rfl (Nat.le_of_ble_eq_true rfl) ⟨Nat.zero_le _, Nat.zero_le _⟩ dX5_changeRent_2) (fun H locs hM hS => ?_)
  have hM : mm_P G kR 740 M H := hM
  refine mm_ifneZ (tgt := 10) C dX5_changeRent_5 (by decide) (fun c3 => ?_) (fun c3 => ?_)
  · have heq := if_t c3 heq
    refine lv_iload_n hx hb dX5_changeRent_10 rfl (lv_at hl 2 rfl) ?_
    refine lv_if_lt (tgt := 21) hx hb dX5_changeRent_11 (by decide) (fun c4 => ?_) (fun c4 => ?_)
    · have heq := if_t c4 heq
      refine lv_bipush (v := (-2)) hx hb dX5_changeRent_21 (by decide) ?_
      cases heq
      exact mm_iret C hM hS dX5_changeRent_23
    · have heq := if_f c4 heq
      refine lv_iload_n hx hb dX5_changeRent_14 rfl (lv_at hl 2 rfl) ?_
      refine lv_sipush (v := 20000) hx hb dX5_changeRent_15 (by decide) ?_
      refine lv_icmp_le (tgt := 24) hx hb dX5_changeRent_18 (by decide) (fun c5 => ?_) (fun c5 => ?_)
      · have heq := if_t c5 heq
        refine lv_aload_n hx hb dX5_changeRent_24 rfl (lv_at hl 0 rfl) ?_
        refine gX5_21 C hM (kl h0) h0 (rS_8 h0) dX5_changeRent_25 ?_
        refine lv_iload_n hx hb dX5_changeRent_28 rfl (lv_at hl 1 rfl) ?_
        obtain ⟨g6, heq⟩ := gd_of heq
        refine mm_ald C hM (kl (kS_8 h0)) (Or.inr (Or.inl rfl)) (kS_8 h0) (vp_in_of2 g6) (rS_pitch h0 (vp_lt g6)) dX5_changeRent_29 ?_
        refine gX5_91 C hM (kl (kS_pitch h0 (vp_lt g6))) (kS_pitch h0 (vp_lt g6)) dX5_changeRent_30 ?_
        refine lv_topi (fun y7 ey7 => ?_)
        have heq := lt_to ey7 heq
        refine lv_istore_n (lv' := [(3, .int y7), (0, .ref (mm_lo G + a0)), (1, .int x1), (2, .int x2)]) hx hb dX5_changeRent_33 rfl hl (by decide) rfl (fun ls hl => ?_)
        refine lv_aload_n hx hb dX5_changeRent_34 rfl (lv_at hl 1 rfl) ?_
        refine gX5_21 C hM (kl h0) h0 (rS_8 h0) dX5_changeRent_35 ?_
        refine lv_iload_n hx hb dX5_changeRent_38 rfl (lv_at hl 2 rfl) ?_
        refine mm_ald C hM (kl (kS_8 h0)) (Or.inr (Or.inl rfl)) (kS_8 h0) (vp_in_of2 g6) (rS_pitch h0 (vp_lt g6)) dX5_changeRent_39 ?_
        refine lv_iload_n hx hb dX5_changeRent_40 rfl (lv_at hl 3 rfl) ?_
        refine pX5_91 C hM hS (kl (kS_pitch h0 (vp_lt g6))) (kS_pitch h0 (vp_lt g6)) dX5_changeRent_41 (fun H locs hM hS _ => ?_)
        obtain ⟨M8, eM8⟩ : ∃ z : mm_M, z = sI M (a0 + 8 + x1.toNatClampNeg) 0 x2 := ⟨_, rfl⟩
        rw [← eM8] at hM
        have heq := lt_to eM8 heq
        refine lv_iload_n hx hb dX5_changeRent_44 rfl (lv_at hl 0 rfl) ?_
        cases heq
        exact mm_iret C hM hS dX5_changeRent_45
      · have heq := if_f c5 heq
        refine lv_bipush (v := (-2)) hx hb dX5_changeRent_21 (by decide) ?_
        cases heq
        exact mm_iret C hM hS dX5_changeRent_23
  · have heq := if_f c3 heq
    refine lv_iconst (v := (-1)) hx hb dX5_changeRent_8 (by decide) ?_
    cases heq
    exact mm_iret C hM hS dX5_changeRent_9

set_option maxRecDepth 100000 in
set_option maxHeartbeats 4000000 in
theorem tX5_addCart (l : Launch) (G : mm_G) (M : mm_M) (a0 : Nat) (h0 : kT a0 = (4, 0)) (x1 : Int32) (x2 : Int32) (r : Int32) (M9 : mm_M) (heq : fX5_addCart M a0 x1 x2 = some (r, M9)) : Met l yX5_addCart (mm_ws yX5_addCart cX5_addCart 3 (some .int)) rmX5_addCart (va_Pc [.ref (mm_lo G + a0), .int x1, .int x2] (mm_B G (kR, 740, M))) (mm_Qi G r (kR, 740, M9)) 0 0 (mm_A G) := by
  refine mm_met (cc := cX5_addCart) (nL := 3) (ret := (some .int)) plRX5 (Nat.le_of_ble_eq_true rfl) ?_
  intro p e s m below meth c ls hin C hM hS hl
  have C : mm_C G p s m _ meth c RX5 cX5_addCart 3 (some .int) := C
  have hM : mm_P G kR 740 M s.heap := hM
  have hl : lv_has ls 3 [(0, .ref (mm_lo G + a0)), (1, .int x1), (2, .int x2)] := hl
  obtain ⟨hx, hb, -, -, -, -, -, -, hZ, -⟩ := id C
  rw [fX5_addCart] at heq
  refine lv_iload_n hx hb dX5_addCart_0 rfl (lv_at hl 1 rfl) ?_
  refine lv_if_lt (tgt := 20) hx hb dX5_addCart_1 (by decide) (fun c1 => ?_) (fun c1 => ?_)
  · have heq := if_t c1 heq
    refine lv_bipush (v := (-2)) hx hb dX5_addCart_20 (by decide) ?_
    cases heq
    exact mm_iret C hM hS dX5_addCart_22
  · have heq := if_f c1 heq
    refine lv_iload_n hx hb dX5_addCart_4 rfl (lv_at hl 1 rfl) ?_
    refine lv_iconst (v := 5) hx hb dX5_addCart_5 (by decide) ?_
    refine lv_icmp_gt (tgt := 20) hx hb dX5_addCart_6 (by decide) (fun c2 => ?_) (fun c2 => ?_)
    · have heq := if_t c2 heq
      refine lv_bipush (v := (-2)) hx hb dX5_addCart_20 (by decide) ?_
      cases heq
      exact mm_iret C hM hS dX5_addCart_22
    · have heq := if_f c2 heq
      refine lv_iload_n hx hb dX5_addCart_9 rfl (lv_at hl 2 rfl) ?_
      refine lv_iconst (v := 1) hx hb dX5_addCart_10 (by decide) ?_
      refine lv_icmp_lt (tgt := 20) hx hb dX5_addCart_11 (by decide) (fun c3 => ?_) (fun c3 => ?_)
      · have heq := if_t c3 heq
        refine lv_bipush (v := (-2)) hx hb dX5_addCart_20 (by decide) ?_
        cases heq
        exact mm_iret C hM hS dX5_addCart_22
      · have heq := if_f c3 heq
        refine lv_iload_n hx hb dX5_addCart_14 rfl (lv_at hl 2 rfl) ?_
        refine lv_bipush (v := 6) hx hb dX5_addCart_15 (by decide) ?_
        refine lv_icmp_le (tgt := 23) hx hb dX5_addCart_17 (by decide) (fun c4 => ?_) (fun c4 => ?_)
        · have heq := if_t c4 heq
          refine lv_aload_n hx hb dX5_addCart_23 rfl (lv_at hl 0 rfl) ?_
          refine gX5_54 C hM (kl h0) h0 dX5_addCart_24 ?_
          refine lv_bipush (v := 16) hx hb dX5_addCart_27 (by decide) ?_
          refine lv_icmp_lt (tgt := 35) hx hb dX5_addCart_29 (by decide) (fun c5 => ?_) (fun c5 => ?_)
          · have heq := if_t c5 heq
            refine lv_aload_n hx hb dX5_addCart_35 rfl (lv_at hl 0 rfl) ?_
            refine gX5_27 C hM (kl h0) h0 (rS_9 h0) dX5_addCart_36 ?_
            refine lv_aload_n hx hb dX5_addCart_39 rfl (lv_at hl 0 rfl) ?_
            refine gX5_54 C hM (kl h0) h0 dX5_addCart_40 ?_
            obtain ⟨g6, heq⟩ := gd_of heq
            refine mm_ald C hM (kl (kS_9 h0)) (Or.inl rfl) (kS_9 h0) (vp_in_of2 g6) (rS_cart h0 (vp_lt g6)) dX5_addCart_43 ?_
            refine lv_iload_n hx hb dX5_addCart_44 rfl (lv_at hl 1 rfl) ?_
            refine lv_iload_n hx hb dX5_addCart_45 rfl (lv_at hl 2 rfl) ?_
            refine lv_aload_n hx hb dX5_addCart_46 rfl (lv_at hl 0 rfl) ?_
            refine gX5_48 C hM (kl h0) h0 dX5_addCart_47 ?_
            refine lv_aload_n hx hb dX5_addCart_50 rfl (lv_at hl 0 rfl) ?_
            refine gX5_15 C hM (kl h0) h0 (rS_7 h0) dX5_addCart_51 ?_
            refine lv_iconst (v := 1) hx hb dX5_addCart_54 (by decide) ?_
            refine mm_ildk C hM (kl (kS_7 h0)) (kS_7 h0) (vp_in_of2 (by decide)) (by decide : (1 : Int32).toNatClampNeg = 1) dX5_addCart_55 ?_
            refine lv_iadd hx hb dX5_addCart_56 ?_
            obtain ⟨M8, e7, heq⟩ := bn_of heq
            refine mm_kv hS (mm_runV (rest := []) C hM hS (tX0_begin l G M (a0 + 18 + 3 * (M.1 a0 3).toNatClampNeg) (kS_cart h0 (vp_lt g6)) x1 x2 ((M.1 a0 0) + (M.1 (a0 + 1) 1)) M8 e7) (uX5_94 _ (Nat.le_of_ble_eq_true rfl) (Nat.le_of_ble_eq_true rfl)) (mm_recv C hM (kl (kS_cart h0 (vp_lt g6))) (ci := 0) rfl (mm_e0 (kS_cart h0 (vp_lt g6)))) hl.1 rfl rfl (Nat.le_of_ble_eq_true rfl) ⟨Nat.zero_le _, Nat.zero_le _⟩ dX5_addCart_57) (fun H locs hM hS => ?_)
            have hM : mm_P G kR 740 M8 H := hM
            refine lv_aload_n hx hb dX5_addCart_60 rfl (lv_at hl 0 rfl) ?_
            refine lv_dup hx hb dX5_addCart_61 rfl ?_
            refine gX5_54 C hM (kl h0) h0 dX5_addCart_62 ?_
            refine lv_iconst (v := 1) hx hb dX5_addCart_65 (by decide) ?_
            refine lv_iadd hx hb dX5_addCart_66 ?_
            refine pX5_54 C hM hS (kl h0) h0 dX5_addCart_67 (fun H locs hM hS _ => ?_)
            obtain ⟨M9, eM9⟩ : ∃ z : mm_M, z = sI M8 a0 3 ((M8.1 a0 3) + 1) := ⟨_, rfl⟩
            rw [← eM9] at hM
            have heq := lt_to eM9 heq
            refine lv_aload_n hx hb dX5_addCart_70 rfl (lv_at hl 0 rfl) ?_
            refine gX5_54 C hM (kl h0) h0 dX5_addCart_71 ?_
            refine lv_iconst (v := 1) hx hb dX5_addCart_74 (by decide) ?_
            refine lv_isub hx hb dX5_addCart_75 ?_
            cases heq
            exact mm_iret C hM hS dX5_addCart_76
          · have heq := if_f c5 heq
            refine lv_bipush (v := (-4)) hx hb dX5_addCart_32 (by decide) ?_
            cases heq
            exact mm_iret C hM hS dX5_addCart_34
        · have heq := if_f c4 heq
          refine lv_bipush (v := (-2)) hx hb dX5_addCart_20 (by decide) ?_
          cases heq
          exact mm_iret C hM hS dX5_addCart_22

set_option maxRecDepth 100000 in
set_option maxHeartbeats 4000000 in
theorem tX5_isPitchOrNone (l : Launch) (G : mm_G) (M : mm_M) (a0 : Nat) (h0 : kT a0 = (4, 0)) (x1 : Int32) (r : Bool) (heq : fX5_isPitchOrNone M a0 x1 = some r) : Met l yX5_isPitchOrNone (mm_ws yX5_isPitchOrNone cX5_isPitchOrNone 2 (some .boolean)) rmX5_isPitchOrNone (va_Pc [.ref (mm_lo G + a0), .int x1] (mm_B G (kR, 740, M))) (mm_Qi G (b2i r) (kR, 740, M)) 0 0 (mm_A G) := by
  refine mm_met (cc := cX5_isPitchOrNone) (nL := 2) (ret := (some .boolean)) plRX5 (Nat.le_of_ble_eq_true rfl) ?_
  intro p e s m below meth c ls hin C hM hS hl
  have C : mm_C G p s m _ meth c RX5 cX5_isPitchOrNone 2 (some .boolean) := C
  have hM : mm_P G kR 740 M s.heap := hM
  have hl : lv_has ls 2 [(0, .ref (mm_lo G + a0)), (1, .int x1)] := hl
  obtain ⟨hx, hb, -, -, -, -, -, -, hZ, -⟩ := id C
  rw [fX5_isPitchOrNone] at heq
  refine lv_iload_n hx hb dX5_isPitchOrNone_0 rfl (lv_at hl 1 rfl) ?_
  refine lv_bipush (v := (-6)) hx hb dX5_isPitchOrNone_1 (by decide) ?_
  refine lv_icmp_eq (tgt := 14) hx hb dX5_isPitchOrNone_3 (by decide) (fun c1 => ?_) (fun c1 => ?_)
  · have heq := if_t c1 heq
    refine lv_iconst (v := 1) hx hb dX5_isPitchOrNone_14 (by decide) ?_
    refine lv_goto (tgt := 19) hx hb dX5_isPitchOrNone_15 (by decide) ?_
    cases heq
    exact mm_zret C hM hS dX5_isPitchOrNone_19
  · have heq := if_f c1 heq
    refine lv_aload_n hx hb dX5_isPitchOrNone_6 rfl (lv_at hl 0 rfl) ?_
    refine lv_iload_n hx hb dX5_isPitchOrNone_7 rfl (lv_at hl 1 rfl) ?_
    obtain ⟨r3, e2, heq⟩ := bn_of heq
    refine mm_ki hS (mm_runV (rest := []) C hM hS (tX5_hasPitch l G M a0 h0 x1 r3 e2) (uX5_87 _ (Nat.le_of_ble_eq_true rfl) (Nat.le_of_ble_eq_true rfl)) (mm_recv C hM (kl h0) (ci := 4) rfl (mm_e4 h0)) hl.1 rfl rfl (Nat.le_of_ble_eq_true rfl) ⟨Nat.zero_le _, Nat.zero_le _⟩ dX5_isPitchOrNone_8) (fun H locs hM hS => ?_)
    have hM : mm_P G kR 740 M H := hM
    refine mm_ifeqZ (tgt := 18) C dX5_isPitchOrNone_11 (by decide) (fun c4 => ?_) (fun c4 => ?_)
    · have heq := if_f c4 heq
      refine lv_iconst (v := 0) hx hb dX5_isPitchOrNone_18 (by decide) ?_
      cases heq
      exact mm_zret C hM hS dX5_isPitchOrNone_19
    · have heq := if_t c4 heq
      refine lv_iconst (v := 1) hx hb dX5_isPitchOrNone_14 (by decide) ?_
      refine lv_goto (tgt := 19) hx hb dX5_isPitchOrNone_15 (by decide) ?_
      cases heq
      exact mm_zret C hM hS dX5_isPitchOrNone_19

set_option maxRecDepth 100000 in
set_option maxHeartbeats 4000000 in
theorem tX5_tellWishes_104 (C : mm_C G p s m args meth c RX5 cX5_tellWishes 7 (some .int)) (a0 : Nat) (h0 : kT a0 = (4, 0)) (x1 : Int32) (x2 : Int32) (x3 : Int32) (x4 : Int32) {r : Int32} {M9 : mm_M} : ∀ (M : mm_M) (v5 : Int32) (H : Heap) (locs : List Loc) (ls : Array Slot), mm_P G kR 740 M H → va_S (mm_A G) s.heap H locs → lv_has ls 7 [(0, .ref (mm_lo G + a0)), (1, .int x1), (2, .int x2), (3, .int x3), (4, .int x4), (5, .int v5)] → fX5_tellWishes_104 a0 x1 x2 x3 x4 M v5 = some (r, M9) → W p l e rmX5_tellWishes s m args below meth c H locs 0 0 (MQ below (mm_Qi G r (kR, 740, M9)) args s 0 0 (mm_A G)) (F0 m 104 ls []) := by
  obtain ⟨hx, hb, -, -, -, -, -, -, hZ, -⟩ := id C
  intro M v5 H locs ls hM hS hl heq
  rw [fX5_tellWishes_104] at heq
  refine lv_aload_n hx hb dX5_tellWishes_104 rfl (lv_at hl 0 rfl) ?_
  refine gX5_27 C hM (kl h0) h0 (rS_9 h0) dX5_tellWishes_105 ?_
  refine lv_iload_n hx hb dX5_tellWishes_108 rfl (lv_at hl 1 rfl) ?_
  obtain ⟨g1, heq⟩ := gd_of heq
  refine mm_ald C hM (kl (kS_9 h0)) (Or.inl rfl) (kS_9 h0) (vp_in_of2 g1) (rS_cart h0 (vp_lt g1)) dX5_tellWishes_109 ?_
  refine lv_astore (lv' := [(6, .ref (mm_lo G + (a0 + 18 + 3 * x1.toNatClampNeg))), (0, .ref (mm_lo G + a0)), (1, .int x1), (2, .int x2), (3, .int x3), (4, .int x4), (5, .int v5)]) hx hb dX5_tellWishes_110 hl (by decide) rfl (fun ls hl => ?_)
  refine lv_aload hx hb dX5_tellWishes_112 (lv_at hl 0 rfl) ?_
  refine lv_iload hx hb dX5_tellWishes_114 (lv_at hl 6 rfl) ?_
  refine pX5_103 C hM hS (kl (kS_cart h0 (vp_lt g1))) (kS_cart h0 (vp_lt g1)) dX5_tellWishes_116 (fun H locs hM hS _ => ?_)
  obtain ⟨M2, eM2⟩ : ∃ z : mm_M, z = sI M (a0 + 18 + 3 * x1.toNatClampNeg) 2 v5 := ⟨_, rfl⟩
  rw [← eM2] at hM
  have heq := lt_to eM2 heq
  refine lv_aload hx hb dX5_tellWishes_119 (lv_at hl 0 rfl) ?_
  refine gX5_106 C hM (kl (kS_cart h0 (vp_lt g1))) (kS_cart h0 (vp_lt g1)) (rC_16 (kS_cart h0 (vp_lt g1))) dX5_tellWishes_121 ?_
  refine lv_iconst (v := 0) hx hb dX5_tellWishes_124 (by decide) ?_
  refine lv_iload_n hx hb dX5_tellWishes_125 rfl (lv_at hl 3 rfl) ?_
  refine mm_istk C hM hS (kl (kC_16 (kS_cart h0 (vp_lt g1)))) (kC_16 (kS_cart h0 (vp_lt g1))) (vp_in_of2 (by decide)) (by decide : (0 : Int32).toNatClampNeg = 0) dX5_tellWishes_126 (fun H locs hM hS _ => ?_)
  obtain ⟨M3, eM3⟩ : ∃ z : mm_M, z = sI M2 ((a0 + 18 + 3 * x1.toNatClampNeg) + 1) 0 x2 := ⟨_, rfl⟩
  rw [← eM3] at hM
  have heq := lt_to eM3 heq
  refine lv_aload hx hb dX5_tellWishes_127 (lv_at hl 0 rfl) ?_
  refine gX5_106 C hM (kl (kS_cart h0 (vp_lt g1))) (kS_cart h0 (vp_lt g1)) (rC_16 (kS_cart h0 (vp_lt g1))) dX5_tellWishes_129 ?_
  refine lv_iconst (v := 1) hx hb dX5_tellWishes_132 (by decide) ?_
  refine lv_iload_n hx hb dX5_tellWishes_133 rfl (lv_at hl 4 rfl) ?_
  refine mm_istk C hM hS (kl (kC_16 (kS_cart h0 (vp_lt g1)))) (kC_16 (kS_cart h0 (vp_lt g1))) (vp_in_of2 (by decide)) (by decide : (1 : Int32).toNatClampNeg = 1) dX5_tellWishes_134 (fun H locs hM hS _ => ?_)
  obtain ⟨M4, eM4⟩ : ∃ z : mm_M, z = sI M3 ((a0 + 18 + 3 * x1.toNatClampNeg) + 1) 1 x3 := ⟨_, rfl⟩
  rw [← eM4] at hM
  have heq := lt_to eM4 heq
  refine lv_aload hx hb dX5_tellWishes_135 (lv_at hl 0 rfl) ?_
  refine gX5_106 C hM (kl (kS_cart h0 (vp_lt g1))) (kS_cart h0 (vp_lt g1)) (rC_16 (kS_cart h0 (vp_lt g1))) dX5_tellWishes_137 ?_
  refine lv_iconst (v := 2) hx hb dX5_tellWishes_140 (by decide) ?_
  refine lv_iload hx hb dX5_tellWishes_141 (lv_at hl 5 rfl) ?_
  refine mm_istk C hM hS (kl (kC_16 (kS_cart h0 (vp_lt g1)))) (kC_16 (kS_cart h0 (vp_lt g1))) (vp_in_of2 (by decide)) (by decide : (2 : Int32).toNatClampNeg = 2) dX5_tellWishes_143 (fun H locs hM hS _ => ?_)
  obtain ⟨M5, eM5⟩ : ∃ z : mm_M, z = sI M4 ((a0 + 18 + 3 * x1.toNatClampNeg) + 1) 2 x4 := ⟨_, rfl⟩
  rw [← eM5] at hM
  have heq := lt_to eM5 heq
  refine lv_iload hx hb dX5_tellWishes_144 (lv_at hl 6 rfl) ?_
  cases heq
  exact mm_iret C hM hS dX5_tellWishes_146

set_option maxRecDepth 100000 in
set_option maxHeartbeats 4000000 in
theorem tX5_tellWishes_83 (C : mm_C G p s m args meth c RX5 cX5_tellWishes 7 (some .int)) (a0 : Nat) (h0 : kT a0 = (4, 0)) (x1 : Int32) (x2 : Int32) (x3 : Int32) (x4 : Int32) {r : Int32} {M9 : mm_M} : ∀ (M : mm_M) (v5 : Int32) (H : Heap) (locs : List Loc) (ls : Array Slot), mm_P G kR 740 M H → va_S (mm_A G) s.heap H locs → lv_has ls 7 [(0, .ref (mm_lo G + a0)), (1, .int x1), (2, .int x2), (3, .int x3), (4, .int x4), (5, .int v5)] → fX5_tellWishes_83 a0 x1 x2 x3 x4 M v5 = some (r, M9) → W p l e rmX5_tellWishes s m args below meth c H locs 0 0 (MQ below (mm_Qi G r (kR, 740, M9)) args s 0 0 (mm_A G)) (F0 m 83 ls []) := by
  obtain ⟨hx, hb, -, -, -, -, -, -, hZ, -⟩ := id C
  intro M v5 H locs ls hM hS hl heq
  rw [fX5_tellWishes_83] at heq
  refine lv_iload hx hb dX5_tellWishes_83 (lv_at hl 5 rfl) ?_
  refine lv_iconst (v := 3) hx hb dX5_tellWishes_85 (by decide) ?_
  refine lv_icmp_ne (tgt := 104) hx hb dX5_tellWishes_86 (by decide) (fun c1 => ?_) (fun c1 => ?_)
  · have heq := if_f c1 heq
    exact tX5_tellWishes_104 C a0 h0 x1 x2 x3 x4 _ _ _ _ _ hM hS (lv_sub hl [0, 1, 2, 3, 4, 5] rfl) heq
  · have heq := if_t c1 heq
    refine lv_iload_n hx hb dX5_tellWishes_89 rfl (lv_at hl 2 rfl) ?_
    refine lv_iload hx hb dX5_tellWishes_90 (lv_at hl 4 rfl) ?_
    refine lv_icmp_eq (tgt := 101) hx hb dX5_tellWishes_92 (by decide) (fun c2 => ?_) (fun c2 => ?_)
    · have heq := if_t c2 heq
      refine lv_bipush (v := (-2)) hx hb dX5_tellWishes_101 (by decide) ?_
      cases heq
      exact mm_iret C hM hS dX5_tellWishes_103
    · have heq := if_f c2 heq
      refine lv_iload_n hx hb dX5_tellWishes_95 rfl (lv_at hl 3 rfl) ?_
      refine lv_iload hx hb dX5_tellWishes_96 (lv_at hl 4 rfl) ?_
      refine lv_icmp_ne (tgt := 104) hx hb dX5_tellWishes_98 (by decide) (fun c3 => ?_) (fun c3 => ?_)
      · have heq := if_f c3 heq
        exact tX5_tellWishes_104 C a0 h0 x1 x2 x3 x4 _ _ _ _ _ hM hS (lv_sub hl [0, 1, 2, 3, 4, 5] rfl) heq
      · have heq := if_t c3 heq
        refine lv_bipush (v := (-2)) hx hb dX5_tellWishes_101 (by decide) ?_
        cases heq
        exact mm_iret C hM hS dX5_tellWishes_103

set_option maxRecDepth 100000 in
set_option maxHeartbeats 4000000 in
theorem tX5_tellWishes_70 (C : mm_C G p s m args meth c RX5 cX5_tellWishes 7 (some .int)) (a0 : Nat) (h0 : kT a0 = (4, 0)) (x1 : Int32) (x2 : Int32) (x3 : Int32) (x4 : Int32) {r : Int32} {M9 : mm_M} : ∀ (M : mm_M) (t0 : Int32) (H : Heap) (locs : List Loc) (ls : Array Slot), mm_P G kR 740 M H → va_S (mm_A G) s.heap H locs → lv_has ls 7 [(0, .ref (mm_lo G + a0)), (1, .int x1), (2, .int x2), (3, .int x3), (4, .int x4)] → fX5_tellWishes_70 a0 x1 x2 x3 x4 M t0 = some (r, M9) → W p l e rmX5_tellWishes s m args below meth c H locs 0 0 (MQ below (mm_Qi G r (kR, 740, M9)) args s 0 0 (mm_A G)) (F0 m 70 ls [.int t0]) := by
  obtain ⟨hx, hb, -, -, -, -, -, -, hZ, -⟩ := id C
  intro M t0 H locs ls hM hS hl heq
  rw [fX5_tellWishes_70] at heq
  refine lv_istore (lv' := [(5, .int t0), (0, .ref (mm_lo G + a0)), (1, .int x1), (2, .int x2), (3, .int x3), (4, .int x4)]) hx hb dX5_tellWishes_70 hl (by decide) rfl (fun ls hl => ?_)
  refine lv_iload hx hb dX5_tellWishes_72 (lv_at hl 0 rfl) ?_
  refine lv_iconst (v := 2) hx hb dX5_tellWishes_74 (by decide) ?_
  refine lv_icmp_lt (tgt := 83) hx hb dX5_tellWishes_75 (by decide) (fun c1 => ?_) (fun c1 => ?_)
  · have heq := if_t c1 heq
    exact tX5_tellWishes_83 C a0 h0 x1 x2 x3 x4 _ _ _ _ _ hM hS (lv_sub hl [1, 2, 3, 4, 5, 0] rfl) heq
  · have heq := if_f c1 heq
    refine lv_iload_n hx hb dX5_tellWishes_78 rfl (lv_at hl 3 rfl) ?_
    refine lv_iload_n hx hb dX5_tellWishes_79 rfl (lv_at hl 4 rfl) ?_
    refine lv_icmp_eq (tgt := 101) hx hb dX5_tellWishes_80 (by decide) (fun c2 => ?_) (fun c2 => ?_)
    · have heq := if_t c2 heq
      refine lv_bipush (v := (-2)) hx hb dX5_tellWishes_101 (by decide) ?_
      cases heq
      exact mm_iret C hM hS dX5_tellWishes_103
    · have heq := if_f c2 heq
      exact tX5_tellWishes_83 C a0 h0 x1 x2 x3 x4 _ _ _ _ _ hM hS (lv_sub hl [1, 2, 3, 4, 5, 0] rfl) heq

set_option maxRecDepth 100000 in
set_option maxHeartbeats 4000000 in
theorem tX5_tellWishes (l : Launch) (G : mm_G) (M : mm_M) (a0 : Nat) (h0 : kT a0 = (4, 0)) (x1 : Int32) (x2 : Int32) (x3 : Int32) (x4 : Int32) (r : Int32) (M9 : mm_M) (heq : fX5_tellWishes M a0 x1 x2 x3 x4 = some (r, M9)) : Met l yX5_tellWishes (mm_ws yX5_tellWishes cX5_tellWishes 7 (some .int)) rmX5_tellWishes (va_Pc [.ref (mm_lo G + a0), .int x1, .int x2, .int x3, .int x4] (mm_B G (kR, 740, M))) (mm_Qi G r (kR, 740, M9)) 0 0 (mm_A G) := by
  refine mm_met (cc := cX5_tellWishes) (nL := 7) (ret := (some .int)) plRX5 (Nat.le_of_ble_eq_true rfl) ?_
  intro p e s m below meth c ls hin C hM hS hl
  have C : mm_C G p s m _ meth c RX5 cX5_tellWishes 7 (some .int) := C
  have hM : mm_P G kR 740 M s.heap := hM
  have hl : lv_has ls 7 [(0, .ref (mm_lo G + a0)), (1, .int x1), (2, .int x2), (3, .int x3), (4, .int x4)] := hl
  obtain ⟨hx, hb, -, -, -, -, -, -, hZ, -⟩ := id C
  rw [fX5_tellWishes] at heq
  refine lv_aload_n hx hb dX5_tellWishes_0 rfl (lv_at hl 0 rfl) ?_
  refine lv_iload_n hx hb dX5_tellWishes_1 rfl (lv_at hl 1 rfl) ?_
  obtain ⟨r2, e1, heq⟩ := bn_of heq
  refine mm_ki hS (mm_runV (rest := []) C hM hS (tX5_hasCart l G M a0 h0 x1 r2 e1) (uX5_97 _ (Nat.le_of_ble_eq_true rfl) (Nat.le_of_ble_eq_true rfl)) (mm_recv C hM (kl h0) (ci := 4) rfl (mm_e4 h0)) hl.1 rfl rfl (Nat.le_of_ble_eq_true rfl) ⟨Nat.zero_le _, Nat.zero_le _⟩ dX5_tellWishes_2) (fun H locs hM hS => ?_)
  have hM : mm_P G kR 740 M H := hM
  refine mm_ifneZ (tgt := 10) C dX5_tellWishes_5 (by decide) (fun c3 => ?_) (fun c3 => ?_)
  · have heq := if_t c3 heq
    refine lv_aload_n hx hb dX5_tellWishes_10 rfl (lv_at hl 0 rfl) ?_
    refine lv_iload_n hx hb dX5_tellWishes_11 rfl (lv_at hl 2 rfl) ?_
    obtain ⟨r5, e4, heq⟩ := bn_of heq
    refine mm_ki hS (mm_runV (rest := []) C hM hS (tX5_isPitchOrNone l G M a0 h0 x2 r5 e4) (uX5_100 _ (Nat.le_of_ble_eq_true rfl) (Nat.le_of_ble_eq_true rfl)) (mm_recv C hM (kl h0) (ci := 4) rfl (mm_e4 h0)) hl.1 rfl rfl (Nat.le_of_ble_eq_true rfl) ⟨Nat.zero_le _, Nat.zero_le _⟩ dX5_tellWishes_12) (fun H locs hM hS => ?_)
    have hM : mm_P G kR 740 M H := hM
    refine mm_ifeqZ (tgt := 35) C dX5_tellWishes_15 (by decide) (fun c6 => ?_) (fun c6 => ?_)
    · have heq := if_f c6 heq
      refine lv_bipush (v := (-2)) hx hb dX5_tellWishes_35 (by decide) ?_
      cases heq
      exact mm_iret C hM hS dX5_tellWishes_37
    · have heq := if_t c6 heq
      refine lv_aload_n hx hb dX5_tellWishes_18 rfl (lv_at hl 0 rfl) ?_
      refine lv_iload_n hx hb dX5_tellWishes_19 rfl (lv_at hl 3 rfl) ?_
      obtain ⟨r8, e7, heq⟩ := bn_of heq
      refine mm_ki hS (mm_runV (rest := []) C hM hS (tX5_isPitchOrNone l G M a0 h0 x3 r8 e7) (uX5_100 _ (Nat.le_of_ble_eq_true rfl) (Nat.le_of_ble_eq_true rfl)) (mm_recv C hM (kl h0) (ci := 4) rfl (mm_e4 h0)) hl.1 rfl rfl (Nat.le_of_ble_eq_true rfl) ⟨Nat.zero_le _, Nat.zero_le _⟩ dX5_tellWishes_20) (fun H locs hM hS => ?_)
      have hM : mm_P G kR 740 M H := hM
      refine mm_ifeqZ (tgt := 35) C dX5_tellWishes_23 (by decide) (fun c9 => ?_) (fun c9 => ?_)
      · have heq := if_f c9 heq
        refine lv_bipush (v := (-2)) hx hb dX5_tellWishes_35 (by decide) ?_
        cases heq
        exact mm_iret C hM hS dX5_tellWishes_37
      · have heq := if_t c9 heq
        refine lv_aload_n hx hb dX5_tellWishes_26 rfl (lv_at hl 0 rfl) ?_
        refine lv_iload hx hb dX5_tellWishes_27 (lv_at hl 4 rfl) ?_
        obtain ⟨r11, e10, heq⟩ := bn_of heq
        refine mm_ki hS (mm_runV (rest := []) C hM hS (tX5_isPitchOrNone l G M a0 h0 x4 r11 e10) (uX5_100 _ (Nat.le_of_ble_eq_true rfl) (Nat.le_of_ble_eq_true rfl)) (mm_recv C hM (kl h0) (ci := 4) rfl (mm_e4 h0)) hl.1 rfl rfl (Nat.le_of_ble_eq_true rfl) ⟨Nat.zero_le _, Nat.zero_le _⟩ dX5_tellWishes_29) (fun H locs hM hS => ?_)
        have hM : mm_P G kR 740 M H := hM
        refine mm_ifneZ (tgt := 38) C dX5_tellWishes_32 (by decide) (fun c12 => ?_) (fun c12 => ?_)
        · have heq := if_t c12 heq
          refine lv_iload_n hx hb dX5_tellWishes_38 rfl (lv_at hl 2 rfl) ?_
          refine lv_bipush (v := (-6)) hx hb dX5_tellWishes_39 (by decide) ?_
          refine lv_icmp_ne (tgt := 48) hx hb dX5_tellWishes_41 (by decide) (fun c13 => ?_) (fun c13 => ?_)
          · have heq := if_f c13 heq
            refine lv_iload_n hx hb dX5_tellWishes_48 rfl (lv_at hl 3 rfl) ?_
            refine lv_bipush (v := (-6)) hx hb dX5_tellWishes_49 (by decide) ?_
            refine lv_icmp_ne (tgt := 58) hx hb dX5_tellWishes_51 (by decide) (fun c14 => ?_) (fun c14 => ?_)
            · have heq := if_f c14 heq
              refine lv_iload hx hb dX5_tellWishes_58 (lv_at hl 4 rfl) ?_
              refine lv_bipush (v := (-6)) hx hb dX5_tellWishes_60 (by decide) ?_
              refine lv_icmp_ne (tgt := 69) hx hb dX5_tellWishes_62 (by decide) (fun c15 => ?_) (fun c15 => ?_)
              · have heq := if_f c15 heq
                refine lv_iconst (v := 3) hx hb dX5_tellWishes_69 (by decide) ?_
                exact tX5_tellWishes_70 C a0 h0 x1 x2 x3 x4 _ _ _ _ _ hM hS (lv_sub hl [0, 1, 2, 3, 4] rfl) heq
              · have heq := if_t c15 heq
                refine lv_iconst (v := 2) hx hb dX5_tellWishes_65 (by decide) ?_
                refine lv_goto (tgt := 70) hx hb dX5_tellWishes_66 (by decide) ?_
                exact tX5_tellWishes_70 C a0 h0 x1 x2 x3 x4 _ _ _ _ _ hM hS (lv_sub hl [0, 1, 2, 3, 4] rfl) heq
            · have heq := if_t c14 heq
              refine lv_iconst (v := 1) hx hb dX5_tellWishes_54 (by decide) ?_
              refine lv_goto (tgt := 70) hx hb dX5_tellWishes_55 (by decide) ?_
              exact tX5_tellWishes_70 C a0 h0 x1 x2 x3 x4 _ _ _ _ _ hM hS (lv_sub hl [0, 1, 2, 3, 4] rfl) heq
          · have heq := if_t c13 heq
            refine lv_iconst (v := 0) hx hb dX5_tellWishes_44 (by decide) ?_
            refine lv_goto (tgt := 70) hx hb dX5_tellWishes_45 (by decide) ?_
            exact tX5_tellWishes_70 C a0 h0 x1 x2 x3 x4 _ _ _ _ _ hM hS (lv_sub hl [0, 1, 2, 3, 4] rfl) heq
        · have heq := if_f c12 heq
          refine lv_bipush (v := (-2)) hx hb dX5_tellWishes_35 (by decide) ?_
          cases heq
          exact mm_iret C hM hS dX5_tellWishes_37
  · have heq := if_f c3 heq
    refine lv_iconst (v := (-1)) hx hb dX5_tellWishes_8 (by decide) ?_
    cases heq
    exact mm_iret C hM hS dX5_tellWishes_9
end WALK
