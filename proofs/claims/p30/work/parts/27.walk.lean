section WALK
variable {p : Program} {l : Launch} {e : Env} {s : State} {m : MethodId} {args : Array Value} {below : List Frame} {meth : Method} {c : Code} {G : mm_G}
set_option maxRecDepth 100000 in
set_option maxHeartbeats 4000000 in
theorem tX7_layBack_2 (C : mm_C G p s m args meth c RX7 cX7_layBack 2 none)  {M9 : mm_M} : ∀ n : Nat, ∀ (M : mm_M) (v1 : Int32) (H : Heap) (locs : List Loc) (ls : Array Slot), mm_P G kR 740 M H → va_S (mm_A G) s.heap H locs → lv_has ls 2 [(0, .ref (mm_lo G + 731)), (1, .int v1)] → fX7_layBack_2 n M v1 = some M9 → W p l e rmX7_layBack s m args below meth c H locs 0 0 (MQ below (mm_Qv G (kR, 740, M9)) args s 0 0 (mm_A G)) (F0 m 2 ls []) := by
  obtain ⟨hx, hb, -, -, -, -, -, -, hZ, -⟩ := id C
  intro n
  induction n with
  | zero =>
    intro M v1 H locs ls hM hS hl heq
    rw [fX7_layBack_2] at heq
    cases heq
  | succ n ih =>
    intro M v1 H locs ls hM hS hl heq
    rw [fX7_layBack_2] at heq
    refine lv_iload_n hx hb dX7_layBack_2 rfl (lv_at hl 1 rfl) ?_
    refine lv_sipush (v := 3592) hx hb dX7_layBack_3 (by decide) ?_
    refine lv_icmp_ge (tgt := 27) hx hb dX7_layBack_6 (by decide) (fun c1 => ?_) (fun c1 => ?_)
    · have heq := if_t c1 heq
      cases heq
      exact mm_vret C hM hS dX7_layBack_27
    · have heq := if_f c1 heq
      refine lv_aload_n hx hb dX7_layBack_9 rfl (lv_at hl 0 rfl) ?_
      refine gX7_7 C hM (kl (rfl : kT 731 = (6, 0))) (rfl : kT 731 = (6, 0)) (rfl : kR 731 0 = some 732) dX7_layBack_10 ?_
      refine lv_iload_n hx hb dX7_layBack_13 rfl (lv_at hl 1 rfl) ?_
      refine lv_aload_n hx hb dX7_layBack_14 rfl (lv_at hl 0 rfl) ?_
      refine gX7_23 C hM (kl (rfl : kT 731 = (6, 0))) (rfl : kT 731 = (6, 0)) (rfl : kR 731 5 = some 736) dX7_layBack_15 ?_
      refine lv_iload_n hx hb dX7_layBack_18 rfl (lv_at hl 1 rfl) ?_
      obtain ⟨g2, heq⟩ := gd_of heq
      refine mm_ildk C hM (kl (rfl : kT 736 = (8, 3592))) (rfl : kT 736 = (8, 3592)) (vp_in_of2 g2) rfl dX7_layBack_19 ?_
      refine mm_istk C hM hS (kl (rfl : kT 732 = (8, 3592))) (rfl : kT 732 = (8, 3592)) (vp_in_of2 g2) rfl dX7_layBack_20 (fun H locs hM hS _ => ?_)
      obtain ⟨M3, eM3⟩ : ∃ z : mm_M, z = sI M 732 v1.toNatClampNeg (M.1 736 v1.toNatClampNeg) := ⟨_, rfl⟩
      rw [← eM3] at hM
      have heq := lt_to eM3 heq
      obtain ⟨y4, ey4⟩ : ∃ y : Int32, y = (v1 + 1) := ⟨_, rfl⟩
      have heq := lt_to ey4 heq
      refine lv_iinc (v := y4) (lv' := [(1, .int y4), (0, .ref (mm_lo G + 731))]) hx hb dX7_layBack_21 hl (k := 1) rfl (by rw [ey4]; rfl) (by decide) rfl (fun ls hl => ?_)
      refine lv_goto (tgt := 2) hx hb dX7_layBack_24 (by decide) ?_
      exact ih _ _ _ _ _ hM hS (lv_sub hl [1, 0] rfl) heq

set_option maxRecDepth 100000 in
set_option maxHeartbeats 4000000 in
theorem tX7_layBack (l : Launch) (G : mm_G) (M : mm_M)  (M9 : mm_M) (heq : fX7_layBack M = some M9) : Met l yX7_layBack (mm_ws yX7_layBack cX7_layBack 2 none) rmX7_layBack (va_Pc [.ref (mm_lo G + 731)] (mm_B G (kR, 740, M))) (mm_Qv G (kR, 740, M9)) 0 0 (mm_A G) := by
  refine mm_met (cc := cX7_layBack) (nL := 2) (ret := none) plRX7 (Nat.le_of_ble_eq_true rfl) ?_
  intro p e s m below meth c ls hin C hM hS hl
  have C : mm_C G p s m _ meth c RX7 cX7_layBack 2 none := C
  have hM : mm_P G kR 740 M s.heap := hM
  have hl : lv_has ls 2 [(0, .ref (mm_lo G + 731))] := hl
  obtain ⟨hx, hb, -, -, -, -, -, -, hZ, -⟩ := id C
  rw [fX7_layBack] at heq
  refine lv_iconst (v := 0) hx hb dX7_layBack_0 (by decide) ?_
  refine lv_istore_n (lv' := [(1, .int 0), (0, .ref (mm_lo G + 731))]) hx hb dX7_layBack_1 rfl hl (by decide) rfl (fun ls hl => ?_)
  exact tX7_layBack_2 C FU _ _ _ _ _ hM hS (lv_sub hl [1, 0] rfl) heq

set_option maxRecDepth 100000 in
set_option maxHeartbeats 4000000 in
theorem tX7_least (l : Launch) (G : mm_G) (M : mm_M) (x0 : Int32) (r : Int32) (heq : fX7_least M x0 = some r) : Met l yX7_least (mm_ws yX7_least cX7_least 1 (some .int)) rmX7_least (va_Pc [.int x0] (mm_B G (kR, 740, M))) (mm_Qi G r (kR, 740, M)) 0 0 (mm_A G) := by
  refine mm_met (cc := cX7_least) (nL := 1) (ret := (some .int)) plRX7 (Nat.le_of_ble_eq_true rfl) ?_
  intro p e s m below meth c ls hin C hM hS hl
  have C : mm_C G p s m _ meth c RX7 cX7_least 1 (some .int) := C
  have hM : mm_P G kR 740 M s.heap := hM
  have hl : lv_has ls 1 [(0, .int x0)] := hl
  obtain ⟨hx, hb, -, -, -, -, -, -, hZ, -⟩ := id C
  rw [fX7_least] at heq
  refine lv_iload_n hx hb dX7_least_0 rfl (lv_at hl 0 rfl) ?_
  refine lv_iconst (v := 3) hx hb dX7_least_1 (by decide) ?_
  refine lv_icmp_ne (tgt := 9) hx hb dX7_least_2 (by decide) (fun c1 => ?_) (fun c1 => ?_)
  · have heq := if_f c1 heq
    refine lv_iload_n hx hb dX7_least_9 rfl (lv_at hl 0 rfl) ?_
    refine lv_bipush (v := 8) hx hb dX7_least_10 (by decide) ?_
    refine lv_icmp_ne (tgt := 20) hx hb dX7_least_12 (by decide) (fun c2 => ?_) (fun c2 => ?_)
    · have heq := if_f c2 heq
      refine lv_iload_n hx hb dX7_least_20 rfl (lv_at hl 0 rfl) ?_
      refine lv_bipush (v := 6) hx hb dX7_least_21 (by decide) ?_
      refine lv_icmp_eq (tgt := 38) hx hb dX7_least_23 (by decide) (fun c3 => ?_) (fun c3 => ?_)
      · have heq := if_t c3 heq
        refine lv_iconst (v := 0) hx hb dX7_least_38 (by decide) ?_
        refine lv_goto (tgt := 43) hx hb dX7_least_39 (by decide) ?_
        cases heq
        exact mm_iret C hM hS dX7_least_43
      · have heq := if_f c3 heq
        refine lv_iload_n hx hb dX7_least_26 rfl (lv_at hl 0 rfl) ?_
        refine lv_bipush (v := 7) hx hb dX7_least_27 (by decide) ?_
        refine lv_icmp_eq (tgt := 38) hx hb dX7_least_29 (by decide) (fun c4 => ?_) (fun c4 => ?_)
        · have heq := if_t c4 heq
          refine lv_iconst (v := 0) hx hb dX7_least_38 (by decide) ?_
          refine lv_goto (tgt := 43) hx hb dX7_least_39 (by decide) ?_
          cases heq
          exact mm_iret C hM hS dX7_least_43
        · have heq := if_f c4 heq
          refine lv_iload_n hx hb dX7_least_32 rfl (lv_at hl 0 rfl) ?_
          refine lv_bipush (v := 9) hx hb dX7_least_33 (by decide) ?_
          refine lv_icmp_ne (tgt := 42) hx hb dX7_least_35 (by decide) (fun c5 => ?_) (fun c5 => ?_)
          · have heq := if_f c5 heq
            refine lv_iconst (v := 1) hx hb dX7_least_42 (by decide) ?_
            cases heq
            exact mm_iret C hM hS dX7_least_43
          · have heq := if_t c5 heq
            refine lv_iconst (v := 0) hx hb dX7_least_38 (by decide) ?_
            refine lv_goto (tgt := 43) hx hb dX7_least_39 (by decide) ?_
            cases heq
            exact mm_iret C hM hS dX7_least_43
    · have heq := if_t c2 heq
      refine lv_bipush (v := 6) hx hb dX7_least_15 (by decide) ?_
      refine lv_goto (tgt := 43) hx hb dX7_least_17 (by decide) ?_
      cases heq
      exact mm_iret C hM hS dX7_least_43
  · have heq := if_t c1 heq
    refine lv_iconst (v := 3) hx hb dX7_least_5 (by decide) ?_
    refine lv_goto (tgt := 43) hx hb dX7_least_6 (by decide) ?_
    cases heq
    exact mm_iret C hM hS dX7_least_43

set_option maxRecDepth 100000 in
set_option maxHeartbeats 4000000 in
theorem tX7_greatest (l : Launch) (G : mm_G) (M : mm_M) (x0 : Int32) (r : Int32) (heq : fX7_greatest M x0 = some r) : Met l yX7_greatest (mm_ws yX7_greatest cX7_greatest 1 (some .int)) rmX7_greatest (va_Pc [.int x0] (mm_B G (kR, 740, M))) (mm_Qi G r (kR, 740, M)) 0 0 (mm_A G) := by
  refine mm_met (cc := cX7_greatest) (nL := 1) (ret := (some .int)) plRX7 (Nat.le_of_ble_eq_true rfl) ?_
  intro p e s m below meth c ls hin C hM hS hl
  have C : mm_C G p s m _ meth c RX7 cX7_greatest 1 (some .int) := C
  have hM : mm_P G kR 740 M s.heap := hM
  have hl : lv_has ls 1 [(0, .int x0)] := hl
  obtain ⟨hx, hb, -, -, -, -, -, -, hZ, -⟩ := id C
  rw [fX7_greatest] at heq
  refine lv_iload_n hx hb dX7_greatest_0 rfl (lv_at hl 0 rfl) ?_
  by_cases c1 : x0 = 0
  · have heq := if_t c1 heq
    refine lv_tableIn (tgt := 52) hx hb dX7_greatest_1 (by rw [c1]; decide) (by rw [c1]; decide) (by rw [c1]; rfl) (by decide) ?_
    refine lv_bipush (v := 20) hx hb dX7_greatest_52 (by decide) ?_
    cases heq
    exact mm_iret C hM hS dX7_greatest_54
  · have heq := if_f c1 heq
    by_cases c2 : x0 = 1
    · have heq := if_t c2 heq
      refine lv_tableIn (tgt := 55) hx hb dX7_greatest_1 (by rw [c2]; decide) (by rw [c2]; decide) (by rw [c2]; rfl) (by decide) ?_
      refine lv_sipush (v := 200) hx hb dX7_greatest_55 (by decide) ?_
      cases heq
      exact mm_iret C hM hS dX7_greatest_58
    · have heq := if_f c2 heq
      by_cases c3 : x0 = 2
      · have heq := if_t c3 heq
        refine lv_tableIn (tgt := 59) hx hb dX7_greatest_1 (by rw [c3]; decide) (by rw [c3]; decide) (by rw [c3]; rfl) (by decide) ?_
        refine lv_bipush (v := 8) hx hb dX7_greatest_59 (by decide) ?_
        cases heq
        exact mm_iret C hM hS dX7_greatest_61
      · have heq := if_f c3 heq
        by_cases c4 : x0 = 3
        · have heq := if_t c4 heq
          refine lv_tableIn (tgt := 62) hx hb dX7_greatest_1 (by rw [c4]; decide) (by rw [c4]; decide) (by rw [c4]; rfl) (by decide) ?_
          refine lv_bipush (v := 30) hx hb dX7_greatest_62 (by decide) ?_
          cases heq
          exact mm_iret C hM hS dX7_greatest_64
        · have heq := if_f c4 heq
          by_cases c5 : x0 = 4
          · have heq := if_t c5 heq
            refine lv_tableIn (tgt := 65) hx hb dX7_greatest_1 (by rw [c5]; decide) (by rw [c5]; decide) (by rw [c5]; rfl) (by decide) ?_
            refine lv_bipush (v := 60) hx hb dX7_greatest_65 (by decide) ?_
            cases heq
            exact mm_iret C hM hS dX7_greatest_67
          · have heq := if_f c5 heq
            by_cases c6 : x0 = 5
            · have heq := if_t c6 heq
              refine lv_tableIn (tgt := 55) hx hb dX7_greatest_1 (by rw [c6]; decide) (by rw [c6]; decide) (by rw [c6]; rfl) (by decide) ?_
              refine lv_sipush (v := 200) hx hb dX7_greatest_55 (by decide) ?_
              cases heq
              exact mm_iret C hM hS dX7_greatest_58
            · have heq := if_f c6 heq
              by_cases c7 : x0 = 6
              · have heq := if_t c7 heq
                refine lv_tableIn (tgt := 68) hx hb dX7_greatest_1 (by rw [c7]; decide) (by rw [c7]; decide) (by rw [c7]; rfl) (by decide) ?_
                refine lv_sipush (v := 10000) hx hb dX7_greatest_68 (by decide) ?_
                cases heq
                exact mm_iret C hM hS dX7_greatest_71
              · have heq := if_f c7 heq
                by_cases c8 : x0 = 7
                · have heq := if_t c8 heq
                  refine lv_tableIn (tgt := 72) hx hb dX7_greatest_1 (by rw [c8]; decide) (by rw [c8]; decide) (by rw [c8]; rfl) (by decide) ?_
                  refine lv_bipush (v := 9) hx hb dX7_greatest_72 (by decide) ?_
                  cases heq
                  exact mm_iret C hM hS dX7_greatest_74
                · have heq := if_f c8 heq
                  by_cases c9 : x0 = 8
                  · have heq := if_t c9 heq
                    refine lv_tableIn (tgt := 75) hx hb dX7_greatest_1 (by rw [c9]; decide) (by rw [c9]; decide) (by rw [c9]; rfl) (by decide) ?_
                    refine lv_bipush (v := 14) hx hb dX7_greatest_75 (by decide) ?_
                    cases heq
                    exact mm_iret C hM hS dX7_greatest_77
                  · have heq := if_f c9 heq
                    refine lv_tableOut (tgt := 78) hx hb dX7_greatest_1 (by have nc1 := lv_neT (k := 0) (a := 0) c1 rfl; have nc2 := lv_neT (k := 1) (a := 1) c2 rfl; have nc3 := lv_neT (k := 2) (a := 2) c3 rfl; have nc4 := lv_neT (k := 3) (a := 3) c4 rfl; have nc5 := lv_neT (k := 4) (a := 4) c5 rfl; have nc6 := lv_neT (k := 5) (a := 5) c6 rfl; have nc7 := lv_neT (k := 6) (a := 6) c7 rfl; have nc8 := lv_neT (k := 7) (a := 7) c8 rfl; have nc9 := lv_neT (k := 8) (a := 8) c9 rfl; omega) (by decide) ?_
                    refine lv_sipush (v := 5000) hx hb dX7_greatest_78 (by decide) ?_
                    cases heq
                    exact mm_iret C hM hS dX7_greatest_81

set_option maxRecDepth 100000 in
set_option maxHeartbeats 4000000 in
theorem tX7_set (l : Launch) (G : mm_G) (M : mm_M) (x1 : Int32) (x2 : Int32) (r : Int32) (M9 : mm_M) (heq : fX7_set M x1 x2 = some (r, M9)) : Met l yX7_set (mm_ws yX7_set cX7_set 4 (some .int)) rmX7_set (va_Pc [.ref (mm_lo G + 731), .int x1, .int x2] (mm_B G (kR, 740, M))) (mm_Qi G r (kR, 740, M9)) 0 0 (mm_A G) := by
  refine mm_met (cc := cX7_set) (nL := 4) (ret := (some .int)) plRX7 (Nat.le_of_ble_eq_true rfl) ?_
  intro p e s m below meth c ls hin C hM hS hl
  have C : mm_C G p s m _ meth c RX7 cX7_set 4 (some .int) := C
  have hM : mm_P G kR 740 M s.heap := hM
  have hl : lv_has ls 4 [(0, .ref (mm_lo G + 731)), (1, .int x1), (2, .int x2)] := hl
  obtain ⟨hx, hb, -, -, -, -, -, -, hZ, -⟩ := id C
  rw [fX7_set] at heq
  refine lv_iload_n hx hb dX7_set_0 rfl (lv_at hl 1 rfl) ?_
  refine lv_iconst (v := 0) hx hb dX7_set_1 (by decide) ?_
  refine lv_bipush (v := 9) hx hb dX7_set_2 (by decide) ?_
  obtain ⟨r2, e1, heq⟩ := bn_of heq
  refine mm_ki hS (mm_runS (rest := []) C hM hS (tX7_in l G M x1 0 9 r2 e1) (uX7_35 _ (Nat.le_of_ble_eq_true rfl) (Nat.le_of_ble_eq_true rfl)) hl.1 rfl rfl (Nat.le_of_ble_eq_true rfl) ⟨Nat.zero_le _, Nat.zero_le _⟩ dX7_set_4) (fun H locs hM hS => ?_)
  have hM : mm_P G kR 740 M H := hM
  refine mm_ifeqZ (tgt := 25) C dX7_set_7 (by decide) (fun c3 => ?_) (fun c3 => ?_)
  · have heq := if_f c3 heq
    refine lv_bipush (v := (-2)) hx hb dX7_set_25 (by decide) ?_
    cases heq
    exact mm_iret C hM hS dX7_set_27
  · have heq := if_t c3 heq
    refine lv_iload_n hx hb dX7_set_10 rfl (lv_at hl 2 rfl) ?_
    refine lv_iload_n hx hb dX7_set_11 rfl (lv_at hl 1 rfl) ?_
    obtain ⟨r5, e4, heq⟩ := bn_of heq
    refine mm_ki hS (mm_runS (rest := [.int x2]) C hM hS (tX7_least l G M x1 r5 e4) (uX7_46 _ (Nat.le_of_ble_eq_true rfl) (Nat.le_of_ble_eq_true rfl)) hl.1 rfl rfl (Nat.le_of_ble_eq_true rfl) ⟨Nat.zero_le _, Nat.zero_le _⟩ dX7_set_12) (fun H locs hM hS => ?_)
    have hM : mm_P G kR 740 M H := hM
    refine lv_iload_n hx hb dX7_set_15 rfl (lv_at hl 1 rfl) ?_
    obtain ⟨r7, e6, heq⟩ := bn_of heq
    refine mm_ki hS (mm_runS (rest := [.int r5, .int x2]) C hM hS (tX7_greatest l G M x1 r7 e6) (uX7_50 _ (Nat.le_of_ble_eq_true rfl) (Nat.le_of_ble_eq_true rfl)) hl.1 rfl rfl (Nat.le_of_ble_eq_true rfl) ⟨Nat.zero_le _, Nat.zero_le _⟩ dX7_set_16) (fun H locs hM hS => ?_)
    have hM : mm_P G kR 740 M H := hM
    obtain ⟨r9, e8, heq⟩ := bn_of heq
    refine mm_ki hS (mm_runS (rest := []) C hM hS (tX7_in l G M x2 r5 r7 r9 e8) (uX7_35 _ (Nat.le_of_ble_eq_true rfl) (Nat.le_of_ble_eq_true rfl)) hl.1 rfl rfl (Nat.le_of_ble_eq_true rfl) ⟨Nat.zero_le _, Nat.zero_le _⟩ dX7_set_19) (fun H locs hM hS => ?_)
    have hM : mm_P G kR 740 M H := hM
    refine mm_ifneZ (tgt := 28) C dX7_set_22 (by decide) (fun c10 => ?_) (fun c10 => ?_)
    · have heq := if_t c10 heq
      refine lv_aload_n hx hb dX7_set_28 rfl (lv_at hl 0 rfl) ?_
      obtain ⟨M12, e11, heq⟩ := bn_of heq
      refine mm_kv hS (mm_runV (rest := []) C hM hS (tX7_keep l G M M12 e11) (uX7_43 _ (Nat.le_of_ble_eq_true rfl) (Nat.le_of_ble_eq_true rfl)) (mm_recv C hM (kl (rfl : kT 731 = (6, 0))) (ci := 6) rfl (mm_e6 (rfl : kT 731 = (6, 0)))) hl.1 rfl rfl (Nat.le_of_ble_eq_true rfl) ⟨Nat.zero_le _, Nat.zero_le _⟩ dX7_set_29) (fun H locs hM hS => ?_)
      have hM : mm_P G kR 740 M12 H := hM
      refine lv_aload_n hx hb dX7_set_32 rfl (lv_at hl 0 rfl) ?_
      refine gX7_7 C hM (kl (rfl : kT 731 = (6, 0))) (rfl : kT 731 = (6, 0)) (rfl : kR 731 0 = some 732) dX7_set_33 ?_
      refine lv_iload_n hx hb dX7_set_36 rfl (lv_at hl 1 rfl) ?_
      obtain ⟨g13, heq⟩ := gd_of heq
      refine mm_ildk C hM (kl (rfl : kT 732 = (8, 3592))) (rfl : kT 732 = (8, 3592)) (vp_in_of2 g13) rfl dX7_set_37 ?_
      refine lv_topi (fun y14 ey14 => ?_)
      have heq := lt_to ey14 heq
      refine lv_istore_n (lv' := [(3, .int y14), (0, .ref (mm_lo G + 731)), (1, .int x1), (2, .int x2)]) hx hb dX7_set_38 rfl hl (by decide) rfl (fun ls hl => ?_)
      refine lv_aload_n hx hb dX7_set_39 rfl (lv_at hl 1 rfl) ?_
      refine gX7_7 C hM (kl (rfl : kT 731 = (6, 0))) (rfl : kT 731 = (6, 0)) (rfl : kR 731 0 = some 732) dX7_set_40 ?_
      refine lv_iload_n hx hb dX7_set_43 rfl (lv_at hl 2 rfl) ?_
      refine lv_iload_n hx hb dX7_set_44 rfl (lv_at hl 3 rfl) ?_
      refine mm_istk C hM hS (kl (rfl : kT 732 = (8, 3592))) (rfl : kT 732 = (8, 3592)) (vp_in_of2 g13) rfl dX7_set_45 (fun H locs hM hS _ => ?_)
      obtain ⟨M15, eM15⟩ : ∃ z : mm_M, z = sI M12 732 x1.toNatClampNeg x2 := ⟨_, rfl⟩
      rw [← eM15] at hM
      have heq := lt_to eM15 heq
      refine lv_iload_n hx hb dX7_set_46 rfl (lv_at hl 0 rfl) ?_
      cases heq
      exact mm_iret C hM hS dX7_set_47
    · have heq := if_f c10 heq
      refine lv_bipush (v := (-2)) hx hb dX7_set_25 (by decide) ?_
      cases heq
      exact mm_iret C hM hS dX7_set_27

set_option maxRecDepth 100000 in
set_option maxHeartbeats 4000000 in
theorem tX7_seed (l : Launch) (G : mm_G) (M : mm_M) (x1 : Int32) (r : Int32) (M9 : mm_M) (heq : fX7_seed M x1 = some (r, M9)) : Met l yX7_seed (mm_ws yX7_seed cX7_seed 3 (some .int)) rmX7_seed (va_Pc [.ref (mm_lo G + 731), .int x1] (mm_B G (kR, 740, M))) (mm_Qi G r (kR, 740, M9)) 0 0 (mm_A G) := by
  refine mm_met (cc := cX7_seed) (nL := 3) (ret := (some .int)) plRX7 (Nat.le_of_ble_eq_true rfl) ?_
  intro p e s m below meth c ls hin C hM hS hl
  have C : mm_C G p s m _ meth c RX7 cX7_seed 3 (some .int) := C
  have hM : mm_P G kR 740 M s.heap := hM
  have hl : lv_has ls 3 [(0, .ref (mm_lo G + 731)), (1, .int x1)] := hl
  obtain ⟨hx, hb, -, -, -, -, -, -, hZ, -⟩ := id C
  rw [fX7_seed] at heq
  refine lv_iload_n hx hb dX7_seed_0 rfl (lv_at hl 1 rfl) ?_
  refine lv_iconst (v := 0) hx hb dX7_seed_1 (by decide) ?_
  refine mm_ldc C kX7_53 dX7_seed_2 ?_
  obtain ⟨r2, e1, heq⟩ := bn_of heq
  refine mm_ki hS (mm_runS (rest := []) C hM hS (tX7_in l G M x1 0 65536 r2 e1) (uX7_35 _ (Nat.le_of_ble_eq_true rfl) (Nat.le_of_ble_eq_true rfl)) hl.1 rfl rfl (Nat.le_of_ble_eq_true rfl) ⟨Nat.zero_le _, Nat.zero_le _⟩ dX7_seed_4) (fun H locs hM hS => ?_)
  have hM : mm_P G kR 740 M H := hM
  refine mm_ifneZ (tgt := 13) C dX7_seed_7 (by decide) (fun c3 => ?_) (fun c3 => ?_)
  · have heq := if_t c3 heq
    refine lv_aload_n hx hb dX7_seed_13 rfl (lv_at hl 0 rfl) ?_
    obtain ⟨M5, e4, heq⟩ := bn_of heq
    refine mm_kv hS (mm_runV (rest := []) C hM hS (tX7_keep l G M M5 e4) (uX7_43 _ (Nat.le_of_ble_eq_true rfl) (Nat.le_of_ble_eq_true rfl)) (mm_recv C hM (kl (rfl : kT 731 = (6, 0))) (ci := 6) rfl (mm_e6 (rfl : kT 731 = (6, 0)))) hl.1 rfl rfl (Nat.le_of_ble_eq_true rfl) ⟨Nat.zero_le _, Nat.zero_le _⟩ dX7_seed_14) (fun H locs hM hS => ?_)
    have hM : mm_P G kR 740 M5 H := hM
    refine lv_aload_n hx hb dX7_seed_17 rfl (lv_at hl 0 rfl) ?_
    refine gX7_7 C hM (kl (rfl : kT 731 = (6, 0))) (rfl : kT 731 = (6, 0)) (rfl : kR 731 0 = some 732) dX7_seed_18 ?_
    refine lv_bipush (v := 11) hx hb dX7_seed_21 (by decide) ?_
    refine mm_ildk C hM (kl (rfl : kT 732 = (8, 3592))) (rfl : kT 732 = (8, 3592)) (vp_in_of2 (by decide)) (by decide : (11 : Int32).toNatClampNeg = 11) dX7_seed_23 ?_
    refine lv_topi (fun y6 ey6 => ?_)
    have heq := lt_to ey6 heq
    refine lv_istore_n (lv' := [(2, .int y6), (0, .ref (mm_lo G + 731)), (1, .int x1)]) hx hb dX7_seed_24 rfl hl (by decide) rfl (fun ls hl => ?_)
    refine lv_aload_n hx hb dX7_seed_25 rfl (lv_at hl 1 rfl) ?_
    refine gX7_7 C hM (kl (rfl : kT 731 = (6, 0))) (rfl : kT 731 = (6, 0)) (rfl : kR 731 0 = some 732) dX7_seed_26 ?_
    refine lv_bipush (v := 11) hx hb dX7_seed_29 (by decide) ?_
    refine lv_iload_n hx hb dX7_seed_31 rfl (lv_at hl 2 rfl) ?_
    refine mm_istk C hM hS (kl (rfl : kT 732 = (8, 3592))) (rfl : kT 732 = (8, 3592)) (vp_in_of2 (by decide)) (by decide : (11 : Int32).toNatClampNeg = 11) dX7_seed_32 (fun H locs hM hS _ => ?_)
    obtain ⟨M7, eM7⟩ : ∃ z : mm_M, z = sI M5 732 11 x1 := ⟨_, rfl⟩
    rw [← eM7] at hM
    have heq := lt_to eM7 heq
    refine lv_iload_n hx hb dX7_seed_33 rfl (lv_at hl 0 rfl) ?_
    cases heq
    exact mm_iret C hM hS dX7_seed_34
  · have heq := if_f c3 heq
    refine lv_bipush (v := (-2)) hx hb dX7_seed_10 (by decide) ?_
    cases heq
    exact mm_iret C hM hS dX7_seed_12

set_option maxRecDepth 100000 in
set_option maxHeartbeats 4000000 in
theorem tX7_pitch (l : Launch) (G : mm_G) (M : mm_M) (x1 : Int32) (r : Int32) (M9 : mm_M) (heq : fX7_pitch M x1 = some (r, M9)) : Met l yX7_pitch (mm_ws yX7_pitch cX7_pitch 3 (some .int)) rmX7_pitch (va_Pc [.ref (mm_lo G + 731), .int x1] (mm_B G (kR, 740, M))) (mm_Qi G r (kR, 740, M9)) 0 0 (mm_A G) := by
  refine mm_met (cc := cX7_pitch) (nL := 3) (ret := (some .int)) plRX7 (Nat.le_of_ble_eq_true rfl) ?_
  intro p e s m below meth c ls hin C hM hS hl
  have C : mm_C G p s m _ meth c RX7 cX7_pitch 3 (some .int) := C
  have hM : mm_P G kR 740 M s.heap := hM
  have hl : lv_has ls 3 [(0, .ref (mm_lo G + 731)), (1, .int x1)] := hl
  obtain ⟨hx, hb, -, -, -, -, -, -, hZ, -⟩ := id C
  rw [fX7_pitch] at heq
  refine lv_iload_n hx hb dX7_pitch_0 rfl (lv_at hl 1 rfl) ?_
  refine lv_iconst (v := 0) hx hb dX7_pitch_1 (by decide) ?_
  refine lv_sipush (v := 20000) hx hb dX7_pitch_2 (by decide) ?_
  obtain ⟨r2, e1, heq⟩ := bn_of heq
  refine mm_ki hS (mm_runS (rest := []) C hM hS (tX7_in l G M x1 0 20000 r2 e1) (uX7_35 _ (Nat.le_of_ble_eq_true rfl) (Nat.le_of_ble_eq_true rfl)) hl.1 rfl rfl (Nat.le_of_ble_eq_true rfl) ⟨Nat.zero_le _, Nat.zero_le _⟩ dX7_pitch_5) (fun H locs hM hS => ?_)
  have hM : mm_P G kR 740 M H := hM
  refine mm_ifneZ (tgt := 14) C dX7_pitch_8 (by decide) (fun c3 => ?_) (fun c3 => ?_)
  · have heq := if_t c3 heq
    refine lv_aload_n hx hb dX7_pitch_14 rfl (lv_at hl 0 rfl) ?_
    refine gX7_7 C hM (kl (rfl : kT 731 = (6, 0))) (rfl : kT 731 = (6, 0)) (rfl : kR 731 0 = some 732) dX7_pitch_15 ?_
    refine lv_bipush (v := 12) hx hb dX7_pitch_18 (by decide) ?_
    refine mm_ildk C hM (kl (rfl : kT 732 = (8, 3592))) (rfl : kT 732 = (8, 3592)) (vp_in_of2 (by decide)) (by decide : (12 : Int32).toNatClampNeg = 12) dX7_pitch_20 ?_
    refine lv_bipush (v := 10) hx hb dX7_pitch_21 (by decide) ?_
    refine lv_icmp_ne (tgt := 29) hx hb dX7_pitch_23 (by decide) (fun c4 => ?_) (fun c4 => ?_)
    · have heq := if_f c4 heq
      refine lv_aload_n hx hb dX7_pitch_29 rfl (lv_at hl 0 rfl) ?_
      obtain ⟨M6, e5, heq⟩ := bn_of heq
      refine mm_kv hS (mm_runV (rest := []) C hM hS (tX7_keep l G M M6 e5) (uX7_43 _ (Nat.le_of_ble_eq_true rfl) (Nat.le_of_ble_eq_true rfl)) (mm_recv C hM (kl (rfl : kT 731 = (6, 0))) (ci := 6) rfl (mm_e6 (rfl : kT 731 = (6, 0)))) hl.1 rfl rfl (Nat.le_of_ble_eq_true rfl) ⟨Nat.zero_le _, Nat.zero_le _⟩ dX7_pitch_30) (fun H locs hM hS => ?_)
      have hM : mm_P G kR 740 M6 H := hM
      refine lv_bipush (v := 32) hx hb dX7_pitch_33 (by decide) ?_
      refine lv_iconst (v := 4) hx hb dX7_pitch_35 (by decide) ?_
      refine lv_aload_n hx hb dX7_pitch_36 rfl (lv_at hl 0 rfl) ?_
      refine gX7_7 C hM (kl (rfl : kT 731 = (6, 0))) (rfl : kT 731 = (6, 0)) (rfl : kR 731 0 = some 732) dX7_pitch_37 ?_
      refine lv_bipush (v := 12) hx hb dX7_pitch_40 (by decide) ?_
      refine mm_ildk C hM (kl (rfl : kT 732 = (8, 3592))) (rfl : kT 732 = (8, 3592)) (vp_in_of2 (by decide)) (by decide : (12 : Int32).toNatClampNeg = 12) dX7_pitch_42 ?_
      refine lv_imul hx hb dX7_pitch_43 ?_
      refine lv_iadd hx hb dX7_pitch_44 ?_
      refine lv_topi (fun y7 ey7 => ?_)
      have heq := lt_to ey7 heq
      refine lv_istore_n (lv' := [(2, .int y7), (0, .ref (mm_lo G + 731)), (1, .int x1)]) hx hb dX7_pitch_45 rfl hl (by decide) rfl (fun ls hl => ?_)
      refine lv_aload_n hx hb dX7_pitch_46 rfl (lv_at hl 1 rfl) ?_
      refine gX7_7 C hM (kl (rfl : kT 731 = (6, 0))) (rfl : kT 731 = (6, 0)) (rfl : kR 731 0 = some 732) dX7_pitch_47 ?_
      refine lv_iload_n hx hb dX7_pitch_50 rfl (lv_at hl 0 rfl) ?_
      refine lv_iconst (v := 0) hx hb dX7_pitch_51 (by decide) ?_
      refine lv_iadd hx hb dX7_pitch_52 ?_
      refine lv_iload_n hx hb dX7_pitch_53 rfl (lv_at hl 2 rfl) ?_
      obtain ⟨g8, heq⟩ := gd_of heq
      refine mm_istk C hM hS (kl (rfl : kT 732 = (8, 3592))) (rfl : kT 732 = (8, 3592)) (vp_in_of2 g8) rfl dX7_pitch_54 (fun H locs hM hS _ => ?_)
      obtain ⟨M9, eM9⟩ : ∃ z : mm_M, z = sI M6 732 (y7 + 0).toNatClampNeg x1 := ⟨_, rfl⟩
      rw [← eM9] at hM
      have heq := lt_to eM9 heq
      refine lv_aload_n hx hb dX7_pitch_55 rfl (lv_at hl 1 rfl) ?_
      refine gX7_7 C hM (kl (rfl : kT 731 = (6, 0))) (rfl : kT 731 = (6, 0)) (rfl : kR 731 0 = some 732) dX7_pitch_56 ?_
      refine lv_iload_n hx hb dX7_pitch_59 rfl (lv_at hl 0 rfl) ?_
      refine lv_iconst (v := 1) hx hb dX7_pitch_60 (by decide) ?_
      refine lv_iadd hx hb dX7_pitch_61 ?_
      refine lv_iconst (v := 0) hx hb dX7_pitch_62 (by decide) ?_
      obtain ⟨g10, heq⟩ := gd_of heq
      refine mm_istk C hM hS (kl (rfl : kT 732 = (8, 3592))) (rfl : kT 732 = (8, 3592)) (vp_in_of2 g10) rfl dX7_pitch_63 (fun H locs hM hS _ => ?_)
      obtain ⟨M11, eM11⟩ : ∃ z : mm_M, z = sI M9 732 (y7 + 1).toNatClampNeg 0 := ⟨_, rfl⟩
      rw [← eM11] at hM
      have heq := lt_to eM11 heq
      refine lv_aload_n hx hb dX7_pitch_64 rfl (lv_at hl 1 rfl) ?_
      refine gX7_7 C hM (kl (rfl : kT 731 = (6, 0))) (rfl : kT 731 = (6, 0)) (rfl : kR 731 0 = some 732) dX7_pitch_65 ?_
      refine lv_iload_n hx hb dX7_pitch_68 rfl (lv_at hl 0 rfl) ?_
      refine lv_iconst (v := 2) hx hb dX7_pitch_69 (by decide) ?_
      refine lv_iadd hx hb dX7_pitch_70 ?_
      refine lv_iconst (v := 0) hx hb dX7_pitch_71 (by decide) ?_
      obtain ⟨g12, heq⟩ := gd_of heq
      refine mm_istk C hM hS (kl (rfl : kT 732 = (8, 3592))) (rfl : kT 732 = (8, 3592)) (vp_in_of2 g12) rfl dX7_pitch_72 (fun H locs hM hS _ => ?_)
      obtain ⟨M13, eM13⟩ : ∃ z : mm_M, z = sI M11 732 (y7 + 2).toNatClampNeg 0 := ⟨_, rfl⟩
      rw [← eM13] at hM
      have heq := lt_to eM13 heq
      refine lv_aload_n hx hb dX7_pitch_73 rfl (lv_at hl 1 rfl) ?_
      refine gX7_7 C hM (kl (rfl : kT 731 = (6, 0))) (rfl : kT 731 = (6, 0)) (rfl : kR 731 0 = some 732) dX7_pitch_74 ?_
      refine lv_iload_n hx hb dX7_pitch_77 rfl (lv_at hl 0 rfl) ?_
      refine lv_iconst (v := 3) hx hb dX7_pitch_78 (by decide) ?_
      refine lv_iadd hx hb dX7_pitch_79 ?_
      refine lv_bipush (v := (-6)) hx hb dX7_pitch_80 (by decide) ?_
      obtain ⟨g14, heq⟩ := gd_of heq
      refine mm_istk C hM hS (kl (rfl : kT 732 = (8, 3592))) (rfl : kT 732 = (8, 3592)) (vp_in_of2 g14) rfl dX7_pitch_82 (fun H locs hM hS _ => ?_)
      obtain ⟨M15, eM15⟩ : ∃ z : mm_M, z = sI M13 732 (y7 + 3).toNatClampNeg (-6) := ⟨_, rfl⟩
      rw [← eM15] at hM
      have heq := lt_to eM15 heq
      refine lv_aload_n hx hb dX7_pitch_83 rfl (lv_at hl 1 rfl) ?_
      refine gX7_7 C hM (kl (rfl : kT 731 = (6, 0))) (rfl : kT 731 = (6, 0)) (rfl : kR 731 0 = some 732) dX7_pitch_84 ?_
      refine lv_bipush (v := 12) hx hb dX7_pitch_87 (by decide) ?_
      refine lv_dup2_11 hx hb dX7_pitch_89 rfl rfl ?_
      refine mm_ildk C hM (kl (rfl : kT 732 = (8, 3592))) (rfl : kT 732 = (8, 3592)) (vp_in_of2 (by decide)) (by decide : (12 : Int32).toNatClampNeg = 12) dX7_pitch_90 ?_
      refine lv_iconst (v := 1) hx hb dX7_pitch_91 (by decide) ?_
      refine lv_iadd hx hb dX7_pitch_92 ?_
      refine mm_istk C hM hS (kl (rfl : kT 732 = (8, 3592))) (rfl : kT 732 = (8, 3592)) (vp_in_of2 (by decide)) (by decide : (12 : Int32).toNatClampNeg = 12) dX7_pitch_93 (fun H locs hM hS _ => ?_)
      obtain ⟨M16, eM16⟩ : ∃ z : mm_M, z = sI M15 732 12 ((M15.1 732 12) + 1) := ⟨_, rfl⟩
      rw [← eM16] at hM
      have heq := lt_to eM16 heq
      refine lv_aload_n hx hb dX7_pitch_94 rfl (lv_at hl 1 rfl) ?_
      refine gX7_7 C hM (kl (rfl : kT 731 = (6, 0))) (rfl : kT 731 = (6, 0)) (rfl : kR 731 0 = some 732) dX7_pitch_95 ?_
      refine lv_bipush (v := 12) hx hb dX7_pitch_98 (by decide) ?_
      refine mm_ildk C hM (kl (rfl : kT 732 = (8, 3592))) (rfl : kT 732 = (8, 3592)) (vp_in_of2 (by decide)) (by decide : (12 : Int32).toNatClampNeg = 12) dX7_pitch_100 ?_
      refine lv_iconst (v := 1) hx hb dX7_pitch_101 (by decide) ?_
      refine lv_isub hx hb dX7_pitch_102 ?_
      cases heq
      exact mm_iret C hM hS dX7_pitch_103
    · have heq := if_t c4 heq
      refine lv_bipush (v := (-4)) hx hb dX7_pitch_26 (by decide) ?_
      cases heq
      exact mm_iret C hM hS dX7_pitch_28
  · have heq := if_f c3 heq
    refine lv_bipush (v := (-2)) hx hb dX7_pitch_11 (by decide) ?_
    cases heq
    exact mm_iret C hM hS dX7_pitch_13

set_option maxRecDepth 100000 in
set_option maxHeartbeats 4000000 in
theorem tX7_rent (l : Launch) (G : mm_G) (M : mm_M) (x1 : Int32) (x2 : Int32) (r : Int32) (M9 : mm_M) (heq : fX7_rent M x1 x2 = some (r, M9)) : Met l yX7_rent (mm_ws yX7_rent cX7_rent 4 (some .int)) rmX7_rent (va_Pc [.ref (mm_lo G + 731), .int x1, .int x2] (mm_B G (kR, 740, M))) (mm_Qi G r (kR, 740, M9)) 0 0 (mm_A G) := by
  refine mm_met (cc := cX7_rent) (nL := 4) (ret := (some .int)) plRX7 (Nat.le_of_ble_eq_true rfl) ?_
  intro p e s m below meth c ls hin C hM hS hl
  have C : mm_C G p s m _ meth c RX7 cX7_rent 4 (some .int) := C
  have hM : mm_P G kR 740 M s.heap := hM
  have hl : lv_has ls 4 [(0, .ref (mm_lo G + 731)), (1, .int x1), (2, .int x2)] := hl
  obtain ⟨hx, hb, -, -, -, -, -, -, hZ, -⟩ := id C
  rw [fX7_rent] at heq
  refine lv_aload_n hx hb dX7_rent_0 rfl (lv_at hl 0 rfl) ?_
  refine lv_iload_n hx hb dX7_rent_1 rfl (lv_at hl 1 rfl) ?_
  obtain ⟨r2, e1, heq⟩ := bn_of heq
  refine mm_ki hS (mm_runV (rest := []) C hM hS (tX7_isPitch l G M x1 r2 e1) (uX7_54 _ (Nat.le_of_ble_eq_true rfl) (Nat.le_of_ble_eq_true rfl)) (mm_recv C hM (kl (rfl : kT 731 = (6, 0))) (ci := 6) rfl (mm_e6 (rfl : kT 731 = (6, 0)))) hl.1 rfl rfl (Nat.le_of_ble_eq_true rfl) ⟨Nat.zero_le _, Nat.zero_le _⟩ dX7_rent_2) (fun H locs hM hS => ?_)
  have hM : mm_P G kR 740 M H := hM
  refine mm_ifneZ (tgt := 10) C dX7_rent_5 (by decide) (fun c3 => ?_) (fun c3 => ?_)
  · have heq := if_t c3 heq
    refine lv_iload_n hx hb dX7_rent_10 rfl (lv_at hl 2 rfl) ?_
    refine lv_iconst (v := 0) hx hb dX7_rent_11 (by decide) ?_
    refine lv_sipush (v := 20000) hx hb dX7_rent_12 (by decide) ?_
    obtain ⟨r5, e4, heq⟩ := bn_of heq
    refine mm_ki hS (mm_runS (rest := []) C hM hS (tX7_in l G M x2 0 20000 r5 e4) (uX7_35 _ (Nat.le_of_ble_eq_true rfl) (Nat.le_of_ble_eq_true rfl)) hl.1 rfl rfl (Nat.le_of_ble_eq_true rfl) ⟨Nat.zero_le _, Nat.zero_le _⟩ dX7_rent_15) (fun H locs hM hS => ?_)
    have hM : mm_P G kR 740 M H := hM
    refine mm_ifneZ (tgt := 24) C dX7_rent_18 (by decide) (fun c6 => ?_) (fun c6 => ?_)
    · have heq := if_t c6 heq
      refine lv_aload_n hx hb dX7_rent_24 rfl (lv_at hl 0 rfl) ?_
      obtain ⟨M8, e7, heq⟩ := bn_of heq
      refine mm_kv hS (mm_runV (rest := []) C hM hS (tX7_keep l G M M8 e7) (uX7_43 _ (Nat.le_of_ble_eq_true rfl) (Nat.le_of_ble_eq_true rfl)) (mm_recv C hM (kl (rfl : kT 731 = (6, 0))) (ci := 6) rfl (mm_e6 (rfl : kT 731 = (6, 0)))) hl.1 rfl rfl (Nat.le_of_ble_eq_true rfl) ⟨Nat.zero_le _, Nat.zero_le _⟩ dX7_rent_25) (fun H locs hM hS => ?_)
      have hM : mm_P G kR 740 M8 H := hM
      refine lv_aload_n hx hb dX7_rent_28 rfl (lv_at hl 0 rfl) ?_
      refine lv_iload_n hx hb dX7_rent_29 rfl (lv_at hl 1 rfl) ?_
      refine lv_iconst (v := 0) hx hb dX7_rent_30 (by decide) ?_
      obtain ⟨r10, e9, heq⟩ := bn_of heq
      refine mm_ki hS (mm_runV (rest := []) C hM hS (tX7_ofP l G M8 x1 0 r10 e9) (uX7_58 _ (Nat.le_of_ble_eq_true rfl) (Nat.le_of_ble_eq_true rfl)) (mm_recv C hM (kl (rfl : kT 731 = (6, 0))) (ci := 6) rfl (mm_e6 (rfl : kT 731 = (6, 0)))) hl.1 rfl rfl (Nat.le_of_ble_eq_true rfl) ⟨Nat.zero_le _, Nat.zero_le _⟩ dX7_rent_31) (fun H locs hM hS => ?_)
      have hM : mm_P G kR 740 M8 H := hM
      refine lv_istore_n (lv' := [(3, .int r10), (0, .ref (mm_lo G + 731)), (1, .int x1), (2, .int x2)]) hx hb dX7_rent_34 rfl hl (by decide) rfl (fun ls hl => ?_)
      refine lv_aload_n hx hb dX7_rent_35 rfl (lv_at hl 1 rfl) ?_
      refine gX7_7 C hM (kl (rfl : kT 731 = (6, 0))) (rfl : kT 731 = (6, 0)) (rfl : kR 731 0 = some 732) dX7_rent_36 ?_
      refine lv_bipush (v := 32) hx hb dX7_rent_39 (by decide) ?_
      refine lv_iconst (v := 4) hx hb dX7_rent_41 (by decide) ?_
      refine lv_iload_n hx hb dX7_rent_42 rfl (lv_at hl 2 rfl) ?_
      refine lv_imul hx hb dX7_rent_43 ?_
      refine lv_iadd hx hb dX7_rent_44 ?_
      refine lv_iconst (v := 0) hx hb dX7_rent_45 (by decide) ?_
      refine lv_iadd hx hb dX7_rent_46 ?_
      refine lv_iload_n hx hb dX7_rent_47 rfl (lv_at hl 3 rfl) ?_
      obtain ⟨g11, heq⟩ := gd_of heq
      refine mm_istk C hM hS (kl (rfl : kT 732 = (8, 3592))) (rfl : kT 732 = (8, 3592)) (vp_in_of2 g11) rfl dX7_rent_48 (fun H locs hM hS _ => ?_)
      obtain ⟨M12, eM12⟩ : ∃ z : mm_M, z = sI M8 732 ((32 + (4 * x1)) + 0).toNatClampNeg x2 := ⟨_, rfl⟩
      rw [← eM12] at hM
      have heq := lt_to eM12 heq
      refine lv_iload_n hx hb dX7_rent_49 rfl (lv_at hl 0 rfl) ?_
      cases heq
      exact mm_iret C hM hS dX7_rent_50
    · have heq := if_f c6 heq
      refine lv_bipush (v := (-2)) hx hb dX7_rent_21 (by decide) ?_
      cases heq
      exact mm_iret C hM hS dX7_rent_23
  · have heq := if_f c3 heq
    refine lv_iconst (v := (-1)) hx hb dX7_rent_8 (by decide) ?_
    cases heq
    exact mm_iret C hM hS dX7_rent_9

set_option maxRecDepth 100000 in
set_option maxHeartbeats 4000000 in
theorem tX7_cart_76 (C : mm_C G p s m args meth c RX7 cX7_cart 5 (some .int)) (x1 : Int32) (x2 : Int32) {r : Int32} {M9 : mm_M} : ∀ n : Nat, ∀ (M : mm_M) (v3 : Int32) (v4 : Int32) (H : Heap) (locs : List Loc) (ls : Array Slot), mm_P G kR 740 M H → va_S (mm_A G) s.heap H locs → lv_has ls 5 [(0, .ref (mm_lo G + 731)), (1, .int x1), (2, .int x2), (3, .int v3), (4, .int v4)] → fX7_cart_76 x1 x2 n M v3 v4 = some (r, M9) → W p l e rmX7_cart s m args below meth c H locs 0 0 (MQ below (mm_Qi G r (kR, 740, M9)) args s 0 0 (mm_A G)) (F0 m 76 ls []) := by
  obtain ⟨hx, hb, -, -, -, -, -, -, hZ, -⟩ := id C
  intro n
  induction n with
  | zero =>
    intro M v3 v4 H locs ls hM hS hl heq
    rw [fX7_cart_76] at heq
    cases heq
  | succ n ih =>
    intro M v3 v4 H locs ls hM hS hl heq
    rw [fX7_cart_76] at heq
    refine lv_iload hx hb dX7_cart_76 (lv_at hl 4 rfl) ?_
    refine lv_sipush (v := 200) hx hb dX7_cart_78 (by decide) ?_
    refine lv_icmp_ge (tgt := 108) hx hb dX7_cart_81 (by decide) (fun c1 => ?_) (fun c1 => ?_)
    · have heq := if_t c1 heq
      refine lv_aload_n hx hb dX7_cart_108 rfl (lv_at hl 0 rfl) ?_
      refine lv_iload_n hx hb dX7_cart_109 rfl (lv_at hl 3 rfl) ?_
      refine lv_iconst (v := 0) hx hb dX7_cart_110 (by decide) ?_
      refine lv_iload_n hx hb dX7_cart_111 rfl (lv_at hl 1 rfl) ?_
      obtain ⟨M3, e2, heq⟩ := bn_of heq
      refine mm_kv hS (mm_runV (rest := []) C hM hS (tX7_lay l G M v3 0 x1 M3 e2) (uX7_62 _ (Nat.le_of_ble_eq_true rfl) (Nat.le_of_ble_eq_true rfl)) (mm_recv C hM (kl (rfl : kT 731 = (6, 0))) (ci := 6) rfl (mm_e6 (rfl : kT 731 = (6, 0)))) hl.1 rfl rfl (Nat.le_of_ble_eq_true rfl) ⟨Nat.zero_le _, Nat.zero_le _⟩ dX7_cart_112) (fun H locs hM hS => ?_)
      have hM : mm_P G kR 740 M3 H := hM
      refine lv_aload_n hx hb dX7_cart_115 rfl (lv_at hl 0 rfl) ?_
      refine lv_iload_n hx hb dX7_cart_116 rfl (lv_at hl 3 rfl) ?_
      refine lv_iconst (v := 1) hx hb dX7_cart_117 (by decide) ?_
      refine lv_iload_n hx hb dX7_cart_118 rfl (lv_at hl 2 rfl) ?_
      obtain ⟨M5, e4, heq⟩ := bn_of heq
      refine mm_kv hS (mm_runV (rest := []) C hM hS (tX7_lay l G M3 v3 1 x2 M5 e4) (uX7_62 _ (Nat.le_of_ble_eq_true rfl) (Nat.le_of_ble_eq_true rfl)) (mm_recv C hM (kl (rfl : kT 731 = (6, 0))) (ci := 6) rfl (mm_e6 (rfl : kT 731 = (6, 0)))) hl.1 rfl rfl (Nat.le_of_ble_eq_true rfl) ⟨Nat.zero_le _, Nat.zero_le _⟩ dX7_cart_119) (fun H locs hM hS => ?_)
      have hM : mm_P G kR 740 M5 H := hM
      refine lv_aload_n hx hb dX7_cart_122 rfl (lv_at hl 0 rfl) ?_
      refine lv_iload_n hx hb dX7_cart_123 rfl (lv_at hl 3 rfl) ?_
      refine lv_bipush (v := 7) hx hb dX7_cart_124 (by decide) ?_
      refine lv_aload_n hx hb dX7_cart_126 rfl (lv_at hl 0 rfl) ?_
      refine gX7_7 C hM (kl (rfl : kT 731 = (6, 0))) (rfl : kT 731 = (6, 0)) (rfl : kR 731 0 = some 732) dX7_cart_127 ?_
      refine lv_bipush (v := 10) hx hb dX7_cart_130 (by decide) ?_
      refine mm_ildk C hM (kl (rfl : kT 732 = (8, 3592))) (rfl : kT 732 = (8, 3592)) (vp_in_of2 (by decide)) (by decide : (10 : Int32).toNatClampNeg = 10) dX7_cart_132 ?_
      refine lv_aload_n hx hb dX7_cart_133 rfl (lv_at hl 0 rfl) ?_
      refine gX7_7 C hM (kl (rfl : kT 731 = (6, 0))) (rfl : kT 731 = (6, 0)) (rfl : kR 731 0 = some 732) dX7_cart_134 ?_
      refine lv_iconst (v := 1) hx hb dX7_cart_137 (by decide) ?_
      refine mm_ildk C hM (kl (rfl : kT 732 = (8, 3592))) (rfl : kT 732 = (8, 3592)) (vp_in_of2 (by decide)) (by decide : (1 : Int32).toNatClampNeg = 1) dX7_cart_138 ?_
      refine lv_iadd hx hb dX7_cart_139 ?_
      obtain ⟨M7, e6, heq⟩ := bn_of heq
      refine mm_kv hS (mm_runV (rest := []) C hM hS (tX7_lay l G M5 v3 7 ((M5.1 732 10) + (M5.1 732 1)) M7 e6) (uX7_62 _ (Nat.le_of_ble_eq_true rfl) (Nat.le_of_ble_eq_true rfl)) (mm_recv C hM (kl (rfl : kT 731 = (6, 0))) (ci := 6) rfl (mm_e6 (rfl : kT 731 = (6, 0)))) hl.1 rfl rfl (Nat.le_of_ble_eq_true rfl) ⟨Nat.zero_le _, Nat.zero_le _⟩ dX7_cart_140) (fun H locs hM hS => ?_)
      have hM : mm_P G kR 740 M7 H := hM
      refine lv_aload_n hx hb dX7_cart_143 rfl (lv_at hl 0 rfl) ?_
      refine lv_iload_n hx hb dX7_cart_144 rfl (lv_at hl 3 rfl) ?_
      refine lv_bipush (v := 9) hx hb dX7_cart_145 (by decide) ?_
      refine lv_bipush (v := (-6)) hx hb dX7_cart_147 (by decide) ?_
      obtain ⟨M9, e8, heq⟩ := bn_of heq
      refine mm_kv hS (mm_runV (rest := []) C hM hS (tX7_lay l G M7 v3 9 (-6) M9 e8) (uX7_62 _ (Nat.le_of_ble_eq_true rfl) (Nat.le_of_ble_eq_true rfl)) (mm_recv C hM (kl (rfl : kT 731 = (6, 0))) (ci := 6) rfl (mm_e6 (rfl : kT 731 = (6, 0)))) hl.1 rfl rfl (Nat.le_of_ble_eq_true rfl) ⟨Nat.zero_le _, Nat.zero_le _⟩ dX7_cart_149) (fun H locs hM hS => ?_)
      have hM : mm_P G kR 740 M9 H := hM
      refine lv_aload_n hx hb dX7_cart_152 rfl (lv_at hl 0 rfl) ?_
      refine lv_iload_n hx hb dX7_cart_153 rfl (lv_at hl 3 rfl) ?_
      refine lv_bipush (v := 11) hx hb dX7_cart_154 (by decide) ?_
      refine lv_bipush (v := (-6)) hx hb dX7_cart_156 (by decide) ?_
      obtain ⟨M11, e10, heq⟩ := bn_of heq
      refine mm_kv hS (mm_runV (rest := []) C hM hS (tX7_lay l G M9 v3 11 (-6) M11 e10) (uX7_62 _ (Nat.le_of_ble_eq_true rfl) (Nat.le_of_ble_eq_true rfl)) (mm_recv C hM (kl (rfl : kT 731 = (6, 0))) (ci := 6) rfl (mm_e6 (rfl : kT 731 = (6, 0)))) hl.1 rfl rfl (Nat.le_of_ble_eq_true rfl) ⟨Nat.zero_le _, Nat.zero_le _⟩ dX7_cart_158) (fun H locs hM hS => ?_)
      have hM : mm_P G kR 740 M11 H := hM
      refine lv_aload_n hx hb dX7_cart_161 rfl (lv_at hl 0 rfl) ?_
      refine lv_iload_n hx hb dX7_cart_162 rfl (lv_at hl 3 rfl) ?_
      refine lv_bipush (v := 12) hx hb dX7_cart_163 (by decide) ?_
      refine lv_bipush (v := (-6)) hx hb dX7_cart_165 (by decide) ?_
      obtain ⟨M13, e12, heq⟩ := bn_of heq
      refine mm_kv hS (mm_runV (rest := []) C hM hS (tX7_lay l G M11 v3 12 (-6) M13 e12) (uX7_62 _ (Nat.le_of_ble_eq_true rfl) (Nat.le_of_ble_eq_true rfl)) (mm_recv C hM (kl (rfl : kT 731 = (6, 0))) (ci := 6) rfl (mm_e6 (rfl : kT 731 = (6, 0)))) hl.1 rfl rfl (Nat.le_of_ble_eq_true rfl) ⟨Nat.zero_le _, Nat.zero_le _⟩ dX7_cart_167) (fun H locs hM hS => ?_)
      have hM : mm_P G kR 740 M13 H := hM
      refine lv_aload_n hx hb dX7_cart_170 rfl (lv_at hl 0 rfl) ?_
      refine lv_iload_n hx hb dX7_cart_171 rfl (lv_at hl 3 rfl) ?_
      refine lv_bipush (v := 14) hx hb dX7_cart_172 (by decide) ?_
      refine lv_bipush (v := (-6)) hx hb dX7_cart_174 (by decide) ?_
      obtain ⟨M15, e14, heq⟩ := bn_of heq
      refine mm_kv hS (mm_runV (rest := []) C hM hS (tX7_lay l G M13 v3 14 (-6) M15 e14) (uX7_62 _ (Nat.le_of_ble_eq_true rfl) (Nat.le_of_ble_eq_true rfl)) (mm_recv C hM (kl (rfl : kT 731 = (6, 0))) (ci := 6) rfl (mm_e6 (rfl : kT 731 = (6, 0)))) hl.1 rfl rfl (Nat.le_of_ble_eq_true rfl) ⟨Nat.zero_le _, Nat.zero_le _⟩ dX7_cart_176) (fun H locs hM hS => ?_)
      have hM : mm_P G kR 740 M15 H := hM
      refine lv_aload_n hx hb dX7_cart_179 rfl (lv_at hl 0 rfl) ?_
      refine gX7_7 C hM (kl (rfl : kT 731 = (6, 0))) (rfl : kT 731 = (6, 0)) (rfl : kR 731 0 = some 732) dX7_cart_180 ?_
      refine lv_bipush (v := 13) hx hb dX7_cart_183 (by decide) ?_
      refine lv_dup2_11 hx hb dX7_cart_185 rfl rfl ?_
      refine mm_ildk C hM (kl (rfl : kT 732 = (8, 3592))) (rfl : kT 732 = (8, 3592)) (vp_in_of2 (by decide)) (by decide : (13 : Int32).toNatClampNeg = 13) dX7_cart_186 ?_
      refine lv_iconst (v := 1) hx hb dX7_cart_187 (by decide) ?_
      refine lv_iadd hx hb dX7_cart_188 ?_
      refine mm_istk C hM hS (kl (rfl : kT 732 = (8, 3592))) (rfl : kT 732 = (8, 3592)) (vp_in_of2 (by decide)) (by decide : (13 : Int32).toNatClampNeg = 13) dX7_cart_189 (fun H locs hM hS _ => ?_)
      obtain ⟨M16, eM16⟩ : ∃ z : mm_M, z = sI M15 732 13 ((M15.1 732 13) + 1) := ⟨_, rfl⟩
      rw [← eM16] at hM
      have heq := lt_to eM16 heq
      refine lv_iload_n hx hb dX7_cart_190 rfl (lv_at hl 3 rfl) ?_
      cases heq
      exact mm_iret C hM hS dX7_cart_191
    · have heq := if_f c1 heq
      refine lv_aload_n hx hb dX7_cart_84 rfl (lv_at hl 0 rfl) ?_
      refine gX7_7 C hM (kl (rfl : kT 731 = (6, 0))) (rfl : kT 731 = (6, 0)) (rfl : kR 731 0 = some 732) dX7_cart_85 ?_
      refine lv_sipush (v := 392) hx hb dX7_cart_88 (by decide) ?_
      refine lv_sipush (v := 200) hx hb dX7_cart_91 (by decide) ?_
      refine lv_iload_n hx hb dX7_cart_94 rfl (lv_at hl 3 rfl) ?_
      refine lv_imul hx hb dX7_cart_95 ?_
      refine lv_iadd hx hb dX7_cart_96 ?_
      refine lv_iload hx hb dX7_cart_97 (lv_at hl 4 rfl) ?_
      refine lv_iadd hx hb dX7_cart_99 ?_
      refine lv_iconst (v := 0) hx hb dX7_cart_100 (by decide) ?_
      obtain ⟨g17, heq⟩ := gd_of heq
      refine mm_istk C hM hS (kl (rfl : kT 732 = (8, 3592))) (rfl : kT 732 = (8, 3592)) (vp_in_of2 g17) rfl dX7_cart_101 (fun H locs hM hS _ => ?_)
      obtain ⟨M18, eM18⟩ : ∃ z : mm_M, z = sI M 732 ((392 + (200 * v3)) + v4).toNatClampNeg 0 := ⟨_, rfl⟩
      rw [← eM18] at hM
      have heq := lt_to eM18 heq
      obtain ⟨y19, ey19⟩ : ∃ y : Int32, y = (v4 + 1) := ⟨_, rfl⟩
      have heq := lt_to ey19 heq
      refine lv_iinc (v := y19) (lv' := [(4, .int y19), (0, .ref (mm_lo G + 731)), (1, .int x1), (2, .int x2), (3, .int v3)]) hx hb dX7_cart_102 hl (k := 4) rfl (by rw [ey19]; rfl) (by decide) rfl (fun ls hl => ?_)
      refine lv_goto (tgt := 76) hx hb dX7_cart_105 (by decide) ?_
      exact ih _ _ _ _ _ _ hM hS (lv_sub hl [1, 2, 3, 4, 0] rfl) heq

set_option maxRecDepth 100000 in
set_option maxHeartbeats 4000000 in
theorem tX7_cart_52 (C : mm_C G p s m args meth c RX7 cX7_cart 5 (some .int)) (x1 : Int32) (x2 : Int32) {r : Int32} {M9 : mm_M} : ∀ n : Nat, ∀ (M : mm_M) (v3 : Int32) (v4 : Int32) (H : Heap) (locs : List Loc) (ls : Array Slot), mm_P G kR 740 M H → va_S (mm_A G) s.heap H locs → lv_has ls 5 [(0, .ref (mm_lo G + 731)), (1, .int x1), (2, .int x2), (3, .int v3), (4, .int v4)] → fX7_cart_52 x1 x2 n M v3 v4 = some (r, M9) → W p l e rmX7_cart s m args below meth c H locs 0 0 (MQ below (mm_Qi G r (kR, 740, M9)) args s 0 0 (mm_A G)) (F0 m 52 ls []) := by
  obtain ⟨hx, hb, -, -, -, -, -, -, hZ, -⟩ := id C
  intro n
  induction n with
  | zero =>
    intro M v3 v4 H locs ls hM hS hl heq
    rw [fX7_cart_52] at heq
    cases heq
  | succ n ih =>
    intro M v3 v4 H locs ls hM hS hl heq
    rw [fX7_cart_52] at heq
    refine lv_iload hx hb dX7_cart_52 (lv_at hl 4 rfl) ?_
    refine lv_bipush (v := 20) hx hb dX7_cart_54 (by decide) ?_
    refine lv_icmp_ge (tgt := 73) hx hb dX7_cart_56 (by decide) (fun c1 => ?_) (fun c1 => ?_)
    · have heq := if_t c1 heq
      refine lv_iconst (v := 0) hx hb dX7_cart_73 (by decide) ?_
      refine lv_istore (lv' := [(4, .int 0), (0, .ref (mm_lo G + 731)), (1, .int x1), (2, .int x2), (3, .int v3)]) hx hb dX7_cart_74 hl (by decide) rfl (fun ls hl => ?_)
      exact tX7_cart_76 C x1 x2 FU _ _ _ _ _ _ hM hS (lv_sub hl [1, 2, 3, 4, 0] rfl) heq
    · have heq := if_f c1 heq
      refine lv_aload_n hx hb dX7_cart_59 rfl (lv_at hl 0 rfl) ?_
      refine lv_iload_n hx hb dX7_cart_60 rfl (lv_at hl 3 rfl) ?_
      refine lv_iload hx hb dX7_cart_61 (lv_at hl 4 rfl) ?_
      refine lv_iconst (v := 0) hx hb dX7_cart_63 (by decide) ?_
      obtain ⟨M3, e2, heq⟩ := bn_of heq
      refine mm_kv hS (mm_runV (rest := []) C hM hS (tX7_lay l G M v3 v4 0 M3 e2) (uX7_62 _ (Nat.le_of_ble_eq_true rfl) (Nat.le_of_ble_eq_true rfl)) (mm_recv C hM (kl (rfl : kT 731 = (6, 0))) (ci := 6) rfl (mm_e6 (rfl : kT 731 = (6, 0)))) hl.1 rfl rfl (Nat.le_of_ble_eq_true rfl) ⟨Nat.zero_le _, Nat.zero_le _⟩ dX7_cart_64) (fun H locs hM hS => ?_)
      have hM : mm_P G kR 740 M3 H := hM
      obtain ⟨y4, ey4⟩ : ∃ y : Int32, y = (v4 + 1) := ⟨_, rfl⟩
      have heq := lt_to ey4 heq
      refine lv_iinc (v := y4) (lv' := [(4, .int y4), (0, .ref (mm_lo G + 731)), (1, .int x1), (2, .int x2), (3, .int v3)]) hx hb dX7_cart_67 hl (k := 4) rfl (by rw [ey4]; rfl) (by decide) rfl (fun ls hl => ?_)
      refine lv_goto (tgt := 52) hx hb dX7_cart_70 (by decide) ?_
      exact ih _ _ _ _ _ _ hM hS (lv_sub hl [1, 2, 3, 4, 0] rfl) heq

set_option maxRecDepth 100000 in
set_option maxHeartbeats 4000000 in
theorem tX7_cart (l : Launch) (G : mm_G) (M : mm_M) (x1 : Int32) (x2 : Int32) (r : Int32) (M9 : mm_M) (heq : fX7_cart M x1 x2 = some (r, M9)) : Met l yX7_cart (mm_ws yX7_cart cX7_cart 5 (some .int)) rmX7_cart (va_Pc [.ref (mm_lo G + 731), .int x1, .int x2] (mm_B G (kR, 740, M))) (mm_Qi G r (kR, 740, M9)) 0 0 (mm_A G) := by
  refine mm_met (cc := cX7_cart) (nL := 5) (ret := (some .int)) plRX7 (Nat.le_of_ble_eq_true rfl) ?_
  intro p e s m below meth c ls hin C hM hS hl
  have C : mm_C G p s m _ meth c RX7 cX7_cart 5 (some .int) := C
  have hM : mm_P G kR 740 M s.heap := hM
  have hl : lv_has ls 5 [(0, .ref (mm_lo G + 731)), (1, .int x1), (2, .int x2)] := hl
  obtain ⟨hx, hb, -, -, -, -, -, -, hZ, -⟩ := id C
  rw [fX7_cart] at heq
  refine lv_iload_n hx hb dX7_cart_0 rfl (lv_at hl 1 rfl) ?_
  refine lv_iconst (v := 0) hx hb dX7_cart_1 (by decide) ?_
  refine lv_iconst (v := 5) hx hb dX7_cart_2 (by decide) ?_
  obtain ⟨r2, e1, heq⟩ := bn_of heq
  refine mm_ki hS (mm_runS (rest := []) C hM hS (tX7_in l G M x1 0 5 r2 e1) (uX7_35 _ (Nat.le_of_ble_eq_true rfl) (Nat.le_of_ble_eq_true rfl)) hl.1 rfl rfl (Nat.le_of_ble_eq_true rfl) ⟨Nat.zero_le _, Nat.zero_le _⟩ dX7_cart_3) (fun H locs hM hS => ?_)
  have hM : mm_P G kR 740 M H := hM
  refine mm_ifeqZ (tgt := 19) C dX7_cart_6 (by decide) (fun c3 => ?_) (fun c3 => ?_)
  · have heq := if_f c3 heq
    refine lv_bipush (v := (-2)) hx hb dX7_cart_19 (by decide) ?_
    cases heq
    exact mm_iret C hM hS dX7_cart_21
  · have heq := if_t c3 heq
    refine lv_iload_n hx hb dX7_cart_9 rfl (lv_at hl 2 rfl) ?_
    refine lv_iconst (v := 1) hx hb dX7_cart_10 (by decide) ?_
    refine lv_bipush (v := 6) hx hb dX7_cart_11 (by decide) ?_
    obtain ⟨r5, e4, heq⟩ := bn_of heq
    refine mm_ki hS (mm_runS (rest := []) C hM hS (tX7_in l G M x2 1 6 r5 e4) (uX7_35 _ (Nat.le_of_ble_eq_true rfl) (Nat.le_of_ble_eq_true rfl)) hl.1 rfl rfl (Nat.le_of_ble_eq_true rfl) ⟨Nat.zero_le _, Nat.zero_le _⟩ dX7_cart_13) (fun H locs hM hS => ?_)
    have hM : mm_P G kR 740 M H := hM
    refine mm_ifneZ (tgt := 22) C dX7_cart_16 (by decide) (fun c6 => ?_) (fun c6 => ?_)
    · have heq := if_t c6 heq
      refine lv_aload_n hx hb dX7_cart_22 rfl (lv_at hl 0 rfl) ?_
      refine gX7_7 C hM (kl (rfl : kT 731 = (6, 0))) (rfl : kT 731 = (6, 0)) (rfl : kR 731 0 = some 732) dX7_cart_23 ?_
      refine lv_bipush (v := 13) hx hb dX7_cart_26 (by decide) ?_
      refine mm_ildk C hM (kl (rfl : kT 732 = (8, 3592))) (rfl : kT 732 = (8, 3592)) (vp_in_of2 (by decide)) (by decide : (13 : Int32).toNatClampNeg = 13) dX7_cart_28 ?_
      refine lv_bipush (v := 16) hx hb dX7_cart_29 (by decide) ?_
      refine lv_icmp_ne (tgt := 37) hx hb dX7_cart_31 (by decide) (fun c7 => ?_) (fun c7 => ?_)
      · have heq := if_f c7 heq
        refine lv_aload_n hx hb dX7_cart_37 rfl (lv_at hl 0 rfl) ?_
        obtain ⟨M9, e8, heq⟩ := bn_of heq
        refine mm_kv hS (mm_runV (rest := []) C hM hS (tX7_keep l G M M9 e8) (uX7_43 _ (Nat.le_of_ble_eq_true rfl) (Nat.le_of_ble_eq_true rfl)) (mm_recv C hM (kl (rfl : kT 731 = (6, 0))) (ci := 6) rfl (mm_e6 (rfl : kT 731 = (6, 0)))) hl.1 rfl rfl (Nat.le_of_ble_eq_true rfl) ⟨Nat.zero_le _, Nat.zero_le _⟩ dX7_cart_38) (fun H locs hM hS => ?_)
        have hM : mm_P G kR 740 M9 H := hM
        refine lv_aload_n hx hb dX7_cart_41 rfl (lv_at hl 0 rfl) ?_
        refine gX7_7 C hM (kl (rfl : kT 731 = (6, 0))) (rfl : kT 731 = (6, 0)) (rfl : kR 731 0 = some 732) dX7_cart_42 ?_
        refine lv_bipush (v := 13) hx hb dX7_cart_45 (by decide) ?_
        refine mm_ildk C hM (kl (rfl : kT 732 = (8, 3592))) (rfl : kT 732 = (8, 3592)) (vp_in_of2 (by decide)) (by decide : (13 : Int32).toNatClampNeg = 13) dX7_cart_47 ?_
        refine lv_topi (fun y10 ey10 => ?_)
        have heq := lt_to ey10 heq
        refine lv_istore_n (lv' := [(3, .int y10), (0, .ref (mm_lo G + 731)), (1, .int x1), (2, .int x2)]) hx hb dX7_cart_48 rfl hl (by decide) rfl (fun ls hl => ?_)
        refine lv_iconst (v := 0) hx hb dX7_cart_49 (by decide) ?_
        refine lv_istore (lv' := [(4, .int 0), (3, .int y10), (0, .ref (mm_lo G + 731)), (1, .int x1), (2, .int x2)]) hx hb dX7_cart_50 hl (by decide) rfl (fun ls hl => ?_)
        exact tX7_cart_52 C x1 x2 FU _ _ _ _ _ _ hM hS (lv_sub hl [2, 3, 4, 1, 0] rfl) heq
      · have heq := if_t c7 heq
        refine lv_bipush (v := (-4)) hx hb dX7_cart_34 (by decide) ?_
        cases heq
        exact mm_iret C hM hS dX7_cart_36
    · have heq := if_f c6 heq
      refine lv_bipush (v := (-2)) hx hb dX7_cart_19 (by decide) ?_
      cases heq
      exact mm_iret C hM hS dX7_cart_21

set_option maxRecDepth 100000 in
set_option maxHeartbeats 4000000 in
theorem tX7_pointsAt_62 (C : mm_C G p s m args meth c RX7 cX7_pointsAt 7 (some .int)) (x1 : Int32) (x2 : Int32) (M : mm_M) {r : Int32} : ∀ n : Nat, ∀ (v3 : Int32) (v6 : Int32) (H : Heap) (locs : List Loc) (ls : Array Slot), mm_P G kR 740 M H → va_S (mm_A G) s.heap H locs → lv_has ls 7 [(0, .ref (mm_lo G + 731)), (1, .int x1), (3, .int v3), (6, .int v6)] → fX7_pointsAt_62 x1 x2 M n v3 v6 = some r → W p l e rmX7_pointsAt s m args below meth c H locs 0 0 (MQ below (mm_Qi G r (kR, 740, M)) args s 0 0 (mm_A G)) (F0 m 62 ls []) := by
  obtain ⟨hx, hb, -, -, -, -, -, -, hZ, -⟩ := id C
  intro n
  induction n with
  | zero =>
    intro v3 v6 H locs ls hM hS hl heq
    rw [fX7_pointsAt_62] at heq
    cases heq
  | succ n ih =>
    intro v3 v6 H locs ls hM hS hl heq
    rw [fX7_pointsAt_62] at heq
    refine lv_iload hx hb dX7_pointsAt_62 (lv_at hl 3 rfl) ?_
    refine lv_aload_n hx hb dX7_pointsAt_64 rfl (lv_at hl 0 rfl) ?_
    refine gX7_7 C hM (kl (rfl : kT 731 = (6, 0))) (rfl : kT 731 = (6, 0)) (rfl : kR 731 0 = some 732) dX7_pointsAt_65 ?_
    refine lv_bipush (v := 10) hx hb dX7_pointsAt_68 (by decide) ?_
    refine mm_ildk C hM (kl (rfl : kT 732 = (8, 3592))) (rfl : kT 732 = (8, 3592)) (vp_in_of2 (by decide)) (by decide : (10 : Int32).toNatClampNeg = 10) dX7_pointsAt_70 ?_
    refine lv_icmp_gt (tgt := 104) hx hb dX7_pointsAt_71 (by decide) (fun c1 => ?_) (fun c1 => ?_)
    · have heq := if_t c1 heq
      refine lv_iload_n hx hb dX7_pointsAt_104 rfl (lv_at hl 2 rfl) ?_
      cases heq
      exact mm_iret C hM hS dX7_pointsAt_105
    · have heq := if_f c1 heq
      refine lv_iload_n hx hb dX7_pointsAt_74 rfl (lv_at hl 2 rfl) ?_
      refine lv_aload_n hx hb dX7_pointsAt_75 rfl (lv_at hl 0 rfl) ?_
      refine gX7_7 C hM (kl (rfl : kT 731 = (6, 0))) (rfl : kT 731 = (6, 0)) (rfl : kR 731 0 = some 732) dX7_pointsAt_76 ?_
      refine lv_sipush (v := 392) hx hb dX7_pointsAt_79 (by decide) ?_
      refine lv_sipush (v := 200) hx hb dX7_pointsAt_82 (by decide) ?_
      refine lv_iload_n hx hb dX7_pointsAt_85 rfl (lv_at hl 1 rfl) ?_
      refine lv_imul hx hb dX7_pointsAt_86 ?_
      refine lv_iadd hx hb dX7_pointsAt_87 ?_
      refine lv_iload hx hb dX7_pointsAt_88 (lv_at hl 3 rfl) ?_
      refine lv_sipush (v := 200) hx hb dX7_pointsAt_90 (by decide) ?_
      refine lv_irem hx hb dX7_pointsAt_93 (by decide) ?_
      refine lv_iadd hx hb dX7_pointsAt_94 ?_
      obtain ⟨g2, heq⟩ := gd_of heq
      refine mm_ildk C hM (kl (rfl : kT 732 = (8, 3592))) (rfl : kT 732 = (8, 3592)) (vp_in_of2 g2) rfl dX7_pointsAt_95 ?_
      refine lv_iadd hx hb dX7_pointsAt_96 ?_
      refine lv_topi (fun y3 ey3 => ?_)
      have heq := lt_to ey3 heq
      refine lv_istore_n (lv' := [(3, .int y3), (0, .ref (mm_lo G + 731)), (1, .int x1), (6, .int v6)]) hx hb dX7_pointsAt_97 rfl hl (by decide) rfl (fun ls hl => ?_)
      obtain ⟨y4, ey4⟩ : ∃ y : Int32, y = (v6 + 1) := ⟨_, rfl⟩
      have heq := lt_to ey4 heq
      refine lv_iinc (v := y4) (lv' := [(6, .int y4), (3, .int y3), (0, .ref (mm_lo G + 731)), (1, .int x1)]) hx hb dX7_pointsAt_98 hl (k := 3) rfl (by rw [ey4]; rfl) (by decide) rfl (fun ls hl => ?_)
      refine lv_goto (tgt := 62) hx hb dX7_pointsAt_101 (by decide) ?_
      exact ih _ _ _ _ _ hM hS (lv_sub hl [2, 3, 1, 0] rfl) heq

set_option maxRecDepth 100000 in
set_option maxHeartbeats 4000000 in
theorem tX7_pointsAt_43 (C : mm_C G p s m args meth c RX7 cX7_pointsAt 7 (some .int)) (x1 : Int32) (x2 : Int32) (M : mm_M) {r : Int32} : ∀ (t0 : Int32) (H : Heap) (locs : List Loc) (ls : Array Slot), mm_P G kR 740 M H → va_S (mm_A G) s.heap H locs → lv_has ls 7 [(0, .ref (mm_lo G + 731)), (1, .int x1), (3, .int 0)] → fX7_pointsAt_43 x1 x2 M t0 = some r → W p l e rmX7_pointsAt s m args below meth c H locs 0 0 (MQ below (mm_Qi G r (kR, 740, M)) args s 0 0 (mm_A G)) (F0 m 43 ls [.int t0]) := by
  obtain ⟨hx, hb, -, -, -, -, -, -, hZ, -⟩ := id C
  intro t0 H locs ls hM hS hl heq
  rw [fX7_pointsAt_43] at heq
  refine lv_istore (lv' := [(5, .int t0), (0, .ref (mm_lo G + 731)), (1, .int x1), (3, .int 0)]) hx hb dX7_pointsAt_43 hl (by decide) rfl (fun ls hl => ?_)
  refine lv_iload hx hb dX7_pointsAt_45 (lv_at hl 0 rfl) ?_
  refine lv_if_ge (tgt := 54) hx hb dX7_pointsAt_47 (by decide) (fun c1 => ?_) (fun c1 => ?_)
  · have heq := if_t c1 heq
    refine lv_iload hx hb dX7_pointsAt_54 (lv_at hl 0 rfl) ?_
    refine lv_istore (lv' := [(5, .int t0), (0, .ref (mm_lo G + 731)), (1, .int x1), (3, .int 0)]) hx hb dX7_pointsAt_56 hl (by decide) rfl (fun ls hl => ?_)
    refine lv_iload hx hb dX7_pointsAt_58 (lv_at hl 0 rfl) ?_
    refine lv_istore (lv' := [(6, .int t0), (5, .int t0), (0, .ref (mm_lo G + 731)), (1, .int x1), (3, .int 0)]) hx hb dX7_pointsAt_60 hl (by decide) rfl (fun ls hl => ?_)
    exact tX7_pointsAt_62 C x1 x2 M FU _ _ _ _ _ hM hS (lv_sub hl [2, 3, 4, 0] rfl) heq
  · have heq := if_f c1 heq
    refine lv_iconst (v := 0) hx hb dX7_pointsAt_50 (by decide) ?_
    refine lv_goto (tgt := 56) hx hb dX7_pointsAt_51 (by decide) ?_
    refine lv_istore (lv' := [(5, .int 0), (0, .ref (mm_lo G + 731)), (1, .int x1), (3, .int 0)]) hx hb dX7_pointsAt_56 hl (by decide) rfl (fun ls hl => ?_)
    refine lv_iload hx hb dX7_pointsAt_58 (lv_at hl 0 rfl) ?_
    refine lv_istore (lv' := [(6, .int 0), (5, .int 0), (0, .ref (mm_lo G + 731)), (1, .int x1), (3, .int 0)]) hx hb dX7_pointsAt_60 hl (by decide) rfl (fun ls hl => ?_)
    exact tX7_pointsAt_62 C x1 x2 M FU _ _ _ _ _ hM hS (lv_sub hl [2, 3, 4, 0] rfl) heq

set_option maxRecDepth 100000 in
set_option maxHeartbeats 4000000 in
theorem tX7_pointsAt (l : Launch) (G : mm_G) (M : mm_M) (x1 : Int32) (x2 : Int32) (r : Int32) (heq : fX7_pointsAt M x1 x2 = some r) : Met l yX7_pointsAt (mm_ws yX7_pointsAt cX7_pointsAt 7 (some .int)) rmX7_pointsAt (va_Pc [.ref (mm_lo G + 731), .int x1, .int x2] (mm_B G (kR, 740, M))) (mm_Qi G r (kR, 740, M)) 0 0 (mm_A G) := by
  refine mm_met (cc := cX7_pointsAt) (nL := 7) (ret := (some .int)) plRX7 (Nat.le_of_ble_eq_true rfl) ?_
  intro p e s m below meth c ls hin C hM hS hl
  have C : mm_C G p s m _ meth c RX7 cX7_pointsAt 7 (some .int) := C
  have hM : mm_P G kR 740 M s.heap := hM
  have hl : lv_has ls 7 [(0, .ref (mm_lo G + 731)), (1, .int x1), (2, .int x2)] := hl
  obtain ⟨hx, hb, -, -, -, -, -, -, hZ, -⟩ := id C
  rw [fX7_pointsAt] at heq
  refine lv_iconst (v := 0) hx hb dX7_pointsAt_0 (by decide) ?_
  refine lv_istore_n (lv' := [(3, .int 0), (0, .ref (mm_lo G + 731)), (1, .int x1), (2, .int x2)]) hx hb dX7_pointsAt_1 rfl hl (by decide) rfl (fun ls hl => ?_)
  refine lv_iload_n hx hb dX7_pointsAt_2 rfl (lv_at hl 3 rfl) ?_
  refine lv_aload_n hx hb dX7_pointsAt_3 rfl (lv_at hl 1 rfl) ?_
  refine gX7_7 C hM (kl (rfl : kT 731 = (6, 0))) (rfl : kT 731 = (6, 0)) (rfl : kR 731 0 = some 732) dX7_pointsAt_4 ?_
  refine lv_iconst (v := 5) hx hb dX7_pointsAt_7 (by decide) ?_
  refine mm_ildk C hM (kl (rfl : kT 732 = (8, 3592))) (rfl : kT 732 = (8, 3592)) (vp_in_of2 (by decide)) (by decide : (5 : Int32).toNatClampNeg = 5) dX7_pointsAt_8 ?_
  refine lv_isub hx hb dX7_pointsAt_9 ?_
  refine lv_iconst (v := 1) hx hb dX7_pointsAt_10 (by decide) ?_
  refine lv_iadd hx hb dX7_pointsAt_11 ?_
  refine lv_topi (fun y1 ey1 => ?_)
  have heq := lt_to ey1 heq
  refine lv_istore (lv' := [(4, .int y1), (3, .int 0), (0, .ref (mm_lo G + 731)), (1, .int x1), (2, .int x2)]) hx hb dX7_pointsAt_12 hl (by decide) rfl (fun ls hl => ?_)
  refine lv_aload_n hx hb dX7_pointsAt_14 rfl (lv_at hl 2 rfl) ?_
  refine gX7_7 C hM (kl (rfl : kT 731 = (6, 0))) (rfl : kT 731 = (6, 0)) (rfl : kR 731 0 = some 732) dX7_pointsAt_15 ?_
  refine lv_bipush (v := 10) hx hb dX7_pointsAt_18 (by decide) ?_
  refine mm_ildk C hM (kl (rfl : kT 732 = (8, 3592))) (rfl : kT 732 = (8, 3592)) (vp_in_of2 (by decide)) (by decide : (10 : Int32).toNatClampNeg = 10) dX7_pointsAt_20 ?_
  refine lv_sipush (v := 200) hx hb dX7_pointsAt_21 (by decide) ?_
  refine lv_isub hx hb dX7_pointsAt_24 ?_
  refine lv_iconst (v := 1) hx hb dX7_pointsAt_25 (by decide) ?_
  refine lv_iadd hx hb dX7_pointsAt_26 ?_
  refine lv_topi (fun y2 ey2 => ?_)
  have heq := lt_to ey2 heq
  refine lv_istore (lv' := [(5, .int y2), (4, .int y1), (3, .int 0), (0, .ref (mm_lo G + 731)), (1, .int x1), (2, .int x2)]) hx hb dX7_pointsAt_27 hl (by decide) rfl (fun ls hl => ?_)
  refine lv_iload hx hb dX7_pointsAt_29 (lv_at hl 0 rfl) ?_
  refine lv_iload hx hb dX7_pointsAt_31 (lv_at hl 1 rfl) ?_
  refine lv_icmp_ge (tgt := 41) hx hb dX7_pointsAt_33 (by decide) (fun c3 => ?_) (fun c3 => ?_)
  · have heq := if_t c3 heq
    refine lv_iload hx hb dX7_pointsAt_41 (lv_at hl 0 rfl) ?_
    exact tX7_pointsAt_43 C x1 x2 M _ _ _ _ hM hS (lv_sub hl [3, 4, 2] rfl) heq
  · have heq := if_f c3 heq
    refine lv_iload hx hb dX7_pointsAt_36 (lv_at hl 1 rfl) ?_
    refine lv_goto (tgt := 43) hx hb dX7_pointsAt_38 (by decide) ?_
    exact tX7_pointsAt_43 C x1 x2 M _ _ _ _ hM hS (lv_sub hl [3, 4, 2] rfl) heq

set_option maxRecDepth 100000 in
set_option maxHeartbeats 4000000 in
theorem tX7_give_98 (C : mm_C G p s m args meth c RX7 cX7_give 4 none) (x1 : Int32) (x2 : Int32) {M9 : mm_M} : ∀ n : Nat, ∀ (M : mm_M) (v3 : Int32) (H : Heap) (locs : List Loc) (ls : Array Slot), mm_P G kR 740 M H → va_S (mm_A G) s.heap H locs → lv_has ls 4 [(0, .ref (mm_lo G + 731)), (1, .int x1), (3, .int v3)] → fX7_give_98 x1 x2 n M v3 = some M9 → W p l e rmX7_give s m args below meth c H locs 0 0 (MQ below (mm_Qv G (kR, 740, M9)) args s 0 0 (mm_A G)) (F0 m 98 ls []) := by
  obtain ⟨hx, hb, -, -, -, -, -, -, hZ, -⟩ := id C
  intro n
  induction n with
  | zero =>
    intro M v3 H locs ls hM hS hl heq
    rw [fX7_give_98] at heq
    cases heq
  | succ n ih =>
    intro M v3 H locs ls hM hS hl heq
    rw [fX7_give_98] at heq
    refine lv_iload_n hx hb dX7_give_98 rfl (lv_at hl 2 rfl) ?_
    refine lv_sipush (v := 200) hx hb dX7_give_99 (by decide) ?_
    refine lv_icmp_ge (tgt := 128) hx hb dX7_give_102 (by decide) (fun c1 => ?_) (fun c1 => ?_)
    · have heq := if_t c1 heq
      cases heq
      exact mm_vret C hM hS dX7_give_128
    · have heq := if_f c1 heq
      refine lv_aload_n hx hb dX7_give_105 rfl (lv_at hl 0 rfl) ?_
      refine gX7_7 C hM (kl (rfl : kT 731 = (6, 0))) (rfl : kT 731 = (6, 0)) (rfl : kR 731 0 = some 732) dX7_give_106 ?_
      refine lv_sipush (v := 392) hx hb dX7_give_109 (by decide) ?_
      refine lv_sipush (v := 200) hx hb dX7_give_112 (by decide) ?_
      refine lv_iload_n hx hb dX7_give_115 rfl (lv_at hl 1 rfl) ?_
      refine lv_imul hx hb dX7_give_116 ?_
      refine lv_iadd hx hb dX7_give_117 ?_
      refine lv_iload_n hx hb dX7_give_118 rfl (lv_at hl 2 rfl) ?_
      refine lv_iadd hx hb dX7_give_119 ?_
      refine lv_iconst (v := 0) hx hb dX7_give_120 (by decide) ?_
      obtain ⟨g2, heq⟩ := gd_of heq
      refine mm_istk C hM hS (kl (rfl : kT 732 = (8, 3592))) (rfl : kT 732 = (8, 3592)) (vp_in_of2 g2) rfl dX7_give_121 (fun H locs hM hS _ => ?_)
      obtain ⟨M3, eM3⟩ : ∃ z : mm_M, z = sI M 732 ((392 + (200 * x1)) + v3).toNatClampNeg 0 := ⟨_, rfl⟩
      rw [← eM3] at hM
      have heq := lt_to eM3 heq
      obtain ⟨y4, ey4⟩ : ∃ y : Int32, y = (v3 + 1) := ⟨_, rfl⟩
      have heq := lt_to ey4 heq
      refine lv_iinc (v := y4) (lv' := [(3, .int y4), (0, .ref (mm_lo G + 731)), (1, .int x1)]) hx hb dX7_give_122 hl (k := 2) rfl (by rw [ey4]; rfl) (by decide) rfl (fun ls hl => ?_)
      refine lv_goto (tgt := 98) hx hb dX7_give_125 (by decide) ?_
      exact ih _ _ _ _ _ hM hS (lv_sub hl [1, 2, 0] rfl) heq

set_option maxRecDepth 100000 in
set_option maxHeartbeats 4000000 in
theorem tX7_give (l : Launch) (G : mm_G) (M : mm_M) (x1 : Int32) (x2 : Int32) (M9 : mm_M) (heq : fX7_give M x1 x2 = some M9) : Met l yX7_give (mm_ws yX7_give cX7_give 4 none) rmX7_give (va_Pc [.ref (mm_lo G + 731), .int x1, .int x2] (mm_B G (kR, 740, M))) (mm_Qv G (kR, 740, M9)) 0 0 (mm_A G) := by
  refine mm_met (cc := cX7_give) (nL := 4) (ret := none) plRX7 (Nat.le_of_ble_eq_true rfl) ?_
  intro p e s m below meth c ls hin C hM hS hl
  have C : mm_C G p s m _ meth c RX7 cX7_give 4 none := C
  have hM : mm_P G kR 740 M s.heap := hM
  have hl : lv_has ls 4 [(0, .ref (mm_lo G + 731)), (1, .int x1), (2, .int x2)] := hl
  obtain ⟨hx, hb, -, -, -, -, -, -, hZ, -⟩ := id C
  rw [fX7_give] at heq
  refine lv_aload_n hx hb dX7_give_0 rfl (lv_at hl 0 rfl) ?_
  refine gX7_7 C hM (kl (rfl : kT 731 = (6, 0))) (rfl : kT 731 = (6, 0)) (rfl : kR 731 0 = some 732) dX7_give_1 ?_
  refine lv_sipush (v := 392) hx hb dX7_give_4 (by decide) ?_
  refine lv_sipush (v := 200) hx hb dX7_give_7 (by decide) ?_
  refine lv_iload_n hx hb dX7_give_10 rfl (lv_at hl 1 rfl) ?_
  refine lv_imul hx hb dX7_give_11 ?_
  refine lv_iadd hx hb dX7_give_12 ?_
  refine lv_aload_n hx hb dX7_give_13 rfl (lv_at hl 0 rfl) ?_
  refine gX7_7 C hM (kl (rfl : kT 731 = (6, 0))) (rfl : kT 731 = (6, 0)) (rfl : kR 731 0 = some 732) dX7_give_14 ?_
  refine lv_bipush (v := 10) hx hb dX7_give_17 (by decide) ?_
  refine mm_ildk C hM (kl (rfl : kT 732 = (8, 3592))) (rfl : kT 732 = (8, 3592)) (vp_in_of2 (by decide)) (by decide : (10 : Int32).toNatClampNeg = 10) dX7_give_19 ?_
  refine lv_sipush (v := 200) hx hb dX7_give_20 (by decide) ?_
  refine lv_irem hx hb dX7_give_23 (by decide) ?_
  refine lv_iadd hx hb dX7_give_24 ?_
  refine lv_dup2_11 hx hb dX7_give_25 rfl rfl ?_
  obtain ⟨g1, heq⟩ := gd_of heq
  refine mm_ildk C hM (kl (rfl : kT 732 = (8, 3592))) (rfl : kT 732 = (8, 3592)) (vp_in_of2 g1) rfl dX7_give_26 ?_
  refine lv_iload_n hx hb dX7_give_27 rfl (lv_at hl 2 rfl) ?_
  refine lv_iadd hx hb dX7_give_28 ?_
  refine mm_istk C hM hS (kl (rfl : kT 732 = (8, 3592))) (rfl : kT 732 = (8, 3592)) (vp_in_of2 g1) rfl dX7_give_29 (fun H locs hM hS _ => ?_)
  obtain ⟨M2, eM2⟩ : ∃ z : mm_M, z = sI M 732 ((392 + (200 * x1)) + ((M.1 732 10) - (M.1 732 10) / 200 * 200)).toNatClampNeg ((M.1 732 ((392 + (200 * x1)) + ((M.1 732 10) - (M.1 732 10) / 200 * 200)).toNatClampNeg) + x2) := ⟨_, rfl⟩
  rw [← eM2] at hM
  have heq := lt_to eM2 heq
  refine lv_aload_n hx hb dX7_give_30 rfl (lv_at hl 0 rfl) ?_
  refine lv_iload_n hx hb dX7_give_31 rfl (lv_at hl 1 rfl) ?_
  refine lv_bipush (v := 17) hx hb dX7_give_32 (by decide) ?_
  refine lv_aload_n hx hb dX7_give_34 rfl (lv_at hl 0 rfl) ?_
  refine lv_iload_n hx hb dX7_give_35 rfl (lv_at hl 1 rfl) ?_
  refine lv_bipush (v := 17) hx hb dX7_give_36 (by decide) ?_
  obtain ⟨r4, e3, heq⟩ := bn_of heq
  refine mm_ki hS (mm_runV (rest := [.int 17, .int x1, .ref (mm_lo G + 731)]) C hM hS (tX7_of l G M2 x1 17 r4 e3) (uX7_66 _ (Nat.le_of_ble_eq_true rfl) (Nat.le_of_ble_eq_true rfl)) (mm_recv C hM (kl (rfl : kT 731 = (6, 0))) (ci := 6) rfl (mm_e6 (rfl : kT 731 = (6, 0)))) hl.1 rfl rfl (Nat.le_of_ble_eq_true rfl) ⟨Nat.zero_le _, Nat.zero_le _⟩ dX7_give_38) (fun H locs hM hS => ?_)
  have hM : mm_P G kR 740 M2 H := hM
  refine lv_iload_n hx hb dX7_give_41 rfl (lv_at hl 2 rfl) ?_
  refine lv_aload_n hx hb dX7_give_42 rfl (lv_at hl 0 rfl) ?_
  refine gX7_7 C hM (kl (rfl : kT 731 = (6, 0))) (rfl : kT 731 = (6, 0)) (rfl : kR 731 0 = some 732) dX7_give_43 ?_
  refine lv_bipush (v := 6) hx hb dX7_give_46 (by decide) ?_
  refine mm_ildk C hM (kl (rfl : kT 732 = (8, 3592))) (rfl : kT 732 = (8, 3592)) (vp_in_of2 (by decide)) (by decide : (6 : Int32).toNatClampNeg = 6) dX7_give_48 ?_
  refine lv_imul hx hb dX7_give_49 ?_
  refine lv_iadd hx hb dX7_give_50 ?_
  obtain ⟨M6, e5, heq⟩ := bn_of heq
  refine mm_kv hS (mm_runV (rest := []) C hM hS (tX7_lay l G M2 x1 17 (r4 + (x2 * (M2.1 732 6))) M6 e5) (uX7_62 _ (Nat.le_of_ble_eq_true rfl) (Nat.le_of_ble_eq_true rfl)) (mm_recv C hM (kl (rfl : kT 731 = (6, 0))) (ci := 6) rfl (mm_e6 (rfl : kT 731 = (6, 0)))) hl.1 rfl rfl (Nat.le_of_ble_eq_true rfl) ⟨Nat.zero_le _, Nat.zero_le _⟩ dX7_give_51) (fun H locs hM hS => ?_)
  have hM : mm_P G kR 740 M6 H := hM
  refine lv_aload_n hx hb dX7_give_54 rfl (lv_at hl 0 rfl) ?_
  refine lv_iload_n hx hb dX7_give_55 rfl (lv_at hl 1 rfl) ?_
  refine lv_aload_n hx hb dX7_give_56 rfl (lv_at hl 0 rfl) ?_
  refine gX7_7 C hM (kl (rfl : kT 731 = (6, 0))) (rfl : kT 731 = (6, 0)) (rfl : kR 731 0 = some 732) dX7_give_57 ?_
  refine lv_bipush (v := 10) hx hb dX7_give_60 (by decide) ?_
  refine mm_ildk C hM (kl (rfl : kT 732 = (8, 3592))) (rfl : kT 732 = (8, 3592)) (vp_in_of2 (by decide)) (by decide : (10 : Int32).toNatClampNeg = 10) dX7_give_62 ?_
  obtain ⟨r8, e7, heq⟩ := bn_of heq
  refine mm_ki hS (mm_runV (rest := []) C hM hS (tX7_pointsAt l G M6 x1 (M6.1 732 10) r8 e7) (uX7_69 _ (Nat.le_of_ble_eq_true rfl) (Nat.le_of_ble_eq_true rfl)) (mm_recv C hM (kl (rfl : kT 731 = (6, 0))) (ci := 6) rfl (mm_e6 (rfl : kT 731 = (6, 0)))) hl.1 rfl rfl (Nat.le_of_ble_eq_true rfl) ⟨Nat.zero_le _, Nat.zero_le _⟩ dX7_give_63) (fun H locs hM hS => ?_)
  have hM : mm_P G kR 740 M6 H := hM
  refine lv_aload_n hx hb dX7_give_66 rfl (lv_at hl 0 rfl) ?_
  refine gX7_7 C hM (kl (rfl : kT 731 = (6, 0))) (rfl : kT 731 = (6, 0)) (rfl : kR 731 0 = some 732) dX7_give_67 ?_
  refine lv_iconst (v := 3) hx hb dX7_give_70 (by decide) ?_
  refine mm_ildk C hM (kl (rfl : kT 732 = (8, 3592))) (rfl : kT 732 = (8, 3592)) (vp_in_of2 (by decide)) (by decide : (3 : Int32).toNatClampNeg = 3) dX7_give_71 ?_
  refine lv_icmp_lt (tgt := 128) hx hb dX7_give_72 (by decide) (fun c9 => ?_) (fun c9 => ?_)
  · have heq := if_t c9 heq
    cases heq
    exact mm_vret C hM hS dX7_give_128
  · have heq := if_f c9 heq
    refine lv_aload_n hx hb dX7_give_75 rfl (lv_at hl 0 rfl) ?_
    refine lv_iload_n hx hb dX7_give_76 rfl (lv_at hl 1 rfl) ?_
    refine lv_bipush (v := 9) hx hb dX7_give_77 (by decide) ?_
    refine lv_aload_n hx hb dX7_give_79 rfl (lv_at hl 0 rfl) ?_
    refine gX7_7 C hM (kl (rfl : kT 731 = (6, 0))) (rfl : kT 731 = (6, 0)) (rfl : kR 731 0 = some 732) dX7_give_80 ?_
    refine lv_bipush (v := 10) hx hb dX7_give_83 (by decide) ?_
    refine mm_ildk C hM (kl (rfl : kT 732 = (8, 3592))) (rfl : kT 732 = (8, 3592)) (vp_in_of2 (by decide)) (by decide : (10 : Int32).toNatClampNeg = 10) dX7_give_85 ?_
    refine lv_aload_n hx hb dX7_give_86 rfl (lv_at hl 0 rfl) ?_
    refine gX7_7 C hM (kl (rfl : kT 731 = (6, 0))) (rfl : kT 731 = (6, 0)) (rfl : kR 731 0 = some 732) dX7_give_87 ?_
    refine lv_iconst (v := 4) hx hb dX7_give_90 (by decide) ?_
    refine mm_ildk C hM (kl (rfl : kT 732 = (8, 3592))) (rfl : kT 732 = (8, 3592)) (vp_in_of2 (by decide)) (by decide : (4 : Int32).toNatClampNeg = 4) dX7_give_91 ?_
    refine lv_iadd hx hb dX7_give_92 ?_
    obtain ⟨M11, e10, heq⟩ := bn_of heq
    refine mm_kv hS (mm_runV (rest := []) C hM hS (tX7_lay l G M6 x1 9 ((M6.1 732 10) + (M6.1 732 4)) M11 e10) (uX7_62 _ (Nat.le_of_ble_eq_true rfl) (Nat.le_of_ble_eq_true rfl)) (mm_recv C hM (kl (rfl : kT 731 = (6, 0))) (ci := 6) rfl (mm_e6 (rfl : kT 731 = (6, 0)))) hl.1 rfl rfl (Nat.le_of_ble_eq_true rfl) ⟨Nat.zero_le _, Nat.zero_le _⟩ dX7_give_93) (fun H locs hM hS => ?_)
    have hM : mm_P G kR 740 M11 H := hM
    refine lv_iconst (v := 0) hx hb dX7_give_96 (by decide) ?_
    refine lv_istore_n (lv' := [(3, .int 0), (0, .ref (mm_lo G + 731)), (1, .int x1), (2, .int x2)]) hx hb dX7_give_97 rfl hl (by decide) rfl (fun ls hl => ?_)
    exact tX7_give_98 C x1 x2 FU _ _ _ _ _ hM hS (lv_sub hl [1, 2, 0] rfl) heq
end WALK
