section LWALK
variable {p : Program} {l : Launch} {e : Env} {s : State} {m : MethodId} {args : Array Value} {below : List Frame} {meth : Method} {c : Code} {G : mm_G}
set_option maxRecDepth 100000 in
set_option maxHeartbeats 4000000 in
theorem tL_up (l : Launch) (G : mm_G) (M : mm_M) (x0 : Int32) (x1 : Int32) (r : Int32) (heq : fL_up M x0 x1 = some r) : Met l yL_up (mm_ws yL_up cL_up 2 (some .int)) rmL_up (va_Pc [.int x0, .int x1] (mm_B G (kR, 731, M))) (mm_Qi G r (kR, 731, M)) 0 0 (mm_A G) := by
  refine mm_met (cc := cL_up) (nL := 2) (ret := (some .int)) plRL (Nat.le_of_ble_eq_true rfl) ?_
  intro p e s m below meth c ls hin C hM hS hl
  have C : mm_C G p s m _ meth c RL cL_up 2 (some .int) := C
  have hM : mm_P G kR 731 M s.heap := hM
  have hl : lv_has ls 2 [(0, .int x0), (1, .int x1)] := hl
  obtain ⟨hx, hb, -, -, -, -, -, -, hZ, -⟩ := id C
  rw [fL_up] at heq
  refine lv_iload_n hx hb dL_up_0 rfl (lv_at hl 0 rfl) ?_
  refine mm_ldc C kL_8 dL_up_1 ?_
  refine lv_iand hx hb dL_up_3 ?_
  refine lv_iload_n hx hb dL_up_4 rfl (lv_at hl 1 rfl) ?_
  obtain ⟨g1, heq⟩ := gd_of heq
  refine lv_irem hx hb dL_up_5 g1 ?_
  cases heq
  exact mm_iret C hM hS dL_up_6

set_option maxRecDepth 100000 in
set_option maxHeartbeats 4000000 in
theorem tL_cell (l : Launch) (G : mm_G) (M : mm_M) (b L : Nat) (xs : Nat → Int32) (x1 : Int32) (r : Int32) (heq : fL_cell M xs L x1 = some r) : Met l yL_cell (mm_ws yL_cell cL_cell 2 (some .int)) rmL_cell (va_Pc [.ref b, .int x1] (mm_Bx G b L xs (kR, 731, M))) (mm_Qi G r (kR, 731, M)) 0 0 (mm_A G) := by
  refine mm_metx (cc := cL_cell) (nL := 2) (ret := (some .int)) plRL (Nat.le_of_ble_eq_true rfl) ?_
  intro p e s m below meth c ls hX hbA hbl C hM hS hl
  have C : mm_C G p s m _ meth c RL cL_cell 2 (some .int) := C
  have hM : mm_P G kR 731 M s.heap := hM
  have hl : lv_has ls 2 [(0, .ref b), (1, .int x1)] := hl
  obtain ⟨hx, hb, -, -, -, -, -, -, hZ, -⟩ := id C
  rw [fL_cell] at heq
  refine lv_iload_n hx hb dL_cell_0 rfl (lv_at hl 1 rfl) ?_
  refine lv_aload_n hx hb dL_cell_1 rfl (lv_at hl 0 rfl) ?_
  refine va_slen hx hb hX hbl hbA hS dL_cell_2 ?_
  refine lv_icmp_ge (tgt := 12) hx hb dL_cell_3 (by decide) (fun c1 => ?_) (fun c1 => ?_)
  · have heq := if_t c1 heq
    refine mm_ldc C kL_7 dL_cell_12 ?_
    refine lv_iload_n hx hb dL_cell_14 rfl (lv_at hl 1 rfl) ?_
    refine lv_sipush (v := 1619) hx hb dL_cell_15 (by decide) ?_
    refine lv_iadd hx hb dL_cell_18 ?_
    refine lv_imul hx hb dL_cell_19 ?_
    cases heq
    exact mm_iret C hM hS dL_cell_20
  · have heq := if_f c1 heq
    refine lv_aload_n hx hb dL_cell_6 rfl (lv_at hl 0 rfl) ?_
    refine lv_iload_n hx hb dL_cell_7 rfl (lv_at hl 1 rfl) ?_
    obtain ⟨g2, heq⟩ := gd_of heq
    refine va_sld hx hb hX hbl hbA hS (vp_in_of2 g2) dL_cell_8 ?_
    refine lv_goto (tgt := 20) hx hb dL_cell_9 (by decide) ?_
    cases heq
    exact mm_iret C hM hS dL_cell_20

set_option maxRecDepth 100000 in
set_option maxHeartbeats 4000000 in
theorem tL_least (l : Launch) (G : mm_G) (M : mm_M) (x0 : Int32) (r : Int32) (heq : fL_least M x0 = some r) : Met l yL_least (mm_ws yL_least cL_least 1 (some .int)) rmL_least (va_Pc [.int x0] (mm_B G (kR, 731, M))) (mm_Qi G r (kR, 731, M)) 0 0 (mm_A G) := by
  refine mm_met (cc := cL_least) (nL := 1) (ret := (some .int)) plRL (Nat.le_of_ble_eq_true rfl) ?_
  intro p e s m below meth c ls hin C hM hS hl
  have C : mm_C G p s m _ meth c RL cL_least 1 (some .int) := C
  have hM : mm_P G kR 731 M s.heap := hM
  have hl : lv_has ls 1 [(0, .int x0)] := hl
  obtain ⟨hx, hb, -, -, -, -, -, -, hZ, -⟩ := id C
  rw [fL_least] at heq
  refine lv_iload_n hx hb dL_least_0 rfl (lv_at hl 0 rfl) ?_
  refine lv_iconst (v := 3) hx hb dL_least_1 (by decide) ?_
  refine lv_icmp_ne (tgt := 9) hx hb dL_least_2 (by decide) (fun c1 => ?_) (fun c1 => ?_)
  · have heq := if_f c1 heq
    refine lv_iload_n hx hb dL_least_9 rfl (lv_at hl 0 rfl) ?_
    refine lv_bipush (v := 8) hx hb dL_least_10 (by decide) ?_
    refine lv_icmp_ne (tgt := 20) hx hb dL_least_12 (by decide) (fun c2 => ?_) (fun c2 => ?_)
    · have heq := if_f c2 heq
      refine lv_iload_n hx hb dL_least_20 rfl (lv_at hl 0 rfl) ?_
      refine lv_bipush (v := 6) hx hb dL_least_21 (by decide) ?_
      refine lv_icmp_eq (tgt := 38) hx hb dL_least_23 (by decide) (fun c3 => ?_) (fun c3 => ?_)
      · have heq := if_t c3 heq
        refine lv_iconst (v := 0) hx hb dL_least_38 (by decide) ?_
        refine lv_goto (tgt := 43) hx hb dL_least_39 (by decide) ?_
        cases heq
        exact mm_iret C hM hS dL_least_43
      · have heq := if_f c3 heq
        refine lv_iload_n hx hb dL_least_26 rfl (lv_at hl 0 rfl) ?_
        refine lv_bipush (v := 7) hx hb dL_least_27 (by decide) ?_
        refine lv_icmp_eq (tgt := 38) hx hb dL_least_29 (by decide) (fun c4 => ?_) (fun c4 => ?_)
        · have heq := if_t c4 heq
          refine lv_iconst (v := 0) hx hb dL_least_38 (by decide) ?_
          refine lv_goto (tgt := 43) hx hb dL_least_39 (by decide) ?_
          cases heq
          exact mm_iret C hM hS dL_least_43
        · have heq := if_f c4 heq
          refine lv_iload_n hx hb dL_least_32 rfl (lv_at hl 0 rfl) ?_
          refine lv_bipush (v := 9) hx hb dL_least_33 (by decide) ?_
          refine lv_icmp_ne (tgt := 42) hx hb dL_least_35 (by decide) (fun c5 => ?_) (fun c5 => ?_)
          · have heq := if_f c5 heq
            refine lv_iconst (v := 1) hx hb dL_least_42 (by decide) ?_
            cases heq
            exact mm_iret C hM hS dL_least_43
          · have heq := if_t c5 heq
            refine lv_iconst (v := 0) hx hb dL_least_38 (by decide) ?_
            refine lv_goto (tgt := 43) hx hb dL_least_39 (by decide) ?_
            cases heq
            exact mm_iret C hM hS dL_least_43
    · have heq := if_t c2 heq
      refine lv_bipush (v := 6) hx hb dL_least_15 (by decide) ?_
      refine lv_goto (tgt := 43) hx hb dL_least_17 (by decide) ?_
      cases heq
      exact mm_iret C hM hS dL_least_43
  · have heq := if_t c1 heq
    refine lv_iconst (v := 3) hx hb dL_least_5 (by decide) ?_
    refine lv_goto (tgt := 43) hx hb dL_least_6 (by decide) ?_
    cases heq
    exact mm_iret C hM hS dL_least_43

set_option maxRecDepth 100000 in
set_option maxHeartbeats 4000000 in
theorem tL_most (l : Launch) (G : mm_G) (M : mm_M) (x0 : Int32) (r : Int32) (heq : fL_most M x0 = some r) : Met l yL_most (mm_ws yL_most cL_most 1 (some .int)) rmL_most (va_Pc [.int x0] (mm_B G (kR, 731, M))) (mm_Qi G r (kR, 731, M)) 0 0 (mm_A G) := by
  refine mm_met (cc := cL_most) (nL := 1) (ret := (some .int)) plRL (Nat.le_of_ble_eq_true rfl) ?_
  intro p e s m below meth c ls hin C hM hS hl
  have C : mm_C G p s m _ meth c RL cL_most 1 (some .int) := C
  have hM : mm_P G kR 731 M s.heap := hM
  have hl : lv_has ls 1 [(0, .int x0)] := hl
  obtain ⟨hx, hb, -, -, -, -, -, -, hZ, -⟩ := id C
  rw [fL_most] at heq
  refine lv_iload_n hx hb dL_most_0 rfl (lv_at hl 0 rfl) ?_
  refine lv_if_ne (tgt := 9) hx hb dL_most_1 (by decide) (fun c1 => ?_) (fun c1 => ?_)
  · have heq := if_f c1 heq
    refine lv_iload_n hx hb dL_most_9 rfl (lv_at hl 0 rfl) ?_
    refine lv_iconst (v := 1) hx hb dL_most_10 (by decide) ?_
    refine lv_icmp_eq (tgt := 19) hx hb dL_most_11 (by decide) (fun c2 => ?_) (fun c2 => ?_)
    · have heq := if_t c2 heq
      refine lv_sipush (v := 200) hx hb dL_most_19 (by decide) ?_
      refine lv_goto (tgt := 92) hx hb dL_most_22 (by decide) ?_
      cases heq
      exact mm_iret C hM hS dL_most_92
    · have heq := if_f c2 heq
      refine lv_iload_n hx hb dL_most_14 rfl (lv_at hl 0 rfl) ?_
      refine lv_iconst (v := 5) hx hb dL_most_15 (by decide) ?_
      refine lv_icmp_ne (tgt := 25) hx hb dL_most_16 (by decide) (fun c3 => ?_) (fun c3 => ?_)
      · have heq := if_f c3 heq
        refine lv_iload_n hx hb dL_most_25 rfl (lv_at hl 0 rfl) ?_
        refine lv_iconst (v := 2) hx hb dL_most_26 (by decide) ?_
        refine lv_icmp_ne (tgt := 35) hx hb dL_most_27 (by decide) (fun c4 => ?_) (fun c4 => ?_)
        · have heq := if_f c4 heq
          refine lv_iload_n hx hb dL_most_35 rfl (lv_at hl 0 rfl) ?_
          refine lv_iconst (v := 3) hx hb dL_most_36 (by decide) ?_
          refine lv_icmp_ne (tgt := 45) hx hb dL_most_37 (by decide) (fun c5 => ?_) (fun c5 => ?_)
          · have heq := if_f c5 heq
            refine lv_iload_n hx hb dL_most_45 rfl (lv_at hl 0 rfl) ?_
            refine lv_iconst (v := 4) hx hb dL_most_46 (by decide) ?_
            refine lv_icmp_ne (tgt := 55) hx hb dL_most_47 (by decide) (fun c6 => ?_) (fun c6 => ?_)
            · have heq := if_f c6 heq
              refine lv_iload_n hx hb dL_most_55 rfl (lv_at hl 0 rfl) ?_
              refine lv_bipush (v := 6) hx hb dL_most_56 (by decide) ?_
              refine lv_icmp_ne (tgt := 67) hx hb dL_most_58 (by decide) (fun c7 => ?_) (fun c7 => ?_)
              · have heq := if_f c7 heq
                refine lv_iload_n hx hb dL_most_67 rfl (lv_at hl 0 rfl) ?_
                refine lv_bipush (v := 7) hx hb dL_most_68 (by decide) ?_
                refine lv_icmp_ne (tgt := 78) hx hb dL_most_70 (by decide) (fun c8 => ?_) (fun c8 => ?_)
                · have heq := if_f c8 heq
                  refine lv_iload_n hx hb dL_most_78 rfl (lv_at hl 0 rfl) ?_
                  refine lv_bipush (v := 8) hx hb dL_most_79 (by decide) ?_
                  refine lv_icmp_ne (tgt := 89) hx hb dL_most_81 (by decide) (fun c9 => ?_) (fun c9 => ?_)
                  · have heq := if_f c9 heq
                    refine lv_sipush (v := 5000) hx hb dL_most_89 (by decide) ?_
                    cases heq
                    exact mm_iret C hM hS dL_most_92
                  · have heq := if_t c9 heq
                    refine lv_bipush (v := 14) hx hb dL_most_84 (by decide) ?_
                    refine lv_goto (tgt := 92) hx hb dL_most_86 (by decide) ?_
                    cases heq
                    exact mm_iret C hM hS dL_most_92
                · have heq := if_t c8 heq
                  refine lv_bipush (v := 9) hx hb dL_most_73 (by decide) ?_
                  refine lv_goto (tgt := 92) hx hb dL_most_75 (by decide) ?_
                  cases heq
                  exact mm_iret C hM hS dL_most_92
              · have heq := if_t c7 heq
                refine lv_sipush (v := 10000) hx hb dL_most_61 (by decide) ?_
                refine lv_goto (tgt := 92) hx hb dL_most_64 (by decide) ?_
                cases heq
                exact mm_iret C hM hS dL_most_92
            · have heq := if_t c6 heq
              refine lv_bipush (v := 60) hx hb dL_most_50 (by decide) ?_
              refine lv_goto (tgt := 92) hx hb dL_most_52 (by decide) ?_
              cases heq
              exact mm_iret C hM hS dL_most_92
          · have heq := if_t c5 heq
            refine lv_bipush (v := 30) hx hb dL_most_40 (by decide) ?_
            refine lv_goto (tgt := 92) hx hb dL_most_42 (by decide) ?_
            cases heq
            exact mm_iret C hM hS dL_most_92
        · have heq := if_t c4 heq
          refine lv_bipush (v := 8) hx hb dL_most_30 (by decide) ?_
          refine lv_goto (tgt := 92) hx hb dL_most_32 (by decide) ?_
          cases heq
          exact mm_iret C hM hS dL_most_92
      · have heq := if_t c3 heq
        refine lv_sipush (v := 200) hx hb dL_most_19 (by decide) ?_
        refine lv_goto (tgt := 92) hx hb dL_most_22 (by decide) ?_
        cases heq
        exact mm_iret C hM hS dL_most_92
  · have heq := if_t c1 heq
    refine lv_bipush (v := 20) hx hb dL_most_4 (by decide) ?_
    refine lv_goto (tgt := 92) hx hb dL_most_6 (by decide) ?_
    cases heq
    exact mm_iret C hM hS dL_most_92

set_option maxRecDepth 100000 in
set_option maxHeartbeats 4000000 in
theorem tL_sets_40 (C : mm_C G p s m args meth c RL cL_sets 5 (some .boolean)) (x1 : Int32) {r : Bool} {M9 : mm_M} : ∀ (M : mm_M) (v2 : Int32) (t0 : Int32) (t1 : Int32) (t2 : Int32) (H : Heap) (locs : List Loc) (ls : Array Slot), mm_P G kR 731 M H → va_S (mm_A G) s.heap H locs → lv_has ls 5 [(0, .ref (mm_lo G + 0)), (2, .int v2)] → fL_sets_40 x1 M v2 t0 t1 t2 = some (r, M9) → W p l e rmL_sets s m args below meth c H locs 0 0 (MQ below (mm_Qi G (b2i r) (kR, 731, M9)) args s 0 0 (mm_A G)) (F0 m 40 ls [.int t2, .int t1, .int t0]) := by
  obtain ⟨hx, hb, -, -, -, -, -, -, hZ, -⟩ := id C
  intro M v2 t0 t1 t2 H locs ls hM hS hl heq
  rw [fL_sets_40] at heq
  obtain ⟨r2, e1, heq⟩ := bn_of heq
  refine mm_ki hS (mm_runS (rest := [.int t0]) C hM hS (tL_up l G M t1 t2 r2 e1) (uL_23 _ (Nat.le_of_ble_eq_true rfl) (Nat.le_of_ble_eq_true rfl)) hl.1 rfl rfl (Nat.le_of_ble_eq_true rfl) ⟨Nat.zero_le _, Nat.zero_le _⟩ dL_sets_40) (fun H locs hM hS => ?_)
  have hM : mm_P G kR 731 M H := hM
  refine lv_iadd hx hb dL_sets_43 ?_
  refine lv_topi (fun y3 ey3 => ?_)
  have heq := lt_to ey3 heq
  refine lv_istore_n (lv' := [(3, .int y3), (0, .ref (mm_lo G + 0)), (2, .int v2)]) hx hb dL_sets_44 rfl hl (by decide) rfl (fun ls hl => ?_)
  refine lv_aload_n hx hb dL_sets_45 rfl (lv_at hl 1 rfl) ?_
  refine lv_bipush (v := 8) hx hb dL_sets_46 (by decide) ?_
  refine lv_iload_n hx hb dL_sets_48 rfl (lv_at hl 2 rfl) ?_
  refine lv_iadd hx hb dL_sets_49 ?_
  obtain ⟨r5, e4, heq⟩ := bn_of heq
  refine mm_ki hS (mm_runV (o := 0) (rest := []) C hM hS (tX6_count l G M (8 + v2) r5 e4) (uL_60 _ (Nat.le_of_ble_eq_true rfl) (Nat.le_of_ble_eq_true rfl)) (mm_recv C hM (kl (rfl : kT 0 = (5, 0))) (ci := 5) rfl (mm_e5 (rfl : kT 0 = (5, 0)))) hl.1 rfl rfl (Nat.le_of_ble_eq_true rfl) ⟨Nat.zero_le _, Nat.zero_le _⟩ dL_sets_50) (fun H locs hM hS => ?_)
  have hM : mm_P G kR 731 M H := hM
  refine lv_istore (lv' := [(4, .int r5), (3, .int y3), (0, .ref (mm_lo G + 0)), (2, .int v2)]) hx hb dL_sets_53 hl (by decide) rfl (fun ls hl => ?_)
  refine lv_aload_n hx hb dL_sets_55 rfl (lv_at hl 2 rfl) ?_
  refine lv_iload_n hx hb dL_sets_56 rfl (lv_at hl 3 rfl) ?_
  refine lv_iload_n hx hb dL_sets_57 rfl (lv_at hl 3 rfl) ?_
  obtain ⟨r7, e6, heq⟩ := bn_of heq
  refine mm_ki hS (mm_runS (rest := [.int v2, .ref (mm_lo G + 0)]) C hM hS (tL_least l G M v2 r7 e6) (uL_54 _ (Nat.le_of_ble_eq_true rfl) (Nat.le_of_ble_eq_true rfl)) hl.1 rfl rfl (Nat.le_of_ble_eq_true rfl) ⟨Nat.zero_le _, Nat.zero_le _⟩ dL_sets_58) (fun H locs hM hS => ?_)
  have hM : mm_P G kR 731 M H := hM
  refine lv_iconst (v := 1) hx hb dL_sets_61 (by decide) ?_
  refine lv_isub hx hb dL_sets_62 ?_
  obtain ⟨r9, M10, e8, heq⟩ := bn2_of heq
  refine mm_ki hS (mm_runV (o := 0) (rest := []) C hM hS (tX6_set l G M v2 (r7 - 1) r9 M10 e8) (uL_63 _ (Nat.le_of_ble_eq_true rfl) (Nat.le_of_ble_eq_true rfl)) (mm_recv C hM (kl (rfl : kT 0 = (5, 0))) (ci := 5) rfl (mm_e5 (rfl : kT 0 = (5, 0)))) hl.1 rfl rfl (Nat.le_of_ble_eq_true rfl) ⟨Nat.zero_le _, Nat.zero_le _⟩ dL_sets_63) (fun H locs hM hS => ?_)
  have hM : mm_P G kR 731 M10 H := hM
  refine lv_bipush (v := (-2)) hx hb dL_sets_66 (by decide) ?_
  refine lv_icmp_ne (tgt := 114) hx hb dL_sets_68 (by decide) (fun c11 => ?_) (fun c11 => ?_)
  · have heq := if_f c11 heq
    refine lv_iconst (v := 0) hx hb dL_sets_114 (by decide) ?_
    cases heq
    exact mm_zret C hM hS dL_sets_115
  · have heq := if_t c11 heq
    refine lv_aload_n hx hb dL_sets_71 rfl (lv_at hl 2 rfl) ?_
    refine lv_iload_n hx hb dL_sets_72 rfl (lv_at hl 3 rfl) ?_
    refine lv_iload_n hx hb dL_sets_73 rfl (lv_at hl 3 rfl) ?_
    obtain ⟨r13, e12, heq⟩ := bn_of heq
    refine mm_ki hS (mm_runS (rest := [.int v2, .ref (mm_lo G + 0)]) C hM hS (tL_most l G M10 v2 r13 e12) (uL_57 _ (Nat.le_of_ble_eq_true rfl) (Nat.le_of_ble_eq_true rfl)) hl.1 rfl rfl (Nat.le_of_ble_eq_true rfl) ⟨Nat.zero_le _, Nat.zero_le _⟩ dL_sets_74) (fun H locs hM hS => ?_)
    have hM : mm_P G kR 731 M10 H := hM
    refine lv_iconst (v := 1) hx hb dL_sets_77 (by decide) ?_
    refine lv_iadd hx hb dL_sets_78 ?_
    obtain ⟨r15, M16, e14, heq⟩ := bn2_of heq
    refine mm_ki hS (mm_runV (o := 0) (rest := []) C hM hS (tX6_set l G M10 v2 (r13 + 1) r15 M16 e14) (uL_63 _ (Nat.le_of_ble_eq_true rfl) (Nat.le_of_ble_eq_true rfl)) (mm_recv C hM (kl (rfl : kT 0 = (5, 0))) (ci := 5) rfl (mm_e5 (rfl : kT 0 = (5, 0)))) hl.1 rfl rfl (Nat.le_of_ble_eq_true rfl) ⟨Nat.zero_le _, Nat.zero_le _⟩ dL_sets_79) (fun H locs hM hS => ?_)
    have hM : mm_P G kR 731 M16 H := hM
    refine lv_bipush (v := (-2)) hx hb dL_sets_82 (by decide) ?_
    refine lv_icmp_ne (tgt := 114) hx hb dL_sets_84 (by decide) (fun c17 => ?_) (fun c17 => ?_)
    · have heq := if_f c17 heq
      refine lv_iconst (v := 0) hx hb dL_sets_114 (by decide) ?_
      cases heq
      exact mm_zret C hM hS dL_sets_115
    · have heq := if_t c17 heq
      refine lv_aload_n hx hb dL_sets_87 rfl (lv_at hl 2 rfl) ?_
      refine lv_iload_n hx hb dL_sets_88 rfl (lv_at hl 3 rfl) ?_
      refine lv_iload_n hx hb dL_sets_89 rfl (lv_at hl 1 rfl) ?_
      obtain ⟨r19, M20, e18, heq⟩ := bn2_of heq
      refine mm_ki hS (mm_runV (o := 0) (rest := []) C hM hS (tX6_set l G M16 v2 y3 r19 M20 e18) (uL_63 _ (Nat.le_of_ble_eq_true rfl) (Nat.le_of_ble_eq_true rfl)) (mm_recv C hM (kl (rfl : kT 0 = (5, 0))) (ci := 5) rfl (mm_e5 (rfl : kT 0 = (5, 0)))) hl.1 rfl rfl (Nat.le_of_ble_eq_true rfl) ⟨Nat.zero_le _, Nat.zero_le _⟩ dL_sets_90) (fun H locs hM hS => ?_)
      have hM : mm_P G kR 731 M20 H := hM
      refine lv_iload hx hb dL_sets_93 (lv_at hl 0 rfl) ?_
      refine lv_icmp_ne (tgt := 114) hx hb dL_sets_95 (by decide) (fun c21 => ?_) (fun c21 => ?_)
      · have heq := if_f c21 heq
        refine lv_iconst (v := 0) hx hb dL_sets_114 (by decide) ?_
        cases heq
        exact mm_zret C hM hS dL_sets_115
      · have heq := if_t c21 heq
        refine lv_aload_n hx hb dL_sets_98 rfl (lv_at hl 2 rfl) ?_
        refine lv_bipush (v := 8) hx hb dL_sets_99 (by decide) ?_
        refine lv_iload_n hx hb dL_sets_101 rfl (lv_at hl 3 rfl) ?_
        refine lv_iadd hx hb dL_sets_102 ?_
        obtain ⟨r23, e22, heq⟩ := bn_of heq
        refine mm_ki hS (mm_runV (o := 0) (rest := []) C hM hS (tX6_count l G M20 (8 + v2) r23 e22) (uL_60 _ (Nat.le_of_ble_eq_true rfl) (Nat.le_of_ble_eq_true rfl)) (mm_recv C hM (kl (rfl : kT 0 = (5, 0))) (ci := 5) rfl (mm_e5 (rfl : kT 0 = (5, 0)))) hl.1 rfl rfl (Nat.le_of_ble_eq_true rfl) ⟨Nat.zero_le _, Nat.zero_le _⟩ dL_sets_103) (fun H locs hM hS => ?_)
        have hM : mm_P G kR 731 M20 H := hM
        refine lv_iload_n hx hb dL_sets_106 rfl (lv_at hl 1 rfl) ?_
        refine lv_icmp_ne (tgt := 114) hx hb dL_sets_107 (by decide) (fun c24 => ?_) (fun c24 => ?_)
        · have heq := if_f c24 heq
          refine lv_iconst (v := 0) hx hb dL_sets_114 (by decide) ?_
          cases heq
          exact mm_zret C hM hS dL_sets_115
        · have heq := if_t c24 heq
          refine lv_iconst (v := 1) hx hb dL_sets_110 (by decide) ?_
          refine lv_goto (tgt := 115) hx hb dL_sets_111 (by decide) ?_
          cases heq
          exact mm_zret C hM hS dL_sets_115

set_option maxRecDepth 100000 in
set_option maxHeartbeats 4000000 in
theorem tL_sets_24 (C : mm_C G p s m args meth c RL cL_sets 5 (some .boolean)) (x1 : Int32) {r : Bool} {M9 : mm_M} : ∀ (M : mm_M) (v2 : Int32) (t0 : Int32) (t1 : Int32) (H : Heap) (locs : List Loc) (ls : Array Slot), mm_P G kR 731 M H → va_S (mm_A G) s.heap H locs → lv_has ls 5 [(0, .ref (mm_lo G + 0)), (2, .int v2)] → fL_sets_24 x1 M v2 t0 t1 = some (r, M9) → W p l e rmL_sets s m args below meth c H locs 0 0 (MQ below (mm_Qi G (b2i r) (kR, 731, M9)) args s 0 0 (mm_A G)) (F0 m 24 ls [.int t1, .int t0]) := by
  obtain ⟨hx, hb, -, -, -, -, -, -, hZ, -⟩ := id C
  intro M v2 t0 t1 H locs ls hM hS hl heq
  rw [fL_sets_24] at heq
  refine lv_bipush (v := 12) hx hb dL_sets_24 (by decide) ?_
  refine lv_goto (tgt := 40) hx hb dL_sets_26 (by decide) ?_
  exact tL_sets_40 C x1 _ _ _ _ _ _ _ _ hM hS (lv_sub hl [0, 1] rfl) heq

set_option maxRecDepth 100000 in
set_option maxHeartbeats 4000000 in
theorem tL_sets (l : Launch) (G : mm_G) (M : mm_M) (x1 : Int32) (r : Bool) (M9 : mm_M) (heq : fL_sets M x1 = some (r, M9)) : Met l yL_sets (mm_ws yL_sets cL_sets 5 (some .boolean)) rmL_sets (va_Pc [.ref (mm_lo G + 0), .int x1] (mm_B G (kR, 731, M))) (mm_Qi G (b2i r) (kR, 731, M9)) 0 0 (mm_A G) := by
  refine mm_met (cc := cL_sets) (nL := 5) (ret := (some .boolean)) plRL (Nat.le_of_ble_eq_true rfl) ?_
  intro p e s m below meth c ls hin C hM hS hl
  have C : mm_C G p s m _ meth c RL cL_sets 5 (some .boolean) := C
  have hM : mm_P G kR 731 M s.heap := hM
  have hl : lv_has ls 5 [(0, .ref (mm_lo G + 0)), (1, .int x1)] := hl
  obtain ⟨hx, hb, -, -, -, -, -, -, hZ, -⟩ := id C
  rw [fL_sets] at heq
  refine lv_iload_n hx hb dL_sets_0 rfl (lv_at hl 1 rfl) ?_
  refine lv_bipush (v := 10) hx hb dL_sets_1 (by decide) ?_
  obtain ⟨r2, e1, heq⟩ := bn_of heq
  refine mm_ki hS (mm_runS (rest := []) C hM hS (tL_up l G M x1 10 r2 e1) (uL_23 _ (Nat.le_of_ble_eq_true rfl) (Nat.le_of_ble_eq_true rfl)) hl.1 rfl rfl (Nat.le_of_ble_eq_true rfl) ⟨Nat.zero_le _, Nat.zero_le _⟩ dL_sets_3) (fun H locs hM hS => ?_)
  have hM : mm_P G kR 731 M H := hM
  refine lv_istore_n (lv' := [(2, .int r2), (0, .ref (mm_lo G + 0)), (1, .int x1)]) hx hb dL_sets_6 rfl hl (by decide) rfl (fun ls hl => ?_)
  refine lv_iload_n hx hb dL_sets_7 rfl (lv_at hl 0 rfl) ?_
  obtain ⟨r4, e3, heq⟩ := bn_of heq
  refine mm_ki hS (mm_runS (rest := []) C hM hS (tL_least l G M r2 r4 e3) (uL_54 _ (Nat.le_of_ble_eq_true rfl) (Nat.le_of_ble_eq_true rfl)) hl.1 rfl rfl (Nat.le_of_ble_eq_true rfl) ⟨Nat.zero_le _, Nat.zero_le _⟩ dL_sets_8) (fun H locs hM hS => ?_)
  have hM : mm_P G kR 731 M H := hM
  refine lv_iload_n hx hb dL_sets_11 rfl (lv_at hl 2 rfl) ?_
  refine lv_iconst (v := 4) hx hb dL_sets_12 (by decide) ?_
  refine lv_ishr hx hb dL_sets_13 ?_
  refine lv_iload_n hx hb dL_sets_14 rfl (lv_at hl 0 rfl) ?_
  refine lv_iconst (v := 1) hx hb dL_sets_15 (by decide) ?_
  refine lv_icmp_eq (tgt := 24) hx hb dL_sets_16 (by decide) (fun c5 => ?_) (fun c5 => ?_)
  · have heq := if_t c5 heq
    exact tL_sets_24 C x1 _ _ _ _ _ _ _ hM hS (lv_sub hl [1, 0] rfl) heq
  · have heq := if_f c5 heq
    refine lv_iload_n hx hb dL_sets_19 rfl (lv_at hl 0 rfl) ?_
    refine lv_iconst (v := 5) hx hb dL_sets_20 (by decide) ?_
    refine lv_icmp_ne (tgt := 29) hx hb dL_sets_21 (by decide) (fun c6 => ?_) (fun c6 => ?_)
    · have heq := if_f c6 heq
      refine lv_iload_n hx hb dL_sets_29 rfl (lv_at hl 0 rfl) ?_
      obtain ⟨r8, e7, heq⟩ := bn_of heq
      refine mm_ki hS (mm_runS (rest := [.int (x1 >>> (4 &&& 31)), .int r4]) C hM hS (tL_most l G M r2 r8 e7) (uL_57 _ (Nat.le_of_ble_eq_true rfl) (Nat.le_of_ble_eq_true rfl)) hl.1 rfl rfl (Nat.le_of_ble_eq_true rfl) ⟨Nat.zero_le _, Nat.zero_le _⟩ dL_sets_30) (fun H locs hM hS => ?_)
      have hM : mm_P G kR 731 M H := hM
      refine lv_iload_n hx hb dL_sets_33 rfl (lv_at hl 0 rfl) ?_
      obtain ⟨r10, e9, heq⟩ := bn_of heq
      refine mm_ki hS (mm_runS (rest := [.int r8, .int (x1 >>> (4 &&& 31)), .int r4]) C hM hS (tL_least l G M r2 r10 e9) (uL_54 _ (Nat.le_of_ble_eq_true rfl) (Nat.le_of_ble_eq_true rfl)) hl.1 rfl rfl (Nat.le_of_ble_eq_true rfl) ⟨Nat.zero_le _, Nat.zero_le _⟩ dL_sets_34) (fun H locs hM hS => ?_)
      have hM : mm_P G kR 731 M H := hM
      refine lv_isub hx hb dL_sets_37 ?_
      refine lv_iconst (v := 1) hx hb dL_sets_38 (by decide) ?_
      refine lv_iadd hx hb dL_sets_39 ?_
      exact tL_sets_40 C x1 _ _ _ _ _ _ _ _ hM hS (lv_sub hl [1, 0] rfl) heq
    · have heq := if_t c6 heq
      exact tL_sets_24 C x1 _ _ _ _ _ _ _ hM hS (lv_sub hl [1, 0] rfl) heq

set_option maxRecDepth 100000 in
set_option maxHeartbeats 4000000 in
theorem tL_number_19 (C : mm_C G p s m args meth c RL cL_number 2 none) (x1 : Int32) {M9 : mm_M} : ∀ (M : mm_M) (H : Heap) (locs : List Loc) (ls : Array Slot), mm_P G kR 731 M H → va_S (mm_A G) s.heap H locs → lv_has ls 2 [(0, .ref (mm_lo G + 0)), (1, .int x1)] → fL_number_19 x1 M = some M9 → W p l e rmL_number s m args below meth c H locs 0 0 (MQ below (mm_Qv G (kR, 731, M9)) args s 0 0 (mm_A G)) (F0 m 19 ls []) := by
  obtain ⟨hx, hb, -, -, -, -, -, -, hZ, -⟩ := id C
  intro M H locs ls hM hS hl heq
  rw [fL_number_19] at heq
  refine lv_aload_n hx hb dL_number_19 rfl (lv_at hl 0 rfl) ?_
  refine lv_bipush (v := 48) hx hb dL_number_20 (by decide) ?_
  refine lv_iload_n hx hb dL_number_22 rfl (lv_at hl 1 rfl) ?_
  refine lv_bipush (v := 10) hx hb dL_number_23 (by decide) ?_
  refine lv_irem hx hb dL_number_25 (by decide) ?_
  refine lv_iadd hx hb dL_number_26 ?_
  refine lv_i2l hx hb dL_number_27 rfl ?_
  obtain ⟨r2, M3, e1, heq⟩ := bn2_of heq
  refine mm_ki hS (mm_runV (o := 0) (rest := []) C hM hS (tX6_put l G M ((48 + (x1 - x1 / 10 * 10)).toInt64) r2 M3 e1) (uL_103 _ (Nat.le_of_ble_eq_true rfl) (Nat.le_of_ble_eq_true rfl)) (mm_recv C hM (kl (rfl : kT 0 = (5, 0))) (ci := 5) rfl (mm_e5 (rfl : kT 0 = (5, 0)))) hl.1 rfl rfl (Nat.le_of_ble_eq_true rfl) ⟨Nat.zero_le _, Nat.zero_le _⟩ dL_number_28) (fun H locs hM hS => ?_)
  have hM : mm_P G kR 731 M3 H := hM
  refine lv_pop hx hb dL_number_31 rfl ?_
  cases heq
  exact mm_vret C hM hS dL_number_32

set_option maxRecDepth 100000 in
set_option maxHeartbeats 4000000 in
theorem tL_number (l : Launch) (G : mm_G) (M : mm_M) (x1 : Int32) (M9 : mm_M) (heq : fL_number M x1 = some M9) : Met l yL_number (mm_ws yL_number cL_number 2 none) rmL_number (va_Pc [.ref (mm_lo G + 0), .int x1] (mm_B G (kR, 731, M))) (mm_Qv G (kR, 731, M9)) 0 0 (mm_A G) := by
  refine mm_met (cc := cL_number) (nL := 2) (ret := none) plRL (Nat.le_of_ble_eq_true rfl) ?_
  intro p e s m below meth c ls hin C hM hS hl
  have C : mm_C G p s m _ meth c RL cL_number 2 none := C
  have hM : mm_P G kR 731 M s.heap := hM
  have hl : lv_has ls 2 [(0, .ref (mm_lo G + 0)), (1, .int x1)] := hl
  obtain ⟨hx, hb, -, -, -, -, -, -, hZ, -⟩ := id C
  rw [fL_number] at heq
  refine lv_iload_n hx hb dL_number_0 rfl (lv_at hl 1 rfl) ?_
  refine lv_bipush (v := 9) hx hb dL_number_1 (by decide) ?_
  refine lv_icmp_le (tgt := 19) hx hb dL_number_3 (by decide) (fun c1 => ?_) (fun c1 => ?_)
  · have heq := if_t c1 heq
    exact tL_number_19 C x1 _ _ _ _ hM hS (lv_sub hl [0, 1] rfl) heq
  · have heq := if_f c1 heq
    refine lv_aload_n hx hb dL_number_6 rfl (lv_at hl 0 rfl) ?_
    refine lv_bipush (v := 48) hx hb dL_number_7 (by decide) ?_
    refine lv_iload_n hx hb dL_number_9 rfl (lv_at hl 1 rfl) ?_
    refine lv_bipush (v := 10) hx hb dL_number_10 (by decide) ?_
    refine lv_idiv hx hb dL_number_12 (by decide) ?_
    refine lv_iadd hx hb dL_number_13 ?_
    refine lv_i2l hx hb dL_number_14 rfl ?_
    obtain ⟨r3, M4, e2, heq⟩ := bn2_of heq
    refine mm_ki hS (mm_runV (o := 0) (rest := []) C hM hS (tX6_put l G M ((48 + (x1 / 10)).toInt64) r3 M4 e2) (uL_103 _ (Nat.le_of_ble_eq_true rfl) (Nat.le_of_ble_eq_true rfl)) (mm_recv C hM (kl (rfl : kT 0 = (5, 0))) (ci := 5) rfl (mm_e5 (rfl : kT 0 = (5, 0)))) hl.1 rfl rfl (Nat.le_of_ble_eq_true rfl) ⟨Nat.zero_le _, Nat.zero_le _⟩ dL_number_15) (fun H locs hM hS => ?_)
    have hM : mm_P G kR 731 M4 H := hM
    refine lv_pop hx hb dL_number_18 rfl ?_
    exact tL_number_19 C x1 _ _ _ _ hM hS (lv_sub hl [0, 1] rfl) heq

set_option maxRecDepth 100000 in
set_option maxHeartbeats 4000000 in
theorem tL_one_99 (C : mm_C G p s m args meth c RL cL_one 4 (some .int)) {b L : Nat} {xs : Nat → Int32} (hX : va_X b L xs s s.heap) (hbA : ¬ mm_A G b) (hbl : b < s.heap.size) (x2 : Int32) {r : Int32} {M9 : mm_M} : ∀ (M : mm_M) (t1 : Int32) (t2 : Int32) (t3 : Int32) (t4 : Int32) (H : Heap) (locs : List Loc) (ls : Array Slot), mm_P G kR 731 M H → va_S (mm_A G) s.heap H locs → lv_has ls 4 [] → fL_one_99 xs L x2 M t1 t2 t3 t4 = some (r, M9) → W p l e rmL_one s m args below meth c H locs 0 0 (MQ below (mm_Qi G r (kR, 731, M9)) args s 0 0 (mm_A G)) (F0 m 99 ls [.int t4, .int t3, .int t2, .int t1, .ref (mm_lo G + 0)]) := by
  obtain ⟨hx, hb, -, -, -, -, -, -, hZ, -⟩ := id C
  intro M t1 t2 t3 t4 H locs ls hM hS hl heq
  rw [fL_one_99] at heq
  obtain ⟨r2, M3, e1, heq⟩ := bn2_of heq
  refine mm_ki hS (mm_runV (o := 0) (rest := []) C hM hS (tX6_wish l G M t1 t2 t3 t4 r2 M3 e1) (uL_69 _ (Nat.le_of_ble_eq_true rfl) (Nat.le_of_ble_eq_true rfl)) (mm_recv C hM (kl (rfl : kT 0 = (5, 0))) (ci := 5) rfl (mm_e5 (rfl : kT 0 = (5, 0)))) hl.1 rfl rfl (Nat.le_of_ble_eq_true rfl) ⟨Nat.zero_le _, Nat.zero_le _⟩ dL_one_99) (fun H locs hM hS => ?_)
  have hM : mm_P G kR 731 M3 H := hM
  cases heq
  exact mm_iret C hM hS dL_one_102

set_option maxRecDepth 100000 in
set_option maxHeartbeats 4000000 in
theorem tL_one_75 (C : mm_C G p s m args meth c RL cL_one 4 (some .int)) {b L : Nat} {xs : Nat → Int32} (hX : va_X b L xs s s.heap) (hbA : ¬ mm_A G b) (hbl : b < s.heap.size) (x2 : Int32) {r : Int32} {M9 : mm_M} : ∀ (M : mm_M) (v3 : Int32) (t1 : Int32) (t2 : Int32) (t3 : Int32) (H : Heap) (locs : List Loc) (ls : Array Slot), mm_P G kR 731 M H → va_S (mm_A G) s.heap H locs → lv_has ls 4 [(1, .ref b), (2, .int x2), (3, .int v3)] → fL_one_75 xs L x2 M v3 t1 t2 t3 = some (r, M9) → W p l e rmL_one s m args below meth c H locs 0 0 (MQ below (mm_Qi G r (kR, 731, M9)) args s 0 0 (mm_A G)) (F0 m 75 ls [.int t3, .int t2, .int t1, .ref (mm_lo G + 0)]) := by
  obtain ⟨hx, hb, -, -, -, -, -, -, hZ, -⟩ := id C
  intro M v3 t1 t2 t3 H locs ls hM hS hl heq
  rw [fL_one_75] at heq
  refine lv_iload_n hx hb dL_one_75 rfl (lv_at hl 2 rfl) ?_
  refine lv_iconst (v := 2) hx hb dL_one_76 (by decide) ?_
  refine lv_icmp_le (tgt := 97) hx hb dL_one_77 (by decide) (fun c1 => ?_) (fun c1 => ?_)
  · have heq := if_t c1 heq
    refine lv_bipush (v := (-6)) hx hb dL_one_97 (by decide) ?_
    exact tL_one_99 C hX hbA hbl x2 _ _ _ _ _ _ _ _ hM hS (lv_sub hl [] rfl) heq
  · have heq := if_f c1 heq
    refine lv_aload_n hx hb dL_one_80 rfl (lv_at hl 0 rfl) ?_
    refine lv_iload_n hx hb dL_one_81 rfl (lv_at hl 1 rfl) ?_
    refine lv_iconst (v := 2) hx hb dL_one_82 (by decide) ?_
    refine lv_iadd hx hb dL_one_83 ?_
    obtain ⟨g2, heq⟩ := gd_of heq
    refine va_sld hx hb hX hbl hbA hS (vp_in_of2 g2) dL_one_84 ?_
    refine lv_aload_n hx hb dL_one_85 rfl (lv_at hl 0 rfl) ?_
    refine lv_iload_n hx hb dL_one_86 rfl (lv_at hl 1 rfl) ?_
    refine lv_iconst (v := 3) hx hb dL_one_87 (by decide) ?_
    refine lv_iadd hx hb dL_one_88 ?_
    obtain ⟨g3, heq⟩ := gd_of heq
    refine va_sld hx hb hX hbl hbA hS (vp_in_of2 g3) dL_one_89 ?_
    refine lv_iadd hx hb dL_one_90 ?_
    refine lv_bipush (v := 10) hx hb dL_one_91 (by decide) ?_
    refine lv_irem hx hb dL_one_93 (by decide) ?_
    refine lv_goto (tgt := 99) hx hb dL_one_94 (by decide) ?_
    exact tL_one_99 C hX hbA hbl x2 _ _ _ _ _ _ _ _ hM hS (lv_sub hl [] rfl) heq

set_option maxRecDepth 100000 in
set_option maxHeartbeats 4000000 in
theorem tL_one_60 (C : mm_C G p s m args meth c RL cL_one 4 (some .int)) {b L : Nat} {xs : Nat → Int32} (hX : va_X b L xs s s.heap) (hbA : ¬ mm_A G b) (hbl : b < s.heap.size) (x2 : Int32) {r : Int32} {M9 : mm_M} : ∀ (M : mm_M) (v3 : Int32) (t1 : Int32) (t2 : Int32) (H : Heap) (locs : List Loc) (ls : Array Slot), mm_P G kR 731 M H → va_S (mm_A G) s.heap H locs → lv_has ls 4 [(1, .ref b), (2, .int x2), (3, .int v3)] → fL_one_60 xs L x2 M v3 t1 t2 = some (r, M9) → W p l e rmL_one s m args below meth c H locs 0 0 (MQ below (mm_Qi G r (kR, 731, M9)) args s 0 0 (mm_A G)) (F0 m 60 ls [.int t2, .int t1, .ref (mm_lo G + 0)]) := by
  obtain ⟨hx, hb, -, -, -, -, -, -, hZ, -⟩ := id C
  intro M v3 t1 t2 H locs ls hM hS hl heq
  rw [fL_one_60] at heq
  refine lv_iload_n hx hb dL_one_60 rfl (lv_at hl 2 rfl) ?_
  refine lv_iconst (v := 1) hx hb dL_one_61 (by decide) ?_
  refine lv_icmp_le (tgt := 73) hx hb dL_one_62 (by decide) (fun c1 => ?_) (fun c1 => ?_)
  · have heq := if_t c1 heq
    refine lv_bipush (v := (-6)) hx hb dL_one_73 (by decide) ?_
    exact tL_one_75 C hX hbA hbl x2 _ _ _ _ _ _ _ _ hM hS (lv_sub hl [0, 1, 2] rfl) heq
  · have heq := if_f c1 heq
    refine lv_aload_n hx hb dL_one_65 rfl (lv_at hl 0 rfl) ?_
    refine lv_iload_n hx hb dL_one_66 rfl (lv_at hl 1 rfl) ?_
    refine lv_iconst (v := 3) hx hb dL_one_67 (by decide) ?_
    refine lv_iadd hx hb dL_one_68 ?_
    obtain ⟨g2, heq⟩ := gd_of heq
    refine va_sld hx hb hX hbl hbA hS (vp_in_of2 g2) dL_one_69 ?_
    refine lv_goto (tgt := 75) hx hb dL_one_70 (by decide) ?_
    exact tL_one_75 C hX hbA hbl x2 _ _ _ _ _ _ _ _ hM hS (lv_sub hl [0, 1, 2] rfl) heq

set_option maxRecDepth 100000 in
set_option maxHeartbeats 4000000 in
theorem tL_one (l : Launch) (G : mm_G) (M : mm_M) (b L : Nat) (xs : Nat → Int32) (x2 : Int32) (r : Int32) (M9 : mm_M) (heq : fL_one M xs L x2 = some (r, M9)) : Met l yL_one (mm_ws yL_one cL_one 4 (some .int)) rmL_one (va_Pc [.ref (mm_lo G + 0), .ref b, .int x2] (mm_Bx G b L xs (kR, 731, M))) (mm_Qi G r (kR, 731, M9)) 0 0 (mm_A G) := by
  refine mm_metx (cc := cL_one) (nL := 4) (ret := (some .int)) plRL (Nat.le_of_ble_eq_true rfl) ?_
  intro p e s m below meth c ls hX hbA hbl C hM hS hl
  have C : mm_C G p s m _ meth c RL cL_one 4 (some .int) := C
  have hM : mm_P G kR 731 M s.heap := hM
  have hl : lv_has ls 4 [(0, .ref (mm_lo G + 0)), (1, .ref b), (2, .int x2)] := hl
  obtain ⟨hx, hb, -, -, -, -, -, -, hZ, -⟩ := id C
  rw [fL_one] at heq
  refine lv_aload_n hx hb dL_one_0 rfl (lv_at hl 1 rfl) ?_
  refine lv_iload_n hx hb dL_one_1 rfl (lv_at hl 2 rfl) ?_
  refine lv_iconst (v := 4) hx hb dL_one_2 (by decide) ?_
  refine lv_iadd hx hb dL_one_3 ?_
  obtain ⟨g1, heq⟩ := gd_of heq
  refine va_sld hx hb hX hbl hbA hS (vp_in_of2 g1) dL_one_4 ?_
  refine lv_topi (fun y2 ey2 => ?_)
  have heq := lt_to ey2 heq
  refine lv_istore_n (lv' := [(3, .int y2), (0, .ref (mm_lo G + 0)), (1, .ref b), (2, .int x2)]) hx hb dL_one_5 rfl hl (by decide) rfl (fun ls hl => ?_)
  refine lv_aload_n hx hb dL_one_6 rfl (lv_at hl 2 rfl) ?_
  refine lv_iload_n hx hb dL_one_7 rfl (lv_at hl 3 rfl) ?_
  obtain ⟨g3, heq⟩ := gd_of heq
  refine va_sld hx hb hX hbl hbA hS (vp_in_of2 g3) dL_one_8 ?_
  by_cases c4 : (xs x2.toNatClampNeg) = 0
  · have heq := if_t c4 heq
    refine lv_tableIn (tgt := 40) hx hb dL_one_9 (by rw [c4]; decide) (by rw [c4]; decide) (by rw [c4]; rfl) (by decide) ?_
    refine lv_aload_n hx hb dL_one_40 rfl (lv_at hl 1 rfl) ?_
    refine lv_aload_n hx hb dL_one_41 rfl (lv_at hl 2 rfl) ?_
    refine lv_iload_n hx hb dL_one_42 rfl (lv_at hl 3 rfl) ?_
    refine lv_iconst (v := 1) hx hb dL_one_43 (by decide) ?_
    refine lv_iadd hx hb dL_one_44 ?_
    obtain ⟨g5, heq⟩ := gd_of heq
    refine va_sld hx hb hX hbl hbA hS (vp_in_of2 g5) dL_one_45 ?_
    refine lv_iload_n hx hb dL_one_46 rfl (lv_at hl 0 rfl) ?_
    refine lv_if_le (tgt := 58) hx hb dL_one_47 (by decide) (fun c6 => ?_) (fun c6 => ?_)
    · have heq := if_t c6 heq
      refine lv_bipush (v := (-6)) hx hb dL_one_58 (by decide) ?_
      exact tL_one_60 C hX hbA hbl x2 _ _ _ _ _ _ _ hM hS (lv_sub hl [2, 3, 0] rfl) heq
    · have heq := if_f c6 heq
      refine lv_aload_n hx hb dL_one_50 rfl (lv_at hl 2 rfl) ?_
      refine lv_iload_n hx hb dL_one_51 rfl (lv_at hl 3 rfl) ?_
      refine lv_iconst (v := 2) hx hb dL_one_52 (by decide) ?_
      refine lv_iadd hx hb dL_one_53 ?_
      obtain ⟨g7, heq⟩ := gd_of heq
      refine va_sld hx hb hX hbl hbA hS (vp_in_of2 g7) dL_one_54 ?_
      refine lv_goto (tgt := 60) hx hb dL_one_55 (by decide) ?_
      exact tL_one_60 C hX hbA hbl x2 _ _ _ _ _ _ _ hM hS (lv_sub hl [2, 3, 0] rfl) heq
  · have heq := if_f c4 heq
    by_cases c8 : (xs x2.toNatClampNeg) = 1
    · have heq := if_t c8 heq
      refine lv_tableIn (tgt := 103) hx hb dL_one_9 (by rw [c8]; decide) (by rw [c8]; decide) (by rw [c8]; rfl) (by decide) ?_
      refine lv_aload_n hx hb dL_one_103 rfl (lv_at hl 1 rfl) ?_
      refine lv_aload_n hx hb dL_one_104 rfl (lv_at hl 2 rfl) ?_
      refine lv_iload_n hx hb dL_one_105 rfl (lv_at hl 3 rfl) ?_
      refine lv_iconst (v := 1) hx hb dL_one_106 (by decide) ?_
      refine lv_iadd hx hb dL_one_107 ?_
      obtain ⟨g9, heq⟩ := gd_of heq
      refine va_sld hx hb hX hbl hbA hS (vp_in_of2 g9) dL_one_108 ?_
      refine lv_iconst (v := 1) hx hb dL_one_109 (by decide) ?_
      refine lv_aload_n hx hb dL_one_110 rfl (lv_at hl 2 rfl) ?_
      refine lv_iload_n hx hb dL_one_111 rfl (lv_at hl 3 rfl) ?_
      refine lv_iconst (v := 2) hx hb dL_one_112 (by decide) ?_
      refine lv_iadd hx hb dL_one_113 ?_
      obtain ⟨g10, heq⟩ := gd_of heq
      refine va_sld hx hb hX hbl hbA hS (vp_in_of2 g10) dL_one_114 ?_
      refine lv_iadd hx hb dL_one_115 ?_
      obtain ⟨r12, M13, e11, heq⟩ := bn2_of heq
      refine mm_ki hS (mm_runV (o := 0) (rest := []) C hM hS (tX6_fine l G M (xs (x2 + 1).toNatClampNeg) (1 + (xs (x2 + 2).toNatClampNeg)) r12 M13 e11) (uL_77 _ (Nat.le_of_ble_eq_true rfl) (Nat.le_of_ble_eq_true rfl)) (mm_recv C hM (kl (rfl : kT 0 = (5, 0))) (ci := 5) rfl (mm_e5 (rfl : kT 0 = (5, 0)))) hl.1 rfl rfl (Nat.le_of_ble_eq_true rfl) ⟨Nat.zero_le _, Nat.zero_le _⟩ dL_one_116) (fun H locs hM hS => ?_)
      have hM : mm_P G kR 731 M13 H := hM
      cases heq
      exact mm_iret C hM hS dL_one_119
    · have heq := if_f c8 heq
      by_cases c14 : (xs x2.toNatClampNeg) = 2
      · have heq := if_t c14 heq
        refine lv_tableIn (tgt := 120) hx hb dL_one_9 (by rw [c14]; decide) (by rw [c14]; decide) (by rw [c14]; rfl) (by decide) ?_
        refine lv_aload_n hx hb dL_one_120 rfl (lv_at hl 1 rfl) ?_
        refine lv_aload_n hx hb dL_one_121 rfl (lv_at hl 2 rfl) ?_
        refine lv_iload_n hx hb dL_one_122 rfl (lv_at hl 3 rfl) ?_
        refine lv_iconst (v := 1) hx hb dL_one_123 (by decide) ?_
        refine lv_iadd hx hb dL_one_124 ?_
        obtain ⟨g15, heq⟩ := gd_of heq
        refine va_sld hx hb hX hbl hbA hS (vp_in_of2 g15) dL_one_125 ?_
        obtain ⟨r17, M18, e16, heq⟩ := bn2_of heq
        refine mm_ki hS (mm_runV (o := 0) (rest := []) C hM hS (tX6_check l G M (xs (x2 + 1).toNatClampNeg) r17 M18 e16) (uL_80 _ (Nat.le_of_ble_eq_true rfl) (Nat.le_of_ble_eq_true rfl)) (mm_recv C hM (kl (rfl : kT 0 = (5, 0))) (ci := 5) rfl (mm_e5 (rfl : kT 0 = (5, 0)))) hl.1 rfl rfl (Nat.le_of_ble_eq_true rfl) ⟨Nat.zero_le _, Nat.zero_le _⟩ dL_one_126) (fun H locs hM hS => ?_)
        have hM : mm_P G kR 731 M18 H := hM
        cases heq
        exact mm_iret C hM hS dL_one_129
      · have heq := if_f c14 heq
        by_cases c19 : (xs x2.toNatClampNeg) = 3
        · have heq := if_t c19 heq
          refine lv_tableIn (tgt := 130) hx hb dL_one_9 (by rw [c19]; decide) (by rw [c19]; decide) (by rw [c19]; rfl) (by decide) ?_
          refine lv_aload_n hx hb dL_one_130 rfl (lv_at hl 1 rfl) ?_
          refine lv_aload_n hx hb dL_one_131 rfl (lv_at hl 2 rfl) ?_
          refine lv_iload_n hx hb dL_one_132 rfl (lv_at hl 3 rfl) ?_
          refine lv_iconst (v := 1) hx hb dL_one_133 (by decide) ?_
          refine lv_iadd hx hb dL_one_134 ?_
          obtain ⟨g20, heq⟩ := gd_of heq
          refine va_sld hx hb hX hbl hbA hS (vp_in_of2 g20) dL_one_135 ?_
          refine lv_aload_n hx hb dL_one_136 rfl (lv_at hl 2 rfl) ?_
          refine lv_iload_n hx hb dL_one_137 rfl (lv_at hl 3 rfl) ?_
          refine lv_iconst (v := 3) hx hb dL_one_138 (by decide) ?_
          refine lv_iadd hx hb dL_one_139 ?_
          obtain ⟨g21, heq⟩ := gd_of heq
          refine va_sld hx hb hX hbl hbA hS (vp_in_of2 g21) dL_one_140 ?_
          obtain ⟨r23, M24, e22, heq⟩ := bn2_of heq
          refine mm_ki hS (mm_runV (o := 0) (rest := []) C hM hS (tX6_swap l G M (xs (x2 + 1).toNatClampNeg) (xs (x2 + 3).toNatClampNeg) r23 M24 e22) (uL_83 _ (Nat.le_of_ble_eq_true rfl) (Nat.le_of_ble_eq_true rfl)) (mm_recv C hM (kl (rfl : kT 0 = (5, 0))) (ci := 5) rfl (mm_e5 (rfl : kT 0 = (5, 0)))) hl.1 rfl rfl (Nat.le_of_ble_eq_true rfl) ⟨Nat.zero_le _, Nat.zero_le _⟩ dL_one_141) (fun H locs hM hS => ?_)
          have hM : mm_P G kR 731 M24 H := hM
          cases heq
          exact mm_iret C hM hS dL_one_144
        · have heq := if_f c19 heq
          refine lv_tableOut (tgt := 145) hx hb dL_one_9 (by have nc4 := lv_neT (k := 0) (a := 0) c4 rfl; have nc8 := lv_neT (k := 1) (a := 1) c8 rfl; have nc14 := lv_neT (k := 2) (a := 2) c14 rfl; have nc19 := lv_neT (k := 3) (a := 3) c19 rfl; omega) (by decide) ?_
          refine lv_aload_n hx hb dL_one_145 rfl (lv_at hl 1 rfl) ?_
          refine lv_aload_n hx hb dL_one_146 rfl (lv_at hl 2 rfl) ?_
          refine lv_iload_n hx hb dL_one_147 rfl (lv_at hl 3 rfl) ?_
          refine lv_iconst (v := 2) hx hb dL_one_148 (by decide) ?_
          refine lv_iadd hx hb dL_one_149 ?_
          obtain ⟨g25, heq⟩ := gd_of heq
          refine va_sld hx hb hX hbl hbA hS (vp_in_of2 g25) dL_one_150 ?_
          obtain ⟨r27, M28, e26, heq⟩ := bn2_of heq
          refine mm_ki hS (mm_runV (o := 0) (rest := []) C hM hS (tX6_days l G M (xs (x2 + 2).toNatClampNeg) r27 M28 e26) (uL_96 _ (Nat.le_of_ble_eq_true rfl) (Nat.le_of_ble_eq_true rfl)) (mm_recv C hM (kl (rfl : kT 0 = (5, 0))) (ci := 5) rfl (mm_e5 (rfl : kT 0 = (5, 0)))) hl.1 rfl rfl (Nat.le_of_ble_eq_true rfl) ⟨Nat.zero_le _, Nat.zero_le _⟩ dL_one_151) (fun H locs hM hS => ?_)
          have hM : mm_P G kR 731 M28 H := hM
          cases heq
          exact mm_iret C hM hS dL_one_154

set_option maxRecDepth 100000 in
set_option maxHeartbeats 4000000 in
theorem tL_lucky (l : Launch) (G : mm_G) (M : mm_M) (x1 : Int32) (x2 : Int32) (x3 : Int32) (r : Bool) (M9 : mm_M) (heq : fL_lucky M x1 x2 x3 = some (r, M9)) : Met l yL_lucky (mm_ws yL_lucky cL_lucky 4 (some .boolean)) rmL_lucky (va_Pc [.ref (mm_lo G + 0), .int x1, .int x2, .int x3] (mm_B G (kR, 731, M))) (mm_Qi G (b2i r) (kR, 731, M9)) 0 0 (mm_A G) := by
  refine mm_met (cc := cL_lucky) (nL := 4) (ret := (some .boolean)) plRL (Nat.le_of_ble_eq_true rfl) ?_
  intro p e s m below meth c ls hin C hM hS hl
  have C : mm_C G p s m _ meth c RL cL_lucky 4 (some .boolean) := C
  have hM : mm_P G kR 731 M s.heap := hM
  have hl : lv_has ls 4 [(0, .ref (mm_lo G + 0)), (1, .int x1), (2, .int x2), (3, .int x3)] := hl
  obtain ⟨hx, hb, -, -, -, -, -, -, hZ, -⟩ := id C
  rw [fL_lucky] at heq
  refine lv_aload_n hx hb dL_lucky_0 rfl (lv_at hl 0 rfl) ?_
  refine lv_iload_n hx hb dL_lucky_1 rfl (lv_at hl 3 rfl) ?_
  obtain ⟨r2, M3, e1, heq⟩ := bn2_of heq
  refine mm_ki hS (mm_runV (o := 0) (rest := []) C hM hS (tX6_seed l G M x3 r2 M3 e1) (uL_27 _ (Nat.le_of_ble_eq_true rfl) (Nat.le_of_ble_eq_true rfl)) (mm_recv C hM (kl (rfl : kT 0 = (5, 0))) (ci := 5) rfl (mm_e5 (rfl : kT 0 = (5, 0)))) hl.1 rfl rfl (Nat.le_of_ble_eq_true rfl) ⟨Nat.zero_le _, Nat.zero_le _⟩ dL_lucky_2) (fun H locs hM hS => ?_)
  have hM : mm_P G kR 731 M3 H := hM
  refine lv_pop hx hb dL_lucky_5 rfl ?_
  refine lv_aload_n hx hb dL_lucky_6 rfl (lv_at hl 0 rfl) ?_
  refine lv_iconst (v := 1) hx hb dL_lucky_7 (by decide) ?_
  obtain ⟨r5, M6, e4, heq⟩ := bn2_of heq
  refine mm_ki hS (mm_runV (o := 0) (rest := []) C hM hS (tX6_days l G M3 1 r5 M6 e4) (uL_96 _ (Nat.le_of_ble_eq_true rfl) (Nat.le_of_ble_eq_true rfl)) (mm_recv C hM (kl (rfl : kT 0 = (5, 0))) (ci := 5) rfl (mm_e5 (rfl : kT 0 = (5, 0)))) hl.1 rfl rfl (Nat.le_of_ble_eq_true rfl) ⟨Nat.zero_le _, Nat.zero_le _⟩ dL_lucky_8) (fun H locs hM hS => ?_)
  have hM : mm_P G kR 731 M6 H := hM
  refine lv_pop hx hb dL_lucky_11 rfl ?_
  refine lv_aload_n hx hb dL_lucky_12 rfl (lv_at hl 0 rfl) ?_
  refine lv_iload_n hx hb dL_lucky_13 rfl (lv_at hl 1 rfl) ?_
  refine lv_bipush (v := 12) hx hb dL_lucky_14 (by decide) ?_
  obtain ⟨r8, e7, heq⟩ := bn_of heq
  refine mm_ki hS (mm_runV (o := 0) (rest := []) C hM hS (tX6_ofCart l G M6 x1 12 r8 e7) (uL_66 _ (Nat.le_of_ble_eq_true rfl) (Nat.le_of_ble_eq_true rfl)) (mm_recv C hM (kl (rfl : kT 0 = (5, 0))) (ci := 5) rfl (mm_e5 (rfl : kT 0 = (5, 0)))) hl.1 rfl rfl (Nat.le_of_ble_eq_true rfl) ⟨Nat.zero_le _, Nat.zero_le _⟩ dL_lucky_16) (fun H locs hM hS => ?_)
  have hM : mm_P G kR 731 M6 H := hM
  refine lv_if_lt (tgt := 41) hx hb dL_lucky_19 (by decide) (fun c9 => ?_) (fun c9 => ?_)
  · have heq := if_t c9 heq
    refine lv_iconst (v := 0) hx hb dL_lucky_41 (by decide) ?_
    cases heq
    exact mm_zret C hM hS dL_lucky_42
  · have heq := if_f c9 heq
    refine lv_iload_n hx hb dL_lucky_22 rfl (lv_at hl 2 rfl) ?_
    refine lv_if_lt (tgt := 37) hx hb dL_lucky_23 (by decide) (fun c10 => ?_) (fun c10 => ?_)
    · have heq := if_t c10 heq
      refine lv_iconst (v := 1) hx hb dL_lucky_37 (by decide) ?_
      refine lv_goto (tgt := 42) hx hb dL_lucky_38 (by decide) ?_
      cases heq
      exact mm_zret C hM hS dL_lucky_42
    · have heq := if_f c10 heq
      refine lv_aload_n hx hb dL_lucky_26 rfl (lv_at hl 0 rfl) ?_
      refine lv_iload_n hx hb dL_lucky_27 rfl (lv_at hl 1 rfl) ?_
      refine lv_bipush (v := 12) hx hb dL_lucky_28 (by decide) ?_
      obtain ⟨r12, e11, heq⟩ := bn_of heq
      refine mm_ki hS (mm_runV (o := 0) (rest := []) C hM hS (tX6_ofCart l G M6 x1 12 r12 e11) (uL_66 _ (Nat.le_of_ble_eq_true rfl) (Nat.le_of_ble_eq_true rfl)) (mm_recv C hM (kl (rfl : kT 0 = (5, 0))) (ci := 5) rfl (mm_e5 (rfl : kT 0 = (5, 0)))) hl.1 rfl rfl (Nat.le_of_ble_eq_true rfl) ⟨Nat.zero_le _, Nat.zero_le _⟩ dL_lucky_30) (fun H locs hM hS => ?_)
      have hM : mm_P G kR 731 M6 H := hM
      refine lv_iload_n hx hb dL_lucky_33 rfl (lv_at hl 2 rfl) ?_
      refine lv_icmp_ne (tgt := 41) hx hb dL_lucky_34 (by decide) (fun c13 => ?_) (fun c13 => ?_)
      · have heq := if_f c13 heq
        refine lv_iconst (v := 0) hx hb dL_lucky_41 (by decide) ?_
        cases heq
        exact mm_zret C hM hS dL_lucky_42
      · have heq := if_t c13 heq
        refine lv_iconst (v := 1) hx hb dL_lucky_37 (by decide) ?_
        refine lv_goto (tgt := 42) hx hb dL_lucky_38 (by decide) ?_
        cases heq
        exact mm_zret C hM hS dL_lucky_42

set_option maxRecDepth 100000 in
set_option maxHeartbeats 4000000 in
theorem tL_told_122 (C : mm_C G p s m args meth c RL cL_told 4 (some .int))  (M : mm_M) {r : Int32} {k55 : Int32 → Int32 → Option (Int32)} (hk55 : ∀ (v1 : Int32) (v2 : Int32) (H : Heap) (locs : List Loc) (ls : Array Slot), mm_P G kR 731 M H → va_S (mm_A G) s.heap H locs → lv_has ls 4 [(0, .ref (mm_lo G + 0)), (1, .int v1), (2, .int v2)] → k55 v1 v2 = some r → W p l e rmL_told s m args below meth c H locs 0 0 (MQ below (mm_Qi G r (kR, 731, M)) args s 0 0 (mm_A G)) (F0 m 55 ls [])) : ∀ n : Nat, ∀ (v1 : Int32) (v2 : Int32) (v3 : Int32) (H : Heap) (locs : List Loc) (ls : Array Slot), mm_P G kR 731 M H → va_S (mm_A G) s.heap H locs → lv_has ls 4 [(0, .ref (mm_lo G + 0)), (1, .int v1), (2, .int v2), (3, .int v3)] → fL_told_122 M k55 n v1 v2 v3 = some r → W p l e rmL_told s m args below meth c H locs 0 0 (MQ below (mm_Qi G r (kR, 731, M)) args s 0 0 (mm_A G)) (F0 m 122 ls []) := by
  obtain ⟨hx, hb, -, -, -, -, -, -, hZ, -⟩ := id C
  intro n
  induction n with
  | zero =>
    intro v1 v2 v3 H locs ls hM hS hl heq
    rw [fL_told_122] at heq
    cases heq
  | succ n ih =>
    intro v1 v2 v3 H locs ls hM hS hl heq
    rw [fL_told_122] at heq
    refine lv_iload_n hx hb dL_told_122 rfl (lv_at hl 3 rfl) ?_
    refine lv_bipush (v := 12) hx hb dL_told_123 (by decide) ?_
    refine lv_icmp_ge (tgt := 152) hx hb dL_told_125 (by decide) (fun c1 => ?_) (fun c1 => ?_)
    · have heq := if_t c1 heq
      obtain ⟨y2, ey2⟩ : ∃ y : Int32, y = (v2 + 1) := ⟨_, rfl⟩
      have heq := lt_to ey2 heq
      refine lv_iinc (v := y2) (lv' := [(2, .int y2), (0, .ref (mm_lo G + 0)), (1, .int v1), (3, .int v3)]) hx hb dL_told_152 hl (k := 2) rfl (by rw [ey2]; rfl) (by decide) rfl (fun ls hl => ?_)
      refine lv_goto (tgt := 55) hx hb dL_told_155 (by decide) ?_
      exact hk55 _ _ _ _ _ hM hS (lv_sub hl [1, 2, 0] rfl) heq
    · have heq := if_f c1 heq
      refine lv_bipush (v := 31) hx hb dL_told_128 (by decide) ?_
      refine lv_iload_n hx hb dL_told_130 rfl (lv_at hl 1 rfl) ?_
      refine lv_imul hx hb dL_told_131 ?_
      refine lv_aload_n hx hb dL_told_132 rfl (lv_at hl 0 rfl) ?_
      refine lv_iload_n hx hb dL_told_133 rfl (lv_at hl 2 rfl) ?_
      refine lv_aload_n hx hb dL_told_134 rfl (lv_at hl 0 rfl) ?_
      refine lv_iconst (v := 0) hx hb dL_told_135 (by decide) ?_
      obtain ⟨r4, e3, heq⟩ := bn_of heq
      refine mm_ki hS (mm_runV (o := 0) (rest := [.int v2, .ref (mm_lo G + 0), .int (31 * v1)]) C hM hS (tX6_count l G M 0 r4 e3) (uL_60 _ (Nat.le_of_ble_eq_true rfl) (Nat.le_of_ble_eq_true rfl)) (mm_recv C hM (kl (rfl : kT 0 = (5, 0))) (ci := 5) rfl (mm_e5 (rfl : kT 0 = (5, 0)))) hl.1 rfl rfl (Nat.le_of_ble_eq_true rfl) ⟨Nat.zero_le _, Nat.zero_le _⟩ dL_told_136) (fun H locs hM hS => ?_)
      have hM : mm_P G kR 731 M H := hM
      refine lv_iload_n hx hb dL_told_139 rfl (lv_at hl 3 rfl) ?_
      refine lv_iadd hx hb dL_told_140 ?_
      obtain ⟨r6, e5, heq⟩ := bn_of heq
      refine mm_ki hS (mm_runV (o := 0) (rest := [.int (31 * v1)]) C hM hS (tX6_pointsOn l G M v2 (r4 + v3) r6 e5) (uL_147 _ (Nat.le_of_ble_eq_true rfl) (Nat.le_of_ble_eq_true rfl)) (mm_recv C hM (kl (rfl : kT 0 = (5, 0))) (ci := 5) rfl (mm_e5 (rfl : kT 0 = (5, 0)))) hl.1 rfl rfl (Nat.le_of_ble_eq_true rfl) ⟨Nat.zero_le _, Nat.zero_le _⟩ dL_told_141) (fun H locs hM hS => ?_)
      have hM : mm_P G kR 731 M H := hM
      refine lv_iadd hx hb dL_told_144 ?_
      refine lv_topi (fun y7 ey7 => ?_)
      have heq := lt_to ey7 heq
      refine lv_istore_n (lv' := [(1, .int y7), (0, .ref (mm_lo G + 0)), (2, .int v2), (3, .int v3)]) hx hb dL_told_145 rfl hl (by decide) rfl (fun ls hl => ?_)
      obtain ⟨y8, ey8⟩ : ∃ y : Int32, y = (v3 + 2) := ⟨_, rfl⟩
      have heq := lt_to ey8 heq
      refine lv_iinc (v := y8) (lv' := [(3, .int y8), (1, .int y7), (0, .ref (mm_lo G + 0)), (2, .int v2)]) hx hb dL_told_146 hl (k := 3) rfl (by rw [ey8]; rfl) (by decide) rfl (fun ls hl => ?_)
      refine lv_goto (tgt := 122) hx hb dL_told_149 (by decide) ?_
      exact ih _ _ _ _ _ _ hM hS (lv_sub hl [2, 1, 3, 0] rfl) heq

set_option maxRecDepth 100000 in
set_option maxHeartbeats 4000000 in
theorem tL_told_92 (C : mm_C G p s m args meth c RL cL_told 4 (some .int))  (M : mm_M) {r : Int32} {k55 : Int32 → Int32 → Option (Int32)} (hk55 : ∀ (v1 : Int32) (v2 : Int32) (H : Heap) (locs : List Loc) (ls : Array Slot), mm_P G kR 731 M H → va_S (mm_A G) s.heap H locs → lv_has ls 4 [(0, .ref (mm_lo G + 0)), (1, .int v1), (2, .int v2)] → k55 v1 v2 = some r → W p l e rmL_told s m args below meth c H locs 0 0 (MQ below (mm_Qi G r (kR, 731, M)) args s 0 0 (mm_A G)) (F0 m 55 ls [])) : ∀ n : Nat, ∀ (v1 : Int32) (v2 : Int32) (v3 : Int32) (H : Heap) (locs : List Loc) (ls : Array Slot), mm_P G kR 731 M H → va_S (mm_A G) s.heap H locs → lv_has ls 4 [(0, .ref (mm_lo G + 0)), (1, .int v1), (2, .int v2), (3, .int v3)] → fL_told_92 M k55 n v1 v2 v3 = some r → W p l e rmL_told s m args below meth c H locs 0 0 (MQ below (mm_Qi G r (kR, 731, M)) args s 0 0 (mm_A G)) (F0 m 92 ls []) := by
  obtain ⟨hx, hb, -, -, -, -, -, -, hZ, -⟩ := id C
  intro n
  induction n with
  | zero =>
    intro v1 v2 v3 H locs ls hM hS hl heq
    rw [fL_told_92] at heq
    cases heq
  | succ n ih =>
    intro v1 v2 v3 H locs ls hM hS hl heq
    rw [fL_told_92] at heq
    refine lv_iload_n hx hb dL_told_92 rfl (lv_at hl 3 rfl) ?_
    refine lv_iconst (v := 5) hx hb dL_told_93 (by decide) ?_
    refine lv_icmp_ge (tgt := 120) hx hb dL_told_94 (by decide) (fun c1 => ?_) (fun c1 => ?_)
    · have heq := if_t c1 heq
      refine lv_iconst (v := 1) hx hb dL_told_120 (by decide) ?_
      refine lv_istore_n (lv' := [(3, .int 1), (0, .ref (mm_lo G + 0)), (1, .int v1), (2, .int v2)]) hx hb dL_told_121 rfl hl (by decide) rfl (fun ls hl => ?_)
      exact tL_told_122 C M hk55 FU _ _ _ _ _ _ hM hS (lv_sub hl [1, 2, 3, 0] rfl) heq
    · have heq := if_f c1 heq
      refine lv_bipush (v := 31) hx hb dL_told_97 (by decide) ?_
      refine lv_iload_n hx hb dL_told_99 rfl (lv_at hl 1 rfl) ?_
      refine lv_imul hx hb dL_told_100 ?_
      refine lv_aload_n hx hb dL_told_101 rfl (lv_at hl 0 rfl) ?_
      refine lv_iload_n hx hb dL_told_102 rfl (lv_at hl 2 rfl) ?_
      refine lv_iload_n hx hb dL_told_103 rfl (lv_at hl 3 rfl) ?_
      obtain ⟨r3, e2, heq⟩ := bn_of heq
      refine mm_kl hS (mm_runV (o := 0) (rest := [.int (31 * v1)]) C hM hS (tX6_money l G M v2 v3 r3 e2) (uL_73 _ (Nat.le_of_ble_eq_true rfl) (Nat.le_of_ble_eq_true rfl)) (mm_recv C hM (kl (rfl : kT 0 = (5, 0))) (ci := 5) rfl (mm_e5 (rfl : kT 0 = (5, 0)))) hl.1 rfl rfl (Nat.le_of_ble_eq_true rfl) ⟨Nat.zero_le _, Nat.zero_le _⟩ dL_told_104) (fun H locs hM hS => ?_)
      have hM : mm_P G kR 731 M H := hM
      refine mm_ldc2 C kL_174 dL_told_107 ?_
      refine lv_lrem hx hb dL_told_110 (by decide) ?_
      refine lv_l2i hx hb dL_told_111 rfl ?_
      refine lv_iadd hx hb dL_told_112 ?_
      refine lv_topi (fun y4 ey4 => ?_)
      have heq := lt_to ey4 heq
      refine lv_istore_n (lv' := [(1, .int y4), (0, .ref (mm_lo G + 0)), (2, .int v2), (3, .int v3)]) hx hb dL_told_113 rfl hl (by decide) rfl (fun ls hl => ?_)
      obtain ⟨y5, ey5⟩ : ∃ y : Int32, y = (v3 + 1) := ⟨_, rfl⟩
      have heq := lt_to ey5 heq
      refine lv_iinc (v := y5) (lv' := [(3, .int y5), (1, .int y4), (0, .ref (mm_lo G + 0)), (2, .int v2)]) hx hb dL_told_114 hl (k := 3) rfl (by rw [ey5]; rfl) (by decide) rfl (fun ls hl => ?_)
      refine lv_goto (tgt := 92) hx hb dL_told_117 (by decide) ?_
      exact ih _ _ _ _ _ _ hM hS (lv_sub hl [2, 1, 3, 0] rfl) heq

set_option maxRecDepth 100000 in
set_option maxHeartbeats 4000000 in
theorem tL_told_66 (C : mm_C G p s m args meth c RL cL_told 4 (some .int))  (M : mm_M) {r : Int32} {k55 : Int32 → Int32 → Option (Int32)} (hk55 : ∀ (v1 : Int32) (v2 : Int32) (H : Heap) (locs : List Loc) (ls : Array Slot), mm_P G kR 731 M H → va_S (mm_A G) s.heap H locs → lv_has ls 4 [(0, .ref (mm_lo G + 0)), (1, .int v1), (2, .int v2)] → k55 v1 v2 = some r → W p l e rmL_told s m args below meth c H locs 0 0 (MQ below (mm_Qi G r (kR, 731, M)) args s 0 0 (mm_A G)) (F0 m 55 ls [])) : ∀ n : Nat, ∀ (v1 : Int32) (v2 : Int32) (v3 : Int32) (H : Heap) (locs : List Loc) (ls : Array Slot), mm_P G kR 731 M H → va_S (mm_A G) s.heap H locs → lv_has ls 4 [(0, .ref (mm_lo G + 0)), (1, .int v1), (2, .int v2), (3, .int v3)] → fL_told_66 M k55 n v1 v2 v3 = some r → W p l e rmL_told s m args below meth c H locs 0 0 (MQ below (mm_Qi G r (kR, 731, M)) args s 0 0 (mm_A G)) (F0 m 66 ls []) := by
  obtain ⟨hx, hb, -, -, -, -, -, -, hZ, -⟩ := id C
  intro n
  induction n with
  | zero =>
    intro v1 v2 v3 H locs ls hM hS hl heq
    rw [fL_told_66] at heq
    cases heq
  | succ n ih =>
    intro v1 v2 v3 H locs ls hM hS hl heq
    rw [fL_told_66] at heq
    refine lv_iload_n hx hb dL_told_66 rfl (lv_at hl 3 rfl) ?_
    refine lv_bipush (v := 16) hx hb dL_told_67 (by decide) ?_
    refine lv_icmp_ge (tgt := 90) hx hb dL_told_69 (by decide) (fun c1 => ?_) (fun c1 => ?_)
    · have heq := if_t c1 heq
      refine lv_iconst (v := 0) hx hb dL_told_90 (by decide) ?_
      refine lv_istore_n (lv' := [(3, .int 0), (0, .ref (mm_lo G + 0)), (1, .int v1), (2, .int v2)]) hx hb dL_told_91 rfl hl (by decide) rfl (fun ls hl => ?_)
      exact tL_told_92 C M hk55 FU _ _ _ _ _ _ hM hS (lv_sub hl [1, 2, 3, 0] rfl) heq
    · have heq := if_f c1 heq
      refine lv_bipush (v := 31) hx hb dL_told_72 (by decide) ?_
      refine lv_iload_n hx hb dL_told_74 rfl (lv_at hl 1 rfl) ?_
      refine lv_imul hx hb dL_told_75 ?_
      refine lv_aload_n hx hb dL_told_76 rfl (lv_at hl 0 rfl) ?_
      refine lv_iload_n hx hb dL_told_77 rfl (lv_at hl 2 rfl) ?_
      refine lv_iload_n hx hb dL_told_78 rfl (lv_at hl 3 rfl) ?_
      obtain ⟨r3, e2, heq⟩ := bn_of heq
      refine mm_ki hS (mm_runV (o := 0) (rest := [.int (31 * v1)]) C hM hS (tX6_ofCart l G M v2 v3 r3 e2) (uL_66 _ (Nat.le_of_ble_eq_true rfl) (Nat.le_of_ble_eq_true rfl)) (mm_recv C hM (kl (rfl : kT 0 = (5, 0))) (ci := 5) rfl (mm_e5 (rfl : kT 0 = (5, 0)))) hl.1 rfl rfl (Nat.le_of_ble_eq_true rfl) ⟨Nat.zero_le _, Nat.zero_le _⟩ dL_told_79) (fun H locs hM hS => ?_)
      have hM : mm_P G kR 731 M H := hM
      refine lv_iadd hx hb dL_told_82 ?_
      refine lv_topi (fun y4 ey4 => ?_)
      have heq := lt_to ey4 heq
      refine lv_istore_n (lv' := [(1, .int y4), (0, .ref (mm_lo G + 0)), (2, .int v2), (3, .int v3)]) hx hb dL_told_83 rfl hl (by decide) rfl (fun ls hl => ?_)
      obtain ⟨y5, ey5⟩ : ∃ y : Int32, y = (v3 + 1) := ⟨_, rfl⟩
      have heq := lt_to ey5 heq
      refine lv_iinc (v := y5) (lv' := [(3, .int y5), (1, .int y4), (0, .ref (mm_lo G + 0)), (2, .int v2)]) hx hb dL_told_84 hl (k := 3) rfl (by rw [ey5]; rfl) (by decide) rfl (fun ls hl => ?_)
      refine lv_goto (tgt := 66) hx hb dL_told_87 (by decide) ?_
      exact ih _ _ _ _ _ _ hM hS (lv_sub hl [2, 1, 3, 0] rfl) heq

set_option maxRecDepth 100000 in
set_option maxHeartbeats 4000000 in
theorem tL_told_171 (C : mm_C G p s m args meth c RL cL_told 4 (some .int))  (M : mm_M) {r : Int32} {k160 : Int32 → Int32 → Option (Int32)} (hk160 : ∀ (v1 : Int32) (v2 : Int32) (H : Heap) (locs : List Loc) (ls : Array Slot), mm_P G kR 731 M H → va_S (mm_A G) s.heap H locs → lv_has ls 4 [(0, .ref (mm_lo G + 0)), (1, .int v1), (2, .int v2)] → k160 v1 v2 = some r → W p l e rmL_told s m args below meth c H locs 0 0 (MQ below (mm_Qi G r (kR, 731, M)) args s 0 0 (mm_A G)) (F0 m 160 ls [])) : ∀ n : Nat, ∀ (v1 : Int32) (v2 : Int32) (v3 : Int32) (H : Heap) (locs : List Loc) (ls : Array Slot), mm_P G kR 731 M H → va_S (mm_A G) s.heap H locs → lv_has ls 4 [(0, .ref (mm_lo G + 0)), (1, .int v1), (2, .int v2), (3, .int v3)] → fL_told_171 M k160 n v1 v2 v3 = some r → W p l e rmL_told s m args below meth c H locs 0 0 (MQ below (mm_Qi G r (kR, 731, M)) args s 0 0 (mm_A G)) (F0 m 171 ls []) := by
  obtain ⟨hx, hb, -, -, -, -, -, -, hZ, -⟩ := id C
  intro n
  induction n with
  | zero =>
    intro v1 v2 v3 H locs ls hM hS hl heq
    rw [fL_told_171] at heq
    cases heq
  | succ n ih =>
    intro v1 v2 v3 H locs ls hM hS hl heq
    rw [fL_told_171] at heq
    refine lv_iload_n hx hb dL_told_171 rfl (lv_at hl 3 rfl) ?_
    refine lv_iconst (v := 4) hx hb dL_told_172 (by decide) ?_
    refine lv_icmp_ge (tgt := 194) hx hb dL_told_173 (by decide) (fun c1 => ?_) (fun c1 => ?_)
    · have heq := if_t c1 heq
      obtain ⟨y2, ey2⟩ : ∃ y : Int32, y = (v2 + 1) := ⟨_, rfl⟩
      have heq := lt_to ey2 heq
      refine lv_iinc (v := y2) (lv' := [(2, .int y2), (0, .ref (mm_lo G + 0)), (1, .int v1), (3, .int v3)]) hx hb dL_told_194 hl (k := 2) rfl (by rw [ey2]; rfl) (by decide) rfl (fun ls hl => ?_)
      refine lv_goto (tgt := 160) hx hb dL_told_197 (by decide) ?_
      exact hk160 _ _ _ _ _ hM hS (lv_sub hl [1, 2, 0] rfl) heq
    · have heq := if_f c1 heq
      refine lv_bipush (v := 31) hx hb dL_told_176 (by decide) ?_
      refine lv_iload_n hx hb dL_told_178 rfl (lv_at hl 1 rfl) ?_
      refine lv_imul hx hb dL_told_179 ?_
      refine lv_aload_n hx hb dL_told_180 rfl (lv_at hl 0 rfl) ?_
      refine lv_iload_n hx hb dL_told_181 rfl (lv_at hl 2 rfl) ?_
      refine lv_iload_n hx hb dL_told_182 rfl (lv_at hl 3 rfl) ?_
      obtain ⟨r4, e3, heq⟩ := bn_of heq
      refine mm_ki hS (mm_runV (o := 0) (rest := [.int (31 * v1)]) C hM hS (tX6_ofPitch l G M v2 v3 r4 e3) (uL_90 _ (Nat.le_of_ble_eq_true rfl) (Nat.le_of_ble_eq_true rfl)) (mm_recv C hM (kl (rfl : kT 0 = (5, 0))) (ci := 5) rfl (mm_e5 (rfl : kT 0 = (5, 0)))) hl.1 rfl rfl (Nat.le_of_ble_eq_true rfl) ⟨Nat.zero_le _, Nat.zero_le _⟩ dL_told_183) (fun H locs hM hS => ?_)
      have hM : mm_P G kR 731 M H := hM
      refine lv_iadd hx hb dL_told_186 ?_
      refine lv_topi (fun y5 ey5 => ?_)
      have heq := lt_to ey5 heq
      refine lv_istore_n (lv' := [(1, .int y5), (0, .ref (mm_lo G + 0)), (2, .int v2), (3, .int v3)]) hx hb dL_told_187 rfl hl (by decide) rfl (fun ls hl => ?_)
      obtain ⟨y6, ey6⟩ : ∃ y : Int32, y = (v3 + 1) := ⟨_, rfl⟩
      have heq := lt_to ey6 heq
      refine lv_iinc (v := y6) (lv' := [(3, .int y6), (1, .int y5), (0, .ref (mm_lo G + 0)), (2, .int v2)]) hx hb dL_told_188 hl (k := 3) rfl (by rw [ey6]; rfl) (by decide) rfl (fun ls hl => ?_)
      refine lv_goto (tgt := 171) hx hb dL_told_191 (by decide) ?_
      exact ih _ _ _ _ _ _ hM hS (lv_sub hl [2, 1, 3, 0] rfl) heq

set_option maxRecDepth 100000 in
set_option maxHeartbeats 4000000 in
theorem tL_told_160 (C : mm_C G p s m args meth c RL cL_told 4 (some .int))  (M : mm_M) {r : Int32} : ∀ n : Nat, ∀ (v1 : Int32) (v2 : Int32) (H : Heap) (locs : List Loc) (ls : Array Slot), mm_P G kR 731 M H → va_S (mm_A G) s.heap H locs → lv_has ls 4 [(0, .ref (mm_lo G + 0)), (1, .int v1), (2, .int v2)] → fL_told_160 M n v1 v2 = some r → W p l e rmL_told s m args below meth c H locs 0 0 (MQ below (mm_Qi G r (kR, 731, M)) args s 0 0 (mm_A G)) (F0 m 160 ls []) := by
  obtain ⟨hx, hb, -, -, -, -, -, -, hZ, -⟩ := id C
  intro n
  induction n with
  | zero =>
    intro v1 v2 H locs ls hM hS hl heq
    rw [fL_told_160] at heq
    cases heq
  | succ n ih =>
    intro v1 v2 H locs ls hM hS hl heq
    rw [fL_told_160] at heq
    refine lv_iload_n hx hb dL_told_160 rfl (lv_at hl 2 rfl) ?_
    refine lv_aload_n hx hb dL_told_161 rfl (lv_at hl 0 rfl) ?_
    refine lv_iconst (v := 2) hx hb dL_told_162 (by decide) ?_
    obtain ⟨r2, e1, heq⟩ := bn_of heq
    refine mm_ki hS (mm_runV (o := 0) (rest := [.int v2]) C hM hS (tX6_count l G M 2 r2 e1) (uL_60 _ (Nat.le_of_ble_eq_true rfl) (Nat.le_of_ble_eq_true rfl)) (mm_recv C hM (kl (rfl : kT 0 = (5, 0))) (ci := 5) rfl (mm_e5 (rfl : kT 0 = (5, 0)))) hl.1 rfl rfl (Nat.le_of_ble_eq_true rfl) ⟨Nat.zero_le _, Nat.zero_le _⟩ dL_told_163) (fun H locs hM hS => ?_)
    have hM : mm_P G kR 731 M H := hM
    refine lv_icmp_ge (tgt := 200) hx hb dL_told_166 (by decide) (fun c3 => ?_) (fun c3 => ?_)
    · have heq := if_t c3 heq
      refine lv_iload_n hx hb dL_told_200 rfl (lv_at hl 1 rfl) ?_
      cases heq
      exact mm_iret C hM hS dL_told_201
    · have heq := if_f c3 heq
      refine lv_iconst (v := 0) hx hb dL_told_169 (by decide) ?_
      refine lv_istore_n (lv' := [(3, .int 0), (0, .ref (mm_lo G + 0)), (1, .int v1), (2, .int v2)]) hx hb dL_told_170 rfl hl (by decide) rfl (fun ls hl => ?_)
      exact tL_told_171 C M ih FU _ _ _ _ _ _ hM hS (lv_sub hl [1, 2, 3, 0] rfl) heq

set_option maxRecDepth 100000 in
set_option maxHeartbeats 4000000 in
theorem tL_told_55 (C : mm_C G p s m args meth c RL cL_told 4 (some .int))  (M : mm_M) {r : Int32} : ∀ n : Nat, ∀ (v1 : Int32) (v2 : Int32) (H : Heap) (locs : List Loc) (ls : Array Slot), mm_P G kR 731 M H → va_S (mm_A G) s.heap H locs → lv_has ls 4 [(0, .ref (mm_lo G + 0)), (1, .int v1), (2, .int v2)] → fL_told_55 M n v1 v2 = some r → W p l e rmL_told s m args below meth c H locs 0 0 (MQ below (mm_Qi G r (kR, 731, M)) args s 0 0 (mm_A G)) (F0 m 55 ls []) := by
  obtain ⟨hx, hb, -, -, -, -, -, -, hZ, -⟩ := id C
  intro n
  induction n with
  | zero =>
    intro v1 v2 H locs ls hM hS hl heq
    rw [fL_told_55] at heq
    cases heq
  | succ n ih =>
    intro v1 v2 H locs ls hM hS hl heq
    rw [fL_told_55] at heq
    refine lv_iload_n hx hb dL_told_55 rfl (lv_at hl 2 rfl) ?_
    refine lv_aload_n hx hb dL_told_56 rfl (lv_at hl 0 rfl) ?_
    refine lv_iconst (v := 1) hx hb dL_told_57 (by decide) ?_
    obtain ⟨r2, e1, heq⟩ := bn_of heq
    refine mm_ki hS (mm_runV (o := 0) (rest := [.int v2]) C hM hS (tX6_count l G M 1 r2 e1) (uL_60 _ (Nat.le_of_ble_eq_true rfl) (Nat.le_of_ble_eq_true rfl)) (mm_recv C hM (kl (rfl : kT 0 = (5, 0))) (ci := 5) rfl (mm_e5 (rfl : kT 0 = (5, 0)))) hl.1 rfl rfl (Nat.le_of_ble_eq_true rfl) ⟨Nat.zero_le _, Nat.zero_le _⟩ dL_told_58) (fun H locs hM hS => ?_)
    have hM : mm_P G kR 731 M H := hM
    refine lv_icmp_ge (tgt := 158) hx hb dL_told_61 (by decide) (fun c3 => ?_) (fun c3 => ?_)
    · have heq := if_t c3 heq
      refine lv_iconst (v := 0) hx hb dL_told_158 (by decide) ?_
      refine lv_istore_n (lv' := [(2, .int 0), (0, .ref (mm_lo G + 0)), (1, .int v1)]) hx hb dL_told_159 rfl hl (by decide) rfl (fun ls hl => ?_)
      exact tL_told_160 C M FU _ _ _ _ _ hM hS (lv_sub hl [1, 2, 0] rfl) heq
    · have heq := if_f c3 heq
      refine lv_iconst (v := 0) hx hb dL_told_64 (by decide) ?_
      refine lv_istore_n (lv' := [(3, .int 0), (0, .ref (mm_lo G + 0)), (1, .int v1), (2, .int v2)]) hx hb dL_told_65 rfl hl (by decide) rfl (fun ls hl => ?_)
      exact tL_told_66 C M ih FU _ _ _ _ _ _ hM hS (lv_sub hl [1, 2, 3, 0] rfl) heq

set_option maxRecDepth 100000 in
set_option maxHeartbeats 4000000 in
theorem tL_told_30 (C : mm_C G p s m args meth c RL cL_told 4 (some .int))  (M : mm_M) {r : Int32} : ∀ n : Nat, ∀ (v1 : Int32) (v2 : Int32) (H : Heap) (locs : List Loc) (ls : Array Slot), mm_P G kR 731 M H → va_S (mm_A G) s.heap H locs → lv_has ls 4 [(0, .ref (mm_lo G + 0)), (1, .int v1), (2, .int v2)] → fL_told_30 M n v1 v2 = some r → W p l e rmL_told s m args below meth c H locs 0 0 (MQ below (mm_Qi G r (kR, 731, M)) args s 0 0 (mm_A G)) (F0 m 30 ls []) := by
  obtain ⟨hx, hb, -, -, -, -, -, -, hZ, -⟩ := id C
  intro n
  induction n with
  | zero =>
    intro v1 v2 H locs ls hM hS hl heq
    rw [fL_told_30] at heq
    cases heq
  | succ n ih =>
    intro v1 v2 H locs ls hM hS hl heq
    rw [fL_told_30] at heq
    refine lv_iload_n hx hb dL_told_30 rfl (lv_at hl 2 rfl) ?_
    refine lv_bipush (v := 20) hx hb dL_told_31 (by decide) ?_
    refine lv_icmp_ge (tgt := 53) hx hb dL_told_33 (by decide) (fun c1 => ?_) (fun c1 => ?_)
    · have heq := if_t c1 heq
      refine lv_iconst (v := 0) hx hb dL_told_53 (by decide) ?_
      refine lv_istore_n (lv' := [(2, .int 0), (0, .ref (mm_lo G + 0)), (1, .int v1)]) hx hb dL_told_54 rfl hl (by decide) rfl (fun ls hl => ?_)
      exact tL_told_55 C M FU _ _ _ _ _ hM hS (lv_sub hl [1, 2, 0] rfl) heq
    · have heq := if_f c1 heq
      refine lv_bipush (v := 31) hx hb dL_told_36 (by decide) ?_
      refine lv_iload_n hx hb dL_told_38 rfl (lv_at hl 1 rfl) ?_
      refine lv_imul hx hb dL_told_39 ?_
      refine lv_aload_n hx hb dL_told_40 rfl (lv_at hl 0 rfl) ?_
      refine lv_iload_n hx hb dL_told_41 rfl (lv_at hl 2 rfl) ?_
      obtain ⟨r3, e2, heq⟩ := bn_of heq
      refine mm_ki hS (mm_runV (o := 0) (rest := [.int (31 * v1)]) C hM hS (tX6_count l G M v2 r3 e2) (uL_60 _ (Nat.le_of_ble_eq_true rfl) (Nat.le_of_ble_eq_true rfl)) (mm_recv C hM (kl (rfl : kT 0 = (5, 0))) (ci := 5) rfl (mm_e5 (rfl : kT 0 = (5, 0)))) hl.1 rfl rfl (Nat.le_of_ble_eq_true rfl) ⟨Nat.zero_le _, Nat.zero_le _⟩ dL_told_42) (fun H locs hM hS => ?_)
      have hM : mm_P G kR 731 M H := hM
      refine lv_iadd hx hb dL_told_45 ?_
      refine lv_topi (fun y4 ey4 => ?_)
      have heq := lt_to ey4 heq
      refine lv_istore_n (lv' := [(1, .int y4), (0, .ref (mm_lo G + 0)), (2, .int v2)]) hx hb dL_told_46 rfl hl (by decide) rfl (fun ls hl => ?_)
      obtain ⟨y5, ey5⟩ : ∃ y : Int32, y = (v2 + 1) := ⟨_, rfl⟩
      have heq := lt_to ey5 heq
      refine lv_iinc (v := y5) (lv' := [(2, .int y5), (1, .int y4), (0, .ref (mm_lo G + 0))]) hx hb dL_told_47 hl (k := 2) rfl (by rw [ey5]; rfl) (by decide) rfl (fun ls hl => ?_)
      refine lv_goto (tgt := 30) hx hb dL_told_50 (by decide) ?_
      exact ih _ _ _ _ _ hM hS (lv_sub hl [2, 1, 0] rfl) heq

set_option maxRecDepth 100000 in
set_option maxHeartbeats 4000000 in
theorem tL_told_4 (C : mm_C G p s m args meth c RL cL_told 4 (some .int))  (M : mm_M) {r : Int32} : ∀ n : Nat, ∀ (v1 : Int32) (v2 : Int32) (H : Heap) (locs : List Loc) (ls : Array Slot), mm_P G kR 731 M H → va_S (mm_A G) s.heap H locs → lv_has ls 4 [(0, .ref (mm_lo G + 0)), (1, .int v1), (2, .int v2)] → fL_told_4 M n v1 v2 = some r → W p l e rmL_told s m args below meth c H locs 0 0 (MQ below (mm_Qi G r (kR, 731, M)) args s 0 0 (mm_A G)) (F0 m 4 ls []) := by
  obtain ⟨hx, hb, -, -, -, -, -, -, hZ, -⟩ := id C
  intro n
  induction n with
  | zero =>
    intro v1 v2 H locs ls hM hS hl heq
    rw [fL_told_4] at heq
    cases heq
  | succ n ih =>
    intro v1 v2 H locs ls hM hS hl heq
    rw [fL_told_4] at heq
    refine lv_iload_n hx hb dL_told_4 rfl (lv_at hl 2 rfl) ?_
    refine lv_bipush (v := 6) hx hb dL_told_5 (by decide) ?_
    refine lv_icmp_ge (tgt := 27) hx hb dL_told_7 (by decide) (fun c1 => ?_) (fun c1 => ?_)
    · have heq := if_t c1 heq
      refine lv_bipush (v := 8) hx hb dL_told_27 (by decide) ?_
      refine lv_istore_n (lv' := [(2, .int 8), (0, .ref (mm_lo G + 0)), (1, .int v1)]) hx hb dL_told_29 rfl hl (by decide) rfl (fun ls hl => ?_)
      exact tL_told_30 C M FU _ _ _ _ _ hM hS (lv_sub hl [1, 2, 0] rfl) heq
    · have heq := if_f c1 heq
      refine lv_bipush (v := 31) hx hb dL_told_10 (by decide) ?_
      refine lv_iload_n hx hb dL_told_12 rfl (lv_at hl 1 rfl) ?_
      refine lv_imul hx hb dL_told_13 ?_
      refine lv_aload_n hx hb dL_told_14 rfl (lv_at hl 0 rfl) ?_
      refine lv_iload_n hx hb dL_told_15 rfl (lv_at hl 2 rfl) ?_
      obtain ⟨r3, e2, heq⟩ := bn_of heq
      refine mm_ki hS (mm_runV (o := 0) (rest := [.int (31 * v1)]) C hM hS (tX6_count l G M v2 r3 e2) (uL_60 _ (Nat.le_of_ble_eq_true rfl) (Nat.le_of_ble_eq_true rfl)) (mm_recv C hM (kl (rfl : kT 0 = (5, 0))) (ci := 5) rfl (mm_e5 (rfl : kT 0 = (5, 0)))) hl.1 rfl rfl (Nat.le_of_ble_eq_true rfl) ⟨Nat.zero_le _, Nat.zero_le _⟩ dL_told_16) (fun H locs hM hS => ?_)
      have hM : mm_P G kR 731 M H := hM
      refine lv_iadd hx hb dL_told_19 ?_
      refine lv_topi (fun y4 ey4 => ?_)
      have heq := lt_to ey4 heq
      refine lv_istore_n (lv' := [(1, .int y4), (0, .ref (mm_lo G + 0)), (2, .int v2)]) hx hb dL_told_20 rfl hl (by decide) rfl (fun ls hl => ?_)
      obtain ⟨y5, ey5⟩ : ∃ y : Int32, y = (v2 + 1) := ⟨_, rfl⟩
      have heq := lt_to ey5 heq
      refine lv_iinc (v := y5) (lv' := [(2, .int y5), (1, .int y4), (0, .ref (mm_lo G + 0))]) hx hb dL_told_21 hl (k := 2) rfl (by rw [ey5]; rfl) (by decide) rfl (fun ls hl => ?_)
      refine lv_goto (tgt := 4) hx hb dL_told_24 (by decide) ?_
      exact ih _ _ _ _ _ hM hS (lv_sub hl [2, 1, 0] rfl) heq

set_option maxRecDepth 100000 in
set_option maxHeartbeats 4000000 in
theorem tL_told (l : Launch) (G : mm_G) (M : mm_M)  (r : Int32) (heq : fL_told M = some r) : Met l yL_told (mm_ws yL_told cL_told 4 (some .int)) rmL_told (va_Pc [.ref (mm_lo G + 0)] (mm_B G (kR, 731, M))) (mm_Qi G r (kR, 731, M)) 0 0 (mm_A G) := by
  refine mm_met (cc := cL_told) (nL := 4) (ret := (some .int)) plRL (Nat.le_of_ble_eq_true rfl) ?_
  intro p e s m below meth c ls hin C hM hS hl
  have C : mm_C G p s m _ meth c RL cL_told 4 (some .int) := C
  have hM : mm_P G kR 731 M s.heap := hM
  have hl : lv_has ls 4 [(0, .ref (mm_lo G + 0))] := hl
  obtain ⟨hx, hb, -, -, -, -, -, -, hZ, -⟩ := id C
  rw [fL_told] at heq
  refine lv_iconst (v := 0) hx hb dL_told_0 (by decide) ?_
  refine lv_istore_n (lv' := [(1, .int 0), (0, .ref (mm_lo G + 0))]) hx hb dL_told_1 rfl hl (by decide) rfl (fun ls hl => ?_)
  refine lv_iconst (v := 0) hx hb dL_told_2 (by decide) ?_
  refine lv_istore_n (lv' := [(2, .int 0), (1, .int 0), (0, .ref (mm_lo G + 0))]) hx hb dL_told_3 rfl hl (by decide) rfl (fun ls hl => ?_)
  exact tL_told_4 C M FU _ _ _ _ _ hM hS (lv_sub hl [2, 1, 0] rfl) heq
end LWALK
