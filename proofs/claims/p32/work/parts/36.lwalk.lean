section LWALK
variable {p : Program} {l : Launch} {e : Env} {s : State} {m : MethodId} {args : Array Value} {below : List Frame} {meth : Method} {c : Code} {G : mm_G}
set_option maxRecDepth 100000 in
set_option maxHeartbeats 4000000 in
theorem tL_back_75 (C : mm_C G p s m args meth c RL cL_back 6 (some .boolean)) (x1 : Int32) {r : Bool} {M9 : mm_M} : ∀ n : Nat, ∀ (M : mm_M) (v2 : Int32) (v3 : Int32) (v4 : Int32) (v5 : Int32) (H : Heap) (locs : List Loc) (ls : Array Slot), mm_P G kR 731 M H → va_S (mm_A G) s.heap H locs → lv_has ls 6 [(0, .ref (mm_lo G + 0)), (2, .int v2), (3, .int v3), (4, .int v4), (5, .int v5)] → fL_back_75 x1 n M v2 v3 v4 v5 = some (r, M9) → W p l e rmL_back s m args below meth c H locs 0 0 (MQ below (mm_Qi G (b2i r) (kR, 731, M9)) args s 0 0 (mm_A G)) (F0 m 75 ls []) := by
  obtain ⟨hx, hb, -, -, -, -, -, -, hZ, -⟩ := id C
  intro n
  induction n with
  | zero =>
    intro M v2 v3 v4 v5 H locs ls hM hS hl heq
    rw [fL_back_75] at heq
    cases heq
  | succ n ih =>
    intro M v2 v3 v4 v5 H locs ls hM hS hl heq
    rw [fL_back_75] at heq
    refine lv_iload hx hb dL_back_75 (lv_at hl 4 rfl) ?_
    refine lv_iconst (v := 4) hx hb dL_back_77 (by decide) ?_
    refine lv_icmp_gt (tgt := 101) hx hb dL_back_78 (by decide) (fun c1 => ?_) (fun c1 => ?_)
    · have heq := if_t c1 heq
      refine lv_aload_n hx hb dL_back_101 rfl (lv_at hl 0 rfl) ?_
      obtain ⟨r3, e2, heq⟩ := bn_of heq
      refine mm_ki hS (mm_runS (rest := []) C hM hS (tL_told l G M r3 e2) (uL_133 _ (Nat.le_of_ble_eq_true rfl) (Nat.le_of_ble_eq_true rfl)) hl.1 rfl rfl (Nat.le_of_ble_eq_true rfl) ⟨Nat.zero_le _, Nat.zero_le _⟩ dL_back_102) (fun H locs hM hS => ?_)
      have hM : mm_P G kR 731 M H := hM
      refine lv_iload_n hx hb dL_back_105 rfl (lv_at hl 2 rfl) ?_
      refine lv_icmp_eq (tgt := 111) hx hb dL_back_106 (by decide) (fun c4 => ?_) (fun c4 => ?_)
      · have heq := if_t c4 heq
        refine lv_aload_n hx hb dL_back_111 rfl (lv_at hl 0 rfl) ?_
        refine lv_bipush (v := 9) hx hb dL_back_112 (by decide) ?_
        obtain ⟨r6, M7, e5, heq⟩ := bn2_of heq
        refine mm_ki hS (mm_runV (o := 0) (rest := []) C hM hS (tX6_days l G M 9 r6 M7 e5) (uL_96 _ (Nat.le_of_ble_eq_true rfl) (Nat.le_of_ble_eq_true rfl)) (mm_recv C hM (kl (rfl : kT 0 = (5, 0))) (ci := 5) rfl (mm_e5 (rfl : kT 0 = (5, 0)))) hl.1 rfl rfl (Nat.le_of_ble_eq_true rfl) ⟨Nat.zero_le _, Nat.zero_le _⟩ dL_back_114) (fun H locs hM hS => ?_)
        have hM : mm_P G kR 731 M7 H := hM
        refine lv_pop hx hb dL_back_117 rfl ?_
        refine lv_aload_n hx hb dL_back_118 rfl (lv_at hl 0 rfl) ?_
        refine lv_bipush (v := 9) hx hb dL_back_119 (by decide) ?_
        refine lv_sipush (v := 4999) hx hb dL_back_121 (by decide) ?_
        obtain ⟨r9, M10, e8, heq⟩ := bn2_of heq
        refine mm_ki hS (mm_runV (o := 0) (rest := []) C hM hS (tX6_set l G M7 9 4999 r9 M10 e8) (uL_63 _ (Nat.le_of_ble_eq_true rfl) (Nat.le_of_ble_eq_true rfl)) (mm_recv C hM (kl (rfl : kT 0 = (5, 0))) (ci := 5) rfl (mm_e5 (rfl : kT 0 = (5, 0)))) hl.1 rfl rfl (Nat.le_of_ble_eq_true rfl) ⟨Nat.zero_le _, Nat.zero_le _⟩ dL_back_124) (fun H locs hM hS => ?_)
        have hM : mm_P G kR 731 M10 H := hM
        refine lv_pop hx hb dL_back_127 rfl ?_
        refine lv_aload_n hx hb dL_back_128 rfl (lv_at hl 0 rfl) ?_
        refine lv_iconst (v := 1) hx hb dL_back_129 (by decide) ?_
        obtain ⟨r12, M13, e11, heq⟩ := bn2_of heq
        refine mm_ki hS (mm_runV (o := 0) (rest := []) C hM hS (tX6_restore l G M10 1 r12 M13 e11) (uL_168 _ (Nat.le_of_ble_eq_true rfl) (Nat.le_of_ble_eq_true rfl)) (mm_recv C hM (kl (rfl : kT 0 = (5, 0))) (ci := 5) rfl (mm_e5 (rfl : kT 0 = (5, 0)))) hl.1 rfl rfl (Nat.le_of_ble_eq_true rfl) ⟨Nat.zero_le _, Nat.zero_le _⟩ dL_back_130) (fun H locs hM hS => ?_)
        have hM : mm_P G kR 731 M13 H := hM
        refine lv_iload_n hx hb dL_back_133 rfl (lv_at hl 1 rfl) ?_
        refine lv_icmp_ne (tgt := 189) hx hb dL_back_134 (by decide) (fun c14 => ?_) (fun c14 => ?_)
        · have heq := if_f c14 heq
          refine lv_iconst (v := 0) hx hb dL_back_189 (by decide) ?_
          cases heq
          exact mm_zret C hM hS dL_back_190
        · have heq := if_t c14 heq
          refine lv_aload_n hx hb dL_back_137 rfl (lv_at hl 0 rfl) ?_
          obtain ⟨r16, e15, heq⟩ := bn_of heq
          refine mm_ki hS (mm_runS (rest := []) C hM hS (tL_told l G M13 r16 e15) (uL_133 _ (Nat.le_of_ble_eq_true rfl) (Nat.le_of_ble_eq_true rfl)) hl.1 rfl rfl (Nat.le_of_ble_eq_true rfl) ⟨Nat.zero_le _, Nat.zero_le _⟩ dL_back_138) (fun H locs hM hS => ?_)
          have hM : mm_P G kR 731 M13 H := hM
          refine lv_iload_n hx hb dL_back_141 rfl (lv_at hl 2 rfl) ?_
          refine lv_icmp_ne (tgt := 189) hx hb dL_back_142 (by decide) (fun c17 => ?_) (fun c17 => ?_)
          · have heq := if_f c17 heq
            refine lv_iconst (v := 0) hx hb dL_back_189 (by decide) ?_
            cases heq
            exact mm_zret C hM hS dL_back_190
          · have heq := if_t c17 heq
            refine lv_aload_n hx hb dL_back_145 rfl (lv_at hl 0 rfl) ?_
            obtain ⟨r19, M20, e18, heq⟩ := bn2_of heq
            refine mm_ki hS (mm_runV (o := 0) (rest := []) C hM hS (tX6_undo l G M13 r19 M20 e18) (uL_137 _ (Nat.le_of_ble_eq_true rfl) (Nat.le_of_ble_eq_true rfl)) (mm_recv C hM (kl (rfl : kT 0 = (5, 0))) (ci := 5) rfl (mm_e5 (rfl : kT 0 = (5, 0)))) hl.1 rfl rfl (Nat.le_of_ble_eq_true rfl) ⟨Nat.zero_le _, Nat.zero_le _⟩ dL_back_146) (fun H locs hM hS => ?_)
            have hM : mm_P G kR 731 M20 H := hM
            refine lv_if_lt (tgt := 189) hx hb dL_back_149 (by decide) (fun c21 => ?_) (fun c21 => ?_)
            · have heq := if_t c21 heq
              refine lv_iconst (v := 0) hx hb dL_back_189 (by decide) ?_
              cases heq
              exact mm_zret C hM hS dL_back_190
            · have heq := if_f c21 heq
              refine lv_aload_n hx hb dL_back_152 rfl (lv_at hl 0 rfl) ?_
              refine lv_bipush (v := 17) hx hb dL_back_153 (by decide) ?_
              obtain ⟨r23, e22, heq⟩ := bn_of heq
              refine mm_ki hS (mm_runV (o := 0) (rest := []) C hM hS (tX6_count l G M20 17 r23 e22) (uL_60 _ (Nat.le_of_ble_eq_true rfl) (Nat.le_of_ble_eq_true rfl)) (mm_recv C hM (kl (rfl : kT 0 = (5, 0))) (ci := 5) rfl (mm_e5 (rfl : kT 0 = (5, 0)))) hl.1 rfl rfl (Nat.le_of_ble_eq_true rfl) ⟨Nat.zero_le _, Nat.zero_le _⟩ dL_back_155) (fun H locs hM hS => ?_)
              have hM : mm_P G kR 731 M20 H := hM
              refine lv_sipush (v := 4999) hx hb dL_back_158 (by decide) ?_
              refine lv_icmp_ne (tgt := 189) hx hb dL_back_161 (by decide) (fun c24 => ?_) (fun c24 => ?_)
              · have heq := if_f c24 heq
                refine lv_iconst (v := 0) hx hb dL_back_189 (by decide) ?_
                cases heq
                exact mm_zret C hM hS dL_back_190
              · have heq := if_t c24 heq
                refine lv_aload_n hx hb dL_back_164 rfl (lv_at hl 0 rfl) ?_
                refine lv_iconst (v := 0) hx hb dL_back_165 (by decide) ?_
                obtain ⟨r26, e25, heq⟩ := bn_of heq
                refine mm_ki hS (mm_runV (o := 0) (rest := []) C hM hS (tX6_count l G M20 0 r26 e25) (uL_60 _ (Nat.le_of_ble_eq_true rfl) (Nat.le_of_ble_eq_true rfl)) (mm_recv C hM (kl (rfl : kT 0 = (5, 0))) (ci := 5) rfl (mm_e5 (rfl : kT 0 = (5, 0)))) hl.1 rfl rfl (Nat.le_of_ble_eq_true rfl) ⟨Nat.zero_le _, Nat.zero_le _⟩ dL_back_166) (fun H locs hM hS => ?_)
                have hM : mm_P G kR 731 M20 H := hM
                refine lv_iload_n hx hb dL_back_169 rfl (lv_at hl 1 rfl) ?_
                refine lv_bipush (v := 9) hx hb dL_back_170 (by decide) ?_
                refine lv_iadd hx hb dL_back_172 ?_
                refine lv_icmp_ne (tgt := 189) hx hb dL_back_173 (by decide) (fun c27 => ?_) (fun c27 => ?_)
                · have heq := if_f c27 heq
                  refine lv_iconst (v := 0) hx hb dL_back_189 (by decide) ?_
                  cases heq
                  exact mm_zret C hM hS dL_back_190
                · have heq := if_t c27 heq
                  refine lv_aload_n hx hb dL_back_176 rfl (lv_at hl 0 rfl) ?_
                  refine lv_iconst (v := 1) hx hb dL_back_177 (by decide) ?_
                  obtain ⟨r29, M30, e28, heq⟩ := bn2_of heq
                  refine mm_ki hS (mm_runV (o := 0) (rest := []) C hM hS (tX6_restore l G M20 1 r29 M30 e28) (uL_168 _ (Nat.le_of_ble_eq_true rfl) (Nat.le_of_ble_eq_true rfl)) (mm_recv C hM (kl (rfl : kT 0 = (5, 0))) (ci := 5) rfl (mm_e5 (rfl : kT 0 = (5, 0)))) hl.1 rfl rfl (Nat.le_of_ble_eq_true rfl) ⟨Nat.zero_le _, Nat.zero_le _⟩ dL_back_178) (fun H locs hM hS => ?_)
                  have hM : mm_P G kR 731 M30 H := hM
                  refine lv_iload_n hx hb dL_back_181 rfl (lv_at hl 1 rfl) ?_
                  refine lv_icmp_ne (tgt := 189) hx hb dL_back_182 (by decide) (fun c31 => ?_) (fun c31 => ?_)
                  · have heq := if_f c31 heq
                    refine lv_iconst (v := 0) hx hb dL_back_189 (by decide) ?_
                    cases heq
                    exact mm_zret C hM hS dL_back_190
                  · have heq := if_t c31 heq
                    refine lv_iconst (v := 1) hx hb dL_back_185 (by decide) ?_
                    refine lv_goto (tgt := 190) hx hb dL_back_186 (by decide) ?_
                    cases heq
                    exact mm_zret C hM hS dL_back_190
      · have heq := if_f c4 heq
        refine lv_iconst (v := 0) hx hb dL_back_109 (by decide) ?_
        cases heq
        exact mm_zret C hM hS dL_back_110
    · have heq := if_f c1 heq
      refine lv_aload_n hx hb dL_back_81 rfl (lv_at hl 0 rfl) ?_
      obtain ⟨r33, M34, e32, heq⟩ := bn2_of heq
      refine mm_ki hS (mm_runV (o := 0) (rest := []) C hM hS (tX6_undo l G M r33 M34 e32) (uL_137 _ (Nat.le_of_ble_eq_true rfl) (Nat.le_of_ble_eq_true rfl)) (mm_recv C hM (kl (rfl : kT 0 = (5, 0))) (ci := 5) rfl (mm_e5 (rfl : kT 0 = (5, 0)))) hl.1 rfl rfl (Nat.le_of_ble_eq_true rfl) ⟨Nat.zero_le _, Nat.zero_le _⟩ dL_back_82) (fun H locs hM hS => ?_)
      have hM : mm_P G kR 731 M34 H := hM
      refine lv_iload hx hb dL_back_85 (lv_at hl 3 rfl) ?_
      refine lv_iload hx hb dL_back_87 (lv_at hl 4 rfl) ?_
      refine lv_isub hx hb dL_back_89 ?_
      refine lv_icmp_eq (tgt := 95) hx hb dL_back_90 (by decide) (fun c35 => ?_) (fun c35 => ?_)
      · have heq := if_t c35 heq
        obtain ⟨y36, ey36⟩ : ∃ y : Int32, y = (v5 + 1) := ⟨_, rfl⟩
        have heq := lt_to ey36 heq
        refine lv_iinc (v := y36) (lv' := [(5, .int y36), (0, .ref (mm_lo G + 0)), (2, .int v2), (3, .int v3), (4, .int v4)]) hx hb dL_back_95 hl (k := 4) rfl (by rw [ey36]; rfl) (by decide) rfl (fun ls hl => ?_)
        refine lv_goto (tgt := 75) hx hb dL_back_98 (by decide) ?_
        exact ih _ _ _ _ _ _ _ _ hM hS (lv_sub hl [1, 2, 3, 4, 0] rfl) heq
      · have heq := if_f c35 heq
        refine lv_iconst (v := 0) hx hb dL_back_93 (by decide) ?_
        cases heq
        exact mm_zret C hM hS dL_back_94

set_option maxRecDepth 100000 in
set_option maxHeartbeats 4000000 in
theorem tL_back (l : Launch) (G : mm_G) (M : mm_M) (x1 : Int32) (r : Bool) (M9 : mm_M) (heq : fL_back M x1 = some (r, M9)) : Met l yL_back (mm_ws yL_back cL_back 6 (some .boolean)) rmL_back (va_Pc [.ref (mm_lo G + 0), .int x1] (mm_B G (kR, 731, M))) (mm_Qi G (b2i r) (kR, 731, M9)) 0 0 (mm_A G) := by
  refine mm_met (cc := cL_back) (nL := 6) (ret := (some .boolean)) plRL (Nat.le_of_ble_eq_true rfl) ?_
  intro p e s m below meth c ls hin C hM hS hl
  have C : mm_C G p s m _ meth c RL cL_back 6 (some .boolean) := C
  have hM : mm_P G kR 731 M s.heap := hM
  have hl : lv_has ls 6 [(0, .ref (mm_lo G + 0)), (1, .int x1)] := hl
  obtain ⟨hx, hb, -, -, -, -, -, -, hZ, -⟩ := id C
  rw [fL_back] at heq
  refine lv_aload_n hx hb dL_back_0 rfl (lv_at hl 0 rfl) ?_
  refine lv_iconst (v := 0) hx hb dL_back_1 (by decide) ?_
  obtain ⟨r2, e1, heq⟩ := bn_of heq
  refine mm_ki hS (mm_runV (o := 0) (rest := []) C hM hS (tX6_count l G M 0 r2 e1) (uL_60 _ (Nat.le_of_ble_eq_true rfl) (Nat.le_of_ble_eq_true rfl)) (mm_recv C hM (kl (rfl : kT 0 = (5, 0))) (ci := 5) rfl (mm_e5 (rfl : kT 0 = (5, 0)))) hl.1 rfl rfl (Nat.le_of_ble_eq_true rfl) ⟨Nat.zero_le _, Nat.zero_le _⟩ dL_back_2) (fun H locs hM hS => ?_)
  have hM : mm_P G kR 731 M H := hM
  refine lv_istore_n (lv' := [(2, .int r2), (0, .ref (mm_lo G + 0)), (1, .int x1)]) hx hb dL_back_5 rfl hl (by decide) rfl (fun ls hl => ?_)
  refine lv_aload_n hx hb dL_back_6 rfl (lv_at hl 1 rfl) ?_
  refine lv_iconst (v := 1) hx hb dL_back_7 (by decide) ?_
  obtain ⟨r4, M5, e3, heq⟩ := bn2_of heq
  refine mm_ki hS (mm_runV (o := 0) (rest := []) C hM hS (tX6_save l G M 1 r4 M5 e3) (uL_165 _ (Nat.le_of_ble_eq_true rfl) (Nat.le_of_ble_eq_true rfl)) (mm_recv C hM (kl (rfl : kT 0 = (5, 0))) (ci := 5) rfl (mm_e5 (rfl : kT 0 = (5, 0)))) hl.1 rfl rfl (Nat.le_of_ble_eq_true rfl) ⟨Nat.zero_le _, Nat.zero_le _⟩ dL_back_8) (fun H locs hM hS => ?_)
  have hM : mm_P G kR 731 M5 H := hM
  refine lv_iload_n hx hb dL_back_11 rfl (lv_at hl 0 rfl) ?_
  refine lv_icmp_eq (tgt := 17) hx hb dL_back_12 (by decide) (fun c6 => ?_) (fun c6 => ?_)
  · have heq := if_t c6 heq
    refine lv_aload_n hx hb dL_back_17 rfl (lv_at hl 1 rfl) ?_
    obtain ⟨r8, e7, heq⟩ := bn_of heq
    refine mm_ki hS (mm_runS (rest := []) C hM hS (tL_told l G M5 r8 e7) (uL_133 _ (Nat.le_of_ble_eq_true rfl) (Nat.le_of_ble_eq_true rfl)) hl.1 rfl rfl (Nat.le_of_ble_eq_true rfl) ⟨Nat.zero_le _, Nat.zero_le _⟩ dL_back_18) (fun H locs hM hS => ?_)
    have hM : mm_P G kR 731 M5 H := hM
    refine lv_istore_n (lv' := [(3, .int r8), (2, .int r2), (0, .ref (mm_lo G + 0)), (1, .int x1)]) hx hb dL_back_21 rfl hl (by decide) rfl (fun ls hl => ?_)
    refine lv_aload_n hx hb dL_back_22 rfl (lv_at hl 2 rfl) ?_
    refine lv_iload_n hx hb dL_back_23 rfl (lv_at hl 3 rfl) ?_
    refine mm_ldc C kL_22 dL_back_24 ?_
    obtain ⟨r10, e9, heq⟩ := bn_of heq
    refine mm_ki hS (mm_runS (rest := [.ref (mm_lo G + 0)]) C hM hS (tL_up l G M5 x1 65537 r10 e9) (uL_23 _ (Nat.le_of_ble_eq_true rfl) (Nat.le_of_ble_eq_true rfl)) hl.1 rfl rfl (Nat.le_of_ble_eq_true rfl) ⟨Nat.zero_le _, Nat.zero_le _⟩ dL_back_26) (fun H locs hM hS => ?_)
    have hM : mm_P G kR 731 M5 H := hM
    obtain ⟨r12, M13, e11, heq⟩ := bn2_of heq
    refine mm_ki hS (mm_runV (o := 0) (rest := []) C hM hS (tX6_seed l G M5 r10 r12 M13 e11) (uL_27 _ (Nat.le_of_ble_eq_true rfl) (Nat.le_of_ble_eq_true rfl)) (mm_recv C hM (kl (rfl : kT 0 = (5, 0))) (ci := 5) rfl (mm_e5 (rfl : kT 0 = (5, 0)))) hl.1 rfl rfl (Nat.le_of_ble_eq_true rfl) ⟨Nat.zero_le _, Nat.zero_le _⟩ dL_back_29) (fun H locs hM hS => ?_)
    have hM : mm_P G kR 731 M13 H := hM
    refine lv_pop hx hb dL_back_32 rfl ?_
    refine lv_aload_n hx hb dL_back_33 rfl (lv_at hl 2 rfl) ?_
    refine lv_iconst (v := 1) hx hb dL_back_34 (by decide) ?_
    refine lv_iload_n hx hb dL_back_35 rfl (lv_at hl 3 rfl) ?_
    refine lv_iconst (v := 4) hx hb dL_back_36 (by decide) ?_
    refine lv_ishr hx hb dL_back_37 ?_
    refine lv_bipush (v := 40) hx hb dL_back_38 (by decide) ?_
    obtain ⟨r15, e14, heq⟩ := bn_of heq
    refine mm_ki hS (mm_runS (rest := [.int 1, .ref (mm_lo G + 0)]) C hM hS (tL_up l G M13 (x1 >>> (4 &&& 31)) 40 r15 e14) (uL_23 _ (Nat.le_of_ble_eq_true rfl) (Nat.le_of_ble_eq_true rfl)) hl.1 rfl rfl (Nat.le_of_ble_eq_true rfl) ⟨Nat.zero_le _, Nat.zero_le _⟩ dL_back_40) (fun H locs hM hS => ?_)
    have hM : mm_P G kR 731 M13 H := hM
    refine lv_iadd hx hb dL_back_43 ?_
    obtain ⟨r17, M18, e16, heq⟩ := bn2_of heq
    refine mm_ki hS (mm_runV (o := 0) (rest := []) C hM hS (tX6_days l G M13 (1 + r15) r17 M18 e16) (uL_96 _ (Nat.le_of_ble_eq_true rfl) (Nat.le_of_ble_eq_true rfl)) (mm_recv C hM (kl (rfl : kT 0 = (5, 0))) (ci := 5) rfl (mm_e5 (rfl : kT 0 = (5, 0)))) hl.1 rfl rfl (Nat.le_of_ble_eq_true rfl) ⟨Nat.zero_le _, Nat.zero_le _⟩ dL_back_44) (fun H locs hM hS => ?_)
    have hM : mm_P G kR 731 M18 H := hM
    refine lv_pop hx hb dL_back_47 rfl ?_
    refine lv_aload_n hx hb dL_back_48 rfl (lv_at hl 2 rfl) ?_
    refine lv_iconst (v := 0) hx hb dL_back_49 (by decide) ?_
    refine lv_bipush (v := 9) hx hb dL_back_50 (by decide) ?_
    obtain ⟨r20, M21, e19, heq⟩ := bn2_of heq
    refine mm_ki hS (mm_runV (o := 0) (rest := []) C hM hS (tX6_fine l G M18 0 9 r20 M21 e19) (uL_77 _ (Nat.le_of_ble_eq_true rfl) (Nat.le_of_ble_eq_true rfl)) (mm_recv C hM (kl (rfl : kT 0 = (5, 0))) (ci := 5) rfl (mm_e5 (rfl : kT 0 = (5, 0)))) hl.1 rfl rfl (Nat.le_of_ble_eq_true rfl) ⟨Nat.zero_le _, Nat.zero_le _⟩ dL_back_52) (fun H locs hM hS => ?_)
    have hM : mm_P G kR 731 M21 H := hM
    refine lv_pop hx hb dL_back_55 rfl ?_
    refine lv_aload_n hx hb dL_back_56 rfl (lv_at hl 2 rfl) ?_
    refine lv_bipush (v := 9) hx hb dL_back_57 (by decide) ?_
    refine lv_iconst (v := 1) hx hb dL_back_59 (by decide) ?_
    obtain ⟨r23, M24, e22, heq⟩ := bn2_of heq
    refine mm_ki hS (mm_runV (o := 0) (rest := []) C hM hS (tX6_set l G M21 9 1 r23 M24 e22) (uL_63 _ (Nat.le_of_ble_eq_true rfl) (Nat.le_of_ble_eq_true rfl)) (mm_recv C hM (kl (rfl : kT 0 = (5, 0))) (ci := 5) rfl (mm_e5 (rfl : kT 0 = (5, 0)))) hl.1 rfl rfl (Nat.le_of_ble_eq_true rfl) ⟨Nat.zero_le _, Nat.zero_le _⟩ dL_back_60) (fun H locs hM hS => ?_)
    have hM : mm_P G kR 731 M24 H := hM
    refine lv_pop hx hb dL_back_63 rfl ?_
    refine lv_aload_n hx hb dL_back_64 rfl (lv_at hl 2 rfl) ?_
    refine lv_bipush (v := 7) hx hb dL_back_65 (by decide) ?_
    obtain ⟨r26, e25, heq⟩ := bn_of heq
    refine mm_ki hS (mm_runV (o := 0) (rest := []) C hM hS (tX6_count l G M24 7 r26 e25) (uL_60 _ (Nat.le_of_ble_eq_true rfl) (Nat.le_of_ble_eq_true rfl)) (mm_recv C hM (kl (rfl : kT 0 = (5, 0))) (ci := 5) rfl (mm_e5 (rfl : kT 0 = (5, 0)))) hl.1 rfl rfl (Nat.le_of_ble_eq_true rfl) ⟨Nat.zero_le _, Nat.zero_le _⟩ dL_back_67) (fun H locs hM hS => ?_)
    have hM : mm_P G kR 731 M24 H := hM
    refine lv_istore (lv' := [(4, .int r26), (3, .int r8), (2, .int r2), (0, .ref (mm_lo G + 0)), (1, .int x1)]) hx hb dL_back_70 hl (by decide) rfl (fun ls hl => ?_)
    refine lv_iconst (v := 1) hx hb dL_back_72 (by decide) ?_
    refine lv_istore (lv' := [(5, .int 1), (4, .int r26), (3, .int r8), (2, .int r2), (0, .ref (mm_lo G + 0)), (1, .int x1)]) hx hb dL_back_73 hl (by decide) rfl (fun ls hl => ?_)
    exact tL_back_75 C x1 FU _ _ _ _ _ _ _ _ hM hS (lv_sub hl [4, 3, 2, 1, 0] rfl) heq
  · have heq := if_f c6 heq
    refine lv_iconst (v := 0) hx hb dL_back_15 (by decide) ?_
    cases heq
    exact mm_zret C hM hS dL_back_16

set_option maxRecDepth 100000 in
set_option maxHeartbeats 4000000 in
theorem tL_refused_23 (C : mm_C G p s m args meth c RL cL_refused 3 (some .boolean)) (x1 : Int32) {r : Bool} {M9 : mm_M} : ∀ (M : mm_M) (t0 : Int32) (H : Heap) (locs : List Loc) (ls : Array Slot), mm_P G kR 731 M H → va_S (mm_A G) s.heap H locs → lv_has ls 3 [(0, .ref (mm_lo G + 0))] → fL_refused_23 x1 M t0 = some (r, M9) → W p l e rmL_refused s m args below meth c H locs 0 0 (MQ below (mm_Qi G (b2i r) (kR, 731, M9)) args s 0 0 (mm_A G)) (F0 m 23 ls [.int t0]) := by
  obtain ⟨hx, hb, -, -, -, -, -, -, hZ, -⟩ := id C
  intro M t0 H locs ls hM hS hl heq
  rw [fL_refused_23] at heq
  refine lv_istore_n (lv' := [(2, .int t0), (0, .ref (mm_lo G + 0))]) hx hb dL_refused_23 rfl hl (by decide) rfl (fun ls hl => ?_)
  refine lv_aload_n hx hb dL_refused_24 rfl (lv_at hl 1 rfl) ?_
  refine lv_iload_n hx hb dL_refused_25 rfl (lv_at hl 0 rfl) ?_
  refine lv_iconst (v := 1) hx hb dL_refused_26 (by decide) ?_
  obtain ⟨r2, M3, e1, heq⟩ := bn2_of heq
  refine mm_ki hS (mm_runV (o := 0) (rest := []) C hM hS (tX6_set l G M t0 1 r2 M3 e1) (uL_63 _ (Nat.le_of_ble_eq_true rfl) (Nat.le_of_ble_eq_true rfl)) (mm_recv C hM (kl (rfl : kT 0 = (5, 0))) (ci := 5) rfl (mm_e5 (rfl : kT 0 = (5, 0)))) hl.1 rfl rfl (Nat.le_of_ble_eq_true rfl) ⟨Nat.zero_le _, Nat.zero_le _⟩ dL_refused_27) (fun H locs hM hS => ?_)
  have hM : mm_P G kR 731 M3 H := hM
  refine lv_bipush (v := (-2)) hx hb dL_refused_30 (by decide) ?_
  refine lv_icmp_ne (tgt := 332) hx hb dL_refused_32 (by decide) (fun c4 => ?_) (fun c4 => ?_)
  · have heq := if_f c4 heq
    refine lv_iconst (v := 0) hx hb dL_refused_332 (by decide) ?_
    cases heq
    exact mm_zret C hM hS dL_refused_333
  · have heq := if_t c4 heq
    refine lv_aload_n hx hb dL_refused_35 rfl (lv_at hl 1 rfl) ?_
    refine lv_iconst (v := 0) hx hb dL_refused_36 (by decide) ?_
    refine lv_iload_n hx hb dL_refused_37 rfl (lv_at hl 0 rfl) ?_
    obtain ⟨r6, M7, e5, heq⟩ := bn2_of heq
    refine mm_ki hS (mm_runV (o := 0) (rest := []) C hM hS (tX6_set l G M3 0 t0 r6 M7 e5) (uL_63 _ (Nat.le_of_ble_eq_true rfl) (Nat.le_of_ble_eq_true rfl)) (mm_recv C hM (kl (rfl : kT 0 = (5, 0))) (ci := 5) rfl (mm_e5 (rfl : kT 0 = (5, 0)))) hl.1 rfl rfl (Nat.le_of_ble_eq_true rfl) ⟨Nat.zero_le _, Nat.zero_le _⟩ dL_refused_38) (fun H locs hM hS => ?_)
    have hM : mm_P G kR 731 M7 H := hM
    refine lv_bipush (v := (-2)) hx hb dL_refused_41 (by decide) ?_
    refine lv_icmp_ne (tgt := 332) hx hb dL_refused_43 (by decide) (fun c8 => ?_) (fun c8 => ?_)
    · have heq := if_f c8 heq
      refine lv_iconst (v := 0) hx hb dL_refused_332 (by decide) ?_
      cases heq
      exact mm_zret C hM hS dL_refused_333
    · have heq := if_t c8 heq
      refine lv_aload_n hx hb dL_refused_46 rfl (lv_at hl 1 rfl) ?_
      refine lv_iload_n hx hb dL_refused_47 rfl (lv_at hl 0 rfl) ?_
      obtain ⟨r10, M11, e9, heq⟩ := bn2_of heq
      refine mm_ki hS (mm_runV (o := 0) (rest := []) C hM hS (tX6_seed l G M7 t0 r10 M11 e9) (uL_27 _ (Nat.le_of_ble_eq_true rfl) (Nat.le_of_ble_eq_true rfl)) (mm_recv C hM (kl (rfl : kT 0 = (5, 0))) (ci := 5) rfl (mm_e5 (rfl : kT 0 = (5, 0)))) hl.1 rfl rfl (Nat.le_of_ble_eq_true rfl) ⟨Nat.zero_le _, Nat.zero_le _⟩ dL_refused_48) (fun H locs hM hS => ?_)
      have hM : mm_P G kR 731 M11 H := hM
      refine lv_bipush (v := (-2)) hx hb dL_refused_51 (by decide) ?_
      refine lv_icmp_ne (tgt := 332) hx hb dL_refused_53 (by decide) (fun c12 => ?_) (fun c12 => ?_)
      · have heq := if_f c12 heq
        refine lv_iconst (v := 0) hx hb dL_refused_332 (by decide) ?_
        cases heq
        exact mm_zret C hM hS dL_refused_333
      · have heq := if_t c12 heq
        refine lv_aload_n hx hb dL_refused_56 rfl (lv_at hl 1 rfl) ?_
        refine lv_iload_n hx hb dL_refused_57 rfl (lv_at hl 0 rfl) ?_
        obtain ⟨r14, M15, e13, heq⟩ := bn2_of heq
        refine mm_ki hS (mm_runV (o := 0) (rest := []) C hM hS (tX6_pitch l G M11 t0 r14 M15 e13) (uL_34 _ (Nat.le_of_ble_eq_true rfl) (Nat.le_of_ble_eq_true rfl)) (mm_recv C hM (kl (rfl : kT 0 = (5, 0))) (ci := 5) rfl (mm_e5 (rfl : kT 0 = (5, 0)))) hl.1 rfl rfl (Nat.le_of_ble_eq_true rfl) ⟨Nat.zero_le _, Nat.zero_le _⟩ dL_refused_58) (fun H locs hM hS => ?_)
        have hM : mm_P G kR 731 M15 H := hM
        refine lv_bipush (v := (-2)) hx hb dL_refused_61 (by decide) ?_
        refine lv_icmp_ne (tgt := 332) hx hb dL_refused_63 (by decide) (fun c16 => ?_) (fun c16 => ?_)
        · have heq := if_f c16 heq
          refine lv_iconst (v := 0) hx hb dL_refused_332 (by decide) ?_
          cases heq
          exact mm_zret C hM hS dL_refused_333
        · have heq := if_t c16 heq
          refine lv_aload_n hx hb dL_refused_66 rfl (lv_at hl 1 rfl) ?_
          refine lv_iload_n hx hb dL_refused_67 rfl (lv_at hl 0 rfl) ?_
          refine lv_iconst (v := 0) hx hb dL_refused_68 (by decide) ?_
          obtain ⟨r18, M19, e17, heq⟩ := bn2_of heq
          refine mm_ki hS (mm_runV (o := 0) (rest := []) C hM hS (tX6_rent l G M15 t0 0 r18 M19 e17) (uL_93 _ (Nat.le_of_ble_eq_true rfl) (Nat.le_of_ble_eq_true rfl)) (mm_recv C hM (kl (rfl : kT 0 = (5, 0))) (ci := 5) rfl (mm_e5 (rfl : kT 0 = (5, 0)))) hl.1 rfl rfl (Nat.le_of_ble_eq_true rfl) ⟨Nat.zero_le _, Nat.zero_le _⟩ dL_refused_69) (fun H locs hM hS => ?_)
          have hM : mm_P G kR 731 M19 H := hM
          refine lv_iconst (v := (-1)) hx hb dL_refused_72 (by decide) ?_
          refine lv_icmp_ne (tgt := 332) hx hb dL_refused_73 (by decide) (fun c20 => ?_) (fun c20 => ?_)
          · have heq := if_f c20 heq
            refine lv_iconst (v := 0) hx hb dL_refused_332 (by decide) ?_
            cases heq
            exact mm_zret C hM hS dL_refused_333
          · have heq := if_t c20 heq
            refine lv_aload_n hx hb dL_refused_76 rfl (lv_at hl 1 rfl) ?_
            refine lv_iload_n hx hb dL_refused_77 rfl (lv_at hl 0 rfl) ?_
            refine lv_iconst (v := 1) hx hb dL_refused_78 (by decide) ?_
            obtain ⟨r22, M23, e21, heq⟩ := bn2_of heq
            refine mm_ki hS (mm_runV (o := 0) (rest := []) C hM hS (tX6_cart l G M19 t0 1 r22 M23 e21) (uL_37 _ (Nat.le_of_ble_eq_true rfl) (Nat.le_of_ble_eq_true rfl)) (mm_recv C hM (kl (rfl : kT 0 = (5, 0))) (ci := 5) rfl (mm_e5 (rfl : kT 0 = (5, 0)))) hl.1 rfl rfl (Nat.le_of_ble_eq_true rfl) ⟨Nat.zero_le _, Nat.zero_le _⟩ dL_refused_79) (fun H locs hM hS => ?_)
            have hM : mm_P G kR 731 M23 H := hM
            refine lv_bipush (v := (-2)) hx hb dL_refused_82 (by decide) ?_
            refine lv_icmp_ne (tgt := 332) hx hb dL_refused_84 (by decide) (fun c24 => ?_) (fun c24 => ?_)
            · have heq := if_f c24 heq
              refine lv_iconst (v := 0) hx hb dL_refused_332 (by decide) ?_
              cases heq
              exact mm_zret C hM hS dL_refused_333
            · have heq := if_t c24 heq
              refine lv_aload_n hx hb dL_refused_87 rfl (lv_at hl 1 rfl) ?_
              refine lv_iconst (v := 0) hx hb dL_refused_88 (by decide) ?_
              refine lv_iload_n hx hb dL_refused_89 rfl (lv_at hl 0 rfl) ?_
              obtain ⟨r26, M27, e25, heq⟩ := bn2_of heq
              refine mm_ki hS (mm_runV (o := 0) (rest := []) C hM hS (tX6_cart l G M23 0 t0 r26 M27 e25) (uL_37 _ (Nat.le_of_ble_eq_true rfl) (Nat.le_of_ble_eq_true rfl)) (mm_recv C hM (kl (rfl : kT 0 = (5, 0))) (ci := 5) rfl (mm_e5 (rfl : kT 0 = (5, 0)))) hl.1 rfl rfl (Nat.le_of_ble_eq_true rfl) ⟨Nat.zero_le _, Nat.zero_le _⟩ dL_refused_90) (fun H locs hM hS => ?_)
              have hM : mm_P G kR 731 M27 H := hM
              refine lv_bipush (v := (-2)) hx hb dL_refused_93 (by decide) ?_
              refine lv_icmp_ne (tgt := 332) hx hb dL_refused_95 (by decide) (fun c28 => ?_) (fun c28 => ?_)
              · have heq := if_f c28 heq
                refine lv_iconst (v := 0) hx hb dL_refused_332 (by decide) ?_
                cases heq
                exact mm_zret C hM hS dL_refused_333
              · have heq := if_t c28 heq
                refine lv_aload_n hx hb dL_refused_98 rfl (lv_at hl 1 rfl) ?_
                refine lv_iload_n hx hb dL_refused_99 rfl (lv_at hl 0 rfl) ?_
                refine lv_iconst (v := 0) hx hb dL_refused_100 (by decide) ?_
                refine lv_iconst (v := 0) hx hb dL_refused_101 (by decide) ?_
                refine lv_iconst (v := 0) hx hb dL_refused_102 (by decide) ?_
                obtain ⟨r30, M31, e29, heq⟩ := bn2_of heq
                refine mm_ki hS (mm_runV (o := 0) (rest := []) C hM hS (tX6_wish l G M27 t0 0 0 0 r30 M31 e29) (uL_69 _ (Nat.le_of_ble_eq_true rfl) (Nat.le_of_ble_eq_true rfl)) (mm_recv C hM (kl (rfl : kT 0 = (5, 0))) (ci := 5) rfl (mm_e5 (rfl : kT 0 = (5, 0)))) hl.1 rfl rfl (Nat.le_of_ble_eq_true rfl) ⟨Nat.zero_le _, Nat.zero_le _⟩ dL_refused_103) (fun H locs hM hS => ?_)
                have hM : mm_P G kR 731 M31 H := hM
                refine lv_iconst (v := (-1)) hx hb dL_refused_106 (by decide) ?_
                refine lv_icmp_ne (tgt := 332) hx hb dL_refused_107 (by decide) (fun c32 => ?_) (fun c32 => ?_)
                · have heq := if_f c32 heq
                  refine lv_iconst (v := 0) hx hb dL_refused_332 (by decide) ?_
                  cases heq
                  exact mm_zret C hM hS dL_refused_333
                · have heq := if_t c32 heq
                  refine lv_aload_n hx hb dL_refused_110 rfl (lv_at hl 1 rfl) ?_
                  refine lv_iload_n hx hb dL_refused_111 rfl (lv_at hl 0 rfl) ?_
                  refine lv_iconst (v := 1) hx hb dL_refused_112 (by decide) ?_
                  obtain ⟨r34, M35, e33, heq⟩ := bn2_of heq
                  refine mm_ki hS (mm_runV (o := 0) (rest := []) C hM hS (tX6_fine l G M31 t0 1 r34 M35 e33) (uL_77 _ (Nat.le_of_ble_eq_true rfl) (Nat.le_of_ble_eq_true rfl)) (mm_recv C hM (kl (rfl : kT 0 = (5, 0))) (ci := 5) rfl (mm_e5 (rfl : kT 0 = (5, 0)))) hl.1 rfl rfl (Nat.le_of_ble_eq_true rfl) ⟨Nat.zero_le _, Nat.zero_le _⟩ dL_refused_113) (fun H locs hM hS => ?_)
                  have hM : mm_P G kR 731 M35 H := hM
                  refine lv_iconst (v := (-1)) hx hb dL_refused_116 (by decide) ?_
                  refine lv_icmp_ne (tgt := 332) hx hb dL_refused_117 (by decide) (fun c36 => ?_) (fun c36 => ?_)
                  · have heq := if_f c36 heq
                    refine lv_iconst (v := 0) hx hb dL_refused_332 (by decide) ?_
                    cases heq
                    exact mm_zret C hM hS dL_refused_333
                  · have heq := if_t c36 heq
                    refine lv_aload_n hx hb dL_refused_120 rfl (lv_at hl 1 rfl) ?_
                    refine lv_iload_n hx hb dL_refused_121 rfl (lv_at hl 0 rfl) ?_
                    obtain ⟨r38, M39, e37, heq⟩ := bn2_of heq
                    refine mm_ki hS (mm_runV (o := 0) (rest := []) C hM hS (tX6_check l G M35 t0 r38 M39 e37) (uL_80 _ (Nat.le_of_ble_eq_true rfl) (Nat.le_of_ble_eq_true rfl)) (mm_recv C hM (kl (rfl : kT 0 = (5, 0))) (ci := 5) rfl (mm_e5 (rfl : kT 0 = (5, 0)))) hl.1 rfl rfl (Nat.le_of_ble_eq_true rfl) ⟨Nat.zero_le _, Nat.zero_le _⟩ dL_refused_122) (fun H locs hM hS => ?_)
                    have hM : mm_P G kR 731 M39 H := hM
                    refine lv_iconst (v := (-1)) hx hb dL_refused_125 (by decide) ?_
                    refine lv_icmp_ne (tgt := 332) hx hb dL_refused_126 (by decide) (fun c40 => ?_) (fun c40 => ?_)
                    · have heq := if_f c40 heq
                      refine lv_iconst (v := 0) hx hb dL_refused_332 (by decide) ?_
                      cases heq
                      exact mm_zret C hM hS dL_refused_333
                    · have heq := if_t c40 heq
                      refine lv_aload_n hx hb dL_refused_129 rfl (lv_at hl 1 rfl) ?_
                      refine lv_iload_n hx hb dL_refused_130 rfl (lv_at hl 0 rfl) ?_
                      refine lv_iconst (v := 0) hx hb dL_refused_131 (by decide) ?_
                      obtain ⟨r42, M43, e41, heq⟩ := bn2_of heq
                      refine mm_ki hS (mm_runV (o := 0) (rest := []) C hM hS (tX6_swap l G M39 t0 0 r42 M43 e41) (uL_83 _ (Nat.le_of_ble_eq_true rfl) (Nat.le_of_ble_eq_true rfl)) (mm_recv C hM (kl (rfl : kT 0 = (5, 0))) (ci := 5) rfl (mm_e5 (rfl : kT 0 = (5, 0)))) hl.1 rfl rfl (Nat.le_of_ble_eq_true rfl) ⟨Nat.zero_le _, Nat.zero_le _⟩ dL_refused_132) (fun H locs hM hS => ?_)
                      have hM : mm_P G kR 731 M43 H := hM
                      refine lv_iconst (v := (-1)) hx hb dL_refused_135 (by decide) ?_
                      refine lv_icmp_ne (tgt := 332) hx hb dL_refused_136 (by decide) (fun c44 => ?_) (fun c44 => ?_)
                      · have heq := if_f c44 heq
                        refine lv_iconst (v := 0) hx hb dL_refused_332 (by decide) ?_
                        cases heq
                        exact mm_zret C hM hS dL_refused_333
                      · have heq := if_t c44 heq
                        refine lv_aload_n hx hb dL_refused_139 rfl (lv_at hl 1 rfl) ?_
                        refine lv_iload_n hx hb dL_refused_140 rfl (lv_at hl 0 rfl) ?_
                        refine lv_iconst (v := 1) hx hb dL_refused_141 (by decide) ?_
                        obtain ⟨r46, M47, e45, heq⟩ := bn2_of heq
                        refine mm_ki hS (mm_runV (o := 0) (rest := []) C hM hS (tX6_pay l G M43 t0 1 r46 M47 e45) (uL_87 _ (Nat.le_of_ble_eq_true rfl) (Nat.le_of_ble_eq_true rfl)) (mm_recv C hM (kl (rfl : kT 0 = (5, 0))) (ci := 5) rfl (mm_e5 (rfl : kT 0 = (5, 0)))) hl.1 rfl rfl (Nat.le_of_ble_eq_true rfl) ⟨Nat.zero_le _, Nat.zero_le _⟩ dL_refused_142) (fun H locs hM hS => ?_)
                        have hM : mm_P G kR 731 M47 H := hM
                        refine lv_iconst (v := (-1)) hx hb dL_refused_145 (by decide) ?_
                        refine lv_icmp_ne (tgt := 332) hx hb dL_refused_146 (by decide) (fun c48 => ?_) (fun c48 => ?_)
                        · have heq := if_f c48 heq
                          refine lv_iconst (v := 0) hx hb dL_refused_332 (by decide) ?_
                          cases heq
                          exact mm_zret C hM hS dL_refused_333
                        · have heq := if_t c48 heq
                          refine lv_aload_n hx hb dL_refused_149 rfl (lv_at hl 1 rfl) ?_
                          refine lv_iload_n hx hb dL_refused_150 rfl (lv_at hl 0 rfl) ?_
                          obtain ⟨r50, M51, e49, heq⟩ := bn2_of heq
                          refine mm_ki hS (mm_runV (o := 0) (rest := []) C hM hS (tX6_days l G M47 t0 r50 M51 e49) (uL_96 _ (Nat.le_of_ble_eq_true rfl) (Nat.le_of_ble_eq_true rfl)) (mm_recv C hM (kl (rfl : kT 0 = (5, 0))) (ci := 5) rfl (mm_e5 (rfl : kT 0 = (5, 0)))) hl.1 rfl rfl (Nat.le_of_ble_eq_true rfl) ⟨Nat.zero_le _, Nat.zero_le _⟩ dL_refused_151) (fun H locs hM hS => ?_)
                          have hM : mm_P G kR 731 M51 H := hM
                          refine lv_bipush (v := (-2)) hx hb dL_refused_154 (by decide) ?_
                          refine lv_icmp_ne (tgt := 332) hx hb dL_refused_156 (by decide) (fun c52 => ?_) (fun c52 => ?_)
                          · have heq := if_f c52 heq
                            refine lv_iconst (v := 0) hx hb dL_refused_332 (by decide) ?_
                            cases heq
                            exact mm_zret C hM hS dL_refused_333
                          · have heq := if_t c52 heq
                            refine lv_aload_n hx hb dL_refused_159 rfl (lv_at hl 1 rfl) ?_
                            refine lv_iload_n hx hb dL_refused_160 rfl (lv_at hl 0 rfl) ?_
                            refine lv_iconst (v := 0) hx hb dL_refused_161 (by decide) ?_
                            obtain ⟨r54, e53, heq⟩ := bn_of heq
                            refine mm_ki hS (mm_runV (o := 0) (rest := []) C hM hS (tX6_ofCart l G M51 t0 0 r54 e53) (uL_66 _ (Nat.le_of_ble_eq_true rfl) (Nat.le_of_ble_eq_true rfl)) (mm_recv C hM (kl (rfl : kT 0 = (5, 0))) (ci := 5) rfl (mm_e5 (rfl : kT 0 = (5, 0)))) hl.1 rfl rfl (Nat.le_of_ble_eq_true rfl) ⟨Nat.zero_le _, Nat.zero_le _⟩ dL_refused_162) (fun H locs hM hS => ?_)
                            have hM : mm_P G kR 731 M51 H := hM
                            refine lv_iconst (v := (-1)) hx hb dL_refused_165 (by decide) ?_
                            refine lv_icmp_ne (tgt := 332) hx hb dL_refused_166 (by decide) (fun c55 => ?_) (fun c55 => ?_)
                            · have heq := if_f c55 heq
                              refine lv_iconst (v := 0) hx hb dL_refused_332 (by decide) ?_
                              cases heq
                              exact mm_zret C hM hS dL_refused_333
                            · have heq := if_t c55 heq
                              refine lv_aload_n hx hb dL_refused_169 rfl (lv_at hl 1 rfl) ?_
                              refine lv_iload_n hx hb dL_refused_170 rfl (lv_at hl 0 rfl) ?_
                              refine lv_iconst (v := 0) hx hb dL_refused_171 (by decide) ?_
                              obtain ⟨r57, e56, heq⟩ := bn_of heq
                              refine mm_kl hS (mm_runV (o := 0) (rest := []) C hM hS (tX6_money l G M51 t0 0 r57 e56) (uL_73 _ (Nat.le_of_ble_eq_true rfl) (Nat.le_of_ble_eq_true rfl)) (mm_recv C hM (kl (rfl : kT 0 = (5, 0))) (ci := 5) rfl (mm_e5 (rfl : kT 0 = (5, 0)))) hl.1 rfl rfl (Nat.le_of_ble_eq_true rfl) ⟨Nat.zero_le _, Nat.zero_le _⟩ dL_refused_172) (fun H locs hM hS => ?_)
                              have hM : mm_P G kR 731 M51 H := hM
                              refine mm_ldc2 C kL_177 dL_refused_175 ?_
                              refine W.lcmp hx hb dL_refused_178 ?_
                              refine lv_if_ne (tgt := 332) hx hb dL_refused_179 (by decide) (fun c58 => ?_) (fun c58 => ?_)
                              · have heq := if_f c58 heq
                                refine lv_iconst (v := 0) hx hb dL_refused_332 (by decide) ?_
                                cases heq
                                exact mm_zret C hM hS dL_refused_333
                              · have heq := if_t c58 heq
                                refine lv_aload_n hx hb dL_refused_182 rfl (lv_at hl 1 rfl) ?_
                                refine lv_iload_n hx hb dL_refused_183 rfl (lv_at hl 0 rfl) ?_
                                refine lv_iconst (v := 0) hx hb dL_refused_184 (by decide) ?_
                                obtain ⟨r60, e59, heq⟩ := bn_of heq
                                refine mm_ki hS (mm_runV (o := 0) (rest := []) C hM hS (tX6_ofPitch l G M51 t0 0 r60 e59) (uL_90 _ (Nat.le_of_ble_eq_true rfl) (Nat.le_of_ble_eq_true rfl)) (mm_recv C hM (kl (rfl : kT 0 = (5, 0))) (ci := 5) rfl (mm_e5 (rfl : kT 0 = (5, 0)))) hl.1 rfl rfl (Nat.le_of_ble_eq_true rfl) ⟨Nat.zero_le _, Nat.zero_le _⟩ dL_refused_185) (fun H locs hM hS => ?_)
                                have hM : mm_P G kR 731 M51 H := hM
                                refine lv_iconst (v := (-1)) hx hb dL_refused_188 (by decide) ?_
                                refine lv_icmp_ne (tgt := 332) hx hb dL_refused_189 (by decide) (fun c61 => ?_) (fun c61 => ?_)
                                · have heq := if_f c61 heq
                                  refine lv_iconst (v := 0) hx hb dL_refused_332 (by decide) ?_
                                  cases heq
                                  exact mm_zret C hM hS dL_refused_333
                                · have heq := if_t c61 heq
                                  refine lv_aload_n hx hb dL_refused_192 rfl (lv_at hl 1 rfl) ?_
                                  refine lv_iload_n hx hb dL_refused_193 rfl (lv_at hl 0 rfl) ?_
                                  obtain ⟨r63, e62, heq⟩ := bn_of heq
                                  refine mm_ki hS (mm_runV (o := 0) (rest := []) C hM hS (tX6_count l G M51 t0 r63 e62) (uL_60 _ (Nat.le_of_ble_eq_true rfl) (Nat.le_of_ble_eq_true rfl)) (mm_recv C hM (kl (rfl : kT 0 = (5, 0))) (ci := 5) rfl (mm_e5 (rfl : kT 0 = (5, 0)))) hl.1 rfl rfl (Nat.le_of_ble_eq_true rfl) ⟨Nat.zero_le _, Nat.zero_le _⟩ dL_refused_194) (fun H locs hM hS => ?_)
                                  have hM : mm_P G kR 731 M51 H := hM
                                  refine lv_bipush (v := (-2)) hx hb dL_refused_197 (by decide) ?_
                                  refine lv_icmp_ne (tgt := 332) hx hb dL_refused_199 (by decide) (fun c64 => ?_) (fun c64 => ?_)
                                  · have heq := if_f c64 heq
                                    refine lv_iconst (v := 0) hx hb dL_refused_332 (by decide) ?_
                                    cases heq
                                    exact mm_zret C hM hS dL_refused_333
                                  · have heq := if_t c64 heq
                                    refine lv_aload_n hx hb dL_refused_202 rfl (lv_at hl 1 rfl) ?_
                                    refine lv_iload_n hx hb dL_refused_203 rfl (lv_at hl 0 rfl) ?_
                                    refine lv_iconst (v := 0) hx hb dL_refused_204 (by decide) ?_
                                    obtain ⟨r66, e65, heq⟩ := bn_of heq
                                    refine mm_ki hS (mm_runV (o := 0) (rest := []) C hM hS (tX6_pointsOn l G M51 t0 0 r66 e65) (uL_147 _ (Nat.le_of_ble_eq_true rfl) (Nat.le_of_ble_eq_true rfl)) (mm_recv C hM (kl (rfl : kT 0 = (5, 0))) (ci := 5) rfl (mm_e5 (rfl : kT 0 = (5, 0)))) hl.1 rfl rfl (Nat.le_of_ble_eq_true rfl) ⟨Nat.zero_le _, Nat.zero_le _⟩ dL_refused_205) (fun H locs hM hS => ?_)
                                    have hM : mm_P G kR 731 M51 H := hM
                                    refine lv_iconst (v := (-1)) hx hb dL_refused_208 (by decide) ?_
                                    refine lv_icmp_ne (tgt := 332) hx hb dL_refused_209 (by decide) (fun c67 => ?_) (fun c67 => ?_)
                                    · have heq := if_f c67 heq
                                      refine lv_iconst (v := 0) hx hb dL_refused_332 (by decide) ?_
                                      cases heq
                                      exact mm_zret C hM hS dL_refused_333
                                    · have heq := if_t c67 heq
                                      refine lv_aload_n hx hb dL_refused_212 rfl (lv_at hl 1 rfl) ?_
                                      refine lv_iload_n hx hb dL_refused_213 rfl (lv_at hl 0 rfl) ?_
                                      obtain ⟨r69, M70, e68, heq⟩ := bn2_of heq
                                      refine mm_ki hS (mm_runV (o := 0) (rest := []) C hM hS (tX6_wouldHave l G M51 t0 r69 M70 e68) (uL_150 _ (Nat.le_of_ble_eq_true rfl) (Nat.le_of_ble_eq_true rfl)) (mm_recv C hM (kl (rfl : kT 0 = (5, 0))) (ci := 5) rfl (mm_e5 (rfl : kT 0 = (5, 0)))) hl.1 rfl rfl (Nat.le_of_ble_eq_true rfl) ⟨Nat.zero_le _, Nat.zero_le _⟩ dL_refused_214) (fun H locs hM hS => ?_)
                                      have hM : mm_P G kR 731 M70 H := hM
                                      refine lv_iconst (v := (-1)) hx hb dL_refused_217 (by decide) ?_
                                      refine lv_icmp_ne (tgt := 332) hx hb dL_refused_218 (by decide) (fun c71 => ?_) (fun c71 => ?_)
                                      · have heq := if_f c71 heq
                                        refine lv_iconst (v := 0) hx hb dL_refused_332 (by decide) ?_
                                        cases heq
                                        exact mm_zret C hM hS dL_refused_333
                                      · have heq := if_t c71 heq
                                        refine lv_aload_n hx hb dL_refused_221 rfl (lv_at hl 1 rfl) ?_
                                        refine lv_iload_n hx hb dL_refused_222 rfl (lv_at hl 0 rfl) ?_
                                        refine lv_iconst (v := 0) hx hb dL_refused_223 (by decide) ?_
                                        obtain ⟨r73, M74, e72, heq⟩ := bn2_of heq
                                        refine mm_ki hS (mm_runV (o := 0) (rest := []) C hM hS (tX6_ifWished l G M70 t0 0 r73 M74 e72) (uL_153 _ (Nat.le_of_ble_eq_true rfl) (Nat.le_of_ble_eq_true rfl)) (mm_recv C hM (kl (rfl : kT 0 = (5, 0))) (ci := 5) rfl (mm_e5 (rfl : kT 0 = (5, 0)))) hl.1 rfl rfl (Nat.le_of_ble_eq_true rfl) ⟨Nat.zero_le _, Nat.zero_le _⟩ dL_refused_224) (fun H locs hM hS => ?_)
                                        have hM : mm_P G kR 731 M74 H := hM
                                        refine lv_iconst (v := (-1)) hx hb dL_refused_227 (by decide) ?_
                                        refine lv_icmp_ne (tgt := 332) hx hb dL_refused_228 (by decide) (fun c75 => ?_) (fun c75 => ?_)
                                        · have heq := if_f c75 heq
                                          refine lv_iconst (v := 0) hx hb dL_refused_332 (by decide) ?_
                                          cases heq
                                          exact mm_zret C hM hS dL_refused_333
                                        · have heq := if_t c75 heq
                                          refine lv_aload_n hx hb dL_refused_231 rfl (lv_at hl 1 rfl) ?_
                                          refine lv_iload_n hx hb dL_refused_232 rfl (lv_at hl 0 rfl) ?_
                                          obtain ⟨r77, M78, e76, heq⟩ := bn2_of heq
                                          refine mm_ki hS (mm_runV (o := 0) (rest := []) C hM hS (tX6_firstDay l G M74 t0 r77 M78 e76) (uL_156 _ (Nat.le_of_ble_eq_true rfl) (Nat.le_of_ble_eq_true rfl)) (mm_recv C hM (kl (rfl : kT 0 = (5, 0))) (ci := 5) rfl (mm_e5 (rfl : kT 0 = (5, 0)))) hl.1 rfl rfl (Nat.le_of_ble_eq_true rfl) ⟨Nat.zero_le _, Nat.zero_le _⟩ dL_refused_233) (fun H locs hM hS => ?_)
                                          have hM : mm_P G kR 731 M78 H := hM
                                          refine lv_iconst (v := (-1)) hx hb dL_refused_236 (by decide) ?_
                                          refine lv_icmp_ne (tgt := 332) hx hb dL_refused_237 (by decide) (fun c79 => ?_) (fun c79 => ?_)
                                          · have heq := if_f c79 heq
                                            refine lv_iconst (v := 0) hx hb dL_refused_332 (by decide) ?_
                                            cases heq
                                            exact mm_zret C hM hS dL_refused_333
                                          · have heq := if_t c79 heq
                                            refine lv_aload_n hx hb dL_refused_240 rfl (lv_at hl 1 rfl) ?_
                                            refine lv_iload_n hx hb dL_refused_241 rfl (lv_at hl 0 rfl) ?_
                                            refine lv_iconst (v := 1) hx hb dL_refused_242 (by decide) ?_
                                            obtain ⟨r81, M82, e80, heq⟩ := bn2_of heq
                                            refine mm_ki hS (mm_runV (o := 0) (rest := []) C hM hS (tX6_daysOf l G M78 t0 1 r81 M82 e80) (uL_159 _ (Nat.le_of_ble_eq_true rfl) (Nat.le_of_ble_eq_true rfl)) (mm_recv C hM (kl (rfl : kT 0 = (5, 0))) (ci := 5) rfl (mm_e5 (rfl : kT 0 = (5, 0)))) hl.1 rfl rfl (Nat.le_of_ble_eq_true rfl) ⟨Nat.zero_le _, Nat.zero_le _⟩ dL_refused_243) (fun H locs hM hS => ?_)
                                            have hM : mm_P G kR 731 M82 H := hM
                                            refine lv_iconst (v := (-1)) hx hb dL_refused_246 (by decide) ?_
                                            refine lv_icmp_ne (tgt := 332) hx hb dL_refused_247 (by decide) (fun c83 => ?_) (fun c83 => ?_)
                                            · have heq := if_f c83 heq
                                              refine lv_iconst (v := 0) hx hb dL_refused_332 (by decide) ?_
                                              cases heq
                                              exact mm_zret C hM hS dL_refused_333
                                            · have heq := if_t c83 heq
                                              refine lv_aload_n hx hb dL_refused_250 rfl (lv_at hl 1 rfl) ?_
                                              refine lv_iload_n hx hb dL_refused_251 rfl (lv_at hl 0 rfl) ?_
                                              refine lv_bipush (v := (-6)) hx hb dL_refused_252 (by decide) ?_
                                              obtain ⟨r85, M86, e84, heq⟩ := bn2_of heq
                                              refine mm_ki hS (mm_runV (o := 0) (rest := []) C hM hS (tX6_luckySeed l G M82 t0 (-6) r85 M86 e84) (uL_162 _ (Nat.le_of_ble_eq_true rfl) (Nat.le_of_ble_eq_true rfl)) (mm_recv C hM (kl (rfl : kT 0 = (5, 0))) (ci := 5) rfl (mm_e5 (rfl : kT 0 = (5, 0)))) hl.1 rfl rfl (Nat.le_of_ble_eq_true rfl) ⟨Nat.zero_le _, Nat.zero_le _⟩ dL_refused_254) (fun H locs hM hS => ?_)
                                              have hM : mm_P G kR 731 M86 H := hM
                                              refine lv_iconst (v := (-1)) hx hb dL_refused_257 (by decide) ?_
                                              refine lv_icmp_ne (tgt := 332) hx hb dL_refused_258 (by decide) (fun c87 => ?_) (fun c87 => ?_)
                                              · have heq := if_f c87 heq
                                                refine lv_iconst (v := 0) hx hb dL_refused_332 (by decide) ?_
                                                cases heq
                                                exact mm_zret C hM hS dL_refused_333
                                              · have heq := if_t c87 heq
                                                refine lv_aload_n hx hb dL_refused_261 rfl (lv_at hl 1 rfl) ?_
                                                refine lv_iload_n hx hb dL_refused_262 rfl (lv_at hl 0 rfl) ?_
                                                refine lv_iconst (v := 0) hx hb dL_refused_263 (by decide) ?_
                                                obtain ⟨r89, e88, heq⟩ := bn_of heq
                                                refine mm_ki hS (mm_runV (o := 0) (rest := []) C hM hS (tX6_whyNot l G M86 t0 0 r89 e88) (uL_144 _ (Nat.le_of_ble_eq_true rfl) (Nat.le_of_ble_eq_true rfl)) (mm_recv C hM (kl (rfl : kT 0 = (5, 0))) (ci := 5) rfl (mm_e5 (rfl : kT 0 = (5, 0)))) hl.1 rfl rfl (Nat.le_of_ble_eq_true rfl) ⟨Nat.zero_le _, Nat.zero_le _⟩ dL_refused_264) (fun H locs hM hS => ?_)
                                                have hM : mm_P G kR 731 M86 H := hM
                                                refine lv_iconst (v := (-1)) hx hb dL_refused_267 (by decide) ?_
                                                refine lv_icmp_ne (tgt := 332) hx hb dL_refused_268 (by decide) (fun c90 => ?_) (fun c90 => ?_)
                                                · have heq := if_f c90 heq
                                                  refine lv_iconst (v := 0) hx hb dL_refused_332 (by decide) ?_
                                                  cases heq
                                                  exact mm_zret C hM hS dL_refused_333
                                                · have heq := if_t c90 heq
                                                  refine lv_aload_n hx hb dL_refused_271 rfl (lv_at hl 1 rfl) ?_
                                                  obtain ⟨r92, M93, e91, heq⟩ := bn2_of heq
                                                  refine mm_ki hS (mm_runV (o := 0) (rest := []) C hM hS (tX6_carryOut l G M86 r92 M93 e91) (uL_114 _ (Nat.le_of_ble_eq_true rfl) (Nat.le_of_ble_eq_true rfl)) (mm_recv C hM (kl (rfl : kT 0 = (5, 0))) (ci := 5) rfl (mm_e5 (rfl : kT 0 = (5, 0)))) hl.1 rfl rfl (Nat.le_of_ble_eq_true rfl) ⟨Nat.zero_le _, Nat.zero_le _⟩ dL_refused_272) (fun H locs hM hS => ?_)
                                                  have hM : mm_P G kR 731 M93 H := hM
                                                  refine lv_bipush (v := (-3)) hx hb dL_refused_275 (by decide) ?_
                                                  refine lv_icmp_ne (tgt := 332) hx hb dL_refused_277 (by decide) (fun c94 => ?_) (fun c94 => ?_)
                                                  · have heq := if_f c94 heq
                                                    refine lv_iconst (v := 0) hx hb dL_refused_332 (by decide) ?_
                                                    cases heq
                                                    exact mm_zret C hM hS dL_refused_333
                                                  · have heq := if_t c94 heq
                                                    refine lv_aload_n hx hb dL_refused_280 rfl (lv_at hl 1 rfl) ?_
                                                    obtain ⟨r96, M97, e95, heq⟩ := bn2_of heq
                                                    refine mm_ki hS (mm_runV (o := 0) (rest := []) C hM hS (tX6_undo l G M93 r96 M97 e95) (uL_137 _ (Nat.le_of_ble_eq_true rfl) (Nat.le_of_ble_eq_true rfl)) (mm_recv C hM (kl (rfl : kT 0 = (5, 0))) (ci := 5) rfl (mm_e5 (rfl : kT 0 = (5, 0)))) hl.1 rfl rfl (Nat.le_of_ble_eq_true rfl) ⟨Nat.zero_le _, Nat.zero_le _⟩ dL_refused_281) (fun H locs hM hS => ?_)
                                                    have hM : mm_P G kR 731 M97 H := hM
                                                    refine lv_bipush (v := (-5)) hx hb dL_refused_284 (by decide) ?_
                                                    refine lv_icmp_ne (tgt := 332) hx hb dL_refused_286 (by decide) (fun c98 => ?_) (fun c98 => ?_)
                                                    · have heq := if_f c98 heq
                                                      refine lv_iconst (v := 0) hx hb dL_refused_332 (by decide) ?_
                                                      cases heq
                                                      exact mm_zret C hM hS dL_refused_333
                                                    · have heq := if_t c98 heq
                                                      refine lv_aload_n hx hb dL_refused_289 rfl (lv_at hl 1 rfl) ?_
                                                      refine lv_iload_n hx hb dL_refused_290 rfl (lv_at hl 0 rfl) ?_
                                                      obtain ⟨r100, M101, e99, heq⟩ := bn2_of heq
                                                      refine mm_ki hS (mm_runV (o := 0) (rest := []) C hM hS (tX6_save l G M97 t0 r100 M101 e99) (uL_165 _ (Nat.le_of_ble_eq_true rfl) (Nat.le_of_ble_eq_true rfl)) (mm_recv C hM (kl (rfl : kT 0 = (5, 0))) (ci := 5) rfl (mm_e5 (rfl : kT 0 = (5, 0)))) hl.1 rfl rfl (Nat.le_of_ble_eq_true rfl) ⟨Nat.zero_le _, Nat.zero_le _⟩ dL_refused_291) (fun H locs hM hS => ?_)
                                                      have hM : mm_P G kR 731 M101 H := hM
                                                      refine lv_bipush (v := (-2)) hx hb dL_refused_294 (by decide) ?_
                                                      refine lv_icmp_ne (tgt := 332) hx hb dL_refused_296 (by decide) (fun c102 => ?_) (fun c102 => ?_)
                                                      · have heq := if_f c102 heq
                                                        refine lv_iconst (v := 0) hx hb dL_refused_332 (by decide) ?_
                                                        cases heq
                                                        exact mm_zret C hM hS dL_refused_333
                                                      · have heq := if_t c102 heq
                                                        refine lv_aload_n hx hb dL_refused_299 rfl (lv_at hl 1 rfl) ?_
                                                        refine lv_iload_n hx hb dL_refused_300 rfl (lv_at hl 0 rfl) ?_
                                                        obtain ⟨r104, M105, e103, heq⟩ := bn2_of heq
                                                        refine mm_ki hS (mm_runV (o := 0) (rest := []) C hM hS (tX6_restore l G M101 t0 r104 M105 e103) (uL_168 _ (Nat.le_of_ble_eq_true rfl) (Nat.le_of_ble_eq_true rfl)) (mm_recv C hM (kl (rfl : kT 0 = (5, 0))) (ci := 5) rfl (mm_e5 (rfl : kT 0 = (5, 0)))) hl.1 rfl rfl (Nat.le_of_ble_eq_true rfl) ⟨Nat.zero_le _, Nat.zero_le _⟩ dL_refused_301) (fun H locs hM hS => ?_)
                                                        have hM : mm_P G kR 731 M105 H := hM
                                                        refine lv_bipush (v := (-2)) hx hb dL_refused_304 (by decide) ?_
                                                        refine lv_icmp_ne (tgt := 332) hx hb dL_refused_306 (by decide) (fun c106 => ?_) (fun c106 => ?_)
                                                        · have heq := if_f c106 heq
                                                          refine lv_iconst (v := 0) hx hb dL_refused_332 (by decide) ?_
                                                          cases heq
                                                          exact mm_zret C hM hS dL_refused_333
                                                        · have heq := if_t c106 heq
                                                          refine lv_aload_n hx hb dL_refused_309 rfl (lv_at hl 1 rfl) ?_
                                                          refine lv_iconst (v := 0) hx hb dL_refused_310 (by decide) ?_
                                                          obtain ⟨r108, M109, e107, heq⟩ := bn2_of heq
                                                          refine mm_ki hS (mm_runV (o := 0) (rest := []) C hM hS (tX6_restore l G M105 0 r108 M109 e107) (uL_168 _ (Nat.le_of_ble_eq_true rfl) (Nat.le_of_ble_eq_true rfl)) (mm_recv C hM (kl (rfl : kT 0 = (5, 0))) (ci := 5) rfl (mm_e5 (rfl : kT 0 = (5, 0)))) hl.1 rfl rfl (Nat.le_of_ble_eq_true rfl) ⟨Nat.zero_le _, Nat.zero_le _⟩ dL_refused_311) (fun H locs hM hS => ?_)
                                                          have hM : mm_P G kR 731 M109 H := hM
                                                          refine lv_bipush (v := (-5)) hx hb dL_refused_314 (by decide) ?_
                                                          refine lv_icmp_ne (tgt := 332) hx hb dL_refused_316 (by decide) (fun c110 => ?_) (fun c110 => ?_)
                                                          · have heq := if_f c110 heq
                                                            refine lv_iconst (v := 0) hx hb dL_refused_332 (by decide) ?_
                                                            cases heq
                                                            exact mm_zret C hM hS dL_refused_333
                                                          · have heq := if_t c110 heq
                                                            refine lv_aload_n hx hb dL_refused_319 rfl (lv_at hl 1 rfl) ?_
                                                            refine lv_bipush (v := 7) hx hb dL_refused_320 (by decide) ?_
                                                            obtain ⟨r112, e111, heq⟩ := bn_of heq
                                                            refine mm_ki hS (mm_runV (o := 0) (rest := []) C hM hS (tX6_count l G M109 7 r112 e111) (uL_60 _ (Nat.le_of_ble_eq_true rfl) (Nat.le_of_ble_eq_true rfl)) (mm_recv C hM (kl (rfl : kT 0 = (5, 0))) (ci := 5) rfl (mm_e5 (rfl : kT 0 = (5, 0)))) hl.1 rfl rfl (Nat.le_of_ble_eq_true rfl) ⟨Nat.zero_le _, Nat.zero_le _⟩ dL_refused_322) (fun H locs hM hS => ?_)
                                                            have hM : mm_P G kR 731 M109 H := hM
                                                            refine lv_if_ne (tgt := 332) hx hb dL_refused_325 (by decide) (fun c113 => ?_) (fun c113 => ?_)
                                                            · have heq := if_f c113 heq
                                                              refine lv_iconst (v := 0) hx hb dL_refused_332 (by decide) ?_
                                                              cases heq
                                                              exact mm_zret C hM hS dL_refused_333
                                                            · have heq := if_t c113 heq
                                                              refine lv_iconst (v := 1) hx hb dL_refused_328 (by decide) ?_
                                                              refine lv_goto (tgt := 333) hx hb dL_refused_329 (by decide) ?_
                                                              cases heq
                                                              exact mm_zret C hM hS dL_refused_333

set_option maxRecDepth 100000 in
set_option maxHeartbeats 4000000 in
theorem tL_refused (l : Launch) (G : mm_G) (M : mm_M) (x1 : Int32) (r : Bool) (M9 : mm_M) (heq : fL_refused M x1 = some (r, M9)) : Met l yL_refused (mm_ws yL_refused cL_refused 3 (some .boolean)) rmL_refused (va_Pc [.ref (mm_lo G + 0), .int x1] (mm_B G (kR, 731, M))) (mm_Qi G (b2i r) (kR, 731, M9)) 0 0 (mm_A G) := by
  refine mm_met (cc := cL_refused) (nL := 3) (ret := (some .boolean)) plRL (Nat.le_of_ble_eq_true rfl) ?_
  intro p e s m below meth c ls hin C hM hS hl
  have C : mm_C G p s m _ meth c RL cL_refused 3 (some .boolean) := C
  have hM : mm_P G kR 731 M s.heap := hM
  have hl : lv_has ls 3 [(0, .ref (mm_lo G + 0)), (1, .int x1)] := hl
  obtain ⟨hx, hb, -, -, -, -, -, -, hZ, -⟩ := id C
  rw [fL_refused] at heq
  refine lv_iload_n hx hb dL_refused_0 rfl (lv_at hl 1 rfl) ?_
  refine lv_if_ge (tgt := 16) hx hb dL_refused_1 (by decide) (fun c1 => ?_) (fun c1 => ?_)
  · have heq := if_t c1 heq
    refine lv_iload_n hx hb dL_refused_16 rfl (lv_at hl 1 rfl) ?_
    refine mm_ldc C kL_86 dL_refused_17 ?_
    refine lv_irem hx hb dL_refused_19 (by decide) ?_
    refine mm_ldc C kL_176 dL_refused_20 ?_
    refine lv_iadd hx hb dL_refused_22 ?_
    exact tL_refused_23 C x1 _ _ _ _ _ hM hS (lv_sub hl [0] rfl) heq
  · have heq := if_f c1 heq
    refine lv_bipush (v := (-7)) hx hb dL_refused_4 (by decide) ?_
    refine lv_iload_n hx hb dL_refused_6 rfl (lv_at hl 1 rfl) ?_
    refine mm_ldc C kL_86 dL_refused_7 ?_
    obtain ⟨r3, e2, heq⟩ := bn_of heq
    refine mm_ki hS (mm_runS (rest := [.int (-7)]) C hM hS (tL_up l G M x1 1000000 r3 e2) (uL_23 _ (Nat.le_of_ble_eq_true rfl) (Nat.le_of_ble_eq_true rfl)) hl.1 rfl rfl (Nat.le_of_ble_eq_true rfl) ⟨Nat.zero_le _, Nat.zero_le _⟩ dL_refused_9) (fun H locs hM hS => ?_)
    have hM : mm_P G kR 731 M H := hM
    refine lv_isub hx hb dL_refused_12 ?_
    refine lv_goto (tgt := 23) hx hb dL_refused_13 (by decide) ?_
    exact tL_refused_23 C x1 _ _ _ _ _ hM hS (lv_sub hl [0] rfl) heq

set_option maxRecDepth 100000 in
set_option maxHeartbeats 4000000 in
theorem tL_comes_205 (C : mm_C G p s m args meth c RL cL_comes 16 (some .boolean)) (x1 : Int32) {r : Bool} {M9 : mm_M} {k173 : mm_M → Int32 → Int32 → Int32 → Int32 → Int32 → Int32 → Int32 → Int32 → Int32 → Int32 → Int32 → Int32 → Int32 → Option (Bool × mm_M)} (hk173 : ∀ (M : mm_M) (v2 : Int32) (v3 : Int32) (v4 : Int32) (v5 : Int32) (v6 : Int32) (v7 : Int32) (v8 : Int32) (v9 : Int32) (v10 : Int32) (v11 : Int32) (v12 : Int32) (v13 : Int32) (v14 : Int32) (H : Heap) (locs : List Loc) (ls : Array Slot), mm_P G kR 731 M H → va_S (mm_A G) s.heap H locs → lv_has ls 16 [(0, .ref (mm_lo G + 0)), (1, .int x1), (2, .int v2), (3, .int v3), (4, .int v4), (5, .int v5), (6, .int v6), (7, .int v7), (8, .int v8), (9, .int v9), (10, .int v10), (11, .int v11), (12, .int v12), (13, .int v13), (14, .int v14)] → k173 M v2 v3 v4 v5 v6 v7 v8 v9 v10 v11 v12 v13 v14 = some (r, M9) → W p l e rmL_comes s m args below meth c H locs 0 0 (MQ below (mm_Qi G (b2i r) (kR, 731, M9)) args s 0 0 (mm_A G)) (F0 m 173 ls [])) : ∀ (M : mm_M) (v2 : Int32) (v3 : Int32) (v4 : Int32) (v5 : Int32) (v6 : Int32) (v7 : Int32) (v8 : Int32) (v9 : Int32) (v10 : Int32) (v11 : Int32) (v12 : Int32) (v13 : Int32) (v14 : Int32) (H : Heap) (locs : List Loc) (ls : Array Slot), mm_P G kR 731 M H → va_S (mm_A G) s.heap H locs → lv_has ls 16 [(0, .ref (mm_lo G + 0)), (1, .int x1), (2, .int v2), (3, .int v3), (4, .int v4), (5, .int v5), (6, .int v6), (7, .int v7), (8, .int v8), (9, .int v9), (10, .int v10), (11, .int v11), (12, .int v12), (13, .int v13), (14, .int v14)] → fL_comes_205 x1 k173 M v2 v3 v4 v5 v6 v7 v8 v9 v10 v11 v12 v13 v14 = some (r, M9) → W p l e rmL_comes s m args below meth c H locs 0 0 (MQ below (mm_Qi G (b2i r) (kR, 731, M9)) args s 0 0 (mm_A G)) (F0 m 205 ls []) := by
  obtain ⟨hx, hb, -, -, -, -, -, -, hZ, -⟩ := id C
  intro M v2 v3 v4 v5 v6 v7 v8 v9 v10 v11 v12 v13 v14 H locs ls hM hS hl heq
  rw [fL_comes_205] at heq
  refine lv_iload hx hb dL_comes_205 (lv_at hl 13 rfl) ?_
  refine lv_if_ge (tgt := 225) hx hb dL_comes_207 (by decide) (fun c1 => ?_) (fun c1 => ?_)
  · have heq := if_t c1 heq
    refine lv_iload hx hb dL_comes_225 (lv_at hl 13 rfl) ?_
    refine lv_istore (lv' := [(13, .int v13), (0, .ref (mm_lo G + 0)), (1, .int x1), (2, .int v2), (3, .int v3), (4, .int v4), (5, .int v5), (6, .int v6), (7, .int v7), (8, .int v8), (9, .int v9), (10, .int v10), (11, .int v11), (12, .int v12), (14, .int v14)]) hx hb dL_comes_227 hl (by decide) rfl (fun ls hl => ?_)
    obtain ⟨y2, ey2⟩ : ∃ y : Int32, y = (v14 + 1) := ⟨_, rfl⟩
    have heq := lt_to ey2 heq
    refine lv_iinc (v := y2) (lv' := [(14, .int y2), (13, .int v13), (0, .ref (mm_lo G + 0)), (1, .int x1), (2, .int v2), (3, .int v3), (4, .int v4), (5, .int v5), (6, .int v6), (7, .int v7), (8, .int v8), (9, .int v9), (10, .int v10), (11, .int v11), (12, .int v12)]) hx hb dL_comes_229 hl (k := 14) rfl (by rw [ey2]; rfl) (by decide) rfl (fun ls hl => ?_)
    refine lv_goto (tgt := 173) hx hb dL_comes_232 (by decide) ?_
    exact hk173 _ _ _ _ _ _ _ _ _ _ _ _ _ _ _ _ _ hM hS (lv_sub hl [2, 3, 4, 5, 6, 7, 8, 9, 10, 11, 12, 13, 14, 1, 0] rfl) heq
  · have heq := if_f c1 heq
    refine lv_aload_n hx hb dL_comes_210 rfl (lv_at hl 0 rfl) ?_
    refine lv_iload_n hx hb dL_comes_211 rfl (lv_at hl 3 rfl) ?_
    refine lv_bipush (v := 12) hx hb dL_comes_212 (by decide) ?_
    obtain ⟨r4, e3, heq⟩ := bn_of heq
    refine mm_ki hS (mm_runV (o := 0) (rest := []) C hM hS (tX6_ofCart l G M v3 12 r4 e3) (uL_66 _ (Nat.le_of_ble_eq_true rfl) (Nat.le_of_ble_eq_true rfl)) (mm_recv C hM (kl (rfl : kT 0 = (5, 0))) (ci := 5) rfl (mm_e5 (rfl : kT 0 = (5, 0)))) hl.1 rfl rfl (Nat.le_of_ble_eq_true rfl) ⟨Nat.zero_le _, Nat.zero_le _⟩ dL_comes_214) (fun H locs hM hS => ?_)
    have hM : mm_P G kR 731 M H := hM
    refine lv_if_lt (tgt := 225) hx hb dL_comes_217 (by decide) (fun c5 => ?_) (fun c5 => ?_)
    · have heq := if_t c5 heq
      refine lv_iload hx hb dL_comes_225 (lv_at hl 13 rfl) ?_
      refine lv_istore (lv' := [(13, .int v13), (0, .ref (mm_lo G + 0)), (1, .int x1), (2, .int v2), (3, .int v3), (4, .int v4), (5, .int v5), (6, .int v6), (7, .int v7), (8, .int v8), (9, .int v9), (10, .int v10), (11, .int v11), (12, .int v12), (14, .int v14)]) hx hb dL_comes_227 hl (by decide) rfl (fun ls hl => ?_)
      obtain ⟨y6, ey6⟩ : ∃ y : Int32, y = (v14 + 1) := ⟨_, rfl⟩
      have heq := lt_to ey6 heq
      refine lv_iinc (v := y6) (lv' := [(14, .int y6), (13, .int v13), (0, .ref (mm_lo G + 0)), (1, .int x1), (2, .int v2), (3, .int v3), (4, .int v4), (5, .int v5), (6, .int v6), (7, .int v7), (8, .int v8), (9, .int v9), (10, .int v10), (11, .int v11), (12, .int v12)]) hx hb dL_comes_229 hl (k := 14) rfl (by rw [ey6]; rfl) (by decide) rfl (fun ls hl => ?_)
      refine lv_goto (tgt := 173) hx hb dL_comes_232 (by decide) ?_
      exact hk173 _ _ _ _ _ _ _ _ _ _ _ _ _ _ _ _ _ hM hS (lv_sub hl [2, 3, 4, 5, 6, 7, 8, 9, 10, 11, 12, 13, 14, 1, 0] rfl) heq
    · have heq := if_f c5 heq
      refine lv_iload hx hb dL_comes_220 (lv_at hl 14 rfl) ?_
      refine lv_goto (tgt := 227) hx hb dL_comes_222 (by decide) ?_
      refine lv_istore (lv' := [(13, .int v14), (0, .ref (mm_lo G + 0)), (1, .int x1), (2, .int v2), (3, .int v3), (4, .int v4), (5, .int v5), (6, .int v6), (7, .int v7), (8, .int v8), (9, .int v9), (10, .int v10), (11, .int v11), (12, .int v12), (14, .int v14)]) hx hb dL_comes_227 hl (by decide) rfl (fun ls hl => ?_)
      obtain ⟨y7, ey7⟩ : ∃ y : Int32, y = (v14 + 1) := ⟨_, rfl⟩
      have heq := lt_to ey7 heq
      refine lv_iinc (v := y7) (lv' := [(14, .int y7), (13, .int v14), (0, .ref (mm_lo G + 0)), (1, .int x1), (2, .int v2), (3, .int v3), (4, .int v4), (5, .int v5), (6, .int v6), (7, .int v7), (8, .int v8), (9, .int v9), (10, .int v10), (11, .int v11), (12, .int v12)]) hx hb dL_comes_229 hl (k := 14) rfl (by rw [ey7]; rfl) (by decide) rfl (fun ls hl => ?_)
      refine lv_goto (tgt := 173) hx hb dL_comes_232 (by decide) ?_
      exact hk173 _ _ _ _ _ _ _ _ _ _ _ _ _ _ _ _ _ hM hS (lv_sub hl [2, 3, 4, 5, 6, 7, 8, 9, 10, 11, 12, 13, 14, 1, 0] rfl) heq

set_option maxRecDepth 100000 in
set_option maxHeartbeats 4000000 in
theorem tL_comes_454 (C : mm_C G p s m args meth c RL cL_comes 16 (some .boolean)) (x1 : Int32) {r : Bool} {M9 : mm_M} {k389 : mm_M → Int32 → Int32 → Int32 → Int32 → Int32 → Int32 → Option (Bool × mm_M)} (hk389 : ∀ (M : mm_M) (v2 : Int32) (v3 : Int32) (v4 : Int32) (v10 : Int32) (v11 : Int32) (v14 : Int32) (H : Heap) (locs : List Loc) (ls : Array Slot), mm_P G kR 731 M H → va_S (mm_A G) s.heap H locs → lv_has ls 16 [(0, .ref (mm_lo G + 0)), (1, .int x1), (2, .int v2), (3, .int v3), (4, .int v4), (10, .int v10), (11, .int v11), (14, .int v14)] → k389 M v2 v3 v4 v10 v11 v14 = some (r, M9) → W p l e rmL_comes s m args below meth c H locs 0 0 (MQ below (mm_Qi G (b2i r) (kR, 731, M9)) args s 0 0 (mm_A G)) (F0 m 389 ls [])) : ∀ (M : mm_M) (v2 : Int32) (v3 : Int32) (v4 : Int32) (v10 : Int32) (v11 : Int32) (v14 : Int32) (v15 : Int32) (H : Heap) (locs : List Loc) (ls : Array Slot), mm_P G kR 731 M H → va_S (mm_A G) s.heap H locs → lv_has ls 16 [(0, .ref (mm_lo G + 0)), (1, .int x1), (2, .int v2), (3, .int v3), (4, .int v4), (10, .int v10), (11, .int v11), (14, .int v14), (15, .int v15)] → fL_comes_454 x1 k389 M v2 v3 v4 v10 v11 v14 v15 = some (r, M9) → W p l e rmL_comes s m args below meth c H locs 0 0 (MQ below (mm_Qi G (b2i r) (kR, 731, M9)) args s 0 0 (mm_A G)) (F0 m 454 ls []) := by
  obtain ⟨hx, hb, -, -, -, -, -, -, hZ, -⟩ := id C
  intro M v2 v3 v4 v10 v11 v14 v15 H locs ls hM hS hl heq
  rw [fL_comes_454] at heq
  refine lv_iload hx hb dL_comes_454 (lv_at hl 8 rfl) ?_
  refine lv_if_lt (tgt := 470) hx hb dL_comes_456 (by decide) (fun c1 => ?_) (fun c1 => ?_)
  · have heq := if_t c1 heq
    obtain ⟨y2, ey2⟩ : ∃ y : Int32, y = (v14 + 1) := ⟨_, rfl⟩
    have heq := lt_to ey2 heq
    refine lv_iinc (v := y2) (lv' := [(14, .int y2), (0, .ref (mm_lo G + 0)), (1, .int x1), (2, .int v2), (3, .int v3), (4, .int v4), (10, .int v10), (11, .int v11), (15, .int v15)]) hx hb dL_comes_470 hl (k := 7) rfl (by rw [ey2]; rfl) (by decide) rfl (fun ls hl => ?_)
    refine lv_goto (tgt := 389) hx hb dL_comes_473 (by decide) ?_
    exact hk389 _ _ _ _ _ _ _ _ _ _ hM hS (lv_sub hl [1, 2, 3, 4, 5, 6, 7, 0] rfl) heq
  · have heq := if_f c1 heq
    refine lv_aload_n hx hb dL_comes_459 rfl (lv_at hl 0 rfl) ?_
    refine lv_iconst (v := 0) hx hb dL_comes_460 (by decide) ?_
    obtain ⟨r4, M5, e3, heq⟩ := bn2_of heq
    refine mm_ki hS (mm_runV (o := 0) (rest := []) C hM hS (tX6_restore l G M 0 r4 M5 e3) (uL_168 _ (Nat.le_of_ble_eq_true rfl) (Nat.le_of_ble_eq_true rfl)) (mm_recv C hM (kl (rfl : kT 0 = (5, 0))) (ci := 5) rfl (mm_e5 (rfl : kT 0 = (5, 0)))) hl.1 rfl rfl (Nat.le_of_ble_eq_true rfl) ⟨Nat.zero_le _, Nat.zero_le _⟩ dL_comes_461) (fun H locs hM hS => ?_)
    have hM : mm_P G kR 731 M5 H := hM
    refine lv_iload_n hx hb dL_comes_464 rfl (lv_at hl 2 rfl) ?_
    refine lv_icmp_eq (tgt := 470) hx hb dL_comes_465 (by decide) (fun c6 => ?_) (fun c6 => ?_)
    · have heq := if_t c6 heq
      obtain ⟨y7, ey7⟩ : ∃ y : Int32, y = (v14 + 1) := ⟨_, rfl⟩
      have heq := lt_to ey7 heq
      refine lv_iinc (v := y7) (lv' := [(14, .int y7), (0, .ref (mm_lo G + 0)), (1, .int x1), (2, .int v2), (3, .int v3), (4, .int v4), (10, .int v10), (11, .int v11), (15, .int v15)]) hx hb dL_comes_470 hl (k := 7) rfl (by rw [ey7]; rfl) (by decide) rfl (fun ls hl => ?_)
      refine lv_goto (tgt := 389) hx hb dL_comes_473 (by decide) ?_
      exact hk389 _ _ _ _ _ _ _ _ _ _ hM hS (lv_sub hl [1, 2, 3, 4, 5, 6, 7, 0] rfl) heq
    · have heq := if_f c6 heq
      refine lv_iconst (v := 0) hx hb dL_comes_468 (by decide) ?_
      cases heq
      exact mm_zret C hM hS dL_comes_469

set_option maxRecDepth 100000 in
set_option maxHeartbeats 4000000 in
theorem tL_comes_444 (C : mm_C G p s m args meth c RL cL_comes 16 (some .boolean)) (x1 : Int32) {r : Bool} {M9 : mm_M} {k389 : mm_M → Int32 → Int32 → Int32 → Int32 → Int32 → Int32 → Option (Bool × mm_M)} (hk389 : ∀ (M : mm_M) (v2 : Int32) (v3 : Int32) (v4 : Int32) (v10 : Int32) (v11 : Int32) (v14 : Int32) (H : Heap) (locs : List Loc) (ls : Array Slot), mm_P G kR 731 M H → va_S (mm_A G) s.heap H locs → lv_has ls 16 [(0, .ref (mm_lo G + 0)), (1, .int x1), (2, .int v2), (3, .int v3), (4, .int v4), (10, .int v10), (11, .int v11), (14, .int v14)] → k389 M v2 v3 v4 v10 v11 v14 = some (r, M9) → W p l e rmL_comes s m args below meth c H locs 0 0 (MQ below (mm_Qi G (b2i r) (kR, 731, M9)) args s 0 0 (mm_A G)) (F0 m 389 ls [])) : ∀ (M : mm_M) (v2 : Int32) (v3 : Int32) (v4 : Int32) (v10 : Int32) (v11 : Int32) (v14 : Int32) (v15 : Int32) (t1 : Int32) (t2 : Int32) (H : Heap) (locs : List Loc) (ls : Array Slot), mm_P G kR 731 M H → va_S (mm_A G) s.heap H locs → lv_has ls 16 [(0, .ref (mm_lo G + 0)), (1, .int x1), (2, .int v2), (3, .int v3), (4, .int v4), (10, .int v10), (11, .int v11), (14, .int v14), (15, .int v15)] → fL_comes_444 x1 k389 M v2 v3 v4 v10 v11 v14 v15 t1 t2 = some (r, M9) → W p l e rmL_comes s m args below meth c H locs 0 0 (MQ below (mm_Qi G (b2i r) (kR, 731, M9)) args s 0 0 (mm_A G)) (F0 m 444 ls [.int t2, .int t1, .ref (mm_lo G + 0)]) := by
  obtain ⟨hx, hb, -, -, -, -, -, -, hZ, -⟩ := id C
  intro M v2 v3 v4 v10 v11 v14 v15 t1 t2 H locs ls hM hS hl heq
  rw [fL_comes_444] at heq
  refine lv_iload hx hb dL_comes_444 (lv_at hl 8 rfl) ?_
  obtain ⟨r2, M3, e1, heq⟩ := bn2_of heq
  refine mm_ki hS (mm_runS (rest := []) C hM hS (tL_lucky l G M t1 t2 v15 r2 M3 e1) (uL_171 _ (Nat.le_of_ble_eq_true rfl) (Nat.le_of_ble_eq_true rfl)) hl.1 rfl rfl (Nat.le_of_ble_eq_true rfl) ⟨Nat.zero_le _, Nat.zero_le _⟩ dL_comes_446) (fun H locs hM hS => ?_)
  have hM : mm_P G kR 731 M3 H := hM
  refine mm_ifeqZ (tgt := 454) C dL_comes_449 (by decide) (fun c4 => ?_) (fun c4 => ?_)
  · have heq := if_f c4 heq
    exact tL_comes_454 C x1 hk389 _ _ _ _ _ _ _ _ _ _ _ hM hS (lv_sub hl [0, 1, 2, 3, 4, 5, 6, 7, 8] rfl) heq
  · have heq := if_t c4 heq
    refine lv_iconst (v := 0) hx hb dL_comes_452 (by decide) ?_
    cases heq
    exact mm_zret C hM hS dL_comes_453

set_option maxRecDepth 100000 in
set_option maxHeartbeats 4000000 in
theorem tL_comes_420 (C : mm_C G p s m args meth c RL cL_comes 16 (some .boolean)) (x1 : Int32) {r : Bool} {M9 : mm_M} {k389 : mm_M → Int32 → Int32 → Int32 → Int32 → Int32 → Int32 → Option (Bool × mm_M)} (hk389 : ∀ (M : mm_M) (v2 : Int32) (v3 : Int32) (v4 : Int32) (v10 : Int32) (v11 : Int32) (v14 : Int32) (H : Heap) (locs : List Loc) (ls : Array Slot), mm_P G kR 731 M H → va_S (mm_A G) s.heap H locs → lv_has ls 16 [(0, .ref (mm_lo G + 0)), (1, .int x1), (2, .int v2), (3, .int v3), (4, .int v4), (10, .int v10), (11, .int v11), (14, .int v14)] → k389 M v2 v3 v4 v10 v11 v14 = some (r, M9) → W p l e rmL_comes s m args below meth c H locs 0 0 (MQ below (mm_Qi G (b2i r) (kR, 731, M9)) args s 0 0 (mm_A G)) (F0 m 389 ls [])) : ∀ (M : mm_M) (v2 : Int32) (v3 : Int32) (v4 : Int32) (v10 : Int32) (v11 : Int32) (v14 : Int32) (t0 : Int32) (H : Heap) (locs : List Loc) (ls : Array Slot), mm_P G kR 731 M H → va_S (mm_A G) s.heap H locs → lv_has ls 16 [(0, .ref (mm_lo G + 0)), (1, .int x1), (2, .int v2), (3, .int v3), (4, .int v4), (10, .int v10), (11, .int v11), (14, .int v14)] → fL_comes_420 x1 k389 M v2 v3 v4 v10 v11 v14 t0 = some (r, M9) → W p l e rmL_comes s m args below meth c H locs 0 0 (MQ below (mm_Qi G (b2i r) (kR, 731, M9)) args s 0 0 (mm_A G)) (F0 m 420 ls [.int t0]) := by
  obtain ⟨hx, hb, -, -, -, -, -, -, hZ, -⟩ := id C
  intro M v2 v3 v4 v10 v11 v14 t0 H locs ls hM hS hl heq
  rw [fL_comes_420] at heq
  refine lv_istore (lv' := [(15, .int t0), (0, .ref (mm_lo G + 0)), (1, .int x1), (2, .int v2), (3, .int v3), (4, .int v4), (10, .int v10), (11, .int v11), (14, .int v14)]) hx hb dL_comes_420 hl (by decide) rfl (fun ls hl => ?_)
  refine lv_iload hx hb dL_comes_422 (lv_at hl 0 rfl) ?_
  refine lv_if_lt (tgt := 454) hx hb dL_comes_424 (by decide) (fun c1 => ?_) (fun c1 => ?_)
  · have heq := if_t c1 heq
    exact tL_comes_454 C x1 hk389 _ _ _ _ _ _ _ _ _ _ _ hM hS (lv_sub hl [1, 2, 3, 4, 5, 6, 7, 8, 0] rfl) heq
  · have heq := if_f c1 heq
    refine lv_aload_n hx hb dL_comes_427 rfl (lv_at hl 1 rfl) ?_
    refine lv_iload_n hx hb dL_comes_428 rfl (lv_at hl 4 rfl) ?_
    refine lv_iload_n hx hb dL_comes_429 rfl (lv_at hl 2 rfl) ?_
    refine lv_iconst (v := 2) hx hb dL_comes_430 (by decide) ?_
    obtain ⟨r3, e2, heq⟩ := bn_of heq
    refine mm_ki hS (mm_runS (rest := [.int v3, .ref (mm_lo G + 0)]) C hM hS (tL_up l G M x1 2 r3 e2) (uL_23 _ (Nat.le_of_ble_eq_true rfl) (Nat.le_of_ble_eq_true rfl)) hl.1 rfl rfl (Nat.le_of_ble_eq_true rfl) ⟨Nat.zero_le _, Nat.zero_le _⟩ dL_comes_431) (fun H locs hM hS => ?_)
    have hM : mm_P G kR 731 M H := hM
    refine lv_if_ne (tgt := 442) hx hb dL_comes_434 (by decide) (fun c4 => ?_) (fun c4 => ?_)
    · have heq := if_f c4 heq
      refine lv_iload hx hb dL_comes_442 (lv_at hl 5 rfl) ?_
      exact tL_comes_444 C x1 hk389 _ _ _ _ _ _ _ _ _ _ _ _ _ hM hS (lv_sub hl [1, 2, 3, 4, 5, 6, 7, 8, 0] rfl) heq
    · have heq := if_t c4 heq
      refine lv_bipush (v := (-6)) hx hb dL_comes_437 (by decide) ?_
      refine lv_goto (tgt := 444) hx hb dL_comes_439 (by decide) ?_
      exact tL_comes_444 C x1 hk389 _ _ _ _ _ _ _ _ _ _ _ _ _ hM hS (lv_sub hl [1, 2, 3, 4, 5, 6, 7, 8, 0] rfl) heq

set_option maxRecDepth 100000 in
set_option maxHeartbeats 4000000 in
theorem tL_comes_389 (C : mm_C G p s m args meth c RL cL_comes 16 (some .boolean)) (x1 : Int32) {r : Bool} {M9 : mm_M} : ∀ n : Nat, ∀ (M : mm_M) (v2 : Int32) (v3 : Int32) (v4 : Int32) (v10 : Int32) (v11 : Int32) (v14 : Int32) (H : Heap) (locs : List Loc) (ls : Array Slot), mm_P G kR 731 M H → va_S (mm_A G) s.heap H locs → lv_has ls 16 [(0, .ref (mm_lo G + 0)), (1, .int x1), (2, .int v2), (3, .int v3), (4, .int v4), (10, .int v10), (11, .int v11), (14, .int v14)] → fL_comes_389 x1 n M v2 v3 v4 v10 v11 v14 = some (r, M9) → W p l e rmL_comes s m args below meth c H locs 0 0 (MQ below (mm_Qi G (b2i r) (kR, 731, M9)) args s 0 0 (mm_A G)) (F0 m 389 ls []) := by
  obtain ⟨hx, hb, -, -, -, -, -, -, hZ, -⟩ := id C
  intro n
  induction n with
  | zero =>
    intro M v2 v3 v4 v10 v11 v14 H locs ls hM hS hl heq
    rw [fL_comes_389] at heq
    cases heq
  | succ n ih =>
    intro M v2 v3 v4 v10 v11 v14 H locs ls hM hS hl heq
    rw [fL_comes_389] at heq
    refine lv_iload hx hb dL_comes_389 (lv_at hl 7 rfl) ?_
    refine lv_iconst (v := 5) hx hb dL_comes_391 (by decide) ?_
    refine lv_icmp_ge (tgt := 476) hx hb dL_comes_392 (by decide) (fun c1 => ?_) (fun c1 => ?_)
    · have heq := if_t c1 heq
      refine lv_aload_n hx hb dL_comes_476 rfl (lv_at hl 0 rfl) ?_
      refine lv_iconst (v := 3) hx hb dL_comes_477 (by decide) ?_
      obtain ⟨r3, e2, heq⟩ := bn_of heq
      refine mm_ki hS (mm_runV (o := 0) (rest := []) C hM hS (tX6_count l G M 3 r3 e2) (uL_60 _ (Nat.le_of_ble_eq_true rfl) (Nat.le_of_ble_eq_true rfl)) (mm_recv C hM (kl (rfl : kT 0 = (5, 0))) (ci := 5) rfl (mm_e5 (rfl : kT 0 = (5, 0)))) hl.1 rfl rfl (Nat.le_of_ble_eq_true rfl) ⟨Nat.zero_le _, Nat.zero_le _⟩ dL_comes_478) (fun H locs hM hS => ?_)
      have hM : mm_P G kR 731 M H := hM
      refine lv_iload hx hb dL_comes_481 (lv_at hl 6 rfl) ?_
      refine lv_icmp_ne (tgt := 490) hx hb dL_comes_483 (by decide) (fun c4 => ?_) (fun c4 => ?_)
      · have heq := if_f c4 heq
        refine lv_iconst (v := 0) hx hb dL_comes_490 (by decide) ?_
        cases heq
        exact mm_zret C hM hS dL_comes_491
      · have heq := if_t c4 heq
        refine lv_iconst (v := 1) hx hb dL_comes_486 (by decide) ?_
        refine lv_goto (tgt := 491) hx hb dL_comes_487 (by decide) ?_
        cases heq
        exact mm_zret C hM hS dL_comes_491
    · have heq := if_f c1 heq
      refine lv_iload hx hb dL_comes_395 (lv_at hl 5 rfl) ?_
      refine lv_if_ge (tgt := 413) hx hb dL_comes_397 (by decide) (fun c5 => ?_) (fun c5 => ?_)
      · have heq := if_t c5 heq
        refine lv_iload hx hb dL_comes_413 (lv_at hl 5 rfl) ?_
        refine lv_iconst (v := 1) hx hb dL_comes_415 (by decide) ?_
        refine lv_isub hx hb dL_comes_416 ?_
        refine lv_iload hx hb dL_comes_417 (lv_at hl 7 rfl) ?_
        refine lv_isub hx hb dL_comes_419 ?_
        exact tL_comes_420 C x1 ih _ _ _ _ _ _ _ _ _ _ _ hM hS (lv_sub hl [0, 1, 2, 3, 4, 5, 6, 7] rfl) heq
      · have heq := if_f c5 heq
        refine lv_iload_n hx hb dL_comes_400 rfl (lv_at hl 1 rfl) ?_
        refine lv_iload hx hb dL_comes_401 (lv_at hl 7 rfl) ?_
        refine lv_ishr hx hb dL_comes_403 ?_
        refine lv_sipush (v := 200) hx hb dL_comes_404 (by decide) ?_
        obtain ⟨r7, e6, heq⟩ := bn_of heq
        refine mm_ki hS (mm_runS (rest := []) C hM hS (tL_up l G M (x1 >>> (v14 &&& 31)) 200 r7 e6) (uL_23 _ (Nat.le_of_ble_eq_true rfl) (Nat.le_of_ble_eq_true rfl)) hl.1 rfl rfl (Nat.le_of_ble_eq_true rfl) ⟨Nat.zero_le _, Nat.zero_le _⟩ dL_comes_407) (fun H locs hM hS => ?_)
        have hM : mm_P G kR 731 M H := hM
        refine lv_goto (tgt := 420) hx hb dL_comes_410 (by decide) ?_
        exact tL_comes_420 C x1 ih _ _ _ _ _ _ _ _ _ _ _ hM hS (lv_sub hl [0, 1, 2, 3, 4, 5, 6, 7] rfl) heq

set_option maxRecDepth 100000 in
set_option maxHeartbeats 4000000 in
theorem tL_comes_367 (C : mm_C G p s m args meth c RL cL_comes 16 (some .boolean)) (x1 : Int32) {r : Bool} {M9 : mm_M} : ∀ (M : mm_M) (v2 : Int32) (v3 : Int32) (v4 : Int32) (v10 : Int32) (v11 : Int32) (t1 : Int32) (t2 : Int32) (H : Heap) (locs : List Loc) (ls : Array Slot), mm_P G kR 731 M H → va_S (mm_A G) s.heap H locs → lv_has ls 16 [(0, .ref (mm_lo G + 0)), (1, .int x1), (2, .int v2), (3, .int v3), (4, .int v4), (10, .int v10), (11, .int v11)] → fL_comes_367 x1 M v2 v3 v4 v10 v11 t1 t2 = some (r, M9) → W p l e rmL_comes s m args below meth c H locs 0 0 (MQ below (mm_Qi G (b2i r) (kR, 731, M9)) args s 0 0 (mm_A G)) (F0 m 367 ls [.int t2, .int t1, .ref (mm_lo G + 0)]) := by
  obtain ⟨hx, hb, -, -, -, -, -, -, hZ, -⟩ := id C
  intro M v2 v3 v4 v10 v11 t1 t2 H locs ls hM hS hl heq
  rw [fL_comes_367] at heq
  refine lv_iload hx hb dL_comes_367 (lv_at hl 5 rfl) ?_
  obtain ⟨r2, M3, e1, heq⟩ := bn2_of heq
  refine mm_ki hS (mm_runS (rest := []) C hM hS (tL_lucky l G M t1 t2 v10 r2 M3 e1) (uL_171 _ (Nat.le_of_ble_eq_true rfl) (Nat.le_of_ble_eq_true rfl)) hl.1 rfl rfl (Nat.le_of_ble_eq_true rfl) ⟨Nat.zero_le _, Nat.zero_le _⟩ dL_comes_369) (fun H locs hM hS => ?_)
  have hM : mm_P G kR 731 M3 H := hM
  refine mm_ifeqZ (tgt := 384) C dL_comes_372 (by decide) (fun c4 => ?_) (fun c4 => ?_)
  · have heq := if_f c4 heq
    refine lv_iconst (v := 0) hx hb dL_comes_384 (by decide) ?_
    cases heq
    exact mm_zret C hM hS dL_comes_385
  · have heq := if_t c4 heq
    refine lv_aload_n hx hb dL_comes_375 rfl (lv_at hl 0 rfl) ?_
    refine lv_iconst (v := 0) hx hb dL_comes_376 (by decide) ?_
    obtain ⟨r6, M7, e5, heq⟩ := bn2_of heq
    refine mm_ki hS (mm_runV (o := 0) (rest := []) C hM hS (tX6_restore l G M3 0 r6 M7 e5) (uL_168 _ (Nat.le_of_ble_eq_true rfl) (Nat.le_of_ble_eq_true rfl)) (mm_recv C hM (kl (rfl : kT 0 = (5, 0))) (ci := 5) rfl (mm_e5 (rfl : kT 0 = (5, 0)))) hl.1 rfl rfl (Nat.le_of_ble_eq_true rfl) ⟨Nat.zero_le _, Nat.zero_le _⟩ dL_comes_377) (fun H locs hM hS => ?_)
    have hM : mm_P G kR 731 M7 H := hM
    refine lv_iload_n hx hb dL_comes_380 rfl (lv_at hl 2 rfl) ?_
    refine lv_icmp_eq (tgt := 386) hx hb dL_comes_381 (by decide) (fun c8 => ?_) (fun c8 => ?_)
    · have heq := if_t c8 heq
      refine lv_iconst (v := 0) hx hb dL_comes_386 (by decide) ?_
      refine lv_istore (lv' := [(14, .int 0), (0, .ref (mm_lo G + 0)), (1, .int x1), (2, .int v2), (3, .int v3), (4, .int v4), (10, .int v10), (11, .int v11)]) hx hb dL_comes_387 hl (by decide) rfl (fun ls hl => ?_)
      exact tL_comes_389 C x1 FU _ _ _ _ _ _ _ _ _ _ hM hS (lv_sub hl [1, 2, 3, 4, 5, 6, 7, 0] rfl) heq
    · have heq := if_f c8 heq
      refine lv_iconst (v := 0) hx hb dL_comes_384 (by decide) ?_
      cases heq
      exact mm_zret C hM hS dL_comes_385

set_option maxRecDepth 100000 in
set_option maxHeartbeats 4000000 in
theorem tL_comes_277 (C : mm_C G p s m args meth c RL cL_comes 16 (some .boolean)) (x1 : Int32) {r : Bool} {M9 : mm_M} : ∀ (M : mm_M) (v2 : Int32) (v3 : Int32) (v4 : Int32) (v7 : Int32) (v10 : Int32) (v11 : Int32) (H : Heap) (locs : List Loc) (ls : Array Slot), mm_P G kR 731 M H → va_S (mm_A G) s.heap H locs → lv_has ls 16 [(0, .ref (mm_lo G + 0)), (1, .int x1), (2, .int v2), (3, .int v3), (4, .int v4), (7, .int v7), (10, .int v10), (11, .int v11)] → fL_comes_277 x1 M v2 v3 v4 v7 v10 v11 = some (r, M9) → W p l e rmL_comes s m args below meth c H locs 0 0 (MQ below (mm_Qi G (b2i r) (kR, 731, M9)) args s 0 0 (mm_A G)) (F0 m 277 ls []) := by
  obtain ⟨hx, hb, -, -, -, -, -, -, hZ, -⟩ := id C
  intro M v2 v3 v4 v7 v10 v11 H locs ls hM hS hl heq
  rw [fL_comes_277] at heq
  refine lv_aload_n hx hb dL_comes_277 rfl (lv_at hl 0 rfl) ?_
  refine lv_iconst (v := 0) hx hb dL_comes_278 (by decide) ?_
  obtain ⟨r2, M3, e1, heq⟩ := bn2_of heq
  refine mm_ki hS (mm_runV (o := 0) (rest := []) C hM hS (tX6_restore l G M 0 r2 M3 e1) (uL_168 _ (Nat.le_of_ble_eq_true rfl) (Nat.le_of_ble_eq_true rfl)) (mm_recv C hM (kl (rfl : kT 0 = (5, 0))) (ci := 5) rfl (mm_e5 (rfl : kT 0 = (5, 0)))) hl.1 rfl rfl (Nat.le_of_ble_eq_true rfl) ⟨Nat.zero_le _, Nat.zero_le _⟩ dL_comes_279) (fun H locs hM hS => ?_)
  have hM : mm_P G kR 731 M3 H := hM
  refine lv_iload_n hx hb dL_comes_282 rfl (lv_at hl 2 rfl) ?_
  refine lv_icmp_eq (tgt := 288) hx hb dL_comes_283 (by decide) (fun c4 => ?_) (fun c4 => ?_)
  · have heq := if_t c4 heq
    refine lv_aload_n hx hb dL_comes_288 rfl (lv_at hl 0 rfl) ?_
    refine lv_iload_n hx hb dL_comes_289 rfl (lv_at hl 3 rfl) ?_
    refine lv_iload hx hb dL_comes_290 (lv_at hl 4 rfl) ?_
    refine lv_bipush (v := (-6)) hx hb dL_comes_292 (by decide) ?_
    refine lv_bipush (v := (-6)) hx hb dL_comes_294 (by decide) ?_
    obtain ⟨r6, M7, e5, heq⟩ := bn2_of heq
    refine mm_ki hS (mm_runV (o := 0) (rest := []) C hM hS (tX6_wish l G M3 v3 v4 (-6) (-6) r6 M7 e5) (uL_69 _ (Nat.le_of_ble_eq_true rfl) (Nat.le_of_ble_eq_true rfl)) (mm_recv C hM (kl (rfl : kT 0 = (5, 0))) (ci := 5) rfl (mm_e5 (rfl : kT 0 = (5, 0)))) hl.1 rfl rfl (Nat.le_of_ble_eq_true rfl) ⟨Nat.zero_le _, Nat.zero_le _⟩ dL_comes_296) (fun H locs hM hS => ?_)
    have hM : mm_P G kR 731 M7 H := hM
    refine lv_iconst (v := 1) hx hb dL_comes_299 (by decide) ?_
    refine lv_icmp_ne (tgt := 335) hx hb dL_comes_300 (by decide) (fun c8 => ?_) (fun c8 => ?_)
    · have heq := if_f c8 heq
      refine lv_iconst (v := 0) hx hb dL_comes_335 (by decide) ?_
      cases heq
      exact mm_zret C hM hS dL_comes_336
    · have heq := if_t c8 heq
      refine lv_aload_n hx hb dL_comes_303 rfl (lv_at hl 0 rfl) ?_
      refine lv_iconst (v := 1) hx hb dL_comes_304 (by decide) ?_
      obtain ⟨r10, M11, e9, heq⟩ := bn2_of heq
      refine mm_ki hS (mm_runV (o := 0) (rest := []) C hM hS (tX6_days l G M7 1 r10 M11 e9) (uL_96 _ (Nat.le_of_ble_eq_true rfl) (Nat.le_of_ble_eq_true rfl)) (mm_recv C hM (kl (rfl : kT 0 = (5, 0))) (ci := 5) rfl (mm_e5 (rfl : kT 0 = (5, 0)))) hl.1 rfl rfl (Nat.le_of_ble_eq_true rfl) ⟨Nat.zero_le _, Nat.zero_le _⟩ dL_comes_305) (fun H locs hM hS => ?_)
      have hM : mm_P G kR 731 M11 H := hM
      refine lv_iload_n hx hb dL_comes_308 rfl (lv_at hl 2 rfl) ?_
      refine lv_iconst (v := 1) hx hb dL_comes_309 (by decide) ?_
      refine lv_iadd hx hb dL_comes_310 ?_
      refine lv_icmp_ne (tgt := 335) hx hb dL_comes_311 (by decide) (fun c12 => ?_) (fun c12 => ?_)
      · have heq := if_f c12 heq
        refine lv_iconst (v := 0) hx hb dL_comes_335 (by decide) ?_
        cases heq
        exact mm_zret C hM hS dL_comes_336
      · have heq := if_t c12 heq
        refine lv_aload_n hx hb dL_comes_314 rfl (lv_at hl 0 rfl) ?_
        refine lv_iload_n hx hb dL_comes_315 rfl (lv_at hl 3 rfl) ?_
        refine lv_bipush (v := 12) hx hb dL_comes_316 (by decide) ?_
        obtain ⟨r14, e13, heq⟩ := bn_of heq
        refine mm_ki hS (mm_runV (o := 0) (rest := []) C hM hS (tX6_ofCart l G M11 v3 12 r14 e13) (uL_66 _ (Nat.le_of_ble_eq_true rfl) (Nat.le_of_ble_eq_true rfl)) (mm_recv C hM (kl (rfl : kT 0 = (5, 0))) (ci := 5) rfl (mm_e5 (rfl : kT 0 = (5, 0)))) hl.1 rfl rfl (Nat.le_of_ble_eq_true rfl) ⟨Nat.zero_le _, Nat.zero_le _⟩ dL_comes_318) (fun H locs hM hS => ?_)
        have hM : mm_P G kR 731 M11 H := hM
        refine lv_iload hx hb dL_comes_321 (lv_at hl 5 rfl) ?_
        refine lv_icmp_ne (tgt := 335) hx hb dL_comes_323 (by decide) (fun c15 => ?_) (fun c15 => ?_)
        · have heq := if_f c15 heq
          refine lv_iconst (v := 0) hx hb dL_comes_335 (by decide) ?_
          cases heq
          exact mm_zret C hM hS dL_comes_336
        · have heq := if_t c15 heq
          refine lv_aload_n hx hb dL_comes_326 rfl (lv_at hl 0 rfl) ?_
          refine lv_iconst (v := 0) hx hb dL_comes_327 (by decide) ?_
          obtain ⟨r17, M18, e16, heq⟩ := bn2_of heq
          refine mm_ki hS (mm_runV (o := 0) (rest := []) C hM hS (tX6_restore l G M11 0 r17 M18 e16) (uL_168 _ (Nat.le_of_ble_eq_true rfl) (Nat.le_of_ble_eq_true rfl)) (mm_recv C hM (kl (rfl : kT 0 = (5, 0))) (ci := 5) rfl (mm_e5 (rfl : kT 0 = (5, 0)))) hl.1 rfl rfl (Nat.le_of_ble_eq_true rfl) ⟨Nat.zero_le _, Nat.zero_le _⟩ dL_comes_328) (fun H locs hM hS => ?_)
          have hM : mm_P G kR 731 M18 H := hM
          refine lv_iload_n hx hb dL_comes_331 rfl (lv_at hl 2 rfl) ?_
          refine lv_icmp_eq (tgt := 337) hx hb dL_comes_332 (by decide) (fun c19 => ?_) (fun c19 => ?_)
          · have heq := if_t c19 heq
            refine lv_iload hx hb dL_comes_337 (lv_at hl 6 rfl) ?_
            refine lv_if_lt (tgt := 386) hx hb dL_comes_339 (by decide) (fun c20 => ?_) (fun c20 => ?_)
            · have heq := if_t c20 heq
              refine lv_iconst (v := 0) hx hb dL_comes_386 (by decide) ?_
              refine lv_istore (lv' := [(14, .int 0), (0, .ref (mm_lo G + 0)), (1, .int x1), (2, .int v2), (3, .int v3), (4, .int v4), (7, .int v7), (10, .int v10), (11, .int v11)]) hx hb dL_comes_387 hl (by decide) rfl (fun ls hl => ?_)
              exact tL_comes_389 C x1 FU _ _ _ _ _ _ _ _ _ _ hM hS (lv_sub hl [1, 2, 3, 4, 5, 7, 8, 0] rfl) heq
            · have heq := if_f c20 heq
              refine lv_iload hx hb dL_comes_342 (lv_at hl 6 rfl) ?_
              refine lv_sipush (v := 199) hx hb dL_comes_344 (by decide) ?_
              refine lv_icmp_gt (tgt := 384) hx hb dL_comes_347 (by decide) (fun c21 => ?_) (fun c21 => ?_)
              · have heq := if_t c21 heq
                refine lv_iconst (v := 0) hx hb dL_comes_384 (by decide) ?_
                cases heq
                exact mm_zret C hM hS dL_comes_385
              · have heq := if_f c21 heq
                refine lv_aload_n hx hb dL_comes_350 rfl (lv_at hl 0 rfl) ?_
                refine lv_iload_n hx hb dL_comes_351 rfl (lv_at hl 3 rfl) ?_
                refine lv_iload_n hx hb dL_comes_352 rfl (lv_at hl 1 rfl) ?_
                refine lv_iconst (v := 2) hx hb dL_comes_353 (by decide) ?_
                obtain ⟨r23, e22, heq⟩ := bn_of heq
                refine mm_ki hS (mm_runS (rest := [.int v3, .ref (mm_lo G + 0)]) C hM hS (tL_up l G M18 x1 2 r23 e22) (uL_23 _ (Nat.le_of_ble_eq_true rfl) (Nat.le_of_ble_eq_true rfl)) hl.1 rfl rfl (Nat.le_of_ble_eq_true rfl) ⟨Nat.zero_le _, Nat.zero_le _⟩ dL_comes_354) (fun H locs hM hS => ?_)
                have hM : mm_P G kR 731 M18 H := hM
                refine lv_if_ne (tgt := 365) hx hb dL_comes_357 (by decide) (fun c24 => ?_) (fun c24 => ?_)
                · have heq := if_f c24 heq
                  refine lv_iload hx hb dL_comes_365 (lv_at hl 4 rfl) ?_
                  exact tL_comes_367 C x1 _ _ _ _ _ _ _ _ _ _ _ hM hS (lv_sub hl [0, 1, 2, 3, 4, 6, 7] rfl) heq
                · have heq := if_t c24 heq
                  refine lv_bipush (v := (-6)) hx hb dL_comes_360 (by decide) ?_
                  refine lv_goto (tgt := 367) hx hb dL_comes_362 (by decide) ?_
                  exact tL_comes_367 C x1 _ _ _ _ _ _ _ _ _ _ _ hM hS (lv_sub hl [0, 1, 2, 3, 4, 6, 7] rfl) heq
          · have heq := if_f c19 heq
            refine lv_iconst (v := 0) hx hb dL_comes_335 (by decide) ?_
            cases heq
            exact mm_zret C hM hS dL_comes_336
  · have heq := if_f c4 heq
    refine lv_iconst (v := 0) hx hb dL_comes_286 (by decide) ?_
    cases heq
    exact mm_zret C hM hS dL_comes_287

set_option maxRecDepth 100000 in
set_option maxHeartbeats 4000000 in
theorem tL_comes_173 (C : mm_C G p s m args meth c RL cL_comes 16 (some .boolean)) (x1 : Int32) {r : Bool} {M9 : mm_M} : ∀ n : Nat, ∀ (M : mm_M) (v2 : Int32) (v3 : Int32) (v4 : Int32) (v5 : Int32) (v6 : Int32) (v7 : Int32) (v8 : Int32) (v9 : Int32) (v10 : Int32) (v11 : Int32) (v12 : Int32) (v13 : Int32) (v14 : Int32) (H : Heap) (locs : List Loc) (ls : Array Slot), mm_P G kR 731 M H → va_S (mm_A G) s.heap H locs → lv_has ls 16 [(0, .ref (mm_lo G + 0)), (1, .int x1), (2, .int v2), (3, .int v3), (4, .int v4), (5, .int v5), (6, .int v6), (7, .int v7), (8, .int v8), (9, .int v9), (10, .int v10), (11, .int v11), (12, .int v12), (13, .int v13), (14, .int v14)] → fL_comes_173 x1 n M v2 v3 v4 v5 v6 v7 v8 v9 v10 v11 v12 v13 v14 = some (r, M9) → W p l e rmL_comes s m args below meth c H locs 0 0 (MQ below (mm_Qi G (b2i r) (kR, 731, M9)) args s 0 0 (mm_A G)) (F0 m 173 ls []) := by
  obtain ⟨hx, hb, -, -, -, -, -, -, hZ, -⟩ := id C
  intro n
  induction n with
  | zero =>
    intro M v2 v3 v4 v5 v6 v7 v8 v9 v10 v11 v12 v13 v14 H locs ls hM hS hl heq
    rw [fL_comes_173] at heq
    cases heq
  | succ n ih =>
    intro M v2 v3 v4 v5 v6 v7 v8 v9 v10 v11 v12 v13 v14 H locs ls hM hS hl heq
    rw [fL_comes_173] at heq
    refine lv_iload hx hb dL_comes_173 (lv_at hl 14 rfl) ?_
    refine lv_iload hx hb dL_comes_175 (lv_at hl 5 rfl) ?_
    refine lv_icmp_ge (tgt := 235) hx hb dL_comes_177 (by decide) (fun c1 => ?_) (fun c1 => ?_)
    · have heq := if_t c1 heq
      refine lv_aload_n hx hb dL_comes_235 rfl (lv_at hl 0 rfl) ?_
      refine lv_iload_n hx hb dL_comes_236 rfl (lv_at hl 3 rfl) ?_
      refine lv_bipush (v := 11) hx hb dL_comes_237 (by decide) ?_
      obtain ⟨r3, e2, heq⟩ := bn_of heq
      refine mm_ki hS (mm_runV (o := 0) (rest := []) C hM hS (tX6_ofCart l G M v3 11 r3 e2) (uL_66 _ (Nat.le_of_ble_eq_true rfl) (Nat.le_of_ble_eq_true rfl)) (mm_recv C hM (kl (rfl : kT 0 = (5, 0))) (ci := 5) rfl (mm_e5 (rfl : kT 0 = (5, 0)))) hl.1 rfl rfl (Nat.le_of_ble_eq_true rfl) ⟨Nat.zero_le _, Nat.zero_le _⟩ dL_comes_239) (fun H locs hM hS => ?_)
      have hM : mm_P G kR 731 M H := hM
      refine lv_iload hx hb dL_comes_242 (lv_at hl 12 rfl) ?_
      refine lv_isub hx hb dL_comes_244 ?_
      refine lv_iload hx hb dL_comes_245 (lv_at hl 9 rfl) ?_
      refine lv_icmp_ne (tgt := 286) hx hb dL_comes_247 (by decide) (fun c4 => ?_) (fun c4 => ?_)
      · have heq := if_f c4 heq
        refine lv_iconst (v := 0) hx hb dL_comes_286 (by decide) ?_
        cases heq
        exact mm_zret C hM hS dL_comes_287
      · have heq := if_t c4 heq
        refine lv_iload hx hb dL_comes_250 (lv_at hl 13 rfl) ?_
        refine lv_if_lt (tgt := 265) hx hb dL_comes_252 (by decide) (fun c5 => ?_) (fun c5 => ?_)
        · have heq := if_t c5 heq
          refine lv_iload hx hb dL_comes_265 (lv_at hl 8 rfl) ?_
          refine lv_if_lt (tgt := 277) hx hb dL_comes_267 (by decide) (fun c6 => ?_) (fun c6 => ?_)
          · have heq := if_t c6 heq
            exact tL_comes_277 C x1 _ _ _ _ _ _ _ _ _ _ hM hS (lv_sub hl [0, 1, 2, 3, 4, 7, 10, 11] rfl) heq
          · have heq := if_f c6 heq
            refine lv_iload hx hb dL_comes_270 (lv_at hl 8 rfl) ?_
            refine lv_iload hx hb dL_comes_272 (lv_at hl 5 rfl) ?_
            refine lv_icmp_lt (tgt := 286) hx hb dL_comes_274 (by decide) (fun c7 => ?_) (fun c7 => ?_)
            · have heq := if_t c7 heq
              refine lv_iconst (v := 0) hx hb dL_comes_286 (by decide) ?_
              cases heq
              exact mm_zret C hM hS dL_comes_287
            · have heq := if_f c7 heq
              exact tL_comes_277 C x1 _ _ _ _ _ _ _ _ _ _ hM hS (lv_sub hl [0, 1, 2, 3, 4, 7, 10, 11] rfl) heq
        · have heq := if_f c5 heq
          refine lv_iload hx hb dL_comes_255 (lv_at hl 8 rfl) ?_
          refine lv_iload hx hb dL_comes_257 (lv_at hl 13 rfl) ?_
          refine lv_icmp_eq (tgt := 277) hx hb dL_comes_259 (by decide) (fun c8 => ?_) (fun c8 => ?_)
          · have heq := if_t c8 heq
            exact tL_comes_277 C x1 _ _ _ _ _ _ _ _ _ _ hM hS (lv_sub hl [0, 1, 2, 3, 4, 7, 10, 11] rfl) heq
          · have heq := if_f c8 heq
            refine lv_goto (tgt := 286) hx hb dL_comes_262 (by decide) ?_
            refine lv_iconst (v := 0) hx hb dL_comes_286 (by decide) ?_
            cases heq
            exact mm_zret C hM hS dL_comes_287
    · have heq := if_f c1 heq
      refine lv_aload_n hx hb dL_comes_180 rfl (lv_at hl 0 rfl) ?_
      refine lv_iconst (v := 1) hx hb dL_comes_181 (by decide) ?_
      obtain ⟨r10, M11, e9, heq⟩ := bn2_of heq
      refine mm_ki hS (mm_runV (o := 0) (rest := []) C hM hS (tX6_days l G M 1 r10 M11 e9) (uL_96 _ (Nat.le_of_ble_eq_true rfl) (Nat.le_of_ble_eq_true rfl)) (mm_recv C hM (kl (rfl : kT 0 = (5, 0))) (ci := 5) rfl (mm_e5 (rfl : kT 0 = (5, 0)))) hl.1 rfl rfl (Nat.le_of_ble_eq_true rfl) ⟨Nat.zero_le _, Nat.zero_le _⟩ dL_comes_182) (fun H locs hM hS => ?_)
      have hM : mm_P G kR 731 M11 H := hM
      refine lv_pop hx hb dL_comes_185 rfl ?_
      refine lv_iload hx hb dL_comes_186 (lv_at hl 14 rfl) ?_
      refine lv_if_ne (tgt := 205) hx hb dL_comes_188 (by decide) (fun c12 => ?_) (fun c12 => ?_)
      · have heq := if_f c12 heq
        exact tL_comes_205 C x1 ih _ _ _ _ _ _ _ _ _ _ _ _ _ _ _ _ _ hM hS (lv_sub hl [0, 1, 2, 3, 4, 5, 6, 7, 8, 9, 10, 11, 12, 13, 14] rfl) heq
      · have heq := if_t c12 heq
        refine lv_aload_n hx hb dL_comes_191 rfl (lv_at hl 0 rfl) ?_
        refine lv_iload_n hx hb dL_comes_192 rfl (lv_at hl 3 rfl) ?_
        refine lv_bipush (v := 12) hx hb dL_comes_193 (by decide) ?_
        obtain ⟨r14, e13, heq⟩ := bn_of heq
        refine mm_ki hS (mm_runV (o := 0) (rest := []) C hM hS (tX6_ofCart l G M11 v3 12 r14 e13) (uL_66 _ (Nat.le_of_ble_eq_true rfl) (Nat.le_of_ble_eq_true rfl)) (mm_recv C hM (kl (rfl : kT 0 = (5, 0))) (ci := 5) rfl (mm_e5 (rfl : kT 0 = (5, 0)))) hl.1 rfl rfl (Nat.le_of_ble_eq_true rfl) ⟨Nat.zero_le _, Nat.zero_le _⟩ dL_comes_195) (fun H locs hM hS => ?_)
        have hM : mm_P G kR 731 M11 H := hM
        refine lv_iload hx hb dL_comes_198 (lv_at hl 6 rfl) ?_
        refine lv_icmp_eq (tgt := 205) hx hb dL_comes_200 (by decide) (fun c15 => ?_) (fun c15 => ?_)
        · have heq := if_t c15 heq
          exact tL_comes_205 C x1 ih _ _ _ _ _ _ _ _ _ _ _ _ _ _ _ _ _ hM hS (lv_sub hl [0, 1, 2, 3, 4, 5, 6, 7, 8, 9, 10, 11, 12, 13, 14] rfl) heq
        · have heq := if_f c15 heq
          refine lv_iconst (v := 0) hx hb dL_comes_203 (by decide) ?_
          cases heq
          exact mm_zret C hM hS dL_comes_204

set_option maxRecDepth 100000 in
set_option maxHeartbeats 4000000 in
theorem tL_comes_153 (C : mm_C G p s m args meth c RL cL_comes 16 (some .boolean)) (x1 : Int32) {r : Bool} {M9 : mm_M} : ∀ (M : mm_M) (v2 : Int32) (v3 : Int32) (v4 : Int32) (v5 : Int32) (v6 : Int32) (v7 : Int32) (v8 : Int32) (v9 : Int32) (v10 : Int32) (v11 : Int32) (v12 : Int32) (t0 : Bool) (t1 : Bool) (H : Heap) (locs : List Loc) (ls : Array Slot), mm_P G kR 731 M H → va_S (mm_A G) s.heap H locs → lv_has ls 16 [(0, .ref (mm_lo G + 0)), (1, .int x1), (2, .int v2), (3, .int v3), (4, .int v4), (5, .int v5), (6, .int v6), (7, .int v7), (8, .int v8), (9, .int v9), (10, .int v10), (11, .int v11), (12, .int v12)] → fL_comes_153 x1 M v2 v3 v4 v5 v6 v7 v8 v9 v10 v11 v12 t0 t1 = some (r, M9) → W p l e rmL_comes s m args below meth c H locs 0 0 (MQ below (mm_Qi G (b2i r) (kR, 731, M9)) args s 0 0 (mm_A G)) (F0 m 153 ls [.int (b2i t1), .int (b2i t0)]) := by
  obtain ⟨hx, hb, -, -, -, -, -, -, hZ, -⟩ := id C
  intro M v2 v3 v4 v5 v6 v7 v8 v9 v10 v11 v12 t0 t1 H locs ls hM hS hl heq
  rw [fL_comes_153] at heq
  refine lv_icmp_ne (tgt := 165) hx hb dL_comes_153 (by decide) (fun c1 => ?_) (fun c1 => ?_)
  · have heq := if_f c1 heq
    refine lv_iconst (v := 0) hx hb dL_comes_165 (by decide) ?_
    cases heq
    exact mm_zret C hM hS dL_comes_166
  · have heq := if_t c1 heq
    refine lv_aload_n hx hb dL_comes_156 rfl (lv_at hl 0 rfl) ?_
    refine lv_iconst (v := 0) hx hb dL_comes_157 (by decide) ?_
    obtain ⟨r3, M4, e2, heq⟩ := bn2_of heq
    refine mm_ki hS (mm_runV (o := 0) (rest := []) C hM hS (tX6_save l G M 0 r3 M4 e2) (uL_165 _ (Nat.le_of_ble_eq_true rfl) (Nat.le_of_ble_eq_true rfl)) (mm_recv C hM (kl (rfl : kT 0 = (5, 0))) (ci := 5) rfl (mm_e5 (rfl : kT 0 = (5, 0)))) hl.1 rfl rfl (Nat.le_of_ble_eq_true rfl) ⟨Nat.zero_le _, Nat.zero_le _⟩ dL_comes_158) (fun H locs hM hS => ?_)
    have hM : mm_P G kR 731 M4 H := hM
    refine lv_iload_n hx hb dL_comes_161 rfl (lv_at hl 2 rfl) ?_
    refine lv_icmp_eq (tgt := 167) hx hb dL_comes_162 (by decide) (fun c5 => ?_) (fun c5 => ?_)
    · have heq := if_t c5 heq
      refine lv_iconst (v := (-1)) hx hb dL_comes_167 (by decide) ?_
      refine lv_istore (lv' := [(13, .int (-1)), (0, .ref (mm_lo G + 0)), (1, .int x1), (2, .int v2), (3, .int v3), (4, .int v4), (5, .int v5), (6, .int v6), (7, .int v7), (8, .int v8), (9, .int v9), (10, .int v10), (11, .int v11), (12, .int v12)]) hx hb dL_comes_168 hl (by decide) rfl (fun ls hl => ?_)
      refine lv_iconst (v := 0) hx hb dL_comes_170 (by decide) ?_
      refine lv_istore (lv' := [(14, .int 0), (13, .int (-1)), (0, .ref (mm_lo G + 0)), (1, .int x1), (2, .int v2), (3, .int v3), (4, .int v4), (5, .int v5), (6, .int v6), (7, .int v7), (8, .int v8), (9, .int v9), (10, .int v10), (11, .int v11), (12, .int v12)]) hx hb dL_comes_171 hl (by decide) rfl (fun ls hl => ?_)
      exact tL_comes_173 C x1 FU _ _ _ _ _ _ _ _ _ _ _ _ _ _ _ _ _ hM hS (lv_sub hl [2, 3, 4, 5, 6, 7, 8, 9, 10, 11, 12, 13, 14, 1, 0] rfl) heq
    · have heq := if_f c5 heq
      refine lv_iconst (v := 0) hx hb dL_comes_165 (by decide) ?_
      cases heq
      exact mm_zret C hM hS dL_comes_166

set_option maxRecDepth 100000 in
set_option maxHeartbeats 4000000 in
theorem tL_comes_143 (C : mm_C G p s m args meth c RL cL_comes 16 (some .boolean)) (x1 : Int32) {r : Bool} {M9 : mm_M} : ∀ (M : mm_M) (v2 : Int32) (v3 : Int32) (v4 : Int32) (v5 : Int32) (v6 : Int32) (v7 : Int32) (v8 : Int32) (v9 : Int32) (v10 : Int32) (v11 : Int32) (v12 : Int32) (t0 : Bool) (H : Heap) (locs : List Loc) (ls : Array Slot), mm_P G kR 731 M H → va_S (mm_A G) s.heap H locs → lv_has ls 16 [(0, .ref (mm_lo G + 0)), (1, .int x1), (2, .int v2), (3, .int v3), (4, .int v4), (5, .int v5), (6, .int v6), (7, .int v7), (8, .int v8), (9, .int v9), (10, .int v10), (11, .int v11), (12, .int v12)] → fL_comes_143 x1 M v2 v3 v4 v5 v6 v7 v8 v9 v10 v11 v12 t0 = some (r, M9) → W p l e rmL_comes s m args below meth c H locs 0 0 (MQ below (mm_Qi G (b2i r) (kR, 731, M9)) args s 0 0 (mm_A G)) (F0 m 143 ls [.int (b2i t0)]) := by
  obtain ⟨hx, hb, -, -, -, -, -, -, hZ, -⟩ := id C
  intro M v2 v3 v4 v5 v6 v7 v8 v9 v10 v11 v12 t0 H locs ls hM hS hl heq
  rw [fL_comes_143] at heq
  refine lv_iload hx hb dL_comes_143 (lv_at hl 8 rfl) ?_
  refine lv_if_ne (tgt := 152) hx hb dL_comes_145 (by decide) (fun c1 => ?_) (fun c1 => ?_)
  · have heq := if_f c1 heq
    refine lv_iconst (v := 0) hx hb dL_comes_152 (by decide) ?_
    exact tL_comes_153 C x1 _ _ _ _ _ _ _ _ _ _ _ _ _ _ _ _ _ hM hS (lv_sub hl [0, 1, 2, 3, 4, 5, 6, 7, 8, 9, 10, 11, 12] rfl) heq
  · have heq := if_t c1 heq
    refine lv_iconst (v := 1) hx hb dL_comes_148 (by decide) ?_
    refine lv_goto (tgt := 153) hx hb dL_comes_149 (by decide) ?_
    exact tL_comes_153 C x1 _ _ _ _ _ _ _ _ _ _ _ _ _ _ _ _ _ hM hS (lv_sub hl [0, 1, 2, 3, 4, 5, 6, 7, 8, 9, 10, 11, 12] rfl) heq

set_option maxRecDepth 100000 in
set_option maxHeartbeats 4000000 in
theorem tL_comes_91 (C : mm_C G p s m args meth c RL cL_comes 16 (some .boolean)) (x1 : Int32) {r : Bool} {M9 : mm_M} : ∀ (M : mm_M) (v2 : Int32) (v3 : Int32) (v4 : Int32) (v5 : Int32) (v6 : Int32) (v7 : Int32) (v8 : Int32) (v9 : Int32) (t1 : Int32) (t2 : Int32) (H : Heap) (locs : List Loc) (ls : Array Slot), mm_P G kR 731 M H → va_S (mm_A G) s.heap H locs → lv_has ls 16 [(0, .ref (mm_lo G + 0)), (1, .int x1), (2, .int v2), (3, .int v3), (4, .int v4), (5, .int v5), (6, .int v6), (7, .int v7), (8, .int v8), (9, .int v9)] → fL_comes_91 x1 M v2 v3 v4 v5 v6 v7 v8 v9 t1 t2 = some (r, M9) → W p l e rmL_comes s m args below meth c H locs 0 0 (MQ below (mm_Qi G (b2i r) (kR, 731, M9)) args s 0 0 (mm_A G)) (F0 m 91 ls [.int t2, .int t1, .ref (mm_lo G + 0)]) := by
  obtain ⟨hx, hb, -, -, -, -, -, -, hZ, -⟩ := id C
  intro M v2 v3 v4 v5 v6 v7 v8 v9 t1 t2 H locs ls hM hS hl heq
  rw [fL_comes_91] at heq
  obtain ⟨r2, M3, e1, heq⟩ := bn2_of heq
  refine mm_ki hS (mm_runV (o := 0) (rest := []) C hM hS (tX6_luckySeed l G M t1 t2 r2 M3 e1) (uL_162 _ (Nat.le_of_ble_eq_true rfl) (Nat.le_of_ble_eq_true rfl)) (mm_recv C hM (kl (rfl : kT 0 = (5, 0))) (ci := 5) rfl (mm_e5 (rfl : kT 0 = (5, 0)))) hl.1 rfl rfl (Nat.le_of_ble_eq_true rfl) ⟨Nat.zero_le _, Nat.zero_le _⟩ dL_comes_91) (fun H locs hM hS => ?_)
  have hM : mm_P G kR 731 M3 H := hM
  refine lv_istore (lv' := [(10, .int r2), (0, .ref (mm_lo G + 0)), (1, .int x1), (2, .int v2), (3, .int v3), (4, .int v4), (5, .int v5), (6, .int v6), (7, .int v7), (8, .int v8), (9, .int v9)]) hx hb dL_comes_94 hl (by decide) rfl (fun ls hl => ?_)
  refine lv_aload_n hx hb dL_comes_96 rfl (lv_at hl 1 rfl) ?_
  refine lv_iconst (v := 3) hx hb dL_comes_97 (by decide) ?_
  obtain ⟨r5, e4, heq⟩ := bn_of heq
  refine mm_ki hS (mm_runV (o := 0) (rest := []) C hM hS (tX6_count l G M3 3 r5 e4) (uL_60 _ (Nat.le_of_ble_eq_true rfl) (Nat.le_of_ble_eq_true rfl)) (mm_recv C hM (kl (rfl : kT 0 = (5, 0))) (ci := 5) rfl (mm_e5 (rfl : kT 0 = (5, 0)))) hl.1 rfl rfl (Nat.le_of_ble_eq_true rfl) ⟨Nat.zero_le _, Nat.zero_le _⟩ dL_comes_98) (fun H locs hM hS => ?_)
  have hM : mm_P G kR 731 M3 H := hM
  refine lv_istore (lv' := [(11, .int r5), (10, .int r2), (0, .ref (mm_lo G + 0)), (1, .int x1), (2, .int v2), (3, .int v3), (4, .int v4), (5, .int v5), (6, .int v6), (7, .int v7), (8, .int v8), (9, .int v9)]) hx hb dL_comes_101 hl (by decide) rfl (fun ls hl => ?_)
  refine lv_aload_n hx hb dL_comes_103 rfl (lv_at hl 2 rfl) ?_
  refine lv_iload_n hx hb dL_comes_104 rfl (lv_at hl 5 rfl) ?_
  refine lv_bipush (v := 11) hx hb dL_comes_105 (by decide) ?_
  obtain ⟨r7, e6, heq⟩ := bn_of heq
  refine mm_ki hS (mm_runV (o := 0) (rest := []) C hM hS (tX6_ofCart l G M3 v3 11 r7 e6) (uL_66 _ (Nat.le_of_ble_eq_true rfl) (Nat.le_of_ble_eq_true rfl)) (mm_recv C hM (kl (rfl : kT 0 = (5, 0))) (ci := 5) rfl (mm_e5 (rfl : kT 0 = (5, 0)))) hl.1 rfl rfl (Nat.le_of_ble_eq_true rfl) ⟨Nat.zero_le _, Nat.zero_le _⟩ dL_comes_107) (fun H locs hM hS => ?_)
  have hM : mm_P G kR 731 M3 H := hM
  refine lv_istore (lv' := [(12, .int r7), (11, .int r5), (10, .int r2), (0, .ref (mm_lo G + 0)), (1, .int x1), (2, .int v2), (3, .int v3), (4, .int v4), (5, .int v5), (6, .int v6), (7, .int v7), (8, .int v8), (9, .int v9)]) hx hb dL_comes_110 hl (by decide) rfl (fun ls hl => ?_)
  refine lv_aload_n hx hb dL_comes_112 rfl (lv_at hl 3 rfl) ?_
  refine lv_iconst (v := 0) hx hb dL_comes_113 (by decide) ?_
  obtain ⟨r9, e8, heq⟩ := bn_of heq
  refine mm_ki hS (mm_runV (o := 0) (rest := []) C hM hS (tX6_count l G M3 0 r9 e8) (uL_60 _ (Nat.le_of_ble_eq_true rfl) (Nat.le_of_ble_eq_true rfl)) (mm_recv C hM (kl (rfl : kT 0 = (5, 0))) (ci := 5) rfl (mm_e5 (rfl : kT 0 = (5, 0)))) hl.1 rfl rfl (Nat.le_of_ble_eq_true rfl) ⟨Nat.zero_le _, Nat.zero_le _⟩ dL_comes_114) (fun H locs hM hS => ?_)
  have hM : mm_P G kR 731 M3 H := hM
  refine lv_iload_n hx hb dL_comes_117 rfl (lv_at hl 5 rfl) ?_
  refine lv_icmp_ne (tgt := 165) hx hb dL_comes_118 (by decide) (fun c10 => ?_) (fun c10 => ?_)
  · have heq := if_f c10 heq
    refine lv_iconst (v := 0) hx hb dL_comes_165 (by decide) ?_
    cases heq
    exact mm_zret C hM hS dL_comes_166
  · have heq := if_t c10 heq
    refine lv_aload_n hx hb dL_comes_121 rfl (lv_at hl 3 rfl) ?_
    refine lv_iload_n hx hb dL_comes_122 rfl (lv_at hl 6 rfl) ?_
    refine lv_bipush (v := 61) hx hb dL_comes_123 (by decide) ?_
    obtain ⟨r12, M13, e11, heq⟩ := bn2_of heq
    refine mm_ki hS (mm_runV (o := 0) (rest := []) C hM hS (tX6_daysOf l G M3 v3 61 r12 M13 e11) (uL_159 _ (Nat.le_of_ble_eq_true rfl) (Nat.le_of_ble_eq_true rfl)) (mm_recv C hM (kl (rfl : kT 0 = (5, 0))) (ci := 5) rfl (mm_e5 (rfl : kT 0 = (5, 0)))) hl.1 rfl rfl (Nat.le_of_ble_eq_true rfl) ⟨Nat.zero_le _, Nat.zero_le _⟩ dL_comes_125) (fun H locs hM hS => ?_)
    have hM : mm_P G kR 731 M13 H := hM
    refine lv_bipush (v := (-2)) hx hb dL_comes_128 (by decide) ?_
    refine lv_icmp_ne (tgt := 165) hx hb dL_comes_130 (by decide) (fun c14 => ?_) (fun c14 => ?_)
    · have heq := if_f c14 heq
      refine lv_iconst (v := 0) hx hb dL_comes_165 (by decide) ?_
      cases heq
      exact mm_zret C hM hS dL_comes_166
    · have heq := if_t c14 heq
      refine lv_iload hx hb dL_comes_133 (lv_at hl 9 rfl) ?_
      refine lv_if_lt (tgt := 142) hx hb dL_comes_135 (by decide) (fun c15 => ?_) (fun c15 => ?_)
      · have heq := if_t c15 heq
        refine lv_iconst (v := 0) hx hb dL_comes_142 (by decide) ?_
        exact tL_comes_143 C x1 _ _ _ _ _ _ _ _ _ _ _ _ _ _ _ _ hM hS (lv_sub hl [3, 4, 5, 6, 7, 8, 9, 10, 11, 12, 2, 1, 0] rfl) heq
      · have heq := if_f c15 heq
        refine lv_iconst (v := 1) hx hb dL_comes_138 (by decide) ?_
        refine lv_goto (tgt := 143) hx hb dL_comes_139 (by decide) ?_
        exact tL_comes_143 C x1 _ _ _ _ _ _ _ _ _ _ _ _ _ _ _ _ hM hS (lv_sub hl [3, 4, 5, 6, 7, 8, 9, 10, 11, 12, 2, 1, 0] rfl) heq

set_option maxRecDepth 100000 in
set_option maxHeartbeats 4000000 in
theorem tL_comes (l : Launch) (G : mm_G) (M : mm_M) (x1 : Int32) (r : Bool) (M9 : mm_M) (heq : fL_comes M x1 = some (r, M9)) : Met l yL_comes (mm_ws yL_comes cL_comes 16 (some .boolean)) rmL_comes (va_Pc [.ref (mm_lo G + 0), .int x1] (mm_B G (kR, 731, M))) (mm_Qi G (b2i r) (kR, 731, M9)) 0 0 (mm_A G) := by
  refine mm_met (cc := cL_comes) (nL := 16) (ret := (some .boolean)) plRL (Nat.le_of_ble_eq_true rfl) ?_
  intro p e s m below meth c ls hin C hM hS hl
  have C : mm_C G p s m _ meth c RL cL_comes 16 (some .boolean) := C
  have hM : mm_P G kR 731 M s.heap := hM
  have hl : lv_has ls 16 [(0, .ref (mm_lo G + 0)), (1, .int x1)] := hl
  obtain ⟨hx, hb, -, -, -, -, -, -, hZ, -⟩ := id C
  rw [fL_comes] at heq
  refine lv_aload_n hx hb dL_comes_0 rfl (lv_at hl 0 rfl) ?_
  refine lv_iconst (v := 0) hx hb dL_comes_1 (by decide) ?_
  obtain ⟨r2, e1, heq⟩ := bn_of heq
  refine mm_ki hS (mm_runV (o := 0) (rest := []) C hM hS (tX6_count l G M 0 r2 e1) (uL_60 _ (Nat.le_of_ble_eq_true rfl) (Nat.le_of_ble_eq_true rfl)) (mm_recv C hM (kl (rfl : kT 0 = (5, 0))) (ci := 5) rfl (mm_e5 (rfl : kT 0 = (5, 0)))) hl.1 rfl rfl (Nat.le_of_ble_eq_true rfl) ⟨Nat.zero_le _, Nat.zero_le _⟩ dL_comes_2) (fun H locs hM hS => ?_)
  have hM : mm_P G kR 731 M H := hM
  refine lv_istore_n (lv' := [(2, .int r2), (0, .ref (mm_lo G + 0)), (1, .int x1)]) hx hb dL_comes_5 rfl hl (by decide) rfl (fun ls hl => ?_)
  refine lv_iload_n hx hb dL_comes_6 rfl (lv_at hl 2 rfl) ?_
  refine lv_aload_n hx hb dL_comes_7 rfl (lv_at hl 1 rfl) ?_
  refine lv_iconst (v := 1) hx hb dL_comes_8 (by decide) ?_
  obtain ⟨r4, e3, heq⟩ := bn_of heq
  refine mm_ki hS (mm_runV (o := 0) (rest := [.int x1]) C hM hS (tX6_count l G M 1 r4 e3) (uL_60 _ (Nat.le_of_ble_eq_true rfl) (Nat.le_of_ble_eq_true rfl)) (mm_recv C hM (kl (rfl : kT 0 = (5, 0))) (ci := 5) rfl (mm_e5 (rfl : kT 0 = (5, 0)))) hl.1 rfl rfl (Nat.le_of_ble_eq_true rfl) ⟨Nat.zero_le _, Nat.zero_le _⟩ dL_comes_9) (fun H locs hM hS => ?_)
  have hM : mm_P G kR 731 M H := hM
  obtain ⟨r6, e5, heq⟩ := bn_of heq
  refine mm_ki hS (mm_runS (rest := []) C hM hS (tL_up l G M x1 r4 r6 e5) (uL_23 _ (Nat.le_of_ble_eq_true rfl) (Nat.le_of_ble_eq_true rfl)) hl.1 rfl rfl (Nat.le_of_ble_eq_true rfl) ⟨Nat.zero_le _, Nat.zero_le _⟩ dL_comes_12) (fun H locs hM hS => ?_)
  have hM : mm_P G kR 731 M H := hM
  refine lv_istore_n (lv' := [(3, .int r6), (2, .int r2), (0, .ref (mm_lo G + 0)), (1, .int x1)]) hx hb dL_comes_15 rfl hl (by decide) rfl (fun ls hl => ?_)
  refine lv_iload_n hx hb dL_comes_16 rfl (lv_at hl 3 rfl) ?_
  refine lv_iconst (v := 3) hx hb dL_comes_17 (by decide) ?_
  refine lv_ishr hx hb dL_comes_18 ?_
  refine lv_aload_n hx hb dL_comes_19 rfl (lv_at hl 2 rfl) ?_
  refine lv_iconst (v := 2) hx hb dL_comes_20 (by decide) ?_
  obtain ⟨r8, e7, heq⟩ := bn_of heq
  refine mm_ki hS (mm_runV (o := 0) (rest := [.int (x1 >>> (3 &&& 31))]) C hM hS (tX6_count l G M 2 r8 e7) (uL_60 _ (Nat.le_of_ble_eq_true rfl) (Nat.le_of_ble_eq_true rfl)) (mm_recv C hM (kl (rfl : kT 0 = (5, 0))) (ci := 5) rfl (mm_e5 (rfl : kT 0 = (5, 0)))) hl.1 rfl rfl (Nat.le_of_ble_eq_true rfl) ⟨Nat.zero_le _, Nat.zero_le _⟩ dL_comes_21) (fun H locs hM hS => ?_)
  have hM : mm_P G kR 731 M H := hM
  obtain ⟨r10, e9, heq⟩ := bn_of heq
  refine mm_ki hS (mm_runS (rest := []) C hM hS (tL_up l G M (x1 >>> (3 &&& 31)) r8 r10 e9) (uL_23 _ (Nat.le_of_ble_eq_true rfl) (Nat.le_of_ble_eq_true rfl)) hl.1 rfl rfl (Nat.le_of_ble_eq_true rfl) ⟨Nat.zero_le _, Nat.zero_le _⟩ dL_comes_24) (fun H locs hM hS => ?_)
  have hM : mm_P G kR 731 M H := hM
  refine lv_istore (lv' := [(4, .int r10), (3, .int r6), (2, .int r2), (0, .ref (mm_lo G + 0)), (1, .int x1)]) hx hb dL_comes_27 hl (by decide) rfl (fun ls hl => ?_)
  refine lv_iconst (v := 1) hx hb dL_comes_29 (by decide) ?_
  refine lv_iload_n hx hb dL_comes_30 rfl (lv_at hl 4 rfl) ?_
  refine lv_bipush (v := 6) hx hb dL_comes_31 (by decide) ?_
  refine lv_ishr hx hb dL_comes_33 ?_
  refine lv_bipush (v := 20) hx hb dL_comes_34 (by decide) ?_
  obtain ⟨r12, e11, heq⟩ := bn_of heq
  refine mm_ki hS (mm_runS (rest := [.int 1]) C hM hS (tL_up l G M (x1 >>> (6 &&& 31)) 20 r12 e11) (uL_23 _ (Nat.le_of_ble_eq_true rfl) (Nat.le_of_ble_eq_true rfl)) hl.1 rfl rfl (Nat.le_of_ble_eq_true rfl) ⟨Nat.zero_le _, Nat.zero_le _⟩ dL_comes_36) (fun H locs hM hS => ?_)
  have hM : mm_P G kR 731 M H := hM
  refine lv_iadd hx hb dL_comes_39 ?_
  refine lv_topi (fun y13 ey13 => ?_)
  have heq := lt_to ey13 heq
  refine lv_istore (lv' := [(5, .int y13), (4, .int r10), (3, .int r6), (2, .int r2), (0, .ref (mm_lo G + 0)), (1, .int x1)]) hx hb dL_comes_40 hl (by decide) rfl (fun ls hl => ?_)
  refine lv_aload_n hx hb dL_comes_42 rfl (lv_at hl 4 rfl) ?_
  refine lv_iload_n hx hb dL_comes_43 rfl (lv_at hl 2 rfl) ?_
  obtain ⟨r15, M16, e14, heq⟩ := bn2_of heq
  refine mm_ki hS (mm_runV (o := 0) (rest := []) C hM hS (tX6_wouldHave l G M r6 r15 M16 e14) (uL_150 _ (Nat.le_of_ble_eq_true rfl) (Nat.le_of_ble_eq_true rfl)) (mm_recv C hM (kl (rfl : kT 0 = (5, 0))) (ci := 5) rfl (mm_e5 (rfl : kT 0 = (5, 0)))) hl.1 rfl rfl (Nat.le_of_ble_eq_true rfl) ⟨Nat.zero_le _, Nat.zero_le _⟩ dL_comes_44) (fun H locs hM hS => ?_)
  have hM : mm_P G kR 731 M16 H := hM
  refine lv_istore (lv' := [(6, .int r15), (5, .int y13), (4, .int r10), (3, .int r6), (2, .int r2), (0, .ref (mm_lo G + 0)), (1, .int x1)]) hx hb dL_comes_47 hl (by decide) rfl (fun ls hl => ?_)
  refine lv_aload_n hx hb dL_comes_49 rfl (lv_at hl 5 rfl) ?_
  refine lv_iload_n hx hb dL_comes_50 rfl (lv_at hl 3 rfl) ?_
  refine lv_iload hx hb dL_comes_51 (lv_at hl 2 rfl) ?_
  obtain ⟨r18, M19, e17, heq⟩ := bn2_of heq
  refine mm_ki hS (mm_runV (o := 0) (rest := []) C hM hS (tX6_ifWished l G M16 r6 r10 r18 M19 e17) (uL_153 _ (Nat.le_of_ble_eq_true rfl) (Nat.le_of_ble_eq_true rfl)) (mm_recv C hM (kl (rfl : kT 0 = (5, 0))) (ci := 5) rfl (mm_e5 (rfl : kT 0 = (5, 0)))) hl.1 rfl rfl (Nat.le_of_ble_eq_true rfl) ⟨Nat.zero_le _, Nat.zero_le _⟩ dL_comes_53) (fun H locs hM hS => ?_)
  have hM : mm_P G kR 731 M19 H := hM
  refine lv_istore (lv' := [(7, .int r18), (6, .int r15), (5, .int y13), (4, .int r10), (3, .int r6), (2, .int r2), (0, .ref (mm_lo G + 0)), (1, .int x1)]) hx hb dL_comes_56 hl (by decide) rfl (fun ls hl => ?_)
  refine lv_aload_n hx hb dL_comes_58 rfl (lv_at hl 6 rfl) ?_
  refine lv_iload_n hx hb dL_comes_59 rfl (lv_at hl 4 rfl) ?_
  obtain ⟨r21, M22, e20, heq⟩ := bn2_of heq
  refine mm_ki hS (mm_runV (o := 0) (rest := []) C hM hS (tX6_firstDay l G M19 r6 r21 M22 e20) (uL_156 _ (Nat.le_of_ble_eq_true rfl) (Nat.le_of_ble_eq_true rfl)) (mm_recv C hM (kl (rfl : kT 0 = (5, 0))) (ci := 5) rfl (mm_e5 (rfl : kT 0 = (5, 0)))) hl.1 rfl rfl (Nat.le_of_ble_eq_true rfl) ⟨Nat.zero_le _, Nat.zero_le _⟩ dL_comes_60) (fun H locs hM hS => ?_)
  have hM : mm_P G kR 731 M22 H := hM
  refine lv_istore (lv' := [(8, .int r21), (7, .int r18), (6, .int r15), (5, .int y13), (4, .int r10), (3, .int r6), (2, .int r2), (0, .ref (mm_lo G + 0)), (1, .int x1)]) hx hb dL_comes_63 hl (by decide) rfl (fun ls hl => ?_)
  refine lv_aload_n hx hb dL_comes_65 rfl (lv_at hl 7 rfl) ?_
  refine lv_iload_n hx hb dL_comes_66 rfl (lv_at hl 5 rfl) ?_
  refine lv_iload hx hb dL_comes_67 (lv_at hl 3 rfl) ?_
  obtain ⟨r24, M25, e23, heq⟩ := bn2_of heq
  refine mm_ki hS (mm_runV (o := 0) (rest := []) C hM hS (tX6_daysOf l G M22 r6 y13 r24 M25 e23) (uL_159 _ (Nat.le_of_ble_eq_true rfl) (Nat.le_of_ble_eq_true rfl)) (mm_recv C hM (kl (rfl : kT 0 = (5, 0))) (ci := 5) rfl (mm_e5 (rfl : kT 0 = (5, 0)))) hl.1 rfl rfl (Nat.le_of_ble_eq_true rfl) ⟨Nat.zero_le _, Nat.zero_le _⟩ dL_comes_69) (fun H locs hM hS => ?_)
  have hM : mm_P G kR 731 M25 H := hM
  refine lv_istore (lv' := [(9, .int r24), (8, .int r21), (7, .int r18), (6, .int r15), (5, .int y13), (4, .int r10), (3, .int r6), (2, .int r2), (0, .ref (mm_lo G + 0)), (1, .int x1)]) hx hb dL_comes_72 hl (by decide) rfl (fun ls hl => ?_)
  refine lv_aload_n hx hb dL_comes_74 rfl (lv_at hl 8 rfl) ?_
  refine lv_iload_n hx hb dL_comes_75 rfl (lv_at hl 6 rfl) ?_
  refine lv_iload_n hx hb dL_comes_76 rfl (lv_at hl 9 rfl) ?_
  refine lv_iconst (v := 2) hx hb dL_comes_77 (by decide) ?_
  obtain ⟨r27, e26, heq⟩ := bn_of heq
  refine mm_ki hS (mm_runS (rest := [.int r6, .ref (mm_lo G + 0)]) C hM hS (tL_up l G M25 x1 2 r27 e26) (uL_23 _ (Nat.le_of_ble_eq_true rfl) (Nat.le_of_ble_eq_true rfl)) hl.1 rfl rfl (Nat.le_of_ble_eq_true rfl) ⟨Nat.zero_le _, Nat.zero_le _⟩ dL_comes_78) (fun H locs hM hS => ?_)
  have hM : mm_P G kR 731 M25 H := hM
  refine lv_if_ne (tgt := 89) hx hb dL_comes_81 (by decide) (fun c28 => ?_) (fun c28 => ?_)
  · have heq := if_f c28 heq
    refine lv_iload hx hb dL_comes_89 (lv_at hl 5 rfl) ?_
    exact tL_comes_91 C x1 _ _ _ _ _ _ _ _ _ _ _ _ _ _ hM hS (lv_sub hl [8, 9, 7, 6, 5, 4, 3, 2, 1, 0] rfl) heq
  · have heq := if_t c28 heq
    refine lv_bipush (v := (-6)) hx hb dL_comes_84 (by decide) ?_
    refine lv_goto (tgt := 91) hx hb dL_comes_86 (by decide) ?_
    exact tL_comes_91 C x1 _ _ _ _ _ _ _ _ _ _ _ _ _ _ hM hS (lv_sub hl [8, 9, 7, 6, 5, 4, 3, 2, 1, 0] rfl) heq
end LWALK
