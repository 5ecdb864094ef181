section LWALK
variable {p : Program} {l : Launch} {e : Env} {s : State} {m : MethodId} {args : Array Value} {below : List Frame} {meth : Method} {c : Code} {G : mm_G}
set_option maxRecDepth 100000 in
set_option maxHeartbeats 4000000 in
theorem tL_act_344 (C : mm_C G p s m args meth c RL cL_act 12 (some .boolean)) (x1 : Int32) (x2 : Int32) (x3 : Int32) {r : Bool} {M9 : mm_M} : ∀ (M : mm_M) (v4 : Int32) (v5 : Int32) (t0 : Int32) (t1 : Int32) (H : Heap) (locs : List Loc) (ls : Array Slot), mm_P G kR 731 M H → va_S (mm_A G) s.heap H locs → lv_has ls 12 [(0, .ref (mm_lo G + 0)), (4, .int v4), (5, .int v5)] → fL_act_344 x1 x2 x3 M v4 v5 t0 t1 = some (r, M9) → W p l e rmL_act s m args below meth c H locs 0 0 (MQ below (mm_Qi G (b2i r) (kR, 731, M9)) args s 1 40 (mm_A G)) (F0 m 344 ls [.int t1, .int t0]) := by
  obtain ⟨hx, hb, -, -, -, -, -, -, hZ, -⟩ := id C
  intro M v4 v5 t0 t1 H locs ls hM hS hl heq
  rw [fL_act_344] at heq
  refine lv_icmp_ne (tgt := 368) hx hb dL_act_344 (by decide) (fun c1 => ?_) (fun c1 => ?_)
  · have heq := if_f c1 heq
    refine lv_iconst (v := 0) hx hb dL_act_368 (by decide) ?_
    cases heq
    refine W.widen (k := 1) (n := 40) (Nat.zero_le _) (Nat.zero_le _) ?_
    exact mm_zret C hM hS dL_act_369
  · have heq := if_t c1 heq
    refine lv_aload_n hx hb dL_act_347 rfl (lv_at hl 0 rfl) ?_
    refine lv_iload hx hb dL_act_348 (lv_at hl 1 rfl) ?_
    refine lv_iload hx hb dL_act_350 (lv_at hl 2 rfl) ?_
    refine lv_bipush (v := (-6)) hx hb dL_act_352 (by decide) ?_
    refine lv_bipush (v := (-6)) hx hb dL_act_354 (by decide) ?_
    obtain ⟨r3, M4, e2, heq⟩ := bn2_of heq
    refine mm_ki hS (mm_runV (o := 0) (rest := []) C hM hS (tX6_wish l G M v4 v5 (-6) (-6) r3 M4 e2) (uL_69 _ (Nat.le_of_ble_eq_true rfl) (Nat.le_of_ble_eq_true rfl)) (mm_recv C hM (kl (rfl : kT 0 = (5, 0))) (ci := 5) rfl (mm_e5 (rfl : kT 0 = (5, 0)))) hl.1 rfl rfl (Nat.le_of_ble_eq_true rfl) ⟨Nat.zero_le _, Nat.zero_le _⟩ dL_act_356) (fun H locs hM hS => ?_)
    have hM : mm_P G kR 731 M4 H := hM
    refine lv_bipush (v := (-2)) hx hb dL_act_359 (by decide) ?_
    refine lv_icmp_ne (tgt := 368) hx hb dL_act_361 (by decide) (fun c5 => ?_) (fun c5 => ?_)
    · have heq := if_f c5 heq
      refine lv_iconst (v := 0) hx hb dL_act_368 (by decide) ?_
      cases heq
      refine W.widen (k := 1) (n := 40) (Nat.zero_le _) (Nat.zero_le _) ?_
      exact mm_zret C hM hS dL_act_369
    · have heq := if_t c5 heq
      refine lv_iconst (v := 1) hx hb dL_act_364 (by decide) ?_
      refine lv_goto (tgt := 369) hx hb dL_act_365 (by decide) ?_
      cases heq
      refine W.widen (k := 1) (n := 40) (Nat.zero_le _) (Nat.zero_le _) ?_
      exact mm_zret C hM hS dL_act_369

set_option maxRecDepth 100000 in
set_option maxHeartbeats 4000000 in
theorem tL_act_321 (C : mm_C G p s m args meth c RL cL_act 12 (some .boolean)) (x1 : Int32) (x2 : Int32) (x3 : Int32) {r : Bool} {M9 : mm_M} : ∀ (M : mm_M) (v4 : Int32) (v5 : Int32) (v8 : Int32) (v10 : Int32) (t0 : Int32) (t1 : Int32) (H : Heap) (locs : List Loc) (ls : Array Slot), mm_P G kR 731 M H → va_S (mm_A G) s.heap H locs → lv_has ls 12 [(0, .ref (mm_lo G + 0)), (4, .int v4), (5, .int v5), (8, .int v8), (10, .int v10)] → fL_act_321 x1 x2 x3 M v4 v5 v8 v10 t0 t1 = some (r, M9) → W p l e rmL_act s m args below meth c H locs 0 0 (MQ below (mm_Qi G (b2i r) (kR, 731, M9)) args s 1 40 (mm_A G)) (F0 m 321 ls [.int t1, .int t0]) := by
  obtain ⟨hx, hb, -, -, -, -, -, -, hZ, -⟩ := id C
  intro M v4 v5 v8 v10 t0 t1 H locs ls hM hS hl heq
  rw [fL_act_321] at heq
  refine lv_icmp_ne (tgt := 368) hx hb dL_act_321 (by decide) (fun c1 => ?_) (fun c1 => ?_)
  · have heq := if_f c1 heq
    refine lv_iconst (v := 0) hx hb dL_act_368 (by decide) ?_
    cases heq
    refine W.widen (k := 1) (n := 40) (Nat.zero_le _) (Nat.zero_le _) ?_
    exact mm_zret C hM hS dL_act_369
  · have heq := if_t c1 heq
    refine lv_aload_n hx hb dL_act_324 rfl (lv_at hl 0 rfl) ?_
    refine lv_iload hx hb dL_act_325 (lv_at hl 1 rfl) ?_
    refine lv_iconst (v := 5) hx hb dL_act_327 (by decide) ?_
    obtain ⟨r3, e2, heq⟩ := bn_of heq
    refine mm_ki hS (mm_runV (o := 0) (rest := []) C hM hS (tX6_ofCart l G M v4 5 r3 e2) (uL_66 _ (Nat.le_of_ble_eq_true rfl) (Nat.le_of_ble_eq_true rfl)) (mm_recv C hM (kl (rfl : kT 0 = (5, 0))) (ci := 5) rfl (mm_e5 (rfl : kT 0 = (5, 0)))) hl.1 rfl rfl (Nat.le_of_ble_eq_true rfl) ⟨Nat.zero_le _, Nat.zero_le _⟩ dL_act_328) (fun H locs hM hS => ?_)
    have hM : mm_P G kR 731 M H := hM
    refine lv_iload hx hb dL_act_331 (lv_at hl 4 rfl) ?_
    refine lv_iconst (v := 2) hx hb dL_act_333 (by decide) ?_
    refine lv_icmp_le (tgt := 342) hx hb dL_act_334 (by decide) (fun c4 => ?_) (fun c4 => ?_)
    · have heq := if_t c4 heq
      refine lv_bipush (v := (-6)) hx hb dL_act_342 (by decide) ?_
      exact tL_act_344 C x1 x2 x3 _ _ _ _ _ _ _ _ hM hS (lv_sub hl [0, 1, 2] rfl) heq
    · have heq := if_f c4 heq
      refine lv_iload hx hb dL_act_337 (lv_at hl 3 rfl) ?_
      refine lv_goto (tgt := 344) hx hb dL_act_339 (by decide) ?_
      exact tL_act_344 C x1 x2 x3 _ _ _ _ _ _ _ _ hM hS (lv_sub hl [0, 1, 2] rfl) heq

set_option maxRecDepth 100000 in
set_option maxHeartbeats 4000000 in
theorem tL_act_209 (C : mm_C G p s m args meth c RL cL_act 12 (some .boolean)) (x1 : Int32) (x2 : Int32) (x3 : Int32) {r : Bool} {M9 : mm_M} : ∀ (M : mm_M) (v4 : Int32) (v5 : Int32) (v6 : Int32) (v7 : Int32) (v8 : Int32) (v9 : Bool) (t0 : Int32) (H : Heap) (locs : List Loc) (ls : Array Slot), mm_P G kR 731 M H → va_S (mm_A G) s.heap H locs → lv_has ls 12 [(0, .ref (mm_lo G + 0)), (4, .int v4), (5, .int v5), (6, .int v6), (7, .int v7), (8, .int v8), (9, .int (b2i v9))] → fL_act_209 x1 x2 x3 M v4 v5 v6 v7 v8 v9 t0 = some (r, M9) → W p l e rmL_act s m args below meth c H locs 0 0 (MQ below (mm_Qi G (b2i r) (kR, 731, M9)) args s 1 40 (mm_A G)) (F0 m 209 ls [.int t0]) := by
  obtain ⟨hx, hb, -, -, -, -, -, -, hZ, -⟩ := id C
  intro M v4 v5 v6 v7 v8 v9 t0 H locs ls hM hS hl heq
  rw [fL_act_209] at heq
  refine lv_istore (lv' := [(10, .int t0), (0, .ref (mm_lo G + 0)), (4, .int v4), (5, .int v5), (6, .int v6), (7, .int v7), (8, .int v8), (9, .int (b2i v9))]) hx hb dL_act_209 hl (by decide) rfl (fun ls hl => ?_)
  refine lv_aload_n hx hb dL_act_211 rfl (lv_at hl 1 rfl) ?_
  refine lv_iload hx hb dL_act_212 (lv_at hl 2 rfl) ?_
  refine lv_iconst (v := 2) hx hb dL_act_214 (by decide) ?_
  obtain ⟨r2, e1, heq⟩ := bn_of heq
  refine mm_ki hS (mm_runV (o := 0) (rest := []) C hM hS (tX6_ofCart l G M v4 2 r2 e1) (uL_66 _ (Nat.le_of_ble_eq_true rfl) (Nat.le_of_ble_eq_true rfl)) (mm_recv C hM (kl (rfl : kT 0 = (5, 0))) (ci := 5) rfl (mm_e5 (rfl : kT 0 = (5, 0)))) hl.1 rfl rfl (Nat.le_of_ble_eq_true rfl) ⟨Nat.zero_le _, Nat.zero_le _⟩ dL_act_215) (fun H locs hM hS => ?_)
  have hM : mm_P G kR 731 M H := hM
  refine lv_istore (lv' := [(11, .int r2), (10, .int t0), (0, .ref (mm_lo G + 0)), (4, .int v4), (5, .int v5), (6, .int v6), (7, .int v7), (8, .int v8), (9, .int (b2i v9))]) hx hb dL_act_218 hl (by decide) rfl (fun ls hl => ?_)
  refine lv_iload hx hb dL_act_220 (lv_at hl 8 rfl) ?_
  refine mm_ifeqZ (tgt := 260) C dL_act_222 (by decide) (fun c3 => ?_) (fun c3 => ?_)
  · have heq := if_f c3 heq
    refine lv_aload_n hx hb dL_act_260 rfl (lv_at hl 2 rfl) ?_
    refine lv_iload hx hb dL_act_261 (lv_at hl 3 rfl) ?_
    refine lv_iload hx hb dL_act_263 (lv_at hl 5 rfl) ?_
    refine lv_iload hx hb dL_act_265 (lv_at hl 6 rfl) ?_
    refine lv_iload hx hb dL_act_267 (lv_at hl 7 rfl) ?_
    obtain ⟨r5, M6, e4, heq⟩ := bn2_of heq
    refine mm_ki hS (mm_runV (o := 0) (rest := []) C hM hS (tX6_wish l G M v4 v6 v7 v8 r5 M6 e4) (uL_69 _ (Nat.le_of_ble_eq_true rfl) (Nat.le_of_ble_eq_true rfl)) (mm_recv C hM (kl (rfl : kT 0 = (5, 0))) (ci := 5) rfl (mm_e5 (rfl : kT 0 = (5, 0)))) hl.1 rfl rfl (Nat.le_of_ble_eq_true rfl) ⟨Nat.zero_le _, Nat.zero_le _⟩ dL_act_269) (fun H locs hM hS => ?_)
    have hM : mm_P G kR 731 M6 H := hM
    refine lv_iload hx hb dL_act_272 (lv_at hl 1 rfl) ?_
    refine lv_icmp_ne (tgt := 368) hx hb dL_act_274 (by decide) (fun c7 => ?_) (fun c7 => ?_)
    · have heq := if_f c7 heq
      refine lv_iconst (v := 0) hx hb dL_act_368 (by decide) ?_
      cases heq
      refine W.widen (k := 1) (n := 40) (Nat.zero_le _) (Nat.zero_le _) ?_
      exact mm_zret C hM hS dL_act_369
    · have heq := if_t c7 heq
      refine lv_aload_n hx hb dL_act_277 rfl (lv_at hl 2 rfl) ?_
      refine lv_iload hx hb dL_act_278 (lv_at hl 3 rfl) ?_
      refine lv_iconst (v := 2) hx hb dL_act_280 (by decide) ?_
      obtain ⟨r9, e8, heq⟩ := bn_of heq
      refine mm_ki hS (mm_runV (o := 0) (rest := []) C hM hS (tX6_ofCart l G M6 v4 2 r9 e8) (uL_66 _ (Nat.le_of_ble_eq_true rfl) (Nat.le_of_ble_eq_true rfl)) (mm_recv C hM (kl (rfl : kT 0 = (5, 0))) (ci := 5) rfl (mm_e5 (rfl : kT 0 = (5, 0)))) hl.1 rfl rfl (Nat.le_of_ble_eq_true rfl) ⟨Nat.zero_le _, Nat.zero_le _⟩ dL_act_281) (fun H locs hM hS => ?_)
      have hM : mm_P G kR 731 M6 H := hM
      refine lv_iload hx hb dL_act_284 (lv_at hl 1 rfl) ?_
      refine lv_icmp_ne (tgt := 368) hx hb dL_act_286 (by decide) (fun c10 => ?_) (fun c10 => ?_)
      · have heq := if_f c10 heq
        refine lv_iconst (v := 0) hx hb dL_act_368 (by decide) ?_
        cases heq
        refine W.widen (k := 1) (n := 40) (Nat.zero_le _) (Nat.zero_le _) ?_
        exact mm_zret C hM hS dL_act_369
      · have heq := if_t c10 heq
        refine lv_aload_n hx hb dL_act_289 rfl (lv_at hl 2 rfl) ?_
        refine lv_iload hx hb dL_act_290 (lv_at hl 3 rfl) ?_
        refine lv_iconst (v := 3) hx hb dL_act_292 (by decide) ?_
        obtain ⟨r12, e11, heq⟩ := bn_of heq
        refine mm_ki hS (mm_runV (o := 0) (rest := []) C hM hS (tX6_ofCart l G M6 v4 3 r12 e11) (uL_66 _ (Nat.le_of_ble_eq_true rfl) (Nat.le_of_ble_eq_true rfl)) (mm_recv C hM (kl (rfl : kT 0 = (5, 0))) (ci := 5) rfl (mm_e5 (rfl : kT 0 = (5, 0)))) hl.1 rfl rfl (Nat.le_of_ble_eq_true rfl) ⟨Nat.zero_le _, Nat.zero_le _⟩ dL_act_293) (fun H locs hM hS => ?_)
        have hM : mm_P G kR 731 M6 H := hM
        refine lv_iload hx hb dL_act_296 (lv_at hl 5 rfl) ?_
        refine lv_icmp_ne (tgt := 368) hx hb dL_act_298 (by decide) (fun c13 => ?_) (fun c13 => ?_)
        · have heq := if_f c13 heq
          refine lv_iconst (v := 0) hx hb dL_act_368 (by decide) ?_
          cases heq
          refine W.widen (k := 1) (n := 40) (Nat.zero_le _) (Nat.zero_le _) ?_
          exact mm_zret C hM hS dL_act_369
        · have heq := if_t c13 heq
          refine lv_aload_n hx hb dL_act_301 rfl (lv_at hl 2 rfl) ?_
          refine lv_iload hx hb dL_act_302 (lv_at hl 3 rfl) ?_
          refine lv_iconst (v := 4) hx hb dL_act_304 (by decide) ?_
          obtain ⟨r15, e14, heq⟩ := bn_of heq
          refine mm_ki hS (mm_runV (o := 0) (rest := []) C hM hS (tX6_ofCart l G M6 v4 4 r15 e14) (uL_66 _ (Nat.le_of_ble_eq_true rfl) (Nat.le_of_ble_eq_true rfl)) (mm_recv C hM (kl (rfl : kT 0 = (5, 0))) (ci := 5) rfl (mm_e5 (rfl : kT 0 = (5, 0)))) hl.1 rfl rfl (Nat.le_of_ble_eq_true rfl) ⟨Nat.zero_le _, Nat.zero_le _⟩ dL_act_305) (fun H locs hM hS => ?_)
          have hM : mm_P G kR 731 M6 H := hM
          refine lv_iload hx hb dL_act_308 (lv_at hl 1 rfl) ?_
          refine lv_iconst (v := 1) hx hb dL_act_310 (by decide) ?_
          refine lv_icmp_le (tgt := 319) hx hb dL_act_311 (by decide) (fun c16 => ?_) (fun c16 => ?_)
          · have heq := if_t c16 heq
            refine lv_bipush (v := (-6)) hx hb dL_act_319 (by decide) ?_
            exact tL_act_321 C x1 x2 x3 _ _ _ _ _ _ _ _ _ _ hM hS (lv_sub hl [2, 3, 4, 7, 1] rfl) heq
          · have heq := if_f c16 heq
            refine lv_iload hx hb dL_act_314 (lv_at hl 6 rfl) ?_
            refine lv_goto (tgt := 321) hx hb dL_act_316 (by decide) ?_
            exact tL_act_321 C x1 x2 x3 _ _ _ _ _ _ _ _ _ _ hM hS (lv_sub hl [2, 3, 4, 7, 1] rfl) heq
  · have heq := if_t c3 heq
    refine lv_aload_n hx hb dL_act_225 rfl (lv_at hl 2 rfl) ?_
    refine lv_iload hx hb dL_act_226 (lv_at hl 3 rfl) ?_
    refine lv_iload hx hb dL_act_228 (lv_at hl 5 rfl) ?_
    refine lv_iload hx hb dL_act_230 (lv_at hl 6 rfl) ?_
    refine lv_iload hx hb dL_act_232 (lv_at hl 7 rfl) ?_
    obtain ⟨r18, M19, e17, heq⟩ := bn2_of heq
    refine mm_ki hS (mm_runV (o := 0) (rest := []) C hM hS (tX6_wish l G M v4 v6 v7 v8 r18 M19 e17) (uL_69 _ (Nat.le_of_ble_eq_true rfl) (Nat.le_of_ble_eq_true rfl)) (mm_recv C hM (kl (rfl : kT 0 = (5, 0))) (ci := 5) rfl (mm_e5 (rfl : kT 0 = (5, 0)))) hl.1 rfl rfl (Nat.le_of_ble_eq_true rfl) ⟨Nat.zero_le _, Nat.zero_le _⟩ dL_act_234) (fun H locs hM hS => ?_)
    have hM : mm_P G kR 731 M19 H := hM
    refine lv_bipush (v := (-2)) hx hb dL_act_237 (by decide) ?_
    refine lv_icmp_ne (tgt := 258) hx hb dL_act_239 (by decide) (fun c20 => ?_) (fun c20 => ?_)
    · have heq := if_f c20 heq
      refine lv_iconst (v := 0) hx hb dL_act_258 (by decide) ?_
      cases heq
      refine W.widen (k := 1) (n := 40) (Nat.zero_le _) (Nat.zero_le _) ?_
      exact mm_zret C hM hS dL_act_259
    · have heq := if_t c20 heq
      refine lv_aload_n hx hb dL_act_242 rfl (lv_at hl 2 rfl) ?_
      refine lv_iload hx hb dL_act_243 (lv_at hl 3 rfl) ?_
      refine lv_iconst (v := 2) hx hb dL_act_245 (by decide) ?_
      obtain ⟨r22, e21, heq⟩ := bn_of heq
      refine mm_ki hS (mm_runV (o := 0) (rest := []) C hM hS (tX6_ofCart l G M19 v4 2 r22 e21) (uL_66 _ (Nat.le_of_ble_eq_true rfl) (Nat.le_of_ble_eq_true rfl)) (mm_recv C hM (kl (rfl : kT 0 = (5, 0))) (ci := 5) rfl (mm_e5 (rfl : kT 0 = (5, 0)))) hl.1 rfl rfl (Nat.le_of_ble_eq_true rfl) ⟨Nat.zero_le _, Nat.zero_le _⟩ dL_act_246) (fun H locs hM hS => ?_)
      have hM : mm_P G kR 731 M19 H := hM
      refine lv_iload hx hb dL_act_249 (lv_at hl 0 rfl) ?_
      refine lv_icmp_ne (tgt := 258) hx hb dL_act_251 (by decide) (fun c23 => ?_) (fun c23 => ?_)
      · have heq := if_f c23 heq
        refine lv_iconst (v := 0) hx hb dL_act_258 (by decide) ?_
        cases heq
        refine W.widen (k := 1) (n := 40) (Nat.zero_le _) (Nat.zero_le _) ?_
        exact mm_zret C hM hS dL_act_259
      · have heq := if_t c23 heq
        refine lv_iconst (v := 1) hx hb dL_act_254 (by decide) ?_
        refine lv_goto (tgt := 259) hx hb dL_act_255 (by decide) ?_
        cases heq
        refine W.widen (k := 1) (n := 40) (Nat.zero_le _) (Nat.zero_le _) ?_
        exact mm_zret C hM hS dL_act_259

set_option maxRecDepth 100000 in
set_option maxHeartbeats 4000000 in
theorem tL_act_188 (C : mm_C G p s m args meth c RL cL_act 12 (some .boolean)) (x1 : Int32) (x2 : Int32) (x3 : Int32) {r : Bool} {M9 : mm_M} : ∀ (M : mm_M) (v4 : Int32) (v5 : Int32) (v6 : Int32) (v7 : Int32) (v8 : Int32) (t0 : Bool) (H : Heap) (locs : List Loc) (ls : Array Slot), mm_P G kR 731 M H → va_S (mm_A G) s.heap H locs → lv_has ls 12 [(0, .ref (mm_lo G + 0)), (4, .int v4), (5, .int v5), (6, .int v6), (7, .int v7), (8, .int v8)] → fL_act_188 x1 x2 x3 M v4 v5 v6 v7 v8 t0 = some (r, M9) → W p l e rmL_act s m args below meth c H locs 0 0 (MQ below (mm_Qi G (b2i r) (kR, 731, M9)) args s 1 40 (mm_A G)) (F0 m 188 ls [.int (b2i t0)]) := by
  obtain ⟨hx, hb, -, -, -, -, -, -, hZ, -⟩ := id C
  intro M v4 v5 v6 v7 v8 t0 H locs ls hM hS hl heq
  rw [fL_act_188] at heq
  refine lv_istore (lv' := [(9, .int (b2i t0)), (0, .ref (mm_lo G + 0)), (4, .int v4), (5, .int v5), (6, .int v6), (7, .int v7), (8, .int v8)]) hx hb dL_act_188 hl (by decide) rfl (fun ls hl => ?_)
  refine lv_iload hx hb dL_act_190 (lv_at hl 5 rfl) ?_
  refine lv_if_ge (tgt := 199) hx hb dL_act_192 (by decide) (fun c1 => ?_) (fun c1 => ?_)
  · have heq := if_t c1 heq
    refine lv_iload hx hb dL_act_199 (lv_at hl 6 rfl) ?_
    refine lv_if_ge (tgt := 208) hx hb dL_act_201 (by decide) (fun c2 => ?_) (fun c2 => ?_)
    · have heq := if_t c2 heq
      refine lv_iconst (v := 3) hx hb dL_act_208 (by decide) ?_
      exact tL_act_209 C x1 x2 x3 _ _ _ _ _ _ _ _ _ _ _ hM hS (lv_sub hl [1, 2, 3, 4, 5, 6, 0] rfl) heq
    · have heq := if_f c2 heq
      refine lv_iconst (v := 2) hx hb dL_act_204 (by decide) ?_
      refine lv_goto (tgt := 209) hx hb dL_act_205 (by decide) ?_
      exact tL_act_209 C x1 x2 x3 _ _ _ _ _ _ _ _ _ _ _ hM hS (lv_sub hl [1, 2, 3, 4, 5, 6, 0] rfl) heq
  · have heq := if_f c1 heq
    refine lv_iconst (v := 1) hx hb dL_act_195 (by decide) ?_
    refine lv_goto (tgt := 209) hx hb dL_act_196 (by decide) ?_
    exact tL_act_209 C x1 x2 x3 _ _ _ _ _ _ _ _ _ _ _ hM hS (lv_sub hl [1, 2, 3, 4, 5, 6, 0] rfl) heq

set_option maxRecDepth 100000 in
set_option maxHeartbeats 4000000 in
theorem tL_act_183 (C : mm_C G p s m args meth c RL cL_act 12 (some .boolean)) (x1 : Int32) (x2 : Int32) (x3 : Int32) {r : Bool} {M9 : mm_M} : ∀ (M : mm_M) (v4 : Int32) (v5 : Int32) (v6 : Int32) (v7 : Int32) (v8 : Int32) (H : Heap) (locs : List Loc) (ls : Array Slot), mm_P G kR 731 M H → va_S (mm_A G) s.heap H locs → lv_has ls 12 [(0, .ref (mm_lo G + 0)), (4, .int v4), (5, .int v5), (6, .int v6), (7, .int v7), (8, .int v8)] → fL_act_183 x1 x2 x3 M v4 v5 v6 v7 v8 = some (r, M9) → W p l e rmL_act s m args below meth c H locs 0 0 (MQ below (mm_Qi G (b2i r) (kR, 731, M9)) args s 1 40 (mm_A G)) (F0 m 183 ls []) := by
  obtain ⟨hx, hb, -, -, -, -, -, -, hZ, -⟩ := id C
  intro M v4 v5 v6 v7 v8 H locs ls hM hS hl heq
  rw [fL_act_183] at heq
  refine lv_iconst (v := 1) hx hb dL_act_183 (by decide) ?_
  refine lv_goto (tgt := 188) hx hb dL_act_184 (by decide) ?_
  exact tL_act_188 C x1 x2 x3 _ _ _ _ _ _ _ _ _ _ hM hS (lv_sub hl [0, 1, 2, 3, 4, 5] rfl) heq

set_option maxRecDepth 100000 in
set_option maxHeartbeats 4000000 in
theorem tL_act_187 (C : mm_C G p s m args meth c RL cL_act 12 (some .boolean)) (x1 : Int32) (x2 : Int32) (x3 : Int32) {r : Bool} {M9 : mm_M} : ∀ (M : mm_M) (v4 : Int32) (v5 : Int32) (v6 : Int32) (v7 : Int32) (v8 : Int32) (H : Heap) (locs : List Loc) (ls : Array Slot), mm_P G kR 731 M H → va_S (mm_A G) s.heap H locs → lv_has ls 12 [(0, .ref (mm_lo G + 0)), (4, .int v4), (5, .int v5), (6, .int v6), (7, .int v7), (8, .int v8)] → fL_act_187 x1 x2 x3 M v4 v5 v6 v7 v8 = some (r, M9) → W p l e rmL_act s m args below meth c H locs 0 0 (MQ below (mm_Qi G (b2i r) (kR, 731, M9)) args s 1 40 (mm_A G)) (F0 m 187 ls []) := by
  obtain ⟨hx, hb, -, -, -, -, -, -, hZ, -⟩ := id C
  intro M v4 v5 v6 v7 v8 H locs ls hM hS hl heq
  rw [fL_act_187] at heq
  refine lv_iconst (v := 0) hx hb dL_act_187 (by decide) ?_
  exact tL_act_188 C x1 x2 x3 _ _ _ _ _ _ _ _ _ _ hM hS (lv_sub hl [0, 1, 2, 3, 4, 5] rfl) heq

set_option maxRecDepth 100000 in
set_option maxHeartbeats 4000000 in
theorem tL_act_150 (C : mm_C G p s m args meth c RL cL_act 12 (some .boolean)) (x1 : Int32) (x2 : Int32) (x3 : Int32) {r : Bool} {M9 : mm_M} : ∀ (M : mm_M) (v4 : Int32) (v5 : Int32) (v6 : Int32) (v7 : Int32) (t0 : Int32) (H : Heap) (locs : List Loc) (ls : Array Slot), mm_P G kR 731 M H → va_S (mm_A G) s.heap H locs → lv_has ls 12 [(0, .ref (mm_lo G + 0)), (4, .int v4), (5, .int v5), (6, .int v6), (7, .int v7)] → fL_act_150 x1 x2 x3 M v4 v5 v6 v7 t0 = some (r, M9) → W p l e rmL_act s m args below meth c H locs 0 0 (MQ below (mm_Qi G (b2i r) (kR, 731, M9)) args s 1 40 (mm_A G)) (F0 m 150 ls [.int t0]) := by
  obtain ⟨hx, hb, -, -, -, -, -, -, hZ, -⟩ := id C
  intro M v4 v5 v6 v7 t0 H locs ls hM hS hl heq
  rw [fL_act_150] at heq
  refine lv_istore (lv' := [(8, .int t0), (0, .ref (mm_lo G + 0)), (4, .int v4), (5, .int v5), (6, .int v6), (7, .int v7)]) hx hb dL_act_150 hl (by decide) rfl (fun ls hl => ?_)
  refine lv_iload hx hb dL_act_152 (lv_at hl 5 rfl) ?_
  refine lv_if_lt (tgt := 187) hx hb dL_act_154 (by decide) (fun c1 => ?_) (fun c1 => ?_)
  · have heq := if_t c1 heq
    exact tL_act_187 C x1 x2 x3 _ _ _ _ _ _ _ _ _ hM hS (lv_sub hl [1, 2, 3, 4, 5, 0] rfl) heq
  · have heq := if_f c1 heq
    refine lv_iload hx hb dL_act_157 (lv_at hl 4 rfl) ?_
    refine lv_iload hx hb dL_act_159 (lv_at hl 5 rfl) ?_
    refine lv_icmp_eq (tgt := 183) hx hb dL_act_161 (by decide) (fun c2 => ?_) (fun c2 => ?_)
    · have heq := if_t c2 heq
      exact tL_act_183 C x1 x2 x3 _ _ _ _ _ _ _ _ _ hM hS (lv_sub hl [1, 2, 3, 4, 5, 0] rfl) heq
    · have heq := if_f c2 heq
      refine lv_iload hx hb dL_act_164 (lv_at hl 0 rfl) ?_
      refine lv_if_lt (tgt := 187) hx hb dL_act_166 (by decide) (fun c3 => ?_) (fun c3 => ?_)
      · have heq := if_t c3 heq
        exact tL_act_187 C x1 x2 x3 _ _ _ _ _ _ _ _ _ hM hS (lv_sub hl [1, 2, 3, 4, 5, 0] rfl) heq
      · have heq := if_f c3 heq
        refine lv_iload hx hb dL_act_169 (lv_at hl 4 rfl) ?_
        refine lv_iload hx hb dL_act_171 (lv_at hl 0 rfl) ?_
        refine lv_icmp_eq (tgt := 183) hx hb dL_act_173 (by decide) (fun c4 => ?_) (fun c4 => ?_)
        · have heq := if_t c4 heq
          exact tL_act_183 C x1 x2 x3 _ _ _ _ _ _ _ _ _ hM hS (lv_sub hl [1, 2, 3, 4, 5, 0] rfl) heq
        · have heq := if_f c4 heq
          refine lv_iload hx hb dL_act_176 (lv_at hl 5 rfl) ?_
          refine lv_iload hx hb dL_act_178 (lv_at hl 0 rfl) ?_
          refine lv_icmp_ne (tgt := 187) hx hb dL_act_180 (by decide) (fun c5 => ?_) (fun c5 => ?_)
          · have heq := if_f c5 heq
            exact tL_act_187 C x1 x2 x3 _ _ _ _ _ _ _ _ _ hM hS (lv_sub hl [1, 2, 3, 4, 5, 0] rfl) heq
          · have heq := if_t c5 heq
            exact tL_act_183 C x1 x2 x3 _ _ _ _ _ _ _ _ _ hM hS (lv_sub hl [1, 2, 3, 4, 5, 0] rfl) heq

set_option maxRecDepth 100000 in
set_option maxHeartbeats 4000000 in
theorem tL_act_123 (C : mm_C G p s m args meth c RL cL_act 12 (some .boolean)) (x1 : Int32) (x2 : Int32) (x3 : Int32) {r : Bool} {M9 : mm_M} : ∀ (M : mm_M) (v4 : Int32) (v5 : Int32) (v6 : Int32) (t0 : Int32) (H : Heap) (locs : List Loc) (ls : Array Slot), mm_P G kR 731 M H → va_S (mm_A G) s.heap H locs → lv_has ls 12 [(0, .ref (mm_lo G + 0)), (3, .int x3), (4, .int v4), (5, .int v5), (6, .int v6)] → fL_act_123 x1 x2 x3 M v4 v5 v6 t0 = some (r, M9) → W p l e rmL_act s m args below meth c H locs 0 0 (MQ below (mm_Qi G (b2i r) (kR, 731, M9)) args s 1 40 (mm_A G)) (F0 m 123 ls [.int t0]) := by
  obtain ⟨hx, hb, -, -, -, -, -, -, hZ, -⟩ := id C
  intro M v4 v5 v6 t0 H locs ls hM hS hl heq
  rw [fL_act_123] at heq
  refine lv_istore (lv' := [(7, .int t0), (0, .ref (mm_lo G + 0)), (3, .int x3), (4, .int v4), (5, .int v5), (6, .int v6)]) hx hb dL_act_123 hl (by decide) rfl (fun ls hl => ?_)
  refine lv_iload_n hx hb dL_act_125 rfl (lv_at hl 2 rfl) ?_
  refine lv_bipush (v := 10) hx hb dL_act_126 (by decide) ?_
  refine lv_ishr hx hb dL_act_128 ?_
  refine lv_iconst (v := 3) hx hb dL_act_129 (by decide) ?_
  obtain ⟨r2, e1, heq⟩ := bn_of heq
  refine mm_ki hS (mm_runS (rest := []) C hM hS (tL_up l G M (x3 >>> (10 &&& 31)) 3 r2 e1) (uL_23 _ (Nat.le_of_ble_eq_true rfl) (Nat.le_of_ble_eq_true rfl)) hl.1 rfl rfl (Nat.le_of_ble_eq_true rfl) ⟨Nat.zero_le _, Nat.zero_le _⟩ dL_act_130) (fun H locs hM hS => ?_)
  have hM : mm_P G kR 731 M H := hM
  refine lv_if_ne (tgt := 141) hx hb dL_act_133 (by decide) (fun c3 => ?_) (fun c3 => ?_)
  · have heq := if_f c3 heq
    refine lv_iload_n hx hb dL_act_141 rfl (lv_at hl 2 rfl) ?_
    refine lv_bipush (v := 13) hx hb dL_act_142 (by decide) ?_
    refine lv_ishr hx hb dL_act_144 ?_
    refine lv_iload hx hb dL_act_145 (lv_at hl 4 rfl) ?_
    obtain ⟨r5, e4, heq⟩ := bn_of heq
    refine mm_ki hS (mm_runS (rest := []) C hM hS (tL_up l G M (x3 >>> (13 &&& 31)) v5 r5 e4) (uL_23 _ (Nat.le_of_ble_eq_true rfl) (Nat.le_of_ble_eq_true rfl)) hl.1 rfl rfl (Nat.le_of_ble_eq_true rfl) ⟨Nat.zero_le _, Nat.zero_le _⟩ dL_act_147) (fun H locs hM hS => ?_)
    have hM : mm_P G kR 731 M H := hM
    exact tL_act_150 C x1 x2 x3 _ _ _ _ _ _ _ _ _ hM hS (lv_sub hl [1, 3, 4, 5, 0] rfl) heq
  · have heq := if_t c3 heq
    refine lv_bipush (v := (-6)) hx hb dL_act_136 (by decide) ?_
    refine lv_goto (tgt := 150) hx hb dL_act_138 (by decide) ?_
    exact tL_act_150 C x1 x2 x3 _ _ _ _ _ _ _ _ _ hM hS (lv_sub hl [1, 3, 4, 5, 0] rfl) heq

set_option maxRecDepth 100000 in
set_option maxHeartbeats 4000000 in
theorem tL_act_84 (C : mm_C G p s m args meth c RL cL_act 12 (some .boolean)) (x1 : Int32) (x2 : Int32) (x3 : Int32) {r : Bool} {M9 : mm_M} : ∀ (M : mm_M) (v4 : Int32) (H : Heap) (locs : List Loc) (ls : Array Slot), mm_P G kR 731 M H → va_S (mm_A G) s.heap H locs → lv_has ls 12 [(0, .ref (mm_lo G + 0)), (3, .int x3), (4, .int v4)] → fL_act_84 x1 x2 x3 M v4 = some (r, M9) → W p l e rmL_act s m args below meth c H locs 0 0 (MQ below (mm_Qi G (b2i r) (kR, 731, M9)) args s 1 40 (mm_A G)) (F0 m 84 ls []) := by
  obtain ⟨hx, hb, -, -, -, -, -, -, hZ, -⟩ := id C
  intro M v4 H locs ls hM hS hl heq
  rw [fL_act_84] at heq
  refine lv_aload_n hx hb dL_act_84 rfl (lv_at hl 0 rfl) ?_
  refine lv_iconst (v := 2) hx hb dL_act_85 (by decide) ?_
  obtain ⟨r2, e1, heq⟩ := bn_of heq
  refine mm_ki hS (mm_runV (o := 0) (rest := []) C hM hS (tX6_count l G M 2 r2 e1) (uL_60 _ (Nat.le_of_ble_eq_true rfl) (Nat.le_of_ble_eq_true rfl)) (mm_recv C hM (kl (rfl : kT 0 = (5, 0))) (ci := 5) rfl (mm_e5 (rfl : kT 0 = (5, 0)))) hl.1 rfl rfl (Nat.le_of_ble_eq_true rfl) ⟨Nat.zero_le _, Nat.zero_le _⟩ dL_act_86) (fun H locs hM hS => ?_)
  have hM : mm_P G kR 731 M H := hM
  refine lv_istore (lv' := [(5, .int r2), (0, .ref (mm_lo G + 0)), (3, .int x3), (4, .int v4)]) hx hb dL_act_89 hl (by decide) rfl (fun ls hl => ?_)
  refine lv_iload_n hx hb dL_act_91 rfl (lv_at hl 2 rfl) ?_
  refine lv_iload hx hb dL_act_92 (lv_at hl 0 rfl) ?_
  obtain ⟨r4, e3, heq⟩ := bn_of heq
  refine mm_ki hS (mm_runS (rest := []) C hM hS (tL_up l G M x3 r2 r4 e3) (uL_23 _ (Nat.le_of_ble_eq_true rfl) (Nat.le_of_ble_eq_true rfl)) hl.1 rfl rfl (Nat.le_of_ble_eq_true rfl) ⟨Nat.zero_le _, Nat.zero_le _⟩ dL_act_94) (fun H locs hM hS => ?_)
  have hM : mm_P G kR 731 M H := hM
  refine lv_istore (lv' := [(6, .int r4), (5, .int r2), (0, .ref (mm_lo G + 0)), (3, .int x3), (4, .int v4)]) hx hb dL_act_97 hl (by decide) rfl (fun ls hl => ?_)
  refine lv_iload_n hx hb dL_act_99 rfl (lv_at hl 3 rfl) ?_
  refine lv_iconst (v := 4) hx hb dL_act_100 (by decide) ?_
  refine lv_ishr hx hb dL_act_101 ?_
  refine lv_iconst (v := 4) hx hb dL_act_102 (by decide) ?_
  obtain ⟨r6, e5, heq⟩ := bn_of heq
  refine mm_ki hS (mm_runS (rest := []) C hM hS (tL_up l G M (x3 >>> (4 &&& 31)) 4 r6 e5) (uL_23 _ (Nat.le_of_ble_eq_true rfl) (Nat.le_of_ble_eq_true rfl)) hl.1 rfl rfl (Nat.le_of_ble_eq_true rfl) ⟨Nat.zero_le _, Nat.zero_le _⟩ dL_act_103) (fun H locs hM hS => ?_)
  have hM : mm_P G kR 731 M H := hM
  refine lv_if_ne (tgt := 114) hx hb dL_act_106 (by decide) (fun c7 => ?_) (fun c7 => ?_)
  · have heq := if_f c7 heq
    refine lv_iload_n hx hb dL_act_114 rfl (lv_at hl 3 rfl) ?_
    refine lv_bipush (v := 7) hx hb dL_act_115 (by decide) ?_
    refine lv_ishr hx hb dL_act_117 ?_
    refine lv_iload hx hb dL_act_118 (lv_at hl 1 rfl) ?_
    obtain ⟨r9, e8, heq⟩ := bn_of heq
    refine mm_ki hS (mm_runS (rest := []) C hM hS (tL_up l G M (x3 >>> (7 &&& 31)) r2 r9 e8) (uL_23 _ (Nat.le_of_ble_eq_true rfl) (Nat.le_of_ble_eq_true rfl)) hl.1 rfl rfl (Nat.le_of_ble_eq_true rfl) ⟨Nat.zero_le _, Nat.zero_le _⟩ dL_act_120) (fun H locs hM hS => ?_)
    have hM : mm_P G kR 731 M H := hM
    exact tL_act_123 C x1 x2 x3 _ _ _ _ _ _ _ _ hM hS (lv_sub hl [2, 3, 4, 1, 0] rfl) heq
  · have heq := if_t c7 heq
    refine lv_bipush (v := (-6)) hx hb dL_act_109 (by decide) ?_
    refine lv_goto (tgt := 123) hx hb dL_act_111 (by decide) ?_
    exact tL_act_123 C x1 x2 x3 _ _ _ _ _ _ _ _ hM hS (lv_sub hl [2, 3, 4, 1, 0] rfl) heq

set_option maxRecDepth 100000 in
set_option maxHeartbeats 4000000 in
theorem tL_act_502 (C : mm_C G p s m args meth c RL cL_act 12 (some .boolean)) (x1 : Int32) (x2 : Int32) (x3 : Int32) {r : Bool} {M9 : mm_M} : ∀ (M : mm_M) (v4 : Int32) (H : Heap) (locs : List Loc) (ls : Array Slot), mm_P G kR 731 M H → va_S (mm_A G) s.heap H locs → lv_has ls 12 [(0, .ref (mm_lo G + 0)), (4, .int v4)] → fL_act_502 x1 x2 x3 M v4 = some (r, M9) → W p l e rmL_act s m args below meth c H locs 0 0 (MQ below (mm_Qi G (b2i r) (kR, 731, M9)) args s 1 40 (mm_A G)) (F0 m 502 ls []) := by
  obtain ⟨hx, hb, -, -, -, -, -, -, hZ, -⟩ := id C
  intro M v4 H locs ls hM hS hl heq
  rw [fL_act_502] at heq
  refine lv_aload_n hx hb dL_act_502 rfl (lv_at hl 0 rfl) ?_
  refine lv_iload hx hb dL_act_503 (lv_at hl 1 rfl) ?_
  refine lv_iconst (v := 0) hx hb dL_act_505 (by decide) ?_
  obtain ⟨r2, M3, e1, heq⟩ := bn2_of heq
  refine mm_ki hS (mm_runV (o := 0) (rest := []) C hM hS (tX6_fine l G M v4 0 r2 M3 e1) (uL_77 _ (Nat.le_of_ble_eq_true rfl) (Nat.le_of_ble_eq_true rfl)) (mm_recv C hM (kl (rfl : kT 0 = (5, 0))) (ci := 5) rfl (mm_e5 (rfl : kT 0 = (5, 0)))) hl.1 rfl rfl (Nat.le_of_ble_eq_true rfl) ⟨Nat.zero_le _, Nat.zero_le _⟩ dL_act_506) (fun H locs hM hS => ?_)
  have hM : mm_P G kR 731 M3 H := hM
  refine lv_bipush (v := (-2)) hx hb dL_act_509 (by decide) ?_
  refine lv_icmp_ne (tgt := 518) hx hb dL_act_511 (by decide) (fun c4 => ?_) (fun c4 => ?_)
  · have heq := if_f c4 heq
    refine lv_iconst (v := 0) hx hb dL_act_518 (by decide) ?_
    cases heq
    refine W.widen (k := 1) (n := 40) (Nat.zero_le _) (Nat.zero_le _) ?_
    exact mm_zret C hM hS dL_act_519
  · have heq := if_t c4 heq
    refine lv_iconst (v := 1) hx hb dL_act_514 (by decide) ?_
    refine lv_goto (tgt := 519) hx hb dL_act_515 (by decide) ?_
    cases heq
    refine W.widen (k := 1) (n := 40) (Nat.zero_le _) (Nat.zero_le _) ?_
    exact mm_zret C hM hS dL_act_519

set_option maxRecDepth 100000 in
set_option maxHeartbeats 4000000 in
theorem tL_act_422 (C : mm_C G p s m args meth c RL cL_act 12 (some .boolean)) (x1 : Int32) (x2 : Int32) (x3 : Int32) {r : Bool} {M9 : mm_M} : ∀ (M : mm_M) (v4 : Int32) (v5 : Int32) (v7 : Int64) (t0 : Int32) (H : Heap) (locs : List Loc) (ls : Array Slot), mm_P G kR 731 M H → va_S (mm_A G) s.heap H locs → lv_has ls 12 [(0, .ref (mm_lo G + 0)), (4, .int v4), (5, .int v5), (7, .long v7)] → fL_act_422 x1 x2 x3 M v4 v5 v7 t0 = some (r, M9) → W p l e rmL_act s m args below meth c H locs 0 0 (MQ below (mm_Qi G (b2i r) (kR, 731, M9)) args s 1 40 (mm_A G)) (F0 m 422 ls [.int t0]) := by
  obtain ⟨hx, hb, -, -, -, -, -, -, hZ, -⟩ := id C
  intro M v4 v5 v7 t0 H locs ls hM hS hl heq
  rw [fL_act_422] at heq
  refine lv_istore (lv' := [(9, .int t0), (0, .ref (mm_lo G + 0)), (4, .int v4), (5, .int v5), (7, .long v7)]) hx hb dL_act_422 hl (by decide) rfl (fun ls hl => ?_)
  refine lv_aload_n hx hb dL_act_424 rfl (lv_at hl 1 rfl) ?_
  refine lv_iload hx hb dL_act_425 (lv_at hl 2 rfl) ?_
  refine lv_iload hx hb dL_act_427 (lv_at hl 3 rfl) ?_
  obtain ⟨r2, M3, e1, heq⟩ := bn2_of heq
  refine mm_ki hS (mm_runV (o := 0) (rest := []) C hM hS (tX6_fine l G M v4 v5 r2 M3 e1) (uL_77 _ (Nat.le_of_ble_eq_true rfl) (Nat.le_of_ble_eq_true rfl)) (mm_recv C hM (kl (rfl : kT 0 = (5, 0))) (ci := 5) rfl (mm_e5 (rfl : kT 0 = (5, 0)))) hl.1 rfl rfl (Nat.le_of_ble_eq_true rfl) ⟨Nat.zero_le _, Nat.zero_le _⟩ dL_act_429) (fun H locs hM hS => ?_)
  have hM : mm_P G kR 731 M3 H := hM
  refine lv_iload hx hb dL_act_432 (lv_at hl 0 rfl) ?_
  refine lv_icmp_ne (tgt := 518) hx hb dL_act_434 (by decide) (fun c4 => ?_) (fun c4 => ?_)
  · have heq := if_f c4 heq
    refine lv_iconst (v := 0) hx hb dL_act_518 (by decide) ?_
    cases heq
    refine W.widen (k := 1) (n := 40) (Nat.zero_le _) (Nat.zero_le _) ?_
    exact mm_zret C hM hS dL_act_519
  · have heq := if_t c4 heq
    refine lv_aload_n hx hb dL_act_437 rfl (lv_at hl 1 rfl) ?_
    refine lv_iload hx hb dL_act_438 (lv_at hl 2 rfl) ?_
    refine lv_bipush (v := 9) hx hb dL_act_440 (by decide) ?_
    obtain ⟨r6, e5, heq⟩ := bn_of heq
    refine mm_ki hS (mm_runV (o := 0) (rest := []) C hM hS (tX6_ofCart l G M3 v4 9 r6 e5) (uL_66 _ (Nat.le_of_ble_eq_true rfl) (Nat.le_of_ble_eq_true rfl)) (mm_recv C hM (kl (rfl : kT 0 = (5, 0))) (ci := 5) rfl (mm_e5 (rfl : kT 0 = (5, 0)))) hl.1 rfl rfl (Nat.le_of_ble_eq_true rfl) ⟨Nat.zero_le _, Nat.zero_le _⟩ dL_act_442) (fun H locs hM hS => ?_)
    have hM : mm_P G kR 731 M3 H := hM
    refine lv_iload hx hb dL_act_445 (lv_at hl 0 rfl) ?_
    refine lv_icmp_ne (tgt := 518) hx hb dL_act_447 (by decide) (fun c7 => ?_) (fun c7 => ?_)
    · have heq := if_f c7 heq
      refine lv_iconst (v := 0) hx hb dL_act_518 (by decide) ?_
      cases heq
      refine W.widen (k := 1) (n := 40) (Nat.zero_le _) (Nat.zero_le _) ?_
      exact mm_zret C hM hS dL_act_519
    · have heq := if_t c7 heq
      refine lv_aload_n hx hb dL_act_450 rfl (lv_at hl 1 rfl) ?_
      refine lv_iload hx hb dL_act_451 (lv_at hl 2 rfl) ?_
      refine lv_iconst (v := 3) hx hb dL_act_453 (by decide) ?_
      obtain ⟨r9, e8, heq⟩ := bn_of heq
      refine mm_kl hS (mm_runV (o := 0) (rest := []) C hM hS (tX6_money l G M3 v4 3 r9 e8) (uL_73 _ (Nat.le_of_ble_eq_true rfl) (Nat.le_of_ble_eq_true rfl)) (mm_recv C hM (kl (rfl : kT 0 = (5, 0))) (ci := 5) rfl (mm_e5 (rfl : kT 0 = (5, 0)))) hl.1 rfl rfl (Nat.le_of_ble_eq_true rfl) ⟨Nat.zero_le _, Nat.zero_le _⟩ dL_act_454) (fun H locs hM hS => ?_)
      have hM : mm_P G kR 731 M3 H := hM
      refine lv_lload hx hb dL_act_457 (lv_at hl 4 rfl) ?_
      refine lv_iload hx hb dL_act_459 (lv_at hl 3 rfl) ?_
      refine lv_aload_n hx hb dL_act_461 rfl (lv_at hl 1 rfl) ?_
      refine lv_bipush (v := 14) hx hb dL_act_462 (by decide) ?_
      obtain ⟨r11, e10, heq⟩ := bn_of heq
      refine mm_ki hS (mm_runV (o := 0) (rest := [.int v5, .long v7, .long r9]) C hM hS (tX6_count l G M3 14 r11 e10) (uL_60 _ (Nat.le_of_ble_eq_true rfl) (Nat.le_of_ble_eq_true rfl)) (mm_recv C hM (kl (rfl : kT 0 = (5, 0))) (ci := 5) rfl (mm_e5 (rfl : kT 0 = (5, 0)))) hl.1 rfl rfl (Nat.le_of_ble_eq_true rfl) ⟨Nat.zero_le _, Nat.zero_le _⟩ dL_act_464) (fun H locs hM hS => ?_)
      have hM : mm_P G kR 731 M3 H := hM
      refine lv_imul hx hb dL_act_467 ?_
      refine lv_i2l hx hb dL_act_468 rfl ?_
      refine lv_ladd hx hb dL_act_469 ?_
      refine W.lcmp hx hb dL_act_470 ?_
      refine lv_if_ne (tgt := 518) hx hb dL_act_471 (by decide) (fun c12 => ?_) (fun c12 => ?_)
      · have heq := if_f c12 heq
        refine lv_iconst (v := 0) hx hb dL_act_518 (by decide) ?_
        cases heq
        refine W.widen (k := 1) (n := 40) (Nat.zero_le _) (Nat.zero_le _) ?_
        exact mm_zret C hM hS dL_act_519
      · have heq := if_t c12 heq
        refine lv_iload hx hb dL_act_474 (lv_at hl 0 rfl) ?_
        refine lv_if_gt (tgt := 502) hx hb dL_act_476 (by decide) (fun c13 => ?_) (fun c13 => ?_)
        · have heq := if_t c13 heq
          exact tL_act_502 C x1 x2 x3 _ _ _ _ _ hM hS (lv_sub hl [1, 2] rfl) heq
        · have heq := if_f c13 heq
          refine lv_aload_n hx hb dL_act_479 rfl (lv_at hl 1 rfl) ?_
          refine lv_iload hx hb dL_act_480 (lv_at hl 2 rfl) ?_
          refine lv_bipush (v := 10) hx hb dL_act_482 (by decide) ?_
          obtain ⟨r15, e14, heq⟩ := bn_of heq
          refine mm_ki hS (mm_runV (o := 0) (rest := []) C hM hS (tX6_ofCart l G M3 v4 10 r15 e14) (uL_66 _ (Nat.le_of_ble_eq_true rfl) (Nat.le_of_ble_eq_true rfl)) (mm_recv C hM (kl (rfl : kT 0 = (5, 0))) (ci := 5) rfl (mm_e5 (rfl : kT 0 = (5, 0)))) hl.1 rfl rfl (Nat.le_of_ble_eq_true rfl) ⟨Nat.zero_le _, Nat.zero_le _⟩ dL_act_484) (fun H locs hM hS => ?_)
          have hM : mm_P G kR 731 M3 H := hM
          refine lv_aload_n hx hb dL_act_487 rfl (lv_at hl 1 rfl) ?_
          refine lv_iconst (v := 0) hx hb dL_act_488 (by decide) ?_
          obtain ⟨r17, e16, heq⟩ := bn_of heq
          refine mm_ki hS (mm_runV (o := 0) (rest := [.int r15]) C hM hS (tX6_count l G M3 0 r17 e16) (uL_60 _ (Nat.le_of_ble_eq_true rfl) (Nat.le_of_ble_eq_true rfl)) (mm_recv C hM (kl (rfl : kT 0 = (5, 0))) (ci := 5) rfl (mm_e5 (rfl : kT 0 = (5, 0)))) hl.1 rfl rfl (Nat.le_of_ble_eq_true rfl) ⟨Nat.zero_le _, Nat.zero_le _⟩ dL_act_489) (fun H locs hM hS => ?_)
          have hM : mm_P G kR 731 M3 H := hM
          refine lv_aload_n hx hb dL_act_492 rfl (lv_at hl 1 rfl) ?_
          refine lv_bipush (v := 12) hx hb dL_act_493 (by decide) ?_
          obtain ⟨r19, e18, heq⟩ := bn_of heq
          refine mm_ki hS (mm_runV (o := 0) (rest := [.int r17, .int r15]) C hM hS (tX6_count l G M3 12 r19 e18) (uL_60 _ (Nat.le_of_ble_eq_true rfl) (Nat.le_of_ble_eq_true rfl)) (mm_recv C hM (kl (rfl : kT 0 = (5, 0))) (ci := 5) rfl (mm_e5 (rfl : kT 0 = (5, 0)))) hl.1 rfl rfl (Nat.le_of_ble_eq_true rfl) ⟨Nat.zero_le _, Nat.zero_le _⟩ dL_act_495) (fun H locs hM hS => ?_)
          have hM : mm_P G kR 731 M3 H := hM
          refine lv_iadd hx hb dL_act_498 ?_
          refine lv_icmp_ne (tgt := 518) hx hb dL_act_499 (by decide) (fun c20 => ?_) (fun c20 => ?_)
          · have heq := if_f c20 heq
            refine lv_iconst (v := 0) hx hb dL_act_518 (by decide) ?_
            cases heq
            refine W.widen (k := 1) (n := 40) (Nat.zero_le _) (Nat.zero_le _) ?_
            exact mm_zret C hM hS dL_act_519
          · have heq := if_t c20 heq
            exact tL_act_502 C x1 x2 x3 _ _ _ _ _ hM hS (lv_sub hl [1, 2] rfl) heq

set_option maxRecDepth 100000 in
set_option maxHeartbeats 4000000 in
theorem tL_act_598 (C : mm_C G p s m args meth c RL cL_act 12 (some .boolean)) (x1 : Int32) (x2 : Int32) (x3 : Int32) {r : Bool} {M9 : mm_M} : ∀ (M : mm_M) (v4 : Int32) (H : Heap) (locs : List Loc) (ls : Array Slot), mm_P G kR 731 M H → va_S (mm_A G) s.heap H locs → lv_has ls 12 [(0, .ref (mm_lo G + 0)), (3, .int x3), (4, .int v4)] → fL_act_598 x1 x2 x3 M v4 = some (r, M9) → W p l e rmL_act s m args below meth c H locs 0 0 (MQ below (mm_Qi G (b2i r) (kR, 731, M9)) args s 1 40 (mm_A G)) (F0 m 598 ls []) := by
  obtain ⟨hx, hb, -, -, -, -, -, -, hZ, -⟩ := id C
  intro M v4 H locs ls hM hS hl heq
  rw [fL_act_598] at heq
  refine lv_iload_n hx hb dL_act_598 rfl (lv_at hl 1 rfl) ?_
  refine lv_aload_n hx hb dL_act_599 rfl (lv_at hl 0 rfl) ?_
  refine lv_iconst (v := 1) hx hb dL_act_600 (by decide) ?_
  obtain ⟨r2, e1, heq⟩ := bn_of heq
  refine mm_ki hS (mm_runV (o := 0) (rest := [.int x3]) C hM hS (tX6_count l G M 1 r2 e1) (uL_60 _ (Nat.le_of_ble_eq_true rfl) (Nat.le_of_ble_eq_true rfl)) (mm_recv C hM (kl (rfl : kT 0 = (5, 0))) (ci := 5) rfl (mm_e5 (rfl : kT 0 = (5, 0)))) hl.1 rfl rfl (Nat.le_of_ble_eq_true rfl) ⟨Nat.zero_le _, Nat.zero_le _⟩ dL_act_601) (fun H locs hM hS => ?_)
  have hM : mm_P G kR 731 M H := hM
  obtain ⟨r4, e3, heq⟩ := bn_of heq
  refine mm_ki hS (mm_runS (rest := []) C hM hS (tL_up l G M x3 r2 r4 e3) (uL_23 _ (Nat.le_of_ble_eq_true rfl) (Nat.le_of_ble_eq_true rfl)) hl.1 rfl rfl (Nat.le_of_ble_eq_true rfl) ⟨Nat.zero_le _, Nat.zero_le _⟩ dL_act_604) (fun H locs hM hS => ?_)
  have hM : mm_P G kR 731 M H := hM
  refine lv_istore (lv' := [(5, .int r4), (0, .ref (mm_lo G + 0)), (3, .int x3), (4, .int v4)]) hx hb dL_act_607 hl (by decide) rfl (fun ls hl => ?_)
  refine lv_aload_n hx hb dL_act_609 rfl (lv_at hl 1 rfl) ?_
  refine lv_iconst (v := 5) hx hb dL_act_610 (by decide) ?_
  obtain ⟨r6, e5, heq⟩ := bn_of heq
  refine mm_ki hS (mm_runV (o := 0) (rest := []) C hM hS (tX6_count l G M 5 r6 e5) (uL_60 _ (Nat.le_of_ble_eq_true rfl) (Nat.le_of_ble_eq_true rfl)) (mm_recv C hM (kl (rfl : kT 0 = (5, 0))) (ci := 5) rfl (mm_e5 (rfl : kT 0 = (5, 0)))) hl.1 rfl rfl (Nat.le_of_ble_eq_true rfl) ⟨Nat.zero_le _, Nat.zero_le _⟩ dL_act_611) (fun H locs hM hS => ?_)
  have hM : mm_P G kR 731 M H := hM
  refine lv_istore (lv' := [(6, .int r6), (5, .int r4), (0, .ref (mm_lo G + 0)), (3, .int x3), (4, .int v4)]) hx hb dL_act_614 hl (by decide) rfl (fun ls hl => ?_)
  refine lv_iload hx hb dL_act_616 (lv_at hl 4 rfl) ?_
  refine lv_iload hx hb dL_act_618 (lv_at hl 1 rfl) ?_
  refine lv_icmp_ne (tgt := 643) hx hb dL_act_620 (by decide) (fun c7 => ?_) (fun c7 => ?_)
  · have heq := if_f c7 heq
    refine lv_iload hx hb dL_act_643 (lv_at hl 0 rfl) ?_
    refine lv_bipush (v := 8) hx hb dL_act_645 (by decide) ?_
    refine lv_icmp_ne (tgt := 671) hx hb dL_act_647 (by decide) (fun c8 => ?_) (fun c8 => ?_)
    · have heq := if_f c8 heq
      refine lv_aload_n hx hb dL_act_671 rfl (lv_at hl 2 rfl) ?_
      refine lv_iload hx hb dL_act_672 (lv_at hl 4 rfl) ?_
      refine lv_iload hx hb dL_act_674 (lv_at hl 1 rfl) ?_
      obtain ⟨r10, M11, e9, heq⟩ := bn2_of heq
      refine mm_ki hS (mm_runV (o := 0) (rest := []) C hM hS (tX6_swap l G M v4 r4 r10 M11 e9) (uL_83 _ (Nat.le_of_ble_eq_true rfl) (Nat.le_of_ble_eq_true rfl)) (mm_recv C hM (kl (rfl : kT 0 = (5, 0))) (ci := 5) rfl (mm_e5 (rfl : kT 0 = (5, 0)))) hl.1 rfl rfl (Nat.le_of_ble_eq_true rfl) ⟨Nat.zero_le _, Nat.zero_le _⟩ dL_act_676) (fun H locs hM hS => ?_)
      have hM : mm_P G kR 731 M11 H := hM
      refine lv_iload hx hb dL_act_679 (lv_at hl 0 rfl) ?_
      refine lv_iconst (v := 1) hx hb dL_act_681 (by decide) ?_
      refine lv_iadd hx hb dL_act_682 ?_
      refine lv_icmp_ne (tgt := 702) hx hb dL_act_683 (by decide) (fun c12 => ?_) (fun c12 => ?_)
      · have heq := if_f c12 heq
        refine lv_iconst (v := 0) hx hb dL_act_702 (by decide) ?_
        cases heq
        refine W.widen (k := 1) (n := 40) (Nat.zero_le _) (Nat.zero_le _) ?_
        exact mm_zret C hM hS dL_act_703
      · have heq := if_t c12 heq
        refine lv_aload_n hx hb dL_act_686 rfl (lv_at hl 2 rfl) ?_
        refine lv_iconst (v := 5) hx hb dL_act_687 (by decide) ?_
        obtain ⟨r14, e13, heq⟩ := bn_of heq
        refine mm_ki hS (mm_runV (o := 0) (rest := []) C hM hS (tX6_count l G M11 5 r14 e13) (uL_60 _ (Nat.le_of_ble_eq_true rfl) (Nat.le_of_ble_eq_true rfl)) (mm_recv C hM (kl (rfl : kT 0 = (5, 0))) (ci := 5) rfl (mm_e5 (rfl : kT 0 = (5, 0)))) hl.1 rfl rfl (Nat.le_of_ble_eq_true rfl) ⟨Nat.zero_le _, Nat.zero_le _⟩ dL_act_688) (fun H locs hM hS => ?_)
        have hM : mm_P G kR 731 M11 H := hM
        refine lv_iload hx hb dL_act_691 (lv_at hl 0 rfl) ?_
        refine lv_iconst (v := 1) hx hb dL_act_693 (by decide) ?_
        refine lv_iadd hx hb dL_act_694 ?_
        refine lv_icmp_ne (tgt := 702) hx hb dL_act_695 (by decide) (fun c15 => ?_) (fun c15 => ?_)
        · have heq := if_f c15 heq
          refine lv_iconst (v := 0) hx hb dL_act_702 (by decide) ?_
          cases heq
          refine W.widen (k := 1) (n := 40) (Nat.zero_le _) (Nat.zero_le _) ?_
          exact mm_zret C hM hS dL_act_703
        · have heq := if_t c15 heq
          refine lv_iconst (v := 1) hx hb dL_act_698 (by decide) ?_
          refine lv_goto (tgt := 703) hx hb dL_act_699 (by decide) ?_
          cases heq
          refine W.widen (k := 1) (n := 40) (Nat.zero_le _) (Nat.zero_le _) ?_
          exact mm_zret C hM hS dL_act_703
    · have heq := if_t c8 heq
      refine lv_aload_n hx hb dL_act_650 rfl (lv_at hl 2 rfl) ?_
      refine lv_iload hx hb dL_act_651 (lv_at hl 4 rfl) ?_
      refine lv_iload hx hb dL_act_653 (lv_at hl 1 rfl) ?_
      obtain ⟨r17, M18, e16, heq⟩ := bn2_of heq
      refine mm_ki hS (mm_runV (o := 0) (rest := []) C hM hS (tX6_swap l G M v4 r4 r17 M18 e16) (uL_83 _ (Nat.le_of_ble_eq_true rfl) (Nat.le_of_ble_eq_true rfl)) (mm_recv C hM (kl (rfl : kT 0 = (5, 0))) (ci := 5) rfl (mm_e5 (rfl : kT 0 = (5, 0)))) hl.1 rfl rfl (Nat.le_of_ble_eq_true rfl) ⟨Nat.zero_le _, Nat.zero_le _⟩ dL_act_655) (fun H locs hM hS => ?_)
      have hM : mm_P G kR 731 M18 H := hM
      refine lv_bipush (v := (-4)) hx hb dL_act_658 (by decide) ?_
      refine lv_icmp_ne (tgt := 667) hx hb dL_act_660 (by decide) (fun c19 => ?_) (fun c19 => ?_)
      · have heq := if_f c19 heq
        refine lv_iconst (v := 0) hx hb dL_act_667 (by decide) ?_
        refine lv_goto (tgt := 703) hx hb dL_act_668 (by decide) ?_
        cases heq
        refine W.widen (k := 1) (n := 40) (Nat.zero_le _) (Nat.zero_le _) ?_
        exact mm_zret C hM hS dL_act_703
      · have heq := if_t c19 heq
        refine lv_iconst (v := 1) hx hb dL_act_663 (by decide) ?_
        refine lv_goto (tgt := 703) hx hb dL_act_664 (by decide) ?_
        cases heq
        refine W.widen (k := 1) (n := 40) (Nat.zero_le _) (Nat.zero_le _) ?_
        exact mm_zret C hM hS dL_act_703
  · have heq := if_t c7 heq
    refine lv_aload_n hx hb dL_act_623 rfl (lv_at hl 2 rfl) ?_
    refine lv_iload hx hb dL_act_624 (lv_at hl 4 rfl) ?_
    refine lv_iload hx hb dL_act_626 (lv_at hl 1 rfl) ?_
    obtain ⟨r21, M22, e20, heq⟩ := bn2_of heq
    refine mm_ki hS (mm_runV (o := 0) (rest := []) C hM hS (tX6_swap l G M v4 r4 r21 M22 e20) (uL_83 _ (Nat.le_of_ble_eq_true rfl) (Nat.le_of_ble_eq_true rfl)) (mm_recv C hM (kl (rfl : kT 0 = (5, 0))) (ci := 5) rfl (mm_e5 (rfl : kT 0 = (5, 0)))) hl.1 rfl rfl (Nat.le_of_ble_eq_true rfl) ⟨Nat.zero_le _, Nat.zero_le _⟩ dL_act_628) (fun H locs hM hS => ?_)
    have hM : mm_P G kR 731 M22 H := hM
    refine lv_iconst (v := (-1)) hx hb dL_act_631 (by decide) ?_
    refine lv_icmp_ne (tgt := 639) hx hb dL_act_632 (by decide) (fun c23 => ?_) (fun c23 => ?_)
    · have heq := if_f c23 heq
      refine lv_iconst (v := 0) hx hb dL_act_639 (by decide) ?_
      refine lv_goto (tgt := 703) hx hb dL_act_640 (by decide) ?_
      cases heq
      refine W.widen (k := 1) (n := 40) (Nat.zero_le _) (Nat.zero_le _) ?_
      exact mm_zret C hM hS dL_act_703
    · have heq := if_t c23 heq
      refine lv_iconst (v := 1) hx hb dL_act_635 (by decide) ?_
      refine lv_goto (tgt := 703) hx hb dL_act_636 (by decide) ?_
      cases heq
      refine W.widen (k := 1) (n := 40) (Nat.zero_le _) (Nat.zero_le _) ?_
      exact mm_zret C hM hS dL_act_703

set_option maxRecDepth 100000 in
set_option maxHeartbeats 4000000 in
theorem tL_act_747 (C : mm_C G p s m args meth c RL cL_act 12 (some .boolean)) (x1 : Int32) (x2 : Int32) (x3 : Int32) {r : Bool} {M9 : mm_M} : ∀ (M : mm_M) (v4 : Int32) (v5 : Int32) (v6 : Int64) (t0 : Int32) (t1 : Bool) (H : Heap) (locs : List Loc) (ls : Array Slot), mm_P G kR 731 M H → va_S (mm_A G) s.heap H locs → lv_has ls 12 [(0, .ref (mm_lo G + 0)), (4, .int v4), (5, .int v5), (6, .long v6)] → fL_act_747 x1 x2 x3 M v4 v5 v6 t0 t1 = some (r, M9) → W p l e rmL_act s m args below meth c H locs 0 0 (MQ below (mm_Qi G (b2i r) (kR, 731, M9)) args s 1 40 (mm_A G)) (F0 m 747 ls [.int (b2i t1), .int t0]) := by
  obtain ⟨hx, hb, -, -, -, -, -, -, hZ, -⟩ := id C
  intro M v4 v5 v6 t0 t1 H locs ls hM hS hl heq
  rw [fL_act_747] at heq
  refine lv_icmp_ne (tgt := 783) hx hb dL_act_747 (by decide) (fun c1 => ?_) (fun c1 => ?_)
  · have heq := if_f c1 heq
    refine lv_iconst (v := 0) hx hb dL_act_783 (by decide) ?_
    cases heq
    refine W.widen (k := 1) (n := 40) (Nat.zero_le _) (Nat.zero_le _) ?_
    exact mm_zret C hM hS dL_act_784
  · have heq := if_t c1 heq
    refine lv_aload_n hx hb dL_act_750 rfl (lv_at hl 0 rfl) ?_
    refine lv_iload hx hb dL_act_751 (lv_at hl 1 rfl) ?_
    refine lv_iconst (v := 0) hx hb dL_act_753 (by decide) ?_
    obtain ⟨r3, e2, heq⟩ := bn_of heq
    refine mm_kl hS (mm_runV (o := 0) (rest := []) C hM hS (tX6_money l G M v4 0 r3 e2) (uL_73 _ (Nat.le_of_ble_eq_true rfl) (Nat.le_of_ble_eq_true rfl)) (mm_recv C hM (kl (rfl : kT 0 = (5, 0))) (ci := 5) rfl (mm_e5 (rfl : kT 0 = (5, 0)))) hl.1 rfl rfl (Nat.le_of_ble_eq_true rfl) ⟨Nat.zero_le _, Nat.zero_le _⟩ dL_act_754) (fun H locs hM hS => ?_)
    have hM : mm_P G kR 731 M H := hM
    refine lv_lload hx hb dL_act_757 (lv_at hl 3 rfl) ?_
    refine lv_iload hx hb dL_act_759 (lv_at hl 2 rfl) ?_
    refine lv_i2l hx hb dL_act_761 rfl ?_
    refine lv_ladd hx hb dL_act_762 ?_
    refine W.lcmp hx hb dL_act_763 ?_
    refine lv_if_ne (tgt := 783) hx hb dL_act_764 (by decide) (fun c4 => ?_) (fun c4 => ?_)
    · have heq := if_f c4 heq
      refine lv_iconst (v := 0) hx hb dL_act_783 (by decide) ?_
      cases heq
      refine W.widen (k := 1) (n := 40) (Nat.zero_le _) (Nat.zero_le _) ?_
      exact mm_zret C hM hS dL_act_784
    · have heq := if_t c4 heq
      refine lv_aload_n hx hb dL_act_767 rfl (lv_at hl 0 rfl) ?_
      refine lv_iload hx hb dL_act_768 (lv_at hl 1 rfl) ?_
      refine lv_iconst (v := 0) hx hb dL_act_770 (by decide) ?_
      obtain ⟨r6, M7, e5, heq⟩ := bn2_of heq
      refine mm_ki hS (mm_runV (o := 0) (rest := []) C hM hS (tX6_pay l G M v4 0 r6 M7 e5) (uL_87 _ (Nat.le_of_ble_eq_true rfl) (Nat.le_of_ble_eq_true rfl)) (mm_recv C hM (kl (rfl : kT 0 = (5, 0))) (ci := 5) rfl (mm_e5 (rfl : kT 0 = (5, 0)))) hl.1 rfl rfl (Nat.le_of_ble_eq_true rfl) ⟨Nat.zero_le _, Nat.zero_le _⟩ dL_act_771) (fun H locs hM hS => ?_)
      have hM : mm_P G kR 731 M7 H := hM
      refine lv_bipush (v := (-2)) hx hb dL_act_774 (by decide) ?_
      refine lv_icmp_ne (tgt := 783) hx hb dL_act_776 (by decide) (fun c8 => ?_) (fun c8 => ?_)
      · have heq := if_f c8 heq
        refine lv_iconst (v := 0) hx hb dL_act_783 (by decide) ?_
        cases heq
        refine W.widen (k := 1) (n := 40) (Nat.zero_le _) (Nat.zero_le _) ?_
        exact mm_zret C hM hS dL_act_784
      · have heq := if_t c8 heq
        refine lv_iconst (v := 1) hx hb dL_act_779 (by decide) ?_
        refine lv_goto (tgt := 784) hx hb dL_act_780 (by decide) ?_
        cases heq
        refine W.widen (k := 1) (n := 40) (Nat.zero_le _) (Nat.zero_le _) ?_
        exact mm_zret C hM hS dL_act_784

set_option maxRecDepth 100000 in
set_option maxHeartbeats 4000000 in
theorem tL_act_948 (C : mm_C G p s m args meth c RL cL_act 12 (some .boolean)) (x1 : Int32) (x2 : Int32) (x3 : Int32) {r : Bool} {M9 : mm_M} : ∀ (M : mm_M) (t1 : Int32) (t2 : Int32) (H : Heap) (locs : List Loc) (ls : Array Slot), mm_P G kR 731 M H → va_S (mm_A G) s.heap H locs → lv_has ls 12 [(0, .ref (mm_lo G + 0))] → fL_act_948 x1 x2 x3 M t1 t2 = some (r, M9) → W p l e rmL_act s m args below meth c H locs 0 0 (MQ below (mm_Qi G (b2i r) (kR, 731, M9)) args s 1 40 (mm_A G)) (F0 m 948 ls [.int t2, .int t1, .int 1]) := by
  obtain ⟨hx, hb, -, -, -, -, -, -, hZ, -⟩ := id C
  intro M t1 t2 H locs ls hM hS hl heq
  rw [fL_act_948] at heq
  obtain ⟨r2, e1, heq⟩ := bn_of heq
  refine mm_ki hS (mm_runS (rest := [.int 1]) C hM hS (tL_up l G M t1 t2 r2 e1) (uL_23 _ (Nat.le_of_ble_eq_true rfl) (Nat.le_of_ble_eq_true rfl)) hl.1 rfl rfl (Nat.le_of_ble_eq_true rfl) ⟨Nat.zero_le _, Nat.zero_le _⟩ dL_act_948) (fun H locs hM hS => ?_)
  have hM : mm_P G kR 731 M H := hM
  refine lv_iadd hx hb dL_act_951 ?_
  refine lv_topi (fun y3 ey3 => ?_)
  have heq := lt_to ey3 heq
  refine lv_istore (lv' := [(5, .int y3), (0, .ref (mm_lo G + 0))]) hx hb dL_act_952 hl (by decide) rfl (fun ls hl => ?_)
  refine lv_aload_n hx hb dL_act_954 rfl (lv_at hl 1 rfl) ?_
  refine lv_iconst (v := 0) hx hb dL_act_955 (by decide) ?_
  obtain ⟨r5, e4, heq⟩ := bn_of heq
  refine mm_ki hS (mm_runV (o := 0) (rest := []) C hM hS (tX6_count l G M 0 r5 e4) (uL_60 _ (Nat.le_of_ble_eq_true rfl) (Nat.le_of_ble_eq_true rfl)) (mm_recv C hM (kl (rfl : kT 0 = (5, 0))) (ci := 5) rfl (mm_e5 (rfl : kT 0 = (5, 0)))) hl.1 rfl rfl (Nat.le_of_ble_eq_true rfl) ⟨Nat.zero_le _, Nat.zero_le _⟩ dL_act_956) (fun H locs hM hS => ?_)
  have hM : mm_P G kR 731 M H := hM
  refine lv_istore (lv' := [(6, .int r5), (5, .int y3), (0, .ref (mm_lo G + 0))]) hx hb dL_act_959 hl (by decide) rfl (fun ls hl => ?_)
  refine lv_aload_n hx hb dL_act_961 rfl (lv_at hl 2 rfl) ?_
  refine lv_iload hx hb dL_act_962 (lv_at hl 1 rfl) ?_
  obtain ⟨r7, M8, e6, heq⟩ := bn2_of heq
  refine mm_ki hS (mm_runV (o := 0) (rest := []) C hM hS (tX6_days l G M y3 r7 M8 e6) (uL_96 _ (Nat.le_of_ble_eq_true rfl) (Nat.le_of_ble_eq_true rfl)) (mm_recv C hM (kl (rfl : kT 0 = (5, 0))) (ci := 5) rfl (mm_e5 (rfl : kT 0 = (5, 0)))) hl.1 rfl rfl (Nat.le_of_ble_eq_true rfl) ⟨Nat.zero_le _, Nat.zero_le _⟩ dL_act_964) (fun H locs hM hS => ?_)
  have hM : mm_P G kR 731 M8 H := hM
  refine lv_iload hx hb dL_act_967 (lv_at hl 0 rfl) ?_
  refine lv_iload hx hb dL_act_969 (lv_at hl 1 rfl) ?_
  refine lv_iadd hx hb dL_act_971 ?_
  refine lv_icmp_ne (tgt := 1000) hx hb dL_act_972 (by decide) (fun c9 => ?_) (fun c9 => ?_)
  · have heq := if_f c9 heq
    refine lv_iconst (v := 0) hx hb dL_act_1000 (by decide) ?_
    cases heq
    refine W.widen (k := 1) (n := 40) (Nat.zero_le _) (Nat.zero_le _) ?_
    exact mm_zret C hM hS dL_act_1001
  · have heq := if_t c9 heq
    refine lv_aload_n hx hb dL_act_975 rfl (lv_at hl 2 rfl) ?_
    refine lv_iconst (v := 0) hx hb dL_act_976 (by decide) ?_
    obtain ⟨r11, e10, heq⟩ := bn_of heq
    refine mm_ki hS (mm_runV (o := 0) (rest := []) C hM hS (tX6_count l G M8 0 r11 e10) (uL_60 _ (Nat.le_of_ble_eq_true rfl) (Nat.le_of_ble_eq_true rfl)) (mm_recv C hM (kl (rfl : kT 0 = (5, 0))) (ci := 5) rfl (mm_e5 (rfl : kT 0 = (5, 0)))) hl.1 rfl rfl (Nat.le_of_ble_eq_true rfl) ⟨Nat.zero_le _, Nat.zero_le _⟩ dL_act_977) (fun H locs hM hS => ?_)
    have hM : mm_P G kR 731 M8 H := hM
    refine lv_iload hx hb dL_act_980 (lv_at hl 0 rfl) ?_
    refine lv_iload hx hb dL_act_982 (lv_at hl 1 rfl) ?_
    refine lv_iadd hx hb dL_act_984 ?_
    refine lv_icmp_ne (tgt := 1000) hx hb dL_act_985 (by decide) (fun c12 => ?_) (fun c12 => ?_)
    · have heq := if_f c12 heq
      refine lv_iconst (v := 0) hx hb dL_act_1000 (by decide) ?_
      cases heq
      refine W.widen (k := 1) (n := 40) (Nat.zero_le _) (Nat.zero_le _) ?_
      exact mm_zret C hM hS dL_act_1001
    · have heq := if_t c12 heq
      refine lv_aload_n hx hb dL_act_988 rfl (lv_at hl 2 rfl) ?_
      refine lv_iconst (v := 5) hx hb dL_act_989 (by decide) ?_
      obtain ⟨r14, e13, heq⟩ := bn_of heq
      refine mm_ki hS (mm_runV (o := 0) (rest := []) C hM hS (tX6_count l G M8 5 r14 e13) (uL_60 _ (Nat.le_of_ble_eq_true rfl) (Nat.le_of_ble_eq_true rfl)) (mm_recv C hM (kl (rfl : kT 0 = (5, 0))) (ci := 5) rfl (mm_e5 (rfl : kT 0 = (5, 0)))) hl.1 rfl rfl (Nat.le_of_ble_eq_true rfl) ⟨Nat.zero_le _, Nat.zero_le _⟩ dL_act_990) (fun H locs hM hS => ?_)
      have hM : mm_P G kR 731 M8 H := hM
      refine lv_if_ne (tgt := 1000) hx hb dL_act_993 (by decide) (fun c15 => ?_) (fun c15 => ?_)
      · have heq := if_f c15 heq
        refine lv_iconst (v := 0) hx hb dL_act_1000 (by decide) ?_
        cases heq
        refine W.widen (k := 1) (n := 40) (Nat.zero_le _) (Nat.zero_le _) ?_
        exact mm_zret C hM hS dL_act_1001
      · have heq := if_t c15 heq
        refine lv_iconst (v := 1) hx hb dL_act_996 (by decide) ?_
        refine lv_goto (tgt := 1001) hx hb dL_act_997 (by decide) ?_
        cases heq
        refine W.widen (k := 1) (n := 40) (Nat.zero_le _) (Nat.zero_le _) ?_
        exact mm_zret C hM hS dL_act_1001

set_option maxRecDepth 100000 in
set_option maxHeartbeats 4000000 in
theorem tL_act_931 (C : mm_C G p s m args meth c RL cL_act 12 (some .boolean)) (x1 : Int32) (x2 : Int32) (x3 : Int32) {r : Bool} {M9 : mm_M} : ∀ (M : mm_M) (H : Heap) (locs : List Loc) (ls : Array Slot), mm_P G kR 731 M H → va_S (mm_A G) s.heap H locs → lv_has ls 12 [(0, .ref (mm_lo G + 0)), (2, .int x2), (3, .int x3)] → fL_act_931 x1 x2 x3 M = some (r, M9) → W p l e rmL_act s m args below meth c H locs 0 0 (MQ below (mm_Qi G (b2i r) (kR, 731, M9)) args s 1 40 (mm_A G)) (F0 m 931 ls []) := by
  obtain ⟨hx, hb, -, -, -, -, -, -, hZ, -⟩ := id C
  intro M H locs ls hM hS hl heq
  rw [fL_act_931] at heq
  refine lv_iconst (v := 1) hx hb dL_act_931 (by decide) ?_
  refine lv_iload_n hx hb dL_act_932 rfl (lv_at hl 1 rfl) ?_
  refine lv_iload_n hx hb dL_act_933 rfl (lv_at hl 2 rfl) ?_
  refine lv_bipush (v := 6) hx hb dL_act_934 (by decide) ?_
  obtain ⟨r2, e1, heq⟩ := bn_of heq
  refine mm_ki hS (mm_runS (rest := [.int x2, .int 1]) C hM hS (tL_up l G M x3 6 r2 e1) (uL_23 _ (Nat.le_of_ble_eq_true rfl) (Nat.le_of_ble_eq_true rfl)) hl.1 rfl rfl (Nat.le_of_ble_eq_true rfl) ⟨Nat.zero_le _, Nat.zero_le _⟩ dL_act_936) (fun H locs hM hS => ?_)
  have hM : mm_P G kR 731 M H := hM
  refine lv_if_ne (tgt := 947) hx hb dL_act_939 (by decide) (fun c3 => ?_) (fun c3 => ?_)
  · have heq := if_f c3 heq
    refine lv_iconst (v := 4) hx hb dL_act_947 (by decide) ?_
    exact tL_act_948 C x1 x2 x3 _ _ _ _ _ _ hM hS (lv_sub hl [0] rfl) heq
  · have heq := if_t c3 heq
    refine lv_bipush (v := 30) hx hb dL_act_942 (by decide) ?_
    refine lv_goto (tgt := 948) hx hb dL_act_944 (by decide) ?_
    exact tL_act_948 C x1 x2 x3 _ _ _ _ _ _ hM hS (lv_sub hl [0] rfl) heq

set_option maxRecDepth 100000 in
set_option maxHeartbeats 4000000 in
theorem tL_act (l : Launch) (G : mm_G) (M : mm_M) (hhi : G.2.2 4 ≤ mm_lo G + 731) (x1 : Int32) (x2 : Int32) (x3 : Int32) (r : Bool) (M9 : mm_M) (heq : fL_act M x1 x2 x3 = some (r, M9)) : Met l yL_act (mm_ws yL_act cL_act 12 (some .boolean)) rmL_act (va_Pc [.ref (mm_lo G + 0), .int x1, .int x2, .int x3] (mm_B G (kR, 731, M))) (mm_Qi G (b2i r) (kR, 731, M9)) 1 40 (mm_A G) := by
  refine mm_met (cc := cL_act) (nL := 12) (ret := (some .boolean)) plRL (Nat.le_of_ble_eq_true rfl) ?_
  intro p e s m below meth c ls hin C hM hS hl
  have C : mm_C G p s m _ meth c RL cL_act 12 (some .boolean) := C
  have hM : mm_P G kR 731 M s.heap := hM
  have hl : lv_has ls 12 [(0, .ref (mm_lo G + 0)), (1, .int x1), (2, .int x2), (3, .int x3)] := hl
  obtain ⟨hx, hb, -, -, -, -, -, -, hZ, -⟩ := id C
  rw [fL_act] at heq
  refine lv_iload_n hx hb dL_act_0 rfl (lv_at hl 2 rfl) ?_
  refine lv_aload_n hx hb dL_act_1 rfl (lv_at hl 0 rfl) ?_
  refine lv_iconst (v := 1) hx hb dL_act_2 (by decide) ?_
  obtain ⟨r2, e1, heq⟩ := bn_of heq
  refine mm_ki hS (mm_runV (o := 0) (rest := [.int x2]) C hM hS (tX6_count l G M 1 r2 e1) (uL_60 _ (Nat.le_of_ble_eq_true rfl) (Nat.le_of_ble_eq_true rfl)) (mm_recv C hM (kl (rfl : kT 0 = (5, 0))) (ci := 5) rfl (mm_e5 (rfl : kT 0 = (5, 0)))) hl.1 rfl rfl (Nat.le_of_ble_eq_true rfl) ⟨Nat.zero_le _, Nat.zero_le _⟩ dL_act_3) (fun H locs hM hS => ?_)
  have hM : mm_P G kR 731 M H := hM
  obtain ⟨r4, e3, heq⟩ := bn_of heq
  refine mm_ki hS (mm_runS (rest := []) C hM hS (tL_up l G M x2 r2 r4 e3) (uL_23 _ (Nat.le_of_ble_eq_true rfl) (Nat.le_of_ble_eq_true rfl)) hl.1 rfl rfl (Nat.le_of_ble_eq_true rfl) ⟨Nat.zero_le _, Nat.zero_le _⟩ dL_act_6) (fun H locs hM hS => ?_)
  have hM : mm_P G kR 731 M H := hM
  refine lv_istore (lv' := [(4, .int r4), (0, .ref (mm_lo G + 0)), (1, .int x1), (2, .int x2), (3, .int x3)]) hx hb dL_act_9 hl (by decide) rfl (fun ls hl => ?_)
  refine lv_iload_n hx hb dL_act_11 rfl (lv_at hl 2 rfl) ?_
  refine lv_bipush (v := 14) hx hb dL_act_12 (by decide) ?_
  obtain ⟨r6, e5, heq⟩ := bn_of heq
  refine mm_ki hS (mm_runS (rest := []) C hM hS (tL_up l G M x1 14 r6 e5) (uL_23 _ (Nat.le_of_ble_eq_true rfl) (Nat.le_of_ble_eq_true rfl)) hl.1 rfl rfl (Nat.le_of_ble_eq_true rfl) ⟨Nat.zero_le _, Nat.zero_le _⟩ dL_act_14) (fun H locs hM hS => ?_)
  have hM : mm_P G kR 731 M H := hM
  by_cases c7 : r6 = 0
  · have heq := if_t c7 heq
    refine lv_tableIn (tgt := 84) hx hb dL_act_17 (by rw [c7]; decide) (by rw [c7]; decide) (by rw [c7]; rfl) (by decide) ?_
    exact tL_act_84 C x1 x2 x3 _ _ _ _ _ hM hS (lv_sub hl [1, 4, 0] rfl) heq
  · have heq := if_f c7 heq
    by_cases c8 : r6 = 1
    · have heq := if_t c8 heq
      refine lv_tableIn (tgt := 84) hx hb dL_act_17 (by rw [c8]; decide) (by rw [c8]; decide) (by rw [c8]; rfl) (by decide) ?_
      exact tL_act_84 C x1 x2 x3 _ _ _ _ _ hM hS (lv_sub hl [1, 4, 0] rfl) heq
    · have heq := if_f c8 heq
      by_cases c9 : r6 = 2
      · have heq := if_t c9 heq
        refine lv_tableIn (tgt := 84) hx hb dL_act_17 (by rw [c9]; decide) (by rw [c9]; decide) (by rw [c9]; rfl) (by decide) ?_
        exact tL_act_84 C x1 x2 x3 _ _ _ _ _ hM hS (lv_sub hl [1, 4, 0] rfl) heq
      · have heq := if_f c9 heq
        by_cases c10 : r6 = 3
        · have heq := if_t c10 heq
          refine lv_tableIn (tgt := 370) hx hb dL_act_17 (by rw [c10]; decide) (by rw [c10]; decide) (by rw [c10]; rfl) (by decide) ?_
          refine lv_iconst (v := 1) hx hb dL_act_370 (by decide) ?_
          refine lv_iload_n hx hb dL_act_371 rfl (lv_at hl 4 rfl) ?_
          refine lv_bipush (v := 9) hx hb dL_act_372 (by decide) ?_
          obtain ⟨r12, e11, heq⟩ := bn_of heq
          refine mm_ki hS (mm_runS (rest := [.int 1]) C hM hS (tL_up l G M x3 9 r12 e11) (uL_23 _ (Nat.le_of_ble_eq_true rfl) (Nat.le_of_ble_eq_true rfl)) hl.1 rfl rfl (Nat.le_of_ble_eq_true rfl) ⟨Nat.zero_le _, Nat.zero_le _⟩ dL_act_374) (fun H locs hM hS => ?_)
          have hM : mm_P G kR 731 M H := hM
          refine lv_iadd hx hb dL_act_377 ?_
          refine lv_topi (fun y13 ey13 => ?_)
          have heq := lt_to ey13 heq
          refine lv_istore (lv' := [(5, .int y13), (4, .int r4), (0, .ref (mm_lo G + 0)), (1, .int x1), (2, .int x2), (3, .int x3)]) hx hb dL_act_378 hl (by decide) rfl (fun ls hl => ?_)
          refine lv_aload_n hx hb dL_act_380 rfl (lv_at hl 2 rfl) ?_
          refine lv_iload hx hb dL_act_381 (lv_at hl 1 rfl) ?_
          refine lv_bipush (v := 9) hx hb dL_act_383 (by decide) ?_
          obtain ⟨r15, e14, heq⟩ := bn_of heq
          refine mm_ki hS (mm_runV (o := 0) (rest := []) C hM hS (tX6_ofCart l G M r4 9 r15 e14) (uL_66 _ (Nat.le_of_ble_eq_true rfl) (Nat.le_of_ble_eq_true rfl)) (mm_recv C hM (kl (rfl : kT 0 = (5, 0))) (ci := 5) rfl (mm_e5 (rfl : kT 0 = (5, 0)))) hl.1 rfl rfl (Nat.le_of_ble_eq_true rfl) ⟨Nat.zero_le _, Nat.zero_le _⟩ dL_act_385) (fun H locs hM hS => ?_)
          have hM : mm_P G kR 731 M H := hM
          refine lv_istore (lv' := [(6, .int r15), (5, .int y13), (4, .int r4), (0, .ref (mm_lo G + 0)), (1, .int x1), (2, .int x2), (3, .int x3)]) hx hb dL_act_388 hl (by decide) rfl (fun ls hl => ?_)
          refine lv_aload_n hx hb dL_act_390 rfl (lv_at hl 3 rfl) ?_
          refine lv_iload hx hb dL_act_391 (lv_at hl 2 rfl) ?_
          refine lv_iconst (v := 3) hx hb dL_act_393 (by decide) ?_
          obtain ⟨r17, e16, heq⟩ := bn_of heq
          refine mm_kl hS (mm_runV (o := 0) (rest := []) C hM hS (tX6_money l G M r4 3 r17 e16) (uL_73 _ (Nat.le_of_ble_eq_true rfl) (Nat.le_of_ble_eq_true rfl)) (mm_recv C hM (kl (rfl : kT 0 = (5, 0))) (ci := 5) rfl (mm_e5 (rfl : kT 0 = (5, 0)))) hl.1 rfl rfl (Nat.le_of_ble_eq_true rfl) ⟨Nat.zero_le _, Nat.zero_le _⟩ dL_act_394) (fun H locs hM hS => ?_)
          have hM : mm_P G kR 731 M H := hM
          refine lv_lstore (lv' := [(7, .long r17), (6, .int r15), (5, .int y13), (4, .int r4), (0, .ref (mm_lo G + 0)), (1, .int x1), (2, .int x2), (3, .int x3)]) hx hb dL_act_397 hl (by decide) rfl (fun ls hl => ?_)
          refine lv_iload hx hb dL_act_399 (lv_at hl 1 rfl) ?_
          refine lv_iload hx hb dL_act_401 (lv_at hl 2 rfl) ?_
          refine lv_iadd hx hb dL_act_403 ?_
          refine lv_aload_n hx hb dL_act_404 rfl (lv_at hl 4 rfl) ?_
          refine lv_bipush (v := 11) hx hb dL_act_405 (by decide) ?_
          obtain ⟨r19, e18, heq⟩ := bn_of heq
          refine mm_ki hS (mm_runV (o := 0) (rest := [.int (r15 + y13)]) C hM hS (tX6_count l G M 11 r19 e18) (uL_60 _ (Nat.le_of_ble_eq_true rfl) (Nat.le_of_ble_eq_true rfl)) (mm_recv C hM (kl (rfl : kT 0 = (5, 0))) (ci := 5) rfl (mm_e5 (rfl : kT 0 = (5, 0)))) hl.1 rfl rfl (Nat.le_of_ble_eq_true rfl) ⟨Nat.zero_le _, Nat.zero_le _⟩ dL_act_407) (fun H locs hM hS => ?_)
          have hM : mm_P G kR 731 M H := hM
          refine lv_icmp_lt (tgt := 417) hx hb dL_act_410 (by decide) (fun c20 => ?_) (fun c20 => ?_)
          · have heq := if_t c20 heq
            refine lv_iload hx hb dL_act_417 (lv_at hl 1 rfl) ?_
            refine lv_iload hx hb dL_act_419 (lv_at hl 2 rfl) ?_
            refine lv_iadd hx hb dL_act_421 ?_
            exact tL_act_422 C x1 x2 x3 _ _ _ _ _ _ _ _ hM hS (lv_sub hl [4, 3, 2, 0] rfl) heq
          · have heq := if_f c20 heq
            refine lv_iconst (v := 0) hx hb dL_act_413 (by decide) ?_
            refine lv_goto (tgt := 422) hx hb dL_act_414 (by decide) ?_
            exact tL_act_422 C x1 x2 x3 _ _ _ _ _ _ _ _ hM hS (lv_sub hl [4, 3, 2, 0] rfl) heq
        · have heq := if_f c10 heq
          by_cases c21 : r6 = 4
          · have heq := if_t c21 heq
            refine lv_tableIn (tgt := 520) hx hb dL_act_17 (by rw [c21]; decide) (by rw [c21]; decide) (by rw [c21]; rfl) (by decide) ?_
            refine lv_aload_n hx hb dL_act_520 rfl (lv_at hl 1 rfl) ?_
            refine lv_iconst (v := 4) hx hb dL_act_521 (by decide) ?_
            obtain ⟨r23, e22, heq⟩ := bn_of heq
            refine mm_ki hS (mm_runV (o := 0) (rest := []) C hM hS (tX6_count l G M 4 r23 e22) (uL_60 _ (Nat.le_of_ble_eq_true rfl) (Nat.le_of_ble_eq_true rfl)) (mm_recv C hM (kl (rfl : kT 0 = (5, 0))) (ci := 5) rfl (mm_e5 (rfl : kT 0 = (5, 0)))) hl.1 rfl rfl (Nat.le_of_ble_eq_true rfl) ⟨Nat.zero_le _, Nat.zero_le _⟩ dL_act_522) (fun H locs hM hS => ?_)
            have hM : mm_P G kR 731 M H := hM
            refine lv_istore (lv' := [(5, .int r23), (4, .int r4), (0, .ref (mm_lo G + 0)), (1, .int x1), (2, .int x2), (3, .int x3)]) hx hb dL_act_525 hl (by decide) rfl (fun ls hl => ?_)
            refine lv_aload_n hx hb dL_act_527 rfl (lv_at hl 2 rfl) ?_
            refine lv_iload hx hb dL_act_528 (lv_at hl 1 rfl) ?_
            refine lv_bipush (v := 8) hx hb dL_act_530 (by decide) ?_
            obtain ⟨r25, e24, heq⟩ := bn_of heq
            refine mm_ki hS (mm_runV (o := 0) (rest := []) C hM hS (tX6_ofCart l G M r4 8 r25 e24) (uL_66 _ (Nat.le_of_ble_eq_true rfl) (Nat.le_of_ble_eq_true rfl)) (mm_recv C hM (kl (rfl : kT 0 = (5, 0))) (ci := 5) rfl (mm_e5 (rfl : kT 0 = (5, 0)))) hl.1 rfl rfl (Nat.le_of_ble_eq_true rfl) ⟨Nat.zero_le _, Nat.zero_le _⟩ dL_act_532) (fun H locs hM hS => ?_)
            have hM : mm_P G kR 731 M H := hM
            refine lv_iconst (v := 1) hx hb dL_act_535 (by decide) ?_
            refine lv_icmp_ne (tgt := 556) hx hb dL_act_536 (by decide) (fun c26 => ?_) (fun c26 => ?_)
            · have heq := if_f c26 heq
              refine lv_aload_n hx hb dL_act_556 rfl (lv_at hl 2 rfl) ?_
              refine lv_iload hx hb dL_act_557 (lv_at hl 1 rfl) ?_
              obtain ⟨r28, M29, e27, heq⟩ := bn2_of heq
              refine mm_ki hS (mm_runV (o := 0) (rest := []) C hM hS (tX6_check l G M r4 r28 M29 e27) (uL_80 _ (Nat.le_of_ble_eq_true rfl) (Nat.le_of_ble_eq_true rfl)) (mm_recv C hM (kl (rfl : kT 0 = (5, 0))) (ci := 5) rfl (mm_e5 (rfl : kT 0 = (5, 0)))) hl.1 rfl rfl (Nat.le_of_ble_eq_true rfl) ⟨Nat.zero_le _, Nat.zero_le _⟩ dL_act_559) (fun H locs hM hS => ?_)
              have hM : mm_P G kR 731 M29 H := hM
              refine lv_iload hx hb dL_act_562 (lv_at hl 0 rfl) ?_
              refine lv_iconst (v := 1) hx hb dL_act_564 (by decide) ?_
              refine lv_iadd hx hb dL_act_565 ?_
              refine lv_icmp_ne (tgt := 596) hx hb dL_act_566 (by decide) (fun c30 => ?_) (fun c30 => ?_)
              · have heq := if_f c30 heq
                refine lv_iconst (v := 0) hx hb dL_act_596 (by decide) ?_
                cases heq
                refine W.widen (k := 1) (n := 40) (Nat.zero_le _) (Nat.zero_le _) ?_
                exact mm_zret C hM hS dL_act_597
              · have heq := if_t c30 heq
                refine lv_aload_n hx hb dL_act_569 rfl (lv_at hl 2 rfl) ?_
                refine lv_iload hx hb dL_act_570 (lv_at hl 1 rfl) ?_
                refine lv_bipush (v := 8) hx hb dL_act_572 (by decide) ?_
                obtain ⟨r32, e31, heq⟩ := bn_of heq
                refine mm_ki hS (mm_runV (o := 0) (rest := []) C hM hS (tX6_ofCart l G M29 r4 8 r32 e31) (uL_66 _ (Nat.le_of_ble_eq_true rfl) (Nat.le_of_ble_eq_true rfl)) (mm_recv C hM (kl (rfl : kT 0 = (5, 0))) (ci := 5) rfl (mm_e5 (rfl : kT 0 = (5, 0)))) hl.1 rfl rfl (Nat.le_of_ble_eq_true rfl) ⟨Nat.zero_le _, Nat.zero_le _⟩ dL_act_574) (fun H locs hM hS => ?_)
                have hM : mm_P G kR 731 M29 H := hM
                refine lv_iconst (v := 1) hx hb dL_act_577 (by decide) ?_
                refine lv_icmp_ne (tgt := 596) hx hb dL_act_578 (by decide) (fun c33 => ?_) (fun c33 => ?_)
                · have heq := if_f c33 heq
                  refine lv_iconst (v := 0) hx hb dL_act_596 (by decide) ?_
                  cases heq
                  refine W.widen (k := 1) (n := 40) (Nat.zero_le _) (Nat.zero_le _) ?_
                  exact mm_zret C hM hS dL_act_597
                · have heq := if_t c33 heq
                  refine lv_aload_n hx hb dL_act_581 rfl (lv_at hl 2 rfl) ?_
                  refine lv_iload hx hb dL_act_582 (lv_at hl 1 rfl) ?_
                  obtain ⟨r35, M36, e34, heq⟩ := bn2_of heq
                  refine mm_ki hS (mm_runV (o := 0) (rest := []) C hM hS (tX6_check l G M29 r4 r35 M36 e34) (uL_80 _ (Nat.le_of_ble_eq_true rfl) (Nat.le_of_ble_eq_true rfl)) (mm_recv C hM (kl (rfl : kT 0 = (5, 0))) (ci := 5) rfl (mm_e5 (rfl : kT 0 = (5, 0)))) hl.1 rfl rfl (Nat.le_of_ble_eq_true rfl) ⟨Nat.zero_le _, Nat.zero_le _⟩ dL_act_584) (fun H locs hM hS => ?_)
                  have hM : mm_P G kR 731 M36 H := hM
                  refine lv_bipush (v := (-5)) hx hb dL_act_587 (by decide) ?_
                  refine lv_icmp_ne (tgt := 596) hx hb dL_act_589 (by decide) (fun c37 => ?_) (fun c37 => ?_)
                  · have heq := if_f c37 heq
                    refine lv_iconst (v := 0) hx hb dL_act_596 (by decide) ?_
                    cases heq
                    refine W.widen (k := 1) (n := 40) (Nat.zero_le _) (Nat.zero_le _) ?_
                    exact mm_zret C hM hS dL_act_597
                  · have heq := if_t c37 heq
                    refine lv_iconst (v := 1) hx hb dL_act_592 (by decide) ?_
                    refine lv_goto (tgt := 597) hx hb dL_act_593 (by decide) ?_
                    cases heq
                    refine W.widen (k := 1) (n := 40) (Nat.zero_le _) (Nat.zero_le _) ?_
                    exact mm_zret C hM hS dL_act_597
            · have heq := if_t c26 heq
              refine lv_aload_n hx hb dL_act_539 rfl (lv_at hl 2 rfl) ?_
              refine lv_iload hx hb dL_act_540 (lv_at hl 1 rfl) ?_
              obtain ⟨r39, M40, e38, heq⟩ := bn2_of heq
              refine mm_ki hS (mm_runV (o := 0) (rest := []) C hM hS (tX6_check l G M r4 r39 M40 e38) (uL_80 _ (Nat.le_of_ble_eq_true rfl) (Nat.le_of_ble_eq_true rfl)) (mm_recv C hM (kl (rfl : kT 0 = (5, 0))) (ci := 5) rfl (mm_e5 (rfl : kT 0 = (5, 0)))) hl.1 rfl rfl (Nat.le_of_ble_eq_true rfl) ⟨Nat.zero_le _, Nat.zero_le _⟩ dL_act_542) (fun H locs hM hS => ?_)
              have hM : mm_P G kR 731 M40 H := hM
              refine lv_bipush (v := (-5)) hx hb dL_act_545 (by decide) ?_
              refine lv_icmp_ne (tgt := 554) hx hb dL_act_547 (by decide) (fun c41 => ?_) (fun c41 => ?_)
              · have heq := if_f c41 heq
                refine lv_iconst (v := 0) hx hb dL_act_554 (by decide) ?_
                cases heq
                refine W.widen (k := 1) (n := 40) (Nat.zero_le _) (Nat.zero_le _) ?_
                exact mm_zret C hM hS dL_act_555
              · have heq := if_t c41 heq
                refine lv_iconst (v := 1) hx hb dL_act_550 (by decide) ?_
                refine lv_goto (tgt := 555) hx hb dL_act_551 (by decide) ?_
                cases heq
                refine W.widen (k := 1) (n := 40) (Nat.zero_le _) (Nat.zero_le _) ?_
                exact mm_zret C hM hS dL_act_555
          · have heq := if_f c21 heq
            by_cases c42 : r6 = 5
            · have heq := if_t c42 heq
              refine lv_tableIn (tgt := 598) hx hb dL_act_17 (by rw [c42]; decide) (by rw [c42]; decide) (by rw [c42]; rfl) (by decide) ?_
              exact tL_act_598 C x1 x2 x3 _ _ _ _ _ hM hS (lv_sub hl [1, 4, 0] rfl) heq
            · have heq := if_f c42 heq
              by_cases c43 : r6 = 6
              · have heq := if_t c43 heq
                refine lv_tableIn (tgt := 598) hx hb dL_act_17 (by rw [c43]; decide) (by rw [c43]; decide) (by rw [c43]; rfl) (by decide) ?_
                exact tL_act_598 C x1 x2 x3 _ _ _ _ _ hM hS (lv_sub hl [1, 4, 0] rfl) heq
              · have heq := if_f c43 heq
                by_cases c44 : r6 = 7
                · have heq := if_t c44 heq
                  refine lv_tableIn (tgt := 704) hx hb dL_act_17 (by rw [c44]; decide) (by rw [c44]; decide) (by rw [c44]; rfl) (by decide) ?_
                  refine lv_iconst (v := 1) hx hb dL_act_704 (by decide) ?_
                  refine lv_iload_n hx hb dL_act_705 rfl (lv_at hl 4 rfl) ?_
                  refine mm_ldc C kL_86 dL_act_706 ?_
                  obtain ⟨r46, e45, heq⟩ := bn_of heq
                  refine mm_ki hS (mm_runS (rest := [.int 1]) C hM hS (tL_up l G M x3 1000000 r46 e45) (uL_23 _ (Nat.le_of_ble_eq_true rfl) (Nat.le_of_ble_eq_true rfl)) hl.1 rfl rfl (Nat.le_of_ble_eq_true rfl) ⟨Nat.zero_le _, Nat.zero_le _⟩ dL_act_708) (fun H locs hM hS => ?_)
                  have hM : mm_P G kR 731 M H := hM
                  refine lv_iadd hx hb dL_act_711 ?_
                  refine lv_topi (fun y47 ey47 => ?_)
                  have heq := lt_to ey47 heq
                  refine lv_istore (lv' := [(5, .int y47), (4, .int r4), (0, .ref (mm_lo G + 0)), (1, .int x1), (2, .int x2), (3, .int x3)]) hx hb dL_act_712 hl (by decide) rfl (fun ls hl => ?_)
                  refine lv_aload_n hx hb dL_act_714 rfl (lv_at hl 2 rfl) ?_
                  refine lv_iload hx hb dL_act_715 (lv_at hl 1 rfl) ?_
                  refine lv_iconst (v := 0) hx hb dL_act_717 (by decide) ?_
                  obtain ⟨r49, e48, heq⟩ := bn_of heq
                  refine mm_kl hS (mm_runV (o := 0) (rest := []) C hM hS (tX6_money l G M r4 0 r49 e48) (uL_73 _ (Nat.le_of_ble_eq_true rfl) (Nat.le_of_ble_eq_true rfl)) (mm_recv C hM (kl (rfl : kT 0 = (5, 0))) (ci := 5) rfl (mm_e5 (rfl : kT 0 = (5, 0)))) hl.1 rfl rfl (Nat.le_of_ble_eq_true rfl) ⟨Nat.zero_le _, Nat.zero_le _⟩ dL_act_718) (fun H locs hM hS => ?_)
                  have hM : mm_P G kR 731 M H := hM
                  refine lv_lstore (lv' := [(6, .long r49), (5, .int y47), (4, .int r4), (0, .ref (mm_lo G + 0)), (1, .int x1), (2, .int x2), (3, .int x3)]) hx hb dL_act_721 hl (by decide) rfl (fun ls hl => ?_)
                  refine lv_aload_n hx hb dL_act_723 rfl (lv_at hl 3 rfl) ?_
                  refine lv_iload hx hb dL_act_724 (lv_at hl 2 rfl) ?_
                  refine lv_iload hx hb dL_act_726 (lv_at hl 1 rfl) ?_
                  obtain ⟨r51, M52, e50, heq⟩ := bn2_of heq
                  refine mm_ki hS (mm_runV (o := 0) (rest := []) C hM hS (tX6_pay l G M r4 y47 r51 M52 e50) (uL_87 _ (Nat.le_of_ble_eq_true rfl) (Nat.le_of_ble_eq_true rfl)) (mm_recv C hM (kl (rfl : kT 0 = (5, 0))) (ci := 5) rfl (mm_e5 (rfl : kT 0 = (5, 0)))) hl.1 rfl rfl (Nat.le_of_ble_eq_true rfl) ⟨Nat.zero_le _, Nat.zero_le _⟩ dL_act_728) (fun H locs hM hS => ?_)
                  have hM : mm_P G kR 731 M52 H := hM
                  refine lv_lload hx hb dL_act_731 (lv_at hl 0 rfl) ?_
                  refine lv_iload hx hb dL_act_733 (lv_at hl 1 rfl) ?_
                  refine lv_i2l hx hb dL_act_735 rfl ?_
                  refine lv_ladd hx hb dL_act_736 ?_
                  refine lv_lconst (v := 0) hx hb dL_act_737 (by decide) ?_
                  refine W.lcmp hx hb dL_act_738 ?_
                  refine lv_if_lt (tgt := 746) hx hb dL_act_739 (by decide) (fun c53 => ?_) (fun c53 => ?_)
                  · have heq := if_t c53 heq
                    refine lv_iconst (v := 0) hx hb dL_act_746 (by decide) ?_
                    exact tL_act_747 C x1 x2 x3 _ _ _ _ _ _ _ _ _ hM hS (lv_sub hl [3, 2, 1, 0] rfl) heq
                  · have heq := if_f c53 heq
                    refine lv_iconst (v := 1) hx hb dL_act_742 (by decide) ?_
                    refine lv_goto (tgt := 747) hx hb dL_act_743 (by decide) ?_
                    exact tL_act_747 C x1 x2 x3 _ _ _ _ _ _ _ _ _ hM hS (lv_sub hl [3, 2, 1, 0] rfl) heq
                · have heq := if_f c44 heq
                  by_cases c54 : r6 = 8
                  · have heq := if_t c54 heq
                    refine lv_tableIn (tgt := 785) hx hb dL_act_17 (by rw [c54]; decide) (by rw [c54]; decide) (by rw [c54]; rfl) (by decide) ?_
                    refine lv_iload_n hx hb dL_act_785 rfl (lv_at hl 4 rfl) ?_
                    refine lv_aload_n hx hb dL_act_786 rfl (lv_at hl 1 rfl) ?_
                    refine lv_iconst (v := 2) hx hb dL_act_787 (by decide) ?_
                    obtain ⟨r56, e55, heq⟩ := bn_of heq
                    refine mm_ki hS (mm_runV (o := 0) (rest := [.int x3]) C hM hS (tX6_count l G M 2 r56 e55) (uL_60 _ (Nat.le_of_ble_eq_true rfl) (Nat.le_of_ble_eq_true rfl)) (mm_recv C hM (kl (rfl : kT 0 = (5, 0))) (ci := 5) rfl (mm_e5 (rfl : kT 0 = (5, 0)))) hl.1 rfl rfl (Nat.le_of_ble_eq_true rfl) ⟨Nat.zero_le _, Nat.zero_le _⟩ dL_act_788) (fun H locs hM hS => ?_)
                    have hM : mm_P G kR 731 M H := hM
                    obtain ⟨r58, e57, heq⟩ := bn_of heq
                    refine mm_ki hS (mm_runS (rest := []) C hM hS (tL_up l G M x3 r56 r58 e57) (uL_23 _ (Nat.le_of_ble_eq_true rfl) (Nat.le_of_ble_eq_true rfl)) hl.1 rfl rfl (Nat.le_of_ble_eq_true rfl) ⟨Nat.zero_le _, Nat.zero_le _⟩ dL_act_791) (fun H locs hM hS => ?_)
                    have hM : mm_P G kR 731 M H := hM
                    refine lv_istore (lv' := [(5, .int r58), (4, .int r4), (0, .ref (mm_lo G + 0)), (1, .int x1), (2, .int x2), (3, .int x3)]) hx hb dL_act_794 hl (by decide) rfl (fun ls hl => ?_)
                    refine lv_aload_n hx hb dL_act_796 rfl (lv_at hl 2 rfl) ?_
                    refine lv_iload hx hb dL_act_797 (lv_at hl 0 rfl) ?_
                    refine lv_iconst (v := 0) hx hb dL_act_799 (by decide) ?_
                    obtain ⟨r60, e59, heq⟩ := bn_of heq
                    refine mm_ki hS (mm_runV (o := 0) (rest := []) C hM hS (tX6_ofPitch l G M r58 0 r60 e59) (uL_90 _ (Nat.le_of_ble_eq_true rfl) (Nat.le_of_ble_eq_true rfl)) (mm_recv C hM (kl (rfl : kT 0 = (5, 0))) (ci := 5) rfl (mm_e5 (rfl : kT 0 = (5, 0)))) hl.1 rfl rfl (Nat.le_of_ble_eq_true rfl) ⟨Nat.zero_le _, Nat.zero_le _⟩ dL_act_800) (fun H locs hM hS => ?_)
                    have hM : mm_P G kR 731 M H := hM
                    refine lv_istore (lv' := [(6, .int r60), (5, .int r58), (4, .int r4), (0, .ref (mm_lo G + 0)), (1, .int x1), (2, .int x2), (3, .int x3)]) hx hb dL_act_803 hl (by decide) rfl (fun ls hl => ?_)
                    refine lv_aload_n hx hb dL_act_805 rfl (lv_at hl 3 rfl) ?_
                    refine lv_iload hx hb dL_act_806 (lv_at hl 1 rfl) ?_
                    refine lv_iload_n hx hb dL_act_808 rfl (lv_at hl 6 rfl) ?_
                    refine lv_iconst (v := 4) hx hb dL_act_809 (by decide) ?_
                    refine lv_ishr hx hb dL_act_810 ?_
                    refine lv_sipush (v := 20001) hx hb dL_act_811 (by decide) ?_
                    obtain ⟨r62, e61, heq⟩ := bn_of heq
                    refine mm_ki hS (mm_runS (rest := [.int r58, .ref (mm_lo G + 0)]) C hM hS (tL_up l G M (x3 >>> (4 &&& 31)) 20001 r62 e61) (uL_23 _ (Nat.le_of_ble_eq_true rfl) (Nat.le_of_ble_eq_true rfl)) hl.1 rfl rfl (Nat.le_of_ble_eq_true rfl) ⟨Nat.zero_le _, Nat.zero_le _⟩ dL_act_814) (fun H locs hM hS => ?_)
                    have hM : mm_P G kR 731 M H := hM
                    obtain ⟨r64, M65, e63, heq⟩ := bn2_of heq
                    refine mm_ki hS (mm_runV (o := 0) (rest := []) C hM hS (tX6_rent l G M r58 r62 r64 M65 e63) (uL_93 _ (Nat.le_of_ble_eq_true rfl) (Nat.le_of_ble_eq_true rfl)) (mm_recv C hM (kl (rfl : kT 0 = (5, 0))) (ci := 5) rfl (mm_e5 (rfl : kT 0 = (5, 0)))) hl.1 rfl rfl (Nat.le_of_ble_eq_true rfl) ⟨Nat.zero_le _, Nat.zero_le _⟩ dL_act_817) (fun H locs hM hS => ?_)
                    have hM : mm_P G kR 731 M65 H := hM
                    refine lv_iload hx hb dL_act_820 (lv_at hl 0 rfl) ?_
                    refine lv_icmp_ne (tgt := 862) hx hb dL_act_822 (by decide) (fun c66 => ?_) (fun c66 => ?_)
                    · have heq := if_f c66 heq
                      refine lv_iconst (v := 0) hx hb dL_act_862 (by decide) ?_
                      cases heq
                      refine W.widen (k := 1) (n := 40) (Nat.zero_le _) (Nat.zero_le _) ?_
                      exact mm_zret C hM hS dL_act_863
                    · have heq := if_t c66 heq
                      refine lv_aload_n hx hb dL_act_825 rfl (lv_at hl 3 rfl) ?_
                      refine lv_iload hx hb dL_act_826 (lv_at hl 1 rfl) ?_
                      refine lv_iconst (v := 0) hx hb dL_act_828 (by decide) ?_
                      obtain ⟨r68, e67, heq⟩ := bn_of heq
                      refine mm_ki hS (mm_runV (o := 0) (rest := []) C hM hS (tX6_ofPitch l G M65 r58 0 r68 e67) (uL_90 _ (Nat.le_of_ble_eq_true rfl) (Nat.le_of_ble_eq_true rfl)) (mm_recv C hM (kl (rfl : kT 0 = (5, 0))) (ci := 5) rfl (mm_e5 (rfl : kT 0 = (5, 0)))) hl.1 rfl rfl (Nat.le_of_ble_eq_true rfl) ⟨Nat.zero_le _, Nat.zero_le _⟩ dL_act_829) (fun H locs hM hS => ?_)
                      have hM : mm_P G kR 731 M65 H := hM
                      refine lv_iload_n hx hb dL_act_832 rfl (lv_at hl 6 rfl) ?_
                      refine lv_iconst (v := 4) hx hb dL_act_833 (by decide) ?_
                      refine lv_ishr hx hb dL_act_834 ?_
                      refine lv_sipush (v := 20001) hx hb dL_act_835 (by decide) ?_
                      obtain ⟨r70, e69, heq⟩ := bn_of heq
                      refine mm_ki hS (mm_runS (rest := [.int r68]) C hM hS (tL_up l G M65 (x3 >>> (4 &&& 31)) 20001 r70 e69) (uL_23 _ (Nat.le_of_ble_eq_true rfl) (Nat.le_of_ble_eq_true rfl)) hl.1 rfl rfl (Nat.le_of_ble_eq_true rfl) ⟨Nat.zero_le _, Nat.zero_le _⟩ dL_act_838) (fun H locs hM hS => ?_)
                      have hM : mm_P G kR 731 M65 H := hM
                      refine lv_icmp_ne (tgt := 862) hx hb dL_act_841 (by decide) (fun c71 => ?_) (fun c71 => ?_)
                      · have heq := if_f c71 heq
                        refine lv_iconst (v := 0) hx hb dL_act_862 (by decide) ?_
                        cases heq
                        refine W.widen (k := 1) (n := 40) (Nat.zero_le _) (Nat.zero_le _) ?_
                        exact mm_zret C hM hS dL_act_863
                      · have heq := if_t c71 heq
                        refine lv_aload_n hx hb dL_act_844 rfl (lv_at hl 3 rfl) ?_
                        refine lv_iload hx hb dL_act_845 (lv_at hl 1 rfl) ?_
                        refine lv_sipush (v := 20001) hx hb dL_act_847 (by decide) ?_
                        obtain ⟨r73, M74, e72, heq⟩ := bn2_of heq
                        refine mm_ki hS (mm_runV (o := 0) (rest := []) C hM hS (tX6_rent l G M65 r58 20001 r73 M74 e72) (uL_93 _ (Nat.le_of_ble_eq_true rfl) (Nat.le_of_ble_eq_true rfl)) (mm_recv C hM (kl (rfl : kT 0 = (5, 0))) (ci := 5) rfl (mm_e5 (rfl : kT 0 = (5, 0)))) hl.1 rfl rfl (Nat.le_of_ble_eq_true rfl) ⟨Nat.zero_le _, Nat.zero_le _⟩ dL_act_850) (fun H locs hM hS => ?_)
                        have hM : mm_P G kR 731 M74 H := hM
                        refine lv_bipush (v := (-2)) hx hb dL_act_853 (by decide) ?_
                        refine lv_icmp_ne (tgt := 862) hx hb dL_act_855 (by decide) (fun c75 => ?_) (fun c75 => ?_)
                        · have heq := if_f c75 heq
                          refine lv_iconst (v := 0) hx hb dL_act_862 (by decide) ?_
                          cases heq
                          refine W.widen (k := 1) (n := 40) (Nat.zero_le _) (Nat.zero_le _) ?_
                          exact mm_zret C hM hS dL_act_863
                        · have heq := if_t c75 heq
                          refine lv_iconst (v := 1) hx hb dL_act_858 (by decide) ?_
                          refine lv_goto (tgt := 863) hx hb dL_act_859 (by decide) ?_
                          cases heq
                          refine W.widen (k := 1) (n := 40) (Nat.zero_le _) (Nat.zero_le _) ?_
                          exact mm_zret C hM hS dL_act_863
                  · have heq := if_f c54 heq
                    by_cases c76 : r6 = 9
                    · have heq := if_t c76 heq
                      refine lv_tableIn (tgt := 864) hx hb dL_act_17 (by rw [c76]; decide) (by rw [c76]; decide) (by rw [c76]; rfl) (by decide) ?_
                      refine lv_aload_n hx hb dL_act_864 rfl (lv_at hl 1 rfl) ?_
                      refine lv_iconst (v := 3) hx hb dL_act_865 (by decide) ?_
                      obtain ⟨r78, e77, heq⟩ := bn_of heq
                      refine mm_ki hS (mm_runV (o := 0) (rest := []) C hM hS (tX6_count l G M 3 r78 e77) (uL_60 _ (Nat.le_of_ble_eq_true rfl) (Nat.le_of_ble_eq_true rfl)) (mm_recv C hM (kl (rfl : kT 0 = (5, 0))) (ci := 5) rfl (mm_e5 (rfl : kT 0 = (5, 0)))) hl.1 rfl rfl (Nat.le_of_ble_eq_true rfl) ⟨Nat.zero_le _, Nat.zero_le _⟩ dL_act_866) (fun H locs hM hS => ?_)
                      have hM : mm_P G kR 731 M H := hM
                      refine lv_istore (lv' := [(5, .int r78), (4, .int r4), (0, .ref (mm_lo G + 0)), (1, .int x1), (2, .int x2), (3, .int x3)]) hx hb dL_act_869 hl (by decide) rfl (fun ls hl => ?_)
                      refine lv_iload_n hx hb dL_act_871 rfl (lv_at hl 4 rfl) ?_
                      refine lv_iconst (v := 2) hx hb dL_act_872 (by decide) ?_
                      obtain ⟨r80, e79, heq⟩ := bn_of heq
                      refine mm_ki hS (mm_runS (rest := []) C hM hS (tL_up l G M x2 2 r80 e79) (uL_23 _ (Nat.le_of_ble_eq_true rfl) (Nat.le_of_ble_eq_true rfl)) hl.1 rfl rfl (Nat.le_of_ble_eq_true rfl) ⟨Nat.zero_le _, Nat.zero_le _⟩ dL_act_873) (fun H locs hM hS => ?_)
                      have hM : mm_P G kR 731 M H := hM
                      refine lv_if_ne (tgt := 885) hx hb dL_act_876 (by decide) (fun c81 => ?_) (fun c81 => ?_)
                      · have heq := if_f c81 heq
                        refine lv_aload_n hx hb dL_act_885 rfl (lv_at hl 2 rfl) ?_
                        refine lv_iload_n hx hb dL_act_886 rfl (lv_at hl 5 rfl) ?_
                        refine mm_ldc C kL_22 dL_act_887 ?_
                        obtain ⟨r83, e82, heq⟩ := bn_of heq
                        refine mm_ki hS (mm_runS (rest := [.ref (mm_lo G + 0)]) C hM hS (tL_up l G M x3 65537 r83 e82) (uL_23 _ (Nat.le_of_ble_eq_true rfl) (Nat.le_of_ble_eq_true rfl)) hl.1 rfl rfl (Nat.le_of_ble_eq_true rfl) ⟨Nat.zero_le _, Nat.zero_le _⟩ dL_act_889) (fun H locs hM hS => ?_)
                        have hM : mm_P G kR 731 M H := hM
                        obtain ⟨r85, M86, e84, heq⟩ := bn2_of heq
                        refine mm_ki hS (mm_runV (o := 0) (rest := []) C hM hS (tX6_seed l G M r83 r85 M86 e84) (uL_27 _ (Nat.le_of_ble_eq_true rfl) (Nat.le_of_ble_eq_true rfl)) (mm_recv C hM (kl (rfl : kT 0 = (5, 0))) (ci := 5) rfl (mm_e5 (rfl : kT 0 = (5, 0)))) hl.1 rfl rfl (Nat.le_of_ble_eq_true rfl) ⟨Nat.zero_le _, Nat.zero_le _⟩ dL_act_892) (fun H locs hM hS => ?_)
                        have hM : mm_P G kR 731 M86 H := hM
                        refine lv_iload hx hb dL_act_895 (lv_at hl 0 rfl) ?_
                        refine lv_icmp_ne (tgt := 929) hx hb dL_act_897 (by decide) (fun c87 => ?_) (fun c87 => ?_)
                        · have heq := if_f c87 heq
                          refine lv_iconst (v := 0) hx hb dL_act_929 (by decide) ?_
                          cases heq
                          refine W.widen (k := 1) (n := 40) (Nat.zero_le _) (Nat.zero_le _) ?_
                          exact mm_zret C hM hS dL_act_930
                        · have heq := if_t c87 heq
                          refine lv_aload_n hx hb dL_act_900 rfl (lv_at hl 2 rfl) ?_
                          refine lv_iconst (v := 3) hx hb dL_act_901 (by decide) ?_
                          obtain ⟨r89, e88, heq⟩ := bn_of heq
                          refine mm_ki hS (mm_runV (o := 0) (rest := []) C hM hS (tX6_count l G M86 3 r89 e88) (uL_60 _ (Nat.le_of_ble_eq_true rfl) (Nat.le_of_ble_eq_true rfl)) (mm_recv C hM (kl (rfl : kT 0 = (5, 0))) (ci := 5) rfl (mm_e5 (rfl : kT 0 = (5, 0)))) hl.1 rfl rfl (Nat.le_of_ble_eq_true rfl) ⟨Nat.zero_le _, Nat.zero_le _⟩ dL_act_902) (fun H locs hM hS => ?_)
                          have hM : mm_P G kR 731 M86 H := hM
                          refine lv_iload_n hx hb dL_act_905 rfl (lv_at hl 5 rfl) ?_
                          refine mm_ldc C kL_22 dL_act_906 ?_
                          obtain ⟨r91, e90, heq⟩ := bn_of heq
                          refine mm_ki hS (mm_runS (rest := [.int r89]) C hM hS (tL_up l G M86 x3 65537 r91 e90) (uL_23 _ (Nat.le_of_ble_eq_true rfl) (Nat.le_of_ble_eq_true rfl)) hl.1 rfl rfl (Nat.le_of_ble_eq_true rfl) ⟨Nat.zero_le _, Nat.zero_le _⟩ dL_act_908) (fun H locs hM hS => ?_)
                          have hM : mm_P G kR 731 M86 H := hM
                          refine lv_icmp_ne (tgt := 929) hx hb dL_act_911 (by decide) (fun c92 => ?_) (fun c92 => ?_)
                          · have heq := if_f c92 heq
                            refine lv_iconst (v := 0) hx hb dL_act_929 (by decide) ?_
                            cases heq
                            refine W.widen (k := 1) (n := 40) (Nat.zero_le _) (Nat.zero_le _) ?_
                            exact mm_zret C hM hS dL_act_930
                          · have heq := if_t c92 heq
                            refine lv_aload_n hx hb dL_act_914 rfl (lv_at hl 2 rfl) ?_
                            refine mm_ldc C kL_22 dL_act_915 ?_
                            obtain ⟨r94, M95, e93, heq⟩ := bn2_of heq
                            refine mm_ki hS (mm_runV (o := 0) (rest := []) C hM hS (tX6_seed l G M86 65537 r94 M95 e93) (uL_27 _ (Nat.le_of_ble_eq_true rfl) (Nat.le_of_ble_eq_true rfl)) (mm_recv C hM (kl (rfl : kT 0 = (5, 0))) (ci := 5) rfl (mm_e5 (rfl : kT 0 = (5, 0)))) hl.1 rfl rfl (Nat.le_of_ble_eq_true rfl) ⟨Nat.zero_le _, Nat.zero_le _⟩ dL_act_917) (fun H locs hM hS => ?_)
                            have hM : mm_P G kR 731 M95 H := hM
                            refine lv_bipush (v := (-2)) hx hb dL_act_920 (by decide) ?_
                            refine lv_icmp_ne (tgt := 929) hx hb dL_act_922 (by decide) (fun c96 => ?_) (fun c96 => ?_)
                            · have heq := if_f c96 heq
                              refine lv_iconst (v := 0) hx hb dL_act_929 (by decide) ?_
                              cases heq
                              refine W.widen (k := 1) (n := 40) (Nat.zero_le _) (Nat.zero_le _) ?_
                              exact mm_zret C hM hS dL_act_930
                            · have heq := if_t c96 heq
                              refine lv_iconst (v := 1) hx hb dL_act_925 (by decide) ?_
                              refine lv_goto (tgt := 930) hx hb dL_act_926 (by decide) ?_
                              cases heq
                              refine W.widen (k := 1) (n := 40) (Nat.zero_le _) (Nat.zero_le _) ?_
                              exact mm_zret C hM hS dL_act_930
                      · have heq := if_t c81 heq
                        refine lv_aload_n hx hb dL_act_879 rfl (lv_at hl 2 rfl) ?_
                        refine lv_iload_n hx hb dL_act_880 rfl (lv_at hl 5 rfl) ?_
                        obtain ⟨r98, M99, e97, heq⟩ := bn2_of heq
                        refine mm_ki hS (mm_runS (rest := []) C hM hS (tL_sets l G M x3 r98 M99 e97) (uL_31 _ (Nat.le_of_ble_eq_true rfl) (Nat.le_of_ble_eq_true rfl)) hl.1 rfl rfl (Nat.le_of_ble_eq_true rfl) ⟨Nat.zero_le _, Nat.zero_le _⟩ dL_act_881) (fun H locs hM hS => ?_)
                        have hM : mm_P G kR 731 M99 H := hM
                        cases heq
                        refine W.widen (k := 1) (n := 40) (Nat.zero_le _) (Nat.zero_le _) ?_
                        exact mm_zret C hM hS dL_act_884
                    · have heq := if_f c76 heq
                      by_cases c100 : r6 = 10
                      · have heq := if_t c100 heq
                        refine lv_tableIn (tgt := 931) hx hb dL_act_17 (by rw [c100]; decide) (by rw [c100]; decide) (by rw [c100]; rfl) (by decide) ?_
                        exact tL_act_931 C x1 x2 x3 _ _ _ _ hM hS (lv_sub hl [1, 3, 4] rfl) heq
                      · have heq := if_f c100 heq
                        by_cases c101 : r6 = 11
                        · have heq := if_t c101 heq
                          refine lv_tableIn (tgt := 931) hx hb dL_act_17 (by rw [c101]; decide) (by rw [c101]; decide) (by rw [c101]; rfl) (by decide) ?_
                          exact tL_act_931 C x1 x2 x3 _ _ _ _ hM hS (lv_sub hl [1, 3, 4] rfl) heq
                        · have heq := if_f c101 heq
                          by_cases c102 : r6 = 12
                          · have heq := if_t c102 heq
                            refine lv_tableIn (tgt := 931) hx hb dL_act_17 (by rw [c102]; decide) (by rw [c102]; decide) (by rw [c102]; rfl) (by decide) ?_
                            exact tL_act_931 C x1 x2 x3 _ _ _ _ hM hS (lv_sub hl [1, 3, 4] rfl) heq
                          · have heq := if_f c102 heq
                            refine lv_tableOut (tgt := 1002) hx hb dL_act_17 (by have nc7 := lv_neT (k := 0) (a := 0) c7 rfl; have nc8 := lv_neT (k := 1) (a := 1) c8 rfl; have nc9 := lv_neT (k := 2) (a := 2) c9 rfl; have nc10 := lv_neT (k := 3) (a := 3) c10 rfl; have nc21 := lv_neT (k := 4) (a := 4) c21 rfl; have nc42 := lv_neT (k := 5) (a := 5) c42 rfl; have nc43 := lv_neT (k := 6) (a := 6) c43 rfl; have nc44 := lv_neT (k := 7) (a := 7) c44 rfl; have nc54 := lv_neT (k := 8) (a := 8) c54 rfl; have nc76 := lv_neT (k := 9) (a := 9) c76 rfl; have nc100 := lv_neT (k := 10) (a := 10) c100 rfl; have nc101 := lv_neT (k := 11) (a := 11) c101 rfl; have nc102 := lv_neT (k := 12) (a := 12) c102 rfl; omega) (by decide) ?_
                            refine lv_aload_n hx hb dL_act_1002 rfl (lv_at hl 1 rfl) ?_
                            refine lv_iload_n hx hb dL_act_1003 rfl (lv_at hl 3 rfl) ?_
                            refine lv_iload_n hx hb dL_act_1004 rfl (lv_at hl 4 rfl) ?_
                            obtain ⟨r104, M105, e103, heq⟩ := bn2_of heq
                            refine mm_kiM hS (mm_runM (rest := []) C hM hS (tL_text l G M hhi x2 x3 r104 M105 e103) (uL_99 _ (Nat.le_of_ble_eq_true rfl) (Nat.le_of_ble_eq_true rfl)) hl.1 rfl rfl (Nat.le_of_ble_eq_true rfl) ⟨Nat.le_of_ble_eq_true rfl, Nat.le_of_ble_eq_true rfl⟩ dL_act_1005) (fun H locs hM hS => ?_)
                            have hM : mm_P G kR 731 M105 H := hM
                            cases heq
                            exact mm_zret C hM hS dL_act_1008
end LWALK
