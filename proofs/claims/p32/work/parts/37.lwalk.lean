section LWALK
variable {p : Program} {l : Launch} {e : Env} {s : State} {m : MethodId} {args : Array Value} {below : List Frame} {meth : Method} {c : Code} {G : mm_G}
set_option maxRecDepth 100000 in
set_option maxHeartbeats 4000000 in
theorem tL_text_508 (C : mm_C G p s m args meth c RL cL_text 10 (some .boolean)) (x1 : Int32) (x2 : Int32) {b : Nat} (hb0 : mm_lo G + 731 ≤ b) (hb1 : G.2.2 4 ≤ b) {r : Bool} {M9 : mm_M} {k40 : mm_M → (Nat → Int32) → Int32 → Int32 → Option (Bool × mm_M)} (hk40 : ∀ (M : mm_M) (F : (Nat → Int32)) (v3 : Int32) (v5 : Int32) (H : Heap) (locs : List Loc) (ls : Array Slot), mm_P G kR 731 M H → mm_Ar G b 40 F H → va_S (mm_A G) s.heap H locs → lv_has ls 10 [(0, .ref (mm_lo G + 0)), (1, .int x1), (2, .int x2), (3, .int v3), (4, .ref b), (5, .int v5)] → k40 M F v3 v5 = some (r, M9) → W p l e rmL_text s m args below meth c H locs 1 40 (MQ below (mm_Qi G (b2i r) (kR, 731, M9)) args s 1 40 (mm_A G)) (F0 m 40 ls [])) : ∀ (M : mm_M) (F : (Nat → Int32)) (v3 : Int32) (v5 : Int32) (H : Heap) (locs : List Loc) (ls : Array Slot), mm_P G kR 731 M H → mm_Ar G b 40 F H → va_S (mm_A G) s.heap H locs → lv_has ls 10 [(0, .ref (mm_lo G + 0)), (1, .int x1), (2, .int x2), (3, .int v3), (4, .ref b), (5, .int v5)] → fL_text_508 x1 x2 k40 M F v3 v5 = some (r, M9) → W p l e rmL_text s m args below meth c H locs 1 40 (MQ below (mm_Qi G (b2i r) (kR, 731, M9)) args s 1 40 (mm_A G)) (F0 m 508 ls []) := by
  obtain ⟨hx, hb, -, -, -, -, -, -, hZ, -⟩ := id C
  intro M F v3 v5 H locs ls hM hA hS hl heq
  rw [fL_text_508] at heq
  refine lv_aload_n hx hb dL_text_508 rfl (lv_at hl 0 rfl) ?_
  obtain ⟨r2, e1, heq⟩ := bn_of heq
  refine mm_kih hA hS hb0 hb1 (mm_runVh (o := 0) (rest := []) C hM hS hb1 (tX6_fault l (gH G (b + 1)) M r2 e1) (uL_111 _ (Nat.le_of_ble_eq_true rfl) (Nat.le_of_ble_eq_true rfl)) (mm_recv C hM (kl (rfl : kT 0 = (5, 0))) (ci := 5) rfl (mm_e5 (rfl : kT 0 = (5, 0)))) hl.1 rfl rfl (Nat.le_of_ble_eq_true rfl) ⟨Nat.le_refl _, Nat.le_refl _⟩ dL_text_509) (fun H locs hM hA hS => ?_)
  have hM : mm_P G kR 731 M H := hM
  refine lv_bipush (v := (-6)) hx hb dL_text_512 (by decide) ?_
  refine lv_icmp_eq (tgt := 519) hx hb dL_text_514 (by decide) (fun c3 => ?_) (fun c3 => ?_)
  · have heq := if_t c3 heq
    obtain ⟨y4, ey4⟩ : ∃ y : Int32, y = (v5 + 1) := ⟨_, rfl⟩
    have heq := lt_to ey4 heq
    refine lv_iinc (v := y4) (lv' := [(5, .int y4), (0, .ref (mm_lo G + 0)), (1, .int x1), (2, .int x2), (3, .int v3), (4, .ref b)]) hx hb dL_text_519 hl (k := 5) rfl (by rw [ey4]; rfl) (by decide) rfl (fun ls hl => ?_)
    refine lv_goto (tgt := 40) hx hb dL_text_522 (by decide) ?_
    exact hk40 _ _ _ _ _ _ _ hM hA hS (lv_sub hl [1, 2, 3, 4, 5, 0] rfl) heq
  · have heq := if_f c3 heq
    refine lv_iconst (v := 0) hx hb dL_text_517 (by decide) ?_
    cases heq
    exact mm_zret C hM hS dL_text_518

set_option maxRecDepth 100000 in
set_option maxHeartbeats 4000000 in
theorem tL_text_384 (C : mm_C G p s m args meth c RL cL_text 10 (some .boolean)) (x1 : Int32) (x2 : Int32) {b : Nat} (hb0 : mm_lo G + 731 ≤ b) (hb1 : G.2.2 4 ≤ b) {r : Bool} {M9 : mm_M} {k40 : mm_M → (Nat → Int32) → Int32 → Int32 → Option (Bool × mm_M)} (hk40 : ∀ (M : mm_M) (F : (Nat → Int32)) (v3 : Int32) (v5 : Int32) (H : Heap) (locs : List Loc) (ls : Array Slot), mm_P G kR 731 M H → mm_Ar G b 40 F H → va_S (mm_A G) s.heap H locs → lv_has ls 10 [(0, .ref (mm_lo G + 0)), (1, .int x1), (2, .int x2), (3, .int v3), (4, .ref b), (5, .int v5)] → k40 M F v3 v5 = some (r, M9) → W p l e rmL_text s m args below meth c H locs 1 40 (MQ below (mm_Qi G (b2i r) (kR, 731, M9)) args s 1 40 (mm_A G)) (F0 m 40 ls [])) : ∀ (M : mm_M) (F : (Nat → Int32)) (v3 : Int32) (v5 : Int32) (v8 : Int32) (H : Heap) (locs : List Loc) (ls : Array Slot), mm_P G kR 731 M H → mm_Ar G b 40 F H → va_S (mm_A G) s.heap H locs → lv_has ls 10 [(0, .ref (mm_lo G + 0)), (1, .int x1), (2, .int x2), (3, .int v3), (4, .ref b), (5, .int v5), (8, .int v8)] → fL_text_384 x1 x2 k40 M F v3 v5 v8 = some (r, M9) → W p l e rmL_text s m args below meth c H locs 1 40 (MQ below (mm_Qi G (b2i r) (kR, 731, M9)) args s 1 40 (mm_A G)) (F0 m 384 ls []) := by
  obtain ⟨hx, hb, -, -, -, -, -, -, hZ, -⟩ := id C
  intro M F v3 v5 v8 H locs ls hM hA hS hl heq
  rw [fL_text_384] at heq
  refine lv_aload hx hb dL_text_384 (lv_at hl 4 rfl) ?_
  refine lv_iload hx hb dL_text_386 (lv_at hl 6 rfl) ?_
  refine lv_iconst (v := 4) hx hb dL_text_388 (by decide) ?_
  refine lv_iadd hx hb dL_text_389 ?_
  obtain ⟨g1, heq⟩ := gd_of heq
  refine ar_ld C hA (vp_in_of2 g1) dL_text_390 ?_
  refine lv_iconst (v := 2) hx hb dL_text_391 (by decide) ?_
  refine lv_icmp_le (tgt := 508) hx hb dL_text_392 (by decide) (fun c2 => ?_) (fun c2 => ?_)
  · have heq := if_t c2 heq
    exact tL_text_508 C x1 x2 hb0 hb1 hk40 _ _ _ _ _ _ _ hM hA hS (lv_sub hl [0, 1, 2, 3, 4, 5] rfl) heq
  · have heq := if_f c2 heq
    refine lv_aload_n hx hb dL_text_395 rfl (lv_at hl 0 rfl) ?_
    refine lv_bipush (v := 48) hx hb dL_text_396 (by decide) ?_
    refine lv_aload hx hb dL_text_398 (lv_at hl 4 rfl) ?_
    refine lv_iload hx hb dL_text_400 (lv_at hl 6 rfl) ?_
    refine lv_iconst (v := 2) hx hb dL_text_402 (by decide) ?_
    refine lv_iadd hx hb dL_text_403 ?_
    obtain ⟨g3, heq⟩ := gd_of heq
    refine ar_ld C hA (vp_in_of2 g3) dL_text_404 ?_
    refine lv_aload hx hb dL_text_405 (lv_at hl 4 rfl) ?_
    refine lv_iload hx hb dL_text_407 (lv_at hl 6 rfl) ?_
    refine lv_iconst (v := 3) hx hb dL_text_409 (by decide) ?_
    refine lv_iadd hx hb dL_text_410 ?_
    obtain ⟨g4, heq⟩ := gd_of heq
    refine ar_ld C hA (vp_in_of2 g4) dL_text_411 ?_
    refine lv_iadd hx hb dL_text_412 ?_
    refine lv_bipush (v := 10) hx hb dL_text_413 (by decide) ?_
    refine lv_irem hx hb dL_text_415 (by decide) ?_
    refine lv_iadd hx hb dL_text_416 ?_
    refine lv_i2l hx hb dL_text_417 rfl ?_
    obtain ⟨r6, M7, e5, heq⟩ := bn2_of heq
    refine mm_kih hA hS hb0 hb1 (mm_runVh (o := 0) (rest := []) C hM hS hb1 (tX6_put l (gH G (b + 1)) M ((48 + (((F (v8 + 2).toNatClampNeg) + (F (v8 + 3).toNatClampNeg)) - ((F (v8 + 2).toNatClampNeg) + (F (v8 + 3).toNatClampNeg)) / 10 * 10)).toInt64) r6 M7 e5) (uL_103 _ (Nat.le_of_ble_eq_true rfl) (Nat.le_of_ble_eq_true rfl)) (mm_recv C hM (kl (rfl : kT 0 = (5, 0))) (ci := 5) rfl (mm_e5 (rfl : kT 0 = (5, 0)))) hl.1 rfl rfl (Nat.le_of_ble_eq_true rfl) ⟨Nat.le_refl _, Nat.le_refl _⟩ dL_text_418) (fun H locs hM hA hS => ?_)
    have hM : mm_P G kR 731 M7 H := hM
    refine lv_pop hx hb dL_text_421 rfl ?_
    refine lv_goto (tgt := 508) hx hb dL_text_422 (by decide) ?_
    exact tL_text_508 C x1 x2 hb0 hb1 hk40 _ _ _ _ _ _ _ hM hA hS (lv_sub hl [0, 1, 2, 3, 4, 5] rfl) heq

set_option maxRecDepth 100000 in
set_option maxHeartbeats 4000000 in
theorem tL_text_357 (C : mm_C G p s m args meth c RL cL_text 10 (some .boolean)) (x1 : Int32) (x2 : Int32) {b : Nat} (hb0 : mm_lo G + 731 ≤ b) (hb1 : G.2.2 4 ≤ b) {r : Bool} {M9 : mm_M} {k40 : mm_M → (Nat → Int32) → Int32 → Int32 → Option (Bool × mm_M)} (hk40 : ∀ (M : mm_M) (F : (Nat → Int32)) (v3 : Int32) (v5 : Int32) (H : Heap) (locs : List Loc) (ls : Array Slot), mm_P G kR 731 M H → mm_Ar G b 40 F H → va_S (mm_A G) s.heap H locs → lv_has ls 10 [(0, .ref (mm_lo G + 0)), (1, .int x1), (2, .int x2), (3, .int v3), (4, .ref b), (5, .int v5)] → k40 M F v3 v5 = some (r, M9) → W p l e rmL_text s m args below meth c H locs 1 40 (MQ below (mm_Qi G (b2i r) (kR, 731, M9)) args s 1 40 (mm_A G)) (F0 m 40 ls [])) : ∀ (M : mm_M) (F : (Nat → Int32)) (v3 : Int32) (v5 : Int32) (v8 : Int32) (H : Heap) (locs : List Loc) (ls : Array Slot), mm_P G kR 731 M H → mm_Ar G b 40 F H → va_S (mm_A G) s.heap H locs → lv_has ls 10 [(0, .ref (mm_lo G + 0)), (1, .int x1), (2, .int x2), (3, .int v3), (4, .ref b), (5, .int v5), (8, .int v8)] → fL_text_357 x1 x2 k40 M F v3 v5 v8 = some (r, M9) → W p l e rmL_text s m args below meth c H locs 1 40 (MQ below (mm_Qi G (b2i r) (kR, 731, M9)) args s 1 40 (mm_A G)) (F0 m 357 ls []) := by
  obtain ⟨hx, hb, -, -, -, -, -, -, hZ, -⟩ := id C
  intro M F v3 v5 v8 H locs ls hM hA hS hl heq
  rw [fL_text_357] at heq
  refine lv_aload hx hb dL_text_357 (lv_at hl 4 rfl) ?_
  refine lv_iload hx hb dL_text_359 (lv_at hl 6 rfl) ?_
  refine lv_iconst (v := 4) hx hb dL_text_361 (by decide) ?_
  refine lv_iadd hx hb dL_text_362 ?_
  obtain ⟨g1, heq⟩ := gd_of heq
  refine ar_ld C hA (vp_in_of2 g1) dL_text_363 ?_
  refine lv_iconst (v := 1) hx hb dL_text_364 (by decide) ?_
  refine lv_icmp_le (tgt := 384) hx hb dL_text_365 (by decide) (fun c2 => ?_) (fun c2 => ?_)
  · have heq := if_t c2 heq
    exact tL_text_384 C x1 x2 hb0 hb1 hk40 _ _ _ _ _ _ _ _ hM hA hS (lv_sub hl [0, 1, 2, 3, 4, 5, 6] rfl) heq
  · have heq := if_f c2 heq
    refine lv_aload_n hx hb dL_text_368 rfl (lv_at hl 0 rfl) ?_
    refine lv_bipush (v := 48) hx hb dL_text_369 (by decide) ?_
    refine lv_aload hx hb dL_text_371 (lv_at hl 4 rfl) ?_
    refine lv_iload hx hb dL_text_373 (lv_at hl 6 rfl) ?_
    refine lv_iconst (v := 3) hx hb dL_text_375 (by decide) ?_
    refine lv_iadd hx hb dL_text_376 ?_
    obtain ⟨g3, heq⟩ := gd_of heq
    refine ar_ld C hA (vp_in_of2 g3) dL_text_377 ?_
    refine lv_iadd hx hb dL_text_378 ?_
    refine lv_i2l hx hb dL_text_379 rfl ?_
    obtain ⟨r5, M6, e4, heq⟩ := bn2_of heq
    refine mm_kih hA hS hb0 hb1 (mm_runVh (o := 0) (rest := []) C hM hS hb1 (tX6_put l (gH G (b + 1)) M ((48 + (F (v8 + 3).toNatClampNeg)).toInt64) r5 M6 e4) (uL_103 _ (Nat.le_of_ble_eq_true rfl) (Nat.le_of_ble_eq_true rfl)) (mm_recv C hM (kl (rfl : kT 0 = (5, 0))) (ci := 5) rfl (mm_e5 (rfl : kT 0 = (5, 0)))) hl.1 rfl rfl (Nat.le_of_ble_eq_true rfl) ⟨Nat.le_refl _, Nat.le_refl _⟩ dL_text_380) (fun H locs hM hA hS => ?_)
    have hM : mm_P G kR 731 M6 H := hM
    refine lv_pop hx hb dL_text_383 rfl ?_
    exact tL_text_384 C x1 x2 hb0 hb1 hk40 _ _ _ _ _ _ _ _ hM hA hS (lv_sub hl [0, 1, 2, 3, 4, 5, 6] rfl) heq

set_option maxRecDepth 100000 in
set_option maxHeartbeats 4000000 in
theorem tL_text_312 (C : mm_C G p s m args meth c RL cL_text 10 (some .boolean)) (x1 : Int32) (x2 : Int32) {b : Nat} (hb0 : mm_lo G + 731 ≤ b) (hb1 : G.2.2 4 ≤ b) {r : Bool} {M9 : mm_M} {k40 : mm_M → (Nat → Int32) → Int32 → Int32 → Option (Bool × mm_M)} (hk40 : ∀ (M : mm_M) (F : (Nat → Int32)) (v3 : Int32) (v5 : Int32) (H : Heap) (locs : List Loc) (ls : Array Slot), mm_P G kR 731 M H → mm_Ar G b 40 F H → va_S (mm_A G) s.heap H locs → lv_has ls 10 [(0, .ref (mm_lo G + 0)), (1, .int x1), (2, .int x2), (3, .int v3), (4, .ref b), (5, .int v5)] → k40 M F v3 v5 = some (r, M9) → W p l e rmL_text s m args below meth c H locs 1 40 (MQ below (mm_Qi G (b2i r) (kR, 731, M9)) args s 1 40 (mm_A G)) (F0 m 40 ls [])) : ∀ (M : mm_M) (F : (Nat → Int32)) (v3 : Int32) (v5 : Int32) (v8 : Int32) (H : Heap) (locs : List Loc) (ls : Array Slot), mm_P G kR 731 M H → mm_Ar G b 40 F H → va_S (mm_A G) s.heap H locs → lv_has ls 10 [(0, .ref (mm_lo G + 0)), (1, .int x1), (2, .int x2), (3, .int v3), (4, .ref b), (5, .int v5), (8, .int v8)] → fL_text_312 x1 x2 k40 M F v3 v5 v8 = some (r, M9) → W p l e rmL_text s m args below meth c H locs 1 40 (MQ below (mm_Qi G (b2i r) (kR, 731, M9)) args s 1 40 (mm_A G)) (F0 m 312 ls []) := by
  obtain ⟨hx, hb, -, -, -, -, -, -, hZ, -⟩ := id C
  intro M F v3 v5 v8 H locs ls hM hA hS hl heq
  rw [fL_text_312] at heq
  refine lv_aload hx hb dL_text_312 (lv_at hl 4 rfl) ?_
  refine lv_iload hx hb dL_text_314 (lv_at hl 6 rfl) ?_
  obtain ⟨g1, heq⟩ := gd_of heq
  refine ar_ld C hA (vp_in_of2 g1) dL_text_316 ?_
  refine lv_if_ne (tgt := 425) hx hb dL_text_317 (by decide) (fun c2 => ?_) (fun c2 => ?_)
  · have heq := if_f c2 heq
    refine lv_aload hx hb dL_text_425 (lv_at hl 4 rfl) ?_
    refine lv_iload hx hb dL_text_427 (lv_at hl 6 rfl) ?_
    refine ar_ld C hA (vp_in_of2 g1) dL_text_429 ?_
    refine lv_iconst (v := 1) hx hb dL_text_430 (by decide) ?_
    refine lv_icmp_ne (tgt := 468) hx hb dL_text_431 (by decide) (fun c3 => ?_) (fun c3 => ?_)
    · have heq := if_f c3 heq
      refine lv_aload hx hb dL_text_468 (lv_at hl 4 rfl) ?_
      refine lv_iload hx hb dL_text_470 (lv_at hl 6 rfl) ?_
      refine ar_ld C hA (vp_in_of2 g1) dL_text_472 ?_
      refine lv_iconst (v := 3) hx hb dL_text_473 (by decide) ?_
      refine lv_icmp_ne (tgt := 508) hx hb dL_text_474 (by decide) (fun c4 => ?_) (fun c4 => ?_)
      · have heq := if_f c4 heq
        exact tL_text_508 C x1 x2 hb0 hb1 hk40 _ _ _ _ _ _ _ hM hA hS (lv_sub hl [0, 1, 2, 3, 4, 5] rfl) heq
      · have heq := if_t c4 heq
        refine lv_aload_n hx hb dL_text_477 rfl (lv_at hl 0 rfl) ?_
        obtain ⟨r6, e5, heq⟩ := bn_of heq
        refine mm_kih hA hS hb0 hb1 (mm_runVh (o := 0) (rest := []) C hM hS hb1 (tX6_fault l (gH G (b + 1)) M r6 e5) (uL_111 _ (Nat.le_of_ble_eq_true rfl) (Nat.le_of_ble_eq_true rfl)) (mm_recv C hM (kl (rfl : kT 0 = (5, 0))) (ci := 5) rfl (mm_e5 (rfl : kT 0 = (5, 0)))) hl.1 rfl rfl (Nat.le_of_ble_eq_true rfl) ⟨Nat.le_refl _, Nat.le_refl _⟩ dL_text_478) (fun H locs hM hA hS => ?_)
        have hM : mm_P G kR 731 M H := hM
        refine lv_aload_n hx hb dL_text_481 rfl (lv_at hl 0 rfl) ?_
        refine lv_bipush (v := 6) hx hb dL_text_482 (by decide) ?_
        obtain ⟨r8, e7, heq⟩ := bn_of heq
        refine mm_kih hA hS hb0 hb1 (mm_runVh (o := 0) (rest := [.int r6]) C hM hS hb1 (tX6_count l (gH G (b + 1)) M 6 r8 e7) (uL_60 _ (Nat.le_of_ble_eq_true rfl) (Nat.le_of_ble_eq_true rfl)) (mm_recv C hM (kl (rfl : kT 0 = (5, 0))) (ci := 5) rfl (mm_e5 (rfl : kT 0 = (5, 0)))) hl.1 rfl rfl (Nat.le_of_ble_eq_true rfl) ⟨Nat.le_refl _, Nat.le_refl _⟩ dL_text_484) (fun H locs hM hA hS => ?_)
        have hM : mm_P G kR 731 M H := hM
        refine lv_icmp_eq (tgt := 492) hx hb dL_text_487 (by decide) (fun c9 => ?_) (fun c9 => ?_)
        · have heq := if_t c9 heq
          refine lv_aload_n hx hb dL_text_492 rfl (lv_at hl 0 rfl) ?_
          refine lv_bipush (v := 65) hx hb dL_text_493 (by decide) ?_
          refine lv_aload hx hb dL_text_495 (lv_at hl 4 rfl) ?_
          refine lv_iload hx hb dL_text_497 (lv_at hl 6 rfl) ?_
          refine lv_iconst (v := 3) hx hb dL_text_499 (by decide) ?_
          refine lv_iadd hx hb dL_text_500 ?_
          obtain ⟨g10, heq⟩ := gd_of heq
          refine ar_ld C hA (vp_in_of2 g10) dL_text_501 ?_
          refine lv_iadd hx hb dL_text_502 ?_
          refine lv_i2l hx hb dL_text_503 rfl ?_
          obtain ⟨r12, M13, e11, heq⟩ := bn2_of heq
          refine mm_kih hA hS hb0 hb1 (mm_runVh (o := 0) (rest := []) C hM hS hb1 (tX6_put l (gH G (b + 1)) M ((65 + (F (v8 + 3).toNatClampNeg)).toInt64) r12 M13 e11) (uL_103 _ (Nat.le_of_ble_eq_true rfl) (Nat.le_of_ble_eq_true rfl)) (mm_recv C hM (kl (rfl : kT 0 = (5, 0))) (ci := 5) rfl (mm_e5 (rfl : kT 0 = (5, 0)))) hl.1 rfl rfl (Nat.le_of_ble_eq_true rfl) ⟨Nat.le_refl _, Nat.le_refl _⟩ dL_text_504) (fun H locs hM hA hS => ?_)
          have hM : mm_P G kR 731 M13 H := hM
          refine lv_pop hx hb dL_text_507 rfl ?_
          exact tL_text_508 C x1 x2 hb0 hb1 hk40 _ _ _ _ _ _ _ hM hA hS (lv_sub hl [0, 1, 2, 3, 4, 5] rfl) heq
        · have heq := if_f c9 heq
          refine lv_iconst (v := 0) hx hb dL_text_490 (by decide) ?_
          cases heq
          exact mm_zret C hM hS dL_text_491
    · have heq := if_t c3 heq
      refine lv_aload_n hx hb dL_text_434 rfl (lv_at hl 0 rfl) ?_
      obtain ⟨r15, e14, heq⟩ := bn_of heq
      refine mm_kih hA hS hb0 hb1 (mm_runVh (o := 0) (rest := []) C hM hS hb1 (tX6_fault l (gH G (b + 1)) M r15 e14) (uL_111 _ (Nat.le_of_ble_eq_true rfl) (Nat.le_of_ble_eq_true rfl)) (mm_recv C hM (kl (rfl : kT 0 = (5, 0))) (ci := 5) rfl (mm_e5 (rfl : kT 0 = (5, 0)))) hl.1 rfl rfl (Nat.le_of_ble_eq_true rfl) ⟨Nat.le_refl _, Nat.le_refl _⟩ dL_text_435) (fun H locs hM hA hS => ?_)
      have hM : mm_P G kR 731 M H := hM
      refine lv_aload_n hx hb dL_text_438 rfl (lv_at hl 0 rfl) ?_
      refine lv_bipush (v := 6) hx hb dL_text_439 (by decide) ?_
      obtain ⟨r17, e16, heq⟩ := bn_of heq
      refine mm_kih hA hS hb0 hb1 (mm_runVh (o := 0) (rest := [.int r15]) C hM hS hb1 (tX6_count l (gH G (b + 1)) M 6 r17 e16) (uL_60 _ (Nat.le_of_ble_eq_true rfl) (Nat.le_of_ble_eq_true rfl)) (mm_recv C hM (kl (rfl : kT 0 = (5, 0))) (ci := 5) rfl (mm_e5 (rfl : kT 0 = (5, 0)))) hl.1 rfl rfl (Nat.le_of_ble_eq_true rfl) ⟨Nat.le_refl _, Nat.le_refl _⟩ dL_text_441) (fun H locs hM hA hS => ?_)
      have hM : mm_P G kR 731 M H := hM
      refine lv_icmp_eq (tgt := 449) hx hb dL_text_444 (by decide) (fun c18 => ?_) (fun c18 => ?_)
      · have heq := if_t c18 heq
        refine lv_aload_n hx hb dL_text_449 rfl (lv_at hl 0 rfl) ?_
        refine lv_bipush (v := 49) hx hb dL_text_450 (by decide) ?_
        refine lv_aload hx hb dL_text_452 (lv_at hl 4 rfl) ?_
        refine lv_iload hx hb dL_text_454 (lv_at hl 6 rfl) ?_
        refine lv_iconst (v := 2) hx hb dL_text_456 (by decide) ?_
        refine lv_iadd hx hb dL_text_457 ?_
        obtain ⟨g19, heq⟩ := gd_of heq
        refine ar_ld C hA (vp_in_of2 g19) dL_text_458 ?_
        refine lv_iadd hx hb dL_text_459 ?_
        refine lv_i2l hx hb dL_text_460 rfl ?_
        obtain ⟨r21, M22, e20, heq⟩ := bn2_of heq
        refine mm_kih hA hS hb0 hb1 (mm_runVh (o := 0) (rest := []) C hM hS hb1 (tX6_put l (gH G (b + 1)) M ((49 + (F (v8 + 2).toNatClampNeg)).toInt64) r21 M22 e20) (uL_103 _ (Nat.le_of_ble_eq_true rfl) (Nat.le_of_ble_eq_true rfl)) (mm_recv C hM (kl (rfl : kT 0 = (5, 0))) (ci := 5) rfl (mm_e5 (rfl : kT 0 = (5, 0)))) hl.1 rfl rfl (Nat.le_of_ble_eq_true rfl) ⟨Nat.le_refl _, Nat.le_refl _⟩ dL_text_461) (fun H locs hM hA hS => ?_)
        have hM : mm_P G kR 731 M22 H := hM
        refine lv_pop hx hb dL_text_464 rfl ?_
        refine lv_goto (tgt := 508) hx hb dL_text_465 (by decide) ?_
        exact tL_text_508 C x1 x2 hb0 hb1 hk40 _ _ _ _ _ _ _ hM hA hS (lv_sub hl [0, 1, 2, 3, 4, 5] rfl) heq
      · have heq := if_f c18 heq
        refine lv_iconst (v := 0) hx hb dL_text_447 (by decide) ?_
        cases heq
        exact mm_zret C hM hS dL_text_448
  · have heq := if_t c2 heq
    refine lv_aload_n hx hb dL_text_320 rfl (lv_at hl 0 rfl) ?_
    obtain ⟨r24, e23, heq⟩ := bn_of heq
    refine mm_kih hA hS hb0 hb1 (mm_runVh (o := 0) (rest := []) C hM hS hb1 (tX6_fault l (gH G (b + 1)) M r24 e23) (uL_111 _ (Nat.le_of_ble_eq_true rfl) (Nat.le_of_ble_eq_true rfl)) (mm_recv C hM (kl (rfl : kT 0 = (5, 0))) (ci := 5) rfl (mm_e5 (rfl : kT 0 = (5, 0)))) hl.1 rfl rfl (Nat.le_of_ble_eq_true rfl) ⟨Nat.le_refl _, Nat.le_refl _⟩ dL_text_321) (fun H locs hM hA hS => ?_)
    have hM : mm_P G kR 731 M H := hM
    refine lv_bipush (v := (-6)) hx hb dL_text_324 (by decide) ?_
    refine lv_icmp_eq (tgt := 331) hx hb dL_text_326 (by decide) (fun c25 => ?_) (fun c25 => ?_)
    · have heq := if_t c25 heq
      refine lv_aload hx hb dL_text_331 (lv_at hl 4 rfl) ?_
      refine lv_iload hx hb dL_text_333 (lv_at hl 6 rfl) ?_
      refine lv_iconst (v := 4) hx hb dL_text_335 (by decide) ?_
      refine lv_iadd hx hb dL_text_336 ?_
      obtain ⟨g26, heq⟩ := gd_of heq
      refine ar_ld C hA (vp_in_of2 g26) dL_text_337 ?_
      refine lv_if_le (tgt := 357) hx hb dL_text_338 (by decide) (fun c27 => ?_) (fun c27 => ?_)
      · have heq := if_t c27 heq
        exact tL_text_357 C x1 x2 hb0 hb1 hk40 _ _ _ _ _ _ _ _ hM hA hS (lv_sub hl [0, 1, 2, 3, 4, 5, 6] rfl) heq
      · have heq := if_f c27 heq
        refine lv_aload_n hx hb dL_text_341 rfl (lv_at hl 0 rfl) ?_
        refine lv_bipush (v := 48) hx hb dL_text_342 (by decide) ?_
        refine lv_aload hx hb dL_text_344 (lv_at hl 4 rfl) ?_
        refine lv_iload hx hb dL_text_346 (lv_at hl 6 rfl) ?_
        refine lv_iconst (v := 2) hx hb dL_text_348 (by decide) ?_
        refine lv_iadd hx hb dL_text_349 ?_
        obtain ⟨g28, heq⟩ := gd_of heq
        refine ar_ld C hA (vp_in_of2 g28) dL_text_350 ?_
        refine lv_iadd hx hb dL_text_351 ?_
        refine lv_i2l hx hb dL_text_352 rfl ?_
        obtain ⟨r30, M31, e29, heq⟩ := bn2_of heq
        refine mm_kih hA hS hb0 hb1 (mm_runVh (o := 0) (rest := []) C hM hS hb1 (tX6_put l (gH G (b + 1)) M ((48 + (F (v8 + 2).toNatClampNeg)).toInt64) r30 M31 e29) (uL_103 _ (Nat.le_of_ble_eq_true rfl) (Nat.le_of_ble_eq_true rfl)) (mm_recv C hM (kl (rfl : kT 0 = (5, 0))) (ci := 5) rfl (mm_e5 (rfl : kT 0 = (5, 0)))) hl.1 rfl rfl (Nat.le_of_ble_eq_true rfl) ⟨Nat.le_refl _, Nat.le_refl _⟩ dL_text_353) (fun H locs hM hA hS => ?_)
        have hM : mm_P G kR 731 M31 H := hM
        refine lv_pop hx hb dL_text_356 rfl ?_
        exact tL_text_357 C x1 x2 hb0 hb1 hk40 _ _ _ _ _ _ _ _ hM hA hS (lv_sub hl [0, 1, 2, 3, 4, 5, 6] rfl) heq
    · have heq := if_f c25 heq
      refine lv_iconst (v := 0) hx hb dL_text_329 (by decide) ?_
      cases heq
      exact mm_zret C hM hS dL_text_330

set_option maxRecDepth 100000 in
set_option maxHeartbeats 4000000 in
theorem tL_text_254 (C : mm_C G p s m args meth c RL cL_text 10 (some .boolean)) (x1 : Int32) (x2 : Int32) {b : Nat} (hb0 : mm_lo G + 731 ≤ b) (hb1 : G.2.2 4 ≤ b) {r : Bool} {M9 : mm_M} {k40 : mm_M → (Nat → Int32) → Int32 → Int32 → Option (Bool × mm_M)} (hk40 : ∀ (M : mm_M) (F : (Nat → Int32)) (v3 : Int32) (v5 : Int32) (H : Heap) (locs : List Loc) (ls : Array Slot), mm_P G kR 731 M H → mm_Ar G b 40 F H → va_S (mm_A G) s.heap H locs → lv_has ls 10 [(0, .ref (mm_lo G + 0)), (1, .int x1), (2, .int x2), (3, .int v3), (4, .ref b), (5, .int v5)] → k40 M F v3 v5 = some (r, M9) → W p l e rmL_text s m args below meth c H locs 1 40 (MQ below (mm_Qi G (b2i r) (kR, 731, M9)) args s 1 40 (mm_A G)) (F0 m 40 ls [])) : ∀ (M : mm_M) (F : (Nat → Int32)) (v3 : Int32) (v5 : Int32) (v8 : Int32) (t1 : Int64) (H : Heap) (locs : List Loc) (ls : Array Slot), mm_P G kR 731 M H → mm_Ar G b 40 F H → va_S (mm_A G) s.heap H locs → lv_has ls 10 [(0, .ref (mm_lo G + 0)), (1, .int x1), (2, .int x2), (3, .int v3), (4, .ref b), (5, .int v5), (8, .int v8)] → fL_text_254 x1 x2 k40 M F v3 v5 v8 t1 = some (r, M9) → W p l e rmL_text s m args below meth c H locs 1 40 (MQ below (mm_Qi G (b2i r) (kR, 731, M9)) args s 1 40 (mm_A G)) (F0 m 254 ls [.long t1, .ref (mm_lo G + 0)]) := by
  obtain ⟨hx, hb, -, -, -, -, -, -, hZ, -⟩ := id C
  intro M F v3 v5 v8 t1 H locs ls hM hA hS hl heq
  rw [fL_text_254] at heq
  obtain ⟨r2, M3, e1, heq⟩ := bn2_of heq
  refine mm_kih hA hS hb0 hb1 (mm_runVh (o := 0) (rest := []) C hM hS hb1 (tX6_put l (gH G (b + 1)) M t1 r2 M3 e1) (uL_103 _ (Nat.le_of_ble_eq_true rfl) (Nat.le_of_ble_eq_true rfl)) (mm_recv C hM (kl (rfl : kT 0 = (5, 0))) (ci := 5) rfl (mm_e5 (rfl : kT 0 = (5, 0)))) hl.1 rfl rfl (Nat.le_of_ble_eq_true rfl) ⟨Nat.le_refl _, Nat.le_refl _⟩ dL_text_254) (fun H locs hM hA hS => ?_)
  have hM : mm_P G kR 731 M3 H := hM
  refine lv_pop hx hb dL_text_257 rfl ?_
  refine lv_aload_n hx hb dL_text_258 rfl (lv_at hl 0 rfl) ?_
  obtain ⟨r5, e4, heq⟩ := bn_of heq
  refine mm_kih hA hS hb0 hb1 (mm_runVh (o := 0) (rest := []) C hM hS hb1 (tX6_fault l (gH G (b + 1)) M3 r5 e4) (uL_111 _ (Nat.le_of_ble_eq_true rfl) (Nat.le_of_ble_eq_true rfl)) (mm_recv C hM (kl (rfl : kT 0 = (5, 0))) (ci := 5) rfl (mm_e5 (rfl : kT 0 = (5, 0)))) hl.1 rfl rfl (Nat.le_of_ble_eq_true rfl) ⟨Nat.le_refl _, Nat.le_refl _⟩ dL_text_259) (fun H locs hM hA hS => ?_)
  have hM : mm_P G kR 731 M3 H := hM
  refine lv_aload_n hx hb dL_text_262 rfl (lv_at hl 0 rfl) ?_
  refine lv_bipush (v := 6) hx hb dL_text_263 (by decide) ?_
  obtain ⟨r7, e6, heq⟩ := bn_of heq
  refine mm_kih hA hS hb0 hb1 (mm_runVh (o := 0) (rest := [.int r5]) C hM hS hb1 (tX6_count l (gH G (b + 1)) M3 6 r7 e6) (uL_60 _ (Nat.le_of_ble_eq_true rfl) (Nat.le_of_ble_eq_true rfl)) (mm_recv C hM (kl (rfl : kT 0 = (5, 0))) (ci := 5) rfl (mm_e5 (rfl : kT 0 = (5, 0)))) hl.1 rfl rfl (Nat.le_of_ble_eq_true rfl) ⟨Nat.le_refl _, Nat.le_refl _⟩ dL_text_265) (fun H locs hM hA hS => ?_)
  have hM : mm_P G kR 731 M3 H := hM
  refine lv_icmp_eq (tgt := 273) hx hb dL_text_268 (by decide) (fun c8 => ?_) (fun c8 => ?_)
  · have heq := if_t c8 heq
    refine lv_aload hx hb dL_text_273 (lv_at hl 4 rfl) ?_
    refine lv_iload hx hb dL_text_275 (lv_at hl 6 rfl) ?_
    obtain ⟨g9, heq⟩ := gd_of heq
    refine ar_ld C hA (vp_in_of2 g9) dL_text_277 ?_
    refine lv_iconst (v := 4) hx hb dL_text_278 (by decide) ?_
    refine lv_icmp_ne (tgt := 296) hx hb dL_text_279 (by decide) (fun c10 => ?_) (fun c10 => ?_)
    · have heq := if_f c10 heq
      refine lv_aload_n hx hb dL_text_296 rfl (lv_at hl 0 rfl) ?_
      refine lv_bipush (v := 65) hx hb dL_text_297 (by decide) ?_
      refine lv_aload hx hb dL_text_299 (lv_at hl 4 rfl) ?_
      refine lv_iload hx hb dL_text_301 (lv_at hl 6 rfl) ?_
      refine lv_iconst (v := 1) hx hb dL_text_303 (by decide) ?_
      refine lv_iadd hx hb dL_text_304 ?_
      obtain ⟨g11, heq⟩ := gd_of heq
      refine ar_ld C hA (vp_in_of2 g11) dL_text_305 ?_
      refine lv_iadd hx hb dL_text_306 ?_
      refine lv_i2l hx hb dL_text_307 rfl ?_
      obtain ⟨r13, M14, e12, heq⟩ := bn2_of heq
      refine mm_kih hA hS hb0 hb1 (mm_runVh (o := 0) (rest := []) C hM hS hb1 (tX6_put l (gH G (b + 1)) M3 ((65 + (F (v8 + 1).toNatClampNeg)).toInt64) r13 M14 e12) (uL_103 _ (Nat.le_of_ble_eq_true rfl) (Nat.le_of_ble_eq_true rfl)) (mm_recv C hM (kl (rfl : kT 0 = (5, 0))) (ci := 5) rfl (mm_e5 (rfl : kT 0 = (5, 0)))) hl.1 rfl rfl (Nat.le_of_ble_eq_true rfl) ⟨Nat.le_refl _, Nat.le_refl _⟩ dL_text_308) (fun H locs hM hA hS => ?_)
      have hM : mm_P G kR 731 M14 H := hM
      refine lv_pop hx hb dL_text_311 rfl ?_
      exact tL_text_312 C x1 x2 hb0 hb1 hk40 _ _ _ _ _ _ _ _ hM hA hS (lv_sub hl [0, 1, 2, 3, 4, 5, 6] rfl) heq
    · have heq := if_t c10 heq
      refine lv_aload_n hx hb dL_text_282 rfl (lv_at hl 0 rfl) ?_
      refine lv_aload hx hb dL_text_283 (lv_at hl 4 rfl) ?_
      refine lv_iload hx hb dL_text_285 (lv_at hl 6 rfl) ?_
      refine lv_iconst (v := 2) hx hb dL_text_287 (by decide) ?_
      refine lv_iadd hx hb dL_text_288 ?_
      obtain ⟨g15, heq⟩ := gd_of heq
      refine ar_ld C hA (vp_in_of2 g15) dL_text_289 ?_
      obtain ⟨M17, e16, heq⟩ := bn_of heq
      refine mm_kvh hA hS hb0 hb1 (mm_runSh (rest := []) C hM hS hb1 (tL_number l (gH G (b + 1)) M3 (F (v8 + 2).toNatClampNeg) M17 e16) (uL_129 _ (Nat.le_of_ble_eq_true rfl) (Nat.le_of_ble_eq_true rfl)) hl.1 rfl rfl (Nat.le_of_ble_eq_true rfl) ⟨Nat.le_refl _, Nat.le_refl _⟩ dL_text_290) (fun H locs hM hA hS => ?_)
      have hM : mm_P G kR 731 M17 H := hM
      refine lv_goto (tgt := 312) hx hb dL_text_293 (by decide) ?_
      exact tL_text_312 C x1 x2 hb0 hb1 hk40 _ _ _ _ _ _ _ _ hM hA hS (lv_sub hl [0, 1, 2, 3, 4, 5, 6] rfl) heq
  · have heq := if_f c8 heq
    refine lv_iconst (v := 0) hx hb dL_text_271 (by decide) ?_
    cases heq
    exact mm_zret C hM hS dL_text_272

set_option maxRecDepth 100000 in
set_option maxHeartbeats 4000000 in
theorem tL_text_176 (C : mm_C G p s m args meth c RL cL_text 10 (some .boolean)) (x1 : Int32) (x2 : Int32) {b : Nat} (hb0 : mm_lo G + 731 ≤ b) (hb1 : G.2.2 4 ≤ b) {r : Bool} {M9 : mm_M} {k40 : mm_M → (Nat → Int32) → Int32 → Int32 → Option (Bool × mm_M)} (hk40 : ∀ (M : mm_M) (F : (Nat → Int32)) (v3 : Int32) (v5 : Int32) (H : Heap) (locs : List Loc) (ls : Array Slot), mm_P G kR 731 M H → mm_Ar G b 40 F H → va_S (mm_A G) s.heap H locs → lv_has ls 10 [(0, .ref (mm_lo G + 0)), (1, .int x1), (2, .int x2), (3, .int v3), (4, .ref b), (5, .int v5)] → k40 M F v3 v5 = some (r, M9) → W p l e rmL_text s m args below meth c H locs 1 40 (MQ below (mm_Qi G (b2i r) (kR, 731, M9)) args s 1 40 (mm_A G)) (F0 m 40 ls [])) : ∀ (M : mm_M) (F : (Nat → Int32)) (v3 : Int32) (v5 : Int32) (v8 : Int32) (H : Heap) (locs : List Loc) (ls : Array Slot), mm_P G kR 731 M H → mm_Ar G b 40 F H → va_S (mm_A G) s.heap H locs → lv_has ls 10 [(0, .ref (mm_lo G + 0)), (1, .int x1), (2, .int x2), (3, .int v3), (4, .ref b), (5, .int v5), (8, .int v8)] → fL_text_176 x1 x2 k40 M F v3 v5 v8 = some (r, M9) → W p l e rmL_text s m args below meth c H locs 1 40 (MQ below (mm_Qi G (b2i r) (kR, 731, M9)) args s 1 40 (mm_A G)) (F0 m 176 ls []) := by
  obtain ⟨hx, hb, -, -, -, -, -, -, hZ, -⟩ := id C
  intro M F v3 v5 v8 H locs ls hM hA hS hl heq
  rw [fL_text_176] at heq
  refine lv_aload_n hx hb dL_text_176 rfl (lv_at hl 0 rfl) ?_
  obtain ⟨r2, e1, heq⟩ := bn_of heq
  refine mm_kih hA hS hb0 hb1 (mm_runVh (o := 0) (rest := []) C hM hS hb1 (tX6_fault l (gH G (b + 1)) M r2 e1) (uL_111 _ (Nat.le_of_ble_eq_true rfl) (Nat.le_of_ble_eq_true rfl)) (mm_recv C hM (kl (rfl : kT 0 = (5, 0))) (ci := 5) rfl (mm_e5 (rfl : kT 0 = (5, 0)))) hl.1 rfl rfl (Nat.le_of_ble_eq_true rfl) ⟨Nat.le_refl _, Nat.le_refl _⟩ dL_text_177) (fun H locs hM hA hS => ?_)
  have hM : mm_P G kR 731 M H := hM
  refine lv_aload_n hx hb dL_text_180 rfl (lv_at hl 0 rfl) ?_
  refine lv_bipush (v := 6) hx hb dL_text_181 (by decide) ?_
  obtain ⟨r4, e3, heq⟩ := bn_of heq
  refine mm_kih hA hS hb0 hb1 (mm_runVh (o := 0) (rest := [.int r2]) C hM hS hb1 (tX6_count l (gH G (b + 1)) M 6 r4 e3) (uL_60 _ (Nat.le_of_ble_eq_true rfl) (Nat.le_of_ble_eq_true rfl)) (mm_recv C hM (kl (rfl : kT 0 = (5, 0))) (ci := 5) rfl (mm_e5 (rfl : kT 0 = (5, 0)))) hl.1 rfl rfl (Nat.le_of_ble_eq_true rfl) ⟨Nat.le_refl _, Nat.le_refl _⟩ dL_text_183) (fun H locs hM hA hS => ?_)
  have hM : mm_P G kR 731 M H := hM
  refine lv_icmp_eq (tgt := 191) hx hb dL_text_186 (by decide) (fun c5 => ?_) (fun c5 => ?_)
  · have heq := if_t c5 heq
    refine lv_aload_n hx hb dL_text_191 rfl (lv_at hl 0 rfl) ?_
    refine lv_aload hx hb dL_text_192 (lv_at hl 4 rfl) ?_
    refine lv_iload hx hb dL_text_194 (lv_at hl 6 rfl) ?_
    obtain ⟨g6, heq⟩ := gd_of heq
    refine ar_ld C hA (vp_in_of2 g6) dL_text_196 ?_
    refine lv_if_ne (tgt := 206) hx hb dL_text_197 (by decide) (fun c7 => ?_) (fun c7 => ?_)
    · have heq := if_f c7 heq
      refine lv_aload hx hb dL_text_206 (lv_at hl 4 rfl) ?_
      refine lv_iload hx hb dL_text_208 (lv_at hl 6 rfl) ?_
      refine ar_ld C hA (vp_in_of2 g6) dL_text_210 ?_
      refine lv_iconst (v := 1) hx hb dL_text_211 (by decide) ?_
      refine lv_icmp_ne (tgt := 221) hx hb dL_text_212 (by decide) (fun c8 => ?_) (fun c8 => ?_)
      · have heq := if_f c8 heq
        refine lv_aload hx hb dL_text_221 (lv_at hl 4 rfl) ?_
        refine lv_iload hx hb dL_text_223 (lv_at hl 6 rfl) ?_
        refine ar_ld C hA (vp_in_of2 g6) dL_text_225 ?_
        refine lv_iconst (v := 2) hx hb dL_text_226 (by decide) ?_
        refine lv_icmp_ne (tgt := 236) hx hb dL_text_227 (by decide) (fun c9 => ?_) (fun c9 => ?_)
        · have heq := if_f c9 heq
          refine lv_aload hx hb dL_text_236 (lv_at hl 4 rfl) ?_
          refine lv_iload hx hb dL_text_238 (lv_at hl 6 rfl) ?_
          refine ar_ld C hA (vp_in_of2 g6) dL_text_240 ?_
          refine lv_iconst (v := 3) hx hb dL_text_241 (by decide) ?_
          refine lv_icmp_ne (tgt := 251) hx hb dL_text_242 (by decide) (fun c10 => ?_) (fun c10 => ?_)
          · have heq := if_f c10 heq
            refine mm_ldc2 C kL_127 dL_text_251 ?_
            exact tL_text_254 C x1 x2 hb0 hb1 hk40 _ _ _ _ _ _ _ _ _ hM hA hS (lv_sub hl [0, 1, 2, 3, 4, 5, 6] rfl) heq
          · have heq := if_t c10 heq
            refine mm_ldc2 C kL_125 dL_text_245 ?_
            refine lv_goto (tgt := 254) hx hb dL_text_248 (by decide) ?_
            exact tL_text_254 C x1 x2 hb0 hb1 hk40 _ _ _ _ _ _ _ _ _ hM hA hS (lv_sub hl [0, 1, 2, 3, 4, 5, 6] rfl) heq
        · have heq := if_t c9 heq
          refine mm_ldc2 C kL_123 dL_text_230 ?_
          refine lv_goto (tgt := 254) hx hb dL_text_233 (by decide) ?_
          exact tL_text_254 C x1 x2 hb0 hb1 hk40 _ _ _ _ _ _ _ _ _ hM hA hS (lv_sub hl [0, 1, 2, 3, 4, 5, 6] rfl) heq
      · have heq := if_t c8 heq
        refine mm_ldc2 C kL_121 dL_text_215 ?_
        refine lv_goto (tgt := 254) hx hb dL_text_218 (by decide) ?_
        exact tL_text_254 C x1 x2 hb0 hb1 hk40 _ _ _ _ _ _ _ _ _ hM hA hS (lv_sub hl [0, 1, 2, 3, 4, 5, 6] rfl) heq
    · have heq := if_t c7 heq
      refine mm_ldc2 C kL_119 dL_text_200 ?_
      refine lv_goto (tgt := 254) hx hb dL_text_203 (by decide) ?_
      exact tL_text_254 C x1 x2 hb0 hb1 hk40 _ _ _ _ _ _ _ _ _ hM hA hS (lv_sub hl [0, 1, 2, 3, 4, 5, 6] rfl) heq
  · have heq := if_f c5 heq
    refine lv_iconst (v := 0) hx hb dL_text_189 (by decide) ?_
    cases heq
    exact mm_zret C hM hS dL_text_190

set_option maxRecDepth 100000 in
set_option maxHeartbeats 4000000 in
theorem tL_text_127 (C : mm_C G p s m args meth c RL cL_text 10 (some .boolean)) (x1 : Int32) (x2 : Int32) {b : Nat} (hb0 : mm_lo G + 731 ≤ b) (hb1 : G.2.2 4 ≤ b) {r : Bool} {M9 : mm_M} {k40 : mm_M → (Nat → Int32) → Int32 → Int32 → Option (Bool × mm_M)} (hk40 : ∀ (M : mm_M) (F : (Nat → Int32)) (v3 : Int32) (v5 : Int32) (H : Heap) (locs : List Loc) (ls : Array Slot), mm_P G kR 731 M H → mm_Ar G b 40 F H → va_S (mm_A G) s.heap H locs → lv_has ls 10 [(0, .ref (mm_lo G + 0)), (1, .int x1), (2, .int x2), (3, .int v3), (4, .ref b), (5, .int v5)] → k40 M F v3 v5 = some (r, M9) → W p l e rmL_text s m args below meth c H locs 1 40 (MQ below (mm_Qi G (b2i r) (kR, 731, M9)) args s 1 40 (mm_A G)) (F0 m 40 ls [])) : ∀ (M : mm_M) (F : (Nat → Int32)) (v3 : Int32) (v5 : Int32) (v7 : Int32) (v8 : Int32) (t1 : Int32) (t2 : Int32) (t3 : Int32) (H : Heap) (locs : List Loc) (ls : Array Slot), mm_P G kR 731 M H → mm_Ar G b 40 F H → va_S (mm_A G) s.heap H locs → lv_has ls 10 [(0, .ref (mm_lo G + 0)), (1, .int x1), (2, .int x2), (3, .int v3), (4, .ref b), (5, .int v5), (7, .int v7), (8, .int v8)] → fL_text_127 x1 x2 k40 M F v3 v5 v7 v8 t1 t2 t3 = some (r, M9) → W p l e rmL_text s m args below meth c H locs 1 40 (MQ below (mm_Qi G (b2i r) (kR, 731, M9)) args s 1 40 (mm_A G)) (F0 m 127 ls [.int t3, .int t2, .int t1, .ref b]) := by
  obtain ⟨hx, hb, -, -, -, -, -, -, hZ, -⟩ := id C
  intro M F v3 v5 v7 v8 t1 t2 t3 H locs ls hM hA hS hl heq
  rw [fL_text_127] at heq
  obtain ⟨r2, e1, heq⟩ := bn_of heq
  refine mm_kih hA hS hb0 hb1 (mm_runSh (rest := [.int t1, .ref b]) C hM hS hb1 (tL_up l (gH G (b + 1)) M t2 t3 r2 e1) (uL_23 _ (Nat.le_of_ble_eq_true rfl) (Nat.le_of_ble_eq_true rfl)) hl.1 rfl rfl (Nat.le_of_ble_eq_true rfl) ⟨Nat.le_refl _, Nat.le_refl _⟩ dL_text_127) (fun H locs hM hA hS => ?_)
  have hM : mm_P G kR 731 M H := hM
  obtain ⟨g3, heq⟩ := gd_of heq
  refine ar_st C hM hA hS hb0 hb1 (vp_in_of2 g3) rfl dL_text_130 (fun H locs hM hA hS => ?_)
  obtain ⟨F4, eF4⟩ : ∃ z : Nat → Int32, z = aS F t1.toNatClampNeg r2 := ⟨_, rfl⟩
  rw [← eF4] at hA
  have heq := lt_to eF4 heq
  refine lv_aload hx hb dL_text_131 (lv_at hl 4 rfl) ?_
  refine lv_iload hx hb dL_text_133 (lv_at hl 7 rfl) ?_
  refine lv_iconst (v := 3) hx hb dL_text_135 (by decide) ?_
  refine lv_iadd hx hb dL_text_136 ?_
  refine lv_iload hx hb dL_text_137 (lv_at hl 6 rfl) ?_
  refine lv_iconst (v := 4) hx hb dL_text_139 (by decide) ?_
  refine lv_ishr hx hb dL_text_140 ?_
  refine lv_bipush (v := 10) hx hb dL_text_141 (by decide) ?_
  obtain ⟨r6, e5, heq⟩ := bn_of heq
  refine mm_kih hA hS hb0 hb1 (mm_runSh (rest := [.int (v8 + 3), .ref b]) C hM hS hb1 (tL_up l (gH G (b + 1)) M (v7 >>> (4 &&& 31)) 10 r6 e5) (uL_23 _ (Nat.le_of_ble_eq_true rfl) (Nat.le_of_ble_eq_true rfl)) hl.1 rfl rfl (Nat.le_of_ble_eq_true rfl) ⟨Nat.le_refl _, Nat.le_refl _⟩ dL_text_143) (fun H locs hM hA hS => ?_)
  have hM : mm_P G kR 731 M H := hM
  obtain ⟨g7, heq⟩ := gd_of heq
  refine ar_st C hM hA hS hb0 hb1 (vp_in_of2 g7) rfl dL_text_146 (fun H locs hM hA hS => ?_)
  obtain ⟨F8, eF8⟩ : ∃ z : Nat → Int32, z = aS F4 (v8 + 3).toNatClampNeg r6 := ⟨_, rfl⟩
  rw [← eF8] at hA
  have heq := lt_to eF8 heq
  refine lv_aload hx hb dL_text_147 (lv_at hl 4 rfl) ?_
  refine lv_iload hx hb dL_text_149 (lv_at hl 7 rfl) ?_
  refine lv_iconst (v := 4) hx hb dL_text_151 (by decide) ?_
  refine lv_iadd hx hb dL_text_152 ?_
  refine lv_iload hx hb dL_text_153 (lv_at hl 6 rfl) ?_
  refine lv_bipush (v := 8) hx hb dL_text_155 (by decide) ?_
  refine lv_ishr hx hb dL_text_157 ?_
  refine lv_iconst (v := 4) hx hb dL_text_158 (by decide) ?_
  obtain ⟨r10, e9, heq⟩ := bn_of heq
  refine mm_kih hA hS hb0 hb1 (mm_runSh (rest := [.int (v8 + 4), .ref b]) C hM hS hb1 (tL_up l (gH G (b + 1)) M (v7 >>> (8 &&& 31)) 4 r10 e9) (uL_23 _ (Nat.le_of_ble_eq_true rfl) (Nat.le_of_ble_eq_true rfl)) hl.1 rfl rfl (Nat.le_of_ble_eq_true rfl) ⟨Nat.le_refl _, Nat.le_refl _⟩ dL_text_159) (fun H locs hM hA hS => ?_)
  have hM : mm_P G kR 731 M H := hM
  obtain ⟨g11, heq⟩ := gd_of heq
  refine ar_st C hM hA hS hb0 hb1 (vp_in_of2 g11) rfl dL_text_162 (fun H locs hM hA hS => ?_)
  obtain ⟨F12, eF12⟩ : ∃ z : Nat → Int32, z = aS F8 (v8 + 4).toNatClampNeg r10 := ⟨_, rfl⟩
  rw [← eF12] at hA
  have heq := lt_to eF12 heq
  refine lv_iload hx hb dL_text_163 (lv_at hl 5 rfl) ?_
  refine lv_if_le (tgt := 176) hx hb dL_text_165 (by decide) (fun c13 => ?_) (fun c13 => ?_)
  · have heq := if_t c13 heq
    exact tL_text_176 C x1 x2 hb0 hb1 hk40 _ _ _ _ _ _ _ _ hM hA hS (lv_sub hl [0, 1, 2, 3, 4, 5, 7] rfl) heq
  · have heq := if_f c13 heq
    refine lv_aload_n hx hb dL_text_168 rfl (lv_at hl 0 rfl) ?_
    refine mm_ldc2 C kL_117 dL_text_169 ?_
    obtain ⟨r15, M16, e14, heq⟩ := bn2_of heq
    refine mm_kih hA hS hb0 hb1 (mm_runVh (o := 0) (rest := []) C hM hS hb1 (tX6_put l (gH G (b + 1)) M (59 : Int64) r15 M16 e14) (uL_103 _ (Nat.le_of_ble_eq_true rfl) (Nat.le_of_ble_eq_true rfl)) (mm_recv C hM (kl (rfl : kT 0 = (5, 0))) (ci := 5) rfl (mm_e5 (rfl : kT 0 = (5, 0)))) hl.1 rfl rfl (Nat.le_of_ble_eq_true rfl) ⟨Nat.le_refl _, Nat.le_refl _⟩ dL_text_172) (fun H locs hM hA hS => ?_)
    have hM : mm_P G kR 731 M16 H := hM
    refine lv_pop hx hb dL_text_175 rfl ?_
    exact tL_text_176 C x1 x2 hb0 hb1 hk40 _ _ _ _ _ _ _ _ hM hA hS (lv_sub hl [0, 1, 2, 3, 4, 5, 7] rfl) heq

set_option maxRecDepth 100000 in
set_option maxHeartbeats 4000000 in
theorem tL_text_663 (C : mm_C G p s m args meth c RL cL_text 10 (some .boolean)) (x1 : Int32) (x2 : Int32) {b : Nat} (hb0 : mm_lo G + 731 ≤ b) (hb1 : G.2.2 4 ≤ b) {r : Bool} {M9 : mm_M} : ∀ (M : mm_M) (F : (Nat → Int32)) (v6 : Int32) (v7 : Int32) (v8 : Int32) (H : Heap) (locs : List Loc) (ls : Array Slot), mm_P G kR 731 M H → mm_Ar G b 40 F H → va_S (mm_A G) s.heap H locs → lv_has ls 10 [(0, .ref (mm_lo G + 0)), (6, .int v6), (7, .int v7), (8, .int v8)] → fL_text_663 x1 x2 M F v6 v7 v8 = some (r, M9) → W p l e rmL_text s m args below meth c H locs 1 40 (MQ below (mm_Qi G (b2i r) (kR, 731, M9)) args s 1 40 (mm_A G)) (F0 m 663 ls []) := by
  obtain ⟨hx, hb, -, -, -, -, -, -, hZ, -⟩ := id C
  intro M F v6 v7 v8 H locs ls hM hA hS hl heq
  rw [fL_text_663] at heq
  refine lv_iload hx hb dL_text_663 (lv_at hl 3 rfl) ?_
  refine lv_iload hx hb dL_text_665 (lv_at hl 1 rfl) ?_
  refine lv_icmp_ne (tgt := 683) hx hb dL_text_667 (by decide) (fun c1 => ?_) (fun c1 => ?_)
  · have heq := if_f c1 heq
    refine lv_iconst (v := 0) hx hb dL_text_683 (by decide) ?_
    cases heq
    exact mm_zret C hM hS dL_text_684
  · have heq := if_t c1 heq
    refine lv_aload_n hx hb dL_text_670 rfl (lv_at hl 0 rfl) ?_
    obtain ⟨r3, e2, heq⟩ := bn_of heq
    refine mm_kih hA hS hb0 hb1 (mm_runSh (rest := []) C hM hS hb1 (tL_told l (gH G (b + 1)) M r3 e2) (uL_133 _ (Nat.le_of_ble_eq_true rfl) (Nat.le_of_ble_eq_true rfl)) hl.1 rfl rfl (Nat.le_of_ble_eq_true rfl) ⟨Nat.le_refl _, Nat.le_refl _⟩ dL_text_671) (fun H locs hM hA hS => ?_)
    have hM : mm_P G kR 731 M H := hM
    refine lv_iload hx hb dL_text_674 (lv_at hl 2 rfl) ?_
    refine lv_icmp_ne (tgt := 683) hx hb dL_text_676 (by decide) (fun c4 => ?_) (fun c4 => ?_)
    · have heq := if_f c4 heq
      refine lv_iconst (v := 0) hx hb dL_text_683 (by decide) ?_
      cases heq
      exact mm_zret C hM hS dL_text_684
    · have heq := if_t c4 heq
      refine lv_iconst (v := 1) hx hb dL_text_679 (by decide) ?_
      refine lv_goto (tgt := 684) hx hb dL_text_680 (by decide) ?_
      cases heq
      exact mm_zret C hM hS dL_text_684

set_option maxRecDepth 100000 in
set_option maxHeartbeats 4000000 in
theorem tL_text_620 (C : mm_C G p s m args meth c RL cL_text 10 (some .boolean)) (x1 : Int32) (x2 : Int32) {b : Nat} (hb0 : mm_lo G + 731 ≤ b) (hb1 : G.2.2 4 ≤ b) {r : Bool} {M9 : mm_M} : ∀ n : Nat, ∀ (M : mm_M) (F : (Nat → Int32)) (v3 : Int32) (v6 : Int32) (v7 : Int32) (v8 : Int32) (v9 : Int32) (H : Heap) (locs : List Loc) (ls : Array Slot), mm_P G kR 731 M H → mm_Ar G b 40 F H → va_S (mm_A G) s.heap H locs → lv_has ls 10 [(0, .ref (mm_lo G + 0)), (3, .int v3), (4, .ref b), (6, .int v6), (7, .int v7), (8, .int v8), (9, .int v9)] → fL_text_620 x1 x2 n M F v3 v6 v7 v8 v9 = some (r, M9) → W p l e rmL_text s m args below meth c H locs 1 40 (MQ below (mm_Qi G (b2i r) (kR, 731, M9)) args s 1 40 (mm_A G)) (F0 m 620 ls []) := by
  obtain ⟨hx, hb, -, -, -, -, -, -, hZ, -⟩ := id C
  intro n
  induction n with
  | zero =>
    intro M F v3 v6 v7 v8 v9 H locs ls hM hA hS hl heq
    rw [fL_text_620] at heq
    cases heq
  | succ n ih =>
    intro M F v3 v6 v7 v8 v9 H locs ls hM hA hS hl heq
    rw [fL_text_620] at heq
    refine lv_iload hx hb dL_text_620 (lv_at hl 6 rfl) ?_
    refine lv_iload_n hx hb dL_text_622 rfl (lv_at hl 1 rfl) ?_
    refine lv_icmp_ge (tgt := 663) hx hb dL_text_623 (by decide) (fun c1 => ?_) (fun c1 => ?_)
    · have heq := if_t c1 heq
      exact tL_text_663 C x1 x2 hb0 hb1 _ _ _ _ _ _ _ _ hM hA hS (lv_sub hl [0, 3, 4, 5] rfl) heq
    · have heq := if_f c1 heq
      refine lv_iload hx hb dL_text_626 (lv_at hl 5 rfl) ?_
      refine lv_iload hx hb dL_text_628 (lv_at hl 6 rfl) ?_
      refine lv_icmp_ne (tgt := 663) hx hb dL_text_630 (by decide) (fun c2 => ?_) (fun c2 => ?_)
      · have heq := if_f c2 heq
        exact tL_text_663 C x1 x2 hb0 hb1 _ _ _ _ _ _ _ _ hM hA hS (lv_sub hl [0, 3, 4, 5] rfl) heq
      · have heq := if_t c2 heq
        refine lv_iload hx hb dL_text_633 (lv_at hl 5 rfl) ?_
        refine lv_aload_n hx hb dL_text_635 rfl (lv_at hl 0 rfl) ?_
        refine lv_aload hx hb dL_text_636 (lv_at hl 2 rfl) ?_
        refine lv_bipush (v := 8) hx hb dL_text_638 (by decide) ?_
        refine lv_iload hx hb dL_text_640 (lv_at hl 6 rfl) ?_
        refine lv_imul hx hb dL_text_642 ?_
        obtain ⟨r4, M5, e3, heq⟩ := bn2_of heq
        refine mm_kih hA hS hb0 hb1 (mm_runXh (rest := [.int v8]) C hM hA hS hb0 hb1 (tL_one l (gH G (b + 1)) M b 40 F (8 * v9) r4 M5 e3) (uL_140 _ (Nat.le_of_ble_eq_true rfl) (Nat.le_of_ble_eq_true rfl)) hl.1 rfl rfl (Nat.le_of_ble_eq_true rfl) ⟨Nat.le_refl _, Nat.le_refl _⟩ dL_text_643) (fun H locs hM hA hS => ?_)
        have hM : mm_P G kR 731 M5 H := hM
        refine lv_if_lt (tgt := 653) hx hb dL_text_646 (by decide) (fun c6 => ?_) (fun c6 => ?_)
        · have heq := if_t c6 heq
          refine lv_iconst (v := 0) hx hb dL_text_653 (by decide) ?_
          refine lv_iadd hx hb dL_text_654 ?_
          refine lv_topi (fun y7 ey7 => ?_)
          have heq := lt_to ey7 heq
          refine lv_istore (lv' := [(8, .int y7), (0, .ref (mm_lo G + 0)), (3, .int v3), (4, .ref b), (6, .int v6), (7, .int v7), (9, .int v9)]) hx hb dL_text_655 hl (by decide) rfl (fun ls hl => ?_)
          obtain ⟨y8, ey8⟩ : ∃ y : Int32, y = (v9 + 1) := ⟨_, rfl⟩
          have heq := lt_to ey8 heq
          refine lv_iinc (v := y8) (lv' := [(9, .int y8), (8, .int y7), (0, .ref (mm_lo G + 0)), (3, .int v3), (4, .ref b), (6, .int v6), (7, .int v7)]) hx hb dL_text_657 hl (k := 6) rfl (by rw [ey8]; rfl) (by decide) rfl (fun ls hl => ?_)
          refine lv_goto (tgt := 620) hx hb dL_text_660 (by decide) ?_
          exact ih _ _ _ _ _ _ _ _ _ _ hM hA hS (lv_sub hl [2, 3, 4, 5, 6, 1, 0] rfl) heq
        · have heq := if_f c6 heq
          refine lv_iconst (v := 1) hx hb dL_text_649 (by decide) ?_
          refine lv_goto (tgt := 654) hx hb dL_text_650 (by decide) ?_
          refine lv_iadd hx hb dL_text_654 ?_
          refine lv_topi (fun y9 ey9 => ?_)
          have heq := lt_to ey9 heq
          refine lv_istore (lv' := [(8, .int y9), (0, .ref (mm_lo G + 0)), (3, .int v3), (4, .ref b), (6, .int v6), (7, .int v7), (9, .int v9)]) hx hb dL_text_655 hl (by decide) rfl (fun ls hl => ?_)
          obtain ⟨y10, ey10⟩ : ∃ y : Int32, y = (v9 + 1) := ⟨_, rfl⟩
          have heq := lt_to ey10 heq
          refine lv_iinc (v := y10) (lv' := [(9, .int y10), (8, .int y9), (0, .ref (mm_lo G + 0)), (3, .int v3), (4, .ref b), (6, .int v6), (7, .int v7)]) hx hb dL_text_657 hl (k := 6) rfl (by rw [ey10]; rfl) (by decide) rfl (fun ls hl => ?_)
          refine lv_goto (tgt := 620) hx hb dL_text_660 (by decide) ?_
          exact ih _ _ _ _ _ _ _ _ _ _ hM hA hS (lv_sub hl [2, 3, 4, 5, 6, 1, 0] rfl) heq

set_option maxRecDepth 100000 in
set_option maxHeartbeats 4000000 in
theorem tL_text_609 (C : mm_C G p s m args meth c RL cL_text 10 (some .boolean)) (x1 : Int32) (x2 : Int32) {b : Nat} (hb0 : mm_lo G + 731 ≤ b) (hb1 : G.2.2 4 ≤ b) {r : Bool} {M9 : mm_M} : ∀ (M : mm_M) (F : (Nat → Int32)) (v3 : Int32) (v6 : Int32) (v7 : Int32) (t0 : Int32) (t1 : Int32) (H : Heap) (locs : List Loc) (ls : Array Slot), mm_P G kR 731 M H → mm_Ar G b 40 F H → va_S (mm_A G) s.heap H locs → lv_has ls 10 [(0, .ref (mm_lo G + 0)), (3, .int v3), (4, .ref b), (6, .int v6), (7, .int v7)] → fL_text_609 x1 x2 M F v3 v6 v7 t0 t1 = some (r, M9) → W p l e rmL_text s m args below meth c H locs 1 40 (MQ below (mm_Qi G (b2i r) (kR, 731, M9)) args s 1 40 (mm_A G)) (F0 m 609 ls [.int t1, .int t0]) := by
  obtain ⟨hx, hb, -, -, -, -, -, -, hZ, -⟩ := id C
  intro M F v3 v6 v7 t0 t1 H locs ls hM hA hS hl heq
  rw [fL_text_609] at heq
  refine lv_icmp_eq (tgt := 614) hx hb dL_text_609 (by decide) (fun c1 => ?_) (fun c1 => ?_)
  · have heq := if_t c1 heq
    refine lv_iconst (v := 0) hx hb dL_text_614 (by decide) ?_
    refine lv_istore (lv' := [(8, .int 0), (0, .ref (mm_lo G + 0)), (3, .int v3), (4, .ref b), (6, .int v6), (7, .int v7)]) hx hb dL_text_615 hl (by decide) rfl (fun ls hl => ?_)
    refine lv_iconst (v := 0) hx hb dL_text_617 (by decide) ?_
    refine lv_istore (lv' := [(9, .int 0), (8, .int 0), (0, .ref (mm_lo G + 0)), (3, .int v3), (4, .ref b), (6, .int v6), (7, .int v7)]) hx hb dL_text_618 hl (by decide) rfl (fun ls hl => ?_)
    exact tL_text_620 C x1 x2 hb0 hb1 FU _ _ _ _ _ _ _ _ _ _ hM hA hS (lv_sub hl [2, 3, 4, 5, 6, 1, 0] rfl) heq
  · have heq := if_f c1 heq
    refine lv_iconst (v := 0) hx hb dL_text_612 (by decide) ?_
    cases heq
    exact mm_zret C hM hS dL_text_613

set_option maxRecDepth 100000 in
set_option maxHeartbeats 4000000 in
theorem tL_text_581 (C : mm_C G p s m args meth c RL cL_text 10 (some .boolean)) (x1 : Int32) (x2 : Int32) {b : Nat} (hb0 : mm_lo G + 731 ≤ b) (hb1 : G.2.2 4 ≤ b) {r : Bool} {M9 : mm_M} : ∀ (M : mm_M) (F : (Nat → Int32)) (v3 : Int32) (v5 : Int32) (v6 : Int32) (t0 : Int32) (t1 : Int32) (H : Heap) (locs : List Loc) (ls : Array Slot), mm_P G kR 731 M H → mm_Ar G b 40 F H → va_S (mm_A G) s.heap H locs → lv_has ls 10 [(0, .ref (mm_lo G + 0)), (3, .int v3), (4, .ref b), (5, .int v5), (6, .int v6)] → fL_text_581 x1 x2 M F v3 v5 v6 t0 t1 = some (r, M9) → W p l e rmL_text s m args below meth c H locs 1 40 (MQ below (mm_Qi G (b2i r) (kR, 731, M9)) args s 1 40 (mm_A G)) (F0 m 581 ls [.int t1, .int t0]) := by
  obtain ⟨hx, hb, -, -, -, -, -, -, hZ, -⟩ := id C
  intro M F v3 v5 v6 t0 t1 H locs ls hM hA hS hl heq
  rw [fL_text_581] at heq
  refine lv_icmp_eq (tgt := 586) hx hb dL_text_581 (by decide) (fun c1 => ?_) (fun c1 => ?_)
  · have heq := if_t c1 heq
    refine lv_aload_n hx hb dL_text_586 rfl (lv_at hl 0 rfl) ?_
    obtain ⟨r3, e2, heq⟩ := bn_of heq
    refine mm_kih hA hS hb0 hb1 (mm_runSh (rest := []) C hM hS hb1 (tL_told l (gH G (b + 1)) M r3 e2) (uL_133 _ (Nat.le_of_ble_eq_true rfl) (Nat.le_of_ble_eq_true rfl)) hl.1 rfl rfl (Nat.le_of_ble_eq_true rfl) ⟨Nat.le_refl _, Nat.le_refl _⟩ dL_text_587) (fun H locs hM hA hS => ?_)
    have hM : mm_P G kR 731 M H := hM
    refine lv_istore (lv' := [(7, .int r3), (0, .ref (mm_lo G + 0)), (3, .int v3), (4, .ref b), (5, .int v5), (6, .int v6)]) hx hb dL_text_590 hl (by decide) rfl (fun ls hl => ?_)
    refine lv_aload_n hx hb dL_text_592 rfl (lv_at hl 1 rfl) ?_
    obtain ⟨r5, M6, e4, heq⟩ := bn2_of heq
    refine mm_kih hA hS hb0 hb1 (mm_runVh (o := 0) (rest := []) C hM hS hb1 (tX6_undo l (gH G (b + 1)) M r5 M6 e4) (uL_137 _ (Nat.le_of_ble_eq_true rfl) (Nat.le_of_ble_eq_true rfl)) (mm_recv C hM (kl (rfl : kT 0 = (5, 0))) (ci := 5) rfl (mm_e5 (rfl : kT 0 = (5, 0)))) hl.1 rfl rfl (Nat.le_of_ble_eq_true rfl) ⟨Nat.le_refl _, Nat.le_refl _⟩ dL_text_593) (fun H locs hM hA hS => ?_)
    have hM : mm_P G kR 731 M6 H := hM
    refine lv_iload hx hb dL_text_596 (lv_at hl 4 rfl) ?_
    refine lv_bipush (v := 6) hx hb dL_text_598 (by decide) ?_
    refine lv_icmp_ge (tgt := 608) hx hb dL_text_600 (by decide) (fun c7 => ?_) (fun c7 => ?_)
    · have heq := if_t c7 heq
      refine lv_iconst (v := 5) hx hb dL_text_608 (by decide) ?_
      exact tL_text_609 C x1 x2 hb0 hb1 _ _ _ _ _ _ _ _ _ _ hM hA hS (lv_sub hl [1, 2, 3, 5, 0] rfl) heq
    · have heq := if_f c7 heq
      refine lv_iload hx hb dL_text_603 (lv_at hl 4 rfl) ?_
      refine lv_goto (tgt := 609) hx hb dL_text_605 (by decide) ?_
      exact tL_text_609 C x1 x2 hb0 hb1 _ _ _ _ _ _ _ _ _ _ hM hA hS (lv_sub hl [1, 2, 3, 5, 0] rfl) heq
  · have heq := if_f c1 heq
    refine lv_iconst (v := 0) hx hb dL_text_584 (by decide) ?_
    cases heq
    exact mm_zret C hM hS dL_text_585

set_option maxRecDepth 100000 in
set_option maxHeartbeats 4000000 in
theorem tL_text_40 (C : mm_C G p s m args meth c RL cL_text 10 (some .boolean)) (x1 : Int32) (x2 : Int32) {b : Nat} (hb0 : mm_lo G + 731 ≤ b) (hb1 : G.2.2 4 ≤ b) {r : Bool} {M9 : mm_M} : ∀ n : Nat, ∀ (M : mm_M) (F : (Nat → Int32)) (v3 : Int32) (v5 : Int32) (H : Heap) (locs : List Loc) (ls : Array Slot), mm_P G kR 731 M H → mm_Ar G b 40 F H → va_S (mm_A G) s.heap H locs → lv_has ls 10 [(0, .ref (mm_lo G + 0)), (1, .int x1), (2, .int x2), (3, .int v3), (4, .ref b), (5, .int v5)] → fL_text_40 x1 x2 n M F v3 v5 = some (r, M9) → W p l e rmL_text s m args below meth c H locs 1 40 (MQ below (mm_Qi G (b2i r) (kR, 731, M9)) args s 1 40 (mm_A G)) (F0 m 40 ls []) := by
  obtain ⟨hx, hb, -, -, -, -, -, -, hZ, -⟩ := id C
  intro n
  induction n with
  | zero =>
    intro M F v3 v5 H locs ls hM hA hS hl heq
    rw [fL_text_40] at heq
    cases heq
  | succ n ih =>
    intro M F v3 v5 H locs ls hM hA hS hl heq
    rw [fL_text_40] at heq
    refine lv_iload hx hb dL_text_40 (lv_at hl 5 rfl) ?_
    refine lv_iload_n hx hb dL_text_42 rfl (lv_at hl 3 rfl) ?_
    refine lv_icmp_ge (tgt := 525) hx hb dL_text_43 (by decide) (fun c1 => ?_) (fun c1 => ?_)
    · have heq := if_t c1 heq
      refine lv_aload_n hx hb dL_text_525 rfl (lv_at hl 0 rfl) ?_
      refine lv_bipush (v := 7) hx hb dL_text_526 (by decide) ?_
      obtain ⟨r3, e2, heq⟩ := bn_of heq
      refine mm_kih hA hS hb0 hb1 (mm_runVh (o := 0) (rest := []) C hM hS hb1 (tX6_count l (gH G (b + 1)) M 7 r3 e2) (uL_60 _ (Nat.le_of_ble_eq_true rfl) (Nat.le_of_ble_eq_true rfl)) (mm_recv C hM (kl (rfl : kT 0 = (5, 0))) (ci := 5) rfl (mm_e5 (rfl : kT 0 = (5, 0)))) hl.1 rfl rfl (Nat.le_of_ble_eq_true rfl) ⟨Nat.le_refl _, Nat.le_refl _⟩ dL_text_528) (fun H locs hM hA hS => ?_)
      have hM : mm_P G kR 731 M H := hM
      refine lv_istore (lv' := [(5, .int r3), (0, .ref (mm_lo G + 0)), (1, .int x1), (2, .int x2), (3, .int v3), (4, .ref b)]) hx hb dL_text_531 hl (by decide) rfl (fun ls hl => ?_)
      refine lv_aload_n hx hb dL_text_533 rfl (lv_at hl 1 rfl) ?_
      obtain ⟨r5, M6, e4, heq⟩ := bn2_of heq
      refine mm_kih hA hS hb0 hb1 (mm_runVh (o := 0) (rest := []) C hM hS hb1 (tX6_carryOut l (gH G (b + 1)) M r5 M6 e4) (uL_114 _ (Nat.le_of_ble_eq_true rfl) (Nat.le_of_ble_eq_true rfl)) (mm_recv C hM (kl (rfl : kT 0 = (5, 0))) (ci := 5) rfl (mm_e5 (rfl : kT 0 = (5, 0)))) hl.1 rfl rfl (Nat.le_of_ble_eq_true rfl) ⟨Nat.le_refl _, Nat.le_refl _⟩ dL_text_534) (fun H locs hM hA hS => ?_)
      have hM : mm_P G kR 731 M6 H := hM
      refine lv_istore (lv' := [(6, .int r5), (5, .int r3), (0, .ref (mm_lo G + 0)), (1, .int x1), (2, .int x2), (3, .int v3), (4, .ref b)]) hx hb dL_text_537 hl (by decide) rfl (fun ls hl => ?_)
      refine lv_iload hx hb dL_text_539 (lv_at hl 0 rfl) ?_
      refine lv_if_lt (tgt := 584) hx hb dL_text_541 (by decide) (fun c7 => ?_) (fun c7 => ?_)
      · have heq := if_t c7 heq
        refine lv_iconst (v := 0) hx hb dL_text_584 (by decide) ?_
        cases heq
        exact mm_zret C hM hS dL_text_585
      · have heq := if_f c7 heq
        refine lv_iload hx hb dL_text_544 (lv_at hl 0 rfl) ?_
        refine lv_iload_n hx hb dL_text_546 rfl (lv_at hl 5 rfl) ?_
        refine lv_icmp_gt (tgt := 584) hx hb dL_text_547 (by decide) (fun c8 => ?_) (fun c8 => ?_)
        · have heq := if_t c8 heq
          refine lv_iconst (v := 0) hx hb dL_text_584 (by decide) ?_
          cases heq
          exact mm_zret C hM hS dL_text_585
        · have heq := if_f c8 heq
          refine lv_aload_n hx hb dL_text_550 rfl (lv_at hl 2 rfl) ?_
          refine lv_bipush (v := 6) hx hb dL_text_551 (by decide) ?_
          obtain ⟨r10, e9, heq⟩ := bn_of heq
          refine mm_kih hA hS hb0 hb1 (mm_runVh (o := 0) (rest := []) C hM hS hb1 (tX6_count l (gH G (b + 1)) M6 6 r10 e9) (uL_60 _ (Nat.le_of_ble_eq_true rfl) (Nat.le_of_ble_eq_true rfl)) (mm_recv C hM (kl (rfl : kT 0 = (5, 0))) (ci := 5) rfl (mm_e5 (rfl : kT 0 = (5, 0)))) hl.1 rfl rfl (Nat.le_of_ble_eq_true rfl) ⟨Nat.le_refl _, Nat.le_refl _⟩ dL_text_553) (fun H locs hM hA hS => ?_)
          have hM : mm_P G kR 731 M6 H := hM
          refine lv_if_ne (tgt := 584) hx hb dL_text_556 (by decide) (fun c11 => ?_) (fun c11 => ?_)
          · have heq := if_f c11 heq
            refine lv_iconst (v := 0) hx hb dL_text_584 (by decide) ?_
            cases heq
            exact mm_zret C hM hS dL_text_585
          · have heq := if_t c11 heq
            refine lv_aload_n hx hb dL_text_559 rfl (lv_at hl 2 rfl) ?_
            refine lv_bipush (v := 7) hx hb dL_text_560 (by decide) ?_
            obtain ⟨r13, e12, heq⟩ := bn_of heq
            refine mm_kih hA hS hb0 hb1 (mm_runVh (o := 0) (rest := []) C hM hS hb1 (tX6_count l (gH G (b + 1)) M6 7 r13 e12) (uL_60 _ (Nat.le_of_ble_eq_true rfl) (Nat.le_of_ble_eq_true rfl)) (mm_recv C hM (kl (rfl : kT 0 = (5, 0))) (ci := 5) rfl (mm_e5 (rfl : kT 0 = (5, 0)))) hl.1 rfl rfl (Nat.le_of_ble_eq_true rfl) ⟨Nat.le_refl _, Nat.le_refl _⟩ dL_text_562) (fun H locs hM hA hS => ?_)
            have hM : mm_P G kR 731 M6 H := hM
            refine lv_iload hx hb dL_text_565 (lv_at hl 1 rfl) ?_
            refine lv_bipush (v := 6) hx hb dL_text_567 (by decide) ?_
            refine lv_icmp_ge (tgt := 579) hx hb dL_text_569 (by decide) (fun c14 => ?_) (fun c14 => ?_)
            · have heq := if_t c14 heq
              refine lv_bipush (v := 6) hx hb dL_text_579 (by decide) ?_
              exact tL_text_581 C x1 x2 hb0 hb1 _ _ _ _ _ _ _ _ _ _ hM hA hS (lv_sub hl [2, 5, 6, 1, 0] rfl) heq
            · have heq := if_f c14 heq
              refine lv_iload hx hb dL_text_572 (lv_at hl 1 rfl) ?_
              refine lv_iconst (v := 1) hx hb dL_text_574 (by decide) ?_
              refine lv_iadd hx hb dL_text_575 ?_
              refine lv_goto (tgt := 581) hx hb dL_text_576 (by decide) ?_
              exact tL_text_581 C x1 x2 hb0 hb1 _ _ _ _ _ _ _ _ _ _ hM hA hS (lv_sub hl [2, 5, 6, 1, 0] rfl) heq
    · have heq := if_f c1 heq
      refine lv_iload_n hx hb dL_text_46 rfl (lv_at hl 1 rfl) ?_
      refine lv_iconst (v := 3) hx hb dL_text_47 (by decide) ?_
      refine lv_ishr hx hb dL_text_48 ?_
      refine lv_bipush (v := 37) hx hb dL_text_49 (by decide) ?_
      refine lv_iload hx hb dL_text_51 (lv_at hl 5 rfl) ?_
      refine lv_imul hx hb dL_text_53 ?_
      refine lv_iadd hx hb dL_text_54 ?_
      refine lv_topi (fun y15 ey15 => ?_)
      have heq := lt_to ey15 heq
      refine lv_istore (lv' := [(6, .int y15), (0, .ref (mm_lo G + 0)), (1, .int x1), (2, .int x2), (3, .int v3), (4, .ref b), (5, .int v5)]) hx hb dL_text_55 hl (by decide) rfl (fun ls hl => ?_)
      refine lv_iload_n hx hb dL_text_57 rfl (lv_at hl 3 rfl) ?_
      refine lv_iload hx hb dL_text_58 (lv_at hl 6 rfl) ?_
      refine lv_ishr hx hb dL_text_60 ?_
      refine lv_bipush (v := 11) hx hb dL_text_61 (by decide) ?_
      refine lv_iload hx hb dL_text_63 (lv_at hl 6 rfl) ?_
      refine lv_imul hx hb dL_text_65 ?_
      refine lv_iadd hx hb dL_text_66 ?_
      refine lv_topi (fun y16 ey16 => ?_)
      have heq := lt_to ey16 heq
      refine lv_istore (lv' := [(7, .int y16), (6, .int y15), (0, .ref (mm_lo G + 0)), (1, .int x1), (2, .int x2), (3, .int v3), (4, .ref b), (5, .int v5)]) hx hb dL_text_67 hl (by decide) rfl (fun ls hl => ?_)
      refine lv_bipush (v := 8) hx hb dL_text_69 (by decide) ?_
      refine lv_iload hx hb dL_text_71 (lv_at hl 7 rfl) ?_
      refine lv_imul hx hb dL_text_73 ?_
      refine lv_topi (fun y17 ey17 => ?_)
      have heq := lt_to ey17 heq
      refine lv_istore (lv' := [(8, .int y17), (7, .int y16), (6, .int y15), (0, .ref (mm_lo G + 0)), (1, .int x1), (2, .int x2), (3, .int v3), (4, .ref b), (5, .int v5)]) hx hb dL_text_74 hl (by decide) rfl (fun ls hl => ?_)
      refine lv_aload hx hb dL_text_76 (lv_at hl 7 rfl) ?_
      refine lv_iload hx hb dL_text_78 (lv_at hl 0 rfl) ?_
      refine lv_iload hx hb dL_text_80 (lv_at hl 2 rfl) ?_
      refine lv_iconst (v := 5) hx hb dL_text_82 (by decide) ?_
      obtain ⟨r19, e18, heq⟩ := bn_of heq
      refine mm_kih hA hS hb0 hb1 (mm_runSh (rest := [.int y17, .ref b]) C hM hS hb1 (tL_up l (gH G (b + 1)) M y15 5 r19 e18) (uL_23 _ (Nat.le_of_ble_eq_true rfl) (Nat.le_of_ble_eq_true rfl)) hl.1 rfl rfl (Nat.le_of_ble_eq_true rfl) ⟨Nat.le_refl _, Nat.le_refl _⟩ dL_text_83) (fun H locs hM hA hS => ?_)
      have hM : mm_P G kR 731 M H := hM
      obtain ⟨g20, heq⟩ := gd_of heq
      refine ar_st C hM hA hS hb0 hb1 (vp_in_of2 g20) rfl dL_text_86 (fun H locs hM hA hS => ?_)
      obtain ⟨F21, eF21⟩ : ∃ z : Nat → Int32, z = aS F y17.toNatClampNeg r19 := ⟨_, rfl⟩
      rw [← eF21] at hA
      have heq := lt_to eF21 heq
      refine lv_aload hx hb dL_text_87 (lv_at hl 7 rfl) ?_
      refine lv_iload hx hb dL_text_89 (lv_at hl 0 rfl) ?_
      refine lv_iconst (v := 1) hx hb dL_text_91 (by decide) ?_
      refine lv_iadd hx hb dL_text_92 ?_
      refine lv_iload hx hb dL_text_93 (lv_at hl 2 rfl) ?_
      refine lv_iconst (v := 3) hx hb dL_text_95 (by decide) ?_
      refine lv_ishr hx hb dL_text_96 ?_
      refine lv_bipush (v := 9) hx hb dL_text_97 (by decide) ?_
      obtain ⟨r23, e22, heq⟩ := bn_of heq
      refine mm_kih hA hS hb0 hb1 (mm_runSh (rest := [.int (y17 + 1), .ref b]) C hM hS hb1 (tL_up l (gH G (b + 1)) M (y15 >>> (3 &&& 31)) 9 r23 e22) (uL_23 _ (Nat.le_of_ble_eq_true rfl) (Nat.le_of_ble_eq_true rfl)) hl.1 rfl rfl (Nat.le_of_ble_eq_true rfl) ⟨Nat.le_refl _, Nat.le_refl _⟩ dL_text_99) (fun H locs hM hA hS => ?_)
      have hM : mm_P G kR 731 M H := hM
      obtain ⟨g24, heq⟩ := gd_of heq
      refine ar_st C hM hA hS hb0 hb1 (vp_in_of2 g24) rfl dL_text_102 (fun H locs hM hA hS => ?_)
      obtain ⟨F25, eF25⟩ : ∃ z : Nat → Int32, z = aS F21 (y17 + 1).toNatClampNeg r23 := ⟨_, rfl⟩
      rw [← eF25] at hA
      have heq := lt_to eF25 heq
      refine lv_aload hx hb dL_text_103 (lv_at hl 7 rfl) ?_
      refine lv_iload hx hb dL_text_105 (lv_at hl 0 rfl) ?_
      refine lv_iconst (v := 2) hx hb dL_text_107 (by decide) ?_
      refine lv_iadd hx hb dL_text_108 ?_
      refine lv_iload hx hb dL_text_109 (lv_at hl 1 rfl) ?_
      refine lv_aload hx hb dL_text_111 (lv_at hl 7 rfl) ?_
      refine lv_iload hx hb dL_text_113 (lv_at hl 0 rfl) ?_
      refine ar_ld C hA (vp_in_of2 g20) dL_text_115 ?_
      refine lv_iconst (v := 1) hx hb dL_text_116 (by decide) ?_
      refine lv_icmp_ne (tgt := 125) hx hb dL_text_117 (by decide) (fun c26 => ?_) (fun c26 => ?_)
      · have heq := if_f c26 heq
        refine lv_bipush (v := 10) hx hb dL_text_125 (by decide) ?_
        exact tL_text_127 C x1 x2 hb0 hb1 ih _ _ _ _ _ _ _ _ _ _ _ _ hM hA hS (lv_sub hl [3, 4, 5, 6, 7, 8, 1, 0] rfl) heq
      · have heq := if_t c26 heq
        refine lv_bipush (v := 9) hx hb dL_text_120 (by decide) ?_
        refine lv_goto (tgt := 127) hx hb dL_text_122 (by decide) ?_
        exact tL_text_127 C x1 x2 hb0 hb1 ih _ _ _ _ _ _ _ _ _ _ _ _ hM hA hS (lv_sub hl [3, 4, 5, 6, 7, 8, 1, 0] rfl) heq

set_option maxRecDepth 100000 in
set_option maxHeartbeats 4000000 in
theorem tL_text (l : Launch) (G : mm_G) (M : mm_M) (hhi : G.2.2 4 ≤ mm_lo G + 731) (x1 : Int32) (x2 : Int32) (r : Bool) (M9 : mm_M) (heq : fL_text M x1 x2 = some (r, M9)) : Met l yL_text (mm_ws yL_text cL_text 10 (some .boolean)) rmL_text (va_Pc [.ref (mm_lo G + 0), .int x1, .int x2] (mm_B G (kR, 731, M))) (mm_Qi G (b2i r) (kR, 731, M9)) 1 40 (mm_A G) := by
  refine mm_met (cc := cL_text) (nL := 10) (ret := (some .boolean)) plRL (Nat.le_of_ble_eq_true rfl) ?_
  intro p e s m below meth c ls hin C hM hS hl
  have C : mm_C G p s m _ meth c RL cL_text 10 (some .boolean) := C
  have hM : mm_P G kR 731 M s.heap := hM
  have hl : lv_has ls 10 [(0, .ref (mm_lo G + 0)), (1, .int x1), (2, .int x2)] := hl
  obtain ⟨hx, hb, -, -, -, -, -, -, hZ, -⟩ := id C
  rw [fL_text] at heq
  refine lv_iconst (v := 1) hx hb dL_text_0 (by decide) ?_
  refine lv_iload_n hx hb dL_text_1 rfl (lv_at hl 1 rfl) ?_
  refine lv_iconst (v := 5) hx hb dL_text_2 (by decide) ?_
  obtain ⟨r2, e1, heq⟩ := bn_of heq
  refine mm_ki hS (mm_runS (rest := [.int 1]) C hM hS (tL_up l G M x1 5 r2 e1) (uL_23 _ (Nat.le_of_ble_eq_true rfl) (Nat.le_of_ble_eq_true rfl)) hl.1 rfl rfl (Nat.le_of_ble_eq_true rfl) ⟨Nat.zero_le _, Nat.zero_le _⟩ dL_text_3) (fun H locs hM hS => ?_)
  have hM : mm_P G kR 731 M H := hM
  refine lv_iadd hx hb dL_text_6 ?_
  refine lv_topi (fun y3 ey3 => ?_)
  have heq := lt_to ey3 heq
  refine lv_istore_n (lv' := [(3, .int y3), (0, .ref (mm_lo G + 0)), (1, .int x1), (2, .int x2)]) hx hb dL_text_7 rfl hl (by decide) rfl (fun ls hl => ?_)
  refine lv_bipush (v := 40) hx hb dL_text_8 (by decide) ?_
  refine ar_new (n := 40) C hM hS (by decide) (by decide) (by decide) wArrI (Nat.le_of_ble_eq_true rfl) (Nat.le_of_ble_eq_true rfl) hhi dL_text_10 (fun b H hb0 hb1 hM hA hS => ?_)
  have heq := lt_to rfl heq
  obtain ⟨F4, eF4⟩ : ∃ z : Nat → Int32, z = fun _ => (0 : Int32) := ⟨_, rfl⟩
  rw [← eF4] at hA heq
  refine lv_astore (lv' := [(4, .ref b), (3, .int y3), (0, .ref (mm_lo G + 0)), (1, .int x1), (2, .int x2)]) hx hb dL_text_12 hl (by decide) rfl (fun ls hl => ?_)
  refine lv_aload_n hx hb dL_text_14 rfl (lv_at hl 2 rfl) ?_
  obtain ⟨r6, M7, e5, heq⟩ := bn2_of heq
  refine mm_kih hA hS hb0 hb1 (mm_runVh (o := 0) (rest := []) C hM hS hb1 (tX6_wipe l (gH G (b + 1)) M r6 M7 e5) (uL_107 _ (Nat.le_of_ble_eq_true rfl) (Nat.le_of_ble_eq_true rfl)) (mm_recv C hM (kl (rfl : kT 0 = (5, 0))) (ci := 5) rfl (mm_e5 (rfl : kT 0 = (5, 0)))) hl.1 rfl rfl (Nat.le_of_ble_eq_true rfl) ⟨Nat.le_refl _, Nat.le_refl _⟩ dL_text_15) (fun H locs hM hA hS => ?_)
  have hM : mm_P G kR 731 M7 H := hM
  refine lv_pop hx hb dL_text_18 rfl ?_
  refine lv_aload_n hx hb dL_text_19 rfl (lv_at hl 2 rfl) ?_
  obtain ⟨r9, e8, heq⟩ := bn_of heq
  refine mm_kih hA hS hb0 hb1 (mm_runVh (o := 0) (rest := []) C hM hS hb1 (tX6_fault l (gH G (b + 1)) M7 r9 e8) (uL_111 _ (Nat.le_of_ble_eq_true rfl) (Nat.le_of_ble_eq_true rfl)) (mm_recv C hM (kl (rfl : kT 0 = (5, 0))) (ci := 5) rfl (mm_e5 (rfl : kT 0 = (5, 0)))) hl.1 rfl rfl (Nat.le_of_ble_eq_true rfl) ⟨Nat.le_refl _, Nat.le_refl _⟩ dL_text_20) (fun H locs hM hA hS => ?_)
  have hM : mm_P G kR 731 M7 H := hM
  refine lv_if_ne (tgt := 35) hx hb dL_text_23 (by decide) (fun c10 => ?_) (fun c10 => ?_)
  · have heq := if_f c10 heq
    refine lv_iconst (v := 0) hx hb dL_text_35 (by decide) ?_
    cases heq
    exact mm_zret C hM hS dL_text_36
  · have heq := if_t c10 heq
    refine lv_aload_n hx hb dL_text_26 rfl (lv_at hl 2 rfl) ?_
    obtain ⟨r12, M13, e11, heq⟩ := bn2_of heq
    refine mm_kih hA hS hb0 hb1 (mm_runVh (o := 0) (rest := []) C hM hS hb1 (tX6_carryOut l (gH G (b + 1)) M7 r12 M13 e11) (uL_114 _ (Nat.le_of_ble_eq_true rfl) (Nat.le_of_ble_eq_true rfl)) (mm_recv C hM (kl (rfl : kT 0 = (5, 0))) (ci := 5) rfl (mm_e5 (rfl : kT 0 = (5, 0)))) hl.1 rfl rfl (Nat.le_of_ble_eq_true rfl) ⟨Nat.le_refl _, Nat.le_refl _⟩ dL_text_27) (fun H locs hM hA hS => ?_)
    have hM : mm_P G kR 731 M13 H := hM
    refine lv_bipush (v := (-3)) hx hb dL_text_30 (by decide) ?_
    refine lv_icmp_eq (tgt := 37) hx hb dL_text_32 (by decide) (fun c14 => ?_) (fun c14 => ?_)
    · have heq := if_t c14 heq
      refine lv_iconst (v := 0) hx hb dL_text_37 (by decide) ?_
      refine lv_istore (lv' := [(5, .int 0), (4, .ref b), (3, .int y3), (0, .ref (mm_lo G + 0)), (1, .int x1), (2, .int x2)]) hx hb dL_text_38 hl (by decide) rfl (fun ls hl => ?_)
      exact tL_text_40 C x1 x2 hb0 hb1 FU _ _ _ _ _ _ _ hM hA hS (lv_sub hl [3, 4, 5, 2, 1, 0] rfl) heq
    · have heq := if_f c14 heq
      refine lv_iconst (v := 0) hx hb dL_text_35 (by decide) ?_
      cases heq
      exact mm_zret C hM hS dL_text_36

set_option maxRecDepth 100000 in
set_option maxHeartbeats 4000000 in
theorem tL_sound_387 (C : mm_C G p s m args meth c RL cL_sound 18 (some .boolean)) {b : Nat} (hb0 : mm_lo G + 731 ≤ b) (hb1 : G.2.2 4 ≤ b) {r : Bool} {M9 : mm_M} {k38 : mm_M → (Nat → Int32) → Int32 → Int32 → Int32 → Int32 → Int32 → Int32 → Int32 → Int32 → Int32 → Option (Bool × mm_M)} (hk38 : ∀ (M : mm_M) (F : (Nat → Int32)) (v1 : Int32) (v2 : Int32) (v3 : Int32) (v4 : Int32) (v5 : Int32) (v6 : Int32) (v7 : Int32) (v8 : Int32) (v10 : Int32) (H : Heap) (locs : List Loc) (ls : Array Slot), mm_P G kR 731 M H → mm_Ar G b 16 F H → va_S (mm_A G) s.heap H locs → lv_has ls 18 [(0, .ref (mm_lo G + 0)), (1, .int v1), (2, .int v2), (3, .int v3), (4, .int v4), (5, .int v5), (6, .int v6), (7, .int v7), (8, .int v8), (9, .ref b), (10, .int v10)] → k38 M F v1 v2 v3 v4 v5 v6 v7 v8 v10 = some (r, M9) → W p l e rmL_sound s m args below meth c H locs 1 16 (MQ below (mm_Qi G (b2i r) (kR, 731, M9)) args s 1 16 (mm_A G)) (F0 m 38 ls [])) : ∀ n : Nat, ∀ (M : mm_M) (F : (Nat → Int32)) (v1 : Int32) (v2 : Int32) (v3 : Int32) (v4 : Int32) (v5 : Int32) (v6 : Int32) (v7 : Int32) (v8 : Int32) (v10 : Int32) (v15 : Int32) (v16 : Int32) (H : Heap) (locs : List Loc) (ls : Array Slot), mm_P G kR 731 M H → mm_Ar G b 16 F H → va_S (mm_A G) s.heap H locs → lv_has ls 18 [(0, .ref (mm_lo G + 0)), (1, .int v1), (2, .int v2), (3, .int v3), (4, .int v4), (5, .int v5), (6, .int v6), (7, .int v7), (8, .int v8), (9, .ref b), (10, .int v10), (15, .int v15), (16, .int v16)] → fL_sound_387 k38 n M F v1 v2 v3 v4 v5 v6 v7 v8 v10 v15 v16 = some (r, M9) → W p l e rmL_sound s m args below meth c H locs 1 16 (MQ below (mm_Qi G (b2i r) (kR, 731, M9)) args s 1 16 (mm_A G)) (F0 m 387 ls []) := by
  obtain ⟨hx, hb, -, -, -, -, -, -, hZ, -⟩ := id C
  intro n
  induction n with
  | zero =>
    intro M F v1 v2 v3 v4 v5 v6 v7 v8 v10 v15 v16 H locs ls hM hA hS hl heq
    rw [fL_sound_387] at heq
    cases heq
  | succ n ih =>
    intro M F v1 v2 v3 v4 v5 v6 v7 v8 v10 v15 v16 H locs ls hM hA hS hl heq
    rw [fL_sound_387] at heq
    refine lv_iload hx hb dL_sound_387 (lv_at hl 12 rfl) ?_
    refine lv_bipush (v := 13) hx hb dL_sound_389 (by decide) ?_
    refine lv_icmp_ge (tgt := 434) hx hb dL_sound_391 (by decide) (fun c1 => ?_) (fun c1 => ?_)
    · have heq := if_t c1 heq
      refine lv_aload_n hx hb dL_sound_434 rfl (lv_at hl 0 rfl) ?_
      refine lv_iload hx hb dL_sound_435 (lv_at hl 10 rfl) ?_
      refine lv_aload_n hx hb dL_sound_437 rfl (lv_at hl 0 rfl) ?_
      refine lv_iconst (v := 0) hx hb dL_sound_438 (by decide) ?_
      obtain ⟨r3, e2, heq⟩ := bn_of heq
      refine mm_kih hA hS hb0 hb1 (mm_runVh (o := 0) (rest := [.int v10, .ref (mm_lo G + 0)]) C hM hS hb1 (tX6_count l (gH G (b + 1)) M 0 r3 e2) (uL_60 _ (Nat.le_of_ble_eq_true rfl) (Nat.le_of_ble_eq_true rfl)) (mm_recv C hM (kl (rfl : kT 0 = (5, 0))) (ci := 5) rfl (mm_e5 (rfl : kT 0 = (5, 0)))) hl.1 rfl rfl (Nat.le_of_ble_eq_true rfl) ⟨Nat.le_refl _, Nat.le_refl _⟩ dL_sound_439) (fun H locs hM hA hS => ?_)
      have hM : mm_P G kR 731 M H := hM
      refine lv_aload_n hx hb dL_sound_442 rfl (lv_at hl 0 rfl) ?_
      refine lv_bipush (v := 13) hx hb dL_sound_443 (by decide) ?_
      obtain ⟨r5, e4, heq⟩ := bn_of heq
      refine mm_kih hA hS hb0 hb1 (mm_runVh (o := 0) (rest := [.int r3, .int v10, .ref (mm_lo G + 0)]) C hM hS hb1 (tX6_count l (gH G (b + 1)) M 13 r5 e4) (uL_60 _ (Nat.le_of_ble_eq_true rfl) (Nat.le_of_ble_eq_true rfl)) (mm_recv C hM (kl (rfl : kT 0 = (5, 0))) (ci := 5) rfl (mm_e5 (rfl : kT 0 = (5, 0)))) hl.1 rfl rfl (Nat.le_of_ble_eq_true rfl) ⟨Nat.le_refl _, Nat.le_refl _⟩ dL_sound_445) (fun H locs hM hA hS => ?_)
      have hM : mm_P G kR 731 M H := hM
      refine lv_iadd hx hb dL_sound_448 ?_
      obtain ⟨r7, e6, heq⟩ := bn_of heq
      refine mm_kih hA hS hb0 hb1 (mm_runVh (o := 0) (rest := []) C hM hS hb1 (tX6_pointsOn l (gH G (b + 1)) M v10 (r3 + r5) r7 e6) (uL_147 _ (Nat.le_of_ble_eq_true rfl) (Nat.le_of_ble_eq_true rfl)) (mm_recv C hM (kl (rfl : kT 0 = (5, 0))) (ci := 5) rfl (mm_e5 (rfl : kT 0 = (5, 0)))) hl.1 rfl rfl (Nat.le_of_ble_eq_true rfl) ⟨Nat.le_refl _, Nat.le_refl _⟩ dL_sound_449) (fun H locs hM hA hS => ?_)
      have hM : mm_P G kR 731 M H := hM
      refine lv_if_ne (tgt := 493) hx hb dL_sound_452 (by decide) (fun c8 => ?_) (fun c8 => ?_)
      · have heq := if_f c8 heq
        refine lv_iconst (v := 0) hx hb dL_sound_493 (by decide) ?_
        cases heq
        exact mm_zret C hM hS dL_sound_494
      · have heq := if_t c8 heq
        refine lv_aload_n hx hb dL_sound_455 rfl (lv_at hl 0 rfl) ?_
        refine lv_iload hx hb dL_sound_456 (lv_at hl 10 rfl) ?_
        refine lv_aload_n hx hb dL_sound_458 rfl (lv_at hl 0 rfl) ?_
        refine lv_iconst (v := 0) hx hb dL_sound_459 (by decide) ?_
        obtain ⟨r10, e9, heq⟩ := bn_of heq
        refine mm_kih hA hS hb0 hb1 (mm_runVh (o := 0) (rest := [.int v10, .ref (mm_lo G + 0)]) C hM hS hb1 (tX6_count l (gH G (b + 1)) M 0 r10 e9) (uL_60 _ (Nat.le_of_ble_eq_true rfl) (Nat.le_of_ble_eq_true rfl)) (mm_recv C hM (kl (rfl : kT 0 = (5, 0))) (ci := 5) rfl (mm_e5 (rfl : kT 0 = (5, 0)))) hl.1 rfl rfl (Nat.le_of_ble_eq_true rfl) ⟨Nat.le_refl _, Nat.le_refl _⟩ dL_sound_460) (fun H locs hM hA hS => ?_)
        have hM : mm_P G kR 731 M H := hM
        refine lv_iconst (v := 1) hx hb dL_sound_463 (by decide) ?_
        refine lv_isub hx hb dL_sound_464 ?_
        obtain ⟨r12, e11, heq⟩ := bn_of heq
        refine mm_kih hA hS hb0 hb1 (mm_runVh (o := 0) (rest := []) C hM hS hb1 (tX6_pointsOn l (gH G (b + 1)) M v10 (r10 - 1) r12 e11) (uL_147 _ (Nat.le_of_ble_eq_true rfl) (Nat.le_of_ble_eq_true rfl)) (mm_recv C hM (kl (rfl : kT 0 = (5, 0))) (ci := 5) rfl (mm_e5 (rfl : kT 0 = (5, 0)))) hl.1 rfl rfl (Nat.le_of_ble_eq_true rfl) ⟨Nat.le_refl _, Nat.le_refl _⟩ dL_sound_465) (fun H locs hM hA hS => ?_)
        have hM : mm_P G kR 731 M H := hM
        refine lv_bipush (v := (-2)) hx hb dL_sound_468 (by decide) ?_
        refine lv_icmp_ne (tgt := 493) hx hb dL_sound_470 (by decide) (fun c13 => ?_) (fun c13 => ?_)
        · have heq := if_f c13 heq
          refine lv_iconst (v := 0) hx hb dL_sound_493 (by decide) ?_
          cases heq
          exact mm_zret C hM hS dL_sound_494
        · have heq := if_t c13 heq
          refine lv_aload_n hx hb dL_sound_473 rfl (lv_at hl 0 rfl) ?_
          refine lv_iload hx hb dL_sound_474 (lv_at hl 10 rfl) ?_
          refine lv_aload_n hx hb dL_sound_476 rfl (lv_at hl 0 rfl) ?_
          refine lv_iconst (v := 0) hx hb dL_sound_477 (by decide) ?_
          obtain ⟨r15, e14, heq⟩ := bn_of heq
          refine mm_kih hA hS hb0 hb1 (mm_runVh (o := 0) (rest := [.int v10, .ref (mm_lo G + 0)]) C hM hS hb1 (tX6_count l (gH G (b + 1)) M 0 r15 e14) (uL_60 _ (Nat.le_of_ble_eq_true rfl) (Nat.le_of_ble_eq_true rfl)) (mm_recv C hM (kl (rfl : kT 0 = (5, 0))) (ci := 5) rfl (mm_e5 (rfl : kT 0 = (5, 0)))) hl.1 rfl rfl (Nat.le_of_ble_eq_true rfl) ⟨Nat.le_refl _, Nat.le_refl _⟩ dL_sound_478) (fun H locs hM hA hS => ?_)
          have hM : mm_P G kR 731 M H := hM
          refine lv_sipush (v := 401) hx hb dL_sound_481 (by decide) ?_
          refine lv_iadd hx hb dL_sound_484 ?_
          obtain ⟨r17, e16, heq⟩ := bn_of heq
          refine mm_kih hA hS hb0 hb1 (mm_runVh (o := 0) (rest := []) C hM hS hb1 (tX6_pointsOn l (gH G (b + 1)) M v10 (r15 + 401) r17 e16) (uL_147 _ (Nat.le_of_ble_eq_true rfl) (Nat.le_of_ble_eq_true rfl)) (mm_recv C hM (kl (rfl : kT 0 = (5, 0))) (ci := 5) rfl (mm_e5 (rfl : kT 0 = (5, 0)))) hl.1 rfl rfl (Nat.le_of_ble_eq_true rfl) ⟨Nat.le_refl _, Nat.le_refl _⟩ dL_sound_485) (fun H locs hM hA hS => ?_)
          have hM : mm_P G kR 731 M H := hM
          refine lv_bipush (v := (-2)) hx hb dL_sound_488 (by decide) ?_
          refine lv_icmp_eq (tgt := 495) hx hb dL_sound_490 (by decide) (fun c18 => ?_) (fun c18 => ?_)
          · have heq := if_t c18 heq
            obtain ⟨y19, ey19⟩ : ∃ y : Int32, y = (v10 + 1) := ⟨_, rfl⟩
            have heq := lt_to ey19 heq
            refine lv_iinc (v := y19) (lv' := [(10, .int y19), (0, .ref (mm_lo G + 0)), (1, .int v1), (2, .int v2), (3, .int v3), (4, .int v4), (5, .int v5), (6, .int v6), (7, .int v7), (8, .int v8), (9, .ref b), (15, .int v15), (16, .int v16)]) hx hb dL_sound_495 hl (k := 10) rfl (by rw [ey19]; rfl) (by decide) rfl (fun ls hl => ?_)
            refine lv_goto (tgt := 38) hx hb dL_sound_498 (by decide) ?_
            exact hk38 _ _ _ _ _ _ _ _ _ _ _ _ _ _ hM hA hS (lv_sub hl [1, 2, 3, 4, 5, 6, 7, 8, 9, 10, 0] rfl) heq
          · have heq := if_f c18 heq
            refine lv_iconst (v := 0) hx hb dL_sound_493 (by decide) ?_
            cases heq
            exact mm_zret C hM hS dL_sound_494
    · have heq := if_f c1 heq
      refine lv_aload_n hx hb dL_sound_394 rfl (lv_at hl 0 rfl) ?_
      refine lv_iload hx hb dL_sound_395 (lv_at hl 10 rfl) ?_
      refine lv_aload_n hx hb dL_sound_397 rfl (lv_at hl 0 rfl) ?_
      refine lv_iconst (v := 0) hx hb dL_sound_398 (by decide) ?_
      obtain ⟨r21, e20, heq⟩ := bn_of heq
      refine mm_kih hA hS hb0 hb1 (mm_runVh (o := 0) (rest := [.int v10, .ref (mm_lo G + 0)]) C hM hS hb1 (tX6_count l (gH G (b + 1)) M 0 r21 e20) (uL_60 _ (Nat.le_of_ble_eq_true rfl) (Nat.le_of_ble_eq_true rfl)) (mm_recv C hM (kl (rfl : kT 0 = (5, 0))) (ci := 5) rfl (mm_e5 (rfl : kT 0 = (5, 0)))) hl.1 rfl rfl (Nat.le_of_ble_eq_true rfl) ⟨Nat.le_refl _, Nat.le_refl _⟩ dL_sound_399) (fun H locs hM hA hS => ?_)
      have hM : mm_P G kR 731 M H := hM
      refine lv_iload hx hb dL_sound_402 (lv_at hl 12 rfl) ?_
      refine lv_iadd hx hb dL_sound_404 ?_
      obtain ⟨r23, e22, heq⟩ := bn_of heq
      refine mm_kih hA hS hb0 hb1 (mm_runVh (o := 0) (rest := []) C hM hS hb1 (tX6_pointsOn l (gH G (b + 1)) M v10 (r21 + v16) r23 e22) (uL_147 _ (Nat.le_of_ble_eq_true rfl) (Nat.le_of_ble_eq_true rfl)) (mm_recv C hM (kl (rfl : kT 0 = (5, 0))) (ci := 5) rfl (mm_e5 (rfl : kT 0 = (5, 0)))) hl.1 rfl rfl (Nat.le_of_ble_eq_true rfl) ⟨Nat.le_refl _, Nat.le_refl _⟩ dL_sound_405) (fun H locs hM hA hS => ?_)
      have hM : mm_P G kR 731 M H := hM
      refine lv_istore (lv' := [(17, .int r23), (0, .ref (mm_lo G + 0)), (1, .int v1), (2, .int v2), (3, .int v3), (4, .int v4), (5, .int v5), (6, .int v6), (7, .int v7), (8, .int v8), (9, .ref b), (10, .int v10), (15, .int v15), (16, .int v16)]) hx hb dL_sound_408 hl (by decide) rfl (fun ls hl => ?_)
      refine lv_iload hx hb dL_sound_410 (lv_at hl 0 rfl) ?_
      refine lv_if_lt (tgt := 422) hx hb dL_sound_412 (by decide) (fun c24 => ?_) (fun c24 => ?_)
      · have heq := if_t c24 heq
        refine lv_iconst (v := 0) hx hb dL_sound_422 (by decide) ?_
        cases heq
        exact mm_zret C hM hS dL_sound_423
      · have heq := if_f c24 heq
        refine lv_iload hx hb dL_sound_415 (lv_at hl 0 rfl) ?_
        refine lv_iload hx hb dL_sound_417 (lv_at hl 12 rfl) ?_
        refine lv_icmp_le (tgt := 424) hx hb dL_sound_419 (by decide) (fun c25 => ?_) (fun c25 => ?_)
        · have heq := if_t c25 heq
          refine lv_iload hx hb dL_sound_424 (lv_at hl 0 rfl) ?_
          refine lv_istore (lv' := [(15, .int r23), (17, .int r23), (0, .ref (mm_lo G + 0)), (1, .int v1), (2, .int v2), (3, .int v3), (4, .int v4), (5, .int v5), (6, .int v6), (7, .int v7), (8, .int v8), (9, .ref b), (10, .int v10), (16, .int v16)]) hx hb dL_sound_426 hl (by decide) rfl (fun ls hl => ?_)
          obtain ⟨y26, ey26⟩ : ∃ y : Int32, y = (v16 + 3) := ⟨_, rfl⟩
          have heq := lt_to ey26 heq
          refine lv_iinc (v := y26) (lv' := [(16, .int y26), (15, .int r23), (17, .int r23), (0, .ref (mm_lo G + 0)), (1, .int v1), (2, .int v2), (3, .int v3), (4, .int v4), (5, .int v5), (6, .int v6), (7, .int v7), (8, .int v8), (9, .ref b), (10, .int v10)]) hx hb dL_sound_428 hl (k := 13) rfl (by rw [ey26]; rfl) (by decide) rfl (fun ls hl => ?_)
          refine lv_goto (tgt := 387) hx hb dL_sound_431 (by decide) ?_
          exact ih _ _ _ _ _ _ _ _ _ _ _ _ _ _ _ _ hM hA hS (lv_sub hl [3, 4, 5, 6, 7, 8, 9, 10, 11, 12, 13, 1, 0] rfl) heq
        · have heq := if_f c25 heq
          refine lv_iconst (v := 0) hx hb dL_sound_422 (by decide) ?_
          cases heq
          exact mm_zret C hM hS dL_sound_423

set_option maxRecDepth 100000 in
set_option maxHeartbeats 4000000 in
theorem tL_sound_308 (C : mm_C G p s m args meth c RL cL_sound 18 (some .boolean)) {b : Nat} (hb0 : mm_lo G + 731 ≤ b) (hb1 : G.2.2 4 ≤ b) {r : Bool} {M9 : mm_M} {k38 : mm_M → (Nat → Int32) → Int32 → Int32 → Int32 → Int32 → Int32 → Int32 → Int32 → Int32 → Int32 → Option (Bool × mm_M)} (hk38 : ∀ (M : mm_M) (F : (Nat → Int32)) (v1 : Int32) (v2 : Int32) (v3 : Int32) (v4 : Int32) (v5 : Int32) (v6 : Int32) (v7 : Int32) (v8 : Int32) (v10 : Int32) (H : Heap) (locs : List Loc) (ls : Array Slot), mm_P G kR 731 M H → mm_Ar G b 16 F H → va_S (mm_A G) s.heap H locs → lv_has ls 18 [(0, .ref (mm_lo G + 0)), (1, .int v1), (2, .int v2), (3, .int v3), (4, .int v4), (5, .int v5), (6, .int v6), (7, .int v7), (8, .int v8), (9, .ref b), (10, .int v10)] → k38 M F v1 v2 v3 v4 v5 v6 v7 v8 v10 = some (r, M9) → W p l e rmL_sound s m args below meth c H locs 1 16 (MQ below (mm_Qi G (b2i r) (kR, 731, M9)) args s 1 16 (mm_A G)) (F0 m 38 ls [])) : ∀ (M : mm_M) (F : (Nat → Int32)) (v1 : Int32) (v2 : Int32) (v3 : Int32) (v4 : Int32) (v5 : Int32) (v6 : Int32) (v7 : Int32) (v8 : Int32) (v10 : Int32) (H : Heap) (locs : List Loc) (ls : Array Slot), mm_P G kR 731 M H → mm_Ar G b 16 F H → va_S (mm_A G) s.heap H locs → lv_has ls 18 [(0, .ref (mm_lo G + 0)), (1, .int v1), (2, .int v2), (3, .int v3), (4, .int v4), (5, .int v5), (6, .int v6), (7, .int v7), (8, .int v8), (9, .ref b), (10, .int v10)] → fL_sound_308 k38 M F v1 v2 v3 v4 v5 v6 v7 v8 v10 = some (r, M9) → W p l e rmL_sound s m args below meth c H locs 1 16 (MQ below (mm_Qi G (b2i r) (kR, 731, M9)) args s 1 16 (mm_A G)) (F0 m 308 ls []) := by
  obtain ⟨hx, hb, -, -, -, -, -, -, hZ, -⟩ := id C
  intro M F v1 v2 v3 v4 v5 v6 v7 v8 v10 H locs ls hM hA hS hl heq
  rw [fL_sound_308] at heq
  refine lv_aload_n hx hb dL_sound_308 rfl (lv_at hl 0 rfl) ?_
  refine lv_iload hx hb dL_sound_309 (lv_at hl 10 rfl) ?_
  refine lv_iconst (v := 0) hx hb dL_sound_311 (by decide) ?_
  obtain ⟨r2, e1, heq⟩ := bn_of heq
  refine mm_klh hA hS hb0 hb1 (mm_runVh (o := 0) (rest := []) C hM hS hb1 (tX6_money l (gH G (b + 1)) M v10 0 r2 e1) (uL_73 _ (Nat.le_of_ble_eq_true rfl) (Nat.le_of_ble_eq_true rfl)) (mm_recv C hM (kl (rfl : kT 0 = (5, 0))) (ci := 5) rfl (mm_e5 (rfl : kT 0 = (5, 0)))) hl.1 rfl rfl (Nat.le_of_ble_eq_true rfl) ⟨Nat.le_refl _, Nat.le_refl _⟩ dL_sound_312) (fun H locs hM hA hS => ?_)
  have hM : mm_P G kR 731 M H := hM
  refine lv_aload_n hx hb dL_sound_315 rfl (lv_at hl 0 rfl) ?_
  refine lv_iload hx hb dL_sound_316 (lv_at hl 10 rfl) ?_
  refine lv_iconst (v := 1) hx hb dL_sound_318 (by decide) ?_
  obtain ⟨r4, e3, heq⟩ := bn_of heq
  refine mm_klh hA hS hb0 hb1 (mm_runVh (o := 0) (rest := [.long r2]) C hM hS hb1 (tX6_money l (gH G (b + 1)) M v10 1 r4 e3) (uL_73 _ (Nat.le_of_ble_eq_true rfl) (Nat.le_of_ble_eq_true rfl)) (mm_recv C hM (kl (rfl : kT 0 = (5, 0))) (ci := 5) rfl (mm_e5 (rfl : kT 0 = (5, 0)))) hl.1 rfl rfl (Nat.le_of_ble_eq_true rfl) ⟨Nat.le_refl _, Nat.le_refl _⟩ dL_sound_319) (fun H locs hM hA hS => ?_)
  have hM : mm_P G kR 731 M H := hM
  refine lv_aload_n hx hb dL_sound_322 rfl (lv_at hl 0 rfl) ?_
  refine lv_iload hx hb dL_sound_323 (lv_at hl 10 rfl) ?_
  refine lv_iconst (v := 2) hx hb dL_sound_325 (by decide) ?_
  obtain ⟨r6, e5, heq⟩ := bn_of heq
  refine mm_klh hA hS hb0 hb1 (mm_runVh (o := 0) (rest := [.long r4, .long r2]) C hM hS hb1 (tX6_money l (gH G (b + 1)) M v10 2 r6 e5) (uL_73 _ (Nat.le_of_ble_eq_true rfl) (Nat.le_of_ble_eq_true rfl)) (mm_recv C hM (kl (rfl : kT 0 = (5, 0))) (ci := 5) rfl (mm_e5 (rfl : kT 0 = (5, 0)))) hl.1 rfl rfl (Nat.le_of_ble_eq_true rfl) ⟨Nat.le_refl _, Nat.le_refl _⟩ dL_sound_326) (fun H locs hM hA hS => ?_)
  have hM : mm_P G kR 731 M H := hM
  refine lv_lsub hx hb dL_sound_329 ?_
  refine lv_aload_n hx hb dL_sound_330 rfl (lv_at hl 0 rfl) ?_
  refine lv_iload hx hb dL_sound_331 (lv_at hl 10 rfl) ?_
  refine lv_iconst (v := 3) hx hb dL_sound_333 (by decide) ?_
  obtain ⟨r8, e7, heq⟩ := bn_of heq
  refine mm_klh hA hS hb0 hb1 (mm_runVh (o := 0) (rest := [.long (r4 - r6), .long r2]) C hM hS hb1 (tX6_money l (gH G (b + 1)) M v10 3 r8 e7) (uL_73 _ (Nat.le_of_ble_eq_true rfl) (Nat.le_of_ble_eq_true rfl)) (mm_recv C hM (kl (rfl : kT 0 = (5, 0))) (ci := 5) rfl (mm_e5 (rfl : kT 0 = (5, 0)))) hl.1 rfl rfl (Nat.le_of_ble_eq_true rfl) ⟨Nat.le_refl _, Nat.le_refl _⟩ dL_sound_334) (fun H locs hM hA hS => ?_)
  have hM : mm_P G kR 731 M H := hM
  refine lv_lsub hx hb dL_sound_337 ?_
  refine lv_aload_n hx hb dL_sound_338 rfl (lv_at hl 0 rfl) ?_
  refine lv_iload hx hb dL_sound_339 (lv_at hl 10 rfl) ?_
  refine lv_iconst (v := 4) hx hb dL_sound_341 (by decide) ?_
  obtain ⟨r10, e9, heq⟩ := bn_of heq
  refine mm_klh hA hS hb0 hb1 (mm_runVh (o := 0) (rest := [.long ((r4 - r6) - r8), .long r2]) C hM hS hb1 (tX6_money l (gH G (b + 1)) M v10 4 r10 e9) (uL_73 _ (Nat.le_of_ble_eq_true rfl) (Nat.le_of_ble_eq_true rfl)) (mm_recv C hM (kl (rfl : kT 0 = (5, 0))) (ci := 5) rfl (mm_e5 (rfl : kT 0 = (5, 0)))) hl.1 rfl rfl (Nat.le_of_ble_eq_true rfl) ⟨Nat.le_refl _, Nat.le_refl _⟩ dL_sound_342) (fun H locs hM hA hS => ?_)
  have hM : mm_P G kR 731 M H := hM
  refine lv_lsub hx hb dL_sound_345 ?_
  refine W.lcmp hx hb dL_sound_346 ?_
  refine lv_if_ne (tgt := 372) hx hb dL_sound_347 (by decide) (fun c11 => ?_) (fun c11 => ?_)
  · have heq := if_f c11 heq
    refine lv_iconst (v := 0) hx hb dL_sound_372 (by decide) ?_
    cases heq
    exact mm_zret C hM hS dL_sound_373
  · have heq := if_t c11 heq
    refine lv_aload_n hx hb dL_sound_350 rfl (lv_at hl 0 rfl) ?_
    refine lv_iload hx hb dL_sound_351 (lv_at hl 10 rfl) ?_
    refine lv_aload_n hx hb dL_sound_353 rfl (lv_at hl 0 rfl) ?_
    refine lv_iconst (v := 0) hx hb dL_sound_354 (by decide) ?_
    obtain ⟨r13, e12, heq⟩ := bn_of heq
    refine mm_kih hA hS hb0 hb1 (mm_runVh (o := 0) (rest := [.int v10, .ref (mm_lo G + 0)]) C hM hS hb1 (tX6_count l (gH G (b + 1)) M 0 r13 e12) (uL_60 _ (Nat.le_of_ble_eq_true rfl) (Nat.le_of_ble_eq_true rfl)) (mm_recv C hM (kl (rfl : kT 0 = (5, 0))) (ci := 5) rfl (mm_e5 (rfl : kT 0 = (5, 0)))) hl.1 rfl rfl (Nat.le_of_ble_eq_true rfl) ⟨Nat.le_refl _, Nat.le_refl _⟩ dL_sound_355) (fun H locs hM hA hS => ?_)
    have hM : mm_P G kR 731 M H := hM
    obtain ⟨r15, e14, heq⟩ := bn_of heq
    refine mm_kih hA hS hb0 hb1 (mm_runVh (o := 0) (rest := []) C hM hS hb1 (tX6_pointsOn l (gH G (b + 1)) M v10 r13 r15 e14) (uL_147 _ (Nat.le_of_ble_eq_true rfl) (Nat.le_of_ble_eq_true rfl)) (mm_recv C hM (kl (rfl : kT 0 = (5, 0))) (ci := 5) rfl (mm_e5 (rfl : kT 0 = (5, 0)))) hl.1 rfl rfl (Nat.le_of_ble_eq_true rfl) ⟨Nat.le_refl _, Nat.le_refl _⟩ dL_sound_358) (fun H locs hM hA hS => ?_)
    have hM : mm_P G kR 731 M H := hM
    refine lv_aload_n hx hb dL_sound_361 rfl (lv_at hl 0 rfl) ?_
    refine lv_iload hx hb dL_sound_362 (lv_at hl 10 rfl) ?_
    refine lv_bipush (v := 9) hx hb dL_sound_364 (by decide) ?_
    obtain ⟨r17, e16, heq⟩ := bn_of heq
    refine mm_kih hA hS hb0 hb1 (mm_runVh (o := 0) (rest := [.int r15]) C hM hS hb1 (tX6_ofCart l (gH G (b + 1)) M v10 9 r17 e16) (uL_66 _ (Nat.le_of_ble_eq_true rfl) (Nat.le_of_ble_eq_true rfl)) (mm_recv C hM (kl (rfl : kT 0 = (5, 0))) (ci := 5) rfl (mm_e5 (rfl : kT 0 = (5, 0)))) hl.1 rfl rfl (Nat.le_of_ble_eq_true rfl) ⟨Nat.le_refl _, Nat.le_refl _⟩ dL_sound_366) (fun H locs hM hA hS => ?_)
    have hM : mm_P G kR 731 M H := hM
    refine lv_icmp_eq (tgt := 374) hx hb dL_sound_369 (by decide) (fun c18 => ?_) (fun c18 => ?_)
    · have heq := if_t c18 heq
      refine lv_aload_n hx hb dL_sound_374 rfl (lv_at hl 0 rfl) ?_
      refine lv_iload hx hb dL_sound_375 (lv_at hl 10 rfl) ?_
      refine lv_bipush (v := 9) hx hb dL_sound_377 (by decide) ?_
      obtain ⟨r20, e19, heq⟩ := bn_of heq
      refine mm_kih hA hS hb0 hb1 (mm_runVh (o := 0) (rest := []) C hM hS hb1 (tX6_ofCart l (gH G (b + 1)) M v10 9 r20 e19) (uL_66 _ (Nat.le_of_ble_eq_true rfl) (Nat.le_of_ble_eq_true rfl)) (mm_recv C hM (kl (rfl : kT 0 = (5, 0))) (ci := 5) rfl (mm_e5 (rfl : kT 0 = (5, 0)))) hl.1 rfl rfl (Nat.le_of_ble_eq_true rfl) ⟨Nat.le_refl _, Nat.le_refl _⟩ dL_sound_379) (fun H locs hM hA hS => ?_)
      have hM : mm_P G kR 731 M H := hM
      refine lv_istore (lv' := [(15, .int r20), (0, .ref (mm_lo G + 0)), (1, .int v1), (2, .int v2), (3, .int v3), (4, .int v4), (5, .int v5), (6, .int v6), (7, .int v7), (8, .int v8), (9, .ref b), (10, .int v10)]) hx hb dL_sound_382 hl (by decide) rfl (fun ls hl => ?_)
      refine lv_iconst (v := 1) hx hb dL_sound_384 (by decide) ?_
      refine lv_istore (lv' := [(16, .int 1), (15, .int r20), (0, .ref (mm_lo G + 0)), (1, .int v1), (2, .int v2), (3, .int v3), (4, .int v4), (5, .int v5), (6, .int v6), (7, .int v7), (8, .int v8), (9, .ref b), (10, .int v10)]) hx hb dL_sound_385 hl (by decide) rfl (fun ls hl => ?_)
      exact tL_sound_387 C hb0 hb1 hk38 FU _ _ _ _ _ _ _ _ _ _ _ _ _ _ _ _ hM hA hS (lv_sub hl [2, 3, 4, 5, 6, 7, 8, 9, 10, 11, 12, 1, 0] rfl) heq
    · have heq := if_f c18 heq
      refine lv_iconst (v := 0) hx hb dL_sound_372 (by decide) ?_
      cases heq
      exact mm_zret C hM hS dL_sound_373

set_option maxRecDepth 100000 in
set_option maxHeartbeats 4000000 in
theorem tL_sound_215 (C : mm_C G p s m args meth c RL cL_sound 18 (some .boolean)) {b : Nat} (hb0 : mm_lo G + 731 ≤ b) (hb1 : G.2.2 4 ≤ b) {r : Bool} {M9 : mm_M} {k38 : mm_M → (Nat → Int32) → Int32 → Int32 → Int32 → Int32 → Int32 → Int32 → Int32 → Int32 → Int32 → Option (Bool × mm_M)} (hk38 : ∀ (M : mm_M) (F : (Nat → Int32)) (v1 : Int32) (v2 : Int32) (v3 : Int32) (v4 : Int32) (v5 : Int32) (v6 : Int32) (v7 : Int32) (v8 : Int32) (v10 : Int32) (H : Heap) (locs : List Loc) (ls : Array Slot), mm_P G kR 731 M H → mm_Ar G b 16 F H → va_S (mm_A G) s.heap H locs → lv_has ls 18 [(0, .ref (mm_lo G + 0)), (1, .int v1), (2, .int v2), (3, .int v3), (4, .int v4), (5, .int v5), (6, .int v6), (7, .int v7), (8, .int v8), (9, .ref b), (10, .int v10)] → k38 M F v1 v2 v3 v4 v5 v6 v7 v8 v10 = some (r, M9) → W p l e rmL_sound s m args below meth c H locs 1 16 (MQ below (mm_Qi G (b2i r) (kR, 731, M9)) args s 1 16 (mm_A G)) (F0 m 38 ls [])) : ∀ n : Nat, ∀ (M : mm_M) (F : (Nat → Int32)) (v1 : Int32) (v2 : Int32) (v3 : Int32) (v4 : Int32) (v5 : Int32) (v6 : Int32) (v7 : Int32) (v8 : Int32) (v10 : Int32) (v12 : Int32) (v15 : Int32) (H : Heap) (locs : List Loc) (ls : Array Slot), mm_P G kR 731 M H → mm_Ar G b 16 F H → va_S (mm_A G) s.heap H locs → lv_has ls 18 [(0, .ref (mm_lo G + 0)), (1, .int v1), (2, .int v2), (3, .int v3), (4, .int v4), (5, .int v5), (6, .int v6), (7, .int v7), (8, .int v8), (9, .ref b), (10, .int v10), (12, .int v12), (15, .int v15)] → fL_sound_215 k38 n M F v1 v2 v3 v4 v5 v6 v7 v8 v10 v12 v15 = some (r, M9) → W p l e rmL_sound s m args below meth c H locs 1 16 (MQ below (mm_Qi G (b2i r) (kR, 731, M9)) args s 1 16 (mm_A G)) (F0 m 215 ls []) := by
  obtain ⟨hx, hb, -, -, -, -, -, -, hZ, -⟩ := id C
  intro n
  induction n with
  | zero =>
    intro M F v1 v2 v3 v4 v5 v6 v7 v8 v10 v12 v15 H locs ls hM hA hS hl heq
    rw [fL_sound_215] at heq
    cases heq
  | succ n ih =>
    intro M F v1 v2 v3 v4 v5 v6 v7 v8 v10 v12 v15 H locs ls hM hA hS hl heq
    rw [fL_sound_215] at heq
    refine lv_iload hx hb dL_sound_215 (lv_at hl 12 rfl) ?_
    refine lv_iload hx hb dL_sound_217 (lv_at hl 11 rfl) ?_
    refine lv_aload_n hx hb dL_sound_219 rfl (lv_at hl 0 rfl) ?_
    refine lv_iload hx hb dL_sound_220 (lv_at hl 10 rfl) ?_
    refine lv_iconst (v := 1) hx hb dL_sound_222 (by decide) ?_
    obtain ⟨r2, e1, heq⟩ := bn_of heq
    refine mm_kih hA hS hb0 hb1 (mm_runVh (o := 0) (rest := [.int v12, .int v15]) C hM hS hb1 (tX6_ofCart l (gH G (b + 1)) M v10 1 r2 e1) (uL_66 _ (Nat.le_of_ble_eq_true rfl) (Nat.le_of_ble_eq_true rfl)) (mm_recv C hM (kl (rfl : kT 0 = (5, 0))) (ci := 5) rfl (mm_e5 (rfl : kT 0 = (5, 0)))) hl.1 rfl rfl (Nat.le_of_ble_eq_true rfl) ⟨Nat.le_refl _, Nat.le_refl _⟩ dL_sound_223) (fun H locs hM hA hS => ?_)
    have hM : mm_P G kR 731 M H := hM
    refine lv_iadd hx hb dL_sound_226 ?_
    refine lv_icmp_ge (tgt := 263) hx hb dL_sound_227 (by decide) (fun c3 => ?_) (fun c3 => ?_)
    · have heq := if_t c3 heq
      refine lv_goto (tgt := 308) hx hb dL_sound_263 (by decide) ?_
      exact tL_sound_308 C hb0 hb1 hk38 _ _ _ _ _ _ _ _ _ _ _ _ _ _ hM hA hS (lv_sub hl [0, 1, 2, 3, 4, 5, 6, 7, 8, 9, 10] rfl) heq
    · have heq := if_f c3 heq
      refine lv_aload hx hb dL_sound_230 (lv_at hl 9 rfl) ?_
      refine lv_iload hx hb dL_sound_232 (lv_at hl 12 rfl) ?_
      refine lv_dup2_11 hx hb dL_sound_234 rfl rfl ?_
      obtain ⟨g4, heq⟩ := gd_of heq
      refine ar_ld C hA (vp_in_of2 g4) dL_sound_235 ?_
      refine lv_iconst (v := 1) hx hb dL_sound_236 (by decide) ?_
      refine lv_iadd hx hb dL_sound_237 ?_
      refine ar_st C hM hA hS hb0 hb1 (vp_in_of2 g4) rfl dL_sound_238 (fun H locs hM hA hS => ?_)
      obtain ⟨F5, eF5⟩ : ∃ z : Nat → Int32, z = aS F v15.toNatClampNeg ((F v15.toNatClampNeg) + 1) := ⟨_, rfl⟩
      rw [← eF5] at hA
      have heq := lt_to eF5 heq
      refine lv_iload hx hb dL_sound_239 (lv_at hl 12 rfl) ?_
      refine lv_bipush (v := 13) hx hb dL_sound_241 (by decide) ?_
      refine lv_icmp_gt (tgt := 255) hx hb dL_sound_243 (by decide) (fun c6 => ?_) (fun c6 => ?_)
      · have heq := if_t c6 heq
        refine lv_iconst (v := 0) hx hb dL_sound_255 (by decide) ?_
        cases heq
        exact mm_zret C hM hS dL_sound_256
      · have heq := if_f c6 heq
        refine lv_aload hx hb dL_sound_246 (lv_at hl 9 rfl) ?_
        refine lv_iload hx hb dL_sound_248 (lv_at hl 12 rfl) ?_
        refine ar_ld C hA (vp_in_of2 g4) dL_sound_250 ?_
        refine lv_iconst (v := 2) hx hb dL_sound_251 (by decide) ?_
        refine lv_icmp_le (tgt := 257) hx hb dL_sound_252 (by decide) (fun c7 => ?_) (fun c7 => ?_)
        · have heq := if_t c7 heq
          obtain ⟨y8, ey8⟩ : ∃ y : Int32, y = (v15 + 1) := ⟨_, rfl⟩
          have heq := lt_to ey8 heq
          refine lv_iinc (v := y8) (lv' := [(15, .int y8), (0, .ref (mm_lo G + 0)), (1, .int v1), (2, .int v2), (3, .int v3), (4, .int v4), (5, .int v5), (6, .int v6), (7, .int v7), (8, .int v8), (9, .ref b), (10, .int v10), (12, .int v12)]) hx hb dL_sound_257 hl (k := 12) rfl (by rw [ey8]; rfl) (by decide) rfl (fun ls hl => ?_)
          refine lv_goto (tgt := 215) hx hb dL_sound_260 (by decide) ?_
          exact ih _ _ _ _ _ _ _ _ _ _ _ _ _ _ _ _ hM hA hS (lv_sub hl [1, 2, 3, 4, 5, 6, 7, 8, 9, 10, 11, 12, 0] rfl) heq
        · have heq := if_f c7 heq
          refine lv_iconst (v := 0) hx hb dL_sound_255 (by decide) ?_
          cases heq
          exact mm_zret C hM hS dL_sound_256

set_option maxRecDepth 100000 in
set_option maxHeartbeats 4000000 in
theorem tL_sound_303 (C : mm_C G p s m args meth c RL cL_sound 18 (some .boolean)) {b : Nat} (hb0 : mm_lo G + 731 ≤ b) (hb1 : G.2.2 4 ≤ b) {r : Bool} {M9 : mm_M} {k38 : mm_M → (Nat → Int32) → Int32 → Int32 → Int32 → Int32 → Int32 → Int32 → Int32 → Int32 → Int32 → Option (Bool × mm_M)} (hk38 : ∀ (M : mm_M) (F : (Nat → Int32)) (v1 : Int32) (v2 : Int32) (v3 : Int32) (v4 : Int32) (v5 : Int32) (v6 : Int32) (v7 : Int32) (v8 : Int32) (v10 : Int32) (H : Heap) (locs : List Loc) (ls : Array Slot), mm_P G kR 731 M H → mm_Ar G b 16 F H → va_S (mm_A G) s.heap H locs → lv_has ls 18 [(0, .ref (mm_lo G + 0)), (1, .int v1), (2, .int v2), (3, .int v3), (4, .int v4), (5, .int v5), (6, .int v6), (7, .int v7), (8, .int v8), (9, .ref b), (10, .int v10)] → k38 M F v1 v2 v3 v4 v5 v6 v7 v8 v10 = some (r, M9) → W p l e rmL_sound s m args below meth c H locs 1 16 (MQ below (mm_Qi G (b2i r) (kR, 731, M9)) args s 1 16 (mm_A G)) (F0 m 38 ls [])) : ∀ (M : mm_M) (F : (Nat → Int32)) (v1 : Int32) (v2 : Int32) (v3 : Int32) (v4 : Int32) (v5 : Int32) (v6 : Int32) (v7 : Int32) (v8 : Int32) (v10 : Int32) (t0 : Bool) (t1 : Bool) (H : Heap) (locs : List Loc) (ls : Array Slot), mm_P G kR 731 M H → mm_Ar G b 16 F H → va_S (mm_A G) s.heap H locs → lv_has ls 18 [(0, .ref (mm_lo G + 0)), (1, .int v1), (2, .int v2), (3, .int v3), (4, .int v4), (5, .int v5), (6, .int v6), (7, .int v7), (8, .int v8), (9, .ref b), (10, .int v10)] → fL_sound_303 k38 M F v1 v2 v3 v4 v5 v6 v7 v8 v10 t0 t1 = some (r, M9) → W p l e rmL_sound s m args below meth c H locs 1 16 (MQ below (mm_Qi G (b2i r) (kR, 731, M9)) args s 1 16 (mm_A G)) (F0 m 303 ls [.int (b2i t1), .int (b2i t0)]) := by
  obtain ⟨hx, hb, -, -, -, -, -, -, hZ, -⟩ := id C
  intro M F v1 v2 v3 v4 v5 v6 v7 v8 v10 t0 t1 H locs ls hM hA hS hl heq
  rw [fL_sound_303] at heq
  refine lv_icmp_eq (tgt := 308) hx hb dL_sound_303 (by decide) (fun c1 => ?_) (fun c1 => ?_)
  · have heq := if_t c1 heq
    exact tL_sound_308 C hb0 hb1 hk38 _ _ _ _ _ _ _ _ _ _ _ _ _ _ hM hA hS (lv_sub hl [0, 1, 2, 3, 4, 5, 6, 7, 8, 9, 10] rfl) heq
  · have heq := if_f c1 heq
    refine lv_iconst (v := 0) hx hb dL_sound_306 (by decide) ?_
    cases heq
    exact mm_zret C hM hS dL_sound_307

set_option maxRecDepth 100000 in
set_option maxHeartbeats 4000000 in
theorem tL_sound_293 (C : mm_C G p s m args meth c RL cL_sound 18 (some .boolean)) {b : Nat} (hb0 : mm_lo G + 731 ≤ b) (hb1 : G.2.2 4 ≤ b) {r : Bool} {M9 : mm_M} {k38 : mm_M → (Nat → Int32) → Int32 → Int32 → Int32 → Int32 → Int32 → Int32 → Int32 → Int32 → Int32 → Option (Bool × mm_M)} (hk38 : ∀ (M : mm_M) (F : (Nat → Int32)) (v1 : Int32) (v2 : Int32) (v3 : Int32) (v4 : Int32) (v5 : Int32) (v6 : Int32) (v7 : Int32) (v8 : Int32) (v10 : Int32) (H : Heap) (locs : List Loc) (ls : Array Slot), mm_P G kR 731 M H → mm_Ar G b 16 F H → va_S (mm_A G) s.heap H locs → lv_has ls 18 [(0, .ref (mm_lo G + 0)), (1, .int v1), (2, .int v2), (3, .int v3), (4, .int v4), (5, .int v5), (6, .int v6), (7, .int v7), (8, .int v8), (9, .ref b), (10, .int v10)] → k38 M F v1 v2 v3 v4 v5 v6 v7 v8 v10 = some (r, M9) → W p l e rmL_sound s m args below meth c H locs 1 16 (MQ below (mm_Qi G (b2i r) (kR, 731, M9)) args s 1 16 (mm_A G)) (F0 m 38 ls [])) : ∀ (M : mm_M) (F : (Nat → Int32)) (v1 : Int32) (v2 : Int32) (v3 : Int32) (v4 : Int32) (v5 : Int32) (v6 : Int32) (v7 : Int32) (v8 : Int32) (v10 : Int32) (v13 : Int32) (t0 : Bool) (H : Heap) (locs : List Loc) (ls : Array Slot), mm_P G kR 731 M H → mm_Ar G b 16 F H → va_S (mm_A G) s.heap H locs → lv_has ls 18 [(0, .ref (mm_lo G + 0)), (1, .int v1), (2, .int v2), (3, .int v3), (4, .int v4), (5, .int v5), (6, .int v6), (7, .int v7), (8, .int v8), (9, .ref b), (10, .int v10), (13, .int v13)] → fL_sound_293 k38 M F v1 v2 v3 v4 v5 v6 v7 v8 v10 v13 t0 = some (r, M9) → W p l e rmL_sound s m args below meth c H locs 1 16 (MQ below (mm_Qi G (b2i r) (kR, 731, M9)) args s 1 16 (mm_A G)) (F0 m 293 ls [.int (b2i t0)]) := by
  obtain ⟨hx, hb, -, -, -, -, -, -, hZ, -⟩ := id C
  intro M F v1 v2 v3 v4 v5 v6 v7 v8 v10 v13 t0 H locs ls hM hA hS hl heq
  rw [fL_sound_293] at heq
  refine lv_iload hx hb dL_sound_293 (lv_at hl 11 rfl) ?_
  refine lv_if_lt (tgt := 302) hx hb dL_sound_295 (by decide) (fun c1 => ?_) (fun c1 => ?_)
  · have heq := if_t c1 heq
    refine lv_iconst (v := 0) hx hb dL_sound_302 (by decide) ?_
    exact tL_sound_303 C hb0 hb1 hk38 _ _ _ _ _ _ _ _ _ _ _ _ _ _ _ _ hM hA hS (lv_sub hl [0, 1, 2, 3, 4, 5, 6, 7, 8, 9, 10] rfl) heq
  · have heq := if_f c1 heq
    refine lv_iconst (v := 1) hx hb dL_sound_298 (by decide) ?_
    refine lv_goto (tgt := 303) hx hb dL_sound_299 (by decide) ?_
    exact tL_sound_303 C hb0 hb1 hk38 _ _ _ _ _ _ _ _ _ _ _ _ _ _ _ _ hM hA hS (lv_sub hl [0, 1, 2, 3, 4, 5, 6, 7, 8, 9, 10] rfl) heq

set_option maxRecDepth 100000 in
set_option maxHeartbeats 4000000 in
theorem tL_sound_150 (C : mm_C G p s m args meth c RL cL_sound 18 (some .boolean)) {b : Nat} (hb0 : mm_lo G + 731 ≤ b) (hb1 : G.2.2 4 ≤ b) {r : Bool} {M9 : mm_M} {k38 : mm_M → (Nat → Int32) → Int32 → Int32 → Int32 → Int32 → Int32 → Int32 → Int32 → Int32 → Int32 → Option (Bool × mm_M)} (hk38 : ∀ (M : mm_M) (F : (Nat → Int32)) (v1 : Int32) (v2 : Int32) (v3 : Int32) (v4 : Int32) (v5 : Int32) (v6 : Int32) (v7 : Int32) (v8 : Int32) (v10 : Int32) (H : Heap) (locs : List Loc) (ls : Array Slot), mm_P G kR 731 M H → mm_Ar G b 16 F H → va_S (mm_A G) s.heap H locs → lv_has ls 18 [(0, .ref (mm_lo G + 0)), (1, .int v1), (2, .int v2), (3, .int v3), (4, .int v4), (5, .int v5), (6, .int v6), (7, .int v7), (8, .int v8), (9, .ref b), (10, .int v10)] → k38 M F v1 v2 v3 v4 v5 v6 v7 v8 v10 = some (r, M9) → W p l e rmL_sound s m args below meth c H locs 1 16 (MQ below (mm_Qi G (b2i r) (kR, 731, M9)) args s 1 16 (mm_A G)) (F0 m 38 ls [])) : ∀ (M : mm_M) (F : (Nat → Int32)) (v1 : Int32) (v2 : Int32) (v3 : Int32) (v4 : Int32) (v5 : Int32) (v6 : Int32) (v8 : Int32) (v10 : Int32) (v11 : Int32) (v12 : Int32) (v13 : Int32) (v14 : Int32) (t0 : Int32) (H : Heap) (locs : List Loc) (ls : Array Slot), mm_P G kR 731 M H → mm_Ar G b 16 F H → va_S (mm_A G) s.heap H locs → lv_has ls 18 [(0, .ref (mm_lo G + 0)), (1, .int v1), (2, .int v2), (3, .int v3), (4, .int v4), (5, .int v5), (6, .int v6), (8, .int v8), (9, .ref b), (10, .int v10), (11, .int v11), (12, .int v12), (13, .int v13), (14, .int v14)] → fL_sound_150 k38 M F v1 v2 v3 v4 v5 v6 v8 v10 v11 v12 v13 v14 t0 = some (r, M9) → W p l e rmL_sound s m args below meth c H locs 1 16 (MQ below (mm_Qi G (b2i r) (kR, 731, M9)) args s 1 16 (mm_A G)) (F0 m 150 ls [.int t0]) := by
  obtain ⟨hx, hb, -, -, -, -, -, -, hZ, -⟩ := id C
  intro M F v1 v2 v3 v4 v5 v6 v8 v10 v11 v12 v13 v14 t0 H locs ls hM hA hS hl heq
  rw [fL_sound_150] at heq
  refine lv_istore (lv' := [(7, .int t0), (0, .ref (mm_lo G + 0)), (1, .int v1), (2, .int v2), (3, .int v3), (4, .int v4), (5, .int v5), (6, .int v6), (8, .int v8), (9, .ref b), (10, .int v10), (11, .int v11), (12, .int v12), (13, .int v13), (14, .int v14)]) hx hb dL_sound_150 hl (by decide) rfl (fun ls hl => ?_)
  refine lv_iload hx hb dL_sound_152 (lv_at hl 11 rfl) ?_
  refine lv_if_lt (tgt := 266) hx hb dL_sound_154 (by decide) (fun c1 => ?_) (fun c1 => ?_)
  · have heq := if_t c1 heq
    refine lv_iload hx hb dL_sound_266 (lv_at hl 12 rfl) ?_
    refine lv_if_ge (tgt := 306) hx hb dL_sound_268 (by decide) (fun c2 => ?_) (fun c2 => ?_)
    · have heq := if_t c2 heq
      refine lv_iconst (v := 0) hx hb dL_sound_306 (by decide) ?_
      cases heq
      exact mm_zret C hM hS dL_sound_307
    · have heq := if_f c2 heq
      refine lv_iload hx hb dL_sound_271 (lv_at hl 14 rfl) ?_
      refine lv_if_lt (tgt := 306) hx hb dL_sound_273 (by decide) (fun c3 => ?_) (fun c3 => ?_)
      · have heq := if_t c3 heq
        refine lv_iconst (v := 0) hx hb dL_sound_306 (by decide) ?_
        cases heq
        exact mm_zret C hM hS dL_sound_307
      · have heq := if_f c3 heq
        refine lv_iload hx hb dL_sound_276 (lv_at hl 14 rfl) ?_
        refine lv_iconst (v := 5) hx hb dL_sound_278 (by decide) ?_
        refine lv_icmp_gt (tgt := 306) hx hb dL_sound_279 (by decide) (fun c4 => ?_) (fun c4 => ?_)
        · have heq := if_t c4 heq
          refine lv_iconst (v := 0) hx hb dL_sound_306 (by decide) ?_
          cases heq
          exact mm_zret C hM hS dL_sound_307
        · have heq := if_f c4 heq
          refine lv_iload hx hb dL_sound_282 (lv_at hl 14 rfl) ?_
          refine lv_iconst (v := 3) hx hb dL_sound_284 (by decide) ?_
          refine lv_icmp_le (tgt := 292) hx hb dL_sound_285 (by decide) (fun c5 => ?_) (fun c5 => ?_)
          · have heq := if_t c5 heq
            refine lv_iconst (v := 0) hx hb dL_sound_292 (by decide) ?_
            exact tL_sound_293 C hb0 hb1 hk38 _ _ _ _ _ _ _ _ _ _ _ _ _ _ _ _ hM hA hS (lv_sub hl [1, 2, 3, 4, 5, 6, 7, 0, 8, 9, 10, 13] rfl) heq
          · have heq := if_f c5 heq
            refine lv_iconst (v := 1) hx hb dL_sound_288 (by decide) ?_
            refine lv_goto (tgt := 293) hx hb dL_sound_289 (by decide) ?_
            exact tL_sound_293 C hb0 hb1 hk38 _ _ _ _ _ _ _ _ _ _ _ _ _ _ _ _ hM hA hS (lv_sub hl [1, 2, 3, 4, 5, 6, 7, 0, 8, 9, 10, 13] rfl) heq
  · have heq := if_f c1 heq
    obtain ⟨y6, ey6⟩ : ∃ y : Int32, y = (v5 + 1) := ⟨_, rfl⟩
    have heq := lt_to ey6 heq
    refine lv_iinc (v := y6) (lv' := [(5, .int y6), (7, .int t0), (0, .ref (mm_lo G + 0)), (1, .int v1), (2, .int v2), (3, .int v3), (4, .int v4), (6, .int v6), (8, .int v8), (9, .ref b), (10, .int v10), (11, .int v11), (12, .int v12), (13, .int v13), (14, .int v14)]) hx hb dL_sound_157 hl (k := 6) rfl (by rw [ey6]; rfl) (by decide) rfl (fun ls hl => ?_)
    refine lv_aload_n hx hb dL_sound_160 rfl (lv_at hl 2 rfl) ?_
    refine lv_iload hx hb dL_sound_161 (lv_at hl 11 rfl) ?_
    refine lv_iconst (v := 3) hx hb dL_sound_163 (by decide) ?_
    obtain ⟨r8, e7, heq⟩ := bn_of heq
    refine mm_kih hA hS hb0 hb1 (mm_runVh (o := 0) (rest := []) C hM hS hb1 (tX6_ofPitch l (gH G (b + 1)) M v11 3 r8 e7) (uL_90 _ (Nat.le_of_ble_eq_true rfl) (Nat.le_of_ble_eq_true rfl)) (mm_recv C hM (kl (rfl : kT 0 = (5, 0))) (ci := 5) rfl (mm_e5 (rfl : kT 0 = (5, 0)))) hl.1 rfl rfl (Nat.le_of_ble_eq_true rfl) ⟨Nat.le_refl _, Nat.le_refl _⟩ dL_sound_164) (fun H locs hM hA hS => ?_)
    have hM : mm_P G kR 731 M H := hM
    refine lv_iload hx hb dL_sound_167 (lv_at hl 10 rfl) ?_
    refine lv_icmp_ne (tgt := 209) hx hb dL_sound_169 (by decide) (fun c9 => ?_) (fun c9 => ?_)
    · have heq := if_f c9 heq
      refine lv_iconst (v := 0) hx hb dL_sound_209 (by decide) ?_
      cases heq
      exact mm_zret C hM hS dL_sound_210
    · have heq := if_t c9 heq
      refine lv_iload hx hb dL_sound_172 (lv_at hl 14 rfl) ?_
      refine lv_if_ne (tgt := 209) hx hb dL_sound_174 (by decide) (fun c10 => ?_) (fun c10 => ?_)
      · have heq := if_f c10 heq
        refine lv_iconst (v := 0) hx hb dL_sound_209 (by decide) ?_
        cases heq
        exact mm_zret C hM hS dL_sound_210
      · have heq := if_t c10 heq
        refine lv_iload hx hb dL_sound_177 (lv_at hl 12 rfl) ?_
        refine lv_if_lt (tgt := 209) hx hb dL_sound_179 (by decide) (fun c11 => ?_) (fun c11 => ?_)
        · have heq := if_t c11 heq
          refine lv_iconst (v := 0) hx hb dL_sound_209 (by decide) ?_
          cases heq
          exact mm_zret C hM hS dL_sound_210
        · have heq := if_f c11 heq
          refine lv_iload hx hb dL_sound_182 (lv_at hl 13 rfl) ?_
          refine lv_if_lt (tgt := 209) hx hb dL_sound_184 (by decide) (fun c12 => ?_) (fun c12 => ?_)
          · have heq := if_t c12 heq
            refine lv_iconst (v := 0) hx hb dL_sound_209 (by decide) ?_
            cases heq
            exact mm_zret C hM hS dL_sound_210
          · have heq := if_f c12 heq
            refine lv_aload_n hx hb dL_sound_187 rfl (lv_at hl 2 rfl) ?_
            refine lv_iload hx hb dL_sound_188 (lv_at hl 10 rfl) ?_
            refine lv_bipush (v := 6) hx hb dL_sound_190 (by decide) ?_
            obtain ⟨r14, e13, heq⟩ := bn_of heq
            refine mm_kih hA hS hb0 hb1 (mm_runVh (o := 0) (rest := []) C hM hS hb1 (tX6_ofCart l (gH G (b + 1)) M v10 6 r14 e13) (uL_66 _ (Nat.le_of_ble_eq_true rfl) (Nat.le_of_ble_eq_true rfl)) (mm_recv C hM (kl (rfl : kT 0 = (5, 0))) (ci := 5) rfl (mm_e5 (rfl : kT 0 = (5, 0)))) hl.1 rfl rfl (Nat.le_of_ble_eq_true rfl) ⟨Nat.le_refl _, Nat.le_refl _⟩ dL_sound_192) (fun H locs hM hA hS => ?_)
            have hM : mm_P G kR 731 M H := hM
            refine lv_if_ne (tgt := 209) hx hb dL_sound_195 (by decide) (fun c15 => ?_) (fun c15 => ?_)
            · have heq := if_f c15 heq
              refine lv_iconst (v := 0) hx hb dL_sound_209 (by decide) ?_
              cases heq
              exact mm_zret C hM hS dL_sound_210
            · have heq := if_t c15 heq
              refine lv_aload_n hx hb dL_sound_198 rfl (lv_at hl 2 rfl) ?_
              refine lv_iload hx hb dL_sound_199 (lv_at hl 10 rfl) ?_
              refine lv_iload hx hb dL_sound_201 (lv_at hl 11 rfl) ?_
              obtain ⟨r17, e16, heq⟩ := bn_of heq
              refine mm_kih hA hS hb0 hb1 (mm_runVh (o := 0) (rest := []) C hM hS hb1 (tX6_whyNot l (gH G (b + 1)) M v10 v11 r17 e16) (uL_144 _ (Nat.le_of_ble_eq_true rfl) (Nat.le_of_ble_eq_true rfl)) (mm_recv C hM (kl (rfl : kT 0 = (5, 0))) (ci := 5) rfl (mm_e5 (rfl : kT 0 = (5, 0)))) hl.1 rfl rfl (Nat.le_of_ble_eq_true rfl) ⟨Nat.le_refl _, Nat.le_refl _⟩ dL_sound_203) (fun H locs hM hA hS => ?_)
              have hM : mm_P G kR 731 M H := hM
              refine lv_if_eq (tgt := 211) hx hb dL_sound_206 (by decide) (fun c18 => ?_) (fun c18 => ?_)
              · have heq := if_t c18 heq
                refine lv_iload hx hb dL_sound_211 (lv_at hl 12 rfl) ?_
                refine lv_istore (lv' := [(15, .int v12), (5, .int y6), (7, .int t0), (0, .ref (mm_lo G + 0)), (1, .int v1), (2, .int v2), (3, .int v3), (4, .int v4), (6, .int v6), (8, .int v8), (9, .ref b), (10, .int v10), (11, .int v11), (12, .int v12), (13, .int v13), (14, .int v14)]) hx hb dL_sound_213 hl (by decide) rfl (fun ls hl => ?_)
                exact tL_sound_215 C hb0 hb1 hk38 FU _ _ _ _ _ _ _ _ _ _ _ _ _ _ _ _ hM hA hS (lv_sub hl [3, 4, 5, 6, 7, 1, 8, 2, 9, 10, 11, 13, 0] rfl) heq
              · have heq := if_f c18 heq
                refine lv_iconst (v := 0) hx hb dL_sound_209 (by decide) ?_
                cases heq
                exact mm_zret C hM hS dL_sound_210

set_option maxRecDepth 100000 in
set_option maxHeartbeats 4000000 in
theorem tL_sound_133 (C : mm_C G p s m args meth c RL cL_sound 18 (some .boolean)) {b : Nat} (hb0 : mm_lo G + 731 ≤ b) (hb1 : G.2.2 4 ≤ b) {r : Bool} {M9 : mm_M} {k38 : mm_M → (Nat → Int32) → Int32 → Int32 → Int32 → Int32 → Int32 → Int32 → Int32 → Int32 → Int32 → Option (Bool × mm_M)} (hk38 : ∀ (M : mm_M) (F : (Nat → Int32)) (v1 : Int32) (v2 : Int32) (v3 : Int32) (v4 : Int32) (v5 : Int32) (v6 : Int32) (v7 : Int32) (v8 : Int32) (v10 : Int32) (H : Heap) (locs : List Loc) (ls : Array Slot), mm_P G kR 731 M H → mm_Ar G b 16 F H → va_S (mm_A G) s.heap H locs → lv_has ls 18 [(0, .ref (mm_lo G + 0)), (1, .int v1), (2, .int v2), (3, .int v3), (4, .int v4), (5, .int v5), (6, .int v6), (7, .int v7), (8, .int v8), (9, .ref b), (10, .int v10)] → k38 M F v1 v2 v3 v4 v5 v6 v7 v8 v10 = some (r, M9) → W p l e rmL_sound s m args below meth c H locs 1 16 (MQ below (mm_Qi G (b2i r) (kR, 731, M9)) args s 1 16 (mm_A G)) (F0 m 38 ls [])) : ∀ (M : mm_M) (F : (Nat → Int32)) (v1 : Int32) (v2 : Int32) (v3 : Int32) (v4 : Int32) (v5 : Int32) (v7 : Int32) (v8 : Int32) (v10 : Int32) (v11 : Int32) (v12 : Int32) (v13 : Int32) (v14 : Int32) (t0 : Int32) (t1 : Bool) (H : Heap) (locs : List Loc) (ls : Array Slot), mm_P G kR 731 M H → mm_Ar G b 16 F H → va_S (mm_A G) s.heap H locs → lv_has ls 18 [(0, .ref (mm_lo G + 0)), (1, .int v1), (2, .int v2), (3, .int v3), (4, .int v4), (5, .int v5), (7, .int v7), (8, .int v8), (9, .ref b), (10, .int v10), (11, .int v11), (12, .int v12), (13, .int v13), (14, .int v14)] → fL_sound_133 k38 M F v1 v2 v3 v4 v5 v7 v8 v10 v11 v12 v13 v14 t0 t1 = some (r, M9) → W p l e rmL_sound s m args below meth c H locs 1 16 (MQ below (mm_Qi G (b2i r) (kR, 731, M9)) args s 1 16 (mm_A G)) (F0 m 133 ls [.int (b2i t1), .int t0]) := by
  obtain ⟨hx, hb, -, -, -, -, -, -, hZ, -⟩ := id C
  intro M F v1 v2 v3 v4 v5 v7 v8 v10 v11 v12 v13 v14 t0 t1 H locs ls hM hA hS hl heq
  rw [fL_sound_133] at heq
  refine lv_iadd hx hb dL_sound_133 ?_
  refine lv_topi (fun y1 ey1 => ?_)
  have heq := lt_to ey1 heq
  refine lv_istore (lv' := [(6, .int y1), (0, .ref (mm_lo G + 0)), (1, .int v1), (2, .int v2), (3, .int v3), (4, .int v4), (5, .int v5), (7, .int v7), (8, .int v8), (9, .ref b), (10, .int v10), (11, .int v11), (12, .int v12), (13, .int v13), (14, .int v14)]) hx hb dL_sound_134 hl (by decide) rfl (fun ls hl => ?_)
  refine lv_iload hx hb dL_sound_136 (lv_at hl 13 rfl) ?_
  refine lv_iload hx hb dL_sound_138 (lv_at hl 7 rfl) ?_
  refine lv_icmp_le (tgt := 148) hx hb dL_sound_140 (by decide) (fun c2 => ?_) (fun c2 => ?_)
  · have heq := if_t c2 heq
    refine lv_iload hx hb dL_sound_148 (lv_at hl 7 rfl) ?_
    exact tL_sound_150 C hb0 hb1 hk38 _ _ _ _ _ _ _ _ _ _ _ _ _ _ _ _ _ _ hM hA hS (lv_sub hl [1, 2, 3, 4, 5, 6, 0, 8, 9, 10, 11, 12, 13, 14] rfl) heq
  · have heq := if_f c2 heq
    refine lv_iload hx hb dL_sound_143 (lv_at hl 13 rfl) ?_
    refine lv_goto (tgt := 150) hx hb dL_sound_145 (by decide) ?_
    exact tL_sound_150 C hb0 hb1 hk38 _ _ _ _ _ _ _ _ _ _ _ _ _ _ _ _ _ _ hM hA hS (lv_sub hl [1, 2, 3, 4, 5, 6, 0, 8, 9, 10, 11, 12, 13, 14] rfl) heq

set_option maxRecDepth 100000 in
set_option maxHeartbeats 4000000 in
theorem tL_sound_640 (C : mm_C G p s m args meth c RL cL_sound 18 (some .boolean)) {b : Nat} (hb0 : mm_lo G + 731 ≤ b) (hb1 : G.2.2 4 ≤ b) {r : Bool} {M9 : mm_M} {k603 : mm_M → (Nat → Int32) → Int32 → Int32 → Int32 → Int32 → Int32 → Int32 → Int32 → Int32 → Int32 → Int32 → Int32 → Int32 → Int32 → Int32 → Int32 → Option (Bool × mm_M)} (hk603 : ∀ (M : mm_M) (F : (Nat → Int32)) (v1 : Int32) (v2 : Int32) (v3 : Int32) (v4 : Int32) (v5 : Int32) (v6 : Int32) (v7 : Int32) (v8 : Int32) (v10 : Int32) (v11 : Int32) (v12 : Int32) (v13 : Int32) (v14 : Int32) (v15 : Int32) (v16 : Int32) (H : Heap) (locs : List Loc) (ls : Array Slot), mm_P G kR 731 M H → mm_Ar G b 16 F H → va_S (mm_A G) s.heap H locs → lv_has ls 18 [(0, .ref (mm_lo G + 0)), (1, .int v1), (2, .int v2), (3, .int v3), (4, .int v4), (5, .int v5), (6, .int v6), (7, .int v7), (8, .int v8), (10, .int v10), (11, .int v11), (12, .int v12), (13, .int v13), (14, .int v14), (15, .int v15), (16, .int v16)] → k603 M F v1 v2 v3 v4 v5 v6 v7 v8 v10 v11 v12 v13 v14 v15 v16 = some (r, M9) → W p l e rmL_sound s m args below meth c H locs 1 16 (MQ below (mm_Qi G (b2i r) (kR, 731, M9)) args s 1 16 (mm_A G)) (F0 m 603 ls [])) : ∀ (M : mm_M) (F : (Nat → Int32)) (v1 : Int32) (v2 : Int32) (v3 : Int32) (v4 : Int32) (v5 : Int32) (v6 : Int32) (v7 : Int32) (v8 : Int32) (v10 : Int32) (v11 : Int32) (v12 : Int32) (v13 : Int32) (v14 : Int32) (v16 : Int32) (t0 : Int32) (H : Heap) (locs : List Loc) (ls : Array Slot), mm_P G kR 731 M H → mm_Ar G b 16 F H → va_S (mm_A G) s.heap H locs → lv_has ls 18 [(0, .ref (mm_lo G + 0)), (1, .int v1), (2, .int v2), (3, .int v3), (4, .int v4), (5, .int v5), (6, .int v6), (7, .int v7), (8, .int v8), (10, .int v10), (11, .int v11), (12, .int v12), (13, .int v13), (14, .int v14), (16, .int v16)] → fL_sound_640 k603 M F v1 v2 v3 v4 v5 v6 v7 v8 v10 v11 v12 v13 v14 v16 t0 = some (r, M9) → W p l e rmL_sound s m args below meth c H locs 1 16 (MQ below (mm_Qi G (b2i r) (kR, 731, M9)) args s 1 16 (mm_A G)) (F0 m 640 ls [.int t0]) := by
  obtain ⟨hx, hb, -, -, -, -, -, -, hZ, -⟩ := id C
  intro M F v1 v2 v3 v4 v5 v6 v7 v8 v10 v11 v12 v13 v14 v16 t0 H locs ls hM hA hS hl heq
  rw [fL_sound_640] at heq
  refine lv_istore (lv' := [(17, .int t0), (0, .ref (mm_lo G + 0)), (1, .int v1), (2, .int v2), (3, .int v3), (4, .int v4), (5, .int v5), (6, .int v6), (7, .int v7), (8, .int v8), (10, .int v10), (11, .int v11), (12, .int v12), (13, .int v13), (14, .int v14), (16, .int v16)]) hx hb dL_sound_640 hl (by decide) rfl (fun ls hl => ?_)
  refine lv_iload hx hb dL_sound_642 (lv_at hl 0 rfl) ?_
  refine lv_if_lt (tgt := 675) hx hb dL_sound_644 (by decide) (fun c1 => ?_) (fun c1 => ?_)
  · have heq := if_t c1 heq
    refine lv_iconst (v := 0) hx hb dL_sound_675 (by decide) ?_
    refine lv_istore (lv' := [(15, .int 0), (17, .int t0), (0, .ref (mm_lo G + 0)), (1, .int v1), (2, .int v2), (3, .int v3), (4, .int v4), (5, .int v5), (6, .int v6), (7, .int v7), (8, .int v8), (10, .int v10), (11, .int v11), (12, .int v12), (13, .int v13), (14, .int v14), (16, .int v16)]) hx hb dL_sound_676 hl (by decide) rfl (fun ls hl => ?_)
    obtain ⟨y2, ey2⟩ : ∃ y : Int32, y = (v16 + 2) := ⟨_, rfl⟩
    have heq := lt_to ey2 heq
    refine lv_iinc (v := y2) (lv' := [(16, .int y2), (15, .int 0), (17, .int t0), (0, .ref (mm_lo G + 0)), (1, .int v1), (2, .int v2), (3, .int v3), (4, .int v4), (5, .int v5), (6, .int v6), (7, .int v7), (8, .int v8), (10, .int v10), (11, .int v11), (12, .int v12), (13, .int v13), (14, .int v14)]) hx hb dL_sound_678 hl (k := 16) rfl (by rw [ey2]; rfl) (by decide) rfl (fun ls hl => ?_)
    refine lv_goto (tgt := 603) hx hb dL_sound_681 (by decide) ?_
    exact hk603 _ _ _ _ _ _ _ _ _ _ _ _ _ _ _ _ _ _ _ _ hM hA hS (lv_sub hl [3, 4, 5, 6, 7, 8, 9, 10, 11, 12, 13, 14, 15, 16, 1, 0] rfl) heq
  · have heq := if_f c1 heq
    refine lv_iload hx hb dL_sound_647 (lv_at hl 0 rfl) ?_
    refine lv_iload hx hb dL_sound_649 (lv_at hl 14 rfl) ?_
    refine lv_icmp_eq (tgt := 675) hx hb dL_sound_651 (by decide) (fun c3 => ?_) (fun c3 => ?_)
    · have heq := if_t c3 heq
      refine lv_iconst (v := 0) hx hb dL_sound_675 (by decide) ?_
      refine lv_istore (lv' := [(15, .int 0), (17, .int t0), (0, .ref (mm_lo G + 0)), (1, .int v1), (2, .int v2), (3, .int v3), (4, .int v4), (5, .int v5), (6, .int v6), (7, .int v7), (8, .int v8), (10, .int v10), (11, .int v11), (12, .int v12), (13, .int v13), (14, .int v14), (16, .int v16)]) hx hb dL_sound_676 hl (by decide) rfl (fun ls hl => ?_)
      obtain ⟨y4, ey4⟩ : ∃ y : Int32, y = (v16 + 2) := ⟨_, rfl⟩
      have heq := lt_to ey4 heq
      refine lv_iinc (v := y4) (lv' := [(16, .int y4), (15, .int 0), (17, .int t0), (0, .ref (mm_lo G + 0)), (1, .int v1), (2, .int v2), (3, .int v3), (4, .int v4), (5, .int v5), (6, .int v6), (7, .int v7), (8, .int v8), (10, .int v10), (11, .int v11), (12, .int v12), (13, .int v13), (14, .int v14)]) hx hb dL_sound_678 hl (k := 16) rfl (by rw [ey4]; rfl) (by decide) rfl (fun ls hl => ?_)
      refine lv_goto (tgt := 603) hx hb dL_sound_681 (by decide) ?_
      exact hk603 _ _ _ _ _ _ _ _ _ _ _ _ _ _ _ _ _ _ _ _ hM hA hS (lv_sub hl [3, 4, 5, 6, 7, 8, 9, 10, 11, 12, 13, 14, 15, 16, 1, 0] rfl) heq
    · have heq := if_f c3 heq
      refine lv_aload_n hx hb dL_sound_654 rfl (lv_at hl 1 rfl) ?_
      refine lv_iload hx hb dL_sound_655 (lv_at hl 0 rfl) ?_
      refine lv_iconst (v := 0) hx hb dL_sound_657 (by decide) ?_
      obtain ⟨r6, e5, heq⟩ := bn_of heq
      refine mm_kih hA hS hb0 hb1 (mm_runVh (o := 0) (rest := []) C hM hS hb1 (tX6_ofCart l (gH G (b + 1)) M t0 0 r6 e5) (uL_66 _ (Nat.le_of_ble_eq_true rfl) (Nat.le_of_ble_eq_true rfl)) (mm_recv C hM (kl (rfl : kT 0 = (5, 0))) (ci := 5) rfl (mm_e5 (rfl : kT 0 = (5, 0)))) hl.1 rfl rfl (Nat.le_of_ble_eq_true rfl) ⟨Nat.le_refl _, Nat.le_refl _⟩ dL_sound_658) (fun H locs hM hA hS => ?_)
      have hM : mm_P G kR 731 M H := hM
      refine lv_aload_n hx hb dL_sound_661 rfl (lv_at hl 1 rfl) ?_
      refine lv_iload hx hb dL_sound_662 (lv_at hl 14 rfl) ?_
      refine lv_iconst (v := 0) hx hb dL_sound_664 (by decide) ?_
      obtain ⟨r8, e7, heq⟩ := bn_of heq
      refine mm_kih hA hS hb0 hb1 (mm_runVh (o := 0) (rest := [.int r6]) C hM hS hb1 (tX6_ofCart l (gH G (b + 1)) M v14 0 r8 e7) (uL_66 _ (Nat.le_of_ble_eq_true rfl) (Nat.le_of_ble_eq_true rfl)) (mm_recv C hM (kl (rfl : kT 0 = (5, 0))) (ci := 5) rfl (mm_e5 (rfl : kT 0 = (5, 0)))) hl.1 rfl rfl (Nat.le_of_ble_eq_true rfl) ⟨Nat.le_refl _, Nat.le_refl _⟩ dL_sound_665) (fun H locs hM hA hS => ?_)
      have hM : mm_P G kR 731 M H := hM
      refine lv_icmp_ne (tgt := 675) hx hb dL_sound_668 (by decide) (fun c9 => ?_) (fun c9 => ?_)
      · have heq := if_f c9 heq
        refine lv_iconst (v := 0) hx hb dL_sound_675 (by decide) ?_
        refine lv_istore (lv' := [(15, .int 0), (17, .int t0), (0, .ref (mm_lo G + 0)), (1, .int v1), (2, .int v2), (3, .int v3), (4, .int v4), (5, .int v5), (6, .int v6), (7, .int v7), (8, .int v8), (10, .int v10), (11, .int v11), (12, .int v12), (13, .int v13), (14, .int v14), (16, .int v16)]) hx hb dL_sound_676 hl (by decide) rfl (fun ls hl => ?_)
        obtain ⟨y10, ey10⟩ : ∃ y : Int32, y = (v16 + 2) := ⟨_, rfl⟩
        have heq := lt_to ey10 heq
        refine lv_iinc (v := y10) (lv' := [(16, .int y10), (15, .int 0), (17, .int t0), (0, .ref (mm_lo G + 0)), (1, .int v1), (2, .int v2), (3, .int v3), (4, .int v4), (5, .int v5), (6, .int v6), (7, .int v7), (8, .int v8), (10, .int v10), (11, .int v11), (12, .int v12), (13, .int v13), (14, .int v14)]) hx hb dL_sound_678 hl (k := 16) rfl (by rw [ey10]; rfl) (by decide) rfl (fun ls hl => ?_)
        refine lv_goto (tgt := 603) hx hb dL_sound_681 (by decide) ?_
        exact hk603 _ _ _ _ _ _ _ _ _ _ _ _ _ _ _ _ _ _ _ _ hM hA hS (lv_sub hl [3, 4, 5, 6, 7, 8, 9, 10, 11, 12, 13, 14, 15, 16, 1, 0] rfl) heq
      · have heq := if_t c9 heq
        refine lv_iconst (v := 2) hx hb dL_sound_671 (by decide) ?_
        refine lv_goto (tgt := 676) hx hb dL_sound_672 (by decide) ?_
        refine lv_istore (lv' := [(15, .int 2), (17, .int t0), (0, .ref (mm_lo G + 0)), (1, .int v1), (2, .int v2), (3, .int v3), (4, .int v4), (5, .int v5), (6, .int v6), (7, .int v7), (8, .int v8), (10, .int v10), (11, .int v11), (12, .int v12), (13, .int v13), (14, .int v14), (16, .int v16)]) hx hb dL_sound_676 hl (by decide) rfl (fun ls hl => ?_)
        obtain ⟨y11, ey11⟩ : ∃ y : Int32, y = (v16 + 2) := ⟨_, rfl⟩
        have heq := lt_to ey11 heq
        refine lv_iinc (v := y11) (lv' := [(16, .int y11), (15, .int 2), (17, .int t0), (0, .ref (mm_lo G + 0)), (1, .int v1), (2, .int v2), (3, .int v3), (4, .int v4), (5, .int v5), (6, .int v6), (7, .int v7), (8, .int v8), (10, .int v10), (11, .int v11), (12, .int v12), (13, .int v13), (14, .int v14)]) hx hb dL_sound_678 hl (k := 16) rfl (by rw [ey11]; rfl) (by decide) rfl (fun ls hl => ?_)
        refine lv_goto (tgt := 603) hx hb dL_sound_681 (by decide) ?_
        exact hk603 _ _ _ _ _ _ _ _ _ _ _ _ _ _ _ _ _ _ _ _ hM hA hS (lv_sub hl [3, 4, 5, 6, 7, 8, 9, 10, 11, 12, 13, 14, 15, 16, 1, 0] rfl) heq

set_option maxRecDepth 100000 in
set_option maxHeartbeats 4000000 in
theorem tL_sound_628 (C : mm_C G p s m args meth c RL cL_sound 18 (some .boolean)) {b : Nat} (hb0 : mm_lo G + 731 ≤ b) (hb1 : G.2.2 4 ≤ b) {r : Bool} {M9 : mm_M} {k603 : mm_M → (Nat → Int32) → Int32 → Int32 → Int32 → Int32 → Int32 → Int32 → Int32 → Int32 → Int32 → Int32 → Int32 → Int32 → Int32 → Int32 → Int32 → Option (Bool × mm_M)} (hk603 : ∀ (M : mm_M) (F : (Nat → Int32)) (v1 : Int32) (v2 : Int32) (v3 : Int32) (v4 : Int32) (v5 : Int32) (v6 : Int32) (v7 : Int32) (v8 : Int32) (v10 : Int32) (v11 : Int32) (v12 : Int32) (v13 : Int32) (v14 : Int32) (v15 : Int32) (v16 : Int32) (H : Heap) (locs : List Loc) (ls : Array Slot), mm_P G kR 731 M H → mm_Ar G b 16 F H → va_S (mm_A G) s.heap H locs → lv_has ls 18 [(0, .ref (mm_lo G + 0)), (1, .int v1), (2, .int v2), (3, .int v3), (4, .int v4), (5, .int v5), (6, .int v6), (7, .int v7), (8, .int v8), (10, .int v10), (11, .int v11), (12, .int v12), (13, .int v13), (14, .int v14), (15, .int v15), (16, .int v16)] → k603 M F v1 v2 v3 v4 v5 v6 v7 v8 v10 v11 v12 v13 v14 v15 v16 = some (r, M9) → W p l e rmL_sound s m args below meth c H locs 1 16 (MQ below (mm_Qi G (b2i r) (kR, 731, M9)) args s 1 16 (mm_A G)) (F0 m 603 ls [])) : ∀ (M : mm_M) (F : (Nat → Int32)) (v1 : Int32) (v2 : Int32) (v3 : Int32) (v4 : Int32) (v5 : Int32) (v6 : Int32) (v7 : Int32) (v8 : Int32) (v10 : Int32) (v11 : Int32) (v12 : Int32) (v13 : Int32) (v14 : Int32) (v16 : Int32) (H : Heap) (locs : List Loc) (ls : Array Slot), mm_P G kR 731 M H → mm_Ar G b 16 F H → va_S (mm_A G) s.heap H locs → lv_has ls 18 [(0, .ref (mm_lo G + 0)), (1, .int v1), (2, .int v2), (3, .int v3), (4, .int v4), (5, .int v5), (6, .int v6), (7, .int v7), (8, .int v8), (10, .int v10), (11, .int v11), (12, .int v12), (13, .int v13), (14, .int v14), (16, .int v16)] → fL_sound_628 k603 M F v1 v2 v3 v4 v5 v6 v7 v8 v10 v11 v12 v13 v14 v16 = some (r, M9) → W p l e rmL_sound s m args below meth c H locs 1 16 (MQ below (mm_Qi G (b2i r) (kR, 731, M9)) args s 1 16 (mm_A G)) (F0 m 628 ls []) := by
  obtain ⟨hx, hb, -, -, -, -, -, -, hZ, -⟩ := id C
  intro M F v1 v2 v3 v4 v5 v6 v7 v8 v10 v11 v12 v13 v14 v16 H locs ls hM hA hS hl heq
  rw [fL_sound_628] at heq
  refine lv_bipush (v := (-6)) hx hb dL_sound_628 (by decide) ?_
  refine lv_goto (tgt := 640) hx hb dL_sound_630 (by decide) ?_
  exact tL_sound_640 C hb0 hb1 hk603 _ _ _ _ _ _ _ _ _ _ _ _ _ _ _ _ _ _ _ _ hM hA hS (lv_sub hl [0, 1, 2, 3, 4, 5, 6, 7, 8, 9, 10, 11, 12, 13, 14] rfl) heq

set_option maxRecDepth 100000 in
set_option maxHeartbeats 4000000 in
theorem tL_sound_684 (C : mm_C G p s m args meth c RL cL_sound 18 (some .boolean)) {b : Nat} (hb0 : mm_lo G + 731 ≤ b) (hb1 : G.2.2 4 ≤ b) {r : Bool} {M9 : mm_M} {k572 : mm_M → (Nat → Int32) → Int32 → Int32 → Int32 → Int32 → Int32 → Int32 → Int32 → Int32 → Int32 → Int32 → Int32 → Int32 → Int32 → Option (Bool × mm_M)} (hk572 : ∀ (M : mm_M) (F : (Nat → Int32)) (v1 : Int32) (v2 : Int32) (v3 : Int32) (v4 : Int32) (v5 : Int32) (v6 : Int32) (v7 : Int32) (v8 : Int32) (v10 : Int32) (v11 : Int32) (v12 : Int32) (v13 : Int32) (v14 : Int32) (H : Heap) (locs : List Loc) (ls : Array Slot), mm_P G kR 731 M H → mm_Ar G b 16 F H → va_S (mm_A G) s.heap H locs → lv_has ls 18 [(0, .ref (mm_lo G + 0)), (1, .int v1), (2, .int v2), (3, .int v3), (4, .int v4), (5, .int v5), (6, .int v6), (7, .int v7), (8, .int v8), (10, .int v10), (11, .int v11), (12, .int v12), (13, .int v13), (14, .int v14)] → k572 M F v1 v2 v3 v4 v5 v6 v7 v8 v10 v11 v12 v13 v14 = some (r, M9) → W p l e rmL_sound s m args below meth c H locs 1 16 (MQ below (mm_Qi G (b2i r) (kR, 731, M9)) args s 1 16 (mm_A G)) (F0 m 572 ls [])) : ∀ (M : mm_M) (F : (Nat → Int32)) (v1 : Int32) (v2 : Int32) (v3 : Int32) (v4 : Int32) (v5 : Int32) (v6 : Int32) (v7 : Int32) (v8 : Int32) (v10 : Int32) (v11 : Int32) (v12 : Int32) (v13 : Int32) (v14 : Int32) (v15 : Int32) (H : Heap) (locs : List Loc) (ls : Array Slot), mm_P G kR 731 M H → mm_Ar G b 16 F H → va_S (mm_A G) s.heap H locs → lv_has ls 18 [(0, .ref (mm_lo G + 0)), (1, .int v1), (2, .int v2), (3, .int v3), (4, .int v4), (5, .int v5), (6, .int v6), (7, .int v7), (8, .int v8), (10, .int v10), (11, .int v11), (12, .int v12), (13, .int v13), (14, .int v14), (15, .int v15)] → fL_sound_684 k572 M F v1 v2 v3 v4 v5 v6 v7 v8 v10 v11 v12 v13 v14 v15 = some (r, M9) → W p l e rmL_sound s m args below meth c H locs 1 16 (MQ below (mm_Qi G (b2i r) (kR, 731, M9)) args s 1 16 (mm_A G)) (F0 m 684 ls []) := by
  obtain ⟨hx, hb, -, -, -, -, -, -, hZ, -⟩ := id C
  intro M F v1 v2 v3 v4 v5 v6 v7 v8 v10 v11 v12 v13 v14 v15 H locs ls hM hA hS hl heq
  rw [fL_sound_684] at heq
  refine lv_aload_n hx hb dL_sound_684 rfl (lv_at hl 0 rfl) ?_
  refine lv_iload hx hb dL_sound_685 (lv_at hl 13 rfl) ?_
  refine lv_iload hx hb dL_sound_687 (lv_at hl 11 rfl) ?_
  obtain ⟨r2, e1, heq⟩ := bn_of heq
  refine mm_kih hA hS hb0 hb1 (mm_runVh (o := 0) (rest := []) C hM hS hb1 (tX6_whyNot l (gH G (b + 1)) M v14 v12 r2 e1) (uL_144 _ (Nat.le_of_ble_eq_true rfl) (Nat.le_of_ble_eq_true rfl)) (mm_recv C hM (kl (rfl : kT 0 = (5, 0))) (ci := 5) rfl (mm_e5 (rfl : kT 0 = (5, 0)))) hl.1 rfl rfl (Nat.le_of_ble_eq_true rfl) ⟨Nat.le_refl _, Nat.le_refl _⟩ dL_sound_689) (fun H locs hM hA hS => ?_)
  have hM : mm_P G kR 731 M H := hM
  refine lv_iload hx hb dL_sound_692 (lv_at hl 14 rfl) ?_
  refine lv_icmp_eq (tgt := 699) hx hb dL_sound_694 (by decide) (fun c3 => ?_) (fun c3 => ?_)
  · have heq := if_t c3 heq
    obtain ⟨y4, ey4⟩ : ∃ y : Int32, y = (v14 + 1) := ⟨_, rfl⟩
    have heq := lt_to ey4 heq
    refine lv_iinc (v := y4) (lv' := [(14, .int y4), (0, .ref (mm_lo G + 0)), (1, .int v1), (2, .int v2), (3, .int v3), (4, .int v4), (5, .int v5), (6, .int v6), (7, .int v7), (8, .int v8), (10, .int v10), (11, .int v11), (12, .int v12), (13, .int v13), (15, .int v15)]) hx hb dL_sound_699 hl (k := 13) rfl (by rw [ey4]; rfl) (by decide) rfl (fun ls hl => ?_)
    refine lv_goto (tgt := 572) hx hb dL_sound_702 (by decide) ?_
    exact hk572 _ _ _ _ _ _ _ _ _ _ _ _ _ _ _ _ _ _ hM hA hS (lv_sub hl [1, 2, 3, 4, 5, 6, 7, 8, 9, 10, 11, 12, 13, 0] rfl) heq
  · have heq := if_f c3 heq
    refine lv_iconst (v := 0) hx hb dL_sound_697 (by decide) ?_
    cases heq
    exact mm_zret C hM hS dL_sound_698

set_option maxRecDepth 100000 in
set_option maxHeartbeats 4000000 in
theorem tL_sound_603 (C : mm_C G p s m args meth c RL cL_sound 18 (some .boolean)) {b : Nat} (hb0 : mm_lo G + 731 ≤ b) (hb1 : G.2.2 4 ≤ b) {r : Bool} {M9 : mm_M} {k572 : mm_M → (Nat → Int32) → Int32 → Int32 → Int32 → Int32 → Int32 → Int32 → Int32 → Int32 → Int32 → Int32 → Int32 → Int32 → Int32 → Option (Bool × mm_M)} (hk572 : ∀ (M : mm_M) (F : (Nat → Int32)) (v1 : Int32) (v2 : Int32) (v3 : Int32) (v4 : Int32) (v5 : Int32) (v6 : Int32) (v7 : Int32) (v8 : Int32) (v10 : Int32) (v11 : Int32) (v12 : Int32) (v13 : Int32) (v14 : Int32) (H : Heap) (locs : List Loc) (ls : Array Slot), mm_P G kR 731 M H → mm_Ar G b 16 F H → va_S (mm_A G) s.heap H locs → lv_has ls 18 [(0, .ref (mm_lo G + 0)), (1, .int v1), (2, .int v2), (3, .int v3), (4, .int v4), (5, .int v5), (6, .int v6), (7, .int v7), (8, .int v8), (10, .int v10), (11, .int v11), (12, .int v12), (13, .int v13), (14, .int v14)] → k572 M F v1 v2 v3 v4 v5 v6 v7 v8 v10 v11 v12 v13 v14 = some (r, M9) → W p l e rmL_sound s m args below meth c H locs 1 16 (MQ below (mm_Qi G (b2i r) (kR, 731, M9)) args s 1 16 (mm_A G)) (F0 m 572 ls [])) : ∀ n : Nat, ∀ (M : mm_M) (F : (Nat → Int32)) (v1 : Int32) (v2 : Int32) (v3 : Int32) (v4 : Int32) (v5 : Int32) (v6 : Int32) (v7 : Int32) (v8 : Int32) (v10 : Int32) (v11 : Int32) (v12 : Int32) (v13 : Int32) (v14 : Int32) (v15 : Int32) (v16 : Int32) (H : Heap) (locs : List Loc) (ls : Array Slot), mm_P G kR 731 M H → mm_Ar G b 16 F H → va_S (mm_A G) s.heap H locs → lv_has ls 18 [(0, .ref (mm_lo G + 0)), (1, .int v1), (2, .int v2), (3, .int v3), (4, .int v4), (5, .int v5), (6, .int v6), (7, .int v7), (8, .int v8), (10, .int v10), (11, .int v11), (12, .int v12), (13, .int v13), (14, .int v14), (15, .int v15), (16, .int v16)] → fL_sound_603 k572 n M F v1 v2 v3 v4 v5 v6 v7 v8 v10 v11 v12 v13 v14 v15 v16 = some (r, M9) → W p l e rmL_sound s m args below meth c H locs 1 16 (MQ below (mm_Qi G (b2i r) (kR, 731, M9)) args s 1 16 (mm_A G)) (F0 m 603 ls []) := by
  obtain ⟨hx, hb, -, -, -, -, -, -, hZ, -⟩ := id C
  intro n
  induction n with
  | zero =>
    intro M F v1 v2 v3 v4 v5 v6 v7 v8 v10 v11 v12 v13 v14 v15 v16 H locs ls hM hA hS hl heq
    rw [fL_sound_603] at heq
    cases heq
  | succ n ih =>
    intro M F v1 v2 v3 v4 v5 v6 v7 v8 v10 v11 v12 v13 v14 v15 v16 H locs ls hM hA hS hl heq
    rw [fL_sound_603] at heq
    refine lv_iload hx hb dL_sound_603 (lv_at hl 15 rfl) ?_
    refine lv_iload hx hb dL_sound_605 (lv_at hl 11 rfl) ?_
    refine lv_iconst (v := 1) hx hb dL_sound_607 (by decide) ?_
    refine lv_iadd hx hb dL_sound_608 ?_
    refine lv_icmp_gt (tgt := 684) hx hb dL_sound_609 (by decide) (fun c1 => ?_) (fun c1 => ?_)
    · have heq := if_t c1 heq
      exact tL_sound_684 C hb0 hb1 hk572 _ _ _ _ _ _ _ _ _ _ _ _ _ _ _ _ _ _ _ hM hA hS (lv_sub hl [0, 1, 2, 3, 4, 5, 6, 7, 8, 9, 10, 11, 12, 13, 14] rfl) heq
    · have heq := if_f c1 heq
      refine lv_iload hx hb dL_sound_612 (lv_at hl 14 rfl) ?_
      refine lv_if_ne (tgt := 684) hx hb dL_sound_614 (by decide) (fun c2 => ?_) (fun c2 => ?_)
      · have heq := if_f c2 heq
        exact tL_sound_684 C hb0 hb1 hk572 _ _ _ _ _ _ _ _ _ _ _ _ _ _ _ _ _ _ _ hM hA hS (lv_sub hl [0, 1, 2, 3, 4, 5, 6, 7, 8, 9, 10, 11, 12, 13, 14] rfl) heq
      · have heq := if_t c2 heq
        refine lv_iload hx hb dL_sound_617 (lv_at hl 15 rfl) ?_
        refine lv_if_lt (tgt := 628) hx hb dL_sound_619 (by decide) (fun c3 => ?_) (fun c3 => ?_)
        · have heq := if_t c3 heq
          exact tL_sound_628 C hb0 hb1 ih _ _ _ _ _ _ _ _ _ _ _ _ _ _ _ _ _ _ _ hM hA hS (lv_sub hl [0, 1, 2, 3, 4, 5, 6, 7, 8, 9, 10, 11, 12, 13, 15] rfl) heq
        · have heq := if_f c3 heq
          refine lv_iload hx hb dL_sound_622 (lv_at hl 15 rfl) ?_
          refine lv_iload_n hx hb dL_sound_624 rfl (lv_at hl 2 rfl) ?_
          refine lv_icmp_lt (tgt := 633) hx hb dL_sound_625 (by decide) (fun c4 => ?_) (fun c4 => ?_)
          · have heq := if_t c4 heq
            refine lv_aload_n hx hb dL_sound_633 rfl (lv_at hl 0 rfl) ?_
            refine lv_iload hx hb dL_sound_634 (lv_at hl 15 rfl) ?_
            refine lv_iconst (v := 3) hx hb dL_sound_636 (by decide) ?_
            obtain ⟨r6, e5, heq⟩ := bn_of heq
            refine mm_kih hA hS hb0 hb1 (mm_runVh (o := 0) (rest := []) C hM hS hb1 (tX6_ofPitch l (gH G (b + 1)) M v16 3 r6 e5) (uL_90 _ (Nat.le_of_ble_eq_true rfl) (Nat.le_of_ble_eq_true rfl)) (mm_recv C hM (kl (rfl : kT 0 = (5, 0))) (ci := 5) rfl (mm_e5 (rfl : kT 0 = (5, 0)))) hl.1 rfl rfl (Nat.le_of_ble_eq_true rfl) ⟨Nat.le_refl _, Nat.le_refl _⟩ dL_sound_637) (fun H locs hM hA hS => ?_)
            have hM : mm_P G kR 731 M H := hM
            exact tL_sound_640 C hb0 hb1 ih _ _ _ _ _ _ _ _ _ _ _ _ _ _ _ _ _ _ _ _ hM hA hS (lv_sub hl [0, 1, 2, 3, 4, 5, 6, 7, 8, 9, 10, 11, 12, 13, 15] rfl) heq
          · have heq := if_f c4 heq
            exact tL_sound_628 C hb0 hb1 ih _ _ _ _ _ _ _ _ _ _ _ _ _ _ _ _ _ _ _ hM hA hS (lv_sub hl [0, 1, 2, 3, 4, 5, 6, 7, 8, 9, 10, 11, 12, 13, 15] rfl) heq

set_option maxRecDepth 100000 in
set_option maxHeartbeats 4000000 in
theorem tL_sound_572 (C : mm_C G p s m args meth c RL cL_sound 18 (some .boolean)) {b : Nat} (hb0 : mm_lo G + 731 ≤ b) (hb1 : G.2.2 4 ≤ b) {r : Bool} {M9 : mm_M} {k510 : mm_M → (Nat → Int32) → Int32 → Int32 → Int32 → Int32 → Int32 → Int32 → Int32 → Int32 → Int32 → Int32 → Int32 → Option (Bool × mm_M)} (hk510 : ∀ (M : mm_M) (F : (Nat → Int32)) (v1 : Int32) (v2 : Int32) (v3 : Int32) (v4 : Int32) (v5 : Int32) (v6 : Int32) (v7 : Int32) (v8 : Int32) (v10 : Int32) (v11 : Int32) (v12 : Int32) (H : Heap) (locs : List Loc) (ls : Array Slot), mm_P G kR 731 M H → mm_Ar G b 16 F H → va_S (mm_A G) s.heap H locs → lv_has ls 18 [(0, .ref (mm_lo G + 0)), (1, .int v1), (2, .int v2), (3, .int v3), (4, .int v4), (5, .int v5), (6, .int v6), (7, .int v7), (8, .int v8), (10, .int v10), (11, .int v11), (12, .int v12)] → k510 M F v1 v2 v3 v4 v5 v6 v7 v8 v10 v11 v12 = some (r, M9) → W p l e rmL_sound s m args below meth c H locs 1 16 (MQ below (mm_Qi G (b2i r) (kR, 731, M9)) args s 1 16 (mm_A G)) (F0 m 510 ls [])) : ∀ n : Nat, ∀ (M : mm_M) (F : (Nat → Int32)) (v1 : Int32) (v2 : Int32) (v3 : Int32) (v4 : Int32) (v5 : Int32) (v6 : Int32) (v7 : Int32) (v8 : Int32) (v10 : Int32) (v11 : Int32) (v12 : Int32) (v13 : Int32) (v14 : Int32) (H : Heap) (locs : List Loc) (ls : Array Slot), mm_P G kR 731 M H → mm_Ar G b 16 F H → va_S (mm_A G) s.heap H locs → lv_has ls 18 [(0, .ref (mm_lo G + 0)), (1, .int v1), (2, .int v2), (3, .int v3), (4, .int v4), (5, .int v5), (6, .int v6), (7, .int v7), (8, .int v8), (10, .int v10), (11, .int v11), (12, .int v12), (13, .int v13), (14, .int v14)] → fL_sound_572 k510 n M F v1 v2 v3 v4 v5 v6 v7 v8 v10 v11 v12 v13 v14 = some (r, M9) → W p l e rmL_sound s m args below meth c H locs 1 16 (MQ below (mm_Qi G (b2i r) (kR, 731, M9)) args s 1 16 (mm_A G)) (F0 m 572 ls []) := by
  obtain ⟨hx, hb, -, -, -, -, -, -, hZ, -⟩ := id C
  intro n
  induction n with
  | zero =>
    intro M F v1 v2 v3 v4 v5 v6 v7 v8 v10 v11 v12 v13 v14 H locs ls hM hA hS hl heq
    rw [fL_sound_572] at heq
    cases heq
  | succ n ih =>
    intro M F v1 v2 v3 v4 v5 v6 v7 v8 v10 v11 v12 v13 v14 H locs ls hM hA hS hl heq
    rw [fL_sound_572] at heq
    refine lv_iload hx hb dL_sound_572 (lv_at hl 13 rfl) ?_
    refine lv_iload_n hx hb dL_sound_574 rfl (lv_at hl 1 rfl) ?_
    refine lv_icmp_ge (tgt := 705) hx hb dL_sound_575 (by decide) (fun c1 => ?_) (fun c1 => ?_)
    · have heq := if_t c1 heq
      obtain ⟨y2, ey2⟩ : ∃ y : Int32, y = (v12 + 1) := ⟨_, rfl⟩
      have heq := lt_to ey2 heq
      refine lv_iinc (v := y2) (lv' := [(12, .int y2), (0, .ref (mm_lo G + 0)), (1, .int v1), (2, .int v2), (3, .int v3), (4, .int v4), (5, .int v5), (6, .int v6), (7, .int v7), (8, .int v8), (10, .int v10), (11, .int v11), (13, .int v13), (14, .int v14)]) hx hb dL_sound_705 hl (k := 11) rfl (by rw [ey2]; rfl) (by decide) rfl (fun ls hl => ?_)
      refine lv_goto (tgt := 510) hx hb dL_sound_708 (by decide) ?_
      exact hk510 _ _ _ _ _ _ _ _ _ _ _ _ _ _ _ _ hM hA hS (lv_sub hl [1, 2, 3, 4, 5, 6, 7, 8, 9, 10, 11, 0] rfl) heq
    · have heq := if_f c1 heq
      refine lv_iload hx hb dL_sound_578 (lv_at hl 12 rfl) ?_
      refine lv_if_lt (tgt := 594) hx hb dL_sound_580 (by decide) (fun c3 => ?_) (fun c3 => ?_)
      · have heq := if_t c3 heq
        refine lv_iconst (v := 0) hx hb dL_sound_594 (by decide) ?_
        refine lv_istore (lv' := [(15, .int 0), (0, .ref (mm_lo G + 0)), (1, .int v1), (2, .int v2), (3, .int v3), (4, .int v4), (5, .int v5), (6, .int v6), (7, .int v7), (8, .int v8), (10, .int v10), (11, .int v11), (12, .int v12), (13, .int v13), (14, .int v14)]) hx hb dL_sound_595 hl (by decide) rfl (fun ls hl => ?_)
        refine lv_iload hx hb dL_sound_597 (lv_at hl 12 rfl) ?_
        refine lv_iconst (v := 1) hx hb dL_sound_599 (by decide) ?_
        refine lv_isub hx hb dL_sound_600 ?_
        refine lv_topi (fun y4 ey4 => ?_)
        have heq := lt_to ey4 heq
        refine lv_istore (lv' := [(16, .int y4), (15, .int 0), (0, .ref (mm_lo G + 0)), (1, .int v1), (2, .int v2), (3, .int v3), (4, .int v4), (5, .int v5), (6, .int v6), (7, .int v7), (8, .int v8), (10, .int v10), (11, .int v11), (12, .int v12), (13, .int v13), (14, .int v14)]) hx hb dL_sound_601 hl (by decide) rfl (fun ls hl => ?_)
        exact tL_sound_603 C hb0 hb1 ih FU _ _ _ _ _ _ _ _ _ _ _ _ _ _ _ _ _ _ _ _ hM hA hS (lv_sub hl [2, 3, 4, 5, 6, 7, 8, 9, 10, 11, 12, 13, 14, 15, 1, 0] rfl) heq
      · have heq := if_f c3 heq
        refine lv_iload hx hb dL_sound_583 (lv_at hl 12 rfl) ?_
        refine lv_iload hx hb dL_sound_585 (lv_at hl 13 rfl) ?_
        refine lv_icmp_eq (tgt := 594) hx hb dL_sound_587 (by decide) (fun c5 => ?_) (fun c5 => ?_)
        · have heq := if_t c5 heq
          refine lv_iconst (v := 0) hx hb dL_sound_594 (by decide) ?_
          refine lv_istore (lv' := [(15, .int 0), (0, .ref (mm_lo G + 0)), (1, .int v1), (2, .int v2), (3, .int v3), (4, .int v4), (5, .int v5), (6, .int v6), (7, .int v7), (8, .int v8), (10, .int v10), (11, .int v11), (12, .int v12), (13, .int v13), (14, .int v14)]) hx hb dL_sound_595 hl (by decide) rfl (fun ls hl => ?_)
          refine lv_iload hx hb dL_sound_597 (lv_at hl 12 rfl) ?_
          refine lv_iconst (v := 1) hx hb dL_sound_599 (by decide) ?_
          refine lv_isub hx hb dL_sound_600 ?_
          refine lv_topi (fun y6 ey6 => ?_)
          have heq := lt_to ey6 heq
          refine lv_istore (lv' := [(16, .int y6), (15, .int 0), (0, .ref (mm_lo G + 0)), (1, .int v1), (2, .int v2), (3, .int v3), (4, .int v4), (5, .int v5), (6, .int v6), (7, .int v7), (8, .int v8), (10, .int v10), (11, .int v11), (12, .int v12), (13, .int v13), (14, .int v14)]) hx hb dL_sound_601 hl (by decide) rfl (fun ls hl => ?_)
          exact tL_sound_603 C hb0 hb1 ih FU _ _ _ _ _ _ _ _ _ _ _ _ _ _ _ _ _ _ _ _ hM hA hS (lv_sub hl [2, 3, 4, 5, 6, 7, 8, 9, 10, 11, 12, 13, 14, 15, 1, 0] rfl) heq
        · have heq := if_f c5 heq
          refine lv_iconst (v := 1) hx hb dL_sound_590 (by decide) ?_
          refine lv_goto (tgt := 595) hx hb dL_sound_591 (by decide) ?_
          refine lv_istore (lv' := [(15, .int 1), (0, .ref (mm_lo G + 0)), (1, .int v1), (2, .int v2), (3, .int v3), (4, .int v4), (5, .int v5), (6, .int v6), (7, .int v7), (8, .int v8), (10, .int v10), (11, .int v11), (12, .int v12), (13, .int v13), (14, .int v14)]) hx hb dL_sound_595 hl (by decide) rfl (fun ls hl => ?_)
          refine lv_iload hx hb dL_sound_597 (lv_at hl 12 rfl) ?_
          refine lv_iconst (v := 1) hx hb dL_sound_599 (by decide) ?_
          refine lv_isub hx hb dL_sound_600 ?_
          refine lv_topi (fun y7 ey7 => ?_)
          have heq := lt_to ey7 heq
          refine lv_istore (lv' := [(16, .int y7), (15, .int 1), (0, .ref (mm_lo G + 0)), (1, .int v1), (2, .int v2), (3, .int v3), (4, .int v4), (5, .int v5), (6, .int v6), (7, .int v7), (8, .int v8), (10, .int v10), (11, .int v11), (12, .int v12), (13, .int v13), (14, .int v14)]) hx hb dL_sound_601 hl (by decide) rfl (fun ls hl => ?_)
          exact tL_sound_603 C hb0 hb1 ih FU _ _ _ _ _ _ _ _ _ _ _ _ _ _ _ _ _ _ _ _ hM hA hS (lv_sub hl [2, 3, 4, 5, 6, 7, 8, 9, 10, 11, 12, 13, 14, 15, 1, 0] rfl) heq

set_option maxRecDepth 100000 in
set_option maxHeartbeats 4000000 in
theorem tL_sound_510 (C : mm_C G p s m args meth c RL cL_sound 18 (some .boolean)) {b : Nat} (hb0 : mm_lo G + 731 ≤ b) (hb1 : G.2.2 4 ≤ b) {r : Bool} {M9 : mm_M} : ∀ n : Nat, ∀ (M : mm_M) (F : (Nat → Int32)) (v1 : Int32) (v2 : Int32) (v3 : Int32) (v4 : Int32) (v5 : Int32) (v6 : Int32) (v7 : Int32) (v8 : Int32) (v10 : Int32) (v11 : Int32) (v12 : Int32) (H : Heap) (locs : List Loc) (ls : Array Slot), mm_P G kR 731 M H → mm_Ar G b 16 F H → va_S (mm_A G) s.heap H locs → lv_has ls 18 [(0, .ref (mm_lo G + 0)), (1, .int v1), (2, .int v2), (3, .int v3), (4, .int v4), (5, .int v5), (6, .int v6), (7, .int v7), (8, .int v8), (10, .int v10), (11, .int v11), (12, .int v12)] → fL_sound_510 n M F v1 v2 v3 v4 v5 v6 v7 v8 v10 v11 v12 = some (r, M9) → W p l e rmL_sound s m args below meth c H locs 1 16 (MQ below (mm_Qi G (b2i r) (kR, 731, M9)) args s 1 16 (mm_A G)) (F0 m 510 ls []) := by
  obtain ⟨hx, hb, -, -, -, -, -, -, hZ, -⟩ := id C
  intro n
  induction n with
  | zero =>
    intro M F v1 v2 v3 v4 v5 v6 v7 v8 v10 v11 v12 H locs ls hM hA hS hl heq
    rw [fL_sound_510] at heq
    cases heq
  | succ n ih =>
    intro M F v1 v2 v3 v4 v5 v6 v7 v8 v10 v11 v12 H locs ls hM hA hS hl heq
    rw [fL_sound_510] at heq
    refine lv_iload hx hb dL_sound_510 (lv_at hl 11 rfl) ?_
    refine lv_iload_n hx hb dL_sound_512 rfl (lv_at hl 2 rfl) ?_
    refine lv_icmp_ge (tgt := 711) hx hb dL_sound_513 (by decide) (fun c1 => ?_) (fun c1 => ?_)
    · have heq := if_t c1 heq
      refine lv_iload_n hx hb dL_sound_711 rfl (lv_at hl 3 rfl) ?_
      refine lv_iload hx hb dL_sound_712 (lv_at hl 9 rfl) ?_
      refine lv_icmp_ne (tgt := 788) hx hb dL_sound_714 (by decide) (fun c2 => ?_) (fun c2 => ?_)
      · have heq := if_f c2 heq
        refine lv_iconst (v := 0) hx hb dL_sound_788 (by decide) ?_
        cases heq
        exact mm_zret C hM hS dL_sound_789
      · have heq := if_t c2 heq
        refine lv_iload hx hb dL_sound_717 (lv_at hl 4 rfl) ?_
        refine lv_iload hx hb dL_sound_719 (lv_at hl 10 rfl) ?_
        refine lv_icmp_ne (tgt := 788) hx hb dL_sound_721 (by decide) (fun c3 => ?_) (fun c3 => ?_)
        · have heq := if_f c3 heq
          refine lv_iconst (v := 0) hx hb dL_sound_788 (by decide) ?_
          cases heq
          exact mm_zret C hM hS dL_sound_789
        · have heq := if_t c3 heq
          refine lv_aload_n hx hb dL_sound_724 rfl (lv_at hl 0 rfl) ?_
          refine lv_bipush (v := 18) hx hb dL_sound_725 (by decide) ?_
          obtain ⟨r5, e4, heq⟩ := bn_of heq
          refine mm_kih hA hS hb0 hb1 (mm_runVh (o := 0) (rest := []) C hM hS hb1 (tX6_count l (gH G (b + 1)) M 18 r5 e4) (uL_60 _ (Nat.le_of_ble_eq_true rfl) (Nat.le_of_ble_eq_true rfl)) (mm_recv C hM (kl (rfl : kT 0 = (5, 0))) (ci := 5) rfl (mm_e5 (rfl : kT 0 = (5, 0)))) hl.1 rfl rfl (Nat.le_of_ble_eq_true rfl) ⟨Nat.le_refl _, Nat.le_refl _⟩ dL_sound_727) (fun H locs hM hA hS => ?_)
          have hM : mm_P G kR 731 M H := hM
          refine lv_iload hx hb dL_sound_730 (lv_at hl 5 rfl) ?_
          refine lv_icmp_ne (tgt := 788) hx hb dL_sound_732 (by decide) (fun c6 => ?_) (fun c6 => ?_)
          · have heq := if_f c6 heq
            refine lv_iconst (v := 0) hx hb dL_sound_788 (by decide) ?_
            cases heq
            exact mm_zret C hM hS dL_sound_789
          · have heq := if_t c6 heq
            refine lv_iload hx hb dL_sound_735 (lv_at hl 6 rfl) ?_
            refine lv_iload hx hb dL_sound_737 (lv_at hl 7 rfl) ?_
            refine lv_iconst (v := 1) hx hb dL_sound_739 (by decide) ?_
            refine lv_iadd hx hb dL_sound_740 ?_
            refine lv_icmp_ne (tgt := 788) hx hb dL_sound_741 (by decide) (fun c7 => ?_) (fun c7 => ?_)
            · have heq := if_f c7 heq
              refine lv_iconst (v := 0) hx hb dL_sound_788 (by decide) ?_
              cases heq
              exact mm_zret C hM hS dL_sound_789
            · have heq := if_t c7 heq
              refine lv_aload_n hx hb dL_sound_744 rfl (lv_at hl 0 rfl) ?_
              refine lv_iconst (v := 4) hx hb dL_sound_745 (by decide) ?_
              obtain ⟨r9, e8, heq⟩ := bn_of heq
              refine mm_kih hA hS hb0 hb1 (mm_runVh (o := 0) (rest := []) C hM hS hb1 (tX6_count l (gH G (b + 1)) M 4 r9 e8) (uL_60 _ (Nat.le_of_ble_eq_true rfl) (Nat.le_of_ble_eq_true rfl)) (mm_recv C hM (kl (rfl : kT 0 = (5, 0))) (ci := 5) rfl (mm_e5 (rfl : kT 0 = (5, 0)))) hl.1 rfl rfl (Nat.le_of_ble_eq_true rfl) ⟨Nat.le_refl _, Nat.le_refl _⟩ dL_sound_746) (fun H locs hM hA hS => ?_)
              have hM : mm_P G kR 731 M H := hM
              refine lv_iload hx hb dL_sound_749 (lv_at hl 8 rfl) ?_
              refine lv_icmp_ne (tgt := 788) hx hb dL_sound_751 (by decide) (fun c10 => ?_) (fun c10 => ?_)
              · have heq := if_f c10 heq
                refine lv_iconst (v := 0) hx hb dL_sound_788 (by decide) ?_
                cases heq
                exact mm_zret C hM hS dL_sound_789
              · have heq := if_t c10 heq
                refine lv_aload_n hx hb dL_sound_754 rfl (lv_at hl 0 rfl) ?_
                refine lv_iload_n hx hb dL_sound_755 rfl (lv_at hl 1 rfl) ?_
                refine lv_iconst (v := 0) hx hb dL_sound_756 (by decide) ?_
                obtain ⟨r12, e11, heq⟩ := bn_of heq
                refine mm_kih hA hS hb0 hb1 (mm_runVh (o := 0) (rest := []) C hM hS hb1 (tX6_ofCart l (gH G (b + 1)) M v1 0 r12 e11) (uL_66 _ (Nat.le_of_ble_eq_true rfl) (Nat.le_of_ble_eq_true rfl)) (mm_recv C hM (kl (rfl : kT 0 = (5, 0))) (ci := 5) rfl (mm_e5 (rfl : kT 0 = (5, 0)))) hl.1 rfl rfl (Nat.le_of_ble_eq_true rfl) ⟨Nat.le_refl _, Nat.le_refl _⟩ dL_sound_757) (fun H locs hM hA hS => ?_)
                have hM : mm_P G kR 731 M H := hM
                refine lv_iconst (v := (-1)) hx hb dL_sound_760 (by decide) ?_
                refine lv_icmp_ne (tgt := 788) hx hb dL_sound_761 (by decide) (fun c13 => ?_) (fun c13 => ?_)
                · have heq := if_f c13 heq
                  refine lv_iconst (v := 0) hx hb dL_sound_788 (by decide) ?_
                  cases heq
                  exact mm_zret C hM hS dL_sound_789
                · have heq := if_t c13 heq
                  refine lv_aload_n hx hb dL_sound_764 rfl (lv_at hl 0 rfl) ?_
                  refine lv_iload_n hx hb dL_sound_765 rfl (lv_at hl 2 rfl) ?_
                  refine lv_iconst (v := 0) hx hb dL_sound_766 (by decide) ?_
                  obtain ⟨r15, e14, heq⟩ := bn_of heq
                  refine mm_kih hA hS hb0 hb1 (mm_runVh (o := 0) (rest := []) C hM hS hb1 (tX6_ofPitch l (gH G (b + 1)) M v2 0 r15 e14) (uL_90 _ (Nat.le_of_ble_eq_true rfl) (Nat.le_of_ble_eq_true rfl)) (mm_recv C hM (kl (rfl : kT 0 = (5, 0))) (ci := 5) rfl (mm_e5 (rfl : kT 0 = (5, 0)))) hl.1 rfl rfl (Nat.le_of_ble_eq_true rfl) ⟨Nat.le_refl _, Nat.le_refl _⟩ dL_sound_767) (fun H locs hM hA hS => ?_)
                  have hM : mm_P G kR 731 M H := hM
                  refine lv_iconst (v := (-1)) hx hb dL_sound_770 (by decide) ?_
                  refine lv_icmp_ne (tgt := 788) hx hb dL_sound_771 (by decide) (fun c16 => ?_) (fun c16 => ?_)
                  · have heq := if_f c16 heq
                    refine lv_iconst (v := 0) hx hb dL_sound_788 (by decide) ?_
                    cases heq
                    exact mm_zret C hM hS dL_sound_789
                  · have heq := if_t c16 heq
                    refine lv_aload_n hx hb dL_sound_774 rfl (lv_at hl 0 rfl) ?_
                    refine lv_iload_n hx hb dL_sound_775 rfl (lv_at hl 1 rfl) ?_
                    refine lv_iconst (v := 0) hx hb dL_sound_776 (by decide) ?_
                    obtain ⟨r18, e17, heq⟩ := bn_of heq
                    refine mm_kih hA hS hb0 hb1 (mm_runVh (o := 0) (rest := []) C hM hS hb1 (tX6_whyNot l (gH G (b + 1)) M v1 0 r18 e17) (uL_144 _ (Nat.le_of_ble_eq_true rfl) (Nat.le_of_ble_eq_true rfl)) (mm_recv C hM (kl (rfl : kT 0 = (5, 0))) (ci := 5) rfl (mm_e5 (rfl : kT 0 = (5, 0)))) hl.1 rfl rfl (Nat.le_of_ble_eq_true rfl) ⟨Nat.le_refl _, Nat.le_refl _⟩ dL_sound_777) (fun H locs hM hA hS => ?_)
                    have hM : mm_P G kR 731 M H := hM
                    refine lv_iconst (v := (-1)) hx hb dL_sound_780 (by decide) ?_
                    refine lv_icmp_ne (tgt := 788) hx hb dL_sound_781 (by decide) (fun c19 => ?_) (fun c19 => ?_)
                    · have heq := if_f c19 heq
                      refine lv_iconst (v := 0) hx hb dL_sound_788 (by decide) ?_
                      cases heq
                      exact mm_zret C hM hS dL_sound_789
                    · have heq := if_t c19 heq
                      refine lv_iconst (v := 1) hx hb dL_sound_784 (by decide) ?_
                      refine lv_goto (tgt := 789) hx hb dL_sound_785 (by decide) ?_
                      cases heq
                      exact mm_zret C hM hS dL_sound_789
    · have heq := if_f c1 heq
      refine lv_aload_n hx hb dL_sound_516 rfl (lv_at hl 0 rfl) ?_
      refine lv_iload hx hb dL_sound_517 (lv_at hl 11 rfl) ?_
      refine lv_iconst (v := 3) hx hb dL_sound_519 (by decide) ?_
      obtain ⟨r21, e20, heq⟩ := bn_of heq
      refine mm_kih hA hS hb0 hb1 (mm_runVh (o := 0) (rest := []) C hM hS hb1 (tX6_ofPitch l (gH G (b + 1)) M v12 3 r21 e20) (uL_90 _ (Nat.le_of_ble_eq_true rfl) (Nat.le_of_ble_eq_true rfl)) (mm_recv C hM (kl (rfl : kT 0 = (5, 0))) (ci := 5) rfl (mm_e5 (rfl : kT 0 = (5, 0)))) hl.1 rfl rfl (Nat.le_of_ble_eq_true rfl) ⟨Nat.le_refl _, Nat.le_refl _⟩ dL_sound_520) (fun H locs hM hA hS => ?_)
      have hM : mm_P G kR 731 M H := hM
      refine lv_istore (lv' := [(13, .int r21), (0, .ref (mm_lo G + 0)), (1, .int v1), (2, .int v2), (3, .int v3), (4, .int v4), (5, .int v5), (6, .int v6), (7, .int v7), (8, .int v8), (10, .int v10), (11, .int v11), (12, .int v12)]) hx hb dL_sound_523 hl (by decide) rfl (fun ls hl => ?_)
      refine lv_iload hx hb dL_sound_525 (lv_at hl 10 rfl) ?_
      refine lv_aload_n hx hb dL_sound_527 rfl (lv_at hl 1 rfl) ?_
      refine lv_iload hx hb dL_sound_528 (lv_at hl 12 rfl) ?_
      refine lv_iconst (v := 1) hx hb dL_sound_530 (by decide) ?_
      obtain ⟨r23, e22, heq⟩ := bn_of heq
      refine mm_kih hA hS hb0 hb1 (mm_runVh (o := 0) (rest := [.int v10]) C hM hS hb1 (tX6_ofPitch l (gH G (b + 1)) M v12 1 r23 e22) (uL_90 _ (Nat.le_of_ble_eq_true rfl) (Nat.le_of_ble_eq_true rfl)) (mm_recv C hM (kl (rfl : kT 0 = (5, 0))) (ci := 5) rfl (mm_e5 (rfl : kT 0 = (5, 0)))) hl.1 rfl rfl (Nat.le_of_ble_eq_true rfl) ⟨Nat.le_refl _, Nat.le_refl _⟩ dL_sound_531) (fun H locs hM hA hS => ?_)
      have hM : mm_P G kR 731 M H := hM
      refine lv_iadd hx hb dL_sound_534 ?_
      refine lv_topi (fun y24 ey24 => ?_)
      have heq := lt_to ey24 heq
      refine lv_istore (lv' := [(10, .int y24), (13, .int r21), (0, .ref (mm_lo G + 0)), (1, .int v1), (2, .int v2), (3, .int v3), (4, .int v4), (5, .int v5), (6, .int v6), (7, .int v7), (8, .int v8), (11, .int v11), (12, .int v12)]) hx hb dL_sound_535 hl (by decide) rfl (fun ls hl => ?_)
      refine lv_iload hx hb dL_sound_537 (lv_at hl 11 rfl) ?_
      refine lv_aload_n hx hb dL_sound_539 rfl (lv_at hl 2 rfl) ?_
      refine lv_iload hx hb dL_sound_540 (lv_at hl 12 rfl) ?_
      refine lv_iconst (v := 2) hx hb dL_sound_542 (by decide) ?_
      obtain ⟨r26, e25, heq⟩ := bn_of heq
      refine mm_kih hA hS hb0 hb1 (mm_runVh (o := 0) (rest := [.int v11]) C hM hS hb1 (tX6_ofPitch l (gH G (b + 1)) M v12 2 r26 e25) (uL_90 _ (Nat.le_of_ble_eq_true rfl) (Nat.le_of_ble_eq_true rfl)) (mm_recv C hM (kl (rfl : kT 0 = (5, 0))) (ci := 5) rfl (mm_e5 (rfl : kT 0 = (5, 0)))) hl.1 rfl rfl (Nat.le_of_ble_eq_true rfl) ⟨Nat.le_refl _, Nat.le_refl _⟩ dL_sound_543) (fun H locs hM hA hS => ?_)
      have hM : mm_P G kR 731 M H := hM
      refine lv_iadd hx hb dL_sound_546 ?_
      refine lv_topi (fun y27 ey27 => ?_)
      have heq := lt_to ey27 heq
      refine lv_istore (lv' := [(11, .int y27), (10, .int y24), (13, .int r21), (0, .ref (mm_lo G + 0)), (1, .int v1), (2, .int v2), (3, .int v3), (4, .int v4), (5, .int v5), (6, .int v6), (7, .int v7), (8, .int v8), (12, .int v12)]) hx hb dL_sound_547 hl (by decide) rfl (fun ls hl => ?_)
      refine lv_iload hx hb dL_sound_549 (lv_at hl 2 rfl) ?_
      refine lv_if_lt (tgt := 569) hx hb dL_sound_551 (by decide) (fun c28 => ?_) (fun c28 => ?_)
      · have heq := if_t c28 heq
        refine lv_iconst (v := 0) hx hb dL_sound_569 (by decide) ?_
        refine lv_istore (lv' := [(14, .int 0), (11, .int y27), (10, .int y24), (13, .int r21), (0, .ref (mm_lo G + 0)), (1, .int v1), (2, .int v2), (3, .int v3), (4, .int v4), (5, .int v5), (6, .int v6), (7, .int v7), (8, .int v8), (12, .int v12)]) hx hb dL_sound_570 hl (by decide) rfl (fun ls hl => ?_)
        exact tL_sound_572 C hb0 hb1 ih FU _ _ _ _ _ _ _ _ _ _ _ _ _ _ _ _ _ _ hM hA hS (lv_sub hl [4, 5, 6, 7, 8, 9, 10, 11, 12, 2, 1, 13, 3, 0] rfl) heq
      · have heq := if_f c28 heq
        refine lv_aload_n hx hb dL_sound_554 rfl (lv_at hl 3 rfl) ?_
        refine lv_iload hx hb dL_sound_555 (lv_at hl 2 rfl) ?_
        refine lv_bipush (v := 12) hx hb dL_sound_557 (by decide) ?_
        obtain ⟨r30, e29, heq⟩ := bn_of heq
        refine mm_kih hA hS hb0 hb1 (mm_runVh (o := 0) (rest := []) C hM hS hb1 (tX6_ofCart l (gH G (b + 1)) M r21 12 r30 e29) (uL_66 _ (Nat.le_of_ble_eq_true rfl) (Nat.le_of_ble_eq_true rfl)) (mm_recv C hM (kl (rfl : kT 0 = (5, 0))) (ci := 5) rfl (mm_e5 (rfl : kT 0 = (5, 0)))) hl.1 rfl rfl (Nat.le_of_ble_eq_true rfl) ⟨Nat.le_refl _, Nat.le_refl _⟩ dL_sound_559) (fun H locs hM hA hS => ?_)
        have hM : mm_P G kR 731 M H := hM
        refine lv_iload hx hb dL_sound_562 (lv_at hl 12 rfl) ?_
        refine lv_icmp_eq (tgt := 569) hx hb dL_sound_564 (by decide) (fun c31 => ?_) (fun c31 => ?_)
        · have heq := if_t c31 heq
          refine lv_iconst (v := 0) hx hb dL_sound_569 (by decide) ?_
          refine lv_istore (lv' := [(14, .int 0), (11, .int y27), (10, .int y24), (13, .int r21), (0, .ref (mm_lo G + 0)), (1, .int v1), (2, .int v2), (3, .int v3), (4, .int v4), (5, .int v5), (6, .int v6), (7, .int v7), (8, .int v8), (12, .int v12)]) hx hb dL_sound_570 hl (by decide) rfl (fun ls hl => ?_)
          exact tL_sound_572 C hb0 hb1 ih FU _ _ _ _ _ _ _ _ _ _ _ _ _ _ _ _ _ _ hM hA hS (lv_sub hl [4, 5, 6, 7, 8, 9, 10, 11, 12, 2, 1, 13, 3, 0] rfl) heq
        · have heq := if_f c31 heq
          refine lv_iconst (v := 0) hx hb dL_sound_567 (by decide) ?_
          cases heq
          exact mm_zret C hM hS dL_sound_568

set_option maxRecDepth 100000 in
set_option maxHeartbeats 4000000 in
theorem tL_sound_38 (C : mm_C G p s m args meth c RL cL_sound 18 (some .boolean)) {b : Nat} (hb0 : mm_lo G + 731 ≤ b) (hb1 : G.2.2 4 ≤ b) {r : Bool} {M9 : mm_M} : ∀ n : Nat, ∀ (M : mm_M) (F : (Nat → Int32)) (v1 : Int32) (v2 : Int32) (v3 : Int32) (v4 : Int32) (v5 : Int32) (v6 : Int32) (v7 : Int32) (v8 : Int32) (v10 : Int32) (H : Heap) (locs : List Loc) (ls : Array Slot), mm_P G kR 731 M H → mm_Ar G b 16 F H → va_S (mm_A G) s.heap H locs → lv_has ls 18 [(0, .ref (mm_lo G + 0)), (1, .int v1), (2, .int v2), (3, .int v3), (4, .int v4), (5, .int v5), (6, .int v6), (7, .int v7), (8, .int v8), (9, .ref b), (10, .int v10)] → fL_sound_38 n M F v1 v2 v3 v4 v5 v6 v7 v8 v10 = some (r, M9) → W p l e rmL_sound s m args below meth c H locs 1 16 (MQ below (mm_Qi G (b2i r) (kR, 731, M9)) args s 1 16 (mm_A G)) (F0 m 38 ls []) := by
  obtain ⟨hx, hb, -, -, -, -, -, -, hZ, -⟩ := id C
  intro n
  induction n with
  | zero =>
    intro M F v1 v2 v3 v4 v5 v6 v7 v8 v10 H locs ls hM hA hS hl heq
    rw [fL_sound_38] at heq
    cases heq
  | succ n ih =>
    intro M F v1 v2 v3 v4 v5 v6 v7 v8 v10 H locs ls hM hA hS hl heq
    rw [fL_sound_38] at heq
    refine lv_iload hx hb dL_sound_38 (lv_at hl 10 rfl) ?_
    refine lv_iload_n hx hb dL_sound_40 rfl (lv_at hl 1 rfl) ?_
    refine lv_icmp_ge (tgt := 501) hx hb dL_sound_41 (by decide) (fun c1 => ?_) (fun c1 => ?_)
    · have heq := if_t c1 heq
      refine lv_iconst (v := 0) hx hb dL_sound_501 (by decide) ?_
      refine lv_istore (lv' := [(10, .int 0), (0, .ref (mm_lo G + 0)), (1, .int v1), (2, .int v2), (3, .int v3), (4, .int v4), (5, .int v5), (6, .int v6), (7, .int v7), (8, .int v8), (9, .ref b)]) hx hb dL_sound_502 hl (by decide) rfl (fun ls hl => ?_)
      refine lv_iconst (v := 0) hx hb dL_sound_504 (by decide) ?_
      refine lv_istore (lv' := [(11, .int 0), (10, .int 0), (0, .ref (mm_lo G + 0)), (1, .int v1), (2, .int v2), (3, .int v3), (4, .int v4), (5, .int v5), (6, .int v6), (7, .int v7), (8, .int v8), (9, .ref b)]) hx hb dL_sound_505 hl (by decide) rfl (fun ls hl => ?_)
      refine lv_iconst (v := 0) hx hb dL_sound_507 (by decide) ?_
      refine lv_istore (lv' := [(12, .int 0), (11, .int 0), (10, .int 0), (0, .ref (mm_lo G + 0)), (1, .int v1), (2, .int v2), (3, .int v3), (4, .int v4), (5, .int v5), (6, .int v6), (7, .int v7), (8, .int v8), (9, .ref b)]) hx hb dL_sound_508 hl (by decide) rfl (fun ls hl => ?_)
      exact tL_sound_510 C hb0 hb1 FU _ _ _ _ _ _ _ _ _ _ _ _ _ _ _ _ hM hA hS (lv_sub hl [3, 4, 5, 6, 7, 8, 9, 10, 11, 2, 1, 0] rfl) heq
    · have heq := if_f c1 heq
      refine lv_aload_n hx hb dL_sound_44 rfl (lv_at hl 0 rfl) ?_
      refine lv_iload hx hb dL_sound_45 (lv_at hl 10 rfl) ?_
      refine lv_bipush (v := 12) hx hb dL_sound_47 (by decide) ?_
      obtain ⟨r3, e2, heq⟩ := bn_of heq
      refine mm_kih hA hS hb0 hb1 (mm_runVh (o := 0) (rest := []) C hM hS hb1 (tX6_ofCart l (gH G (b + 1)) M v10 12 r3 e2) (uL_66 _ (Nat.le_of_ble_eq_true rfl) (Nat.le_of_ble_eq_true rfl)) (mm_recv C hM (kl (rfl : kT 0 = (5, 0))) (ci := 5) rfl (mm_e5 (rfl : kT 0 = (5, 0)))) hl.1 rfl rfl (Nat.le_of_ble_eq_true rfl) ⟨Nat.le_refl _, Nat.le_refl _⟩ dL_sound_49) (fun H locs hM hA hS => ?_)
      have hM : mm_P G kR 731 M H := hM
      refine lv_istore (lv' := [(11, .int r3), (0, .ref (mm_lo G + 0)), (1, .int v1), (2, .int v2), (3, .int v3), (4, .int v4), (5, .int v5), (6, .int v6), (7, .int v7), (8, .int v8), (9, .ref b), (10, .int v10)]) hx hb dL_sound_52 hl (by decide) rfl (fun ls hl => ?_)
      refine lv_aload_n hx hb dL_sound_54 rfl (lv_at hl 1 rfl) ?_
      refine lv_iload hx hb dL_sound_55 (lv_at hl 11 rfl) ?_
      refine lv_bipush (v := 13) hx hb dL_sound_57 (by decide) ?_
      obtain ⟨r5, e4, heq⟩ := bn_of heq
      refine mm_kih hA hS hb0 hb1 (mm_runVh (o := 0) (rest := []) C hM hS hb1 (tX6_ofCart l (gH G (b + 1)) M v10 13 r5 e4) (uL_66 _ (Nat.le_of_ble_eq_true rfl) (Nat.le_of_ble_eq_true rfl)) (mm_recv C hM (kl (rfl : kT 0 = (5, 0))) (ci := 5) rfl (mm_e5 (rfl : kT 0 = (5, 0)))) hl.1 rfl rfl (Nat.le_of_ble_eq_true rfl) ⟨Nat.le_refl _, Nat.le_refl _⟩ dL_sound_59) (fun H locs hM hA hS => ?_)
      have hM : mm_P G kR 731 M H := hM
      refine lv_istore (lv' := [(12, .int r5), (11, .int r3), (0, .ref (mm_lo G + 0)), (1, .int v1), (2, .int v2), (3, .int v3), (4, .int v4), (5, .int v5), (6, .int v6), (7, .int v7), (8, .int v8), (9, .ref b), (10, .int v10)]) hx hb dL_sound_62 hl (by decide) rfl (fun ls hl => ?_)
      refine lv_aload_n hx hb dL_sound_64 rfl (lv_at hl 2 rfl) ?_
      refine lv_iload hx hb dL_sound_65 (lv_at hl 12 rfl) ?_
      refine lv_bipush (v := 15) hx hb dL_sound_67 (by decide) ?_
      obtain ⟨r7, e6, heq⟩ := bn_of heq
      refine mm_kih hA hS hb0 hb1 (mm_runVh (o := 0) (rest := []) C hM hS hb1 (tX6_ofCart l (gH G (b + 1)) M v10 15 r7 e6) (uL_66 _ (Nat.le_of_ble_eq_true rfl) (Nat.le_of_ble_eq_true rfl)) (mm_recv C hM (kl (rfl : kT 0 = (5, 0))) (ci := 5) rfl (mm_e5 (rfl : kT 0 = (5, 0)))) hl.1 rfl rfl (Nat.le_of_ble_eq_true rfl) ⟨Nat.le_refl _, Nat.le_refl _⟩ dL_sound_69) (fun H locs hM hA hS => ?_)
      have hM : mm_P G kR 731 M H := hM
      refine lv_istore (lv' := [(13, .int r7), (12, .int r5), (11, .int r3), (0, .ref (mm_lo G + 0)), (1, .int v1), (2, .int v2), (3, .int v3), (4, .int v4), (5, .int v5), (6, .int v6), (7, .int v7), (8, .int v8), (9, .ref b), (10, .int v10)]) hx hb dL_sound_72 hl (by decide) rfl (fun ls hl => ?_)
      refine lv_aload_n hx hb dL_sound_74 rfl (lv_at hl 3 rfl) ?_
      refine lv_iload hx hb dL_sound_75 (lv_at hl 13 rfl) ?_
      refine lv_bipush (v := 14) hx hb dL_sound_77 (by decide) ?_
      obtain ⟨r9, e8, heq⟩ := bn_of heq
      refine mm_kih hA hS hb0 hb1 (mm_runVh (o := 0) (rest := []) C hM hS hb1 (tX6_ofCart l (gH G (b + 1)) M v10 14 r9 e8) (uL_66 _ (Nat.le_of_ble_eq_true rfl) (Nat.le_of_ble_eq_true rfl)) (mm_recv C hM (kl (rfl : kT 0 = (5, 0))) (ci := 5) rfl (mm_e5 (rfl : kT 0 = (5, 0)))) hl.1 rfl rfl (Nat.le_of_ble_eq_true rfl) ⟨Nat.le_refl _, Nat.le_refl _⟩ dL_sound_79) (fun H locs hM hA hS => ?_)
      have hM : mm_P G kR 731 M H := hM
      refine lv_istore (lv' := [(14, .int r9), (13, .int r7), (12, .int r5), (11, .int r3), (0, .ref (mm_lo G + 0)), (1, .int v1), (2, .int v2), (3, .int v3), (4, .int v4), (5, .int v5), (6, .int v6), (7, .int v7), (8, .int v8), (9, .ref b), (10, .int v10)]) hx hb dL_sound_82 hl (by decide) rfl (fun ls hl => ?_)
      refine lv_iload_n hx hb dL_sound_84 rfl (lv_at hl 7 rfl) ?_
      refine lv_aload_n hx hb dL_sound_85 rfl (lv_at hl 4 rfl) ?_
      refine lv_iload hx hb dL_sound_86 (lv_at hl 14 rfl) ?_
      refine lv_bipush (v := 11) hx hb dL_sound_88 (by decide) ?_
      obtain ⟨r11, e10, heq⟩ := bn_of heq
      refine mm_kih hA hS hb0 hb1 (mm_runVh (o := 0) (rest := [.int v3]) C hM hS hb1 (tX6_ofCart l (gH G (b + 1)) M v10 11 r11 e10) (uL_66 _ (Nat.le_of_ble_eq_true rfl) (Nat.le_of_ble_eq_true rfl)) (mm_recv C hM (kl (rfl : kT 0 = (5, 0))) (ci := 5) rfl (mm_e5 (rfl : kT 0 = (5, 0)))) hl.1 rfl rfl (Nat.le_of_ble_eq_true rfl) ⟨Nat.le_refl _, Nat.le_refl _⟩ dL_sound_90) (fun H locs hM hA hS => ?_)
      have hM : mm_P G kR 731 M H := hM
      refine lv_iadd hx hb dL_sound_93 ?_
      refine lv_topi (fun y12 ey12 => ?_)
      have heq := lt_to ey12 heq
      refine lv_istore_n (lv' := [(3, .int y12), (14, .int r9), (13, .int r7), (12, .int r5), (11, .int r3), (0, .ref (mm_lo G + 0)), (1, .int v1), (2, .int v2), (4, .int v4), (5, .int v5), (6, .int v6), (7, .int v7), (8, .int v8), (9, .ref b), (10, .int v10)]) hx hb dL_sound_94 rfl hl (by decide) rfl (fun ls hl => ?_)
      refine lv_iload hx hb dL_sound_95 (lv_at hl 8 rfl) ?_
      refine lv_aload_n hx hb dL_sound_97 rfl (lv_at hl 5 rfl) ?_
      refine lv_iload hx hb dL_sound_98 (lv_at hl 14 rfl) ?_
      refine lv_iconst (v := 2) hx hb dL_sound_100 (by decide) ?_
      obtain ⟨r14, e13, heq⟩ := bn_of heq
      refine mm_klh hA hS hb0 hb1 (mm_runVh (o := 0) (rest := [.int v4]) C hM hS hb1 (tX6_money l (gH G (b + 1)) M v10 2 r14 e13) (uL_73 _ (Nat.le_of_ble_eq_true rfl) (Nat.le_of_ble_eq_true rfl)) (mm_recv C hM (kl (rfl : kT 0 = (5, 0))) (ci := 5) rfl (mm_e5 (rfl : kT 0 = (5, 0)))) hl.1 rfl rfl (Nat.le_of_ble_eq_true rfl) ⟨Nat.le_refl _, Nat.le_refl _⟩ dL_sound_101) (fun H locs hM hA hS => ?_)
      have hM : mm_P G kR 731 M H := hM
      refine lv_l2i hx hb dL_sound_104 rfl ?_
      refine lv_iadd hx hb dL_sound_105 ?_
      refine lv_topi (fun y15 ey15 => ?_)
      have heq := lt_to ey15 heq
      refine lv_istore (lv' := [(4, .int y15), (3, .int y12), (14, .int r9), (13, .int r7), (12, .int r5), (11, .int r3), (0, .ref (mm_lo G + 0)), (1, .int v1), (2, .int v2), (5, .int v5), (6, .int v6), (7, .int v7), (8, .int v8), (9, .ref b), (10, .int v10)]) hx hb dL_sound_106 hl (by decide) rfl (fun ls hl => ?_)
      refine lv_iload hx hb dL_sound_108 (lv_at hl 12 rfl) ?_
      refine lv_aload_n hx hb dL_sound_110 rfl (lv_at hl 6 rfl) ?_
      refine lv_iload hx hb dL_sound_111 (lv_at hl 14 rfl) ?_
      refine lv_bipush (v := 8) hx hb dL_sound_113 (by decide) ?_
      obtain ⟨r17, e16, heq⟩ := bn_of heq
      refine mm_kih hA hS hb0 hb1 (mm_runVh (o := 0) (rest := [.int v8]) C hM hS hb1 (tX6_ofCart l (gH G (b + 1)) M v10 8 r17 e16) (uL_66 _ (Nat.le_of_ble_eq_true rfl) (Nat.le_of_ble_eq_true rfl)) (mm_recv C hM (kl (rfl : kT 0 = (5, 0))) (ci := 5) rfl (mm_e5 (rfl : kT 0 = (5, 0)))) hl.1 rfl rfl (Nat.le_of_ble_eq_true rfl) ⟨Nat.le_refl _, Nat.le_refl _⟩ dL_sound_115) (fun H locs hM hA hS => ?_)
      have hM : mm_P G kR 731 M H := hM
      refine lv_iadd hx hb dL_sound_118 ?_
      refine lv_topi (fun y18 ey18 => ?_)
      have heq := lt_to ey18 heq
      refine lv_istore (lv' := [(8, .int y18), (4, .int y15), (3, .int y12), (14, .int r9), (13, .int r7), (12, .int r5), (11, .int r3), (0, .ref (mm_lo G + 0)), (1, .int v1), (2, .int v2), (5, .int v5), (6, .int v6), (7, .int v7), (9, .ref b), (10, .int v10)]) hx hb dL_sound_119 hl (by decide) rfl (fun ls hl => ?_)
      refine lv_iload hx hb dL_sound_121 (lv_at hl 11 rfl) ?_
      refine lv_iload hx hb dL_sound_123 (lv_at hl 4 rfl) ?_
      refine lv_if_lt (tgt := 132) hx hb dL_sound_125 (by decide) (fun c19 => ?_) (fun c19 => ?_)
      · have heq := if_t c19 heq
        refine lv_iconst (v := 0) hx hb dL_sound_132 (by decide) ?_
        exact tL_sound_133 C hb0 hb1 ih _ _ _ _ _ _ _ _ _ _ _ _ _ _ _ _ _ _ _ hM hA hS (lv_sub hl [7, 8, 9, 2, 1, 10, 12, 0, 13, 14, 6, 5, 4, 3] rfl) heq
      · have heq := if_f c19 heq
        refine lv_iconst (v := 1) hx hb dL_sound_128 (by decide) ?_
        refine lv_goto (tgt := 133) hx hb dL_sound_129 (by decide) ?_
        exact tL_sound_133 C hb0 hb1 ih _ _ _ _ _ _ _ _ _ _ _ _ _ _ _ _ _ _ _ hM hA hS (lv_sub hl [7, 8, 9, 2, 1, 10, 12, 0, 13, 14, 6, 5, 4, 3] rfl) heq

set_option maxRecDepth 100000 in
set_option maxHeartbeats 4000000 in
theorem tL_sound (l : Launch) (G : mm_G) (M : mm_M) (hhi : G.2.2 4 ≤ mm_lo G + 731)  (r : Bool) (M9 : mm_M) (heq : fL_sound M = some (r, M9)) : Met l yL_sound (mm_ws yL_sound cL_sound 18 (some .boolean)) rmL_sound (va_Pc [.ref (mm_lo G + 0)] (mm_B G (kR, 731, M))) (mm_Qi G (b2i r) (kR, 731, M9)) 1 16 (mm_A G) := by
  refine mm_met (cc := cL_sound) (nL := 18) (ret := (some .boolean)) plRL (Nat.le_of_ble_eq_true rfl) ?_
  intro p e s m below meth c ls hin C hM hS hl
  have C : mm_C G p s m _ meth c RL cL_sound 18 (some .boolean) := C
  have hM : mm_P G kR 731 M s.heap := hM
  have hl : lv_has ls 18 [(0, .ref (mm_lo G + 0))] := hl
  obtain ⟨hx, hb, -, -, -, -, -, -, hZ, -⟩ := id C
  rw [fL_sound] at heq
  refine lv_aload_n hx hb dL_sound_0 rfl (lv_at hl 0 rfl) ?_
  refine lv_iconst (v := 1) hx hb dL_sound_1 (by decide) ?_
  obtain ⟨r2, e1, heq⟩ := bn_of heq
  refine mm_ki hS (mm_runV (o := 0) (rest := []) C hM hS (tX6_count l G M 1 r2 e1) (uL_60 _ (Nat.le_of_ble_eq_true rfl) (Nat.le_of_ble_eq_true rfl)) (mm_recv C hM (kl (rfl : kT 0 = (5, 0))) (ci := 5) rfl (mm_e5 (rfl : kT 0 = (5, 0)))) hl.1 rfl rfl (Nat.le_of_ble_eq_true rfl) ⟨Nat.zero_le _, Nat.zero_le _⟩ dL_sound_2) (fun H locs hM hS => ?_)
  have hM : mm_P G kR 731 M H := hM
  refine lv_istore_n (lv' := [(1, .int r2), (0, .ref (mm_lo G + 0))]) hx hb dL_sound_5 rfl hl (by decide) rfl (fun ls hl => ?_)
  refine lv_aload_n hx hb dL_sound_6 rfl (lv_at hl 1 rfl) ?_
  refine lv_iconst (v := 2) hx hb dL_sound_7 (by decide) ?_
  obtain ⟨r4, e3, heq⟩ := bn_of heq
  refine mm_ki hS (mm_runV (o := 0) (rest := []) C hM hS (tX6_count l G M 2 r4 e3) (uL_60 _ (Nat.le_of_ble_eq_true rfl) (Nat.le_of_ble_eq_true rfl)) (mm_recv C hM (kl (rfl : kT 0 = (5, 0))) (ci := 5) rfl (mm_e5 (rfl : kT 0 = (5, 0)))) hl.1 rfl rfl (Nat.le_of_ble_eq_true rfl) ⟨Nat.zero_le _, Nat.zero_le _⟩ dL_sound_8) (fun H locs hM hS => ?_)
  have hM : mm_P G kR 731 M H := hM
  refine lv_istore_n (lv' := [(2, .int r4), (1, .int r2), (0, .ref (mm_lo G + 0))]) hx hb dL_sound_11 rfl hl (by decide) rfl (fun ls hl => ?_)
  refine lv_iconst (v := 0) hx hb dL_sound_12 (by decide) ?_
  refine lv_istore_n (lv' := [(3, .int 0), (2, .int r4), (1, .int r2), (0, .ref (mm_lo G + 0))]) hx hb dL_sound_13 rfl hl (by decide) rfl (fun ls hl => ?_)
  refine lv_iconst (v := 0) hx hb dL_sound_14 (by decide) ?_
  refine lv_istore (lv' := [(4, .int 0), (3, .int 0), (2, .int r4), (1, .int r2), (0, .ref (mm_lo G + 0))]) hx hb dL_sound_15 hl (by decide) rfl (fun ls hl => ?_)
  refine lv_iconst (v := 0) hx hb dL_sound_17 (by decide) ?_
  refine lv_istore (lv' := [(5, .int 0), (4, .int 0), (3, .int 0), (2, .int r4), (1, .int r2), (0, .ref (mm_lo G + 0))]) hx hb dL_sound_18 hl (by decide) rfl (fun ls hl => ?_)
  refine lv_iconst (v := 0) hx hb dL_sound_20 (by decide) ?_
  refine lv_istore (lv' := [(6, .int 0), (5, .int 0), (4, .int 0), (3, .int 0), (2, .int r4), (1, .int r2), (0, .ref (mm_lo G + 0))]) hx hb dL_sound_21 hl (by decide) rfl (fun ls hl => ?_)
  refine lv_iconst (v := (-1)) hx hb dL_sound_23 (by decide) ?_
  refine lv_istore (lv' := [(7, .int (-1)), (6, .int 0), (5, .int 0), (4, .int 0), (3, .int 0), (2, .int r4), (1, .int r2), (0, .ref (mm_lo G + 0))]) hx hb dL_sound_24 hl (by decide) rfl (fun ls hl => ?_)
  refine lv_iconst (v := 0) hx hb dL_sound_26 (by decide) ?_
  refine lv_istore (lv' := [(8, .int 0), (7, .int (-1)), (6, .int 0), (5, .int 0), (4, .int 0), (3, .int 0), (2, .int r4), (1, .int r2), (0, .ref (mm_lo G + 0))]) hx hb dL_sound_27 hl (by decide) rfl (fun ls hl => ?_)
  refine lv_bipush (v := 16) hx hb dL_sound_29 (by decide) ?_
  refine ar_new (n := 16) C hM hS (by decide) (by decide) (by decide) wArrI (Nat.le_of_ble_eq_true rfl) (Nat.le_of_ble_eq_true rfl) hhi dL_sound_31 (fun b H hb0 hb1 hM hA hS => ?_)
  have heq := lt_to rfl heq
  obtain ⟨F5, eF5⟩ : ∃ z : Nat → Int32, z = fun _ => (0 : Int32) := ⟨_, rfl⟩
  rw [← eF5] at hA heq
  refine lv_astore (lv' := [(9, .ref b), (8, .int 0), (7, .int (-1)), (6, .int 0), (5, .int 0), (4, .int 0), (3, .int 0), (2, .int r4), (1, .int r2), (0, .ref (mm_lo G + 0))]) hx hb dL_sound_33 hl (by decide) rfl (fun ls hl => ?_)
  refine lv_iconst (v := 0) hx hb dL_sound_35 (by decide) ?_
  refine lv_istore (lv' := [(10, .int 0), (9, .ref b), (8, .int 0), (7, .int (-1)), (6, .int 0), (5, .int 0), (4, .int 0), (3, .int 0), (2, .int r4), (1, .int r2), (0, .ref (mm_lo G + 0))]) hx hb dL_sound_36 hl (by decide) rfl (fun ls hl => ?_)
  exact tL_sound_38 C hb0 hb1 FU _ _ _ _ _ _ _ _ _ _ _ _ _ _ hM hA hS (lv_sub hl [10, 9, 8, 7, 6, 5, 4, 3, 2, 1, 0] rfl) heq
end LWALK
