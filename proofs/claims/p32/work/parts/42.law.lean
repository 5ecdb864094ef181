def fL_law_299 (xs : Nat → Int32) (L : Nat) (k218 : mm_M → Int32 → Int32 → Nat → Nat → Option (Bool)) (M : mm_M) (v2 : Int32) (v5 : Int32) (cl : Nat) (sl : Nat) : Option (Bool) :=
  if (v5 - v5 / 9 * 9) = 8 then
    lt (v2 + 1) fun y3 =>
    gd (cl + 0 ≤ 600000 ∧ sl + 0 ≤ 7302250) <|
    bn (fL_cell M xs L v2) fun r6 =>
    bn2 (fL_comes M r6) fun r8 M9 =>
    if r8 = true then
      lt (v5 + 1) fun y11 =>
      k218 M9 y3 y11 cl sl
    else
      some false
  else
    lt (v5 + 1) fun y2 =>
    k218 M v2 y2 cl sl

def fL_law_264 (xs : Nat → Int32) (L : Nat) (k218 : mm_M → Int32 → Int32 → Nat → Nat → Option (Bool)) (M : mm_M) (v2 : Int32) (v5 : Int32) (t1 : Int32) (t2 : Int32) (cl : Nat) (sl : Nat) : Option (Bool) :=
  lt (v2 + 1) fun y1 =>
  gd (cl + 0 ≤ 600000 ∧ sl + 0 ≤ 7302250) <|
  bn (fL_cell M xs L (v2 + 1)) fun r4 =>
  gd (cl + 1 ≤ 600000 ∧ sl + 40 ≤ 7302250) <|
  bn2 (fL_act M t1 t2 r4) fun r7 M8 =>
  if r7 = true then
    if (v5 - v5 / 4 * 4) = 3 then
      gd ((cl + 1) + 1 ≤ 600000 ∧ (sl + 40) + 16 ≤ 7302250) <|
      bn2 (fL_sound M8) fun r13 M14 =>
      if r13 = true then
        fL_law_299 xs L k218 M14 y1 v5 ((cl + 1) + 1) ((sl + 40) + 16)
      else
        some false
    else
      fL_law_299 xs L k218 M8 y1 v5 (cl + 1) (sl + 40)
  else
    some false

def fL_law_248 (xs : Nat → Int32) (L : Nat) (k218 : mm_M → Int32 → Int32 → Nat → Nat → Option (Bool)) (M : mm_M) (v2 : Int32) (v5 : Int32) (t1 : Int32) (cl : Nat) (sl : Nat) : Option (Bool) :=
  if 5 ≤ v5 then
    gd (cl + 0 ≤ 600000 ∧ sl + 0 ≤ 7302250) <|
    bn (fL_cell M xs L v2) fun r4 =>
    fL_law_264 xs L k218 M v2 v5 t1 r4 cl sl
  else
    fL_law_264 xs L k218 M v2 v5 t1 v5 cl sl

def fL_law_218 (xs : Nat → Int32) (L : Nat) : Nat → mm_M → Int32 → Int32 → Nat → Nat → Option (Bool)
  | 0, _, _, _, _, _ => none
  | n + 1, M, v2, v5, cl, sl =>
    if 42 ≤ v5 then
      lt (v2 + 1) fun y2 =>
      gd (cl + 0 ≤ 600000 ∧ sl + 0 ≤ 7302250) <|
      bn (fL_cell M xs L v2) fun r5 =>
      bn2 (fL_back M r5) fun r7 M8 =>
      if r7 = true then
        gd (cl + 1 ≤ 600000 ∧ sl + 16 ≤ 7302250) <|
        bn2 (fL_sound M8) fun r12 M13 =>
        if r12 = true then
          gd ((cl + 1) + 0 ≤ 600000 ∧ (sl + 16) + 0 ≤ 7302250) <|
          some true
        else
          some false
      else
        some false
    else
      lt (v2 + 1) fun y16 =>
      gd (cl + 0 ≤ 600000 ∧ sl + 0 ≤ 7302250) <|
      bn (fL_cell M xs L v2) fun r19 =>
      if 5 ≤ v5 then
        fL_law_248 xs L (fL_law_218 xs L n) M y16 v5 r19 cl sl
      else
        fL_law_248 xs L (fL_law_218 xs L n) M y16 v5 0 cl sl

def fL_law_159 (xs : Nat → Int32) (L : Nat) : Nat → mm_M → Int32 → Int32 → Int32 → Nat → Nat → Option (Bool)
  | 0, _, _, _, _, _, _ => none
  | n + 1, M, v2, v4, v5, cl, sl =>
    if v4 ≤ v5 then
      lt (v2 + 1) fun y2 =>
      fL_law_218 xs L FU M y2 0 cl sl
    else
      gd (cl + 0 ≤ 600000 ∧ sl + 0 ≤ 7302250) <|
      bn (fL_cell M xs L v2) fun r5 =>
      bn (fL_up M (r5 >>> (v5 &&& 31)) 4) fun r7 =>
      bn (fL_cell M xs L v2) fun r9 =>
      bn (fL_up M (r9 >>> ((2 * v5) &&& 31)) 6) fun r11 =>
      bn2 (fX6_cart M r7 (1 + r11)) fun r13 M14 =>
      if r13 = v5 then
        lt (v5 + 1) fun y16 =>
        fL_law_159 xs L n M14 v2 v4 y16 cl sl
      else
        some false

def fL_law_99 (xs : Nat → Int32) (L : Nat) : Nat → mm_M → Int32 → Int32 → Int32 → Nat → Nat → Option (Bool)
  | 0, _, _, _, _, _, _ => none
  | n + 1, M, v2, v3, v4, cl, sl =>
    if v3 ≤ v4 then
      lt (v2 + 1) fun y2 =>
      gd (cl + 0 ≤ 600000 ∧ sl + 0 ≤ 7302250) <|
      bn (fL_cell M xs L v2) fun r5 =>
      bn (fL_up M (r5 >>> (7 &&& 31)) 6) fun r7 =>
      lt (2 + r7) fun y8 =>
      fL_law_159 xs L FU M y2 y8 0 cl sl
    else
      gd (cl + 0 ≤ 600000 ∧ sl + 0 ≤ 7302250) <|
      bn (fL_cell M xs L v2) fun r11 =>
      bn (fL_up M (r11 >>> (v4 &&& 31)) 5000) fun r13 =>
      bn2 (fX6_pitch M r13) fun r15 M16 =>
      if r15 = v4 then
        lt (v4 + 1) fun y18 =>
        fL_law_99 xs L n M16 v2 v3 y18 cl sl
      else
        some false

def fL_law_52 (xs : Nat → Int32) (L : Nat) : Nat → mm_M → Int32 → Int32 → Nat → Nat → Option (Bool)
  | 0, _, _, _, _, _ => none
  | n + 1, M, v2, v3, cl, sl =>
    if 4 ≤ v3 then
      lt (v2 + 1) fun y2 =>
      gd (cl + 0 ≤ 600000 ∧ sl + 0 ≤ 7302250) <|
      bn (fL_cell M xs L v2) fun r5 =>
      bn (fL_up M r5 6) fun r7 =>
      lt (2 + r7) fun y8 =>
      fL_law_99 xs L FU M y2 y8 0 cl sl
    else
      lt (v2 + 1) fun y9 =>
      gd (cl + 0 ≤ 600000 ∧ sl + 0 ≤ 7302250) <|
      bn (fL_cell M xs L v2) fun r12 =>
      bn2 (fL_sets M r12) fun r14 M15 =>
      if r14 = true then
        lt (v3 + 1) fun y17 =>
        fL_law_52 xs L n M15 y9 y17 cl sl
      else
        some false

def fL_law_8 (xs : Nat → Int32) (L : Nat) (M : mm_M) (cl : Nat) (sl : Nat) : Option (Bool) :=
  lt (0 + 1) fun y1 =>
  gd (cl + 0 ≤ 600000 ∧ sl + 0 ≤ 7302250) <|
  bn (fL_cell M xs L 0) fun r4 =>
  bn2 (fL_refused M r4) fun r6 M7 =>
  if r6 = true then
    lt (y1 + 1) fun y9 =>
    bn (fL_cell M7 xs L y1) fun r11 =>
    bn (fL_up M7 r11 65537) fun r13 =>
    bn2 (fX6_seed M7 r13) fun r15 M16 =>
    if r15 = 1 then
      fL_law_52 xs L FU M16 y9 0 cl sl
    else
      some false
  else
    some false
section LAWW
variable {p : Program} {l : Launch} {e : Env} {s : State} {m : MethodId} {args : Array Value} {below : List Frame} {meth : Method} {c : Code} {G : mm_G}
set_option maxRecDepth 100000 in
set_option maxHeartbeats 4000000 in
theorem tL_law_299 {b L : Nat} {xs : Nat → Int32} (hX : va_X b L xs s s.heap) (hbA : ¬ mm_A G b) (hbl : b < s.heap.size) (hlo : mm_lo G = s.heap.size) (hhi : G.2.2 4 ≤ mm_lo G + 731) (C : mm_C G p s m #[Value.ref b] meth c RL cL_law 7 (some .boolean))  {k218 : mm_M → Int32 → Int32 → Nat → Nat → Option (Bool)} (hk218 : ∀ (M : mm_M) (v2 : Int32) (v5 : Int32) (cl : Nat) (sl : Nat) (H : Heap) (locs : List Loc) (ls : Array Slot), mm_P G kR 731 M H → va_S (mm_A G) s.heap H locs → lv_has ls 7 [(0, .ref b), (1, .ref (mm_lo G + 0)), (2, .int v2), (5, .int v5)] → k218 M v2 v5 cl sl = some true → W p l e room_1 s m #[Value.ref b] below meth c H locs cl sl (lw_Z below #[Value.ref b] s) (F0 m 218 ls [])) : ∀ (M : mm_M) (v2 : Int32) (v5 : Int32) (cl : Nat) (sl : Nat) (H : Heap) (locs : List Loc) (ls : Array Slot), mm_P G kR 731 M H → va_S (mm_A G) s.heap H locs → lv_has ls 7 [(0, .ref b), (1, .ref (mm_lo G + 0)), (2, .int v2), (5, .int v5)] → fL_law_299 xs L k218 M v2 v5 cl sl = some true → W p l e room_1 s m #[Value.ref b] below meth c H locs cl sl (lw_Z below #[Value.ref b] s) (F0 m 299 ls []) := by
  obtain ⟨hx, hb, hr, -, -, -, hlocks, -, hZ, -⟩ := id C
  intro M v2 v5 cl sl H locs ls hM hS hl heq
  rw [fL_law_299] at heq
  refine lv_iload hx hb dL_law_299 (lv_at hl 3 rfl) ?_
  refine lv_bipush (v := 9) hx hb dL_law_301 (by decide) ?_
  refine lv_irem hx hb dL_law_303 (by decide) ?_
  refine lv_bipush (v := 8) hx hb dL_law_304 (by decide) ?_
  refine lv_icmp_ne (tgt := 326) hx hb dL_law_306 (by decide) (fun c1 => ?_) (fun c1 => ?_)
  · have heq := if_f c1 heq
    obtain ⟨y2, ey2⟩ : ∃ y : Int32, y = (v5 + 1) := ⟨_, rfl⟩
    have heq := lt_to ey2 heq
    refine lv_iinc (v := y2) (lv' := [(5, .int y2), (0, .ref b), (1, .ref (mm_lo G + 0)), (2, .int v2)]) hx hb dL_law_326 hl (k := 3) rfl (by rw [ey2]; rfl) (by decide) rfl (fun ls hl => ?_)
    refine lv_goto (tgt := 218) hx hb dL_law_329 (by decide) ?_
    exact hk218 _ _ _ _ _ _ _ _ hM hS (lv_sub hl [1, 2, 3, 0] rfl) heq
  · have heq := if_t c1 heq
    refine lv_aload_n hx hb dL_law_309 rfl (lv_at hl 1 rfl) ?_
    refine lv_aload_n hx hb dL_law_310 rfl (lv_at hl 0 rfl) ?_
    refine lv_iload_n hx hb dL_law_311 rfl (lv_at hl 2 rfl) ?_
    obtain ⟨y3, ey3⟩ : ∃ y : Int32, y = (v2 + 1) := ⟨_, rfl⟩
    have heq := lt_to ey3 heq
    refine lv_iinc (v := y3) (lv' := [(2, .int y3), (0, .ref b), (1, .ref (mm_lo G + 0)), (5, .int v5)]) hx hb dL_law_312 hl (k := 2) rfl (by rw [ey3]; rfl) (by decide) rfl (fun ls hl => ?_)
    obtain ⟨g4, heq⟩ := gd_of heq
    obtain ⟨r6, e5, heq⟩ := bn_of heq
    refine mm_ki hS (mm_runX (rest := [.ref (mm_lo G + 0)]) C hM hS hX hbA hbl (tL_cell l G M b L xs v2 r6 e5) (uL_12 _ (Nat.le_of_ble_eq_true rfl) (Nat.le_of_ble_eq_true rfl)) hl.1 rfl rfl (Nat.le_of_ble_eq_true rfl) g4 dL_law_315) (fun H locs hM hS => ?_)
    have hM : mm_P G kR 731 M H := hM
    obtain ⟨r8, M9, e7, heq⟩ := bn2_of heq
    refine mm_ki hS (mm_runS (rest := []) C hM hS (tL_comes l G M r6 r8 M9 e7) (uL_48 _ (Nat.le_of_ble_eq_true rfl) (Nat.le_of_ble_eq_true rfl)) hl.1 rfl rfl (Nat.le_of_ble_eq_true rfl) g4 dL_law_318) (fun H locs hM hS => ?_)
    have hM : mm_P G kR 731 M9 H := hM
    refine mm_ifneZ (tgt := 326) C dL_law_321 (by decide) (fun c10 => ?_) (fun c10 => ?_)
    · have heq := if_t c10 heq
      obtain ⟨y11, ey11⟩ : ∃ y : Int32, y = (v5 + 1) := ⟨_, rfl⟩
      have heq := lt_to ey11 heq
      refine lv_iinc (v := y11) (lv' := [(5, .int y11), (2, .int y3), (0, .ref b), (1, .ref (mm_lo G + 0))]) hx hb dL_law_326 hl (k := 3) rfl (by rw [ey11]; rfl) (by decide) rfl (fun ls hl => ?_)
      refine lv_goto (tgt := 218) hx hb dL_law_329 (by decide) ?_
      exact hk218 _ _ _ _ _ _ _ _ hM hS (lv_sub hl [2, 3, 1, 0] rfl) heq
    · have heq := if_f c10 heq
      refine lv_iconst (v := 0) hx hb dL_law_324 (by decide) ?_
      cases heq

set_option maxRecDepth 100000 in
set_option maxHeartbeats 4000000 in
theorem tL_law_264 {b L : Nat} {xs : Nat → Int32} (hX : va_X b L xs s s.heap) (hbA : ¬ mm_A G b) (hbl : b < s.heap.size) (hlo : mm_lo G = s.heap.size) (hhi : G.2.2 4 ≤ mm_lo G + 731) (C : mm_C G p s m #[Value.ref b] meth c RL cL_law 7 (some .boolean))  {k218 : mm_M → Int32 → Int32 → Nat → Nat → Option (Bool)} (hk218 : ∀ (M : mm_M) (v2 : Int32) (v5 : Int32) (cl : Nat) (sl : Nat) (H : Heap) (locs : List Loc) (ls : Array Slot), mm_P G kR 731 M H → va_S (mm_A G) s.heap H locs → lv_has ls 7 [(0, .ref b), (1, .ref (mm_lo G + 0)), (2, .int v2), (5, .int v5)] → k218 M v2 v5 cl sl = some true → W p l e room_1 s m #[Value.ref b] below meth c H locs cl sl (lw_Z below #[Value.ref b] s) (F0 m 218 ls [])) : ∀ (M : mm_M) (v2 : Int32) (v5 : Int32) (t1 : Int32) (t2 : Int32) (cl : Nat) (sl : Nat) (H : Heap) (locs : List Loc) (ls : Array Slot), mm_P G kR 731 M H → va_S (mm_A G) s.heap H locs → lv_has ls 7 [(0, .ref b), (1, .ref (mm_lo G + 0)), (2, .int v2), (5, .int v5)] → fL_law_264 xs L k218 M v2 v5 t1 t2 cl sl = some true → W p l e room_1 s m #[Value.ref b] below meth c H locs cl sl (lw_Z below #[Value.ref b] s) (F0 m 264 ls [.int t2, .int t1, .ref (mm_lo G + 0)]) := by
  obtain ⟨hx, hb, hr, -, -, -, hlocks, -, hZ, -⟩ := id C
  intro M v2 v5 t1 t2 cl sl H locs ls hM hS hl heq
  rw [fL_law_264] at heq
  refine lv_aload_n hx hb dL_law_264 rfl (lv_at hl 0 rfl) ?_
  refine lv_iload_n hx hb dL_law_265 rfl (lv_at hl 2 rfl) ?_
  obtain ⟨y1, ey1⟩ : ∃ y : Int32, y = (v2 + 1) := ⟨_, rfl⟩
  have heq := lt_to ey1 heq
  refine lv_iinc (v := y1) (lv' := [(2, .int y1), (0, .ref b), (1, .ref (mm_lo G + 0)), (5, .int v5)]) hx hb dL_law_266 hl (k := 2) rfl (by rw [ey1]; rfl) (by decide) rfl (fun ls hl => ?_)
  refine lv_iconst (v := 1) hx hb dL_law_269 (by decide) ?_
  refine lv_iadd hx hb dL_law_270 ?_
  obtain ⟨g2, heq⟩ := gd_of heq
  obtain ⟨r4, e3, heq⟩ := bn_of heq
  refine mm_ki hS (mm_runX (rest := [.int t2, .int t1, .ref (mm_lo G + 0)]) C hM hS hX hbA hbl (tL_cell l G M b L xs (v2 + 1) r4 e3) (uL_12 _ (Nat.le_of_ble_eq_true rfl) (Nat.le_of_ble_eq_true rfl)) hl.1 rfl rfl (Nat.le_of_ble_eq_true rfl) g2 dL_law_271) (fun H locs hM hS => ?_)
  have hM : mm_P G kR 731 M H := hM
  obtain ⟨g5, heq⟩ := gd_of heq
  obtain ⟨r7, M8, e6, heq⟩ := bn2_of heq
  refine mm_kiM hS (mm_runM (rest := []) C hM hS (tL_act l G M hhi t1 t2 r4 r7 M8 e6) (uL_40 _ (Nat.le_of_ble_eq_true rfl) (Nat.le_of_ble_eq_true rfl)) hl.1 rfl rfl (Nat.le_of_ble_eq_true rfl) g5 dL_law_274) (fun H locs hM hS => ?_)
  have hM : mm_P G kR 731 M8 H := hM
  refine mm_ifneZ (tgt := 282) C dL_law_277 (by decide) (fun c9 => ?_) (fun c9 => ?_)
  · have heq := if_t c9 heq
    refine lv_iload hx hb dL_law_282 (lv_at hl 3 rfl) ?_
    refine lv_iconst (v := 4) hx hb dL_law_284 (by decide) ?_
    refine lv_irem hx hb dL_law_285 (by decide) ?_
    refine lv_iconst (v := 3) hx hb dL_law_286 (by decide) ?_
    refine lv_icmp_ne (tgt := 299) hx hb dL_law_287 (by decide) (fun c10 => ?_) (fun c10 => ?_)
    · have heq := if_f c10 heq
      exact tL_law_299 hX hbA hbl hlo hhi C hk218 _ _ _ _ _ _ _ _ hM hS (lv_sub hl [1, 2, 0, 3] rfl) heq
    · have heq := if_t c10 heq
      refine lv_aload_n hx hb dL_law_290 rfl (lv_at hl 2 rfl) ?_
      obtain ⟨g11, heq⟩ := gd_of heq
      obtain ⟨r13, M14, e12, heq⟩ := bn2_of heq
      refine mm_kiM hS (mm_runM (rest := []) C hM hS (tL_sound l G M8 hhi r13 M14 e12) (uL_44 _ (Nat.le_of_ble_eq_true rfl) (Nat.le_of_ble_eq_true rfl)) hl.1 rfl rfl (Nat.le_of_ble_eq_true rfl) g11 dL_law_291) (fun H locs hM hS => ?_)
      have hM : mm_P G kR 731 M14 H := hM
      refine mm_ifneZ (tgt := 299) C dL_law_294 (by decide) (fun c15 => ?_) (fun c15 => ?_)
      · have heq := if_t c15 heq
        exact tL_law_299 hX hbA hbl hlo hhi C hk218 _ _ _ _ _ _ _ _ hM hS (lv_sub hl [1, 2, 0, 3] rfl) heq
      · have heq := if_f c15 heq
        refine lv_iconst (v := 0) hx hb dL_law_297 (by decide) ?_
        cases heq
  · have heq := if_f c9 heq
    refine lv_iconst (v := 0) hx hb dL_law_280 (by decide) ?_
    cases heq

set_option maxRecDepth 100000 in
set_option maxHeartbeats 4000000 in
theorem tL_law_248 {b L : Nat} {xs : Nat → Int32} (hX : va_X b L xs s s.heap) (hbA : ¬ mm_A G b) (hbl : b < s.heap.size) (hlo : mm_lo G = s.heap.size) (hhi : G.2.2 4 ≤ mm_lo G + 731) (C : mm_C G p s m #[Value.ref b] meth c RL cL_law 7 (some .boolean))  {k218 : mm_M → Int32 → Int32 → Nat → Nat → Option (Bool)} (hk218 : ∀ (M : mm_M) (v2 : Int32) (v5 : Int32) (cl : Nat) (sl : Nat) (H : Heap) (locs : List Loc) (ls : Array Slot), mm_P G kR 731 M H → va_S (mm_A G) s.heap H locs → lv_has ls 7 [(0, .ref b), (1, .ref (mm_lo G + 0)), (2, .int v2), (5, .int v5)] → k218 M v2 v5 cl sl = some true → W p l e room_1 s m #[Value.ref b] below meth c H locs cl sl (lw_Z below #[Value.ref b] s) (F0 m 218 ls [])) : ∀ (M : mm_M) (v2 : Int32) (v5 : Int32) (t1 : Int32) (cl : Nat) (sl : Nat) (H : Heap) (locs : List Loc) (ls : Array Slot), mm_P G kR 731 M H → va_S (mm_A G) s.heap H locs → lv_has ls 7 [(0, .ref b), (1, .ref (mm_lo G + 0)), (2, .int v2), (5, .int v5)] → fL_law_248 xs L k218 M v2 v5 t1 cl sl = some true → W p l e room_1 s m #[Value.ref b] below meth c H locs cl sl (lw_Z below #[Value.ref b] s) (F0 m 248 ls [.int t1, .ref (mm_lo G + 0)]) := by
  obtain ⟨hx, hb, hr, -, -, -, hlocks, -, hZ, -⟩ := id C
  intro M v2 v5 t1 cl sl H locs ls hM hS hl heq
  rw [fL_law_248] at heq
  refine lv_iload hx hb dL_law_248 (lv_at hl 3 rfl) ?_
  refine lv_iconst (v := 5) hx hb dL_law_250 (by decide) ?_
  refine lv_icmp_ge (tgt := 259) hx hb dL_law_251 (by decide) (fun c1 => ?_) (fun c1 => ?_)
  · have heq := if_t c1 heq
    refine lv_aload_n hx hb dL_law_259 rfl (lv_at hl 0 rfl) ?_
    refine lv_iload_n hx hb dL_law_260 rfl (lv_at hl 2 rfl) ?_
    obtain ⟨g2, heq⟩ := gd_of heq
    obtain ⟨r4, e3, heq⟩ := bn_of heq
    refine mm_ki hS (mm_runX (rest := [.int t1, .ref (mm_lo G + 0)]) C hM hS hX hbA hbl (tL_cell l G M b L xs v2 r4 e3) (uL_12 _ (Nat.le_of_ble_eq_true rfl) (Nat.le_of_ble_eq_true rfl)) hl.1 rfl rfl (Nat.le_of_ble_eq_true rfl) g2 dL_law_261) (fun H locs hM hS => ?_)
    have hM : mm_P G kR 731 M H := hM
    exact tL_law_264 hX hbA hbl hlo hhi C hk218 _ _ _ _ _ _ _ _ _ _ hM hS (lv_sub hl [0, 1, 2, 3] rfl) heq
  · have heq := if_f c1 heq
    refine lv_iload hx hb dL_law_254 (lv_at hl 3 rfl) ?_
    refine lv_goto (tgt := 264) hx hb dL_law_256 (by decide) ?_
    exact tL_law_264 hX hbA hbl hlo hhi C hk218 _ _ _ _ _ _ _ _ _ _ hM hS (lv_sub hl [0, 1, 2, 3] rfl) heq

set_option maxRecDepth 100000 in
set_option maxHeartbeats 4000000 in
theorem tL_law_218 {b L : Nat} {xs : Nat → Int32} (hX : va_X b L xs s s.heap) (hbA : ¬ mm_A G b) (hbl : b < s.heap.size) (hlo : mm_lo G = s.heap.size) (hhi : G.2.2 4 ≤ mm_lo G + 731) (C : mm_C G p s m #[Value.ref b] meth c RL cL_law 7 (some .boolean))  : ∀ n : Nat, ∀ (M : mm_M) (v2 : Int32) (v5 : Int32) (cl : Nat) (sl : Nat) (H : Heap) (locs : List Loc) (ls : Array Slot), mm_P G kR 731 M H → va_S (mm_A G) s.heap H locs → lv_has ls 7 [(0, .ref b), (1, .ref (mm_lo G + 0)), (2, .int v2), (5, .int v5)] → fL_law_218 xs L n M v2 v5 cl sl = some true → W p l e room_1 s m #[Value.ref b] below meth c H locs cl sl (lw_Z below #[Value.ref b] s) (F0 m 218 ls []) := by
  obtain ⟨hx, hb, hr, -, -, -, hlocks, -, hZ, -⟩ := id C
  intro n
  induction n with
  | zero =>
    intro M v2 v5 cl sl H locs ls hM hS hl heq
    rw [fL_law_218] at heq
    cases heq
  | succ n ih =>
    intro M v2 v5 cl sl H locs ls hM hS hl heq
    rw [fL_law_218] at heq
    refine lv_iload hx hb dL_law_218 (lv_at hl 3 rfl) ?_
    refine lv_bipush (v := 42) hx hb dL_law_220 (by decide) ?_
    refine lv_icmp_ge (tgt := 332) hx hb dL_law_222 (by decide) (fun c1 => ?_) (fun c1 => ?_)
    · have heq := if_t c1 heq
      refine lv_aload_n hx hb dL_law_332 rfl (lv_at hl 1 rfl) ?_
      refine lv_aload_n hx hb dL_law_333 rfl (lv_at hl 0 rfl) ?_
      refine lv_iload_n hx hb dL_law_334 rfl (lv_at hl 2 rfl) ?_
      obtain ⟨y2, ey2⟩ : ∃ y : Int32, y = (v2 + 1) := ⟨_, rfl⟩
      have heq := lt_to ey2 heq
      refine lv_iinc (v := y2) (lv' := [(2, .int y2), (0, .ref b), (1, .ref (mm_lo G + 0)), (5, .int v5)]) hx hb dL_law_335 hl (k := 2) rfl (by rw [ey2]; rfl) (by decide) rfl (fun ls hl => ?_)
      obtain ⟨g3, heq⟩ := gd_of heq
      obtain ⟨r5, e4, heq⟩ := bn_of heq
      refine mm_ki hS (mm_runX (rest := [.ref (mm_lo G + 0)]) C hM hS hX hbA hbl (tL_cell l G M b L xs v2 r5 e4) (uL_12 _ (Nat.le_of_ble_eq_true rfl) (Nat.le_of_ble_eq_true rfl)) hl.1 rfl rfl (Nat.le_of_ble_eq_true rfl) g3 dL_law_338) (fun H locs hM hS => ?_)
      have hM : mm_P G kR 731 M H := hM
      obtain ⟨r7, M8, e6, heq⟩ := bn2_of heq
      refine mm_ki hS (mm_runS (rest := []) C hM hS (tL_back l G M r5 r7 M8 e6) (uL_51 _ (Nat.le_of_ble_eq_true rfl) (Nat.le_of_ble_eq_true rfl)) hl.1 rfl rfl (Nat.le_of_ble_eq_true rfl) g3 dL_law_341) (fun H locs hM hS => ?_)
      have hM : mm_P G kR 731 M8 H := hM
      refine mm_ifeqZ (tgt := 358) C dL_law_344 (by decide) (fun c9 => ?_) (fun c9 => ?_)
      · have heq := if_f c9 heq
        refine lv_iconst (v := 0) hx hb dL_law_358 (by decide) ?_
        cases heq
      · have heq := if_t c9 heq
        refine lv_aload_n hx hb dL_law_347 rfl (lv_at hl 2 rfl) ?_
        obtain ⟨g10, heq⟩ := gd_of heq
        obtain ⟨r12, M13, e11, heq⟩ := bn2_of heq
        refine mm_kiM hS (mm_runM (rest := []) C hM hS (tL_sound l G M8 hhi r12 M13 e11) (uL_44 _ (Nat.le_of_ble_eq_true rfl) (Nat.le_of_ble_eq_true rfl)) hl.1 rfl rfl (Nat.le_of_ble_eq_true rfl) g10 dL_law_348) (fun H locs hM hS => ?_)
        have hM : mm_P G kR 731 M13 H := hM
        refine mm_ifeqZ (tgt := 358) C dL_law_351 (by decide) (fun c14 => ?_) (fun c14 => ?_)
        · have heq := if_f c14 heq
          refine lv_iconst (v := 0) hx hb dL_law_358 (by decide) ?_
          cases heq
        · have heq := if_t c14 heq
          refine lv_iconst (v := 1) hx hb dL_law_354 (by decide) ?_
          refine lv_goto (tgt := 359) hx hb dL_law_355 (by decide) ?_
          obtain ⟨g15, heq⟩ := gd_of heq
          refine W.widen (k := 600000) (n := 7302250) g15.1 g15.2 ?_
          refine va_forget (fun q hq => by have h := (hS.2.2 q hq).1; rw [← hlo]; exact h) ?_
          exact lw_ret hx hb hr hlocks dL_law_359
    · have heq := if_f c1 heq
      refine lv_aload_n hx hb dL_law_225 rfl (lv_at hl 0 rfl) ?_
      refine lv_iload_n hx hb dL_law_226 rfl (lv_at hl 2 rfl) ?_
      obtain ⟨y16, ey16⟩ : ∃ y : Int32, y = (v2 + 1) := ⟨_, rfl⟩
      have heq := lt_to ey16 heq
      refine lv_iinc (v := y16) (lv' := [(2, .int y16), (0, .ref b), (1, .ref (mm_lo G + 0)), (5, .int v5)]) hx hb dL_law_227 hl (k := 2) rfl (by rw [ey16]; rfl) (by decide) rfl (fun ls hl => ?_)
      obtain ⟨g17, heq⟩ := gd_of heq
      obtain ⟨r19, e18, heq⟩ := bn_of heq
      refine mm_ki hS (mm_runX (rest := []) C hM hS hX hbA hbl (tL_cell l G M b L xs v2 r19 e18) (uL_12 _ (Nat.le_of_ble_eq_true rfl) (Nat.le_of_ble_eq_true rfl)) hl.1 rfl rfl (Nat.le_of_ble_eq_true rfl) g17 dL_law_230) (fun H locs hM hS => ?_)
      have hM : mm_P G kR 731 M H := hM
      refine lv_istore (lv' := [(6, .int r19), (2, .int y16), (0, .ref b), (1, .ref (mm_lo G + 0)), (5, .int v5)]) hx hb dL_law_233 hl (by decide) rfl (fun ls hl => ?_)
      refine lv_aload_n hx hb dL_law_235 rfl (lv_at hl 3 rfl) ?_
      refine lv_iload hx hb dL_law_236 (lv_at hl 4 rfl) ?_
      refine lv_iconst (v := 5) hx hb dL_law_238 (by decide) ?_
      refine lv_icmp_ge (tgt := 246) hx hb dL_law_239 (by decide) (fun c20 => ?_) (fun c20 => ?_)
      · have heq := if_t c20 heq
        refine lv_iload hx hb dL_law_246 (lv_at hl 0 rfl) ?_
        exact tL_law_248 hX hbA hbl hlo hhi C ih _ _ _ _ _ _ _ _ _ hM hS (lv_sub hl [2, 3, 1, 4] rfl) heq
      · have heq := if_f c20 heq
        refine lv_iconst (v := 0) hx hb dL_law_242 (by decide) ?_
        refine lv_goto (tgt := 248) hx hb dL_law_243 (by decide) ?_
        exact tL_law_248 hX hbA hbl hlo hhi C ih _ _ _ _ _ _ _ _ _ hM hS (lv_sub hl [2, 3, 1, 4] rfl) heq

set_option maxRecDepth 100000 in
set_option maxHeartbeats 4000000 in
theorem tL_law_159 {b L : Nat} {xs : Nat → Int32} (hX : va_X b L xs s s.heap) (hbA : ¬ mm_A G b) (hbl : b < s.heap.size) (hlo : mm_lo G = s.heap.size) (hhi : G.2.2 4 ≤ mm_lo G + 731) (C : mm_C G p s m #[Value.ref b] meth c RL cL_law 7 (some .boolean))  : ∀ n : Nat, ∀ (M : mm_M) (v2 : Int32) (v4 : Int32) (v5 : Int32) (cl : Nat) (sl : Nat) (H : Heap) (locs : List Loc) (ls : Array Slot), mm_P G kR 731 M H → va_S (mm_A G) s.heap H locs → lv_has ls 7 [(0, .ref b), (1, .ref (mm_lo G + 0)), (2, .int v2), (4, .int v4), (5, .int v5)] → fL_law_159 xs L n M v2 v4 v5 cl sl = some true → W p l e room_1 s m #[Value.ref b] below meth c H locs cl sl (lw_Z below #[Value.ref b] s) (F0 m 159 ls []) := by
  obtain ⟨hx, hb, hr, -, -, -, hlocks, -, hZ, -⟩ := id C
  intro n
  induction n with
  | zero =>
    intro M v2 v4 v5 cl sl H locs ls hM hS hl heq
    rw [fL_law_159] at heq
    cases heq
  | succ n ih =>
    intro M v2 v4 v5 cl sl H locs ls hM hS hl heq
    rw [fL_law_159] at heq
    refine lv_iload hx hb dL_law_159 (lv_at hl 4 rfl) ?_
    refine lv_iload hx hb dL_law_161 (lv_at hl 3 rfl) ?_
    refine lv_icmp_ge (tgt := 212) hx hb dL_law_163 (by decide) (fun c1 => ?_) (fun c1 => ?_)
    · have heq := if_t c1 heq
      obtain ⟨y2, ey2⟩ : ∃ y : Int32, y = (v2 + 1) := ⟨_, rfl⟩
      have heq := lt_to ey2 heq
      refine lv_iinc (v := y2) (lv' := [(2, .int y2), (0, .ref b), (1, .ref (mm_lo G + 0)), (4, .int v4), (5, .int v5)]) hx hb dL_law_212 hl (k := 2) rfl (by rw [ey2]; rfl) (by decide) rfl (fun ls hl => ?_)
      refine lv_iconst (v := 0) hx hb dL_law_215 (by decide) ?_
      refine lv_istore (lv' := [(5, .int 0), (2, .int y2), (0, .ref b), (1, .ref (mm_lo G + 0)), (4, .int v4)]) hx hb dL_law_216 hl (by decide) rfl (fun ls hl => ?_)
      exact tL_law_218 hX hbA hbl hlo hhi C FU _ _ _ _ _ _ _ _ hM hS (lv_sub hl [2, 3, 1, 0] rfl) heq
    · have heq := if_f c1 heq
      refine lv_aload_n hx hb dL_law_166 rfl (lv_at hl 1 rfl) ?_
      refine lv_aload_n hx hb dL_law_167 rfl (lv_at hl 0 rfl) ?_
      refine lv_iload_n hx hb dL_law_168 rfl (lv_at hl 2 rfl) ?_
      obtain ⟨g3, heq⟩ := gd_of heq
      obtain ⟨r5, e4, heq⟩ := bn_of heq
      refine mm_ki hS (mm_runX (rest := [.ref (mm_lo G + 0)]) C hM hS hX hbA hbl (tL_cell l G M b L xs v2 r5 e4) (uL_12 _ (Nat.le_of_ble_eq_true rfl) (Nat.le_of_ble_eq_true rfl)) hl.1 rfl rfl (Nat.le_of_ble_eq_true rfl) g3 dL_law_169) (fun H locs hM hS => ?_)
      have hM : mm_P G kR 731 M H := hM
      refine lv_iload hx hb dL_law_172 (lv_at hl 4 rfl) ?_
      refine lv_ishr hx hb dL_law_174 ?_
      refine lv_iconst (v := 4) hx hb dL_law_175 (by decide) ?_
      obtain ⟨r7, e6, heq⟩ := bn_of heq
      refine mm_ki hS (mm_runS (rest := [.ref (mm_lo G + 0)]) C hM hS (tL_up l G M (r5 >>> (v5 &&& 31)) 4 r7 e6) (uL_23 _ (Nat.le_of_ble_eq_true rfl) (Nat.le_of_ble_eq_true rfl)) hl.1 rfl rfl (Nat.le_of_ble_eq_true rfl) g3 dL_law_176) (fun H locs hM hS => ?_)
      have hM : mm_P G kR 731 M H := hM
      refine lv_iconst (v := 1) hx hb dL_law_179 (by decide) ?_
      refine lv_aload_n hx hb dL_law_180 rfl (lv_at hl 0 rfl) ?_
      refine lv_iload_n hx hb dL_law_181 rfl (lv_at hl 2 rfl) ?_
      obtain ⟨r9, e8, heq⟩ := bn_of heq
      refine mm_ki hS (mm_runX (rest := [.int 1, .int r7, .ref (mm_lo G + 0)]) C hM hS hX hbA hbl (tL_cell l G M b L xs v2 r9 e8) (uL_12 _ (Nat.le_of_ble_eq_true rfl) (Nat.le_of_ble_eq_true rfl)) hl.1 rfl rfl (Nat.le_of_ble_eq_true rfl) g3 dL_law_182) (fun H locs hM hS => ?_)
      have hM : mm_P G kR 731 M H := hM
      refine lv_iconst (v := 2) hx hb dL_law_185 (by decide) ?_
      refine lv_iload hx hb dL_law_186 (lv_at hl 4 rfl) ?_
      refine lv_imul hx hb dL_law_188 ?_
      refine lv_ishr hx hb dL_law_189 ?_
      refine lv_bipush (v := 6) hx hb dL_law_190 (by decide) ?_
      obtain ⟨r11, e10, heq⟩ := bn_of heq
      refine mm_ki hS (mm_runS (rest := [.int 1, .int r7, .ref (mm_lo G + 0)]) C hM hS (tL_up l G M (r9 >>> ((2 * v5) &&& 31)) 6 r11 e10) (uL_23 _ (Nat.le_of_ble_eq_true rfl) (Nat.le_of_ble_eq_true rfl)) hl.1 rfl rfl (Nat.le_of_ble_eq_true rfl) g3 dL_law_192) (fun H locs hM hS => ?_)
      have hM : mm_P G kR 731 M H := hM
      refine lv_iadd hx hb dL_law_195 ?_
      obtain ⟨r13, M14, e12, heq⟩ := bn2_of heq
      refine mm_ki hS (mm_runV (o := 0) (rest := []) C hM hS (tX6_cart l G M r7 (1 + r11) r13 M14 e12) (uL_37 _ (Nat.le_of_ble_eq_true rfl) (Nat.le_of_ble_eq_true rfl)) (mm_recv C hM (kl (rfl : kT 0 = (5, 0))) (ci := 5) rfl (mm_e5 (rfl : kT 0 = (5, 0)))) hl.1 rfl rfl (Nat.le_of_ble_eq_true rfl) g3 dL_law_196) (fun H locs hM hS => ?_)
      have hM : mm_P G kR 731 M14 H := hM
      refine lv_iload hx hb dL_law_199 (lv_at hl 4 rfl) ?_
      refine lv_icmp_eq (tgt := 206) hx hb dL_law_201 (by decide) (fun c15 => ?_) (fun c15 => ?_)
      · have heq := if_t c15 heq
        obtain ⟨y16, ey16⟩ : ∃ y : Int32, y = (v5 + 1) := ⟨_, rfl⟩
        have heq := lt_to ey16 heq
        refine lv_iinc (v := y16) (lv' := [(5, .int y16), (0, .ref b), (1, .ref (mm_lo G + 0)), (2, .int v2), (4, .int v4)]) hx hb dL_law_206 hl (k := 4) rfl (by rw [ey16]; rfl) (by decide) rfl (fun ls hl => ?_)
        refine lv_goto (tgt := 159) hx hb dL_law_209 (by decide) ?_
        exact ih _ _ _ _ _ _ _ _ _ hM hS (lv_sub hl [1, 2, 3, 4, 0] rfl) heq
      · have heq := if_f c15 heq
        refine lv_iconst (v := 0) hx hb dL_law_204 (by decide) ?_
        cases heq

set_option maxRecDepth 100000 in
set_option maxHeartbeats 4000000 in
theorem tL_law_99 {b L : Nat} {xs : Nat → Int32} (hX : va_X b L xs s s.heap) (hbA : ¬ mm_A G b) (hbl : b < s.heap.size) (hlo : mm_lo G = s.heap.size) (hhi : G.2.2 4 ≤ mm_lo G + 731) (C : mm_C G p s m #[Value.ref b] meth c RL cL_law 7 (some .boolean))  : ∀ n : Nat, ∀ (M : mm_M) (v2 : Int32) (v3 : Int32) (v4 : Int32) (cl : Nat) (sl : Nat) (H : Heap) (locs : List Loc) (ls : Array Slot), mm_P G kR 731 M H → va_S (mm_A G) s.heap H locs → lv_has ls 7 [(0, .ref b), (1, .ref (mm_lo G + 0)), (2, .int v2), (3, .int v3), (4, .int v4)] → fL_law_99 xs L n M v2 v3 v4 cl sl = some true → W p l e room_1 s m #[Value.ref b] below meth c H locs cl sl (lw_Z below #[Value.ref b] s) (F0 m 99 ls []) := by
  obtain ⟨hx, hb, hr, -, -, -, hlocks, -, hZ, -⟩ := id C
  intro n
  induction n with
  | zero =>
    intro M v2 v3 v4 cl sl H locs ls hM hS hl heq
    rw [fL_law_99] at heq
    cases heq
  | succ n ih =>
    intro M v2 v3 v4 cl sl H locs ls hM hS hl heq
    rw [fL_law_99] at heq
    refine lv_iload hx hb dL_law_99 (lv_at hl 4 rfl) ?_
    refine lv_iload_n hx hb dL_law_101 rfl (lv_at hl 3 rfl) ?_
    refine lv_icmp_ge (tgt := 136) hx hb dL_law_102 (by decide) (fun c1 => ?_) (fun c1 => ?_)
    · have heq := if_t c1 heq
      refine lv_iconst (v := 2) hx hb dL_law_136 (by decide) ?_
      refine lv_aload_n hx hb dL_law_137 rfl (lv_at hl 0 rfl) ?_
      refine lv_iload_n hx hb dL_law_138 rfl (lv_at hl 2 rfl) ?_
      obtain ⟨y2, ey2⟩ : ∃ y : Int32, y = (v2 + 1) := ⟨_, rfl⟩
      have heq := lt_to ey2 heq
      refine lv_iinc (v := y2) (lv' := [(2, .int y2), (0, .ref b), (1, .ref (mm_lo G + 0)), (3, .int v3), (4, .int v4)]) hx hb dL_law_139 hl (k := 2) rfl (by rw [ey2]; rfl) (by decide) rfl (fun ls hl => ?_)
      obtain ⟨g3, heq⟩ := gd_of heq
      obtain ⟨r5, e4, heq⟩ := bn_of heq
      refine mm_ki hS (mm_runX (rest := [.int 2]) C hM hS hX hbA hbl (tL_cell l G M b L xs v2 r5 e4) (uL_12 _ (Nat.le_of_ble_eq_true rfl) (Nat.le_of_ble_eq_true rfl)) hl.1 rfl rfl (Nat.le_of_ble_eq_true rfl) g3 dL_law_142) (fun H locs hM hS => ?_)
      have hM : mm_P G kR 731 M H := hM
      refine lv_bipush (v := 7) hx hb dL_law_145 (by decide) ?_
      refine lv_ishr hx hb dL_law_147 ?_
      refine lv_bipush (v := 6) hx hb dL_law_148 (by decide) ?_
      obtain ⟨r7, e6, heq⟩ := bn_of heq
      refine mm_ki hS (mm_runS (rest := [.int 2]) C hM hS (tL_up l G M (r5 >>> (7 &&& 31)) 6 r7 e6) (uL_23 _ (Nat.le_of_ble_eq_true rfl) (Nat.le_of_ble_eq_true rfl)) hl.1 rfl rfl (Nat.le_of_ble_eq_true rfl) g3 dL_law_150) (fun H locs hM hS => ?_)
      have hM : mm_P G kR 731 M H := hM
      refine lv_iadd hx hb dL_law_153 ?_
      refine lv_topi (fun y8 ey8 => ?_)
      have heq := lt_to ey8 heq
      refine lv_istore (lv' := [(4, .int y8), (2, .int y2), (0, .ref b), (1, .ref (mm_lo G + 0)), (3, .int v3)]) hx hb dL_law_154 hl (by decide) rfl (fun ls hl => ?_)
      refine lv_iconst (v := 0) hx hb dL_law_156 (by decide) ?_
      refine lv_istore (lv' := [(5, .int 0), (4, .int y8), (2, .int y2), (0, .ref b), (1, .ref (mm_lo G + 0)), (3, .int v3)]) hx hb dL_law_157 hl (by decide) rfl (fun ls hl => ?_)
      exact tL_law_159 hX hbA hbl hlo hhi C FU _ _ _ _ _ _ _ _ _ hM hS (lv_sub hl [3, 4, 2, 1, 0] rfl) heq
    · have heq := if_f c1 heq
      refine lv_aload_n hx hb dL_law_105 rfl (lv_at hl 1 rfl) ?_
      refine lv_aload_n hx hb dL_law_106 rfl (lv_at hl 0 rfl) ?_
      refine lv_iload_n hx hb dL_law_107 rfl (lv_at hl 2 rfl) ?_
      obtain ⟨g9, heq⟩ := gd_of heq
      obtain ⟨r11, e10, heq⟩ := bn_of heq
      refine mm_ki hS (mm_runX (rest := [.ref (mm_lo G + 0)]) C hM hS hX hbA hbl (tL_cell l G M b L xs v2 r11 e10) (uL_12 _ (Nat.le_of_ble_eq_true rfl) (Nat.le_of_ble_eq_true rfl)) hl.1 rfl rfl (Nat.le_of_ble_eq_true rfl) g9 dL_law_108) (fun H locs hM hS => ?_)
      have hM : mm_P G kR 731 M H := hM
      refine lv_iload hx hb dL_law_111 (lv_at hl 4 rfl) ?_
      refine lv_ishr hx hb dL_law_113 ?_
      refine lv_sipush (v := 5000) hx hb dL_law_114 (by decide) ?_
      obtain ⟨r13, e12, heq⟩ := bn_of heq
      refine mm_ki hS (mm_runS (rest := [.ref (mm_lo G + 0)]) C hM hS (tL_up l G M (r11 >>> (v4 &&& 31)) 5000 r13 e12) (uL_23 _ (Nat.le_of_ble_eq_true rfl) (Nat.le_of_ble_eq_true rfl)) hl.1 rfl rfl (Nat.le_of_ble_eq_true rfl) g9 dL_law_117) (fun H locs hM hS => ?_)
      have hM : mm_P G kR 731 M H := hM
      obtain ⟨r15, M16, e14, heq⟩ := bn2_of heq
      refine mm_ki hS (mm_runV (o := 0) (rest := []) C hM hS (tX6_pitch l G M r13 r15 M16 e14) (uL_34 _ (Nat.le_of_ble_eq_true rfl) (Nat.le_of_ble_eq_true rfl)) (mm_recv C hM (kl (rfl : kT 0 = (5, 0))) (ci := 5) rfl (mm_e5 (rfl : kT 0 = (5, 0)))) hl.1 rfl rfl (Nat.le_of_ble_eq_true rfl) g9 dL_law_120) (fun H locs hM hS => ?_)
      have hM : mm_P G kR 731 M16 H := hM
      refine lv_iload hx hb dL_law_123 (lv_at hl 4 rfl) ?_
      refine lv_icmp_eq (tgt := 130) hx hb dL_law_125 (by decide) (fun c17 => ?_) (fun c17 => ?_)
      · have heq := if_t c17 heq
        obtain ⟨y18, ey18⟩ : ∃ y : Int32, y = (v4 + 1) := ⟨_, rfl⟩
        have heq := lt_to ey18 heq
        refine lv_iinc (v := y18) (lv' := [(4, .int y18), (0, .ref b), (1, .ref (mm_lo G + 0)), (2, .int v2), (3, .int v3)]) hx hb dL_law_130 hl (k := 4) rfl (by rw [ey18]; rfl) (by decide) rfl (fun ls hl => ?_)
        refine lv_goto (tgt := 99) hx hb dL_law_133 (by decide) ?_
        exact ih _ _ _ _ _ _ _ _ _ hM hS (lv_sub hl [1, 2, 3, 4, 0] rfl) heq
      · have heq := if_f c17 heq
        refine lv_iconst (v := 0) hx hb dL_law_128 (by decide) ?_
        cases heq

set_option maxRecDepth 100000 in
set_option maxHeartbeats 4000000 in
theorem tL_law_52 {b L : Nat} {xs : Nat → Int32} (hX : va_X b L xs s s.heap) (hbA : ¬ mm_A G b) (hbl : b < s.heap.size) (hlo : mm_lo G = s.heap.size) (hhi : G.2.2 4 ≤ mm_lo G + 731) (C : mm_C G p s m #[Value.ref b] meth c RL cL_law 7 (some .boolean))  : ∀ n : Nat, ∀ (M : mm_M) (v2 : Int32) (v3 : Int32) (cl : Nat) (sl : Nat) (H : Heap) (locs : List Loc) (ls : Array Slot), mm_P G kR 731 M H → va_S (mm_A G) s.heap H locs → lv_has ls 7 [(0, .ref b), (1, .ref (mm_lo G + 0)), (2, .int v2), (3, .int v3)] → fL_law_52 xs L n M v2 v3 cl sl = some true → W p l e room_1 s m #[Value.ref b] below meth c H locs cl sl (lw_Z below #[Value.ref b] s) (F0 m 52 ls []) := by
  obtain ⟨hx, hb, hr, -, -, -, hlocks, -, hZ, -⟩ := id C
  intro n
  induction n with
  | zero =>
    intro M v2 v3 cl sl H locs ls hM hS hl heq
    rw [fL_law_52] at heq
    cases heq
  | succ n ih =>
    intro M v2 v3 cl sl H locs ls hM hS hl heq
    rw [fL_law_52] at heq
    refine lv_iload_n hx hb dL_law_52 rfl (lv_at hl 3 rfl) ?_
    refine lv_iconst (v := 4) hx hb dL_law_53 (by decide) ?_
    refine lv_icmp_ge (tgt := 80) hx hb dL_law_54 (by decide) (fun c1 => ?_) (fun c1 => ?_)
    · have heq := if_t c1 heq
      refine lv_iconst (v := 2) hx hb dL_law_80 (by decide) ?_
      refine lv_aload_n hx hb dL_law_81 rfl (lv_at hl 0 rfl) ?_
      refine lv_iload_n hx hb dL_law_82 rfl (lv_at hl 2 rfl) ?_
      obtain ⟨y2, ey2⟩ : ∃ y : Int32, y = (v2 + 1) := ⟨_, rfl⟩
      have heq := lt_to ey2 heq
      refine lv_iinc (v := y2) (lv' := [(2, .int y2), (0, .ref b), (1, .ref (mm_lo G + 0)), (3, .int v3)]) hx hb dL_law_83 hl (k := 2) rfl (by rw [ey2]; rfl) (by decide) rfl (fun ls hl => ?_)
      obtain ⟨g3, heq⟩ := gd_of heq
      obtain ⟨r5, e4, heq⟩ := bn_of heq
      refine mm_ki hS (mm_runX (rest := [.int 2]) C hM hS hX hbA hbl (tL_cell l G M b L xs v2 r5 e4) (uL_12 _ (Nat.le_of_ble_eq_true rfl) (Nat.le_of_ble_eq_true rfl)) hl.1 rfl rfl (Nat.le_of_ble_eq_true rfl) g3 dL_law_86) (fun H locs hM hS => ?_)
      have hM : mm_P G kR 731 M H := hM
      refine lv_bipush (v := 6) hx hb dL_law_89 (by decide) ?_
      obtain ⟨r7, e6, heq⟩ := bn_of heq
      refine mm_ki hS (mm_runS (rest := [.int 2]) C hM hS (tL_up l G M r5 6 r7 e6) (uL_23 _ (Nat.le_of_ble_eq_true rfl) (Nat.le_of_ble_eq_true rfl)) hl.1 rfl rfl (Nat.le_of_ble_eq_true rfl) g3 dL_law_91) (fun H locs hM hS => ?_)
      have hM : mm_P G kR 731 M H := hM
      refine lv_iadd hx hb dL_law_94 ?_
      refine lv_topi (fun y8 ey8 => ?_)
      have heq := lt_to ey8 heq
      refine lv_istore_n (lv' := [(3, .int y8), (2, .int y2), (0, .ref b), (1, .ref (mm_lo G + 0))]) hx hb dL_law_95 rfl hl (by decide) rfl (fun ls hl => ?_)
      refine lv_iconst (v := 0) hx hb dL_law_96 (by decide) ?_
      refine lv_istore (lv' := [(4, .int 0), (3, .int y8), (2, .int y2), (0, .ref b), (1, .ref (mm_lo G + 0))]) hx hb dL_law_97 hl (by decide) rfl (fun ls hl => ?_)
      exact tL_law_99 hX hbA hbl hlo hhi C FU _ _ _ _ _ _ _ _ _ hM hS (lv_sub hl [3, 4, 2, 1, 0] rfl) heq
    · have heq := if_f c1 heq
      refine lv_aload_n hx hb dL_law_57 rfl (lv_at hl 1 rfl) ?_
      refine lv_aload_n hx hb dL_law_58 rfl (lv_at hl 0 rfl) ?_
      refine lv_iload_n hx hb dL_law_59 rfl (lv_at hl 2 rfl) ?_
      obtain ⟨y9, ey9⟩ : ∃ y : Int32, y = (v2 + 1) := ⟨_, rfl⟩
      have heq := lt_to ey9 heq
      refine lv_iinc (v := y9) (lv' := [(2, .int y9), (0, .ref b), (1, .ref (mm_lo G + 0)), (3, .int v3)]) hx hb dL_law_60 hl (k := 2) rfl (by rw [ey9]; rfl) (by decide) rfl (fun ls hl => ?_)
      obtain ⟨g10, heq⟩ := gd_of heq
      obtain ⟨r12, e11, heq⟩ := bn_of heq
      refine mm_ki hS (mm_runX (rest := [.ref (mm_lo G + 0)]) C hM hS hX hbA hbl (tL_cell l G M b L xs v2 r12 e11) (uL_12 _ (Nat.le_of_ble_eq_true rfl) (Nat.le_of_ble_eq_true rfl)) hl.1 rfl rfl (Nat.le_of_ble_eq_true rfl) g10 dL_law_63) (fun H locs hM hS => ?_)
      have hM : mm_P G kR 731 M H := hM
      obtain ⟨r14, M15, e13, heq⟩ := bn2_of heq
      refine mm_ki hS (mm_runS (rest := []) C hM hS (tL_sets l G M r12 r14 M15 e13) (uL_31 _ (Nat.le_of_ble_eq_true rfl) (Nat.le_of_ble_eq_true rfl)) hl.1 rfl rfl (Nat.le_of_ble_eq_true rfl) g10 dL_law_66) (fun H locs hM hS => ?_)
      have hM : mm_P G kR 731 M15 H := hM
      refine mm_ifneZ (tgt := 74) C dL_law_69 (by decide) (fun c16 => ?_) (fun c16 => ?_)
      · have heq := if_t c16 heq
        obtain ⟨y17, ey17⟩ : ∃ y : Int32, y = (v3 + 1) := ⟨_, rfl⟩
        have heq := lt_to ey17 heq
        refine lv_iinc (v := y17) (lv' := [(3, .int y17), (2, .int y9), (0, .ref b), (1, .ref (mm_lo G + 0))]) hx hb dL_law_74 hl (k := 3) rfl (by rw [ey17]; rfl) (by decide) rfl (fun ls hl => ?_)
        refine lv_goto (tgt := 52) hx hb dL_law_77 (by decide) ?_
        exact ih _ _ _ _ _ _ _ _ hM hS (lv_sub hl [2, 3, 1, 0] rfl) heq
      · have heq := if_f c16 heq
        refine lv_iconst (v := 0) hx hb dL_law_72 (by decide) ?_
        cases heq

set_option maxRecDepth 100000 in
set_option maxHeartbeats 4000000 in
theorem tL_law_8 {b L : Nat} {xs : Nat → Int32} (hX : va_X b L xs s s.heap) (hbA : ¬ mm_A G b) (hbl : b < s.heap.size) (hlo : mm_lo G = s.heap.size) (hhi : G.2.2 4 ≤ mm_lo G + 731) (C : mm_C G p s m #[Value.ref b] meth c RL cL_law 7 (some .boolean))  : ∀ (M : mm_M) (cl : Nat) (sl : Nat) (H : Heap) (locs : List Loc) (ls : Array Slot), mm_P G kR 731 M H → va_S (mm_A G) s.heap H locs → lv_has ls 7 [(0, .ref b), (1, .ref (mm_lo G + 0))] → fL_law_8 xs L M cl sl = some true → W p l e room_1 s m #[Value.ref b] below meth c H locs cl sl (lw_Z below #[Value.ref b] s) (F0 m 8 ls []) := by
  obtain ⟨hx, hb, hr, -, -, -, hlocks, -, hZ, -⟩ := id C
  intro M cl sl H locs ls hM hS hl heq
  rw [fL_law_8] at heq
  refine lv_iconst (v := 0) hx hb dL_law_8 (by decide) ?_
  refine lv_istore_n (lv' := [(2, .int 0), (0, .ref b), (1, .ref (mm_lo G + 0))]) hx hb dL_law_9 rfl hl (by decide) rfl (fun ls hl => ?_)
  refine lv_aload_n hx hb dL_law_10 rfl (lv_at hl 2 rfl) ?_
  refine lv_aload_n hx hb dL_law_11 rfl (lv_at hl 1 rfl) ?_
  refine lv_iload_n hx hb dL_law_12 rfl (lv_at hl 0 rfl) ?_
  obtain ⟨y1, ey1⟩ : ∃ y : Int32, y = (0 + 1) := ⟨_, rfl⟩
  have heq := lt_to ey1 heq
  refine lv_iinc (v := y1) (lv' := [(2, .int y1), (0, .ref b), (1, .ref (mm_lo G + 0))]) hx hb dL_law_13 hl (k := 0) rfl (by rw [ey1]; rfl) (by decide) rfl (fun ls hl => ?_)
  obtain ⟨g2, heq⟩ := gd_of heq
  obtain ⟨r4, e3, heq⟩ := bn_of heq
  refine mm_ki hS (mm_runX (rest := [.ref (mm_lo G + 0)]) C hM hS hX hbA hbl (tL_cell l G M b L xs 0 r4 e3) (uL_12 _ (Nat.le_of_ble_eq_true rfl) (Nat.le_of_ble_eq_true rfl)) hl.1 rfl rfl (Nat.le_of_ble_eq_true rfl) g2 dL_law_16) (fun H locs hM hS => ?_)
  have hM : mm_P G kR 731 M H := hM
  obtain ⟨r6, M7, e5, heq⟩ := bn2_of heq
  refine mm_ki hS (mm_runS (rest := []) C hM hS (tL_refused l G M r4 r6 M7 e5) (uL_18 _ (Nat.le_of_ble_eq_true rfl) (Nat.le_of_ble_eq_true rfl)) hl.1 rfl rfl (Nat.le_of_ble_eq_true rfl) g2 dL_law_19) (fun H locs hM hS => ?_)
  have hM : mm_P G kR 731 M7 H := hM
  refine mm_ifneZ (tgt := 27) C dL_law_22 (by decide) (fun c8 => ?_) (fun c8 => ?_)
  · have heq := if_t c8 heq
    refine lv_aload_n hx hb dL_law_27 rfl (lv_at hl 2 rfl) ?_
    refine lv_aload_n hx hb dL_law_28 rfl (lv_at hl 1 rfl) ?_
    refine lv_iload_n hx hb dL_law_29 rfl (lv_at hl 0 rfl) ?_
    obtain ⟨y9, ey9⟩ : ∃ y : Int32, y = (y1 + 1) := ⟨_, rfl⟩
    have heq := lt_to ey9 heq
    refine lv_iinc (v := y9) (lv' := [(2, .int y9), (0, .ref b), (1, .ref (mm_lo G + 0))]) hx hb dL_law_30 hl (k := 0) rfl (by rw [ey9]; rfl) (by decide) rfl (fun ls hl => ?_)
    obtain ⟨r11, e10, heq⟩ := bn_of heq
    refine mm_ki hS (mm_runX (rest := [.ref (mm_lo G + 0)]) C hM hS hX hbA hbl (tL_cell l G M7 b L xs y1 r11 e10) (uL_12 _ (Nat.le_of_ble_eq_true rfl) (Nat.le_of_ble_eq_true rfl)) hl.1 rfl rfl (Nat.le_of_ble_eq_true rfl) g2 dL_law_33) (fun H locs hM hS => ?_)
    have hM : mm_P G kR 731 M7 H := hM
    refine mm_ldc C kL_22 dL_law_36 ?_
    obtain ⟨r13, e12, heq⟩ := bn_of heq
    refine mm_ki hS (mm_runS (rest := [.ref (mm_lo G + 0)]) C hM hS (tL_up l G M7 r11 65537 r13 e12) (uL_23 _ (Nat.le_of_ble_eq_true rfl) (Nat.le_of_ble_eq_true rfl)) hl.1 rfl rfl (Nat.le_of_ble_eq_true rfl) g2 dL_law_38) (fun H locs hM hS => ?_)
    have hM : mm_P G kR 731 M7 H := hM
    obtain ⟨r15, M16, e14, heq⟩ := bn2_of heq
    refine mm_ki hS (mm_runV (o := 0) (rest := []) C hM hS (tX6_seed l G M7 r13 r15 M16 e14) (uL_27 _ (Nat.le_of_ble_eq_true rfl) (Nat.le_of_ble_eq_true rfl)) (mm_recv C hM (kl (rfl : kT 0 = (5, 0))) (ci := 5) rfl (mm_e5 (rfl : kT 0 = (5, 0)))) hl.1 rfl rfl (Nat.le_of_ble_eq_true rfl) g2 dL_law_41) (fun H locs hM hS => ?_)
    have hM : mm_P G kR 731 M16 H := hM
    refine lv_iconst (v := 1) hx hb dL_law_44 (by decide) ?_
    refine lv_icmp_eq (tgt := 50) hx hb dL_law_45 (by decide) (fun c17 => ?_) (fun c17 => ?_)
    · have heq := if_t c17 heq
      refine lv_iconst (v := 0) hx hb dL_law_50 (by decide) ?_
      refine lv_istore_n (lv' := [(3, .int 0), (2, .int y9), (0, .ref b), (1, .ref (mm_lo G + 0))]) hx hb dL_law_51 rfl hl (by decide) rfl (fun ls hl => ?_)
      exact tL_law_52 hX hbA hbl hlo hhi C FU _ _ _ _ _ _ _ _ hM hS (lv_sub hl [2, 3, 1, 0] rfl) heq
    · have heq := if_f c17 heq
      refine lv_iconst (v := 0) hx hb dL_law_48 (by decide) ?_
      cases heq
  · have heq := if_f c8 heq
    refine lv_iconst (v := 0) hx hb dL_law_25 (by decide) ?_
    cases heq
end LAWW
