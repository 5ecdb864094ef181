def fL_law_18 (xs : Nat → Int32) (L : Nat) : Nat → mm_M → Int32 → Option Bool
  | 0, _, _ => none
  | n + 1, M, v3 =>
    if ((Int32.ofNat L) - 5) < v3 then
      some true
    else
      gd (¬ (v3 < 0 ∨ L ≤ v3.toNatClampNeg)) <|
      if ((xs v3.toNatClampNeg) &&& 31) = 0 then
        gd (¬ ((v3 + 1) < 0 ∨ L ≤ (v3 + 1).toNatClampNeg)) <|
        gd (¬ ((v3 + 2) < 0 ∨ L ≤ (v3 + 2).toNatClampNeg)) <|
        bn2 (fX6_set M (xs (v3 + 1).toNatClampNeg) (xs (v3 + 2).toNatClampNeg)) fun r7 M8 =>
        bn2 (fX7_set M8 (xs (v3 + 1).toNatClampNeg) (xs (v3 + 2).toNatClampNeg)) fun r10 M11 =>
        if r7 = r10 then
          lt (v3 + 5) fun y13 =>
          fL_law_18 xs L n M11 y13
        else
          some false
      else if ((xs v3.toNatClampNeg) &&& 31) = 1 then
        gd (¬ ((v3 + 1) < 0 ∨ L ≤ (v3 + 1).toNatClampNeg)) <|
        bn2 (fX6_seed M (xs (v3 + 1).toNatClampNeg)) fun r17 M18 =>
        bn2 (fX7_seed M18 (xs (v3 + 1).toNatClampNeg)) fun r20 M21 =>
        if r17 = r20 then
          lt (v3 + 5) fun y23 =>
          fL_law_18 xs L n M21 y23
        else
          some false
      else if ((xs v3.toNatClampNeg) &&& 31) = 2 then
        gd (¬ ((v3 + 1) < 0 ∨ L ≤ (v3 + 1).toNatClampNeg)) <|
        bn2 (fX6_pitch M (xs (v3 + 1).toNatClampNeg)) fun r27 M28 =>
        bn2 (fX7_pitch M28 (xs (v3 + 1).toNatClampNeg)) fun r30 M31 =>
        if r27 = r30 then
          lt (v3 + 5) fun y33 =>
          fL_law_18 xs L n M31 y33
        else
          some false
      else if ((xs v3.toNatClampNeg) &&& 31) = 3 then
        gd (¬ ((v3 + 1) < 0 ∨ L ≤ (v3 + 1).toNatClampNeg)) <|
        gd (¬ ((v3 + 2) < 0 ∨ L ≤ (v3 + 2).toNatClampNeg)) <|
        bn2 (fX6_rent M (xs (v3 + 1).toNatClampNeg) (xs (v3 + 2).toNatClampNeg)) fun r38 M39 =>
        bn2 (fX7_rent M39 (xs (v3 + 1).toNatClampNeg) (xs (v3 + 2).toNatClampNeg)) fun r41 M42 =>
        if r38 = r41 then
          lt (v3 + 5) fun y44 =>
          fL_law_18 xs L n M42 y44
        else
          some false
      else if ((xs v3.toNatClampNeg) &&& 31) = 4 then
        gd (¬ ((v3 + 1) < 0 ∨ L ≤ (v3 + 1).toNatClampNeg)) <|
        gd (¬ ((v3 + 2) < 0 ∨ L ≤ (v3 + 2).toNatClampNeg)) <|
        bn2 (fX6_cart M (xs (v3 + 1).toNatClampNeg) (xs (v3 + 2).toNatClampNeg)) fun r49 M50 =>
        bn2 (fX7_cart M50 (xs (v3 + 1).toNatClampNeg) (xs (v3 + 2).toNatClampNeg)) fun r52 M53 =>
        if r49 = r52 then
          lt (v3 + 5) fun y55 =>
          fL_law_18 xs L n M53 y55
        else
          some false
      else if ((xs v3.toNatClampNeg) &&& 31) = 5 then
        gd (¬ ((v3 + 1) < 0 ∨ L ≤ (v3 + 1).toNatClampNeg)) <|
        gd (¬ ((v3 + 2) < 0 ∨ L ≤ (v3 + 2).toNatClampNeg)) <|
        gd (¬ ((v3 + 3) < 0 ∨ L ≤ (v3 + 3).toNatClampNeg)) <|
        gd (¬ ((v3 + 4) < 0 ∨ L ≤ (v3 + 4).toNatClampNeg)) <|
        bn2 (fX6_wish M (xs (v3 + 1).toNatClampNeg) (xs (v3 + 2).toNatClampNeg) (xs (v3 + 3).toNatClampNeg) (xs (v3 + 4).toNatClampNeg)) fun r62 M63 =>
        bn2 (fX7_wish M63 (xs (v3 + 1).toNatClampNeg) (xs (v3 + 2).toNatClampNeg) (xs (v3 + 3).toNatClampNeg) (xs (v3 + 4).toNatClampNeg)) fun r65 M66 =>
        if r62 = r65 then
          lt (v3 + 5) fun y68 =>
          fL_law_18 xs L n M66 y68
        else
          some false
      else if ((xs v3.toNatClampNeg) &&& 31) = 6 then
        gd (¬ ((v3 + 1) < 0 ∨ L ≤ (v3 + 1).toNatClampNeg)) <|
        gd (¬ ((v3 + 2) < 0 ∨ L ≤ (v3 + 2).toNatClampNeg)) <|
        bn2 (fX6_fine M (xs (v3 + 1).toNatClampNeg) (xs (v3 + 2).toNatClampNeg)) fun r73 M74 =>
        bn2 (fX7_fine M74 (xs (v3 + 1).toNatClampNeg) (xs (v3 + 2).toNatClampNeg)) fun r76 M77 =>
        if r73 = r76 then
          lt (v3 + 5) fun y79 =>
          fL_law_18 xs L n M77 y79
        else
          some false
      else if ((xs v3.toNatClampNeg) &&& 31) = 7 then
        gd (¬ ((v3 + 1) < 0 ∨ L ≤ (v3 + 1).toNatClampNeg)) <|
        bn2 (fX6_check M (xs (v3 + 1).toNatClampNeg)) fun r83 M84 =>
        bn2 (fX7_check M84 (xs (v3 + 1).toNatClampNeg)) fun r86 M87 =>
        if r83 = r86 then
          lt (v3 + 5) fun y89 =>
          fL_law_18 xs L n M87 y89
        else
          some false
      else if ((xs v3.toNatClampNeg) &&& 31) = 8 then
        gd (¬ ((v3 + 1) < 0 ∨ L ≤ (v3 + 1).toNatClampNeg)) <|
        gd (¬ ((v3 + 2) < 0 ∨ L ≤ (v3 + 2).toNatClampNeg)) <|
        bn2 (fX6_swap M (xs (v3 + 1).toNatClampNeg) (xs (v3 + 2).toNatClampNeg)) fun r94 M95 =>
        bn2 (fX7_swap M95 (xs (v3 + 1).toNatClampNeg) (xs (v3 + 2).toNatClampNeg)) fun r97 M98 =>
        if r94 = r97 then
          lt (v3 + 5) fun y100 =>
          fL_law_18 xs L n M98 y100
        else
          some false
      else if ((xs v3.toNatClampNeg) &&& 31) = 9 then
        gd (¬ ((v3 + 1) < 0 ∨ L ≤ (v3 + 1).toNatClampNeg)) <|
        gd (¬ ((v3 + 2) < 0 ∨ L ≤ (v3 + 2).toNatClampNeg)) <|
        bn2 (fX6_pay M (xs (v3 + 1).toNatClampNeg) (xs (v3 + 2).toNatClampNeg)) fun r105 M106 =>
        bn2 (fX7_pay M106 (xs (v3 + 1).toNatClampNeg) (xs (v3 + 2).toNatClampNeg)) fun r108 M109 =>
        if r105 = r108 then
          lt (v3 + 5) fun y111 =>
          fL_law_18 xs L n M109 y111
        else
          some false
      else if ((xs v3.toNatClampNeg) &&& 31) = 10 then
        gd (¬ ((v3 + 1) < 0 ∨ L ≤ (v3 + 1).toNatClampNeg)) <|
        bn2 (fX6_days M (xs (v3 + 1).toNatClampNeg)) fun r115 M116 =>
        bn2 (fX7_days M116 (xs (v3 + 1).toNatClampNeg)) fun r118 M119 =>
        if r115 = r118 then
          lt (v3 + 5) fun y121 =>
          fL_law_18 xs L n M119 y121
        else
          some false
      else if ((xs v3.toNatClampNeg) &&& 31) = 11 then
        gd (¬ ((v3 + 1) < 0 ∨ L ≤ (v3 + 1).toNatClampNeg)) <|
        gd (¬ ((v3 + 2) < 0 ∨ L ≤ (v3 + 2).toNatClampNeg)) <|
        bn (fX6_ofCart M (xs (v3 + 1).toNatClampNeg) (xs (v3 + 2).toNatClampNeg)) fun r126 =>
        bn (fX7_ofCart M (xs (v3 + 1).toNatClampNeg) (xs (v3 + 2).toNatClampNeg)) fun r128 =>
        if r126 = r128 then
          lt (v3 + 5) fun y130 =>
          fL_law_18 xs L n M y130
        else
          some false
      else if ((xs v3.toNatClampNeg) &&& 31) = 12 then
        gd (¬ ((v3 + 1) < 0 ∨ L ≤ (v3 + 1).toNatClampNeg)) <|
        gd (¬ ((v3 + 2) < 0 ∨ L ≤ (v3 + 2).toNatClampNeg)) <|
        bn (fX6_money M (xs (v3 + 1).toNatClampNeg) (xs (v3 + 2).toNatClampNeg)) fun r135 =>
        bn (fX7_money M (xs (v3 + 1).toNatClampNeg) (xs (v3 + 2).toNatClampNeg)) fun r137 =>
        if (lg_cmp r135 r137) = 0 then
          lt (v3 + 5) fun y139 =>
          fL_law_18 xs L n M y139
        else
          some false
      else if ((xs v3.toNatClampNeg) &&& 31) = 13 then
        gd (¬ ((v3 + 1) < 0 ∨ L ≤ (v3 + 1).toNatClampNeg)) <|
        gd (¬ ((v3 + 2) < 0 ∨ L ≤ (v3 + 2).toNatClampNeg)) <|
        bn (fX6_ofPitch M (xs (v3 + 1).toNatClampNeg) (xs (v3 + 2).toNatClampNeg)) fun r144 =>
        bn (fX7_ofPitch M (xs (v3 + 1).toNatClampNeg) (xs (v3 + 2).toNatClampNeg)) fun r146 =>
        if r144 = r146 then
          lt (v3 + 5) fun y148 =>
          fL_law_18 xs L n M y148
        else
          some false
      else if ((xs v3.toNatClampNeg) &&& 31) = 14 then
        gd (¬ ((v3 + 1) < 0 ∨ L ≤ (v3 + 1).toNatClampNeg)) <|
        bn (fX6_count M (xs (v3 + 1).toNatClampNeg)) fun r152 =>
        bn (fX7_count M (xs (v3 + 1).toNatClampNeg)) fun r154 =>
        if r152 = r154 then
          lt (v3 + 5) fun y156 =>
          fL_law_18 xs L n M y156
        else
          some false
      else if ((xs v3.toNatClampNeg) &&& 31) = 15 then
        gd (¬ ((v3 + 1) < 0 ∨ L ≤ (v3 + 1).toNatClampNeg)) <|
        gd (¬ ((v3 + 2) < 0 ∨ L ≤ (v3 + 2).toNatClampNeg)) <|
        bn (fX6_pointsOn M (xs (v3 + 1).toNatClampNeg) (xs (v3 + 2).toNatClampNeg)) fun r161 =>
        bn (fX7_pointsOn M (xs (v3 + 1).toNatClampNeg) (xs (v3 + 2).toNatClampNeg)) fun r163 =>
        if r161 = r163 then
          lt (v3 + 5) fun y165 =>
          fL_law_18 xs L n M y165
        else
          some false
      else if ((xs v3.toNatClampNeg) &&& 31) = 16 then
        gd (¬ ((v3 + 1) < 0 ∨ L ≤ (v3 + 1).toNatClampNeg)) <|
        bn2 (fX6_wouldHave M (xs (v3 + 1).toNatClampNeg)) fun r169 M170 =>
        bn2 (fX7_wouldHave M170 (xs (v3 + 1).toNatClampNeg)) fun r172 M173 =>
        if r169 = r172 then
          lt (v3 + 5) fun y175 =>
          fL_law_18 xs L n M173 y175
        else
          some false
      else if ((xs v3.toNatClampNeg) &&& 31) = 17 then
        gd (¬ ((v3 + 1) < 0 ∨ L ≤ (v3 + 1).toNatClampNeg)) <|
        gd (¬ ((v3 + 2) < 0 ∨ L ≤ (v3 + 2).toNatClampNeg)) <|
        bn2 (fX6_ifWished M (xs (v3 + 1).toNatClampNeg) (xs (v3 + 2).toNatClampNeg)) fun r180 M181 =>
        bn2 (fX7_ifWished M181 (xs (v3 + 1).toNatClampNeg) (xs (v3 + 2).toNatClampNeg)) fun r183 M184 =>
        if r180 = r183 then
          lt (v3 + 5) fun y186 =>
          fL_law_18 xs L n M184 y186
        else
          some false
      else if ((xs v3.toNatClampNeg) &&& 31) = 18 then
        gd (¬ ((v3 + 1) < 0 ∨ L ≤ (v3 + 1).toNatClampNeg)) <|
        bn2 (fX6_firstDay M (xs (v3 + 1).toNatClampNeg)) fun r190 M191 =>
        bn2 (fX7_firstDay M191 (xs (v3 + 1).toNatClampNeg)) fun r193 M194 =>
        if r190 = r193 then
          lt (v3 + 5) fun y196 =>
          fL_law_18 xs L n M194 y196
        else
          some false
      else if ((xs v3.toNatClampNeg) &&& 31) = 19 then
        gd (¬ ((v3 + 1) < 0 ∨ L ≤ (v3 + 1).toNatClampNeg)) <|
        gd (¬ ((v3 + 2) < 0 ∨ L ≤ (v3 + 2).toNatClampNeg)) <|
        bn2 (fX6_daysOf M (xs (v3 + 1).toNatClampNeg) (xs (v3 + 2).toNatClampNeg)) fun r201 M202 =>
        bn2 (fX7_daysOf M202 (xs (v3 + 1).toNatClampNeg) (xs (v3 + 2).toNatClampNeg)) fun r204 M205 =>
        if r201 = r204 then
          lt (v3 + 5) fun y207 =>
          fL_law_18 xs L n M205 y207
        else
          some false
      else if ((xs v3.toNatClampNeg) &&& 31) = 20 then
        gd (¬ ((v3 + 1) < 0 ∨ L ≤ (v3 + 1).toNatClampNeg)) <|
        gd (¬ ((v3 + 2) < 0 ∨ L ≤ (v3 + 2).toNatClampNeg)) <|
        bn2 (fX6_luckySeed M (xs (v3 + 1).toNatClampNeg) (xs (v3 + 2).toNatClampNeg)) fun r212 M213 =>
        bn2 (fX7_luckySeed M213 (xs (v3 + 1).toNatClampNeg) (xs (v3 + 2).toNatClampNeg)) fun r215 M216 =>
        if r212 = r215 then
          lt (v3 + 5) fun y218 =>
          fL_law_18 xs L n M216 y218
        else
          some false
      else if ((xs v3.toNatClampNeg) &&& 31) = 21 then
        gd (¬ ((v3 + 1) < 0 ∨ L ≤ (v3 + 1).toNatClampNeg)) <|
        gd (¬ ((v3 + 2) < 0 ∨ L ≤ (v3 + 2).toNatClampNeg)) <|
        bn (fX6_whyNot M (xs (v3 + 1).toNatClampNeg) (xs (v3 + 2).toNatClampNeg)) fun r223 =>
        bn (fX7_whyNot M (xs (v3 + 1).toNatClampNeg) (xs (v3 + 2).toNatClampNeg)) fun r225 =>
        if r223 = r225 then
          lt (v3 + 5) fun y227 =>
          fL_law_18 xs L n M y227
        else
          some false
      else if ((xs v3.toNatClampNeg) &&& 31) = 22 then
        gd (¬ ((v3 + 1) < 0 ∨ L ≤ (v3 + 1).toNatClampNeg)) <|
        gd (¬ ((v3 + 2) < 0 ∨ L ≤ (v3 + 2).toNatClampNeg)) <|
        bn2 (fX6_put M ((((xs (v3 + 1).toNatClampNeg).toInt64) <<< ((32 : Int32).toInt64 &&& 63)) ||| (((xs (v3 + 2).toNatClampNeg).toInt64) &&& (4294967295 : Int64)))) fun r232 M233 =>
        bn2 (fX7_put_ M233 ((((xs (v3 + 1).toNatClampNeg).toInt64) <<< ((32 : Int32).toInt64 &&& 63)) ||| (((xs (v3 + 2).toNatClampNeg).toInt64) &&& (4294967295 : Int64)))) fun r235 M236 =>
        if r232 = r235 then
          lt (v3 + 5) fun y238 =>
          fL_law_18 xs L n M236 y238
        else
          some false
      else if ((xs v3.toNatClampNeg) &&& 31) = 23 then
        bn2 (fX6_wipe M) fun r241 M242 =>
        bn2 (fX7_wipe M242) fun r244 M245 =>
        if r241 = r244 then
          lt (v3 + 5) fun y247 =>
          fL_law_18 xs L n M245 y247
        else
          some false
      else if ((xs v3.toNatClampNeg) &&& 31) = 24 then
        bn (fX6_fault M) fun r250 =>
        bn2 (fX7_fault M) fun r252 M253 =>
        if r250 = r252 then
          lt (v3 + 5) fun y255 =>
          fL_law_18 xs L n M253 y255
        else
          some false
      else if ((xs v3.toNatClampNeg) &&& 31) = 25 then
        bn2 (fX6_carryOut M) fun r258 M259 =>
        bn2 (fX7_carryOut M259) fun r261 M262 =>
        if r258 = r261 then
          lt (v3 + 5) fun y264 =>
          fL_law_18 xs L n M262 y264
        else
          some false
      else if ((xs v3.toNatClampNeg) &&& 31) = 26 then
        bn2 (fX6_undo M) fun r267 M268 =>
        bn2 (fX7_undo M268) fun r270 M271 =>
        if r267 = r270 then
          lt (v3 + 5) fun y273 =>
          fL_law_18 xs L n M271 y273
        else
          some false
      else if ((xs v3.toNatClampNeg) &&& 31) = 27 then
        gd (¬ ((v3 + 1) < 0 ∨ L ≤ (v3 + 1).toNatClampNeg)) <|
        bn2 (fX6_save M (xs (v3 + 1).toNatClampNeg)) fun r277 M278 =>
        bn2 (fX7_save M278 (xs (v3 + 1).toNatClampNeg)) fun r280 M281 =>
        if r277 = r280 then
          lt (v3 + 5) fun y283 =>
          fL_law_18 xs L n M281 y283
        else
          some false
      else if ((xs v3.toNatClampNeg) &&& 31) = 28 then
        gd (¬ ((v3 + 1) < 0 ∨ L ≤ (v3 + 1).toNatClampNeg)) <|
        bn2 (fX6_restore M (xs (v3 + 1).toNatClampNeg)) fun r287 M288 =>
        bn2 (fX7_restore M288 (xs (v3 + 1).toNatClampNeg)) fun r290 M291 =>
        if r287 = r290 then
          lt (v3 + 5) fun y293 =>
          fL_law_18 xs L n M291 y293
        else
          some false
      else 
        lt (v3 + 5) fun y294 =>
        fL_law_18 xs L n M y294
section LAWW
variable {p : Program} {l : Launch} {e : Env} {s : State} {m : MethodId} {args : Array Value} {below : List Frame} {meth : Method} {c : Code} {G : mm_G}
set_option maxRecDepth 100000 in
set_option maxHeartbeats 8000000 in
theorem tL_law_18 {b L : Nat} {xs : Nat → Int32} (C : mm_C G p s m #[Value.ref b] meth c RL cL_law 4 (some .boolean)) (hlo : mm_lo G = s.heap.size) (hX : va_X b L xs s s.heap) (hbl : b < s.heap.size) : ∀ n : Nat, ∀ (M : mm_M) (v3 : Int32) (H : Heap) (locs : List Loc) (ls : Array Slot), mm_P G kR 740 M H → va_S (mm_A G) s.heap H locs → lv_has ls 4 [(0, .ref b), (1, .ref (mm_lo G + 0)), (2, .ref (mm_lo G + 731)), (3, .int v3)] → fL_law_18 xs L n M v3 = some true → W p l e room_1 s m #[Value.ref b] below meth c H locs 600000 7302250 (lw_Z below #[Value.ref b] s) (F0 m 18 ls []) := by
  obtain ⟨hx, hb, hr, -, -, -, hlocks, -, hZ, -⟩ := id C
  have hbA : ¬ mm_A G b := by show ¬ mm_lo G ≤ b; omega
  intro n
  induction n with
  | zero =>
    intro M v3 H locs ls hM hS hl heq
    rw [fL_law_18] at heq
    cases heq
  | succ n ih =>
    intro M v3 H locs ls hM hS hl heq
    rw [fL_law_18] at heq
    refine lv_iload_n hx hb dL_law_18 rfl (lv_at hl 3 rfl) ?_
    refine lv_aload_n hx hb dL_law_19 rfl (lv_at hl 0 rfl) ?_
    refine va_slen hx hb hX hbl hbA hS dL_law_20 ?_
    refine lv_iconst (v := 5) hx hb dL_law_21 (by decide) ?_
    refine lv_isub hx hb dL_law_22 ?_
    refine lv_icmp_gt (tgt := 998) hx hb dL_law_23 (by decide) (fun c1 => ?_) (fun c1 => ?_)
    · have heq := if_t c1 heq
      refine lv_iconst (v := 1) hx hb dL_law_998 (by decide) ?_
      refine va_forget (fun q hq => by have h := hS.2.2 q hq; rw [← hlo]; exact h) ?_
      exact lw_ret hx hb hr hlocks dL_law_999
    · have heq := if_f c1 heq
      refine lv_aload_n hx hb dL_law_26 rfl (lv_at hl 0 rfl) ?_
      refine lv_iload_n hx hb dL_law_27 rfl (lv_at hl 3 rfl) ?_
      obtain ⟨g2, heq⟩ := gd_of heq
      refine va_sld hx hb hX hbl hbA hS (vp_in_of2 g2) dL_law_28 ?_
      refine lv_bipush (v := 31) hx hb dL_law_29 (by decide) ?_
      refine lv_iand hx hb dL_law_31 ?_
      by_cases c3 : ((xs v3.toNatClampNeg) &&& 31) = 0
      · have heq := if_t c3 heq
        refine lv_tableIn (tgt := 164) hx hb dL_law_32 (by rw [c3]; decide) (by rw [c3]; decide) (by rw [c3]; rfl) (by decide) ?_
        refine lv_aload_n hx hb dL_law_164 rfl (lv_at hl 1 rfl) ?_
        refine lv_aload_n hx hb dL_law_165 rfl (lv_at hl 0 rfl) ?_
        refine lv_iload_n hx hb dL_law_166 rfl (lv_at hl 3 rfl) ?_
        refine lv_iconst (v := 1) hx hb dL_law_167 (by decide) ?_
        refine lv_iadd hx hb dL_law_168 ?_
        obtain ⟨g4, heq⟩ := gd_of heq
        refine va_sld hx hb hX hbl hbA hS (vp_in_of2 g4) dL_law_169 ?_
        refine lv_aload_n hx hb dL_law_170 rfl (lv_at hl 0 rfl) ?_
        refine lv_iload_n hx hb dL_law_171 rfl (lv_at hl 3 rfl) ?_
        refine lv_iconst (v := 2) hx hb dL_law_172 (by decide) ?_
        refine lv_iadd hx hb dL_law_173 ?_
        obtain ⟨g5, heq⟩ := gd_of heq
        refine va_sld hx hb hX hbl hbA hS (vp_in_of2 g5) dL_law_174 ?_
        obtain ⟨r7, M8, e6, heq⟩ := bn2_of heq
        refine mm_ki hS (mm_runV (rest := []) C hM hS (tX6_set l G M (xs (v3 + 1).toNatClampNeg) (xs (v3 + 2).toNatClampNeg) r7 M8 e6) (uL_13 _ (Nat.le_of_ble_eq_true rfl) (Nat.le_of_ble_eq_true rfl)) (mm_recv C hM (kl (rfl : kT 0 = (5, 0))) (ci := 5) rfl (mm_e5 (rfl : kT 0 = (5, 0)))) hl.1 rfl rfl (Nat.le_of_ble_eq_true rfl) ⟨Nat.le_refl _, Nat.le_refl _⟩ dL_law_175) (fun H locs hM hS => ?_)
        have hM : mm_P G kR 740 M8 H := hM
        refine lv_aload_n hx hb dL_law_178 rfl (lv_at hl 2 rfl) ?_
        refine lv_aload_n hx hb dL_law_179 rfl (lv_at hl 0 rfl) ?_
        refine lv_iload_n hx hb dL_law_180 rfl (lv_at hl 3 rfl) ?_
        refine lv_iconst (v := 1) hx hb dL_law_181 (by decide) ?_
        refine lv_iadd hx hb dL_law_182 ?_
        refine va_sld hx hb hX hbl hbA hS (vp_in_of2 g4) dL_law_183 ?_
        refine lv_aload_n hx hb dL_law_184 rfl (lv_at hl 0 rfl) ?_
        refine lv_iload_n hx hb dL_law_185 rfl (lv_at hl 3 rfl) ?_
        refine lv_iconst (v := 2) hx hb dL_law_186 (by decide) ?_
        refine lv_iadd hx hb dL_law_187 ?_
        refine va_sld hx hb hX hbl hbA hS (vp_in_of2 g5) dL_law_188 ?_
        obtain ⟨r10, M11, e9, heq⟩ := bn2_of heq
        refine mm_ki hS (mm_runV (rest := [.int r7]) C hM hS (tX7_set l G M8 (xs (v3 + 1).toNatClampNeg) (xs (v3 + 2).toNatClampNeg) r10 M11 e9) (uL_17 _ (Nat.le_of_ble_eq_true rfl) (Nat.le_of_ble_eq_true rfl)) (mm_recv C hM (kl (rfl : kT 731 = (6, 0))) (ci := 6) rfl (mm_e6 (rfl : kT 731 = (6, 0)))) hl.1 rfl rfl (Nat.le_of_ble_eq_true rfl) ⟨Nat.le_refl _, Nat.le_refl _⟩ dL_law_189) (fun H locs hM hS => ?_)
        have hM : mm_P G kR 740 M11 H := hM
        refine lv_icmp_eq (tgt := 992) hx hb dL_law_192 (by decide) (fun c12 => ?_) (fun c12 => ?_)
        · have heq := if_t c12 heq
          obtain ⟨y13, ey13⟩ : ∃ y : Int32, y = (v3 + 5) := ⟨_, rfl⟩
          have heq := lt_to ey13 heq
          refine lv_iinc (v := y13) (lv' := [(3, .int y13), (0, .ref b), (1, .ref (mm_lo G + 0)), (2, .ref (mm_lo G + 731))]) hx hb dL_law_992 hl (k := 3) rfl (by rw [ey13]; rfl) (by decide) rfl (fun ls hl => ?_)
          refine lv_goto (tgt := 18) hx hb dL_law_995 (by decide) ?_
          exact ih _ _ _ _ _ hM hS (lv_sub hl [1, 2, 3, 0] rfl) heq
        · have heq := if_f c12 heq
          refine lv_iconst (v := 0) hx hb dL_law_195 (by decide) ?_
          cases heq
      · have heq := if_f c3 heq
        by_cases c14 : ((xs v3.toNatClampNeg) &&& 31) = 1
        · have heq := if_t c14 heq
          refine lv_tableIn (tgt := 197) hx hb dL_law_32 (by rw [c14]; decide) (by rw [c14]; decide) (by rw [c14]; rfl) (by decide) ?_
          refine lv_aload_n hx hb dL_law_197 rfl (lv_at hl 1 rfl) ?_
          refine lv_aload_n hx hb dL_law_198 rfl (lv_at hl 0 rfl) ?_
          refine lv_iload_n hx hb dL_law_199 rfl (lv_at hl 3 rfl) ?_
          refine lv_iconst (v := 1) hx hb dL_law_200 (by decide) ?_
          refine lv_iadd hx hb dL_law_201 ?_
          obtain ⟨g15, heq⟩ := gd_of heq
          refine va_sld hx hb hX hbl hbA hS (vp_in_of2 g15) dL_law_202 ?_
          obtain ⟨r17, M18, e16, heq⟩ := bn2_of heq
          refine mm_ki hS (mm_runV (rest := []) C hM hS (tX6_seed l G M (xs (v3 + 1).toNatClampNeg) r17 M18 e16) (uL_18 _ (Nat.le_of_ble_eq_true rfl) (Nat.le_of_ble_eq_true rfl)) (mm_recv C hM (kl (rfl : kT 0 = (5, 0))) (ci := 5) rfl (mm_e5 (rfl : kT 0 = (5, 0)))) hl.1 rfl rfl (Nat.le_of_ble_eq_true rfl) ⟨Nat.le_refl _, Nat.le_refl _⟩ dL_law_203) (fun H locs hM hS => ?_)
          have hM : mm_P G kR 740 M18 H := hM
          refine lv_aload_n hx hb dL_law_206 rfl (lv_at hl 2 rfl) ?_
          refine lv_aload_n hx hb dL_law_207 rfl (lv_at hl 0 rfl) ?_
          refine lv_iload_n hx hb dL_law_208 rfl (lv_at hl 3 rfl) ?_
          refine lv_iconst (v := 1) hx hb dL_law_209 (by decide) ?_
          refine lv_iadd hx hb dL_law_210 ?_
          refine va_sld hx hb hX hbl hbA hS (vp_in_of2 g15) dL_law_211 ?_
          obtain ⟨r20, M21, e19, heq⟩ := bn2_of heq
          refine mm_ki hS (mm_runV (rest := [.int r17]) C hM hS (tX7_seed l G M18 (xs (v3 + 1).toNatClampNeg) r20 M21 e19) (uL_22 _ (Nat.le_of_ble_eq_true rfl) (Nat.le_of_ble_eq_true rfl)) (mm_recv C hM (kl (rfl : kT 731 = (6, 0))) (ci := 6) rfl (mm_e6 (rfl : kT 731 = (6, 0)))) hl.1 rfl rfl (Nat.le_of_ble_eq_true rfl) ⟨Nat.le_refl _, Nat.le_refl _⟩ dL_law_212) (fun H locs hM hS => ?_)
          have hM : mm_P G kR 740 M21 H := hM
          refine lv_icmp_eq (tgt := 992) hx hb dL_law_215 (by decide) (fun c22 => ?_) (fun c22 => ?_)
          · have heq := if_t c22 heq
            obtain ⟨y23, ey23⟩ : ∃ y : Int32, y = (v3 + 5) := ⟨_, rfl⟩
            have heq := lt_to ey23 heq
            refine lv_iinc (v := y23) (lv' := [(3, .int y23), (0, .ref b), (1, .ref (mm_lo G + 0)), (2, .ref (mm_lo G + 731))]) hx hb dL_law_992 hl (k := 3) rfl (by rw [ey23]; rfl) (by decide) rfl (fun ls hl => ?_)
            refine lv_goto (tgt := 18) hx hb dL_law_995 (by decide) ?_
            exact ih _ _ _ _ _ hM hS (lv_sub hl [1, 2, 3, 0] rfl) heq
          · have heq := if_f c22 heq
            refine lv_iconst (v := 0) hx hb dL_law_218 (by decide) ?_
            cases heq
        · have heq := if_f c14 heq
          by_cases c24 : ((xs v3.toNatClampNeg) &&& 31) = 2
          · have heq := if_t c24 heq
            refine lv_tableIn (tgt := 220) hx hb dL_law_32 (by rw [c24]; decide) (by rw [c24]; decide) (by rw [c24]; rfl) (by decide) ?_
            refine lv_aload_n hx hb dL_law_220 rfl (lv_at hl 1 rfl) ?_
            refine lv_aload_n hx hb dL_law_221 rfl (lv_at hl 0 rfl) ?_
            refine lv_iload_n hx hb dL_law_222 rfl (lv_at hl 3 rfl) ?_
            refine lv_iconst (v := 1) hx hb dL_law_223 (by decide) ?_
            refine lv_iadd hx hb dL_law_224 ?_
            obtain ⟨g25, heq⟩ := gd_of heq
            refine va_sld hx hb hX hbl hbA hS (vp_in_of2 g25) dL_law_225 ?_
            obtain ⟨r27, M28, e26, heq⟩ := bn2_of heq
            refine mm_ki hS (mm_runV (rest := []) C hM hS (tX6_pitch l G M (xs (v3 + 1).toNatClampNeg) r27 M28 e26) (uL_23 _ (Nat.le_of_ble_eq_true rfl) (Nat.le_of_ble_eq_true rfl)) (mm_recv C hM (kl (rfl : kT 0 = (5, 0))) (ci := 5) rfl (mm_e5 (rfl : kT 0 = (5, 0)))) hl.1 rfl rfl (Nat.le_of_ble_eq_true rfl) ⟨Nat.le_refl _, Nat.le_refl _⟩ dL_law_226) (fun H locs hM hS => ?_)
            have hM : mm_P G kR 740 M28 H := hM
            refine lv_aload_n hx hb dL_law_229 rfl (lv_at hl 2 rfl) ?_
            refine lv_aload_n hx hb dL_law_230 rfl (lv_at hl 0 rfl) ?_
            refine lv_iload_n hx hb dL_law_231 rfl (lv_at hl 3 rfl) ?_
            refine lv_iconst (v := 1) hx hb dL_law_232 (by decide) ?_
            refine lv_iadd hx hb dL_law_233 ?_
            refine va_sld hx hb hX hbl hbA hS (vp_in_of2 g25) dL_law_234 ?_
            obtain ⟨r30, M31, e29, heq⟩ := bn2_of heq
            refine mm_ki hS (mm_runV (rest := [.int r27]) C hM hS (tX7_pitch l G M28 (xs (v3 + 1).toNatClampNeg) r30 M31 e29) (uL_26 _ (Nat.le_of_ble_eq_true rfl) (Nat.le_of_ble_eq_true rfl)) (mm_recv C hM (kl (rfl : kT 731 = (6, 0))) (ci := 6) rfl (mm_e6 (rfl : kT 731 = (6, 0)))) hl.1 rfl rfl (Nat.le_of_ble_eq_true rfl) ⟨Nat.le_refl _, Nat.le_refl _⟩ dL_law_235) (fun H locs hM hS => ?_)
            have hM : mm_P G kR 740 M31 H := hM
            refine lv_icmp_eq (tgt := 992) hx hb dL_law_238 (by decide) (fun c32 => ?_) (fun c32 => ?_)
            · have heq := if_t c32 heq
              obtain ⟨y33, ey33⟩ : ∃ y : Int32, y = (v3 + 5) := ⟨_, rfl⟩
              have heq := lt_to ey33 heq
              refine lv_iinc (v := y33) (lv' := [(3, .int y33), (0, .ref b), (1, .ref (mm_lo G + 0)), (2, .ref (mm_lo G + 731))]) hx hb dL_law_992 hl (k := 3) rfl (by rw [ey33]; rfl) (by decide) rfl (fun ls hl => ?_)
              refine lv_goto (tgt := 18) hx hb dL_law_995 (by decide) ?_
              exact ih _ _ _ _ _ hM hS (lv_sub hl [1, 2, 3, 0] rfl) heq
            · have heq := if_f c32 heq
              refine lv_iconst (v := 0) hx hb dL_law_241 (by decide) ?_
              cases heq
          · have heq := if_f c24 heq
            by_cases c34 : ((xs v3.toNatClampNeg) &&& 31) = 3
            · have heq := if_t c34 heq
              refine lv_tableIn (tgt := 243) hx hb dL_law_32 (by rw [c34]; decide) (by rw [c34]; decide) (by rw [c34]; rfl) (by decide) ?_
              refine lv_aload_n hx hb dL_law_243 rfl (lv_at hl 1 rfl) ?_
              refine lv_aload_n hx hb dL_law_244 rfl (lv_at hl 0 rfl) ?_
              refine lv_iload_n hx hb dL_law_245 rfl (lv_at hl 3 rfl) ?_
              refine lv_iconst (v := 1) hx hb dL_law_246 (by decide) ?_
              refine lv_iadd hx hb dL_law_247 ?_
              obtain ⟨g35, heq⟩ := gd_of heq
              refine va_sld hx hb hX hbl hbA hS (vp_in_of2 g35) dL_law_248 ?_
              refine lv_aload_n hx hb dL_law_249 rfl (lv_at hl 0 rfl) ?_
              refine lv_iload_n hx hb dL_law_250 rfl (lv_at hl 3 rfl) ?_
              refine lv_iconst (v := 2) hx hb dL_law_251 (by decide) ?_
              refine lv_iadd hx hb dL_law_252 ?_
              obtain ⟨g36, heq⟩ := gd_of heq
              refine va_sld hx hb hX hbl hbA hS (vp_in_of2 g36) dL_law_253 ?_
              obtain ⟨r38, M39, e37, heq⟩ := bn2_of heq
              refine mm_ki hS (mm_runV (rest := []) C hM hS (tX6_rent l G M (xs (v3 + 1).toNatClampNeg) (xs (v3 + 2).toNatClampNeg) r38 M39 e37) (uL_27 _ (Nat.le_of_ble_eq_true rfl) (Nat.le_of_ble_eq_true rfl)) (mm_recv C hM (kl (rfl : kT 0 = (5, 0))) (ci := 5) rfl (mm_e5 (rfl : kT 0 = (5, 0)))) hl.1 rfl rfl (Nat.le_of_ble_eq_true rfl) ⟨Nat.le_refl _, Nat.le_refl _⟩ dL_law_254) (fun H locs hM hS => ?_)
              have hM : mm_P G kR 740 M39 H := hM
              refine lv_aload_n hx hb dL_law_257 rfl (lv_at hl 2 rfl) ?_
              refine lv_aload_n hx hb dL_law_258 rfl (lv_at hl 0 rfl) ?_
              refine lv_iload_n hx hb dL_law_259 rfl (lv_at hl 3 rfl) ?_
              refine lv_iconst (v := 1) hx hb dL_law_260 (by decide) ?_
              refine lv_iadd hx hb dL_law_261 ?_
              refine va_sld hx hb hX hbl hbA hS (vp_in_of2 g35) dL_law_262 ?_
              refine lv_aload_n hx hb dL_law_263 rfl (lv_at hl 0 rfl) ?_
              refine lv_iload_n hx hb dL_law_264 rfl (lv_at hl 3 rfl) ?_
              refine lv_iconst (v := 2) hx hb dL_law_265 (by decide) ?_
              refine lv_iadd hx hb dL_law_266 ?_
              refine va_sld hx hb hX hbl hbA hS (vp_in_of2 g36) dL_law_267 ?_
              obtain ⟨r41, M42, e40, heq⟩ := bn2_of heq
              refine mm_ki hS (mm_runV (rest := [.int r38]) C hM hS (tX7_rent l G M39 (xs (v3 + 1).toNatClampNeg) (xs (v3 + 2).toNatClampNeg) r41 M42 e40) (uL_30 _ (Nat.le_of_ble_eq_true rfl) (Nat.le_of_ble_eq_true rfl)) (mm_recv C hM (kl (rfl : kT 731 = (6, 0))) (ci := 6) rfl (mm_e6 (rfl : kT 731 = (6, 0)))) hl.1 rfl rfl (Nat.le_of_ble_eq_true rfl) ⟨Nat.le_refl _, Nat.le_refl _⟩ dL_law_268) (fun H locs hM hS => ?_)
              have hM : mm_P G kR 740 M42 H := hM
              refine lv_icmp_eq (tgt := 992) hx hb dL_law_271 (by decide) (fun c43 => ?_) (fun c43 => ?_)
              · have heq := if_t c43 heq
                obtain ⟨y44, ey44⟩ : ∃ y : Int32, y = (v3 + 5) := ⟨_, rfl⟩
                have heq := lt_to ey44 heq
                refine lv_iinc (v := y44) (lv' := [(3, .int y44), (0, .ref b), (1, .ref (mm_lo G + 0)), (2, .ref (mm_lo G + 731))]) hx hb dL_law_992 hl (k := 3) rfl (by rw [ey44]; rfl) (by decide) rfl (fun ls hl => ?_)
                refine lv_goto (tgt := 18) hx hb dL_law_995 (by decide) ?_
                exact ih _ _ _ _ _ hM hS (lv_sub hl [1, 2, 3, 0] rfl) heq
              · have heq := if_f c43 heq
                refine lv_iconst (v := 0) hx hb dL_law_274 (by decide) ?_
                cases heq
            · have heq := if_f c34 heq
              by_cases c45 : ((xs v3.toNatClampNeg) &&& 31) = 4
              · have heq := if_t c45 heq
                refine lv_tableIn (tgt := 276) hx hb dL_law_32 (by rw [c45]; decide) (by rw [c45]; decide) (by rw [c45]; rfl) (by decide) ?_
                refine lv_aload_n hx hb dL_law_276 rfl (lv_at hl 1 rfl) ?_
                refine lv_aload_n hx hb dL_law_277 rfl (lv_at hl 0 rfl) ?_
                refine lv_iload_n hx hb dL_law_278 rfl (lv_at hl 3 rfl) ?_
                refine lv_iconst (v := 1) hx hb dL_law_279 (by decide) ?_
                refine lv_iadd hx hb dL_law_280 ?_
                obtain ⟨g46, heq⟩ := gd_of heq
                refine va_sld hx hb hX hbl hbA hS (vp_in_of2 g46) dL_law_281 ?_
                refine lv_aload_n hx hb dL_law_282 rfl (lv_at hl 0 rfl) ?_
                refine lv_iload_n hx hb dL_law_283 rfl (lv_at hl 3 rfl) ?_
                refine lv_iconst (v := 2) hx hb dL_law_284 (by decide) ?_
                refine lv_iadd hx hb dL_law_285 ?_
                obtain ⟨g47, heq⟩ := gd_of heq
                refine va_sld hx hb hX hbl hbA hS (vp_in_of2 g47) dL_law_286 ?_
                obtain ⟨r49, M50, e48, heq⟩ := bn2_of heq
                refine mm_ki hS (mm_runV (rest := []) C hM hS (tX6_cart l G M (xs (v3 + 1).toNatClampNeg) (xs (v3 + 2).toNatClampNeg) r49 M50 e48) (uL_31 _ (Nat.le_of_ble_eq_true rfl) (Nat.le_of_ble_eq_true rfl)) (mm_recv C hM (kl (rfl : kT 0 = (5, 0))) (ci := 5) rfl (mm_e5 (rfl : kT 0 = (5, 0)))) hl.1 rfl rfl (Nat.le_of_ble_eq_true rfl) ⟨Nat.le_refl _, Nat.le_refl _⟩ dL_law_287) (fun H locs hM hS => ?_)
                have hM : mm_P G kR 740 M50 H := hM
                refine lv_aload_n hx hb dL_law_290 rfl (lv_at hl 2 rfl) ?_
                refine lv_aload_n hx hb dL_law_291 rfl (lv_at hl 0 rfl) ?_
                refine lv_iload_n hx hb dL_law_292 rfl (lv_at hl 3 rfl) ?_
                refine lv_iconst (v := 1) hx hb dL_law_293 (by decide) ?_
                refine lv_iadd hx hb dL_law_294 ?_
                refine va_sld hx hb hX hbl hbA hS (vp_in_of2 g46) dL_law_295 ?_
                refine lv_aload_n hx hb dL_law_296 rfl (lv_at hl 0 rfl) ?_
                refine lv_iload_n hx hb dL_law_297 rfl (lv_at hl 3 rfl) ?_
                refine lv_iconst (v := 2) hx hb dL_law_298 (by decide) ?_
                refine lv_iadd hx hb dL_law_299 ?_
                refine va_sld hx hb hX hbl hbA hS (vp_in_of2 g47) dL_law_300 ?_
                obtain ⟨r52, M53, e51, heq⟩ := bn2_of heq
                refine mm_ki hS (mm_runV (rest := [.int r49]) C hM hS (tX7_cart l G M50 (xs (v3 + 1).toNatClampNeg) (xs (v3 + 2).toNatClampNeg) r52 M53 e51) (uL_34 _ (Nat.le_of_ble_eq_true rfl) (Nat.le_of_ble_eq_true rfl)) (mm_recv C hM (kl (rfl : kT 731 = (6, 0))) (ci := 6) rfl (mm_e6 (rfl : kT 731 = (6, 0)))) hl.1 rfl rfl (Nat.le_of_ble_eq_true rfl) ⟨Nat.le_refl _, Nat.le_refl _⟩ dL_law_301) (fun H locs hM hS => ?_)
                have hM : mm_P G kR 740 M53 H := hM
                refine lv_icmp_eq (tgt := 992) hx hb dL_law_304 (by decide) (fun c54 => ?_) (fun c54 => ?_)
                · have heq := if_t c54 heq
                  obtain ⟨y55, ey55⟩ : ∃ y : Int32, y = (v3 + 5) := ⟨_, rfl⟩
                  have heq := lt_to ey55 heq
                  refine lv_iinc (v := y55) (lv' := [(3, .int y55), (0, .ref b), (1, .ref (mm_lo G + 0)), (2, .ref (mm_lo G + 731))]) hx hb dL_law_992 hl (k := 3) rfl (by rw [ey55]; rfl) (by decide) rfl (fun ls hl => ?_)
                  refine lv_goto (tgt := 18) hx hb dL_law_995 (by decide) ?_
                  exact ih _ _ _ _ _ hM hS (lv_sub hl [1, 2, 3, 0] rfl) heq
                · have heq := if_f c54 heq
                  refine lv_iconst (v := 0) hx hb dL_law_307 (by decide) ?_
                  cases heq
              · have heq := if_f c45 heq
                by_cases c56 : ((xs v3.toNatClampNeg) &&& 31) = 5
                · have heq := if_t c56 heq
                  refine lv_tableIn (tgt := 309) hx hb dL_law_32 (by rw [c56]; decide) (by rw [c56]; decide) (by rw [c56]; rfl) (by decide) ?_
                  refine lv_aload_n hx hb dL_law_309 rfl (lv_at hl 1 rfl) ?_
                  refine lv_aload_n hx hb dL_law_310 rfl (lv_at hl 0 rfl) ?_
                  refine lv_iload_n hx hb dL_law_311 rfl (lv_at hl 3 rfl) ?_
                  refine lv_iconst (v := 1) hx hb dL_law_312 (by decide) ?_
                  refine lv_iadd hx hb dL_law_313 ?_
                  obtain ⟨g57, heq⟩ := gd_of heq
                  refine va_sld hx hb hX hbl hbA hS (vp_in_of2 g57) dL_law_314 ?_
                  refine lv_aload_n hx hb dL_law_315 rfl (lv_at hl 0 rfl) ?_
                  refine lv_iload_n hx hb dL_law_316 rfl (lv_at hl 3 rfl) ?_
                  refine lv_iconst (v := 2) hx hb dL_law_317 (by decide) ?_
                  refine lv_iadd hx hb dL_law_318 ?_
                  obtain ⟨g58, heq⟩ := gd_of heq
                  refine va_sld hx hb hX hbl hbA hS (vp_in_of2 g58) dL_law_319 ?_
                  refine lv_aload_n hx hb dL_law_320 rfl (lv_at hl 0 rfl) ?_
                  refine lv_iload_n hx hb dL_law_321 rfl (lv_at hl 3 rfl) ?_
                  refine lv_iconst (v := 3) hx hb dL_law_322 (by decide) ?_
                  refine lv_iadd hx hb dL_law_323 ?_
                  obtain ⟨g59, heq⟩ := gd_of heq
                  refine va_sld hx hb hX hbl hbA hS (vp_in_of2 g59) dL_law_324 ?_
                  refine lv_aload_n hx hb dL_law_325 rfl (lv_at hl 0 rfl) ?_
                  refine lv_iload_n hx hb dL_law_326 rfl (lv_at hl 3 rfl) ?_
                  refine lv_iconst (v := 4) hx hb dL_law_327 (by decide) ?_
                  refine lv_iadd hx hb dL_law_328 ?_
                  obtain ⟨g60, heq⟩ := gd_of heq
                  refine va_sld hx hb hX hbl hbA hS (vp_in_of2 g60) dL_law_329 ?_
                  obtain ⟨r62, M63, e61, heq⟩ := bn2_of heq
                  refine mm_ki hS (mm_runV (rest := []) C hM hS (tX6_wish l G M (xs (v3 + 1).toNatClampNeg) (xs (v3 + 2).toNatClampNeg) (xs (v3 + 3).toNatClampNeg) (xs (v3 + 4).toNatClampNeg) r62 M63 e61) (uL_35 _ (Nat.le_of_ble_eq_true rfl) (Nat.le_of_ble_eq_true rfl)) (mm_recv C hM (kl (rfl : kT 0 = (5, 0))) (ci := 5) rfl (mm_e5 (rfl : kT 0 = (5, 0)))) hl.1 rfl rfl (Nat.le_of_ble_eq_true rfl) ⟨Nat.le_refl _, Nat.le_refl _⟩ dL_law_330) (fun H locs hM hS => ?_)
                  have hM : mm_P G kR 740 M63 H := hM
                  refine lv_aload_n hx hb dL_law_333 rfl (lv_at hl 2 rfl) ?_
                  refine lv_aload_n hx hb dL_law_334 rfl (lv_at hl 0 rfl) ?_
                  refine lv_iload_n hx hb dL_law_335 rfl (lv_at hl 3 rfl) ?_
                  refine lv_iconst (v := 1) hx hb dL_law_336 (by decide) ?_
                  refine lv_iadd hx hb dL_law_337 ?_
                  refine va_sld hx hb hX hbl hbA hS (vp_in_of2 g57) dL_law_338 ?_
                  refine lv_aload_n hx hb dL_law_339 rfl (lv_at hl 0 rfl) ?_
                  refine lv_iload_n hx hb dL_law_340 rfl (lv_at hl 3 rfl) ?_
                  refine lv_iconst (v := 2) hx hb dL_law_341 (by decide) ?_
                  refine lv_iadd hx hb dL_law_342 ?_
                  refine va_sld hx hb hX hbl hbA hS (vp_in_of2 g58) dL_law_343 ?_
                  refine lv_aload_n hx hb dL_law_344 rfl (lv_at hl 0 rfl) ?_
                  refine lv_iload_n hx hb dL_law_345 rfl (lv_at hl 3 rfl) ?_
                  refine lv_iconst (v := 3) hx hb dL_law_346 (by decide) ?_
                  refine lv_iadd hx hb dL_law_347 ?_
                  refine va_sld hx hb hX hbl hbA hS (vp_in_of2 g59) dL_law_348 ?_
                  refine lv_aload_n hx hb dL_law_349 rfl (lv_at hl 0 rfl) ?_
                  refine lv_iload_n hx hb dL_law_350 rfl (lv_at hl 3 rfl) ?_
                  refine lv_iconst (v := 4) hx hb dL_law_351 (by decide) ?_
                  refine lv_iadd hx hb dL_law_352 ?_
                  refine va_sld hx hb hX hbl hbA hS (vp_in_of2 g60) dL_law_353 ?_
                  obtain ⟨r65, M66, e64, heq⟩ := bn2_of heq
                  refine mm_ki hS (mm_runV (rest := [.int r62]) C hM hS (tX7_wish l G M63 (xs (v3 + 1).toNatClampNeg) (xs (v3 + 2).toNatClampNeg) (xs (v3 + 3).toNatClampNeg) (xs (v3 + 4).toNatClampNeg) r65 M66 e64) (uL_39 _ (Nat.le_of_ble_eq_true rfl) (Nat.le_of_ble_eq_true rfl)) (mm_recv C hM (kl (rfl : kT 731 = (6, 0))) (ci := 6) rfl (mm_e6 (rfl : kT 731 = (6, 0)))) hl.1 rfl rfl (Nat.le_of_ble_eq_true rfl) ⟨Nat.le_refl _, Nat.le_refl _⟩ dL_law_354) (fun H locs hM hS => ?_)
                  have hM : mm_P G kR 740 M66 H := hM
                  refine lv_icmp_eq (tgt := 992) hx hb dL_law_357 (by decide) (fun c67 => ?_) (fun c67 => ?_)
                  · have heq := if_t c67 heq
                    obtain ⟨y68, ey68⟩ : ∃ y : Int32, y = (v3 + 5) := ⟨_, rfl⟩
                    have heq := lt_to ey68 heq
                    refine lv_iinc (v := y68) (lv' := [(3, .int y68), (0, .ref b), (1, .ref (mm_lo G + 0)), (2, .ref (mm_lo G + 731))]) hx hb dL_law_992 hl (k := 3) rfl (by rw [ey68]; rfl) (by decide) rfl (fun ls hl => ?_)
                    refine lv_goto (tgt := 18) hx hb dL_law_995 (by decide) ?_
                    exact ih _ _ _ _ _ hM hS (lv_sub hl [1, 2, 3, 0] rfl) heq
                  · have heq := if_f c67 heq
                    refine lv_iconst (v := 0) hx hb dL_law_360 (by decide) ?_
                    cases heq
                · have heq := if_f c56 heq
                  by_cases c69 : ((xs v3.toNatClampNeg) &&& 31) = 6
                  · have heq := if_t c69 heq
                    refine lv_tableIn (tgt := 362) hx hb dL_law_32 (by rw [c69]; decide) (by rw [c69]; decide) (by rw [c69]; rfl) (by decide) ?_
                    refine lv_aload_n hx hb dL_law_362 rfl (lv_at hl 1 rfl) ?_
                    refine lv_aload_n hx hb dL_law_363 rfl (lv_at hl 0 rfl) ?_
                    refine lv_iload_n hx hb dL_law_364 rfl (lv_at hl 3 rfl) ?_
                    refine lv_iconst (v := 1) hx hb dL_law_365 (by decide) ?_
                    refine lv_iadd hx hb dL_law_366 ?_
                    obtain ⟨g70, heq⟩ := gd_of heq
                    refine va_sld hx hb hX hbl hbA hS (vp_in_of2 g70) dL_law_367 ?_
                    refine lv_aload_n hx hb dL_law_368 rfl (lv_at hl 0 rfl) ?_
                    refine lv_iload_n hx hb dL_law_369 rfl (lv_at hl 3 rfl) ?_
                    refine lv_iconst (v := 2) hx hb dL_law_370 (by decide) ?_
                    refine lv_iadd hx hb dL_law_371 ?_
                    obtain ⟨g71, heq⟩ := gd_of heq
                    refine va_sld hx hb hX hbl hbA hS (vp_in_of2 g71) dL_law_372 ?_
                    obtain ⟨r73, M74, e72, heq⟩ := bn2_of heq
                    refine mm_ki hS (mm_runV (rest := []) C hM hS (tX6_fine l G M (xs (v3 + 1).toNatClampNeg) (xs (v3 + 2).toNatClampNeg) r73 M74 e72) (uL_40 _ (Nat.le_of_ble_eq_true rfl) (Nat.le_of_ble_eq_true rfl)) (mm_recv C hM (kl (rfl : kT 0 = (5, 0))) (ci := 5) rfl (mm_e5 (rfl : kT 0 = (5, 0)))) hl.1 rfl rfl (Nat.le_of_ble_eq_true rfl) ⟨Nat.le_refl _, Nat.le_refl _⟩ dL_law_373) (fun H locs hM hS => ?_)
                    have hM : mm_P G kR 740 M74 H := hM
                    refine lv_aload_n hx hb dL_law_376 rfl (lv_at hl 2 rfl) ?_
                    refine lv_aload_n hx hb dL_law_377 rfl (lv_at hl 0 rfl) ?_
                    refine lv_iload_n hx hb dL_law_378 rfl (lv_at hl 3 rfl) ?_
                    refine lv_iconst (v := 1) hx hb dL_law_379 (by decide) ?_
                    refine lv_iadd hx hb dL_law_380 ?_
                    refine va_sld hx hb hX hbl hbA hS (vp_in_of2 g70) dL_law_381 ?_
                    refine lv_aload_n hx hb dL_law_382 rfl (lv_at hl 0 rfl) ?_
                    refine lv_iload_n hx hb dL_law_383 rfl (lv_at hl 3 rfl) ?_
                    refine lv_iconst (v := 2) hx hb dL_law_384 (by decide) ?_
                    refine lv_iadd hx hb dL_law_385 ?_
                    refine va_sld hx hb hX hbl hbA hS (vp_in_of2 g71) dL_law_386 ?_
                    obtain ⟨r76, M77, e75, heq⟩ := bn2_of heq
                    refine mm_ki hS (mm_runV (rest := [.int r73]) C hM hS (tX7_fine l G M74 (xs (v3 + 1).toNatClampNeg) (xs (v3 + 2).toNatClampNeg) r76 M77 e75) (uL_43 _ (Nat.le_of_ble_eq_true rfl) (Nat.le_of_ble_eq_true rfl)) (mm_recv C hM (kl (rfl : kT 731 = (6, 0))) (ci := 6) rfl (mm_e6 (rfl : kT 731 = (6, 0)))) hl.1 rfl rfl (Nat.le_of_ble_eq_true rfl) ⟨Nat.le_refl _, Nat.le_refl _⟩ dL_law_387) (fun H locs hM hS => ?_)
                    have hM : mm_P G kR 740 M77 H := hM
                    refine lv_icmp_eq (tgt := 992) hx hb dL_law_390 (by decide) (fun c78 => ?_) (fun c78 => ?_)
                    · have heq := if_t c78 heq
                      obtain ⟨y79, ey79⟩ : ∃ y : Int32, y = (v3 + 5) := ⟨_, rfl⟩
                      have heq := lt_to ey79 heq
                      refine lv_iinc (v := y79) (lv' := [(3, .int y79), (0, .ref b), (1, .ref (mm_lo G + 0)), (2, .ref (mm_lo G + 731))]) hx hb dL_law_992 hl (k := 3) rfl (by rw [ey79]; rfl) (by decide) rfl (fun ls hl => ?_)
                      refine lv_goto (tgt := 18) hx hb dL_law_995 (by decide) ?_
                      exact ih _ _ _ _ _ hM hS (lv_sub hl [1, 2, 3, 0] rfl) heq
                    · have heq := if_f c78 heq
                      refine lv_iconst (v := 0) hx hb dL_law_393 (by decide) ?_
                      cases heq
                  · have heq := if_f c69 heq
                    by_cases c80 : ((xs v3.toNatClampNeg) &&& 31) = 7
                    · have heq := if_t c80 heq
                      refine lv_tableIn (tgt := 395) hx hb dL_law_32 (by rw [c80]; decide) (by rw [c80]; decide) (by rw [c80]; rfl) (by decide) ?_
                      refine lv_aload_n hx hb dL_law_395 rfl (lv_at hl 1 rfl) ?_
                      refine lv_aload_n hx hb dL_law_396 rfl (lv_at hl 0 rfl) ?_
                      refine lv_iload_n hx hb dL_law_397 rfl (lv_at hl 3 rfl) ?_
                      refine lv_iconst (v := 1) hx hb dL_law_398 (by decide) ?_
                      refine lv_iadd hx hb dL_law_399 ?_
                      obtain ⟨g81, heq⟩ := gd_of heq
                      refine va_sld hx hb hX hbl hbA hS (vp_in_of2 g81) dL_law_400 ?_
                      obtain ⟨r83, M84, e82, heq⟩ := bn2_of heq
                      refine mm_ki hS (mm_runV (rest := []) C hM hS (tX6_check l G M (xs (v3 + 1).toNatClampNeg) r83 M84 e82) (uL_44 _ (Nat.le_of_ble_eq_true rfl) (Nat.le_of_ble_eq_true rfl)) (mm_recv C hM (kl (rfl : kT 0 = (5, 0))) (ci := 5) rfl (mm_e5 (rfl : kT 0 = (5, 0)))) hl.1 rfl rfl (Nat.le_of_ble_eq_true rfl) ⟨Nat.le_refl _, Nat.le_refl _⟩ dL_law_401) (fun H locs hM hS => ?_)
                      have hM : mm_P G kR 740 M84 H := hM
                      refine lv_aload_n hx hb dL_law_404 rfl (lv_at hl 2 rfl) ?_
                      refine lv_aload_n hx hb dL_law_405 rfl (lv_at hl 0 rfl) ?_
                      refine lv_iload_n hx hb dL_law_406 rfl (lv_at hl 3 rfl) ?_
                      refine lv_iconst (v := 1) hx hb dL_law_407 (by decide) ?_
                      refine lv_iadd hx hb dL_law_408 ?_
                      refine va_sld hx hb hX hbl hbA hS (vp_in_of2 g81) dL_law_409 ?_
                      obtain ⟨r86, M87, e85, heq⟩ := bn2_of heq
                      refine mm_ki hS (mm_runV (rest := [.int r83]) C hM hS (tX7_check l G M84 (xs (v3 + 1).toNatClampNeg) r86 M87 e85) (uL_47 _ (Nat.le_of_ble_eq_true rfl) (Nat.le_of_ble_eq_true rfl)) (mm_recv C hM (kl (rfl : kT 731 = (6, 0))) (ci := 6) rfl (mm_e6 (rfl : kT 731 = (6, 0)))) hl.1 rfl rfl (Nat.le_of_ble_eq_true rfl) ⟨Nat.le_refl _, Nat.le_refl _⟩ dL_law_410) (fun H locs hM hS => ?_)
                      have hM : mm_P G kR 740 M87 H := hM
                      refine lv_icmp_eq (tgt := 992) hx hb dL_law_413 (by decide) (fun c88 => ?_) (fun c88 => ?_)
                      · have heq := if_t c88 heq
                        obtain ⟨y89, ey89⟩ : ∃ y : Int32, y = (v3 + 5) := ⟨_, rfl⟩
                        have heq := lt_to ey89 heq
                        refine lv_iinc (v := y89) (lv' := [(3, .int y89), (0, .ref b), (1, .ref (mm_lo G + 0)), (2, .ref (mm_lo G + 731))]) hx hb dL_law_992 hl (k := 3) rfl (by rw [ey89]; rfl) (by decide) rfl (fun ls hl => ?_)
                        refine lv_goto (tgt := 18) hx hb dL_law_995 (by decide) ?_
                        exact ih _ _ _ _ _ hM hS (lv_sub hl [1, 2, 3, 0] rfl) heq
                      · have heq := if_f c88 heq
                        refine lv_iconst (v := 0) hx hb dL_law_416 (by decide) ?_
                        cases heq
                    · have heq := if_f c80 heq
                      by_cases c90 : ((xs v3.toNatClampNeg) &&& 31) = 8
                      · have heq := if_t c90 heq
                        refine lv_tableIn (tgt := 418) hx hb dL_law_32 (by rw [c90]; decide) (by rw [c90]; decide) (by rw [c90]; rfl) (by decide) ?_
                        refine lv_aload_n hx hb dL_law_418 rfl (lv_at hl 1 rfl) ?_
                        refine lv_aload_n hx hb dL_law_419 rfl (lv_at hl 0 rfl) ?_
                        refine lv_iload_n hx hb dL_law_420 rfl (lv_at hl 3 rfl) ?_
                        refine lv_iconst (v := 1) hx hb dL_law_421 (by decide) ?_
                        refine lv_iadd hx hb dL_law_422 ?_
                        obtain ⟨g91, heq⟩ := gd_of heq
                        refine va_sld hx hb hX hbl hbA hS (vp_in_of2 g91) dL_law_423 ?_
                        refine lv_aload_n hx hb dL_law_424 rfl (lv_at hl 0 rfl) ?_
                        refine lv_iload_n hx hb dL_law_425 rfl (lv_at hl 3 rfl) ?_
                        refine lv_iconst (v := 2) hx hb dL_law_426 (by decide) ?_
                        refine lv_iadd hx hb dL_law_427 ?_
                        obtain ⟨g92, heq⟩ := gd_of heq
                        refine va_sld hx hb hX hbl hbA hS (vp_in_of2 g92) dL_law_428 ?_
                        obtain ⟨r94, M95, e93, heq⟩ := bn2_of heq
                        refine mm_ki hS (mm_runV (rest := []) C hM hS (tX6_swap l G M (xs (v3 + 1).toNatClampNeg) (xs (v3 + 2).toNatClampNeg) r94 M95 e93) (uL_48 _ (Nat.le_of_ble_eq_true rfl) (Nat.le_of_ble_eq_true rfl)) (mm_recv C hM (kl (rfl : kT 0 = (5, 0))) (ci := 5) rfl (mm_e5 (rfl : kT 0 = (5, 0)))) hl.1 rfl rfl (Nat.le_of_ble_eq_true rfl) ⟨Nat.le_refl _, Nat.le_refl _⟩ dL_law_429) (fun H locs hM hS => ?_)
                        have hM : mm_P G kR 740 M95 H := hM
                        refine lv_aload_n hx hb dL_law_432 rfl (lv_at hl 2 rfl) ?_
                        refine lv_aload_n hx hb dL_law_433 rfl (lv_at hl 0 rfl) ?_
                        refine lv_iload_n hx hb dL_law_434 rfl (lv_at hl 3 rfl) ?_
                        refine lv_iconst (v := 1) hx hb dL_law_435 (by decide) ?_
                        refine lv_iadd hx hb dL_law_436 ?_
                        refine va_sld hx hb hX hbl hbA hS (vp_in_of2 g91) dL_law_437 ?_
                        refine lv_aload_n hx hb dL_law_438 rfl (lv_at hl 0 rfl) ?_
                        refine lv_iload_n hx hb dL_law_439 rfl (lv_at hl 3 rfl) ?_
                        refine lv_iconst (v := 2) hx hb dL_law_440 (by decide) ?_
                        refine lv_iadd hx hb dL_law_441 ?_
                        refine va_sld hx hb hX hbl hbA hS (vp_in_of2 g92) dL_law_442 ?_
                        obtain ⟨r97, M98, e96, heq⟩ := bn2_of heq
                        refine mm_ki hS (mm_runV (rest := [.int r94]) C hM hS (tX7_swap l G M95 (xs (v3 + 1).toNatClampNeg) (xs (v3 + 2).toNatClampNeg) r97 M98 e96) (uL_51 _ (Nat.le_of_ble_eq_true rfl) (Nat.le_of_ble_eq_true rfl)) (mm_recv C hM (kl (rfl : kT 731 = (6, 0))) (ci := 6) rfl (mm_e6 (rfl : kT 731 = (6, 0)))) hl.1 rfl rfl (Nat.le_of_ble_eq_true rfl) ⟨Nat.le_refl _, Nat.le_refl _⟩ dL_law_443) (fun H locs hM hS => ?_)
                        have hM : mm_P G kR 740 M98 H := hM
                        refine lv_icmp_eq (tgt := 992) hx hb dL_law_446 (by decide) (fun c99 => ?_) (fun c99 => ?_)
                        · have heq := if_t c99 heq
                          obtain ⟨y100, ey100⟩ : ∃ y : Int32, y = (v3 + 5) := ⟨_, rfl⟩
                          have heq := lt_to ey100 heq
                          refine lv_iinc (v := y100) (lv' := [(3, .int y100), (0, .ref b), (1, .ref (mm_lo G + 0)), (2, .ref (mm_lo G + 731))]) hx hb dL_law_992 hl (k := 3) rfl (by rw [ey100]; rfl) (by decide) rfl (fun ls hl => ?_)
                          refine lv_goto (tgt := 18) hx hb dL_law_995 (by decide) ?_
                          exact ih _ _ _ _ _ hM hS (lv_sub hl [1, 2, 3, 0] rfl) heq
                        · have heq := if_f c99 heq
                          refine lv_iconst (v := 0) hx hb dL_law_449 (by decide) ?_
                          cases heq
                      · have heq := if_f c90 heq
                        by_cases c101 : ((xs v3.toNatClampNeg) &&& 31) = 9
                        · have heq := if_t c101 heq
                          refine lv_tableIn (tgt := 451) hx hb dL_law_32 (by rw [c101]; decide) (by rw [c101]; decide) (by rw [c101]; rfl) (by decide) ?_
                          refine lv_aload_n hx hb dL_law_451 rfl (lv_at hl 1 rfl) ?_
                          refine lv_aload_n hx hb dL_law_452 rfl (lv_at hl 0 rfl) ?_
                          refine lv_iload_n hx hb dL_law_453 rfl (lv_at hl 3 rfl) ?_
                          refine lv_iconst (v := 1) hx hb dL_law_454 (by decide) ?_
                          refine lv_iadd hx hb dL_law_455 ?_
                          obtain ⟨g102, heq⟩ := gd_of heq
                          refine va_sld hx hb hX hbl hbA hS (vp_in_of2 g102) dL_law_456 ?_
                          refine lv_aload_n hx hb dL_law_457 rfl (lv_at hl 0 rfl) ?_
                          refine lv_iload_n hx hb dL_law_458 rfl (lv_at hl 3 rfl) ?_
                          refine lv_iconst (v := 2) hx hb dL_law_459 (by decide) ?_
                          refine lv_iadd hx hb dL_law_460 ?_
                          obtain ⟨g103, heq⟩ := gd_of heq
                          refine va_sld hx hb hX hbl hbA hS (vp_in_of2 g103) dL_law_461 ?_
                          obtain ⟨r105, M106, e104, heq⟩ := bn2_of heq
                          refine mm_ki hS (mm_runV (rest := []) C hM hS (tX6_pay l G M (xs (v3 + 1).toNatClampNeg) (xs (v3 + 2).toNatClampNeg) r105 M106 e104) (uL_52 _ (Nat.le_of_ble_eq_true rfl) (Nat.le_of_ble_eq_true rfl)) (mm_recv C hM (kl (rfl : kT 0 = (5, 0))) (ci := 5) rfl (mm_e5 (rfl : kT 0 = (5, 0)))) hl.1 rfl rfl (Nat.le_of_ble_eq_true rfl) ⟨Nat.le_refl _, Nat.le_refl _⟩ dL_law_462) (fun H locs hM hS => ?_)
                          have hM : mm_P G kR 740 M106 H := hM
                          refine lv_aload_n hx hb dL_law_465 rfl (lv_at hl 2 rfl) ?_
                          refine lv_aload_n hx hb dL_law_466 rfl (lv_at hl 0 rfl) ?_
                          refine lv_iload_n hx hb dL_law_467 rfl (lv_at hl 3 rfl) ?_
                          refine lv_iconst (v := 1) hx hb dL_law_468 (by decide) ?_
                          refine lv_iadd hx hb dL_law_469 ?_
                          refine va_sld hx hb hX hbl hbA hS (vp_in_of2 g102) dL_law_470 ?_
                          refine lv_aload_n hx hb dL_law_471 rfl (lv_at hl 0 rfl) ?_
                          refine lv_iload_n hx hb dL_law_472 rfl (lv_at hl 3 rfl) ?_
                          refine lv_iconst (v := 2) hx hb dL_law_473 (by decide) ?_
                          refine lv_iadd hx hb dL_law_474 ?_
                          refine va_sld hx hb hX hbl hbA hS (vp_in_of2 g103) dL_law_475 ?_
                          obtain ⟨r108, M109, e107, heq⟩ := bn2_of heq
                          refine mm_ki hS (mm_runV (rest := [.int r105]) C hM hS (tX7_pay l G M106 (xs (v3 + 1).toNatClampNeg) (xs (v3 + 2).toNatClampNeg) r108 M109 e107) (uL_55 _ (Nat.le_of_ble_eq_true rfl) (Nat.le_of_ble_eq_true rfl)) (mm_recv C hM (kl (rfl : kT 731 = (6, 0))) (ci := 6) rfl (mm_e6 (rfl : kT 731 = (6, 0)))) hl.1 rfl rfl (Nat.le_of_ble_eq_true rfl) ⟨Nat.le_refl _, Nat.le_refl _⟩ dL_law_476) (fun H locs hM hS => ?_)
                          have hM : mm_P G kR 740 M109 H := hM
                          refine lv_icmp_eq (tgt := 992) hx hb dL_law_479 (by decide) (fun c110 => ?_) (fun c110 => ?_)
                          · have heq := if_t c110 heq
                            obtain ⟨y111, ey111⟩ : ∃ y : Int32, y = (v3 + 5) := ⟨_, rfl⟩
                            have heq := lt_to ey111 heq
                            refine lv_iinc (v := y111) (lv' := [(3, .int y111), (0, .ref b), (1, .ref (mm_lo G + 0)), (2, .ref (mm_lo G + 731))]) hx hb dL_law_992 hl (k := 3) rfl (by rw [ey111]; rfl) (by decide) rfl (fun ls hl => ?_)
                            refine lv_goto (tgt := 18) hx hb dL_law_995 (by decide) ?_
                            exact ih _ _ _ _ _ hM hS (lv_sub hl [1, 2, 3, 0] rfl) heq
                          · have heq := if_f c110 heq
                            refine lv_iconst (v := 0) hx hb dL_law_482 (by decide) ?_
                            cases heq
                        · have heq := if_f c101 heq
                          by_cases c112 : ((xs v3.toNatClampNeg) &&& 31) = 10
                          · have heq := if_t c112 heq
                            refine lv_tableIn (tgt := 484) hx hb dL_law_32 (by rw [c112]; decide) (by rw [c112]; decide) (by rw [c112]; rfl) (by decide) ?_
                            refine lv_aload_n hx hb dL_law_484 rfl (lv_at hl 1 rfl) ?_
                            refine lv_aload_n hx hb dL_law_485 rfl (lv_at hl 0 rfl) ?_
                            refine lv_iload_n hx hb dL_law_486 rfl (lv_at hl 3 rfl) ?_
                            refine lv_iconst (v := 1) hx hb dL_law_487 (by decide) ?_
                            refine lv_iadd hx hb dL_law_488 ?_
                            obtain ⟨g113, heq⟩ := gd_of heq
                            refine va_sld hx hb hX hbl hbA hS (vp_in_of2 g113) dL_law_489 ?_
                            obtain ⟨r115, M116, e114, heq⟩ := bn2_of heq
                            refine mm_ki hS (mm_runV (rest := []) C hM hS (tX6_days l G M (xs (v3 + 1).toNatClampNeg) r115 M116 e114) (uL_56 _ (Nat.le_of_ble_eq_true rfl) (Nat.le_of_ble_eq_true rfl)) (mm_recv C hM (kl (rfl : kT 0 = (5, 0))) (ci := 5) rfl (mm_e5 (rfl : kT 0 = (5, 0)))) hl.1 rfl rfl (Nat.le_of_ble_eq_true rfl) ⟨Nat.le_refl _, Nat.le_refl _⟩ dL_law_490) (fun H locs hM hS => ?_)
                            have hM : mm_P G kR 740 M116 H := hM
                            refine lv_aload_n hx hb dL_law_493 rfl (lv_at hl 2 rfl) ?_
                            refine lv_aload_n hx hb dL_law_494 rfl (lv_at hl 0 rfl) ?_
                            refine lv_iload_n hx hb dL_law_495 rfl (lv_at hl 3 rfl) ?_
                            refine lv_iconst (v := 1) hx hb dL_law_496 (by decide) ?_
                            refine lv_iadd hx hb dL_law_497 ?_
                            refine va_sld hx hb hX hbl hbA hS (vp_in_of2 g113) dL_law_498 ?_
                            obtain ⟨r118, M119, e117, heq⟩ := bn2_of heq
                            refine mm_ki hS (mm_runV (rest := [.int r115]) C hM hS (tX7_days l G M116 (xs (v3 + 1).toNatClampNeg) r118 M119 e117) (uL_59 _ (Nat.le_of_ble_eq_true rfl) (Nat.le_of_ble_eq_true rfl)) (mm_recv C hM (kl (rfl : kT 731 = (6, 0))) (ci := 6) rfl (mm_e6 (rfl : kT 731 = (6, 0)))) hl.1 rfl rfl (Nat.le_of_ble_eq_true rfl) ⟨Nat.le_refl _, Nat.le_refl _⟩ dL_law_499) (fun H locs hM hS => ?_)
                            have hM : mm_P G kR 740 M119 H := hM
                            refine lv_icmp_eq (tgt := 992) hx hb dL_law_502 (by decide) (fun c120 => ?_) (fun c120 => ?_)
                            · have heq := if_t c120 heq
                              obtain ⟨y121, ey121⟩ : ∃ y : Int32, y = (v3 + 5) := ⟨_, rfl⟩
                              have heq := lt_to ey121 heq
                              refine lv_iinc (v := y121) (lv' := [(3, .int y121), (0, .ref b), (1, .ref (mm_lo G + 0)), (2, .ref (mm_lo G + 731))]) hx hb dL_law_992 hl (k := 3) rfl (by rw [ey121]; rfl) (by decide) rfl (fun ls hl => ?_)
                              refine lv_goto (tgt := 18) hx hb dL_law_995 (by decide) ?_
                              exact ih _ _ _ _ _ hM hS (lv_sub hl [1, 2, 3, 0] rfl) heq
                            · have heq := if_f c120 heq
                              refine lv_iconst (v := 0) hx hb dL_law_505 (by decide) ?_
                              cases heq
                          · have heq := if_f c112 heq
                            by_cases c122 : ((xs v3.toNatClampNeg) &&& 31) = 11
                            · have heq := if_t c122 heq
                              refine lv_tableIn (tgt := 507) hx hb dL_law_32 (by rw [c122]; decide) (by rw [c122]; decide) (by rw [c122]; rfl) (by decide) ?_
                              refine lv_aload_n hx hb dL_law_507 rfl (lv_at hl 1 rfl) ?_
                              refine lv_aload_n hx hb dL_law_508 rfl (lv_at hl 0 rfl) ?_
                              refine lv_iload_n hx hb dL_law_509 rfl (lv_at hl 3 rfl) ?_
                              refine lv_iconst (v := 1) hx hb dL_law_510 (by decide) ?_
                              refine lv_iadd hx hb dL_law_511 ?_
                              obtain ⟨g123, heq⟩ := gd_of heq
                              refine va_sld hx hb hX hbl hbA hS (vp_in_of2 g123) dL_law_512 ?_
                              refine lv_aload_n hx hb dL_law_513 rfl (lv_at hl 0 rfl) ?_
                              refine lv_iload_n hx hb dL_law_514 rfl (lv_at hl 3 rfl) ?_
                              refine lv_iconst (v := 2) hx hb dL_law_515 (by decide) ?_
                              refine lv_iadd hx hb dL_law_516 ?_
                              obtain ⟨g124, heq⟩ := gd_of heq
                              refine va_sld hx hb hX hbl hbA hS (vp_in_of2 g124) dL_law_517 ?_
                              obtain ⟨r126, e125, heq⟩ := bn_of heq
                              refine mm_ki hS (mm_runV (rest := []) C hM hS (tX6_ofCart l G M (xs (v3 + 1).toNatClampNeg) (xs (v3 + 2).toNatClampNeg) r126 e125) (uL_60 _ (Nat.le_of_ble_eq_true rfl) (Nat.le_of_ble_eq_true rfl)) (mm_recv C hM (kl (rfl : kT 0 = (5, 0))) (ci := 5) rfl (mm_e5 (rfl : kT 0 = (5, 0)))) hl.1 rfl rfl (Nat.le_of_ble_eq_true rfl) ⟨Nat.le_refl _, Nat.le_refl _⟩ dL_law_518) (fun H locs hM hS => ?_)
                              have hM : mm_P G kR 740 M H := hM
                              refine lv_aload_n hx hb dL_law_521 rfl (lv_at hl 2 rfl) ?_
                              refine lv_aload_n hx hb dL_law_522 rfl (lv_at hl 0 rfl) ?_
                              refine lv_iload_n hx hb dL_law_523 rfl (lv_at hl 3 rfl) ?_
                              refine lv_iconst (v := 1) hx hb dL_law_524 (by decide) ?_
                              refine lv_iadd hx hb dL_law_525 ?_
                              refine va_sld hx hb hX hbl hbA hS (vp_in_of2 g123) dL_law_526 ?_
                              refine lv_aload_n hx hb dL_law_527 rfl (lv_at hl 0 rfl) ?_
                              refine lv_iload_n hx hb dL_law_528 rfl (lv_at hl 3 rfl) ?_
                              refine lv_iconst (v := 2) hx hb dL_law_529 (by decide) ?_
                              refine lv_iadd hx hb dL_law_530 ?_
                              refine va_sld hx hb hX hbl hbA hS (vp_in_of2 g124) dL_law_531 ?_
                              obtain ⟨r128, e127, heq⟩ := bn_of heq
                              refine mm_ki hS (mm_runV (rest := [.int r126]) C hM hS (tX7_ofCart l G M (xs (v3 + 1).toNatClampNeg) (xs (v3 + 2).toNatClampNeg) r128 e127) (uL_63 _ (Nat.le_of_ble_eq_true rfl) (Nat.le_of_ble_eq_true rfl)) (mm_recv C hM (kl (rfl : kT 731 = (6, 0))) (ci := 6) rfl (mm_e6 (rfl : kT 731 = (6, 0)))) hl.1 rfl rfl (Nat.le_of_ble_eq_true rfl) ⟨Nat.le_refl _, Nat.le_refl _⟩ dL_law_532) (fun H locs hM hS => ?_)
                              have hM : mm_P G kR 740 M H := hM
                              refine lv_icmp_eq (tgt := 992) hx hb dL_law_535 (by decide) (fun c129 => ?_) (fun c129 => ?_)
                              · have heq := if_t c129 heq
                                obtain ⟨y130, ey130⟩ : ∃ y : Int32, y = (v3 + 5) := ⟨_, rfl⟩
                                have heq := lt_to ey130 heq
                                refine lv_iinc (v := y130) (lv' := [(3, .int y130), (0, .ref b), (1, .ref (mm_lo G + 0)), (2, .ref (mm_lo G + 731))]) hx hb dL_law_992 hl (k := 3) rfl (by rw [ey130]; rfl) (by decide) rfl (fun ls hl => ?_)
                                refine lv_goto (tgt := 18) hx hb dL_law_995 (by decide) ?_
                                exact ih _ _ _ _ _ hM hS (lv_sub hl [1, 2, 3, 0] rfl) heq
                              · have heq := if_f c129 heq
                                refine lv_iconst (v := 0) hx hb dL_law_538 (by decide) ?_
                                cases heq
                            · have heq := if_f c122 heq
                              by_cases c131 : ((xs v3.toNatClampNeg) &&& 31) = 12
                              · have heq := if_t c131 heq
                                refine lv_tableIn (tgt := 540) hx hb dL_law_32 (by rw [c131]; decide) (by rw [c131]; decide) (by rw [c131]; rfl) (by decide) ?_
                                refine lv_aload_n hx hb dL_law_540 rfl (lv_at hl 1 rfl) ?_
                                refine lv_aload_n hx hb dL_law_541 rfl (lv_at hl 0 rfl) ?_
                                refine lv_iload_n hx hb dL_law_542 rfl (lv_at hl 3 rfl) ?_
                                refine lv_iconst (v := 1) hx hb dL_law_543 (by decide) ?_
                                refine lv_iadd hx hb dL_law_544 ?_
                                obtain ⟨g132, heq⟩ := gd_of heq
                                refine va_sld hx hb hX hbl hbA hS (vp_in_of2 g132) dL_law_545 ?_
                                refine lv_aload_n hx hb dL_law_546 rfl (lv_at hl 0 rfl) ?_
                                refine lv_iload_n hx hb dL_law_547 rfl (lv_at hl 3 rfl) ?_
                                refine lv_iconst (v := 2) hx hb dL_law_548 (by decide) ?_
                                refine lv_iadd hx hb dL_law_549 ?_
                                obtain ⟨g133, heq⟩ := gd_of heq
                                refine va_sld hx hb hX hbl hbA hS (vp_in_of2 g133) dL_law_550 ?_
                                obtain ⟨r135, e134, heq⟩ := bn_of heq
                                refine mm_kl hS (mm_runV (rest := []) C hM hS (tX6_money l G M (xs (v3 + 1).toNatClampNeg) (xs (v3 + 2).toNatClampNeg) r135 e134) (uL_64 _ (Nat.le_of_ble_eq_true rfl) (Nat.le_of_ble_eq_true rfl)) (mm_recv C hM (kl (rfl : kT 0 = (5, 0))) (ci := 5) rfl (mm_e5 (rfl : kT 0 = (5, 0)))) hl.1 rfl rfl (Nat.le_of_ble_eq_true rfl) ⟨Nat.le_refl _, Nat.le_refl _⟩ dL_law_551) (fun H locs hM hS => ?_)
                                have hM : mm_P G kR 740 M H := hM
                                refine lv_aload_n hx hb dL_law_554 rfl (lv_at hl 2 rfl) ?_
                                refine lv_aload_n hx hb dL_law_555 rfl (lv_at hl 0 rfl) ?_
                                refine lv_iload_n hx hb dL_law_556 rfl (lv_at hl 3 rfl) ?_
                                refine lv_iconst (v := 1) hx hb dL_law_557 (by decide) ?_
                                refine lv_iadd hx hb dL_law_558 ?_
                                refine va_sld hx hb hX hbl hbA hS (vp_in_of2 g132) dL_law_559 ?_
                                refine lv_aload_n hx hb dL_law_560 rfl (lv_at hl 0 rfl) ?_
                                refine lv_iload_n hx hb dL_law_561 rfl (lv_at hl 3 rfl) ?_
                                refine lv_iconst (v := 2) hx hb dL_law_562 (by decide) ?_
                                refine lv_iadd hx hb dL_law_563 ?_
                                refine va_sld hx hb hX hbl hbA hS (vp_in_of2 g133) dL_law_564 ?_
                                obtain ⟨r137, e136, heq⟩ := bn_of heq
                                refine mm_kl hS (mm_runV (rest := [.long r135]) C hM hS (tX7_money l G M (xs (v3 + 1).toNatClampNeg) (xs (v3 + 2).toNatClampNeg) r137 e136) (uL_68 _ (Nat.le_of_ble_eq_true rfl) (Nat.le_of_ble_eq_true rfl)) (mm_recv C hM (kl (rfl : kT 731 = (6, 0))) (ci := 6) rfl (mm_e6 (rfl : kT 731 = (6, 0)))) hl.1 rfl rfl (Nat.le_of_ble_eq_true rfl) ⟨Nat.le_refl _, Nat.le_refl _⟩ dL_law_565) (fun H locs hM hS => ?_)
                                have hM : mm_P G kR 740 M H := hM
                                refine W.lcmp hx hb dL_law_568 ?_
                                refine lv_if_eq (tgt := 992) hx hb dL_law_569 (by decide) (fun c138 => ?_) (fun c138 => ?_)
                                · have heq := if_t c138 heq
                                  obtain ⟨y139, ey139⟩ : ∃ y : Int32, y = (v3 + 5) := ⟨_, rfl⟩
                                  have heq := lt_to ey139 heq
                                  refine lv_iinc (v := y139) (lv' := [(3, .int y139), (0, .ref b), (1, .ref (mm_lo G + 0)), (2, .ref (mm_lo G + 731))]) hx hb dL_law_992 hl (k := 3) rfl (by rw [ey139]; rfl) (by decide) rfl (fun ls hl => ?_)
                                  refine lv_goto (tgt := 18) hx hb dL_law_995 (by decide) ?_
                                  exact ih _ _ _ _ _ hM hS (lv_sub hl [1, 2, 3, 0] rfl) heq
                                · have heq := if_f c138 heq
                                  refine lv_iconst (v := 0) hx hb dL_law_572 (by decide) ?_
                                  cases heq
                              · have heq := if_f c131 heq
                                by_cases c140 : ((xs v3.toNatClampNeg) &&& 31) = 13
                                · have heq := if_t c140 heq
                                  refine lv_tableIn (tgt := 574) hx hb dL_law_32 (by rw [c140]; decide) (by rw [c140]; decide) (by rw [c140]; rfl) (by decide) ?_
                                  refine lv_aload_n hx hb dL_law_574 rfl (lv_at hl 1 rfl) ?_
                                  refine lv_aload_n hx hb dL_law_575 rfl (lv_at hl 0 rfl) ?_
                                  refine lv_iload_n hx hb dL_law_576 rfl (lv_at hl 3 rfl) ?_
                                  refine lv_iconst (v := 1) hx hb dL_law_577 (by decide) ?_
                                  refine lv_iadd hx hb dL_law_578 ?_
                                  obtain ⟨g141, heq⟩ := gd_of heq
                                  refine va_sld hx hb hX hbl hbA hS (vp_in_of2 g141) dL_law_579 ?_
                                  refine lv_aload_n hx hb dL_law_580 rfl (lv_at hl 0 rfl) ?_
                                  refine lv_iload_n hx hb dL_law_581 rfl (lv_at hl 3 rfl) ?_
                                  refine lv_iconst (v := 2) hx hb dL_law_582 (by decide) ?_
                                  refine lv_iadd hx hb dL_law_583 ?_
                                  obtain ⟨g142, heq⟩ := gd_of heq
                                  refine va_sld hx hb hX hbl hbA hS (vp_in_of2 g142) dL_law_584 ?_
                                  obtain ⟨r144, e143, heq⟩ := bn_of heq
                                  refine mm_ki hS (mm_runV (rest := []) C hM hS (tX6_ofPitch l G M (xs (v3 + 1).toNatClampNeg) (xs (v3 + 2).toNatClampNeg) r144 e143) (uL_69 _ (Nat.le_of_ble_eq_true rfl) (Nat.le_of_ble_eq_true rfl)) (mm_recv C hM (kl (rfl : kT 0 = (5, 0))) (ci := 5) rfl (mm_e5 (rfl : kT 0 = (5, 0)))) hl.1 rfl rfl (Nat.le_of_ble_eq_true rfl) ⟨Nat.le_refl _, Nat.le_refl _⟩ dL_law_585) (fun H locs hM hS => ?_)
                                  have hM : mm_P G kR 740 M H := hM
                                  refine lv_aload_n hx hb dL_law_588 rfl (lv_at hl 2 rfl) ?_
                                  refine lv_aload_n hx hb dL_law_589 rfl (lv_at hl 0 rfl) ?_
                                  refine lv_iload_n hx hb dL_law_590 rfl (lv_at hl 3 rfl) ?_
                                  refine lv_iconst (v := 1) hx hb dL_law_591 (by decide) ?_
                                  refine lv_iadd hx hb dL_law_592 ?_
                                  refine va_sld hx hb hX hbl hbA hS (vp_in_of2 g141) dL_law_593 ?_
                                  refine lv_aload_n hx hb dL_law_594 rfl (lv_at hl 0 rfl) ?_
                                  refine lv_iload_n hx hb dL_law_595 rfl (lv_at hl 3 rfl) ?_
                                  refine lv_iconst (v := 2) hx hb dL_law_596 (by decide) ?_
                                  refine lv_iadd hx hb dL_law_597 ?_
                                  refine va_sld hx hb hX hbl hbA hS (vp_in_of2 g142) dL_law_598 ?_
                                  obtain ⟨r146, e145, heq⟩ := bn_of heq
                                  refine mm_ki hS (mm_runV (rest := [.int r144]) C hM hS (tX7_ofPitch l G M (xs (v3 + 1).toNatClampNeg) (xs (v3 + 2).toNatClampNeg) r146 e145) (uL_72 _ (Nat.le_of_ble_eq_true rfl) (Nat.le_of_ble_eq_true rfl)) (mm_recv C hM (kl (rfl : kT 731 = (6, 0))) (ci := 6) rfl (mm_e6 (rfl : kT 731 = (6, 0)))) hl.1 rfl rfl (Nat.le_of_ble_eq_true rfl) ⟨Nat.le_refl _, Nat.le_refl _⟩ dL_law_599) (fun H locs hM hS => ?_)
                                  have hM : mm_P G kR 740 M H := hM
                                  refine lv_icmp_eq (tgt := 992) hx hb dL_law_602 (by decide) (fun c147 => ?_) (fun c147 => ?_)
                                  · have heq := if_t c147 heq
                                    obtain ⟨y148, ey148⟩ : ∃ y : Int32, y = (v3 + 5) := ⟨_, rfl⟩
                                    have heq := lt_to ey148 heq
                                    refine lv_iinc (v := y148) (lv' := [(3, .int y148), (0, .ref b), (1, .ref (mm_lo G + 0)), (2, .ref (mm_lo G + 731))]) hx hb dL_law_992 hl (k := 3) rfl (by rw [ey148]; rfl) (by decide) rfl (fun ls hl => ?_)
                                    refine lv_goto (tgt := 18) hx hb dL_law_995 (by decide) ?_
                                    exact ih _ _ _ _ _ hM hS (lv_sub hl [1, 2, 3, 0] rfl) heq
                                  · have heq := if_f c147 heq
                                    refine lv_iconst (v := 0) hx hb dL_law_605 (by decide) ?_
                                    cases heq
                                · have heq := if_f c140 heq
                                  by_cases c149 : ((xs v3.toNatClampNeg) &&& 31) = 14
                                  · have heq := if_t c149 heq
                                    refine lv_tableIn (tgt := 607) hx hb dL_law_32 (by rw [c149]; decide) (by rw [c149]; decide) (by rw [c149]; rfl) (by decide) ?_
                                    refine lv_aload_n hx hb dL_law_607 rfl (lv_at hl 1 rfl) ?_
                                    refine lv_aload_n hx hb dL_law_608 rfl (lv_at hl 0 rfl) ?_
                                    refine lv_iload_n hx hb dL_law_609 rfl (lv_at hl 3 rfl) ?_
                                    refine lv_iconst (v := 1) hx hb dL_law_610 (by decide) ?_
                                    refine lv_iadd hx hb dL_law_611 ?_
                                    obtain ⟨g150, heq⟩ := gd_of heq
                                    refine va_sld hx hb hX hbl hbA hS (vp_in_of2 g150) dL_law_612 ?_
                                    obtain ⟨r152, e151, heq⟩ := bn_of heq
                                    refine mm_ki hS (mm_runV (rest := []) C hM hS (tX6_count l G M (xs (v3 + 1).toNatClampNeg) r152 e151) (uL_73 _ (Nat.le_of_ble_eq_true rfl) (Nat.le_of_ble_eq_true rfl)) (mm_recv C hM (kl (rfl : kT 0 = (5, 0))) (ci := 5) rfl (mm_e5 (rfl : kT 0 = (5, 0)))) hl.1 rfl rfl (Nat.le_of_ble_eq_true rfl) ⟨Nat.le_refl _, Nat.le_refl _⟩ dL_law_613) (fun H locs hM hS => ?_)
                                    have hM : mm_P G kR 740 M H := hM
                                    refine lv_aload_n hx hb dL_law_616 rfl (lv_at hl 2 rfl) ?_
                                    refine lv_aload_n hx hb dL_law_617 rfl (lv_at hl 0 rfl) ?_
                                    refine lv_iload_n hx hb dL_law_618 rfl (lv_at hl 3 rfl) ?_
                                    refine lv_iconst (v := 1) hx hb dL_law_619 (by decide) ?_
                                    refine lv_iadd hx hb dL_law_620 ?_
                                    refine va_sld hx hb hX hbl hbA hS (vp_in_of2 g150) dL_law_621 ?_
                                    obtain ⟨r154, e153, heq⟩ := bn_of heq
                                    refine mm_ki hS (mm_runV (rest := [.int r152]) C hM hS (tX7_count l G M (xs (v3 + 1).toNatClampNeg) r154 e153) (uL_76 _ (Nat.le_of_ble_eq_true rfl) (Nat.le_of_ble_eq_true rfl)) (mm_recv C hM (kl (rfl : kT 731 = (6, 0))) (ci := 6) rfl (mm_e6 (rfl : kT 731 = (6, 0)))) hl.1 rfl rfl (Nat.le_of_ble_eq_true rfl) ⟨Nat.le_refl _, Nat.le_refl _⟩ dL_law_622) (fun H locs hM hS => ?_)
                                    have hM : mm_P G kR 740 M H := hM
                                    refine lv_icmp_eq (tgt := 992) hx hb dL_law_625 (by decide) (fun c155 => ?_) (fun c155 => ?_)
                                    · have heq := if_t c155 heq
                                      obtain ⟨y156, ey156⟩ : ∃ y : Int32, y = (v3 + 5) := ⟨_, rfl⟩
                                      have heq := lt_to ey156 heq
                                      refine lv_iinc (v := y156) (lv' := [(3, .int y156), (0, .ref b), (1, .ref (mm_lo G + 0)), (2, .ref (mm_lo G + 731))]) hx hb dL_law_992 hl (k := 3) rfl (by rw [ey156]; rfl) (by decide) rfl (fun ls hl => ?_)
                                      refine lv_goto (tgt := 18) hx hb dL_law_995 (by decide) ?_
                                      exact ih _ _ _ _ _ hM hS (lv_sub hl [1, 2, 3, 0] rfl) heq
                                    · have heq := if_f c155 heq
                                      refine lv_iconst (v := 0) hx hb dL_law_628 (by decide) ?_
                                      cases heq
                                  · have heq := if_f c149 heq
                                    by_cases c157 : ((xs v3.toNatClampNeg) &&& 31) = 15
                                    · have heq := if_t c157 heq
                                      refine lv_tableIn (tgt := 630) hx hb dL_law_32 (by rw [c157]; decide) (by rw [c157]; decide) (by rw [c157]; rfl) (by decide) ?_
                                      refine lv_aload_n hx hb dL_law_630 rfl (lv_at hl 1 rfl) ?_
                                      refine lv_aload_n hx hb dL_law_631 rfl (lv_at hl 0 rfl) ?_
                                      refine lv_iload_n hx hb dL_law_632 rfl (lv_at hl 3 rfl) ?_
                                      refine lv_iconst (v := 1) hx hb dL_law_633 (by decide) ?_
                                      refine lv_iadd hx hb dL_law_634 ?_
                                      obtain ⟨g158, heq⟩ := gd_of heq
                                      refine va_sld hx hb hX hbl hbA hS (vp_in_of2 g158) dL_law_635 ?_
                                      refine lv_aload_n hx hb dL_law_636 rfl (lv_at hl 0 rfl) ?_
                                      refine lv_iload_n hx hb dL_law_637 rfl (lv_at hl 3 rfl) ?_
                                      refine lv_iconst (v := 2) hx hb dL_law_638 (by decide) ?_
                                      refine lv_iadd hx hb dL_law_639 ?_
                                      obtain ⟨g159, heq⟩ := gd_of heq
                                      refine va_sld hx hb hX hbl hbA hS (vp_in_of2 g159) dL_law_640 ?_
                                      obtain ⟨r161, e160, heq⟩ := bn_of heq
                                      refine mm_ki hS (mm_runV (rest := []) C hM hS (tX6_pointsOn l G M (xs (v3 + 1).toNatClampNeg) (xs (v3 + 2).toNatClampNeg) r161 e160) (uL_77 _ (Nat.le_of_ble_eq_true rfl) (Nat.le_of_ble_eq_true rfl)) (mm_recv C hM (kl (rfl : kT 0 = (5, 0))) (ci := 5) rfl (mm_e5 (rfl : kT 0 = (5, 0)))) hl.1 rfl rfl (Nat.le_of_ble_eq_true rfl) ⟨Nat.le_refl _, Nat.le_refl _⟩ dL_law_641) (fun H locs hM hS => ?_)
                                      have hM : mm_P G kR 740 M H := hM
                                      refine lv_aload_n hx hb dL_law_644 rfl (lv_at hl 2 rfl) ?_
                                      refine lv_aload_n hx hb dL_law_645 rfl (lv_at hl 0 rfl) ?_
                                      refine lv_iload_n hx hb dL_law_646 rfl (lv_at hl 3 rfl) ?_
                                      refine lv_iconst (v := 1) hx hb dL_law_647 (by decide) ?_
                                      refine lv_iadd hx hb dL_law_648 ?_
                                      refine va_sld hx hb hX hbl hbA hS (vp_in_of2 g158) dL_law_649 ?_
                                      refine lv_aload_n hx hb dL_law_650 rfl (lv_at hl 0 rfl) ?_
                                      refine lv_iload_n hx hb dL_law_651 rfl (lv_at hl 3 rfl) ?_
                                      refine lv_iconst (v := 2) hx hb dL_law_652 (by decide) ?_
                                      refine lv_iadd hx hb dL_law_653 ?_
                                      refine va_sld hx hb hX hbl hbA hS (vp_in_of2 g159) dL_law_654 ?_
                                      obtain ⟨r163, e162, heq⟩ := bn_of heq
                                      refine mm_ki hS (mm_runV (rest := [.int r161]) C hM hS (tX7_pointsOn l G M (xs (v3 + 1).toNatClampNeg) (xs (v3 + 2).toNatClampNeg) r163 e162) (uL_80 _ (Nat.le_of_ble_eq_true rfl) (Nat.le_of_ble_eq_true rfl)) (mm_recv C hM (kl (rfl : kT 731 = (6, 0))) (ci := 6) rfl (mm_e6 (rfl : kT 731 = (6, 0)))) hl.1 rfl rfl (Nat.le_of_ble_eq_true rfl) ⟨Nat.le_refl _, Nat.le_refl _⟩ dL_law_655) (fun H locs hM hS => ?_)
                                      have hM : mm_P G kR 740 M H := hM
                                      refine lv_icmp_eq (tgt := 992) hx hb dL_law_658 (by decide) (fun c164 => ?_) (fun c164 => ?_)
                                      · have heq := if_t c164 heq
                                        obtain ⟨y165, ey165⟩ : ∃ y : Int32, y = (v3 + 5) := ⟨_, rfl⟩
                                        have heq := lt_to ey165 heq
                                        refine lv_iinc (v := y165) (lv' := [(3, .int y165), (0, .ref b), (1, .ref (mm_lo G + 0)), (2, .ref (mm_lo G + 731))]) hx hb dL_law_992 hl (k := 3) rfl (by rw [ey165]; rfl) (by decide) rfl (fun ls hl => ?_)
                                        refine lv_goto (tgt := 18) hx hb dL_law_995 (by decide) ?_
                                        exact ih _ _ _ _ _ hM hS (lv_sub hl [1, 2, 3, 0] rfl) heq
                                      · have heq := if_f c164 heq
                                        refine lv_iconst (v := 0) hx hb dL_law_661 (by decide) ?_
                                        cases heq
                                    · have heq := if_f c157 heq
                                      by_cases c166 : ((xs v3.toNatClampNeg) &&& 31) = 16
                                      · have heq := if_t c166 heq
                                        refine lv_tableIn (tgt := 663) hx hb dL_law_32 (by rw [c166]; decide) (by rw [c166]; decide) (by rw [c166]; rfl) (by decide) ?_
                                        refine lv_aload_n hx hb dL_law_663 rfl (lv_at hl 1 rfl) ?_
                                        refine lv_aload_n hx hb dL_law_664 rfl (lv_at hl 0 rfl) ?_
                                        refine lv_iload_n hx hb dL_law_665 rfl (lv_at hl 3 rfl) ?_
                                        refine lv_iconst (v := 1) hx hb dL_law_666 (by decide) ?_
                                        refine lv_iadd hx hb dL_law_667 ?_
                                        obtain ⟨g167, heq⟩ := gd_of heq
                                        refine va_sld hx hb hX hbl hbA hS (vp_in_of2 g167) dL_law_668 ?_
                                        obtain ⟨r169, M170, e168, heq⟩ := bn2_of heq
                                        refine mm_ki hS (mm_runV (rest := []) C hM hS (tX6_wouldHave l G M (xs (v3 + 1).toNatClampNeg) r169 M170 e168) (uL_81 _ (Nat.le_of_ble_eq_true rfl) (Nat.le_of_ble_eq_true rfl)) (mm_recv C hM (kl (rfl : kT 0 = (5, 0))) (ci := 5) rfl (mm_e5 (rfl : kT 0 = (5, 0)))) hl.1 rfl rfl (Nat.le_of_ble_eq_true rfl) ⟨Nat.le_refl _, Nat.le_refl _⟩ dL_law_669) (fun H locs hM hS => ?_)
                                        have hM : mm_P G kR 740 M170 H := hM
                                        refine lv_aload_n hx hb dL_law_672 rfl (lv_at hl 2 rfl) ?_
                                        refine lv_aload_n hx hb dL_law_673 rfl (lv_at hl 0 rfl) ?_
                                        refine lv_iload_n hx hb dL_law_674 rfl (lv_at hl 3 rfl) ?_
                                        refine lv_iconst (v := 1) hx hb dL_law_675 (by decide) ?_
                                        refine lv_iadd hx hb dL_law_676 ?_
                                        refine va_sld hx hb hX hbl hbA hS (vp_in_of2 g167) dL_law_677 ?_
                                        obtain ⟨r172, M173, e171, heq⟩ := bn2_of heq
                                        refine mm_ki hS (mm_runV (rest := [.int r169]) C hM hS (tX7_wouldHave l G M170 (xs (v3 + 1).toNatClampNeg) r172 M173 e171) (uL_84 _ (Nat.le_of_ble_eq_true rfl) (Nat.le_of_ble_eq_true rfl)) (mm_recv C hM (kl (rfl : kT 731 = (6, 0))) (ci := 6) rfl (mm_e6 (rfl : kT 731 = (6, 0)))) hl.1 rfl rfl (Nat.le_of_ble_eq_true rfl) ⟨Nat.le_refl _, Nat.le_refl _⟩ dL_law_678) (fun H locs hM hS => ?_)
                                        have hM : mm_P G kR 740 M173 H := hM
                                        refine lv_icmp_eq (tgt := 992) hx hb dL_law_681 (by decide) (fun c174 => ?_) (fun c174 => ?_)
                                        · have heq := if_t c174 heq
                                          obtain ⟨y175, ey175⟩ : ∃ y : Int32, y = (v3 + 5) := ⟨_, rfl⟩
                                          have heq := lt_to ey175 heq
                                          refine lv_iinc (v := y175) (lv' := [(3, .int y175), (0, .ref b), (1, .ref (mm_lo G + 0)), (2, .ref (mm_lo G + 731))]) hx hb dL_law_992 hl (k := 3) rfl (by rw [ey175]; rfl) (by decide) rfl (fun ls hl => ?_)
                                          refine lv_goto (tgt := 18) hx hb dL_law_995 (by decide) ?_
                                          exact ih _ _ _ _ _ hM hS (lv_sub hl [1, 2, 3, 0] rfl) heq
                                        · have heq := if_f c174 heq
                                          refine lv_iconst (v := 0) hx hb dL_law_684 (by decide) ?_
                                          cases heq
                                      · have heq := if_f c166 heq
                                        by_cases c176 : ((xs v3.toNatClampNeg) &&& 31) = 17
                                        · have heq := if_t c176 heq
                                          refine lv_tableIn (tgt := 686) hx hb dL_law_32 (by rw [c176]; decide) (by rw [c176]; decide) (by rw [c176]; rfl) (by decide) ?_
                                          refine lv_aload_n hx hb dL_law_686 rfl (lv_at hl 1 rfl) ?_
                                          refine lv_aload_n hx hb dL_law_687 rfl (lv_at hl 0 rfl) ?_
                                          refine lv_iload_n hx hb dL_law_688 rfl (lv_at hl 3 rfl) ?_
                                          refine lv_iconst (v := 1) hx hb dL_law_689 (by decide) ?_
                                          refine lv_iadd hx hb dL_law_690 ?_
                                          obtain ⟨g177, heq⟩ := gd_of heq
                                          refine va_sld hx hb hX hbl hbA hS (vp_in_of2 g177) dL_law_691 ?_
                                          refine lv_aload_n hx hb dL_law_692 rfl (lv_at hl 0 rfl) ?_
                                          refine lv_iload_n hx hb dL_law_693 rfl (lv_at hl 3 rfl) ?_
                                          refine lv_iconst (v := 2) hx hb dL_law_694 (by decide) ?_
                                          refine lv_iadd hx hb dL_law_695 ?_
                                          obtain ⟨g178, heq⟩ := gd_of heq
                                          refine va_sld hx hb hX hbl hbA hS (vp_in_of2 g178) dL_law_696 ?_
                                          obtain ⟨r180, M181, e179, heq⟩ := bn2_of heq
                                          refine mm_ki hS (mm_runV (rest := []) C hM hS (tX6_ifWished l G M (xs (v3 + 1).toNatClampNeg) (xs (v3 + 2).toNatClampNeg) r180 M181 e179) (uL_85 _ (Nat.le_of_ble_eq_true rfl) (Nat.le_of_ble_eq_true rfl)) (mm_recv C hM (kl (rfl : kT 0 = (5, 0))) (ci := 5) rfl (mm_e5 (rfl : kT 0 = (5, 0)))) hl.1 rfl rfl (Nat.le_of_ble_eq_true rfl) ⟨Nat.le_refl _, Nat.le_refl _⟩ dL_law_697) (fun H locs hM hS => ?_)
                                          have hM : mm_P G kR 740 M181 H := hM
                                          refine lv_aload_n hx hb dL_law_700 rfl (lv_at hl 2 rfl) ?_
                                          refine lv_aload_n hx hb dL_law_701 rfl (lv_at hl 0 rfl) ?_
                                          refine lv_iload_n hx hb dL_law_702 rfl (lv_at hl 3 rfl) ?_
                                          refine lv_iconst (v := 1) hx hb dL_law_703 (by decide) ?_
                                          refine lv_iadd hx hb dL_law_704 ?_
                                          refine va_sld hx hb hX hbl hbA hS (vp_in_of2 g177) dL_law_705 ?_
                                          refine lv_aload_n hx hb dL_law_706 rfl (lv_at hl 0 rfl) ?_
                                          refine lv_iload_n hx hb dL_law_707 rfl (lv_at hl 3 rfl) ?_
                                          refine lv_iconst (v := 2) hx hb dL_law_708 (by decide) ?_
                                          refine lv_iadd hx hb dL_law_709 ?_
                                          refine va_sld hx hb hX hbl hbA hS (vp_in_of2 g178) dL_law_710 ?_
                                          obtain ⟨r183, M184, e182, heq⟩ := bn2_of heq
                                          refine mm_ki hS (mm_runV (rest := [.int r180]) C hM hS (tX7_ifWished l G M181 (xs (v3 + 1).toNatClampNeg) (xs (v3 + 2).toNatClampNeg) r183 M184 e182) (uL_88 _ (Nat.le_of_ble_eq_true rfl) (Nat.le_of_ble_eq_true rfl)) (mm_recv C hM (kl (rfl : kT 731 = (6, 0))) (ci := 6) rfl (mm_e6 (rfl : kT 731 = (6, 0)))) hl.1 rfl rfl (Nat.le_of_ble_eq_true rfl) ⟨Nat.le_refl _, Nat.le_refl _⟩ dL_law_711) (fun H locs hM hS => ?_)
                                          have hM : mm_P G kR 740 M184 H := hM
                                          refine lv_icmp_eq (tgt := 992) hx hb dL_law_714 (by decide) (fun c185 => ?_) (fun c185 => ?_)
                                          · have heq := if_t c185 heq
                                            obtain ⟨y186, ey186⟩ : ∃ y : Int32, y = (v3 + 5) := ⟨_, rfl⟩
                                            have heq := lt_to ey186 heq
                                            refine lv_iinc (v := y186) (lv' := [(3, .int y186), (0, .ref b), (1, .ref (mm_lo G + 0)), (2, .ref (mm_lo G + 731))]) hx hb dL_law_992 hl (k := 3) rfl (by rw [ey186]; rfl) (by decide) rfl (fun ls hl => ?_)
                                            refine lv_goto (tgt := 18) hx hb dL_law_995 (by decide) ?_
                                            exact ih _ _ _ _ _ hM hS (lv_sub hl [1, 2, 3, 0] rfl) heq
                                          · have heq := if_f c185 heq
                                            refine lv_iconst (v := 0) hx hb dL_law_717 (by decide) ?_
                                            cases heq
                                        · have heq := if_f c176 heq
                                          by_cases c187 : ((xs v3.toNatClampNeg) &&& 31) = 18
                                          · have heq := if_t c187 heq
                                            refine lv_tableIn (tgt := 719) hx hb dL_law_32 (by rw [c187]; decide) (by rw [c187]; decide) (by rw [c187]; rfl) (by decide) ?_
                                            refine lv_aload_n hx hb dL_law_719 rfl (lv_at hl 1 rfl) ?_
                                            refine lv_aload_n hx hb dL_law_720 rfl (lv_at hl 0 rfl) ?_
                                            refine lv_iload_n hx hb dL_law_721 rfl (lv_at hl 3 rfl) ?_
                                            refine lv_iconst (v := 1) hx hb dL_law_722 (by decide) ?_
                                            refine lv_iadd hx hb dL_law_723 ?_
                                            obtain ⟨g188, heq⟩ := gd_of heq
                                            refine va_sld hx hb hX hbl hbA hS (vp_in_of2 g188) dL_law_724 ?_
                                            obtain ⟨r190, M191, e189, heq⟩ := bn2_of heq
                                            refine mm_ki hS (mm_runV (rest := []) C hM hS (tX6_firstDay l G M (xs (v3 + 1).toNatClampNeg) r190 M191 e189) (uL_89 _ (Nat.le_of_ble_eq_true rfl) (Nat.le_of_ble_eq_true rfl)) (mm_recv C hM (kl (rfl : kT 0 = (5, 0))) (ci := 5) rfl (mm_e5 (rfl : kT 0 = (5, 0)))) hl.1 rfl rfl (Nat.le_of_ble_eq_true rfl) ⟨Nat.le_refl _, Nat.le_refl _⟩ dL_law_725) (fun H locs hM hS => ?_)
                                            have hM : mm_P G kR 740 M191 H := hM
                                            refine lv_aload_n hx hb dL_law_728 rfl (lv_at hl 2 rfl) ?_
                                            refine lv_aload_n hx hb dL_law_729 rfl (lv_at hl 0 rfl) ?_
                                            refine lv_iload_n hx hb dL_law_730 rfl (lv_at hl 3 rfl) ?_
                                            refine lv_iconst (v := 1) hx hb dL_law_731 (by decide) ?_
                                            refine lv_iadd hx hb dL_law_732 ?_
                                            refine va_sld hx hb hX hbl hbA hS (vp_in_of2 g188) dL_law_733 ?_
                                            obtain ⟨r193, M194, e192, heq⟩ := bn2_of heq
                                            refine mm_ki hS (mm_runV (rest := [.int r190]) C hM hS (tX7_firstDay l G M191 (xs (v3 + 1).toNatClampNeg) r193 M194 e192) (uL_92 _ (Nat.le_of_ble_eq_true rfl) (Nat.le_of_ble_eq_true rfl)) (mm_recv C hM (kl (rfl : kT 731 = (6, 0))) (ci := 6) rfl (mm_e6 (rfl : kT 731 = (6, 0)))) hl.1 rfl rfl (Nat.le_of_ble_eq_true rfl) ⟨Nat.le_refl _, Nat.le_refl _⟩ dL_law_734) (fun H locs hM hS => ?_)
                                            have hM : mm_P G kR 740 M194 H := hM
                                            refine lv_icmp_eq (tgt := 992) hx hb dL_law_737 (by decide) (fun c195 => ?_) (fun c195 => ?_)
                                            · have heq := if_t c195 heq
                                              obtain ⟨y196, ey196⟩ : ∃ y : Int32, y = (v3 + 5) := ⟨_, rfl⟩
                                              have heq := lt_to ey196 heq
                                              refine lv_iinc (v := y196) (lv' := [(3, .int y196), (0, .ref b), (1, .ref (mm_lo G + 0)), (2, .ref (mm_lo G + 731))]) hx hb dL_law_992 hl (k := 3) rfl (by rw [ey196]; rfl) (by decide) rfl (fun ls hl => ?_)
                                              refine lv_goto (tgt := 18) hx hb dL_law_995 (by decide) ?_
                                              exact ih _ _ _ _ _ hM hS (lv_sub hl [1, 2, 3, 0] rfl) heq
                                            · have heq := if_f c195 heq
                                              refine lv_iconst (v := 0) hx hb dL_law_740 (by decide) ?_
                                              cases heq
                                          · have heq := if_f c187 heq
                                            by_cases c197 : ((xs v3.toNatClampNeg) &&& 31) = 19
                                            · have heq := if_t c197 heq
                                              refine lv_tableIn (tgt := 742) hx hb dL_law_32 (by rw [c197]; decide) (by rw [c197]; decide) (by rw [c197]; rfl) (by decide) ?_
                                              refine lv_aload_n hx hb dL_law_742 rfl (lv_at hl 1 rfl) ?_
                                              refine lv_aload_n hx hb dL_law_743 rfl (lv_at hl 0 rfl) ?_
                                              refine lv_iload_n hx hb dL_law_744 rfl (lv_at hl 3 rfl) ?_
                                              refine lv_iconst (v := 1) hx hb dL_law_745 (by decide) ?_
                                              refine lv_iadd hx hb dL_law_746 ?_
                                              obtain ⟨g198, heq⟩ := gd_of heq
                                              refine va_sld hx hb hX hbl hbA hS (vp_in_of2 g198) dL_law_747 ?_
                                              refine lv_aload_n hx hb dL_law_748 rfl (lv_at hl 0 rfl) ?_
                                              refine lv_iload_n hx hb dL_law_749 rfl (lv_at hl 3 rfl) ?_
                                              refine lv_iconst (v := 2) hx hb dL_law_750 (by decide) ?_
                                              refine lv_iadd hx hb dL_law_751 ?_
                                              obtain ⟨g199, heq⟩ := gd_of heq
                                              refine va_sld hx hb hX hbl hbA hS (vp_in_of2 g199) dL_law_752 ?_
                                              obtain ⟨r201, M202, e200, heq⟩ := bn2_of heq
                                              refine mm_ki hS (mm_runV (rest := []) C hM hS (tX6_daysOf l G M (xs (v3 + 1).toNatClampNeg) (xs (v3 + 2).toNatClampNeg) r201 M202 e200) (uL_93 _ (Nat.le_of_ble_eq_true rfl) (Nat.le_of_ble_eq_true rfl)) (mm_recv C hM (kl (rfl : kT 0 = (5, 0))) (ci := 5) rfl (mm_e5 (rfl : kT 0 = (5, 0)))) hl.1 rfl rfl (Nat.le_of_ble_eq_true rfl) ⟨Nat.le_refl _, Nat.le_refl _⟩ dL_law_753) (fun H locs hM hS => ?_)
                                              have hM : mm_P G kR 740 M202 H := hM
                                              refine lv_aload_n hx hb dL_law_756 rfl (lv_at hl 2 rfl) ?_
                                              refine lv_aload_n hx hb dL_law_757 rfl (lv_at hl 0 rfl) ?_
                                              refine lv_iload_n hx hb dL_law_758 rfl (lv_at hl 3 rfl) ?_
                                              refine lv_iconst (v := 1) hx hb dL_law_759 (by decide) ?_
                                              refine lv_iadd hx hb dL_law_760 ?_
                                              refine va_sld hx hb hX hbl hbA hS (vp_in_of2 g198) dL_law_761 ?_
                                              refine lv_aload_n hx hb dL_law_762 rfl (lv_at hl 0 rfl) ?_
                                              refine lv_iload_n hx hb dL_law_763 rfl (lv_at hl 3 rfl) ?_
                                              refine lv_iconst (v := 2) hx hb dL_law_764 (by decide) ?_
                                              refine lv_iadd hx hb dL_law_765 ?_
                                              refine va_sld hx hb hX hbl hbA hS (vp_in_of2 g199) dL_law_766 ?_
                                              obtain ⟨r204, M205, e203, heq⟩ := bn2_of heq
                                              refine mm_ki hS (mm_runV (rest := [.int r201]) C hM hS (tX7_daysOf l G M202 (xs (v3 + 1).toNatClampNeg) (xs (v3 + 2).toNatClampNeg) r204 M205 e203) (uL_96 _ (Nat.le_of_ble_eq_true rfl) (Nat.le_of_ble_eq_true rfl)) (mm_recv C hM (kl (rfl : kT 731 = (6, 0))) (ci := 6) rfl (mm_e6 (rfl : kT 731 = (6, 0)))) hl.1 rfl rfl (Nat.le_of_ble_eq_true rfl) ⟨Nat.le_refl _, Nat.le_refl _⟩ dL_law_767) (fun H locs hM hS => ?_)
                                              have hM : mm_P G kR 740 M205 H := hM
                                              refine lv_icmp_eq (tgt := 992) hx hb dL_law_770 (by decide) (fun c206 => ?_) (fun c206 => ?_)
                                              · have heq := if_t c206 heq
                                                obtain ⟨y207, ey207⟩ : ∃ y : Int32, y = (v3 + 5) := ⟨_, rfl⟩
                                                have heq := lt_to ey207 heq
                                                refine lv_iinc (v := y207) (lv' := [(3, .int y207), (0, .ref b), (1, .ref (mm_lo G + 0)), (2, .ref (mm_lo G + 731))]) hx hb dL_law_992 hl (k := 3) rfl (by rw [ey207]; rfl) (by decide) rfl (fun ls hl => ?_)
                                                refine lv_goto (tgt := 18) hx hb dL_law_995 (by decide) ?_
                                                exact ih _ _ _ _ _ hM hS (lv_sub hl [1, 2, 3, 0] rfl) heq
                                              · have heq := if_f c206 heq
                                                refine lv_iconst (v := 0) hx hb dL_law_773 (by decide) ?_
                                                cases heq
                                            · have heq := if_f c197 heq
                                              by_cases c208 : ((xs v3.toNatClampNeg) &&& 31) = 20
                                              · have heq := if_t c208 heq
                                                refine lv_tableIn (tgt := 775) hx hb dL_law_32 (by rw [c208]; decide) (by rw [c208]; decide) (by rw [c208]; rfl) (by decide) ?_
                                                refine lv_aload_n hx hb dL_law_775 rfl (lv_at hl 1 rfl) ?_
                                                refine lv_aload_n hx hb dL_law_776 rfl (lv_at hl 0 rfl) ?_
                                                refine lv_iload_n hx hb dL_law_777 rfl (lv_at hl 3 rfl) ?_
                                                refine lv_iconst (v := 1) hx hb dL_law_778 (by decide) ?_
                                                refine lv_iadd hx hb dL_law_779 ?_
                                                obtain ⟨g209, heq⟩ := gd_of heq
                                                refine va_sld hx hb hX hbl hbA hS (vp_in_of2 g209) dL_law_780 ?_
                                                refine lv_aload_n hx hb dL_law_781 rfl (lv_at hl 0 rfl) ?_
                                                refine lv_iload_n hx hb dL_law_782 rfl (lv_at hl 3 rfl) ?_
                                                refine lv_iconst (v := 2) hx hb dL_law_783 (by decide) ?_
                                                refine lv_iadd hx hb dL_law_784 ?_
                                                obtain ⟨g210, heq⟩ := gd_of heq
                                                refine va_sld hx hb hX hbl hbA hS (vp_in_of2 g210) dL_law_785 ?_
                                                obtain ⟨r212, M213, e211, heq⟩ := bn2_of heq
                                                refine mm_ki hS (mm_runV (rest := []) C hM hS (tX6_luckySeed l G M (xs (v3 + 1).toNatClampNeg) (xs (v3 + 2).toNatClampNeg) r212 M213 e211) (uL_97 _ (Nat.le_of_ble_eq_true rfl) (Nat.le_of_ble_eq_true rfl)) (mm_recv C hM (kl (rfl : kT 0 = (5, 0))) (ci := 5) rfl (mm_e5 (rfl : kT 0 = (5, 0)))) hl.1 rfl rfl (Nat.le_of_ble_eq_true rfl) ⟨Nat.le_refl _, Nat.le_refl _⟩ dL_law_786) (fun H locs hM hS => ?_)
                                                have hM : mm_P G kR 740 M213 H := hM
                                                refine lv_aload_n hx hb dL_law_789 rfl (lv_at hl 2 rfl) ?_
                                                refine lv_aload_n hx hb dL_law_790 rfl (lv_at hl 0 rfl) ?_
                                                refine lv_iload_n hx hb dL_law_791 rfl (lv_at hl 3 rfl) ?_
                                                refine lv_iconst (v := 1) hx hb dL_law_792 (by decide) ?_
                                                refine lv_iadd hx hb dL_law_793 ?_
                                                refine va_sld hx hb hX hbl hbA hS (vp_in_of2 g209) dL_law_794 ?_
                                                refine lv_aload_n hx hb dL_law_795 rfl (lv_at hl 0 rfl) ?_
                                                refine lv_iload_n hx hb dL_law_796 rfl (lv_at hl 3 rfl) ?_
                                                refine lv_iconst (v := 2) hx hb dL_law_797 (by decide) ?_
                                                refine lv_iadd hx hb dL_law_798 ?_
                                                refine va_sld hx hb hX hbl hbA hS (vp_in_of2 g210) dL_law_799 ?_
                                                obtain ⟨r215, M216, e214, heq⟩ := bn2_of heq
                                                refine mm_ki hS (mm_runV (rest := [.int r212]) C hM hS (tX7_luckySeed l G M213 (xs (v3 + 1).toNatClampNeg) (xs (v3 + 2).toNatClampNeg) r215 M216 e214) (uL_100 _ (Nat.le_of_ble_eq_true rfl) (Nat.le_of_ble_eq_true rfl)) (mm_recv C hM (kl (rfl : kT 731 = (6, 0))) (ci := 6) rfl (mm_e6 (rfl : kT 731 = (6, 0)))) hl.1 rfl rfl (Nat.le_of_ble_eq_true rfl) ⟨Nat.le_refl _, Nat.le_refl _⟩ dL_law_800) (fun H locs hM hS => ?_)
                                                have hM : mm_P G kR 740 M216 H := hM
                                                refine lv_icmp_eq (tgt := 992) hx hb dL_law_803 (by decide) (fun c217 => ?_) (fun c217 => ?_)
                                                · have heq := if_t c217 heq
                                                  obtain ⟨y218, ey218⟩ : ∃ y : Int32, y = (v3 + 5) := ⟨_, rfl⟩
                                                  have heq := lt_to ey218 heq
                                                  refine lv_iinc (v := y218) (lv' := [(3, .int y218), (0, .ref b), (1, .ref (mm_lo G + 0)), (2, .ref (mm_lo G + 731))]) hx hb dL_law_992 hl (k := 3) rfl (by rw [ey218]; rfl) (by decide) rfl (fun ls hl => ?_)
                                                  refine lv_goto (tgt := 18) hx hb dL_law_995 (by decide) ?_
                                                  exact ih _ _ _ _ _ hM hS (lv_sub hl [1, 2, 3, 0] rfl) heq
                                                · have heq := if_f c217 heq
                                                  refine lv_iconst (v := 0) hx hb dL_law_806 (by decide) ?_
                                                  cases heq
                                              · have heq := if_f c208 heq
                                                by_cases c219 : ((xs v3.toNatClampNeg) &&& 31) = 21
                                                · have heq := if_t c219 heq
                                                  refine lv_tableIn (tgt := 808) hx hb dL_law_32 (by rw [c219]; decide) (by rw [c219]; decide) (by rw [c219]; rfl) (by decide) ?_
                                                  refine lv_aload_n hx hb dL_law_808 rfl (lv_at hl 1 rfl) ?_
                                                  refine lv_aload_n hx hb dL_law_809 rfl (lv_at hl 0 rfl) ?_
                                                  refine lv_iload_n hx hb dL_law_810 rfl (lv_at hl 3 rfl) ?_
                                                  refine lv_iconst (v := 1) hx hb dL_law_811 (by decide) ?_
                                                  refine lv_iadd hx hb dL_law_812 ?_
                                                  obtain ⟨g220, heq⟩ := gd_of heq
                                                  refine va_sld hx hb hX hbl hbA hS (vp_in_of2 g220) dL_law_813 ?_
                                                  refine lv_aload_n hx hb dL_law_814 rfl (lv_at hl 0 rfl) ?_
                                                  refine lv_iload_n hx hb dL_law_815 rfl (lv_at hl 3 rfl) ?_
                                                  refine lv_iconst (v := 2) hx hb dL_law_816 (by decide) ?_
                                                  refine lv_iadd hx hb dL_law_817 ?_
                                                  obtain ⟨g221, heq⟩ := gd_of heq
                                                  refine va_sld hx hb hX hbl hbA hS (vp_in_of2 g221) dL_law_818 ?_
                                                  obtain ⟨r223, e222, heq⟩ := bn_of heq
                                                  refine mm_ki hS (mm_runV (rest := []) C hM hS (tX6_whyNot l G M (xs (v3 + 1).toNatClampNeg) (xs (v3 + 2).toNatClampNeg) r223 e222) (uL_101 _ (Nat.le_of_ble_eq_true rfl) (Nat.le_of_ble_eq_true rfl)) (mm_recv C hM (kl (rfl : kT 0 = (5, 0))) (ci := 5) rfl (mm_e5 (rfl : kT 0 = (5, 0)))) hl.1 rfl rfl (Nat.le_of_ble_eq_true rfl) ⟨Nat.le_refl _, Nat.le_refl _⟩ dL_law_819) (fun H locs hM hS => ?_)
                                                  have hM : mm_P G kR 740 M H := hM
                                                  refine lv_aload_n hx hb dL_law_822 rfl (lv_at hl 2 rfl) ?_
                                                  refine lv_aload_n hx hb dL_law_823 rfl (lv_at hl 0 rfl) ?_
                                                  refine lv_iload_n hx hb dL_law_824 rfl (lv_at hl 3 rfl) ?_
                                                  refine lv_iconst (v := 1) hx hb dL_law_825 (by decide) ?_
                                                  refine lv_iadd hx hb dL_law_826 ?_
                                                  refine va_sld hx hb hX hbl hbA hS (vp_in_of2 g220) dL_law_827 ?_
                                                  refine lv_aload_n hx hb dL_law_828 rfl (lv_at hl 0 rfl) ?_
                                                  refine lv_iload_n hx hb dL_law_829 rfl (lv_at hl 3 rfl) ?_
                                                  refine lv_iconst (v := 2) hx hb dL_law_830 (by decide) ?_
                                                  refine lv_iadd hx hb dL_law_831 ?_
                                                  refine va_sld hx hb hX hbl hbA hS (vp_in_of2 g221) dL_law_832 ?_
                                                  obtain ⟨r225, e224, heq⟩ := bn_of heq
                                                  refine mm_ki hS (mm_runV (rest := [.int r223]) C hM hS (tX7_whyNot l G M (xs (v3 + 1).toNatClampNeg) (xs (v3 + 2).toNatClampNeg) r225 e224) (uL_104 _ (Nat.le_of_ble_eq_true rfl) (Nat.le_of_ble_eq_true rfl)) (mm_recv C hM (kl (rfl : kT 731 = (6, 0))) (ci := 6) rfl (mm_e6 (rfl : kT 731 = (6, 0)))) hl.1 rfl rfl (Nat.le_of_ble_eq_true rfl) ⟨Nat.le_refl _, Nat.le_refl _⟩ dL_law_833) (fun H locs hM hS => ?_)
                                                  have hM : mm_P G kR 740 M H := hM
                                                  refine lv_icmp_eq (tgt := 992) hx hb dL_law_836 (by decide) (fun c226 => ?_) (fun c226 => ?_)
                                                  · have heq := if_t c226 heq
                                                    obtain ⟨y227, ey227⟩ : ∃ y : Int32, y = (v3 + 5) := ⟨_, rfl⟩
                                                    have heq := lt_to ey227 heq
                                                    refine lv_iinc (v := y227) (lv' := [(3, .int y227), (0, .ref b), (1, .ref (mm_lo G + 0)), (2, .ref (mm_lo G + 731))]) hx hb dL_law_992 hl (k := 3) rfl (by rw [ey227]; rfl) (by decide) rfl (fun ls hl => ?_)
                                                    refine lv_goto (tgt := 18) hx hb dL_law_995 (by decide) ?_
                                                    exact ih _ _ _ _ _ hM hS (lv_sub hl [1, 2, 3, 0] rfl) heq
                                                  · have heq := if_f c226 heq
                                                    refine lv_iconst (v := 0) hx hb dL_law_839 (by decide) ?_
                                                    cases heq
                                                · have heq := if_f c219 heq
                                                  by_cases c228 : ((xs v3.toNatClampNeg) &&& 31) = 22
                                                  · have heq := if_t c228 heq
                                                    refine lv_tableIn (tgt := 841) hx hb dL_law_32 (by rw [c228]; decide) (by rw [c228]; decide) (by rw [c228]; rfl) (by decide) ?_
                                                    refine lv_aload_n hx hb dL_law_841 rfl (lv_at hl 1 rfl) ?_
                                                    refine lv_aload_n hx hb dL_law_842 rfl (lv_at hl 0 rfl) ?_
                                                    refine lv_iload_n hx hb dL_law_843 rfl (lv_at hl 3 rfl) ?_
                                                    refine lv_iconst (v := 1) hx hb dL_law_844 (by decide) ?_
                                                    refine lv_iadd hx hb dL_law_845 ?_
                                                    obtain ⟨g229, heq⟩ := gd_of heq
                                                    refine va_sld hx hb hX hbl hbA hS (vp_in_of2 g229) dL_law_846 ?_
                                                    refine lv_i2l hx hb dL_law_847 rfl ?_
                                                    refine lv_bipush (v := 32) hx hb dL_law_848 (by decide) ?_
                                                    refine lv_lshl hx hb dL_law_850 rfl ?_
                                                    refine lv_aload_n hx hb dL_law_851 rfl (lv_at hl 0 rfl) ?_
                                                    refine lv_iload_n hx hb dL_law_852 rfl (lv_at hl 3 rfl) ?_
                                                    refine lv_iconst (v := 2) hx hb dL_law_853 (by decide) ?_
                                                    refine lv_iadd hx hb dL_law_854 ?_
                                                    obtain ⟨g230, heq⟩ := gd_of heq
                                                    refine va_sld hx hb hX hbl hbA hS (vp_in_of2 g230) dL_law_855 ?_
                                                    refine lv_i2l hx hb dL_law_856 rfl ?_
                                                    refine mm_ldc2 C kL_105 dL_law_857 ?_
                                                    refine lv_land hx hb dL_law_860 ?_
                                                    refine lv_lor hx hb dL_law_861 ?_
                                                    obtain ⟨r232, M233, e231, heq⟩ := bn2_of heq
                                                    refine mm_ki hS (mm_runV (rest := []) C hM hS (tX6_put l G M ((((xs (v3 + 1).toNatClampNeg).toInt64) <<< ((32 : Int32).toInt64 &&& 63)) ||| (((xs (v3 + 2).toNatClampNeg).toInt64) &&& (4294967295 : Int64))) r232 M233 e231) (uL_107 _ (Nat.le_of_ble_eq_true rfl) (Nat.le_of_ble_eq_true rfl)) (mm_recv C hM (kl (rfl : kT 0 = (5, 0))) (ci := 5) rfl (mm_e5 (rfl : kT 0 = (5, 0)))) hl.1 rfl rfl (Nat.le_of_ble_eq_true rfl) ⟨Nat.le_refl _, Nat.le_refl _⟩ dL_law_862) (fun H locs hM hS => ?_)
                                                    have hM : mm_P G kR 740 M233 H := hM
                                                    refine lv_aload_n hx hb dL_law_865 rfl (lv_at hl 2 rfl) ?_
                                                    refine lv_aload_n hx hb dL_law_866 rfl (lv_at hl 0 rfl) ?_
                                                    refine lv_iload_n hx hb dL_law_867 rfl (lv_at hl 3 rfl) ?_
                                                    refine lv_iconst (v := 1) hx hb dL_law_868 (by decide) ?_
                                                    refine lv_iadd hx hb dL_law_869 ?_
                                                    refine va_sld hx hb hX hbl hbA hS (vp_in_of2 g229) dL_law_870 ?_
                                                    refine lv_i2l hx hb dL_law_871 rfl ?_
                                                    refine lv_bipush (v := 32) hx hb dL_law_872 (by decide) ?_
                                                    refine lv_lshl hx hb dL_law_874 rfl ?_
                                                    refine lv_aload_n hx hb dL_law_875 rfl (lv_at hl 0 rfl) ?_
                                                    refine lv_iload_n hx hb dL_law_876 rfl (lv_at hl 3 rfl) ?_
                                                    refine lv_iconst (v := 2) hx hb dL_law_877 (by decide) ?_
                                                    refine lv_iadd hx hb dL_law_878 ?_
                                                    refine va_sld hx hb hX hbl hbA hS (vp_in_of2 g230) dL_law_879 ?_
                                                    refine lv_i2l hx hb dL_law_880 rfl ?_
                                                    refine mm_ldc2 C kL_105 dL_law_881 ?_
                                                    refine lv_land hx hb dL_law_884 ?_
                                                    refine lv_lor hx hb dL_law_885 ?_
                                                    obtain ⟨r235, M236, e234, heq⟩ := bn2_of heq
                                                    refine mm_ki hS (mm_runV (rest := [.int r232]) C hM hS (tX7_put_ l G M233 ((((xs (v3 + 1).toNatClampNeg).toInt64) <<< ((32 : Int32).toInt64 &&& 63)) ||| (((xs (v3 + 2).toNatClampNeg).toInt64) &&& (4294967295 : Int64))) r235 M236 e234) (uL_111 _ (Nat.le_of_ble_eq_true rfl) (Nat.le_of_ble_eq_true rfl)) (mm_recv C hM (kl (rfl : kT 731 = (6, 0))) (ci := 6) rfl (mm_e6 (rfl : kT 731 = (6, 0)))) hl.1 rfl rfl (Nat.le_of_ble_eq_true rfl) ⟨Nat.le_refl _, Nat.le_refl _⟩ dL_law_886) (fun H locs hM hS => ?_)
                                                    have hM : mm_P G kR 740 M236 H := hM
                                                    refine lv_icmp_eq (tgt := 992) hx hb dL_law_889 (by decide) (fun c237 => ?_) (fun c237 => ?_)
                                                    · have heq := if_t c237 heq
                                                      obtain ⟨y238, ey238⟩ : ∃ y : Int32, y = (v3 + 5) := ⟨_, rfl⟩
                                                      have heq := lt_to ey238 heq
                                                      refine lv_iinc (v := y238) (lv' := [(3, .int y238), (0, .ref b), (1, .ref (mm_lo G + 0)), (2, .ref (mm_lo G + 731))]) hx hb dL_law_992 hl (k := 3) rfl (by rw [ey238]; rfl) (by decide) rfl (fun ls hl => ?_)
                                                      refine lv_goto (tgt := 18) hx hb dL_law_995 (by decide) ?_
                                                      exact ih _ _ _ _ _ hM hS (lv_sub hl [1, 2, 3, 0] rfl) heq
                                                    · have heq := if_f c237 heq
                                                      refine lv_iconst (v := 0) hx hb dL_law_892 (by decide) ?_
                                                      cases heq
                                                  · have heq := if_f c228 heq
                                                    by_cases c239 : ((xs v3.toNatClampNeg) &&& 31) = 23
                                                    · have heq := if_t c239 heq
                                                      refine lv_tableIn (tgt := 894) hx hb dL_law_32 (by rw [c239]; decide) (by rw [c239]; decide) (by rw [c239]; rfl) (by decide) ?_
                                                      refine lv_aload_n hx hb dL_law_894 rfl (lv_at hl 1 rfl) ?_
                                                      obtain ⟨r241, M242, e240, heq⟩ := bn2_of heq
                                                      refine mm_ki hS (mm_runV (rest := []) C hM hS (tX6_wipe l G M r241 M242 e240) (uL_112 _ (Nat.le_of_ble_eq_true rfl) (Nat.le_of_ble_eq_true rfl)) (mm_recv C hM (kl (rfl : kT 0 = (5, 0))) (ci := 5) rfl (mm_e5 (rfl : kT 0 = (5, 0)))) hl.1 rfl rfl (Nat.le_of_ble_eq_true rfl) ⟨Nat.le_refl _, Nat.le_refl _⟩ dL_law_895) (fun H locs hM hS => ?_)
                                                      have hM : mm_P G kR 740 M242 H := hM
                                                      refine lv_aload_n hx hb dL_law_898 rfl (lv_at hl 2 rfl) ?_
                                                      obtain ⟨r244, M245, e243, heq⟩ := bn2_of heq
                                                      refine mm_ki hS (mm_runV (rest := [.int r241]) C hM hS (tX7_wipe l G M242 r244 M245 e243) (uL_116 _ (Nat.le_of_ble_eq_true rfl) (Nat.le_of_ble_eq_true rfl)) (mm_recv C hM (kl (rfl : kT 731 = (6, 0))) (ci := 6) rfl (mm_e6 (rfl : kT 731 = (6, 0)))) hl.1 rfl rfl (Nat.le_of_ble_eq_true rfl) ⟨Nat.le_refl _, Nat.le_refl _⟩ dL_law_899) (fun H locs hM hS => ?_)
                                                      have hM : mm_P G kR 740 M245 H := hM
                                                      refine lv_icmp_eq (tgt := 992) hx hb dL_law_902 (by decide) (fun c246 => ?_) (fun c246 => ?_)
                                                      · have heq := if_t c246 heq
                                                        obtain ⟨y247, ey247⟩ : ∃ y : Int32, y = (v3 + 5) := ⟨_, rfl⟩
                                                        have heq := lt_to ey247 heq
                                                        refine lv_iinc (v := y247) (lv' := [(3, .int y247), (0, .ref b), (1, .ref (mm_lo G + 0)), (2, .ref (mm_lo G + 731))]) hx hb dL_law_992 hl (k := 3) rfl (by rw [ey247]; rfl) (by decide) rfl (fun ls hl => ?_)
                                                        refine lv_goto (tgt := 18) hx hb dL_law_995 (by decide) ?_
                                                        exact ih _ _ _ _ _ hM hS (lv_sub hl [1, 2, 3, 0] rfl) heq
                                                      · have heq := if_f c246 heq
                                                        refine lv_iconst (v := 0) hx hb dL_law_905 (by decide) ?_
                                                        cases heq
                                                    · have heq := if_f c239 heq
                                                      by_cases c248 : ((xs v3.toNatClampNeg) &&& 31) = 24
                                                      · have heq := if_t c248 heq
                                                        refine lv_tableIn (tgt := 907) hx hb dL_law_32 (by rw [c248]; decide) (by rw [c248]; decide) (by rw [c248]; rfl) (by decide) ?_
                                                        refine lv_aload_n hx hb dL_law_907 rfl (lv_at hl 1 rfl) ?_
                                                        obtain ⟨r250, e249, heq⟩ := bn_of heq
                                                        refine mm_ki hS (mm_runV (rest := []) C hM hS (tX6_fault l G M r250 e249) (uL_117 _ (Nat.le_of_ble_eq_true rfl) (Nat.le_of_ble_eq_true rfl)) (mm_recv C hM (kl (rfl : kT 0 = (5, 0))) (ci := 5) rfl (mm_e5 (rfl : kT 0 = (5, 0)))) hl.1 rfl rfl (Nat.le_of_ble_eq_true rfl) ⟨Nat.le_refl _, Nat.le_refl _⟩ dL_law_908) (fun H locs hM hS => ?_)
                                                        have hM : mm_P G kR 740 M H := hM
                                                        refine lv_aload_n hx hb dL_law_911 rfl (lv_at hl 2 rfl) ?_
                                                        obtain ⟨r252, M253, e251, heq⟩ := bn2_of heq
                                                        refine mm_ki hS (mm_runV (rest := [.int r250]) C hM hS (tX7_fault l G M r252 M253 e251) (uL_120 _ (Nat.le_of_ble_eq_true rfl) (Nat.le_of_ble_eq_true rfl)) (mm_recv C hM (kl (rfl : kT 731 = (6, 0))) (ci := 6) rfl (mm_e6 (rfl : kT 731 = (6, 0)))) hl.1 rfl rfl (Nat.le_of_ble_eq_true rfl) ⟨Nat.le_refl _, Nat.le_refl _⟩ dL_law_912) (fun H locs hM hS => ?_)
                                                        have hM : mm_P G kR 740 M253 H := hM
                                                        refine lv_icmp_eq (tgt := 992) hx hb dL_law_915 (by decide) (fun c254 => ?_) (fun c254 => ?_)
                                                        · have heq := if_t c254 heq
                                                          obtain ⟨y255, ey255⟩ : ∃ y : Int32, y = (v3 + 5) := ⟨_, rfl⟩
                                                          have heq := lt_to ey255 heq
                                                          refine lv_iinc (v := y255) (lv' := [(3, .int y255), (0, .ref b), (1, .ref (mm_lo G + 0)), (2, .ref (mm_lo G + 731))]) hx hb dL_law_992 hl (k := 3) rfl (by rw [ey255]; rfl) (by decide) rfl (fun ls hl => ?_)
                                                          refine lv_goto (tgt := 18) hx hb dL_law_995 (by decide) ?_
                                                          exact ih _ _ _ _ _ hM hS (lv_sub hl [1, 2, 3, 0] rfl) heq
                                                        · have heq := if_f c254 heq
                                                          refine lv_iconst (v := 0) hx hb dL_law_918 (by decide) ?_
                                                          cases heq
                                                      · have heq := if_f c248 heq
                                                        by_cases c256 : ((xs v3.toNatClampNeg) &&& 31) = 25
                                                        · have heq := if_t c256 heq
                                                          refine lv_tableIn (tgt := 920) hx hb dL_law_32 (by rw [c256]; decide) (by rw [c256]; decide) (by rw [c256]; rfl) (by decide) ?_
                                                          refine lv_aload_n hx hb dL_law_920 rfl (lv_at hl 1 rfl) ?_
                                                          obtain ⟨r258, M259, e257, heq⟩ := bn2_of heq
                                                          refine mm_ki hS (mm_runV (rest := []) C hM hS (tX6_carryOut l G M r258 M259 e257) (uL_121 _ (Nat.le_of_ble_eq_true rfl) (Nat.le_of_ble_eq_true rfl)) (mm_recv C hM (kl (rfl : kT 0 = (5, 0))) (ci := 5) rfl (mm_e5 (rfl : kT 0 = (5, 0)))) hl.1 rfl rfl (Nat.le_of_ble_eq_true rfl) ⟨Nat.le_refl _, Nat.le_refl _⟩ dL_law_921) (fun H locs hM hS => ?_)
                                                          have hM : mm_P G kR 740 M259 H := hM
                                                          refine lv_aload_n hx hb dL_law_924 rfl (lv_at hl 2 rfl) ?_
                                                          obtain ⟨r261, M262, e260, heq⟩ := bn2_of heq
                                                          refine mm_ki hS (mm_runV (rest := [.int r258]) C hM hS (tX7_carryOut l G M259 r261 M262 e260) (uL_124 _ (Nat.le_of_ble_eq_true rfl) (Nat.le_of_ble_eq_true rfl)) (mm_recv C hM (kl (rfl : kT 731 = (6, 0))) (ci := 6) rfl (mm_e6 (rfl : kT 731 = (6, 0)))) hl.1 rfl rfl (Nat.le_of_ble_eq_true rfl) ⟨Nat.le_refl _, Nat.le_refl _⟩ dL_law_925) (fun H locs hM hS => ?_)
                                                          have hM : mm_P G kR 740 M262 H := hM
                                                          refine lv_icmp_eq (tgt := 992) hx hb dL_law_928 (by decide) (fun c263 => ?_) (fun c263 => ?_)
                                                          · have heq := if_t c263 heq
                                                            obtain ⟨y264, ey264⟩ : ∃ y : Int32, y = (v3 + 5) := ⟨_, rfl⟩
                                                            have heq := lt_to ey264 heq
                                                            refine lv_iinc (v := y264) (lv' := [(3, .int y264), (0, .ref b), (1, .ref (mm_lo G + 0)), (2, .ref (mm_lo G + 731))]) hx hb dL_law_992 hl (k := 3) rfl (by rw [ey264]; rfl) (by decide) rfl (fun ls hl => ?_)
                                                            refine lv_goto (tgt := 18) hx hb dL_law_995 (by decide) ?_
                                                            exact ih _ _ _ _ _ hM hS (lv_sub hl [1, 2, 3, 0] rfl) heq
                                                          · have heq := if_f c263 heq
                                                            refine lv_iconst (v := 0) hx hb dL_law_931 (by decide) ?_
                                                            cases heq
                                                        · have heq := if_f c256 heq
                                                          by_cases c265 : ((xs v3.toNatClampNeg) &&& 31) = 26
                                                          · have heq := if_t c265 heq
                                                            refine lv_tableIn (tgt := 933) hx hb dL_law_32 (by rw [c265]; decide) (by rw [c265]; decide) (by rw [c265]; rfl) (by decide) ?_
                                                            refine lv_aload_n hx hb dL_law_933 rfl (lv_at hl 1 rfl) ?_
                                                            obtain ⟨r267, M268, e266, heq⟩ := bn2_of heq
                                                            refine mm_ki hS (mm_runV (rest := []) C hM hS (tX6_undo l G M r267 M268 e266) (uL_125 _ (Nat.le_of_ble_eq_true rfl) (Nat.le_of_ble_eq_true rfl)) (mm_recv C hM (kl (rfl : kT 0 = (5, 0))) (ci := 5) rfl (mm_e5 (rfl : kT 0 = (5, 0)))) hl.1 rfl rfl (Nat.le_of_ble_eq_true rfl) ⟨Nat.le_refl _, Nat.le_refl _⟩ dL_law_934) (fun H locs hM hS => ?_)
                                                            have hM : mm_P G kR 740 M268 H := hM
                                                            refine lv_aload_n hx hb dL_law_937 rfl (lv_at hl 2 rfl) ?_
                                                            obtain ⟨r270, M271, e269, heq⟩ := bn2_of heq
                                                            refine mm_ki hS (mm_runV (rest := [.int r267]) C hM hS (tX7_undo l G M268 r270 M271 e269) (uL_128 _ (Nat.le_of_ble_eq_true rfl) (Nat.le_of_ble_eq_true rfl)) (mm_recv C hM (kl (rfl : kT 731 = (6, 0))) (ci := 6) rfl (mm_e6 (rfl : kT 731 = (6, 0)))) hl.1 rfl rfl (Nat.le_of_ble_eq_true rfl) ⟨Nat.le_refl _, Nat.le_refl _⟩ dL_law_938) (fun H locs hM hS => ?_)
                                                            have hM : mm_P G kR 740 M271 H := hM
                                                            refine lv_icmp_eq (tgt := 992) hx hb dL_law_941 (by decide) (fun c272 => ?_) (fun c272 => ?_)
                                                            · have heq := if_t c272 heq
                                                              obtain ⟨y273, ey273⟩ : ∃ y : Int32, y = (v3 + 5) := ⟨_, rfl⟩
                                                              have heq := lt_to ey273 heq
                                                              refine lv_iinc (v := y273) (lv' := [(3, .int y273), (0, .ref b), (1, .ref (mm_lo G + 0)), (2, .ref (mm_lo G + 731))]) hx hb dL_law_992 hl (k := 3) rfl (by rw [ey273]; rfl) (by decide) rfl (fun ls hl => ?_)
                                                              refine lv_goto (tgt := 18) hx hb dL_law_995 (by decide) ?_
                                                              exact ih _ _ _ _ _ hM hS (lv_sub hl [1, 2, 3, 0] rfl) heq
                                                            · have heq := if_f c272 heq
                                                              refine lv_iconst (v := 0) hx hb dL_law_944 (by decide) ?_
                                                              cases heq
                                                          · have heq := if_f c265 heq
                                                            by_cases c274 : ((xs v3.toNatClampNeg) &&& 31) = 27
                                                            · have heq := if_t c274 heq
                                                              refine lv_tableIn (tgt := 946) hx hb dL_law_32 (by rw [c274]; decide) (by rw [c274]; decide) (by rw [c274]; rfl) (by decide) ?_
                                                              refine lv_aload_n hx hb dL_law_946 rfl (lv_at hl 1 rfl) ?_
                                                              refine lv_aload_n hx hb dL_law_947 rfl (lv_at hl 0 rfl) ?_
                                                              refine lv_iload_n hx hb dL_law_948 rfl (lv_at hl 3 rfl) ?_
                                                              refine lv_iconst (v := 1) hx hb dL_law_949 (by decide) ?_
                                                              refine lv_iadd hx hb dL_law_950 ?_
                                                              obtain ⟨g275, heq⟩ := gd_of heq
                                                              refine va_sld hx hb hX hbl hbA hS (vp_in_of2 g275) dL_law_951 ?_
                                                              obtain ⟨r277, M278, e276, heq⟩ := bn2_of heq
                                                              refine mm_ki hS (mm_runV (rest := []) C hM hS (tX6_save l G M (xs (v3 + 1).toNatClampNeg) r277 M278 e276) (uL_129 _ (Nat.le_of_ble_eq_true rfl) (Nat.le_of_ble_eq_true rfl)) (mm_recv C hM (kl (rfl : kT 0 = (5, 0))) (ci := 5) rfl (mm_e5 (rfl : kT 0 = (5, 0)))) hl.1 rfl rfl (Nat.le_of_ble_eq_true rfl) ⟨Nat.le_refl _, Nat.le_refl _⟩ dL_law_952) (fun H locs hM hS => ?_)
                                                              have hM : mm_P G kR 740 M278 H := hM
                                                              refine lv_aload_n hx hb dL_law_955 rfl (lv_at hl 2 rfl) ?_
                                                              refine lv_aload_n hx hb dL_law_956 rfl (lv_at hl 0 rfl) ?_
                                                              refine lv_iload_n hx hb dL_law_957 rfl (lv_at hl 3 rfl) ?_
                                                              refine lv_iconst (v := 1) hx hb dL_law_958 (by decide) ?_
                                                              refine lv_iadd hx hb dL_law_959 ?_
                                                              refine va_sld hx hb hX hbl hbA hS (vp_in_of2 g275) dL_law_960 ?_
                                                              obtain ⟨r280, M281, e279, heq⟩ := bn2_of heq
                                                              refine mm_ki hS (mm_runV (rest := [.int r277]) C hM hS (tX7_save l G M278 (xs (v3 + 1).toNatClampNeg) r280 M281 e279) (uL_132 _ (Nat.le_of_ble_eq_true rfl) (Nat.le_of_ble_eq_true rfl)) (mm_recv C hM (kl (rfl : kT 731 = (6, 0))) (ci := 6) rfl (mm_e6 (rfl : kT 731 = (6, 0)))) hl.1 rfl rfl (Nat.le_of_ble_eq_true rfl) ⟨Nat.le_refl _, Nat.le_refl _⟩ dL_law_961) (fun H locs hM hS => ?_)
                                                              have hM : mm_P G kR 740 M281 H := hM
                                                              refine lv_icmp_eq (tgt := 992) hx hb dL_law_964 (by decide) (fun c282 => ?_) (fun c282 => ?_)
                                                              · have heq := if_t c282 heq
                                                                obtain ⟨y283, ey283⟩ : ∃ y : Int32, y = (v3 + 5) := ⟨_, rfl⟩
                                                                have heq := lt_to ey283 heq
                                                                refine lv_iinc (v := y283) (lv' := [(3, .int y283), (0, .ref b), (1, .ref (mm_lo G + 0)), (2, .ref (mm_lo G + 731))]) hx hb dL_law_992 hl (k := 3) rfl (by rw [ey283]; rfl) (by decide) rfl (fun ls hl => ?_)
                                                                refine lv_goto (tgt := 18) hx hb dL_law_995 (by decide) ?_
                                                                exact ih _ _ _ _ _ hM hS (lv_sub hl [1, 2, 3, 0] rfl) heq
                                                              · have heq := if_f c282 heq
                                                                refine lv_iconst (v := 0) hx hb dL_law_967 (by decide) ?_
                                                                cases heq
                                                            · have heq := if_f c274 heq
                                                              by_cases c284 : ((xs v3.toNatClampNeg) &&& 31) = 28
                                                              · have heq := if_t c284 heq
                                                                refine lv_tableIn (tgt := 969) hx hb dL_law_32 (by rw [c284]; decide) (by rw [c284]; decide) (by rw [c284]; rfl) (by decide) ?_
                                                                refine lv_aload_n hx hb dL_law_969 rfl (lv_at hl 1 rfl) ?_
                                                                refine lv_aload_n hx hb dL_law_970 rfl (lv_at hl 0 rfl) ?_
                                                                refine lv_iload_n hx hb dL_law_971 rfl (lv_at hl 3 rfl) ?_
                                                                refine lv_iconst (v := 1) hx hb dL_law_972 (by decide) ?_
                                                                refine lv_iadd hx hb dL_law_973 ?_
                                                                obtain ⟨g285, heq⟩ := gd_of heq
                                                                refine va_sld hx hb hX hbl hbA hS (vp_in_of2 g285) dL_law_974 ?_
                                                                obtain ⟨r287, M288, e286, heq⟩ := bn2_of heq
                                                                refine mm_ki hS (mm_runV (rest := []) C hM hS (tX6_restore l G M (xs (v3 + 1).toNatClampNeg) r287 M288 e286) (uL_133 _ (Nat.le_of_ble_eq_true rfl) (Nat.le_of_ble_eq_true rfl)) (mm_recv C hM (kl (rfl : kT 0 = (5, 0))) (ci := 5) rfl (mm_e5 (rfl : kT 0 = (5, 0)))) hl.1 rfl rfl (Nat.le_of_ble_eq_true rfl) ⟨Nat.le_refl _, Nat.le_refl _⟩ dL_law_975) (fun H locs hM hS => ?_)
                                                                have hM : mm_P G kR 740 M288 H := hM
                                                                refine lv_aload_n hx hb dL_law_978 rfl (lv_at hl 2 rfl) ?_
                                                                refine lv_aload_n hx hb dL_law_979 rfl (lv_at hl 0 rfl) ?_
                                                                refine lv_iload_n hx hb dL_law_980 rfl (lv_at hl 3 rfl) ?_
                                                                refine lv_iconst (v := 1) hx hb dL_law_981 (by decide) ?_
                                                                refine lv_iadd hx hb dL_law_982 ?_
                                                                refine va_sld hx hb hX hbl hbA hS (vp_in_of2 g285) dL_law_983 ?_
                                                                obtain ⟨r290, M291, e289, heq⟩ := bn2_of heq
                                                                refine mm_ki hS (mm_runV (rest := [.int r287]) C hM hS (tX7_restore l G M288 (xs (v3 + 1).toNatClampNeg) r290 M291 e289) (uL_136 _ (Nat.le_of_ble_eq_true rfl) (Nat.le_of_ble_eq_true rfl)) (mm_recv C hM (kl (rfl : kT 731 = (6, 0))) (ci := 6) rfl (mm_e6 (rfl : kT 731 = (6, 0)))) hl.1 rfl rfl (Nat.le_of_ble_eq_true rfl) ⟨Nat.le_refl _, Nat.le_refl _⟩ dL_law_984) (fun H locs hM hS => ?_)
                                                                have hM : mm_P G kR 740 M291 H := hM
                                                                refine lv_icmp_eq (tgt := 992) hx hb dL_law_987 (by decide) (fun c292 => ?_) (fun c292 => ?_)
                                                                · have heq := if_t c292 heq
                                                                  obtain ⟨y293, ey293⟩ : ∃ y : Int32, y = (v3 + 5) := ⟨_, rfl⟩
                                                                  have heq := lt_to ey293 heq
                                                                  refine lv_iinc (v := y293) (lv' := [(3, .int y293), (0, .ref b), (1, .ref (mm_lo G + 0)), (2, .ref (mm_lo G + 731))]) hx hb dL_law_992 hl (k := 3) rfl (by rw [ey293]; rfl) (by decide) rfl (fun ls hl => ?_)
                                                                  refine lv_goto (tgt := 18) hx hb dL_law_995 (by decide) ?_
                                                                  exact ih _ _ _ _ _ hM hS (lv_sub hl [1, 2, 3, 0] rfl) heq
                                                                · have heq := if_f c292 heq
                                                                  refine lv_iconst (v := 0) hx hb dL_law_990 (by decide) ?_
                                                                  cases heq
                                                              · have heq := if_f c284 heq
                                                                refine lv_tableOut (tgt := 992) hx hb dL_law_32 (by have nc3 := lv_neT (k := 0) (a := 0) c3 rfl; have nc14 := lv_neT (k := 1) (a := 1) c14 rfl; have nc24 := lv_neT (k := 2) (a := 2) c24 rfl; have nc34 := lv_neT (k := 3) (a := 3) c34 rfl; have nc45 := lv_neT (k := 4) (a := 4) c45 rfl; have nc56 := lv_neT (k := 5) (a := 5) c56 rfl; have nc69 := lv_neT (k := 6) (a := 6) c69 rfl; have nc80 := lv_neT (k := 7) (a := 7) c80 rfl; have nc90 := lv_neT (k := 8) (a := 8) c90 rfl; have nc101 := lv_neT (k := 9) (a := 9) c101 rfl; have nc112 := lv_neT (k := 10) (a := 10) c112 rfl; have nc122 := lv_neT (k := 11) (a := 11) c122 rfl; have nc131 := lv_neT (k := 12) (a := 12) c131 rfl; have nc140 := lv_neT (k := 13) (a := 13) c140 rfl; have nc149 := lv_neT (k := 14) (a := 14) c149 rfl; have nc157 := lv_neT (k := 15) (a := 15) c157 rfl; have nc166 := lv_neT (k := 16) (a := 16) c166 rfl; have nc176 := lv_neT (k := 17) (a := 17) c176 rfl; have nc187 := lv_neT (k := 18) (a := 18) c187 rfl; have nc197 := lv_neT (k := 19) (a := 19) c197 rfl; have nc208 := lv_neT (k := 20) (a := 20) c208 rfl; have nc219 := lv_neT (k := 21) (a := 21) c219 rfl; have nc228 := lv_neT (k := 22) (a := 22) c228 rfl; have nc239 := lv_neT (k := 23) (a := 23) c239 rfl; have nc248 := lv_neT (k := 24) (a := 24) c248 rfl; have nc256 := lv_neT (k := 25) (a := 25) c256 rfl; have nc265 := lv_neT (k := 26) (a := 26) c265 rfl; have nc274 := lv_neT (k := 27) (a := 27) c274 rfl; have nc284 := lv_neT (k := 28) (a := 28) c284 rfl; omega) (by decide) ?_
                                                                obtain ⟨y294, ey294⟩ : ∃ y : Int32, y = (v3 + 5) := ⟨_, rfl⟩
                                                                have heq := lt_to ey294 heq
                                                                refine lv_iinc (v := y294) (lv' := [(3, .int y294), (0, .ref b), (1, .ref (mm_lo G + 0)), (2, .ref (mm_lo G + 731))]) hx hb dL_law_992 hl (k := 3) rfl (by rw [ey294]; rfl) (by decide) rfl (fun ls hl => ?_)
                                                                refine lv_goto (tgt := 18) hx hb dL_law_995 (by decide) ?_
                                                                exact ih _ _ _ _ _ hM hS (lv_sub hl [1, 2, 3, 0] rfl) heq
end LAWW
