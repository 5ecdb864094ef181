def fL_law_18 (xs : Nat → Int32) (L : Nat) : Nat → mm_M → Int32 → Option Bool
  | 0, _, _ => none
  | n + 1, M, v3 =>
    if ((Int32.ofNat L) - 5) < v3 then
      some true
    else
      gd (¬ (v3 < 0 ∨ L ≤ v3.toNatClampNeg)) <|
      if ((xs v3.toNatClampNeg) &&& 31) = 0 then
        gd (¬ ((v3 + 1) < 0 ∨ L ≤ (v3 + 1).toNatClampNeg)) <|
        gd (¬ ((v3 + 2) < 0 ∨ L ≤ (v3 + 2).toNatClampNeg)) <|
        bn2 (fX6_set M (xs (v3 + 1).toNatClampNeg) (xs (v3 + 2).toNatClampNeg)) fun r7 M8 =>
        bn2 (fX7_set M8 (xs (v3 + 1).toNatClampNeg) (xs (v3 + 2).toNatClampNeg)) fun r10 M11 =>
        lt (v3 + 5) fun y12 =>
        fL_law_18 xs L n M11 y12
      else if ((xs v3.toNatClampNeg) &&& 31) = 1 then
        gd (¬ ((v3 + 1) < 0 ∨ L ≤ (v3 + 1).toNatClampNeg)) <|
        bn2 (fX6_seed M (xs (v3 + 1).toNatClampNeg)) fun r16 M17 =>
        bn2 (fX7_seed M17 (xs (v3 + 1).toNatClampNeg)) fun r19 M20 =>
        lt (v3 + 5) fun y21 =>
        fL_law_18 xs L n M20 y21
      else if ((xs v3.toNatClampNeg) &&& 31) = 2 then
        gd (¬ ((v3 + 1) < 0 ∨ L ≤ (v3 + 1).toNatClampNeg)) <|
        bn2 (fX6_pitch M (xs (v3 + 1).toNatClampNeg)) fun r25 M26 =>
        bn2 (fX7_pitch M26 (xs (v3 + 1).toNatClampNeg)) fun r28 M29 =>
        lt (v3 + 5) fun y30 =>
        fL_law_18 xs L n M29 y30
      else if ((xs v3.toNatClampNeg) &&& 31) = 3 then
        gd (¬ ((v3 + 1) < 0 ∨ L ≤ (v3 + 1).toNatClampNeg)) <|
        gd (¬ ((v3 + 2) < 0 ∨ L ≤ (v3 + 2).toNatClampNeg)) <|
        bn2 (fX6_rent M (xs (v3 + 1).toNatClampNeg) (xs (v3 + 2).toNatClampNeg)) fun r35 M36 =>
        bn2 (fX7_rent M36 (xs (v3 + 1).toNatClampNeg) (xs (v3 + 2).toNatClampNeg)) fun r38 M39 =>
        lt (v3 + 5) fun y40 =>
        fL_law_18 xs L n M39 y40
      else if ((xs v3.toNatClampNeg) &&& 31) = 4 then
        gd (¬ ((v3 + 1) < 0 ∨ L ≤ (v3 + 1).toNatClampNeg)) <|
        gd (¬ ((v3 + 2) < 0 ∨ L ≤ (v3 + 2).toNatClampNeg)) <|
        bn2 (fX6_cart M (xs (v3 + 1).toNatClampNeg) (xs (v3 + 2).toNatClampNeg)) fun r45 M46 =>
        bn2 (fX7_cart M46 (xs (v3 + 1).toNatClampNeg) (xs (v3 + 2).toNatClampNeg)) fun r48 M49 =>
        lt (v3 + 5) fun y50 =>
        fL_law_18 xs L n M49 y50
      else if ((xs v3.toNatClampNeg) &&& 31) = 5 then
        gd (¬ ((v3 + 1) < 0 ∨ L ≤ (v3 + 1).toNatClampNeg)) <|
        gd (¬ ((v3 + 2) < 0 ∨ L ≤ (v3 + 2).toNatClampNeg)) <|
        gd (¬ ((v3 + 3) < 0 ∨ L ≤ (v3 + 3).toNatClampNeg)) <|
        gd (¬ ((v3 + 4) < 0 ∨ L ≤ (v3 + 4).toNatClampNeg)) <|
        bn2 (fX6_wish M (xs (v3 + 1).toNatClampNeg) (xs (v3 + 2).toNatClampNeg) (xs (v3 + 3).toNatClampNeg) (xs (v3 + 4).toNatClampNeg)) fun r57 M58 =>
        bn2 (fX7_wish M58 (xs (v3 + 1).toNatClampNeg) (xs (v3 + 2).toNatClampNeg) (xs (v3 + 3).toNatClampNeg) (xs (v3 + 4).toNatClampNeg)) fun r60 M61 =>
        lt (v3 + 5) fun y62 =>
        fL_law_18 xs L n M61 y62
      else if ((xs v3.toNatClampNeg) &&& 31) = 6 then
        gd (¬ ((v3 + 1) < 0 ∨ L ≤ (v3 + 1).toNatClampNeg)) <|
        gd (¬ ((v3 + 2) < 0 ∨ L ≤ (v3 + 2).toNatClampNeg)) <|
        bn2 (fX6_fine M (xs (v3 + 1).toNatClampNeg) (xs (v3 + 2).toNatClampNeg)) fun r67 M68 =>
        bn2 (fX7_fine M68 (xs (v3 + 1).toNatClampNeg) (xs (v3 + 2).toNatClampNeg)) fun r70 M71 =>
        lt (v3 + 5) fun y72 =>
        fL_law_18 xs L n M71 y72
      else if ((xs v3.toNatClampNeg) &&& 31) = 7 then
        gd (¬ ((v3 + 1) < 0 ∨ L ≤ (v3 + 1).toNatClampNeg)) <|
        bn2 (fX6_check M (xs (v3 + 1).toNatClampNeg)) fun r76 M77 =>
        bn2 (fX7_check M77 (xs (v3 + 1).toNatClampNeg)) fun r79 M80 =>
        lt (v3 + 5) fun y81 =>
        fL_law_18 xs L n M80 y81
      else if ((xs v3.toNatClampNeg) &&& 31) = 8 then
        gd (¬ ((v3 + 1) < 0 ∨ L ≤ (v3 + 1).toNatClampNeg)) <|
        gd (¬ ((v3 + 2) < 0 ∨ L ≤ (v3 + 2).toNatClampNeg)) <|
        bn2 (fX6_swap M (xs (v3 + 1).toNatClampNeg) (xs (v3 + 2).toNatClampNeg)) fun r86 M87 =>
        bn2 (fX7_swap M87 (xs (v3 + 1).toNatClampNeg) (xs (v3 + 2).toNatClampNeg)) fun r89 M90 =>
        lt (v3 + 5) fun y91 =>
        fL_law_18 xs L n M90 y91
      else if ((xs v3.toNatClampNeg) &&& 31) = 9 then
        gd (¬ ((v3 + 1) < 0 ∨ L ≤ (v3 + 1).toNatClampNeg)) <|
        gd (¬ ((v3 + 2) < 0 ∨ L ≤ (v3 + 2).toNatClampNeg)) <|
        bn2 (fX6_pay M (xs (v3 + 1).toNatClampNeg) (xs (v3 + 2).toNatClampNeg)) fun r96 M97 =>
        bn2 (fX7_pay M97 (xs (v3 + 1).toNatClampNeg) (xs (v3 + 2).toNatClampNeg)) fun r99 M100 =>
        lt (v3 + 5) fun y101 =>
        fL_law_18 xs L n M100 y101
      else if ((xs v3.toNatClampNeg) &&& 31) = 10 then
        gd (¬ ((v3 + 1) < 0 ∨ L ≤ (v3 + 1).toNatClampNeg)) <|
        bn2 (fX6_days M (xs (v3 + 1).toNatClampNeg)) fun r105 M106 =>
        bn2 (fX7_days M106 (xs (v3 + 1).toNatClampNeg)) fun r108 M109 =>
        lt (v3 + 5) fun y110 =>
        fL_law_18 xs L n M109 y110
      else if ((xs v3.toNatClampNeg) &&& 31) = 11 then
        gd (¬ ((v3 + 1) < 0 ∨ L ≤ (v3 + 1).toNatClampNeg)) <|
        gd (¬ ((v3 + 2) < 0 ∨ L ≤ (v3 + 2).toNatClampNeg)) <|
        bn (fX6_ofCart M (xs (v3 + 1).toNatClampNeg) (xs (v3 + 2).toNatClampNeg)) fun r115 =>
        bn (fX7_ofCart M (xs (v3 + 1).toNatClampNeg) (xs (v3 + 2).toNatClampNeg)) fun r117 =>
        lt (v3 + 5) fun y118 =>
        fL_law_18 xs L n M y118
      else if ((xs v3.toNatClampNeg) &&& 31) = 12 then
        gd (¬ ((v3 + 1) < 0 ∨ L ≤ (v3 + 1).toNatClampNeg)) <|
        gd (¬ ((v3 + 2) < 0 ∨ L ≤ (v3 + 2).toNatClampNeg)) <|
        bn (fX6_money M (xs (v3 + 1).toNatClampNeg) (xs (v3 + 2).toNatClampNeg)) fun r123 =>
        bn (fX7_money M (xs (v3 + 1).toNatClampNeg) (xs (v3 + 2).toNatClampNeg)) fun r125 =>
        lt (v3 + 5) fun y126 =>
        fL_law_18 xs L n M y126
      else if ((xs v3.toNatClampNeg) &&& 31) = 13 then
        gd (¬ ((v3 + 1) < 0 ∨ L ≤ (v3 + 1).toNatClampNeg)) <|
        gd (¬ ((v3 + 2) < 0 ∨ L ≤ (v3 + 2).toNatClampNeg)) <|
        bn (fX6_ofPitch M (xs (v3 + 1).toNatClampNeg) (xs (v3 + 2).toNatClampNeg)) fun r131 =>
        bn (fX7_ofPitch M (xs (v3 + 1).toNatClampNeg) (xs (v3 + 2).toNatClampNeg)) fun r133 =>
        lt (v3 + 5) fun y134 =>
        fL_law_18 xs L n M y134
      else if ((xs v3.toNatClampNeg) &&& 31) = 14 then
        gd (¬ ((v3 + 1) < 0 ∨ L ≤ (v3 + 1).toNatClampNeg)) <|
        bn (fX6_count M (xs (v3 + 1).toNatClampNeg)) fun r138 =>
        bn (fX7_count M (xs (v3 + 1).toNatClampNeg)) fun r140 =>
        lt (v3 + 5) fun y141 =>
        fL_law_18 xs L n M y141
      else if ((xs v3.toNatClampNeg) &&& 31) = 15 then
        gd (¬ ((v3 + 1) < 0 ∨ L ≤ (v3 + 1).toNatClampNeg)) <|
        gd (¬ ((v3 + 2) < 0 ∨ L ≤ (v3 + 2).toNatClampNeg)) <|
        bn (fX6_pointsOn M (xs (v3 + 1).toNatClampNeg) (xs (v3 + 2).toNatClampNeg)) fun r146 =>
        bn (fX7_pointsOn M (xs (v3 + 1).toNatClampNeg) (xs (v3 + 2).toNatClampNeg)) fun r148 =>
        lt (v3 + 5) fun y149 =>
        fL_law_18 xs L n M y149
      else if ((xs v3.toNatClampNeg) &&& 31) = 16 then
        gd (¬ ((v3 + 1) < 0 ∨ L ≤ (v3 + 1).toNatClampNeg)) <|
        bn2 (fX6_wouldHave M (xs (v3 + 1).toNatClampNeg)) fun r153 M154 =>
        bn2 (fX7_wouldHave M154 (xs (v3 + 1).toNatClampNeg)) fun r156 M157 =>
        lt (v3 + 5) fun y158 =>
        fL_law_18 xs L n M157 y158
      else if ((xs v3.toNatClampNeg) &&& 31) = 17 then
        gd (¬ ((v3 + 1) < 0 ∨ L ≤ (v3 + 1).toNatClampNeg)) <|
        gd (¬ ((v3 + 2) < 0 ∨ L ≤ (v3 + 2).toNatClampNeg)) <|
        bn2 (fX6_ifWished M (xs (v3 + 1).toNatClampNeg) (xs (v3 + 2).toNatClampNeg)) fun r163 M164 =>
        bn2 (fX7_ifWished M164 (xs (v3 + 1).toNatClampNeg) (xs (v3 + 2).toNatClampNeg)) fun r166 M167 =>
        lt (v3 + 5) fun y168 =>
        fL_law_18 xs L n M167 y168
      else if ((xs v3.toNatClampNeg) &&& 31) = 18 then
        gd (¬ ((v3 + 1) < 0 ∨ L ≤ (v3 + 1).toNatClampNeg)) <|
        bn2 (fX6_firstDay M (xs (v3 + 1).toNatClampNeg)) fun r172 M173 =>
        bn2 (fX7_firstDay M173 (xs (v3 + 1).toNatClampNeg)) fun r175 M176 =>
        lt (v3 + 5) fun y177 =>
        fL_law_18 xs L n M176 y177
      else if ((xs v3.toNatClampNeg) &&& 31) = 19 then
        gd (¬ ((v3 + 1) < 0 ∨ L ≤ (v3 + 1).toNatClampNeg)) <|
        gd (¬ ((v3 + 2) < 0 ∨ L ≤ (v3 + 2).toNatClampNeg)) <|
        bn2 (fX6_daysOf M (xs (v3 + 1).toNatClampNeg) (xs (v3 + 2).toNatClampNeg)) fun r182 M183 =>
        bn2 (fX7_daysOf M183 (xs (v3 + 1).toNatClampNeg) (xs (v3 + 2).toNatClampNeg)) fun r185 M186 =>
        lt (v3 + 5) fun y187 =>
        fL_law_18 xs L n M186 y187
      else if ((xs v3.toNatClampNeg) &&& 31) = 20 then
        gd (¬ ((v3 + 1) < 0 ∨ L ≤ (v3 + 1).toNatClampNeg)) <|
        gd (¬ ((v3 + 2) < 0 ∨ L ≤ (v3 + 2).toNatClampNeg)) <|
        bn2 (fX6_luckySeed M (xs (v3 + 1).toNatClampNeg) (xs (v3 + 2).toNatClampNeg)) fun r192 M193 =>
        bn2 (fX7_luckySeed M193 (xs (v3 + 1).toNatClampNeg) (xs (v3 + 2).toNatClampNeg)) fun r195 M196 =>
        lt (v3 + 5) fun y197 =>
        fL_law_18 xs L n M196 y197
      else if ((xs v3.toNatClampNeg) &&& 31) = 21 then
        gd (¬ ((v3 + 1) < 0 ∨ L ≤ (v3 + 1).toNatClampNeg)) <|
        gd (¬ ((v3 + 2) < 0 ∨ L ≤ (v3 + 2).toNatClampNeg)) <|
        bn (fX6_whyNot M (xs (v3 + 1).toNatClampNeg) (xs (v3 + 2).toNatClampNeg)) fun r202 =>
        bn (fX7_whyNot M (xs (v3 + 1).toNatClampNeg) (xs (v3 + 2).toNatClampNeg)) fun r204 =>
        lt (v3 + 5) fun y205 =>
        fL_law_18 xs L n M y205
      else if ((xs v3.toNatClampNeg) &&& 31) = 22 then
        gd (¬ ((v3 + 1) < 0 ∨ L ≤ (v3 + 1).toNatClampNeg)) <|
        gd (¬ ((v3 + 2) < 0 ∨ L ≤ (v3 + 2).toNatClampNeg)) <|
        bn2 (fX6_put M ((((xs (v3 + 1).toNatClampNeg).toInt64) <<< ((32 : Int32).toInt64 &&& 63)) ||| (((xs (v3 + 2).toNatClampNeg).toInt64) &&& (4294967295 : Int64)))) fun r210 M211 =>
        bn2 (fX7_put_ M211 ((((xs (v3 + 1).toNatClampNeg).toInt64) <<< ((32 : Int32).toInt64 &&& 63)) ||| (((xs (v3 + 2).toNatClampNeg).toInt64) &&& (4294967295 : Int64)))) fun r213 M214 =>
        lt (v3 + 5) fun y215 =>
        fL_law_18 xs L n M214 y215
      else if ((xs v3.toNatClampNeg) &&& 31) = 23 then
        bn2 (fX6_wipe M) fun r218 M219 =>
        bn2 (fX7_wipe M219) fun r221 M222 =>
        lt (v3 + 5) fun y223 =>
        fL_law_18 xs L n M222 y223
      else if ((xs v3.toNatClampNeg) &&& 31) = 24 then
        bn (fX6_fault M) fun r226 =>
        bn2 (fX7_fault M) fun r228 M229 =>
        lt (v3 + 5) fun y230 =>
        fL_law_18 xs L n M229 y230
      else if ((xs v3.toNatClampNeg) &&& 31) = 25 then
        bn2 (fX6_carryOut M) fun r233 M234 =>
        bn2 (fX7_carryOut M234) fun r236 M237 =>
        lt (v3 + 5) fun y238 =>
        fL_law_18 xs L n M237 y238
      else if ((xs v3.toNatClampNeg) &&& 31) = 26 then
        bn2 (fX6_undo M) fun r241 M242 =>
        bn2 (fX7_undo M242) fun r244 M245 =>
        lt (v3 + 5) fun y246 =>
        fL_law_18 xs L n M245 y246
      else if ((xs v3.toNatClampNeg) &&& 31) = 27 then
        gd (¬ ((v3 + 1) < 0 ∨ L ≤ (v3 + 1).toNatClampNeg)) <|
        bn2 (fX6_save M (xs (v3 + 1).toNatClampNeg)) fun r250 M251 =>
        bn2 (fX7_save M251 (xs (v3 + 1).toNatClampNeg)) fun r253 M254 =>
        lt (v3 + 5) fun y255 =>
        fL_law_18 xs L n M254 y255
      else if ((xs v3.toNatClampNeg) &&& 31) = 28 then
        gd (¬ ((v3 + 1) < 0 ∨ L ≤ (v3 + 1).toNatClampNeg)) <|
        bn2 (fX6_restore M (xs (v3 + 1).toNatClampNeg)) fun r259 M260 =>
        bn2 (fX7_restore M260 (xs (v3 + 1).toNatClampNeg)) fun r262 M263 =>
        if r259 = r262 then
          lt (v3 + 5) fun y265 =>
          fL_law_18 xs L n M263 y265
        else
          some false
      else 
        lt (v3 + 5) fun y266 =>
        fL_law_18 xs L n M y266
section LAWW
variable {p : Program} {l : Launch} {e : Env} {s : State} {m : MethodId} {args : Array Value} {below : List Frame} {meth : Method} {c : Code} {G : mm_G}
set_option maxRecDepth 100000 in
set_option maxHeartbeats 8000000 in
theorem tL_law_18 {b L : Nat} {xs : Nat → Int32} (C : mm_C G p s m #[Value.ref b] meth c RL cL_law 4 (some .boolean)) (hlo : mm_lo G = s.heap.size) (hX : va_X b L xs s s.heap) (hbl : b < s.heap.size) : ∀ n : Nat, ∀ (M : mm_M) (v3 : Int32) (H : Heap) (locs : List Loc) (ls : Array Slot), mm_P G kR 740 M H → va_S (mm_A G) s.heap H locs → lv_has ls 4 [(0, .ref b), (1, .ref (mm_lo G + 0)), (2, .ref (mm_lo G + 731)), (3, .int v3)] → fL_law_18 xs L n M v3 = some true → W p l e room_1 s m #[Value.ref b] below meth c H locs 600000 7302250 (lw_Z below #[Value.ref b] s) (F0 m 18 ls []) := by
  obtain ⟨hx, hb, hr, -, -, -, hlocks, -, hZ, -⟩ := id C
  have hbA : ¬ mm_A G b := by show ¬ mm_lo G ≤ b; omega
  intro n
  induction n with
  | zero =>
    intro M v3 H locs ls hM hS hl heq
    rw [fL_law_18] at heq
    cases heq
  | succ n ih =>
    intro M v3 H locs ls hM hS hl heq
    rw [fL_law_18] at heq
    refine lv_iload_n hx hb dL_law_18 rfl (lv_at hl 3 rfl) ?_
    refine lv_aload_n hx hb dL_law_19 rfl (lv_at hl 0 rfl) ?_
    refine va_slen hx hb hX hbl hbA hS dL_law_20 ?_
    refine lv_iconst (v := 5) hx hb dL_law_21 (by decide) ?_
    refine lv_isub hx hb dL_law_22 ?_
    refine lv_icmp_gt (tgt := 997) hx hb dL_law_23 (by decide) (fun c1 => ?_) (fun c1 => ?_)
    · have heq := if_t c1 heq
      refine lv_iconst (v := 1) hx hb dL_law_997 (by decide) ?_
      refine va_forget (fun q hq => by have h := hS.2.2 q hq; rw [← hlo]; exact h) ?_
      exact lw_ret hx hb hr hlocks dL_law_998
    · have heq := if_f c1 heq
      refine lv_aload_n hx hb dL_law_26 rfl (lv_at hl 0 rfl) ?_
      refine lv_iload_n hx hb dL_law_27 rfl (lv_at hl 3 rfl) ?_
      obtain ⟨g2, heq⟩ := gd_of heq
      refine va_sld hx hb hX hbl hbA hS (vp_in_of2 g2) dL_law_28 ?_
      refine lv_bipush (v := 31) hx hb dL_law_29 (by decide) ?_
      refine lv_iand hx hb dL_law_31 ?_
      by_cases c3 : ((xs v3.toNatClampNeg) &&& 31) = 0
      · have heq := if_t c3 heq
        refine lv_tableIn (tgt := 164) hx hb dL_law_32 (by rw [c3]; decide) (by rw [c3]; decide) (by rw [c3]; rfl) (by decide) ?_
        refine lv_aload_n hx hb dL_law_164 rfl (lv_at hl 1 rfl) ?_
        refine lv_aload_n hx hb dL_law_165 rfl (lv_at hl 0 rfl) ?_
        refine lv_iload_n hx hb dL_law_166 rfl (lv_at hl 3 rfl) ?_
        refine lv_iconst (v := 1) hx hb dL_law_167 (by decide) ?_
        refine lv_iadd hx hb dL_law_168 ?_
        obtain ⟨g4, heq⟩ := gd_of heq
        refine va_sld hx hb hX hbl hbA hS (vp_in_of2 g4) dL_law_169 ?_
        refine lv_aload_n hx hb dL_law_170 rfl (lv_at hl 0 rfl) ?_
        refine lv_iload_n hx hb dL_law_171 rfl (lv_at hl 3 rfl) ?_
        refine lv_iconst (v := 2) hx hb dL_law_172 (by decide) ?_
        refine lv_iadd hx hb dL_law_173 ?_
        obtain ⟨g5, heq⟩ := gd_of heq
        refine va_sld hx hb hX hbl hbA hS (vp_in_of2 g5) dL_law_174 ?_
        obtain ⟨r7, M8, e6, heq⟩ := bn2_of heq
        refine mm_ki hS (mm_runV (rest := []) C hM hS (tX6_set l G M (xs (v3 + 1).toNatClampNeg) (xs (v3 + 2).toNatClampNeg) r7 M8 e6) (uL_13 _ (Nat.le_of_ble_eq_true rfl) (Nat.le_of_ble_eq_true rfl)) (mm_recv C hM (kl (rfl : kT 0 = (5, 0))) (ci := 5) rfl (mm_e5 (rfl : kT 0 = (5, 0)))) hl.1 rfl rfl (Nat.le_of_ble_eq_true rfl) ⟨Nat.le_refl _, Nat.le_refl _⟩ dL_law_175) (fun H locs hM hS => ?_)
        have hM : mm_P G kR 740 M8 H := hM
        refine lv_pop hx hb dL_law_178 rfl ?_
        refine lv_aload_n hx hb dL_law_179 rfl (lv_at hl 2 rfl) ?_
        refine lv_aload_n hx hb dL_law_180 rfl (lv_at hl 0 rfl) ?_
        refine lv_iload_n hx hb dL_law_181 rfl (lv_at hl 3 rfl) ?_
        refine lv_iconst (v := 1) hx hb dL_law_182 (by decide) ?_
        refine lv_iadd hx hb dL_law_183 ?_
        refine va_sld hx hb hX hbl hbA hS (vp_in_of2 g4) dL_law_184 ?_
        refine lv_aload_n hx hb dL_law_185 rfl (lv_at hl 0 rfl) ?_
        refine lv_iload_n hx hb dL_law_186 rfl (lv_at hl 3 rfl) ?_
        refine lv_iconst (v := 2) hx hb dL_law_187 (by decide) ?_
        refine lv_iadd hx hb dL_law_188 ?_
        refine va_sld hx hb hX hbl hbA hS (vp_in_of2 g5) dL_law_189 ?_
        obtain ⟨r10, M11, e9, heq⟩ := bn2_of heq
        refine mm_ki hS (mm_runV (rest := []) C hM hS (tX7_set l G M8 (xs (v3 + 1).toNatClampNeg) (xs (v3 + 2).toNatClampNeg) r10 M11 e9) (uL_17 _ (Nat.le_of_ble_eq_true rfl) (Nat.le_of_ble_eq_true rfl)) (mm_recv C hM (kl (rfl : kT 731 = (6, 0))) (ci := 6) rfl (mm_e6 (rfl : kT 731 = (6, 0)))) hl.1 rfl rfl (Nat.le_of_ble_eq_true rfl) ⟨Nat.le_refl _, Nat.le_refl _⟩ dL_law_190) (fun H locs hM hS => ?_)
        have hM : mm_P G kR 740 M11 H := hM
        refine lv_pop hx hb dL_law_193 rfl ?_
        refine lv_goto (tgt := 991) hx hb dL_law_194 (by decide) ?_
        obtain ⟨y12, ey12⟩ : ∃ y : Int32, y = (v3 + 5) := ⟨_, rfl⟩
        have heq := lt_to ey12 heq
        refine lv_iinc (v := y12) (lv' := [(3, .int y12), (0, .ref b), (1, .ref (mm_lo G + 0)), (2, .ref (mm_lo G + 731))]) hx hb dL_law_991 hl (k := 3) rfl (by rw [ey12]; rfl) (by decide) rfl (fun ls hl => ?_)
        refine lv_goto (tgt := 18) hx hb dL_law_994 (by decide) ?_
        exact ih _ _ _ _ _ hM hS (lv_sub hl [1, 2, 3, 0] rfl) heq
      · have heq := if_f c3 heq
        by_cases c13 : ((xs v3.toNatClampNeg) &&& 31) = 1
        · have heq := if_t c13 heq
          refine lv_tableIn (tgt := 197) hx hb dL_law_32 (by rw [c13]; decide) (by rw [c13]; decide) (by rw [c13]; rfl) (by decide) ?_
          refine lv_aload_n hx hb dL_law_197 rfl (lv_at hl 1 rfl) ?_
          refine lv_aload_n hx hb dL_law_198 rfl (lv_at hl 0 rfl) ?_
          refine lv_iload_n hx hb dL_law_199 rfl (lv_at hl 3 rfl) ?_
          refine lv_iconst (v := 1) hx hb dL_law_200 (by decide) ?_
          refine lv_iadd hx hb dL_law_201 ?_
          obtain ⟨g14, heq⟩ := gd_of heq
          refine va_sld hx hb hX hbl hbA hS (vp_in_of2 g14) dL_law_202 ?_
          obtain ⟨r16, M17, e15, heq⟩ := bn2_of heq
          refine mm_ki hS (mm_runV (rest := []) C hM hS (tX6_seed l G M (xs (v3 + 1).toNatClampNeg) r16 M17 e15) (uL_18 _ (Nat.le_of_ble_eq_true rfl) (Nat.le_of_ble_eq_true rfl)) (mm_recv C hM (kl (rfl : kT 0 = (5, 0))) (ci := 5) rfl (mm_e5 (rfl : kT 0 = (5, 0)))) hl.1 rfl rfl (Nat.le_of_ble_eq_true rfl) ⟨Nat.le_refl _, Nat.le_refl _⟩ dL_law_203) (fun H locs hM hS => ?_)
          have hM : mm_P G kR 740 M17 H := hM
          refine lv_pop hx hb dL_law_206 rfl ?_
          refine lv_aload_n hx hb dL_law_207 rfl (lv_at hl 2 rfl) ?_
          refine lv_aload_n hx hb dL_law_208 rfl (lv_at hl 0 rfl) ?_
          refine lv_iload_n hx hb dL_law_209 rfl (lv_at hl 3 rfl) ?_
          refine lv_iconst (v := 1) hx hb dL_law_210 (by decide) ?_
          refine lv_iadd hx hb dL_law_211 ?_
          refine va_sld hx hb hX hbl hbA hS (vp_in_of2 g14) dL_law_212 ?_
          obtain ⟨r19, M20, e18, heq⟩ := bn2_of heq
          refine mm_ki hS (mm_runV (rest := []) C hM hS (tX7_seed l G M17 (xs (v3 + 1).toNatClampNeg) r19 M20 e18) (uL_22 _ (Nat.le_of_ble_eq_true rfl) (Nat.le_of_ble_eq_true rfl)) (mm_recv C hM (kl (rfl : kT 731 = (6, 0))) (ci := 6) rfl (mm_e6 (rfl : kT 731 = (6, 0)))) hl.1 rfl rfl (Nat.le_of_ble_eq_true rfl) ⟨Nat.le_refl _, Nat.le_refl _⟩ dL_law_213) (fun H locs hM hS => ?_)
          have hM : mm_P G kR 740 M20 H := hM
          refine lv_pop hx hb dL_law_216 rfl ?_
          refine lv_goto (tgt := 991) hx hb dL_law_217 (by decide) ?_
          obtain ⟨y21, ey21⟩ : ∃ y : Int32, y = (v3 + 5) := ⟨_, rfl⟩
          have heq := lt_to ey21 heq
          refine lv_iinc (v := y21) (lv' := [(3, .int y21), (0, .ref b), (1, .ref (mm_lo G + 0)), (2, .ref (mm_lo G + 731))]) hx hb dL_law_991 hl (k := 3) rfl (by rw [ey21]; rfl) (by decide) rfl (fun ls hl => ?_)
          refine lv_goto (tgt := 18) hx hb dL_law_994 (by decide) ?_
          exact ih _ _ _ _ _ hM hS (lv_sub hl [1, 2, 3, 0] rfl) heq
        · have heq := if_f c13 heq
          by_cases c22 : ((xs v3.toNatClampNeg) &&& 31) = 2
          · have heq := if_t c22 heq
            refine lv_tableIn (tgt := 220) hx hb dL_law_32 (by rw [c22]; decide) (by rw [c22]; decide) (by rw [c22]; rfl) (by decide) ?_
            refine lv_aload_n hx hb dL_law_220 rfl (lv_at hl 1 rfl) ?_
            refine lv_aload_n hx hb dL_law_221 rfl (lv_at hl 0 rfl) ?_
            refine lv_iload_n hx hb dL_law_222 rfl (lv_at hl 3 rfl) ?_
            refine lv_iconst (v := 1) hx hb dL_law_223 (by decide) ?_
            refine lv_iadd hx hb dL_law_224 ?_
            obtain ⟨g23, heq⟩ := gd_of heq
            refine va_sld hx hb hX hbl hbA hS (vp_in_of2 g23) dL_law_225 ?_
            obtain ⟨r25, M26, e24, heq⟩ := bn2_of heq
            refine mm_ki hS (mm_runV (rest := []) C hM hS (tX6_pitch l G M (xs (v3 + 1).toNatClampNeg) r25 M26 e24) (uL_23 _ (Nat.le_of_ble_eq_true rfl) (Nat.le_of_ble_eq_true rfl)) (mm_recv C hM (kl (rfl : kT 0 = (5, 0))) (ci := 5) rfl (mm_e5 (rfl : kT 0 = (5, 0)))) hl.1 rfl rfl (Nat.le_of_ble_eq_true rfl) ⟨Nat.le_refl _, Nat.le_refl _⟩ dL_law_226) (fun H locs hM hS => ?_)
            have hM : mm_P G kR 740 M26 H := hM
            refine lv_pop hx hb dL_law_229 rfl ?_
            refine lv_aload_n hx hb dL_law_230 rfl (lv_at hl 2 rfl) ?_
            refine lv_aload_n hx hb dL_law_231 rfl (lv_at hl 0 rfl) ?_
            refine lv_iload_n hx hb dL_law_232 rfl (lv_at hl 3 rfl) ?_
            refine lv_iconst (v := 1) hx hb dL_law_233 (by decide) ?_
            refine lv_iadd hx hb dL_law_234 ?_
            refine va_sld hx hb hX hbl hbA hS (vp_in_of2 g23) dL_law_235 ?_
            obtain ⟨r28, M29, e27, heq⟩ := bn2_of heq
            refine mm_ki hS (mm_runV (rest := []) C hM hS (tX7_pitch l G M26 (xs (v3 + 1).toNatClampNeg) r28 M29 e27) (uL_26 _ (Nat.le_of_ble_eq_true rfl) (Nat.le_of_ble_eq_true rfl)) (mm_recv C hM (kl (rfl : kT 731 = (6, 0))) (ci := 6) rfl (mm_e6 (rfl : kT 731 = (6, 0)))) hl.1 rfl rfl (Nat.le_of_ble_eq_true rfl) ⟨Nat.le_refl _, Nat.le_refl _⟩ dL_law_236) (fun H locs hM hS => ?_)
            have hM : mm_P G kR 740 M29 H := hM
            refine lv_pop hx hb dL_law_239 rfl ?_
            refine lv_goto (tgt := 991) hx hb dL_law_240 (by decide) ?_
            obtain ⟨y30, ey30⟩ : ∃ y : Int32, y = (v3 + 5) := ⟨_, rfl⟩
            have heq := lt_to ey30 heq
            refine lv_iinc (v := y30) (lv' := [(3, .int y30), (0, .ref b), (1, .ref (mm_lo G + 0)), (2, .ref (mm_lo G + 731))]) hx hb dL_law_991 hl (k := 3) rfl (by rw [ey30]; rfl) (by decide) rfl (fun ls hl => ?_)
            refine lv_goto (tgt := 18) hx hb dL_law_994 (by decide) ?_
            exact ih _ _ _ _ _ hM hS (lv_sub hl [1, 2, 3, 0] rfl) heq
          · have heq := if_f c22 heq
            by_cases c31 : ((xs v3.toNatClampNeg) &&& 31) = 3
            · have heq := if_t c31 heq
              refine lv_tableIn (tgt := 243) hx hb dL_law_32 (by rw [c31]; decide) (by rw [c31]; decide) (by rw [c31]; rfl) (by decide) ?_
              refine lv_aload_n hx hb dL_law_243 rfl (lv_at hl 1 rfl) ?_
              refine lv_aload_n hx hb dL_law_244 rfl (lv_at hl 0 rfl) ?_
              refine lv_iload_n hx hb dL_law_245 rfl (lv_at hl 3 rfl) ?_
              refine lv_iconst (v := 1) hx hb dL_law_246 (by decide) ?_
              refine lv_iadd hx hb dL_law_247 ?_
              obtain ⟨g32, heq⟩ := gd_of heq
              refine va_sld hx hb hX hbl hbA hS (vp_in_of2 g32) dL_law_248 ?_
              refine lv_aload_n hx hb dL_law_249 rfl (lv_at hl 0 rfl) ?_
              refine lv_iload_n hx hb dL_law_250 rfl (lv_at hl 3 rfl) ?_
              refine lv_iconst (v := 2) hx hb dL_law_251 (by decide) ?_
              refine lv_iadd hx hb dL_law_252 ?_
              obtain ⟨g33, heq⟩ := gd_of heq
              refine va_sld hx hb hX hbl hbA hS (vp_in_of2 g33) dL_law_253 ?_
              obtain ⟨r35, M36, e34, heq⟩ := bn2_of heq
              refine mm_ki hS (mm_runV (rest := []) C hM hS (tX6_rent l G M (xs (v3 + 1).toNatClampNeg) (xs (v3 + 2).toNatClampNeg) r35 M36 e34) (uL_27 _ (Nat.le_of_ble_eq_true rfl) (Nat.le_of_ble_eq_true rfl)) (mm_recv C hM (kl (rfl : kT 0 = (5, 0))) (ci := 5) rfl (mm_e5 (rfl : kT 0 = (5, 0)))) hl.1 rfl rfl (Nat.le_of_ble_eq_true rfl) ⟨Nat.le_refl _, Nat.le_refl _⟩ dL_law_254) (fun H locs hM hS => ?_)
              have hM : mm_P G kR 740 M36 H := hM
              refine lv_pop hx hb dL_law_257 rfl ?_
              refine lv_aload_n hx hb dL_law_258 rfl (lv_at hl 2 rfl) ?_
              refine lv_aload_n hx hb dL_law_259 rfl (lv_at hl 0 rfl) ?_
              refine lv_iload_n hx hb dL_law_260 rfl (lv_at hl 3 rfl) ?_
              refine lv_iconst (v := 1) hx hb dL_law_261 (by decide) ?_
              refine lv_iadd hx hb dL_law_262 ?_
              refine va_sld hx hb hX hbl hbA hS (vp_in_of2 g32) dL_law_263 ?_
              refine lv_aload_n hx hb dL_law_264 rfl (lv_at hl 0 rfl) ?_
              refine lv_iload_n hx hb dL_law_265 rfl (lv_at hl 3 rfl) ?_
              refine lv_iconst (v := 2) hx hb dL_law_266 (by decide) ?_
              refine lv_iadd hx hb dL_law_267 ?_
              refine va_sld hx hb hX hbl hbA hS (vp_in_of2 g33) dL_law_268 ?_
              obtain ⟨r38, M39, e37, heq⟩ := bn2_of heq
              refine mm_ki hS (mm_runV (rest := []) C hM hS (tX7_rent l G M36 (xs (v3 + 1).toNatClampNeg) (xs (v3 + 2).toNatClampNeg) r38 M39 e37) (uL_30 _ (Nat.le_of_ble_eq_true rfl) (Nat.le_of_ble_eq_true rfl)) (mm_recv C hM (kl (rfl : kT 731 = (6, 0))) (ci := 6) rfl (mm_e6 (rfl : kT 731 = (6, 0)))) hl.1 rfl rfl (Nat.le_of_ble_eq_true rfl) ⟨Nat.le_refl _, Nat.le_refl _⟩ dL_law_269) (fun H locs hM hS => ?_)
              have hM : mm_P G kR 740 M39 H := hM
              refine lv_pop hx hb dL_law_272 rfl ?_
              refine lv_goto (tgt := 991) hx hb dL_law_273 (by decide) ?_
              obtain ⟨y40, ey40⟩ : ∃ y : Int32, y = (v3 + 5) := ⟨_, rfl⟩
              have heq := lt_to ey40 heq
              refine lv_iinc (v := y40) (lv' := [(3, .int y40), (0, .ref b), (1, .ref (mm_lo G + 0)), (2, .ref (mm_lo G + 731))]) hx hb dL_law_991 hl (k := 3) rfl (by rw [ey40]; rfl) (by decide) rfl (fun ls hl => ?_)
              refine lv_goto (tgt := 18) hx hb dL_law_994 (by decide) ?_
              exact ih _ _ _ _ _ hM hS (lv_sub hl [1, 2, 3, 0] rfl) heq
            · have heq := if_f c31 heq
              by_cases c41 : ((xs v3.toNatClampNeg) &&& 31) = 4
              · have heq := if_t c41 heq
                refine lv_tableIn (tgt := 276) hx hb dL_law_32 (by rw [c41]; decide) (by rw [c41]; decide) (by rw [c41]; rfl) (by decide) ?_
                refine lv_aload_n hx hb dL_law_276 rfl (lv_at hl 1 rfl) ?_
                refine lv_aload_n hx hb dL_law_277 rfl (lv_at hl 0 rfl) ?_
                refine lv_iload_n hx hb dL_law_278 rfl (lv_at hl 3 rfl) ?_
                refine lv_iconst (v := 1) hx hb dL_law_279 (by decide) ?_
                refine lv_iadd hx hb dL_law_280 ?_
                obtain ⟨g42, heq⟩ := gd_of heq
                refine va_sld hx hb hX hbl hbA hS (vp_in_of2 g42) dL_law_281 ?_
                refine lv_aload_n hx hb dL_law_282 rfl (lv_at hl 0 rfl) ?_
                refine lv_iload_n hx hb dL_law_283 rfl (lv_at hl 3 rfl) ?_
                refine lv_iconst (v := 2) hx hb dL_law_284 (by decide) ?_
                refine lv_iadd hx hb dL_law_285 ?_
                obtain ⟨g43, heq⟩ := gd_of heq
                refine va_sld hx hb hX hbl hbA hS (vp_in_of2 g43) dL_law_286 ?_
                obtain ⟨r45, M46, e44, heq⟩ := bn2_of heq
                refine mm_ki hS (mm_runV (rest := []) C hM hS (tX6_cart l G M (xs (v3 + 1).toNatClampNeg) (xs (v3 + 2).toNatClampNeg) r45 M46 e44) (uL_31 _ (Nat.le_of_ble_eq_true rfl) (Nat.le_of_ble_eq_true rfl)) (mm_recv C hM (kl (rfl : kT 0 = (5, 0))) (ci := 5) rfl (mm_e5 (rfl : kT 0 = (5, 0)))) hl.1 rfl rfl (Nat.le_of_ble_eq_true rfl) ⟨Nat.le_refl _, Nat.le_refl _⟩ dL_law_287) (fun H locs hM hS => ?_)
                have hM : mm_P G kR 740 M46 H := hM
                refine lv_pop hx hb dL_law_290 rfl ?_
                refine lv_aload_n hx hb dL_law_291 rfl (lv_at hl 2 rfl) ?_
                refine lv_aload_n hx hb dL_law_292 rfl (lv_at hl 0 rfl) ?_
                refine lv_iload_n hx hb dL_law_293 rfl (lv_at hl 3 rfl) ?_
                refine lv_iconst (v := 1) hx hb dL_law_294 (by decide) ?_
                refine lv_iadd hx hb dL_law_295 ?_
                refine va_sld hx hb hX hbl hbA hS (vp_in_of2 g42) dL_law_296 ?_
                refine lv_aload_n hx hb dL_law_297 rfl (lv_at hl 0 rfl) ?_
                refine lv_iload_n hx hb dL_law_298 rfl (lv_at hl 3 rfl) ?_
                refine lv_iconst (v := 2) hx hb dL_law_299 (by decide) ?_
                refine lv_iadd hx hb dL_law_300 ?_
                refine va_sld hx hb hX hbl hbA hS (vp_in_of2 g43) dL_law_301 ?_
                obtain ⟨r48, M49, e47, heq⟩ := bn2_of heq
                refine mm_ki hS (mm_runV (rest := []) C hM hS (tX7_cart l G M46 (xs (v3 + 1).toNatClampNeg) (xs (v3 + 2).toNatClampNeg) r48 M49 e47) (uL_34 _ (Nat.le_of_ble_eq_true rfl) (Nat.le_of_ble_eq_true rfl)) (mm_recv C hM (kl (rfl : kT 731 = (6, 0))) (ci := 6) rfl (mm_e6 (rfl : kT 731 = (6, 0)))) hl.1 rfl rfl (Nat.le_of_ble_eq_true rfl) ⟨Nat.le_refl _, Nat.le_refl _⟩ dL_law_302) (fun H locs hM hS => ?_)
                have hM : mm_P G kR 740 M49 H := hM
                refine lv_pop hx hb dL_law_305 rfl ?_
                refine lv_goto (tgt := 991) hx hb dL_law_306 (by decide) ?_
                obtain ⟨y50, ey50⟩ : ∃ y : Int32, y = (v3 + 5) := ⟨_, rfl⟩
                have heq := lt_to ey50 heq
                refine lv_iinc (v := y50) (lv' := [(3, .int y50), (0, .ref b), (1, .ref (mm_lo G + 0)), (2, .ref (mm_lo G + 731))]) hx hb dL_law_991 hl (k := 3) rfl (by rw [ey50]; rfl) (by decide) rfl (fun ls hl => ?_)
                refine lv_goto (tgt := 18) hx hb dL_law_994 (by decide) ?_
                exact ih _ _ _ _ _ hM hS (lv_sub hl [1, 2, 3, 0] rfl) heq
              · have heq := if_f c41 heq
                by_cases c51 : ((xs v3.toNatClampNeg) &&& 31) = 5
                · have heq := if_t c51 heq
                  refine lv_tableIn (tgt := 309) hx hb dL_law_32 (by rw [c51]; decide) (by rw [c51]; decide) (by rw [c51]; rfl) (by decide) ?_
                  refine lv_aload_n hx hb dL_law_309 rfl (lv_at hl 1 rfl) ?_
                  refine lv_aload_n hx hb dL_law_310 rfl (lv_at hl 0 rfl) ?_
                  refine lv_iload_n hx hb dL_law_311 rfl (lv_at hl 3 rfl) ?_
                  refine lv_iconst (v := 1) hx hb dL_law_312 (by decide) ?_
                  refine lv_iadd hx hb dL_law_313 ?_
                  obtain ⟨g52, heq⟩ := gd_of heq
                  refine va_sld hx hb hX hbl hbA hS (vp_in_of2 g52) dL_law_314 ?_
                  refine lv_aload_n hx hb dL_law_315 rfl (lv_at hl 0 rfl) ?_
                  refine lv_iload_n hx hb dL_law_316 rfl (lv_at hl 3 rfl) ?_
                  refine lv_iconst (v := 2) hx hb dL_law_317 (by decide) ?_
                  refine lv_iadd hx hb dL_law_318 ?_
                  obtain ⟨g53, heq⟩ := gd_of heq
                  refine va_sld hx hb hX hbl hbA hS (vp_in_of2 g53) dL_law_319 ?_
                  refine lv_aload_n hx hb dL_law_320 rfl (lv_at hl 0 rfl) ?_
                  refine lv_iload_n hx hb dL_law_321 rfl (lv_at hl 3 rfl) ?_
                  refine lv_iconst (v := 3) hx hb dL_law_322 (by decide) ?_
                  refine lv_iadd hx hb dL_law_323 ?_
                  obtain ⟨g54, heq⟩ := gd_of heq
                  refine va_sld hx hb hX hbl hbA hS (vp_in_of2 g54) dL_law_324 ?_
                  refine lv_aload_n hx hb dL_law_325 rfl (lv_at hl 0 rfl) ?_
                  refine lv_iload_n hx hb dL_law_326 rfl (lv_at hl 3 rfl) ?_
                  refine lv_iconst (v := 4) hx hb dL_law_327 (by decide) ?_
                  refine lv_iadd hx hb dL_law_328 ?_
                  obtain ⟨g55, heq⟩ := gd_of heq
                  refine va_sld hx hb hX hbl hbA hS (vp_in_of2 g55) dL_law_329 ?_
                  obtain ⟨r57, M58, e56, heq⟩ := bn2_of heq
                  refine mm_ki hS (mm_runV (rest := []) C hM hS (tX6_wish l G M (xs (v3 + 1).toNatClampNeg) (xs (v3 + 2).toNatClampNeg) (xs (v3 + 3).toNatClampNeg) (xs (v3 + 4).toNatClampNeg) r57 M58 e56) (uL_35 _ (Nat.le_of_ble_eq_true rfl) (Nat.le_of_ble_eq_true rfl)) (mm_recv C hM (kl (rfl : kT 0 = (5, 0))) (ci := 5) rfl (mm_e5 (rfl : kT 0 = (5, 0)))) hl.1 rfl rfl (Nat.le_of_ble_eq_true rfl) ⟨Nat.le_refl _, Nat.le_refl _⟩ dL_law_330) (fun H locs hM hS => ?_)
                  have hM : mm_P G kR 740 M58 H := hM
                  refine lv_pop hx hb dL_law_333 rfl ?_
                  refine lv_aload_n hx hb dL_law_334 rfl (lv_at hl 2 rfl) ?_
                  refine lv_aload_n hx hb dL_law_335 rfl (lv_at hl 0 rfl) ?_
                  refine lv_iload_n hx hb dL_law_336 rfl (lv_at hl 3 rfl) ?_
                  refine lv_iconst (v := 1) hx hb dL_law_337 (by decide) ?_
                  refine lv_iadd hx hb dL_law_338 ?_
                  refine va_sld hx hb hX hbl hbA hS (vp_in_of2 g52) dL_law_339 ?_
                  refine lv_aload_n hx hb dL_law_340 rfl (lv_at hl 0 rfl) ?_
                  refine lv_iload_n hx hb dL_law_341 rfl (lv_at hl 3 rfl) ?_
                  refine lv_iconst (v := 2) hx hb dL_law_342 (by decide) ?_
                  refine lv_iadd hx hb dL_law_343 ?_
                  refine va_sld hx hb hX hbl hbA hS (vp_in_of2 g53) dL_law_344 ?_
                  refine lv_aload_n hx hb dL_law_345 rfl (lv_at hl 0 rfl) ?_
                  refine lv_iload_n hx hb dL_law_346 rfl (lv_at hl 3 rfl) ?_
                  refine lv_iconst (v := 3) hx hb dL_law_347 (by decide) ?_
                  refine lv_iadd hx hb dL_law_348 ?_
                  refine va_sld hx hb hX hbl hbA hS (vp_in_of2 g54) dL_law_349 ?_
                  refine lv_aload_n hx hb dL_law_350 rfl (lv_at hl 0 rfl) ?_
                  refine lv_iload_n hx hb dL_law_351 rfl (lv_at hl 3 rfl) ?_
                  refine lv_iconst (v := 4) hx hb dL_law_352 (by decide) ?_
                  refine lv_iadd hx hb dL_law_353 ?_
                  refine va_sld hx hb hX hbl hbA hS (vp_in_of2 g55) dL_law_354 ?_
                  obtain ⟨r60, M61, e59, heq⟩ := bn2_of heq
                  refine mm_ki hS (mm_runV (rest := []) C hM hS (tX7_wish l G M58 (xs (v3 + 1).toNatClampNeg) (xs (v3 + 2).toNatClampNeg) (xs (v3 + 3).toNatClampNeg) (xs (v3 + 4).toNatClampNeg) r60 M61 e59) (uL_39 _ (Nat.le_of_ble_eq_true rfl) (Nat.le_of_ble_eq_true rfl)) (mm_recv C hM (kl (rfl : kT 731 = (6, 0))) (ci := 6) rfl (mm_e6 (rfl : kT 731 = (6, 0)))) hl.1 rfl rfl (Nat.le_of_ble_eq_true rfl) ⟨Nat.le_refl _, Nat.le_refl _⟩ dL_law_355) (fun H locs hM hS => ?_)
                  have hM : mm_P G kR 740 M61 H := hM
                  refine lv_pop hx hb dL_law_358 rfl ?_
                  refine lv_goto (tgt := 991) hx hb dL_law_359 (by decide) ?_
                  obtain ⟨y62, ey62⟩ : ∃ y : Int32, y = (v3 + 5) := ⟨_, rfl⟩
                  have heq := lt_to ey62 heq
                  refine lv_iinc (v := y62) (lv' := [(3, .int y62), (0, .ref b), (1, .ref (mm_lo G + 0)), (2, .ref (mm_lo G + 731))]) hx hb dL_law_991 hl (k := 3) rfl (by rw [ey62]; rfl) (by decide) rfl (fun ls hl => ?_)
                  refine lv_goto (tgt := 18) hx hb dL_law_994 (by decide) ?_
                  exact ih _ _ _ _ _ hM hS (lv_sub hl [1, 2, 3, 0] rfl) heq
                · have heq := if_f c51 heq
                  by_cases c63 : ((xs v3.toNatClampNeg) &&& 31) = 6
                  · have heq := if_t c63 heq
                    refine lv_tableIn (tgt := 362) hx hb dL_law_32 (by rw [c63]; decide) (by rw [c63]; decide) (by rw [c63]; rfl) (by decide) ?_
                    refine lv_aload_n hx hb dL_law_362 rfl (lv_at hl 1 rfl) ?_
                    refine lv_aload_n hx hb dL_law_363 rfl (lv_at hl 0 rfl) ?_
                    refine lv_iload_n hx hb dL_law_364 rfl (lv_at hl 3 rfl) ?_
                    refine lv_iconst (v := 1) hx hb dL_law_365 (by decide) ?_
                    refine lv_iadd hx hb dL_law_366 ?_
                    obtain ⟨g64, heq⟩ := gd_of heq
                    refine va_sld hx hb hX hbl hbA hS (vp_in_of2 g64) dL_law_367 ?_
                    refine lv_aload_n hx hb dL_law_368 rfl (lv_at hl 0 rfl) ?_
                    refine lv_iload_n hx hb dL_law_369 rfl (lv_at hl 3 rfl) ?_
                    refine lv_iconst (v := 2) hx hb dL_law_370 (by decide) ?_
                    refine lv_iadd hx hb dL_law_371 ?_
                    obtain ⟨g65, heq⟩ := gd_of heq
                    refine va_sld hx hb hX hbl hbA hS (vp_in_of2 g65) dL_law_372 ?_
                    obtain ⟨r67, M68, e66, heq⟩ := bn2_of heq
                    refine mm_ki hS (mm_runV (rest := []) C hM hS (tX6_fine l G M (xs (v3 + 1).toNatClampNeg) (xs (v3 + 2).toNatClampNeg) r67 M68 e66) (uL_40 _ (Nat.le_of_ble_eq_true rfl) (Nat.le_of_ble_eq_true rfl)) (mm_recv C hM (kl (rfl : kT 0 = (5, 0))) (ci := 5) rfl (mm_e5 (rfl : kT 0 = (5, 0)))) hl.1 rfl rfl (Nat.le_of_ble_eq_true rfl) ⟨Nat.le_refl _, Nat.le_refl _⟩ dL_law_373) (fun H locs hM hS => ?_)
                    have hM : mm_P G kR 740 M68 H := hM
                    refine lv_pop hx hb dL_law_376 rfl ?_
                    refine lv_aload_n hx hb dL_law_377 rfl (lv_at hl 2 rfl) ?_
                    refine lv_aload_n hx hb dL_law_378 rfl (lv_at hl 0 rfl) ?_
                    refine lv_iload_n hx hb dL_law_379 rfl (lv_at hl 3 rfl) ?_
                    refine lv_iconst (v := 1) hx hb dL_law_380 (by decide) ?_
                    refine lv_iadd hx hb dL_law_381 ?_
                    refine va_sld hx hb hX hbl hbA hS (vp_in_of2 g64) dL_law_382 ?_
                    refine lv_aload_n hx hb dL_law_383 rfl (lv_at hl 0 rfl) ?_
                    refine lv_iload_n hx hb dL_law_384 rfl (lv_at hl 3 rfl) ?_
                    refine lv_iconst (v := 2) hx hb dL_law_385 (by decide) ?_
                    refine lv_iadd hx hb dL_law_386 ?_
                    refine va_sld hx hb hX hbl hbA hS (vp_in_of2 g65) dL_law_387 ?_
                    obtain ⟨r70, M71, e69, heq⟩ := bn2_of heq
                    refine mm_ki hS (mm_runV (rest := []) C hM hS (tX7_fine l G M68 (xs (v3 + 1).toNatClampNeg) (xs (v3 + 2).toNatClampNeg) r70 M71 e69) (uL_43 _ (Nat.le_of_ble_eq_true rfl) (Nat.le_of_ble_eq_true rfl)) (mm_recv C hM (kl (rfl : kT 731 = (6, 0))) (ci := 6) rfl (mm_e6 (rfl : kT 731 = (6, 0)))) hl.1 rfl rfl (Nat.le_of_ble_eq_true rfl) ⟨Nat.le_refl _, Nat.le_refl _⟩ dL_law_388) (fun H locs hM hS => ?_)
                    have hM : mm_P G kR 740 M71 H := hM
                    refine lv_pop hx hb dL_law_391 rfl ?_
                    refine lv_goto (tgt := 991) hx hb dL_law_392 (by decide) ?_
                    obtain ⟨y72, ey72⟩ : ∃ y : Int32, y = (v3 + 5) := ⟨_, rfl⟩
                    have heq := lt_to ey72 heq
                    refine lv_iinc (v := y72) (lv' := [(3, .int y72), (0, .ref b), (1, .ref (mm_lo G + 0)), (2, .ref (mm_lo G + 731))]) hx hb dL_law_991 hl (k := 3) rfl (by rw [ey72]; rfl) (by decide) rfl (fun ls hl => ?_)
                    refine lv_goto (tgt := 18) hx hb dL_law_994 (by decide) ?_
                    exact ih _ _ _ _ _ hM hS (lv_sub hl [1, 2, 3, 0] rfl) heq
                  · have heq := if_f c63 heq
                    by_cases c73 : ((xs v3.toNatClampNeg) &&& 31) = 7
                    · have heq := if_t c73 heq
                      refine lv_tableIn (tgt := 395) hx hb dL_law_32 (by rw [c73]; decide) (by rw [c73]; decide) (by rw [c73]; rfl) (by decide) ?_
                      refine lv_aload_n hx hb dL_law_395 rfl (lv_at hl 1 rfl) ?_
                      refine lv_aload_n hx hb dL_law_396 rfl (lv_at hl 0 rfl) ?_
                      refine lv_iload_n hx hb dL_law_397 rfl (lv_at hl 3 rfl) ?_
                      refine lv_iconst (v := 1) hx hb dL_law_398 (by decide) ?_
                      refine lv_iadd hx hb dL_law_399 ?_
                      obtain ⟨g74, heq⟩ := gd_of heq
                      refine va_sld hx hb hX hbl hbA hS (vp_in_of2 g74) dL_law_400 ?_
                      obtain ⟨r76, M77, e75, heq⟩ := bn2_of heq
                      refine mm_ki hS (mm_runV (rest := []) C hM hS (tX6_check l G M (xs (v3 + 1).toNatClampNeg) r76 M77 e75) (uL_44 _ (Nat.le_of_ble_eq_true rfl) (Nat.le_of_ble_eq_true rfl)) (mm_recv C hM (kl (rfl : kT 0 = (5, 0))) (ci := 5) rfl (mm_e5 (rfl : kT 0 = (5, 0)))) hl.1 rfl rfl (Nat.le_of_ble_eq_true rfl) ⟨Nat.le_refl _, Nat.le_refl _⟩ dL_law_401) (fun H locs hM hS => ?_)
                      have hM : mm_P G kR 740 M77 H := hM
                      refine lv_pop hx hb dL_law_404 rfl ?_
                      refine lv_aload_n hx hb dL_law_405 rfl (lv_at hl 2 rfl) ?_
                      refine lv_aload_n hx hb dL_law_406 rfl (lv_at hl 0 rfl) ?_
                      refine lv_iload_n hx hb dL_law_407 rfl (lv_at hl 3 rfl) ?_
                      refine lv_iconst (v := 1) hx hb dL_law_408 (by decide) ?_
                      refine lv_iadd hx hb dL_law_409 ?_
                      refine va_sld hx hb hX hbl hbA hS (vp_in_of2 g74) dL_law_410 ?_
                      obtain ⟨r79, M80, e78, heq⟩ := bn2_of heq
                      refine mm_ki hS (mm_runV (rest := []) C hM hS (tX7_check l G M77 (xs (v3 + 1).toNatClampNeg) r79 M80 e78) (uL_47 _ (Nat.le_of_ble_eq_true rfl) (Nat.le_of_ble_eq_true rfl)) (mm_recv C hM (kl (rfl : kT 731 = (6, 0))) (ci := 6) rfl (mm_e6 (rfl : kT 731 = (6, 0)))) hl.1 rfl rfl (Nat.le_of_ble_eq_true rfl) ⟨Nat.le_refl _, Nat.le_refl _⟩ dL_law_411) (fun H locs hM hS => ?_)
                      have hM : mm_P G kR 740 M80 H := hM
                      refine lv_pop hx hb dL_law_414 rfl ?_
                      refine lv_goto (tgt := 991) hx hb dL_law_415 (by decide) ?_
                      obtain ⟨y81, ey81⟩ : ∃ y : Int32, y = (v3 + 5) := ⟨_, rfl⟩
                      have heq := lt_to ey81 heq
                      refine lv_iinc (v := y81) (lv' := [(3, .int y81), (0, .ref b), (1, .ref (mm_lo G + 0)), (2, .ref (mm_lo G + 731))]) hx hb dL_law_991 hl (k := 3) rfl (by rw [ey81]; rfl) (by decide) rfl (fun ls hl => ?_)
                      refine lv_goto (tgt := 18) hx hb dL_law_994 (by decide) ?_
                      exact ih _ _ _ _ _ hM hS (lv_sub hl [1, 2, 3, 0] rfl) heq
                    · have heq := if_f c73 heq
                      by_cases c82 : ((xs v3.toNatClampNeg) &&& 31) = 8
                      · have heq := if_t c82 heq
                        refine lv_tableIn (tgt := 418) hx hb dL_law_32 (by rw [c82]; decide) (by rw [c82]; decide) (by rw [c82]; rfl) (by decide) ?_
                        refine lv_aload_n hx hb dL_law_418 rfl (lv_at hl 1 rfl) ?_
                        refine lv_aload_n hx hb dL_law_419 rfl (lv_at hl 0 rfl) ?_
                        refine lv_iload_n hx hb dL_law_420 rfl (lv_at hl 3 rfl) ?_
                        refine lv_iconst (v := 1) hx hb dL_law_421 (by decide) ?_
                        refine lv_iadd hx hb dL_law_422 ?_
                        obtain ⟨g83, heq⟩ := gd_of heq
                        refine va_sld hx hb hX hbl hbA hS (vp_in_of2 g83) dL_law_423 ?_
                        refine lv_aload_n hx hb dL_law_424 rfl (lv_at hl 0 rfl) ?_
                        refine lv_iload_n hx hb dL_law_425 rfl (lv_at hl 3 rfl) ?_
                        refine lv_iconst (v := 2) hx hb dL_law_426 (by decide) ?_
                        refine lv_iadd hx hb dL_law_427 ?_
                        obtain ⟨g84, heq⟩ := gd_of heq
                        refine va_sld hx hb hX hbl hbA hS (vp_in_of2 g84) dL_law_428 ?_
                        obtain ⟨r86, M87, e85, heq⟩ := bn2_of heq
                        refine mm_ki hS (mm_runV (rest := []) C hM hS (tX6_swap l G M (xs (v3 + 1).toNatClampNeg) (xs (v3 + 2).toNatClampNeg) r86 M87 e85) (uL_48 _ (Nat.le_of_ble_eq_true rfl) (Nat.le_of_ble_eq_true rfl)) (mm_recv C hM (kl (rfl : kT 0 = (5, 0))) (ci := 5) rfl (mm_e5 (rfl : kT 0 = (5, 0)))) hl.1 rfl rfl (Nat.le_of_ble_eq_true rfl) ⟨Nat.le_refl _, Nat.le_refl _⟩ dL_law_429) (fun H locs hM hS => ?_)
                        have hM : mm_P G kR 740 M87 H := hM
                        refine lv_pop hx hb dL_law_432 rfl ?_
                        refine lv_aload_n hx hb dL_law_433 rfl (lv_at hl 2 rfl) ?_
                        refine lv_aload_n hx hb dL_law_434 rfl (lv_at hl 0 rfl) ?_
                        refine lv_iload_n hx hb dL_law_435 rfl (lv_at hl 3 rfl) ?_
                        refine lv_iconst (v := 1) hx hb dL_law_436 (by decide) ?_
                        refine lv_iadd hx hb dL_law_437 ?_
                        refine va_sld hx hb hX hbl hbA hS (vp_in_of2 g83) dL_law_438 ?_
                        refine lv_aload_n hx hb dL_law_439 rfl (lv_at hl 0 rfl) ?_
                        refine lv_iload_n hx hb dL_law_440 rfl (lv_at hl 3 rfl) ?_
                        refine lv_iconst (v := 2) hx hb dL_law_441 (by decide) ?_
                        refine lv_iadd hx hb dL_law_442 ?_
                        refine va_sld hx hb hX hbl hbA hS (vp_in_of2 g84) dL_law_443 ?_
                        obtain ⟨r89, M90, e88, heq⟩ := bn2_of heq
                        refine mm_ki hS (mm_runV (rest := []) C hM hS (tX7_swap l G M87 (xs (v3 + 1).toNatClampNeg) (xs (v3 + 2).toNatClampNeg) r89 M90 e88) (uL_51 _ (Nat.le_of_ble_eq_true rfl) (Nat.le_of_ble_eq_true rfl)) (mm_recv C hM (kl (rfl : kT 731 = (6, 0))) (ci := 6) rfl (mm_e6 (rfl : kT 731 = (6, 0)))) hl.1 rfl rfl (Nat.le_of_ble_eq_true rfl) ⟨Nat.le_refl _, Nat.le_refl _⟩ dL_law_444) (fun H locs hM hS => ?_)
                        have hM : mm_P G kR 740 M90 H := hM
                        refine lv_pop hx hb dL_law_447 rfl ?_
                        refine lv_goto (tgt := 991) hx hb dL_law_448 (by decide) ?_
                        obtain ⟨y91, ey91⟩ : ∃ y : Int32, y = (v3 + 5) := ⟨_, rfl⟩
                        have heq := lt_to ey91 heq
                        refine lv_iinc (v := y91) (lv' := [(3, .int y91), (0, .ref b), (1, .ref (mm_lo G + 0)), (2, .ref (mm_lo G + 731))]) hx hb dL_law_991 hl (k := 3) rfl (by rw [ey91]; rfl) (by decide) rfl (fun ls hl => ?_)
                        refine lv_goto (tgt := 18) hx hb dL_law_994 (by decide) ?_
                        exact ih _ _ _ _ _ hM hS (lv_sub hl [1, 2, 3, 0] rfl) heq
                      · have heq := if_f c82 heq
                        by_cases c92 : ((xs v3.toNatClampNeg) &&& 31) = 9
                        · have heq := if_t c92 heq
                          refine lv_tableIn (tgt := 451) hx hb dL_law_32 (by rw [c92]; decide) (by rw [c92]; decide) (by rw [c92]; rfl) (by decide) ?_
                          refine lv_aload_n hx hb dL_law_451 rfl (lv_at hl 1 rfl) ?_
                          refine lv_aload_n hx hb dL_law_452 rfl (lv_at hl 0 rfl) ?_
                          refine lv_iload_n hx hb dL_law_453 rfl (lv_at hl 3 rfl) ?_
                          refine lv_iconst (v := 1) hx hb dL_law_454 (by decide) ?_
                          refine lv_iadd hx hb dL_law_455 ?_
                          obtain ⟨g93, heq⟩ := gd_of heq
                          refine va_sld hx hb hX hbl hbA hS (vp_in_of2 g93) dL_law_456 ?_
                          refine lv_aload_n hx hb dL_law_457 rfl (lv_at hl 0 rfl) ?_
                          refine lv_iload_n hx hb dL_law_458 rfl (lv_at hl 3 rfl) ?_
                          refine lv_iconst (v := 2) hx hb dL_law_459 (by decide) ?_
                          refine lv_iadd hx hb dL_law_460 ?_
                          obtain ⟨g94, heq⟩ := gd_of heq
                          refine va_sld hx hb hX hbl hbA hS (vp_in_of2 g94) dL_law_461 ?_
                          obtain ⟨r96, M97, e95, heq⟩ := bn2_of heq
                          refine mm_ki hS (mm_runV (rest := []) C hM hS (tX6_pay l G M (xs (v3 + 1).toNatClampNeg) (xs (v3 + 2).toNatClampNeg) r96 M97 e95) (uL_52 _ (Nat.le_of_ble_eq_true rfl) (Nat.le_of_ble_eq_true rfl)) (mm_recv C hM (kl (rfl : kT 0 = (5, 0))) (ci := 5) rfl (mm_e5 (rfl : kT 0 = (5, 0)))) hl.1 rfl rfl (Nat.le_of_ble_eq_true rfl) ⟨Nat.le_refl _, Nat.le_refl _⟩ dL_law_462) (fun H locs hM hS => ?_)
                          have hM : mm_P G kR 740 M97 H := hM
                          refine lv_pop hx hb dL_law_465 rfl ?_
                          refine lv_aload_n hx hb dL_law_466 rfl (lv_at hl 2 rfl) ?_
                          refine lv_aload_n hx hb dL_law_467 rfl (lv_at hl 0 rfl) ?_
                          refine lv_iload_n hx hb dL_law_468 rfl (lv_at hl 3 rfl) ?_
                          refine lv_iconst (v := 1) hx hb dL_law_469 (by decide) ?_
                          refine lv_iadd hx hb dL_law_470 ?_
                          refine va_sld hx hb hX hbl hbA hS (vp_in_of2 g93) dL_law_471 ?_
                          refine lv_aload_n hx hb dL_law_472 rfl (lv_at hl 0 rfl) ?_
                          refine lv_iload_n hx hb dL_law_473 rfl (lv_at hl 3 rfl) ?_
                          refine lv_iconst (v := 2) hx hb dL_law_474 (by decide) ?_
                          refine lv_iadd hx hb dL_law_475 ?_
                          refine va_sld hx hb hX hbl hbA hS (vp_in_of2 g94) dL_law_476 ?_
                          obtain ⟨r99, M100, e98, heq⟩ := bn2_of heq
                          refine mm_ki hS (mm_runV (rest := []) C hM hS (tX7_pay l G M97 (xs (v3 + 1).toNatClampNeg) (xs (v3 + 2).toNatClampNeg) r99 M100 e98) (uL_55 _ (Nat.le_of_ble_eq_true rfl) (Nat.le_of_ble_eq_true rfl)) (mm_recv C hM (kl (rfl : kT 731 = (6, 0))) (ci := 6) rfl (mm_e6 (rfl : kT 731 = (6, 0)))) hl.1 rfl rfl (Nat.le_of_ble_eq_true rfl) ⟨Nat.le_refl _, Nat.le_refl _⟩ dL_law_477) (fun H locs hM hS => ?_)
                          have hM : mm_P G kR 740 M100 H := hM
                          refine lv_pop hx hb dL_law_480 rfl ?_
                          refine lv_goto (tgt := 991) hx hb dL_law_481 (by decide) ?_
                          obtain ⟨y101, ey101⟩ : ∃ y : Int32, y = (v3 + 5) := ⟨_, rfl⟩
                          have heq := lt_to ey101 heq
                          refine lv_iinc (v := y101) (lv' := [(3, .int y101), (0, .ref b), (1, .ref (mm_lo G + 0)), (2, .ref (mm_lo G + 731))]) hx hb dL_law_991 hl (k := 3) rfl (by rw [ey101]; rfl) (by decide) rfl (fun ls hl => ?_)
                          refine lv_goto (tgt := 18) hx hb dL_law_994 (by decide) ?_
                          exact ih _ _ _ _ _ hM hS (lv_sub hl [1, 2, 3, 0] rfl) heq
                        · have heq := if_f c92 heq
                          by_cases c102 : ((xs v3.toNatClampNeg) &&& 31) = 10
                          · have heq := if_t c102 heq
                            refine lv_tableIn (tgt := 484) hx hb dL_law_32 (by rw [c102]; decide) (by rw [c102]; decide) (by rw [c102]; rfl) (by decide) ?_
                            refine lv_aload_n hx hb dL_law_484 rfl (lv_at hl 1 rfl) ?_
                            refine lv_aload_n hx hb dL_law_485 rfl (lv_at hl 0 rfl) ?_
                            refine lv_iload_n hx hb dL_law_486 rfl (lv_at hl 3 rfl) ?_
                            refine lv_iconst (v := 1) hx hb dL_law_487 (by decide) ?_
                            refine lv_iadd hx hb dL_law_488 ?_
                            obtain ⟨g103, heq⟩ := gd_of heq
                            refine va_sld hx hb hX hbl hbA hS (vp_in_of2 g103) dL_law_489 ?_
                            obtain ⟨r105, M106, e104, heq⟩ := bn2_of heq
                            refine mm_ki hS (mm_runV (rest := []) C hM hS (tX6_days l G M (xs (v3 + 1).toNatClampNeg) r105 M106 e104) (uL_56 _ (Nat.le_of_ble_eq_true rfl) (Nat.le_of_ble_eq_true rfl)) (mm_recv C hM (kl (rfl : kT 0 = (5, 0))) (ci := 5) rfl (mm_e5 (rfl : kT 0 = (5, 0)))) hl.1 rfl rfl (Nat.le_of_ble_eq_true rfl) ⟨Nat.le_refl _, Nat.le_refl _⟩ dL_law_490) (fun H locs hM hS => ?_)
                            have hM : mm_P G kR 740 M106 H := hM
                            refine lv_pop hx hb dL_law_493 rfl ?_
                            refine lv_aload_n hx hb dL_law_494 rfl (lv_at hl 2 rfl) ?_
                            refine lv_aload_n hx hb dL_law_495 rfl (lv_at hl 0 rfl) ?_
                            refine lv_iload_n hx hb dL_law_496 rfl (lv_at hl 3 rfl) ?_
                            refine lv_iconst (v := 1) hx hb dL_law_497 (by decide) ?_
                            refine lv_iadd hx hb dL_law_498 ?_
                            refine va_sld hx hb hX hbl hbA hS (vp_in_of2 g103) dL_law_499 ?_
                            obtain ⟨r108, M109, e107, heq⟩ := bn2_of heq
                            refine mm_ki hS (mm_runV (rest := []) C hM hS (tX7_days l G M106 (xs (v3 + 1).toNatClampNeg) r108 M109 e107) (uL_59 _ (Nat.le_of_ble_eq_true rfl) (Nat.le_of_ble_eq_true rfl)) (mm_recv C hM (kl (rfl : kT 731 = (6, 0))) (ci := 6) rfl (mm_e6 (rfl : kT 731 = (6, 0)))) hl.1 rfl rfl (Nat.le_of_ble_eq_true rfl) ⟨Nat.le_refl _, Nat.le_refl _⟩ dL_law_500) (fun H locs hM hS => ?_)
                            have hM : mm_P G kR 740 M109 H := hM
                            refine lv_pop hx hb dL_law_503 rfl ?_
                            refine lv_goto (tgt := 991) hx hb dL_law_504 (by decide) ?_
                            obtain ⟨y110, ey110⟩ : ∃ y : Int32, y = (v3 + 5) := ⟨_, rfl⟩
                            have heq := lt_to ey110 heq
                            refine lv_iinc (v := y110) (lv' := [(3, .int y110), (0, .ref b), (1, .ref (mm_lo G + 0)), (2, .ref (mm_lo G + 731))]) hx hb dL_law_991 hl (k := 3) rfl (by rw [ey110]; rfl) (by decide) rfl (fun ls hl => ?_)
                            refine lv_goto (tgt := 18) hx hb dL_law_994 (by decide) ?_
                            exact ih _ _ _ _ _ hM hS (lv_sub hl [1, 2, 3, 0] rfl) heq
                          · have heq := if_f c102 heq
                            by_cases c111 : ((xs v3.toNatClampNeg) &&& 31) = 11
                            · have heq := if_t c111 heq
                              refine lv_tableIn (tgt := 507) hx hb dL_law_32 (by rw [c111]; decide) (by rw [c111]; decide) (by rw [c111]; rfl) (by decide) ?_
                              refine lv_aload_n hx hb dL_law_507 rfl (lv_at hl 1 rfl) ?_
                              refine lv_aload_n hx hb dL_law_508 rfl (lv_at hl 0 rfl) ?_
                              refine lv_iload_n hx hb dL_law_509 rfl (lv_at hl 3 rfl) ?_
                              refine lv_iconst (v := 1) hx hb dL_law_510 (by decide) ?_
                              refine lv_iadd hx hb dL_law_511 ?_
                              obtain ⟨g112, heq⟩ := gd_of heq
                              refine va_sld hx hb hX hbl hbA hS (vp_in_of2 g112) dL_law_512 ?_
                              refine lv_aload_n hx hb dL_law_513 rfl (lv_at hl 0 rfl) ?_
                              refine lv_iload_n hx hb dL_law_514 rfl (lv_at hl 3 rfl) ?_
                              refine lv_iconst (v := 2) hx hb dL_law_515 (by decide) ?_
                              refine lv_iadd hx hb dL_law_516 ?_
                              obtain ⟨g113, heq⟩ := gd_of heq
                              refine va_sld hx hb hX hbl hbA hS (vp_in_of2 g113) dL_law_517 ?_
                              obtain ⟨r115, e114, heq⟩ := bn_of heq
                              refine mm_ki hS (mm_runV (rest := []) C hM hS (tX6_ofCart l G M (xs (v3 + 1).toNatClampNeg) (xs (v3 + 2).toNatClampNeg) r115 e114) (uL_60 _ (Nat.le_of_ble_eq_true rfl) (Nat.le_of_ble_eq_true rfl)) (mm_recv C hM (kl (rfl : kT 0 = (5, 0))) (ci := 5) rfl (mm_e5 (rfl : kT 0 = (5, 0)))) hl.1 rfl rfl (Nat.le_of_ble_eq_true rfl) ⟨Nat.le_refl _, Nat.le_refl _⟩ dL_law_518) (fun H locs hM hS => ?_)
                              have hM : mm_P G kR 740 M H := hM
                              refine lv_pop hx hb dL_law_521 rfl ?_
                              refine lv_aload_n hx hb dL_law_522 rfl (lv_at hl 2 rfl) ?_
                              refine lv_aload_n hx hb dL_law_523 rfl (lv_at hl 0 rfl) ?_
                              refine lv_iload_n hx hb dL_law_524 rfl (lv_at hl 3 rfl) ?_
                              refine lv_iconst (v := 1) hx hb dL_law_525 (by decide) ?_
                              refine lv_iadd hx hb dL_law_526 ?_
                              refine va_sld hx hb hX hbl hbA hS (vp_in_of2 g112) dL_law_527 ?_
                              refine lv_aload_n hx hb dL_law_528 rfl (lv_at hl 0 rfl) ?_
                              refine lv_iload_n hx hb dL_law_529 rfl (lv_at hl 3 rfl) ?_
                              refine lv_iconst (v := 2) hx hb dL_law_530 (by decide) ?_
                              refine lv_iadd hx hb dL_law_531 ?_
                              refine va_sld hx hb hX hbl hbA hS (vp_in_of2 g113) dL_law_532 ?_
                              obtain ⟨r117, e116, heq⟩ := bn_of heq
                              refine mm_ki hS (mm_runV (rest := []) C hM hS (tX7_ofCart l G M (xs (v3 + 1).toNatClampNeg) (xs (v3 + 2).toNatClampNeg) r117 e116) (uL_63 _ (Nat.le_of_ble_eq_true rfl) (Nat.le_of_ble_eq_true rfl)) (mm_recv C hM (kl (rfl : kT 731 = (6, 0))) (ci := 6) rfl (mm_e6 (rfl : kT 731 = (6, 0)))) hl.1 rfl rfl (Nat.le_of_ble_eq_true rfl) ⟨Nat.le_refl _, Nat.le_refl _⟩ dL_law_533) (fun H locs hM hS => ?_)
                              have hM : mm_P G kR 740 M H := hM
                              refine lv_pop hx hb dL_law_536 rfl ?_
                              refine lv_goto (tgt := 991) hx hb dL_law_537 (by decide) ?_
                              obtain ⟨y118, ey118⟩ : ∃ y : Int32, y = (v3 + 5) := ⟨_, rfl⟩
                              have heq := lt_to ey118 heq
                              refine lv_iinc (v := y118) (lv' := [(3, .int y118), (0, .ref b), (1, .ref (mm_lo G + 0)), (2, .ref (mm_lo G + 731))]) hx hb dL_law_991 hl (k := 3) rfl (by rw [ey118]; rfl) (by decide) rfl (fun ls hl => ?_)
                              refine lv_goto (tgt := 18) hx hb dL_law_994 (by decide) ?_
                              exact ih _ _ _ _ _ hM hS (lv_sub hl [1, 2, 3, 0] rfl) heq
                            · have heq := if_f c111 heq
                              by_cases c119 : ((xs v3.toNatClampNeg) &&& 31) = 12
                              · have heq := if_t c119 heq
                                refine lv_tableIn (tgt := 540) hx hb dL_law_32 (by rw [c119]; decide) (by rw [c119]; decide) (by rw [c119]; rfl) (by decide) ?_
                                refine lv_aload_n hx hb dL_law_540 rfl (lv_at hl 1 rfl) ?_
                                refine lv_aload_n hx hb dL_law_541 rfl (lv_at hl 0 rfl) ?_
                                refine lv_iload_n hx hb dL_law_542 rfl (lv_at hl 3 rfl) ?_
                                refine lv_iconst (v := 1) hx hb dL_law_543 (by decide) ?_
                                refine lv_iadd hx hb dL_law_544 ?_
                                obtain ⟨g120, heq⟩ := gd_of heq
                                refine va_sld hx hb hX hbl hbA hS (vp_in_of2 g120) dL_law_545 ?_
                                refine lv_aload_n hx hb dL_law_546 rfl (lv_at hl 0 rfl) ?_
                                refine lv_iload_n hx hb dL_law_547 rfl (lv_at hl 3 rfl) ?_
                                refine lv_iconst (v := 2) hx hb dL_law_548 (by decide) ?_
                                refine lv_iadd hx hb dL_law_549 ?_
                                obtain ⟨g121, heq⟩ := gd_of heq
                                refine va_sld hx hb hX hbl hbA hS (vp_in_of2 g121) dL_law_550 ?_
                                obtain ⟨r123, e122, heq⟩ := bn_of heq
                                refine mm_kl hS (mm_runV (rest := []) C hM hS (tX6_money l G M (xs (v3 + 1).toNatClampNeg) (xs (v3 + 2).toNatClampNeg) r123 e122) (uL_64 _ (Nat.le_of_ble_eq_true rfl) (Nat.le_of_ble_eq_true rfl)) (mm_recv C hM (kl (rfl : kT 0 = (5, 0))) (ci := 5) rfl (mm_e5 (rfl : kT 0 = (5, 0)))) hl.1 rfl rfl (Nat.le_of_ble_eq_true rfl) ⟨Nat.le_refl _, Nat.le_refl _⟩ dL_law_551) (fun H locs hM hS => ?_)
                                have hM : mm_P G kR 740 M H := hM
                                refine lv_pop2_2 hx hb dL_law_554 rfl ?_
                                refine lv_aload_n hx hb dL_law_555 rfl (lv_at hl 2 rfl) ?_
                                refine lv_aload_n hx hb dL_law_556 rfl (lv_at hl 0 rfl) ?_
                                refine lv_iload_n hx hb dL_law_557 rfl (lv_at hl 3 rfl) ?_
                                refine lv_iconst (v := 1) hx hb dL_law_558 (by decide) ?_
                                refine lv_iadd hx hb dL_law_559 ?_
                                refine va_sld hx hb hX hbl hbA hS (vp_in_of2 g120) dL_law_560 ?_
                                refine lv_aload_n hx hb dL_law_561 rfl (lv_at hl 0 rfl) ?_
                                refine lv_iload_n hx hb dL_law_562 rfl (lv_at hl 3 rfl) ?_
                                refine lv_iconst (v := 2) hx hb dL_law_563 (by decide) ?_
                                refine lv_iadd hx hb dL_law_564 ?_
                                refine va_sld hx hb hX hbl hbA hS (vp_in_of2 g121) dL_law_565 ?_
                                obtain ⟨r125, e124, heq⟩ := bn_of heq
                                refine mm_kl hS (mm_runV (rest := []) C hM hS (tX7_money l G M (xs (v3 + 1).toNatClampNeg) (xs (v3 + 2).toNatClampNeg) r125 e124) (uL_68 _ (Nat.le_of_ble_eq_true rfl) (Nat.le_of_ble_eq_true rfl)) (mm_recv C hM (kl (rfl : kT 731 = (6, 0))) (ci := 6) rfl (mm_e6 (rfl : kT 731 = (6, 0)))) hl.1 rfl rfl (Nat.le_of_ble_eq_true rfl) ⟨Nat.le_refl _, Nat.le_refl _⟩ dL_law_566) (fun H locs hM hS => ?_)
                                have hM : mm_P G kR 740 M H := hM
                                refine lv_pop2_2 hx hb dL_law_569 rfl ?_
                                refine lv_goto (tgt := 991) hx hb dL_law_570 (by decide) ?_
                                obtain ⟨y126, ey126⟩ : ∃ y : Int32, y = (v3 + 5) := ⟨_, rfl⟩
                                have heq := lt_to ey126 heq
                                refine lv_iinc (v := y126) (lv' := [(3, .int y126), (0, .ref b), (1, .ref (mm_lo G + 0)), (2, .ref (mm_lo G + 731))]) hx hb dL_law_991 hl (k := 3) rfl (by rw [ey126]; rfl) (by decide) rfl (fun ls hl => ?_)
                                refine lv_goto (tgt := 18) hx hb dL_law_994 (by decide) ?_
                                exact ih _ _ _ _ _ hM hS (lv_sub hl [1, 2, 3, 0] rfl) heq
                              · have heq := if_f c119 heq
                                by_cases c127 : ((xs v3.toNatClampNeg) &&& 31) = 13
                                · have heq := if_t c127 heq
                                  refine lv_tableIn (tgt := 573) hx hb dL_law_32 (by rw [c127]; decide) (by rw [c127]; decide) (by rw [c127]; rfl) (by decide) ?_
                                  refine lv_aload_n hx hb dL_law_573 rfl (lv_at hl 1 rfl) ?_
                                  refine lv_aload_n hx hb dL_law_574 rfl (lv_at hl 0 rfl) ?_
                                  refine lv_iload_n hx hb dL_law_575 rfl (lv_at hl 3 rfl) ?_
                                  refine lv_iconst (v := 1) hx hb dL_law_576 (by decide) ?_
                                  refine lv_iadd hx hb dL_law_577 ?_
                                  obtain ⟨g128, heq⟩ := gd_of heq
                                  refine va_sld hx hb hX hbl hbA hS (vp_in_of2 g128) dL_law_578 ?_
                                  refine lv_aload_n hx hb dL_law_579 rfl (lv_at hl 0 rfl) ?_
                                  refine lv_iload_n hx hb dL_law_580 rfl (lv_at hl 3 rfl) ?_
                                  refine lv_iconst (v := 2) hx hb dL_law_581 (by decide) ?_
                                  refine lv_iadd hx hb dL_law_582 ?_
                                  obtain ⟨g129, heq⟩ := gd_of heq
                                  refine va_sld hx hb hX hbl hbA hS (vp_in_of2 g129) dL_law_583 ?_
                                  obtain ⟨r131, e130, heq⟩ := bn_of heq
                                  refine mm_ki hS (mm_runV (rest := []) C hM hS (tX6_ofPitch l G M (xs (v3 + 1).toNatClampNeg) (xs (v3 + 2).toNatClampNeg) r131 e130) (uL_69 _ (Nat.le_of_ble_eq_true rfl) (Nat.le_of_ble_eq_true rfl)) (mm_recv C hM (kl (rfl : kT 0 = (5, 0))) (ci := 5) rfl (mm_e5 (rfl : kT 0 = (5, 0)))) hl.1 rfl rfl (Nat.le_of_ble_eq_true rfl) ⟨Nat.le_refl _, Nat.le_refl _⟩ dL_law_584) (fun H locs hM hS => ?_)
                                  have hM : mm_P G kR 740 M H := hM
                                  refine lv_pop hx hb dL_law_587 rfl ?_
                                  refine lv_aload_n hx hb dL_law_588 rfl (lv_at hl 2 rfl) ?_
                                  refine lv_aload_n hx hb dL_law_589 rfl (lv_at hl 0 rfl) ?_
                                  refine lv_iload_n hx hb dL_law_590 rfl (lv_at hl 3 rfl) ?_
                                  refine lv_iconst (v := 1) hx hb dL_law_591 (by decide) ?_
                                  refine lv_iadd hx hb dL_law_592 ?_
                                  refine va_sld hx hb hX hbl hbA hS (vp_in_of2 g128) dL_law_593 ?_
                                  refine lv_aload_n hx hb dL_law_594 rfl (lv_at hl 0 rfl) ?_
                                  refine lv_iload_n hx hb dL_law_595 rfl (lv_at hl 3 rfl) ?_
                                  refine lv_iconst (v := 2) hx hb dL_law_596 (by decide) ?_
                                  refine lv_iadd hx hb dL_law_597 ?_
                                  refine va_sld hx hb hX hbl hbA hS (vp_in_of2 g129) dL_law_598 ?_
                                  obtain ⟨r133, e132, heq⟩ := bn_of heq
                                  refine mm_ki hS (mm_runV (rest := []) C hM hS (tX7_ofPitch l G M (xs (v3 + 1).toNatClampNeg) (xs (v3 + 2).toNatClampNeg) r133 e132) (uL_72 _ (Nat.le_of_ble_eq_true rfl) (Nat.le_of_ble_eq_true rfl)) (mm_recv C hM (kl (rfl : kT 731 = (6, 0))) (ci := 6) rfl (mm_e6 (rfl : kT 731 = (6, 0)))) hl.1 rfl rfl (Nat.le_of_ble_eq_true rfl) ⟨Nat.le_refl _, Nat.le_refl _⟩ dL_law_599) (fun H locs hM hS => ?_)
                                  have hM : mm_P G kR 740 M H := hM
                                  refine lv_pop hx hb dL_law_602 rfl ?_
                                  refine lv_goto (tgt := 991) hx hb dL_law_603 (by decide) ?_
                                  obtain ⟨y134, ey134⟩ : ∃ y : Int32, y = (v3 + 5) := ⟨_, rfl⟩
                                  have heq := lt_to ey134 heq
                                  refine lv_iinc (v := y134) (lv' := [(3, .int y134), (0, .ref b), (1, .ref (mm_lo G + 0)), (2, .ref (mm_lo G + 731))]) hx hb dL_law_991 hl (k := 3) rfl (by rw [ey134]; rfl) (by decide) rfl (fun ls hl => ?_)
                                  refine lv_goto (tgt := 18) hx hb dL_law_994 (by decide) ?_
                                  exact ih _ _ _ _ _ hM hS (lv_sub hl [1, 2, 3, 0] rfl) heq
                                · have heq := if_f c127 heq
                                  by_cases c135 : ((xs v3.toNatClampNeg) &&& 31) = 14
                                  · have heq := if_t c135 heq
                                    refine lv_tableIn (tgt := 606) hx hb dL_law_32 (by rw [c135]; decide) (by rw [c135]; decide) (by rw [c135]; rfl) (by decide) ?_
                                    refine lv_aload_n hx hb dL_law_606 rfl (lv_at hl 1 rfl) ?_
                                    refine lv_aload_n hx hb dL_law_607 rfl (lv_at hl 0 rfl) ?_
                                    refine lv_iload_n hx hb dL_law_608 rfl (lv_at hl 3 rfl) ?_
                                    refine lv_iconst (v := 1) hx hb dL_law_609 (by decide) ?_
                                    refine lv_iadd hx hb dL_law_610 ?_
                                    obtain ⟨g136, heq⟩ := gd_of heq
                                    refine va_sld hx hb hX hbl hbA hS (vp_in_of2 g136) dL_law_611 ?_
                                    obtain ⟨r138, e137, heq⟩ := bn_of heq
                                    refine mm_ki hS (mm_runV (rest := []) C hM hS (tX6_count l G M (xs (v3 + 1).toNatClampNeg) r138 e137) (uL_73 _ (Nat.le_of_ble_eq_true rfl) (Nat.le_of_ble_eq_true rfl)) (mm_recv C hM (kl (rfl : kT 0 = (5, 0))) (ci := 5) rfl (mm_e5 (rfl : kT 0 = (5, 0)))) hl.1 rfl rfl (Nat.le_of_ble_eq_true rfl) ⟨Nat.le_refl _, Nat.le_refl _⟩ dL_law_612) (fun H locs hM hS => ?_)
                                    have hM : mm_P G kR 740 M H := hM
                                    refine lv_pop hx hb dL_law_615 rfl ?_
                                    refine lv_aload_n hx hb dL_law_616 rfl (lv_at hl 2 rfl) ?_
                                    refine lv_aload_n hx hb dL_law_617 rfl (lv_at hl 0 rfl) ?_
                                    refine lv_iload_n hx hb dL_law_618 rfl (lv_at hl 3 rfl) ?_
                                    refine lv_iconst (v := 1) hx hb dL_law_619 (by decide) ?_
                                    refine lv_iadd hx hb dL_law_620 ?_
                                    refine va_sld hx hb hX hbl hbA hS (vp_in_of2 g136) dL_law_621 ?_
                                    obtain ⟨r140, e139, heq⟩ := bn_of heq
                                    refine mm_ki hS (mm_runV (rest := []) C hM hS (tX7_count l G M (xs (v3 + 1).toNatClampNeg) r140 e139) (uL_76 _ (Nat.le_of_ble_eq_true rfl) (Nat.le_of_ble_eq_true rfl)) (mm_recv C hM (kl (rfl : kT 731 = (6, 0))) (ci := 6) rfl (mm_e6 (rfl : kT 731 = (6, 0)))) hl.1 rfl rfl (Nat.le_of_ble_eq_true rfl) ⟨Nat.le_refl _, Nat.le_refl _⟩ dL_law_622) (fun H locs hM hS => ?_)
                                    have hM : mm_P G kR 740 M H := hM
                                    refine lv_pop hx hb dL_law_625 rfl ?_
                                    refine lv_goto (tgt := 991) hx hb dL_law_626 (by decide) ?_
                                    obtain ⟨y141, ey141⟩ : ∃ y : Int32, y = (v3 + 5) := ⟨_, rfl⟩
                                    have heq := lt_to ey141 heq
                                    refine lv_iinc (v := y141) (lv' := [(3, .int y141), (0, .ref b), (1, .ref (mm_lo G + 0)), (2, .ref (mm_lo G + 731))]) hx hb dL_law_991 hl (k := 3) rfl (by rw [ey141]; rfl) (by decide) rfl (fun ls hl => ?_)
                                    refine lv_goto (tgt := 18) hx hb dL_law_994 (by decide) ?_
                                    exact ih _ _ _ _ _ hM hS (lv_sub hl [1, 2, 3, 0] rfl) heq
                                  · have heq := if_f c135 heq
                                    by_cases c142 : ((xs v3.toNatClampNeg) &&& 31) = 15
                                    · have heq := if_t c142 heq
                                      refine lv_tableIn (tgt := 629) hx hb dL_law_32 (by rw [c142]; decide) (by rw [c142]; decide) (by rw [c142]; rfl) (by decide) ?_
                                      refine lv_aload_n hx hb dL_law_629 rfl (lv_at hl 1 rfl) ?_
                                      refine lv_aload_n hx hb dL_law_630 rfl (lv_at hl 0 rfl) ?_
                                      refine lv_iload_n hx hb dL_law_631 rfl (lv_at hl 3 rfl) ?_
                                      refine lv_iconst (v := 1) hx hb dL_law_632 (by decide) ?_
                                      refine lv_iadd hx hb dL_law_633 ?_
                                      obtain ⟨g143, heq⟩ := gd_of heq
                                      refine va_sld hx hb hX hbl hbA hS (vp_in_of2 g143) dL_law_634 ?_
                                      refine lv_aload_n hx hb dL_law_635 rfl (lv_at hl 0 rfl) ?_
                                      refine lv_iload_n hx hb dL_law_636 rfl (lv_at hl 3 rfl) ?_
                                      refine lv_iconst (v := 2) hx hb dL_law_637 (by decide) ?_
                                      refine lv_iadd hx hb dL_law_638 ?_
                                      obtain ⟨g144, heq⟩ := gd_of heq
                                      refine va_sld hx hb hX hbl hbA hS (vp_in_of2 g144) dL_law_639 ?_
                                      obtain ⟨r146, e145, heq⟩ := bn_of heq
                                      refine mm_ki hS (mm_runV (rest := []) C hM hS (tX6_pointsOn l G M (xs (v3 + 1).toNatClampNeg) (xs (v3 + 2).toNatClampNeg) r146 e145) (uL_77 _ (Nat.le_of_ble_eq_true rfl) (Nat.le_of_ble_eq_true rfl)) (mm_recv C hM (kl (rfl : kT 0 = (5, 0))) (ci := 5) rfl (mm_e5 (rfl : kT 0 = (5, 0)))) hl.1 rfl rfl (Nat.le_of_ble_eq_true rfl) ⟨Nat.le_refl _, Nat.le_refl _⟩ dL_law_640) (fun H locs hM hS => ?_)
                                      have hM : mm_P G kR 740 M H := hM
                                      refine lv_pop hx hb dL_law_643 rfl ?_
                                      refine lv_aload_n hx hb dL_law_644 rfl (lv_at hl 2 rfl) ?_
                                      refine lv_aload_n hx hb dL_law_645 rfl (lv_at hl 0 rfl) ?_
                                      refine lv_iload_n hx hb dL_law_646 rfl (lv_at hl 3 rfl) ?_
                                      refine lv_iconst (v := 1) hx hb dL_law_647 (by decide) ?_
                                      refine lv_iadd hx hb dL_law_648 ?_
                                      refine va_sld hx hb hX hbl hbA hS (vp_in_of2 g143) dL_law_649 ?_
                                      refine lv_aload_n hx hb dL_law_650 rfl (lv_at hl 0 rfl) ?_
                                      refine lv_iload_n hx hb dL_law_651 rfl (lv_at hl 3 rfl) ?_
                                      refine lv_iconst (v := 2) hx hb dL_law_652 (by decide) ?_
                                      refine lv_iadd hx hb dL_law_653 ?_
                                      refine va_sld hx hb hX hbl hbA hS (vp_in_of2 g144) dL_law_654 ?_
                                      obtain ⟨r148, e147, heq⟩ := bn_of heq
                                      refine mm_ki hS (mm_runV (rest := []) C hM hS (tX7_pointsOn l G M (xs (v3 + 1).toNatClampNeg) (xs (v3 + 2).toNatClampNeg) r148 e147) (uL_80 _ (Nat.le_of_ble_eq_true rfl) (Nat.le_of_ble_eq_true rfl)) (mm_recv C hM (kl (rfl : kT 731 = (6, 0))) (ci := 6) rfl (mm_e6 (rfl : kT 731 = (6, 0)))) hl.1 rfl rfl (Nat.le_of_ble_eq_true rfl) ⟨Nat.le_refl _, Nat.le_refl _⟩ dL_law_655) (fun H locs hM hS => ?_)
                                      have hM : mm_P G kR 740 M H := hM
                                      refine lv_pop hx hb dL_law_658 rfl ?_
                                      refine lv_goto (tgt := 991) hx hb dL_law_659 (by decide) ?_
                                      obtain ⟨y149, ey149⟩ : ∃ y : Int32, y = (v3 + 5) := ⟨_, rfl⟩
                                      have heq := lt_to ey149 heq
                                      refine lv_iinc (v := y149) (lv' := [(3, .int y149), (0, .ref b), (1, .ref (mm_lo G + 0)), (2, .ref (mm_lo G + 731))]) hx hb dL_law_991 hl (k := 3) rfl (by rw [ey149]; rfl) (by decide) rfl (fun ls hl => ?_)
                                      refine lv_goto (tgt := 18) hx hb dL_law_994 (by decide) ?_
                                      exact ih _ _ _ _ _ hM hS (lv_sub hl [1, 2, 3, 0] rfl) heq
                                    · have heq := if_f c142 heq
                                      by_cases c150 : ((xs v3.toNatClampNeg) &&& 31) = 16
                                      · have heq := if_t c150 heq
                                        refine lv_tableIn (tgt := 662) hx hb dL_law_32 (by rw [c150]; decide) (by rw [c150]; decide) (by rw [c150]; rfl) (by decide) ?_
                                        refine lv_aload_n hx hb dL_law_662 rfl (lv_at hl 1 rfl) ?_
                                        refine lv_aload_n hx hb dL_law_663 rfl (lv_at hl 0 rfl) ?_
                                        refine lv_iload_n hx hb dL_law_664 rfl (lv_at hl 3 rfl) ?_
                                        refine lv_iconst (v := 1) hx hb dL_law_665 (by decide) ?_
                                        refine lv_iadd hx hb dL_law_666 ?_
                                        obtain ⟨g151, heq⟩ := gd_of heq
                                        refine va_sld hx hb hX hbl hbA hS (vp_in_of2 g151) dL_law_667 ?_
                                        obtain ⟨r153, M154, e152, heq⟩ := bn2_of heq
                                        refine mm_ki hS (mm_runV (rest := []) C hM hS (tX6_wouldHave l G M (xs (v3 + 1).toNatClampNeg) r153 M154 e152) (uL_81 _ (Nat.le_of_ble_eq_true rfl) (Nat.le_of_ble_eq_true rfl)) (mm_recv C hM (kl (rfl : kT 0 = (5, 0))) (ci := 5) rfl (mm_e5 (rfl : kT 0 = (5, 0)))) hl.1 rfl rfl (Nat.le_of_ble_eq_true rfl) ⟨Nat.le_refl _, Nat.le_refl _⟩ dL_law_668) (fun H locs hM hS => ?_)
                                        have hM : mm_P G kR 740 M154 H := hM
                                        refine lv_pop hx hb dL_law_671 rfl ?_
                                        refine lv_aload_n hx hb dL_law_672 rfl (lv_at hl 2 rfl) ?_
                                        refine lv_aload_n hx hb dL_law_673 rfl (lv_at hl 0 rfl) ?_
                                        refine lv_iload_n hx hb dL_law_674 rfl (lv_at hl 3 rfl) ?_
                                        refine lv_iconst (v := 1) hx hb dL_law_675 (by decide) ?_
                                        refine lv_iadd hx hb dL_law_676 ?_
                                        refine va_sld hx hb hX hbl hbA hS (vp_in_of2 g151) dL_law_677 ?_
                                        obtain ⟨r156, M157, e155, heq⟩ := bn2_of heq
                                        refine mm_ki hS (mm_runV (rest := []) C hM hS (tX7_wouldHave l G M154 (xs (v3 + 1).toNatClampNeg) r156 M157 e155) (uL_84 _ (Nat.le_of_ble_eq_true rfl) (Nat.le_of_ble_eq_true rfl)) (mm_recv C hM (kl (rfl : kT 731 = (6, 0))) (ci := 6) rfl (mm_e6 (rfl : kT 731 = (6, 0)))) hl.1 rfl rfl (Nat.le_of_ble_eq_true rfl) ⟨Nat.le_refl _, Nat.le_refl _⟩ dL_law_678) (fun H locs hM hS => ?_)
                                        have hM : mm_P G kR 740 M157 H := hM
                                        refine lv_pop hx hb dL_law_681 rfl ?_
                                        refine lv_goto (tgt := 991) hx hb dL_law_682 (by decide) ?_
                                        obtain ⟨y158, ey158⟩ : ∃ y : Int32, y = (v3 + 5) := ⟨_, rfl⟩
                                        have heq := lt_to ey158 heq
                                        refine lv_iinc (v := y158) (lv' := [(3, .int y158), (0, .ref b), (1, .ref (mm_lo G + 0)), (2, .ref (mm_lo G + 731))]) hx hb dL_law_991 hl (k := 3) rfl (by rw [ey158]; rfl) (by decide) rfl (fun ls hl => ?_)
                                        refine lv_goto (tgt := 18) hx hb dL_law_994 (by decide) ?_
                                        exact ih _ _ _ _ _ hM hS (lv_sub hl [1, 2, 3, 0] rfl) heq
                                      · have heq := if_f c150 heq
                                        by_cases c159 : ((xs v3.toNatClampNeg) &&& 31) = 17
                                        · have heq := if_t c159 heq
                                          refine lv_tableIn (tgt := 685) hx hb dL_law_32 (by rw [c159]; decide) (by rw [c159]; decide) (by rw [c159]; rfl) (by decide) ?_
                                          refine lv_aload_n hx hb dL_law_685 rfl (lv_at hl 1 rfl) ?_
                                          refine lv_aload_n hx hb dL_law_686 rfl (lv_at hl 0 rfl) ?_
                                          refine lv_iload_n hx hb dL_law_687 rfl (lv_at hl 3 rfl) ?_
                                          refine lv_iconst (v := 1) hx hb dL_law_688 (by decide) ?_
                                          refine lv_iadd hx hb dL_law_689 ?_
                                          obtain ⟨g160, heq⟩ := gd_of heq
                                          refine va_sld hx hb hX hbl hbA hS (vp_in_of2 g160) dL_law_690 ?_
                                          refine lv_aload_n hx hb dL_law_691 rfl (lv_at hl 0 rfl) ?_
                                          refine lv_iload_n hx hb dL_law_692 rfl (lv_at hl 3 rfl) ?_
                                          refine lv_iconst (v := 2) hx hb dL_law_693 (by decide) ?_
                                          refine lv_iadd hx hb dL_law_694 ?_
                                          obtain ⟨g161, heq⟩ := gd_of heq
                                          refine va_sld hx hb hX hbl hbA hS (vp_in_of2 g161) dL_law_695 ?_
                                          obtain ⟨r163, M164, e162, heq⟩ := bn2_of heq
                                          refine mm_ki hS (mm_runV (rest := []) C hM hS (tX6_ifWished l G M (xs (v3 + 1).toNatClampNeg) (xs (v3 + 2).toNatClampNeg) r163 M164 e162) (uL_85 _ (Nat.le_of_ble_eq_true rfl) (Nat.le_of_ble_eq_true rfl)) (mm_recv C hM (kl (rfl : kT 0 = (5, 0))) (ci := 5) rfl (mm_e5 (rfl : kT 0 = (5, 0)))) hl.1 rfl rfl (Nat.le_of_ble_eq_true rfl) ⟨Nat.le_refl _, Nat.le_refl _⟩ dL_law_696) (fun H locs hM hS => ?_)
                                          have hM : mm_P G kR 740 M164 H := hM
                                          refine lv_pop hx hb dL_law_699 rfl ?_
                                          refine lv_aload_n hx hb dL_law_700 rfl (lv_at hl 2 rfl) ?_
                                          refine lv_aload_n hx hb dL_law_701 rfl (lv_at hl 0 rfl) ?_
                                          refine lv_iload_n hx hb dL_law_702 rfl (lv_at hl 3 rfl) ?_
                                          refine lv_iconst (v := 1) hx hb dL_law_703 (by decide) ?_
                                          refine lv_iadd hx hb dL_law_704 ?_
                                          refine va_sld hx hb hX hbl hbA hS (vp_in_of2 g160) dL_law_705 ?_
                                          refine lv_aload_n hx hb dL_law_706 rfl (lv_at hl 0 rfl) ?_
                                          refine lv_iload_n hx hb dL_law_707 rfl (lv_at hl 3 rfl) ?_
                                          refine lv_iconst (v := 2) hx hb dL_law_708 (by decide) ?_
                                          refine lv_iadd hx hb dL_law_709 ?_
                                          refine va_sld hx hb hX hbl hbA hS (vp_in_of2 g161) dL_law_710 ?_
                                          obtain ⟨r166, M167, e165, heq⟩ := bn2_of heq
                                          refine mm_ki hS (mm_runV (rest := []) C hM hS (tX7_ifWished l G M164 (xs (v3 + 1).toNatClampNeg) (xs (v3 + 2).toNatClampNeg) r166 M167 e165) (uL_88 _ (Nat.le_of_ble_eq_true rfl) (Nat.le_of_ble_eq_true rfl)) (mm_recv C hM (kl (rfl : kT 731 = (6, 0))) (ci := 6) rfl (mm_e6 (rfl : kT 731 = (6, 0)))) hl.1 rfl rfl (Nat.le_of_ble_eq_true rfl) ⟨Nat.le_refl _, Nat.le_refl _⟩ dL_law_711) (fun H locs hM hS => ?_)
                                          have hM : mm_P G kR 740 M167 H := hM
                                          refine lv_pop hx hb dL_law_714 rfl ?_
                                          refine lv_goto (tgt := 991) hx hb dL_law_715 (by decide) ?_
                                          obtain ⟨y168, ey168⟩ : ∃ y : Int32, y = (v3 + 5) := ⟨_, rfl⟩
                                          have heq := lt_to ey168 heq
                                          refine lv_iinc (v := y168) (lv' := [(3, .int y168), (0, .ref b), (1, .ref (mm_lo G + 0)), (2, .ref (mm_lo G + 731))]) hx hb dL_law_991 hl (k := 3) rfl (by rw [ey168]; rfl) (by decide) rfl (fun ls hl => ?_)
                                          refine lv_goto (tgt := 18) hx hb dL_law_994 (by decide) ?_
                                          exact ih _ _ _ _ _ hM hS (lv_sub hl [1, 2, 3, 0] rfl) heq
                                        · have heq := if_f c159 heq
                                          by_cases c169 : ((xs v3.toNatClampNeg) &&& 31) = 18
                                          · have heq := if_t c169 heq
                                            refine lv_tableIn (tgt := 718) hx hb dL_law_32 (by rw [c169]; decide) (by rw [c169]; decide) (by rw [c169]; rfl) (by decide) ?_
                                            refine lv_aload_n hx hb dL_law_718 rfl (lv_at hl 1 rfl) ?_
                                            refine lv_aload_n hx hb dL_law_719 rfl (lv_at hl 0 rfl) ?_
                                            refine lv_iload_n hx hb dL_law_720 rfl (lv_at hl 3 rfl) ?_
                                            refine lv_iconst (v := 1) hx hb dL_law_721 (by decide) ?_
                                            refine lv_iadd hx hb dL_law_722 ?_
                                            obtain ⟨g170, heq⟩ := gd_of heq
                                            refine va_sld hx hb hX hbl hbA hS (vp_in_of2 g170) dL_law_723 ?_
                                            obtain ⟨r172, M173, e171, heq⟩ := bn2_of heq
                                            refine mm_ki hS (mm_runV (rest := []) C hM hS (tX6_firstDay l G M (xs (v3 + 1).toNatClampNeg) r172 M173 e171) (uL_89 _ (Nat.le_of_ble_eq_true rfl) (Nat.le_of_ble_eq_true rfl)) (mm_recv C hM (kl (rfl : kT 0 = (5, 0))) (ci := 5) rfl (mm_e5 (rfl : kT 0 = (5, 0)))) hl.1 rfl rfl (Nat.le_of_ble_eq_true rfl) ⟨Nat.le_refl _, Nat.le_refl _⟩ dL_law_724) (fun H locs hM hS => ?_)
                                            have hM : mm_P G kR 740 M173 H := hM
                                            refine lv_pop hx hb dL_law_727 rfl ?_
                                            refine lv_aload_n hx hb dL_law_728 rfl (lv_at hl 2 rfl) ?_
                                            refine lv_aload_n hx hb dL_law_729 rfl (lv_at hl 0 rfl) ?_
                                            refine lv_iload_n hx hb dL_law_730 rfl (lv_at hl 3 rfl) ?_
                                            refine lv_iconst (v := 1) hx hb dL_law_731 (by decide) ?_
                                            refine lv_iadd hx hb dL_law_732 ?_
                                            refine va_sld hx hb hX hbl hbA hS (vp_in_of2 g170) dL_law_733 ?_
                                            obtain ⟨r175, M176, e174, heq⟩ := bn2_of heq
                                            refine mm_ki hS (mm_runV (rest := []) C hM hS (tX7_firstDay l G M173 (xs (v3 + 1).toNatClampNeg) r175 M176 e174) (uL_92 _ (Nat.le_of_ble_eq_true rfl) (Nat.le_of_ble_eq_true rfl)) (mm_recv C hM (kl (rfl : kT 731 = (6, 0))) (ci := 6) rfl (mm_e6 (rfl : kT 731 = (6, 0)))) hl.1 rfl rfl (Nat.le_of_ble_eq_true rfl) ⟨Nat.le_refl _, Nat.le_refl _⟩ dL_law_734) (fun H locs hM hS => ?_)
                                            have hM : mm_P G kR 740 M176 H := hM
                                            refine lv_pop hx hb dL_law_737 rfl ?_
                                            refine lv_goto (tgt := 991) hx hb dL_law_738 (by decide) ?_
                                            obtain ⟨y177, ey177⟩ : ∃ y : Int32, y = (v3 + 5) := ⟨_, rfl⟩
                                            have heq := lt_to ey177 heq
                                            refine lv_iinc (v := y177) (lv' := [(3, .int y177), (0, .ref b), (1, .ref (mm_lo G + 0)), (2, .ref (mm_lo G + 731))]) hx hb dL_law_991 hl (k := 3) rfl (by rw [ey177]; rfl) (by decide) rfl (fun ls hl => ?_)
                                            refine lv_goto (tgt := 18) hx hb dL_law_994 (by decide) ?_
                                            exact ih _ _ _ _ _ hM hS (lv_sub hl [1, 2, 3, 0] rfl) heq
                                          · have heq := if_f c169 heq
                                            by_cases c178 : ((xs v3.toNatClampNeg) &&& 31) = 19
                                            · have heq := if_t c178 heq
                                              refine lv_tableIn (tgt := 741) hx hb dL_law_32 (by rw [c178]; decide) (by rw [c178]; decide) (by rw [c178]; rfl) (by decide) ?_
                                              refine lv_aload_n hx hb dL_law_741 rfl (lv_at hl 1 rfl) ?_
                                              refine lv_aload_n hx hb dL_law_742 rfl (lv_at hl 0 rfl) ?_
                                              refine lv_iload_n hx hb dL_law_743 rfl (lv_at hl 3 rfl) ?_
                                              refine lv_iconst (v := 1) hx hb dL_law_744 (by decide) ?_
                                              refine lv_iadd hx hb dL_law_745 ?_
                                              obtain ⟨g179, heq⟩ := gd_of heq
                                              refine va_sld hx hb hX hbl hbA hS (vp_in_of2 g179) dL_law_746 ?_
                                              refine lv_aload_n hx hb dL_law_747 rfl (lv_at hl 0 rfl) ?_
                                              refine lv_iload_n hx hb dL_law_748 rfl (lv_at hl 3 rfl) ?_
                                              refine lv_iconst (v := 2) hx hb dL_law_749 (by decide) ?_
                                              refine lv_iadd hx hb dL_law_750 ?_
                                              obtain ⟨g180, heq⟩ := gd_of heq
                                              refine va_sld hx hb hX hbl hbA hS (vp_in_of2 g180) dL_law_751 ?_
                                              obtain ⟨r182, M183, e181, heq⟩ := bn2_of heq
                                              refine mm_ki hS (mm_runV (rest := []) C hM hS (tX6_daysOf l G M (xs (v3 + 1).toNatClampNeg) (xs (v3 + 2).toNatClampNeg) r182 M183 e181) (uL_93 _ (Nat.le_of_ble_eq_true rfl) (Nat.le_of_ble_eq_true rfl)) (mm_recv C hM (kl (rfl : kT 0 = (5, 0))) (ci := 5) rfl (mm_e5 (rfl : kT 0 = (5, 0)))) hl.1 rfl rfl (Nat.le_of_ble_eq_true rfl) ⟨Nat.le_refl _, Nat.le_refl _⟩ dL_law_752) (fun H locs hM hS => ?_)
                                              have hM : mm_P G kR 740 M183 H := hM
                                              refine lv_pop hx hb dL_law_755 rfl ?_
                                              refine lv_aload_n hx hb dL_law_756 rfl (lv_at hl 2 rfl) ?_
                                              refine lv_aload_n hx hb dL_law_757 rfl (lv_at hl 0 rfl) ?_
                                              refine lv_iload_n hx hb dL_law_758 rfl (lv_at hl 3 rfl) ?_
                                              refine lv_iconst (v := 1) hx hb dL_law_759 (by decide) ?_
                                              refine lv_iadd hx hb dL_law_760 ?_
                                              refine va_sld hx hb hX hbl hbA hS (vp_in_of2 g179) dL_law_761 ?_
                                              refine lv_aload_n hx hb dL_law_762 rfl (lv_at hl 0 rfl) ?_
                                              refine lv_iload_n hx hb dL_law_763 rfl (lv_at hl 3 rfl) ?_
                                              refine lv_iconst (v := 2) hx hb dL_law_764 (by decide) ?_
                                              refine lv_iadd hx hb dL_law_765 ?_
                                              refine va_sld hx hb hX hbl hbA hS (vp_in_of2 g180) dL_law_766 ?_
                                              obtain ⟨r185, M186, e184, heq⟩ := bn2_of heq
                                              refine mm_ki hS (mm_runV (rest := []) C hM hS (tX7_daysOf l G M183 (xs (v3 + 1).toNatClampNeg) (xs (v3 + 2).toNatClampNeg) r185 M186 e184) (uL_96 _ (Nat.le_of_ble_eq_true rfl) (Nat.le_of_ble_eq_true rfl)) (mm_recv C hM (kl (rfl : kT 731 = (6, 0))) (ci := 6) rfl (mm_e6 (rfl : kT 731 = (6, 0)))) hl.1 rfl rfl (Nat.le_of_ble_eq_true rfl) ⟨Nat.le_refl _, Nat.le_refl _⟩ dL_law_767) (fun H locs hM hS => ?_)
                                              have hM : mm_P G kR 740 M186 H := hM
                                              refine lv_pop hx hb dL_law_770 rfl ?_
                                              refine lv_goto (tgt := 991) hx hb dL_law_771 (by decide) ?_
                                              obtain ⟨y187, ey187⟩ : ∃ y : Int32, y = (v3 + 5) := ⟨_, rfl⟩
                                              have heq := lt_to ey187 heq
                                              refine lv_iinc (v := y187) (lv' := [(3, .int y187), (0, .ref b), (1, .ref (mm_lo G + 0)), (2, .ref (mm_lo G + 731))]) hx hb dL_law_991 hl (k := 3) rfl (by rw [ey187]; rfl) (by decide) rfl (fun ls hl => ?_)
                                              refine lv_goto (tgt := 18) hx hb dL_law_994 (by decide) ?_
                                              exact ih _ _ _ _ _ hM hS (lv_sub hl [1, 2, 3, 0] rfl) heq
                                            · have heq := if_f c178 heq
                                              by_cases c188 : ((xs v3.toNatClampNeg) &&& 31) = 20
                                              · have heq := if_t c188 heq
                                                refine lv_tableIn (tgt := 774) hx hb dL_law_32 (by rw [c188]; decide) (by rw [c188]; decide) (by rw [c188]; rfl) (by decide) ?_
                                                refine lv_aload_n hx hb dL_law_774 rfl (lv_at hl 1 rfl) ?_
                                                refine lv_aload_n hx hb dL_law_775 rfl (lv_at hl 0 rfl) ?_
                                                refine lv_iload_n hx hb dL_law_776 rfl (lv_at hl 3 rfl) ?_
                                                refine lv_iconst (v := 1) hx hb dL_law_777 (by decide) ?_
                                                refine lv_iadd hx hb dL_law_778 ?_
                                                obtain ⟨g189, heq⟩ := gd_of heq
                                                refine va_sld hx hb hX hbl hbA hS (vp_in_of2 g189) dL_law_779 ?_
                                                refine lv_aload_n hx hb dL_law_780 rfl (lv_at hl 0 rfl) ?_
                                                refine lv_iload_n hx hb dL_law_781 rfl (lv_at hl 3 rfl) ?_
                                                refine lv_iconst (v := 2) hx hb dL_law_782 (by decide) ?_
                                                refine lv_iadd hx hb dL_law_783 ?_
                                                obtain ⟨g190, heq⟩ := gd_of heq
                                                refine va_sld hx hb hX hbl hbA hS (vp_in_of2 g190) dL_law_784 ?_
                                                obtain ⟨r192, M193, e191, heq⟩ := bn2_of heq
                                                refine mm_ki hS (mm_runV (rest := []) C hM hS (tX6_luckySeed l G M (xs (v3 + 1).toNatClampNeg) (xs (v3 + 2).toNatClampNeg) r192 M193 e191) (uL_97 _ (Nat.le_of_ble_eq_true rfl) (Nat.le_of_ble_eq_true rfl)) (mm_recv C hM (kl (rfl : kT 0 = (5, 0))) (ci := 5) rfl (mm_e5 (rfl : kT 0 = (5, 0)))) hl.1 rfl rfl (Nat.le_of_ble_eq_true rfl) ⟨Nat.le_refl _, Nat.le_refl _⟩ dL_law_785) (fun H locs hM hS => ?_)
                                                have hM : mm_P G kR 740 M193 H := hM
                                                refine lv_pop hx hb dL_law_788 rfl ?_
                                                refine lv_aload_n hx hb dL_law_789 rfl (lv_at hl 2 rfl) ?_
                                                refine lv_aload_n hx hb dL_law_790 rfl (lv_at hl 0 rfl) ?_
                                                refine lv_iload_n hx hb dL_law_791 rfl (lv_at hl 3 rfl) ?_
                                                refine lv_iconst (v := 1) hx hb dL_law_792 (by decide) ?_
                                                refine lv_iadd hx hb dL_law_793 ?_
                                                refine va_sld hx hb hX hbl hbA hS (vp_in_of2 g189) dL_law_794 ?_
                                                refine lv_aload_n hx hb dL_law_795 rfl (lv_at hl 0 rfl) ?_
                                                refine lv_iload_n hx hb dL_law_796 rfl (lv_at hl 3 rfl) ?_
                                                refine lv_iconst (v := 2) hx hb dL_law_797 (by decide) ?_
                                                refine lv_iadd hx hb dL_law_798 ?_
                                                refine va_sld hx hb hX hbl hbA hS (vp_in_of2 g190) dL_law_799 ?_
                                                obtain ⟨r195, M196, e194, heq⟩ := bn2_of heq
                                                refine mm_ki hS (mm_runV (rest := []) C hM hS (tX7_luckySeed l G M193 (xs (v3 + 1).toNatClampNeg) (xs (v3 + 2).toNatClampNeg) r195 M196 e194) (uL_100 _ (Nat.le_of_ble_eq_true rfl) (Nat.le_of_ble_eq_true rfl)) (mm_recv C hM (kl (rfl : kT 731 = (6, 0))) (ci := 6) rfl (mm_e6 (rfl : kT 731 = (6, 0)))) hl.1 rfl rfl (Nat.le_of_ble_eq_true rfl) ⟨Nat.le_refl _, Nat.le_refl _⟩ dL_law_800) (fun H locs hM hS => ?_)
                                                have hM : mm_P G kR 740 M196 H := hM
                                                refine lv_pop hx hb dL_law_803 rfl ?_
                                                refine lv_goto (tgt := 991) hx hb dL_law_804 (by decide) ?_
                                                obtain ⟨y197, ey197⟩ : ∃ y : Int32, y = (v3 + 5) := ⟨_, rfl⟩
                                                have heq := lt_to ey197 heq
                                                refine lv_iinc (v := y197) (lv' := [(3, .int y197), (0, .ref b), (1, .ref (mm_lo G + 0)), (2, .ref (mm_lo G + 731))]) hx hb dL_law_991 hl (k := 3) rfl (by rw [ey197]; rfl) (by decide) rfl (fun ls hl => ?_)
                                                refine lv_goto (tgt := 18) hx hb dL_law_994 (by decide) ?_
                                                exact ih _ _ _ _ _ hM hS (lv_sub hl [1, 2, 3, 0] rfl) heq
                                              · have heq := if_f c188 heq
                                                by_cases c198 : ((xs v3.toNatClampNeg) &&& 31) = 21
                                                · have heq := if_t c198 heq
                                                  refine lv_tableIn (tgt := 807) hx hb dL_law_32 (by rw [c198]; decide) (by rw [c198]; decide) (by rw [c198]; rfl) (by decide) ?_
                                                  refine lv_aload_n hx hb dL_law_807 rfl (lv_at hl 1 rfl) ?_
                                                  refine lv_aload_n hx hb dL_law_808 rfl (lv_at hl 0 rfl) ?_
                                                  refine lv_iload_n hx hb dL_law_809 rfl (lv_at hl 3 rfl) ?_
                                                  refine lv_iconst (v := 1) hx hb dL_law_810 (by decide) ?_
                                                  refine lv_iadd hx hb dL_law_811 ?_
                                                  obtain ⟨g199, heq⟩ := gd_of heq
                                                  refine va_sld hx hb hX hbl hbA hS (vp_in_of2 g199) dL_law_812 ?_
                                                  refine lv_aload_n hx hb dL_law_813 rfl (lv_at hl 0 rfl) ?_
                                                  refine lv_iload_n hx hb dL_law_814 rfl (lv_at hl 3 rfl) ?_
                                                  refine lv_iconst (v := 2) hx hb dL_law_815 (by decide) ?_
                                                  refine lv_iadd hx hb dL_law_816 ?_
                                                  obtain ⟨g200, heq⟩ := gd_of heq
                                                  refine va_sld hx hb hX hbl hbA hS (vp_in_of2 g200) dL_law_817 ?_
                                                  obtain ⟨r202, e201, heq⟩ := bn_of heq
                                                  refine mm_ki hS (mm_runV (rest := []) C hM hS (tX6_whyNot l G M (xs (v3 + 1).toNatClampNeg) (xs (v3 + 2).toNatClampNeg) r202 e201) (uL_101 _ (Nat.le_of_ble_eq_true rfl) (Nat.le_of_ble_eq_true rfl)) (mm_recv C hM (kl (rfl : kT 0 = (5, 0))) (ci := 5) rfl (mm_e5 (rfl : kT 0 = (5, 0)))) hl.1 rfl rfl (Nat.le_of_ble_eq_true rfl) ⟨Nat.le_refl _, Nat.le_refl _⟩ dL_law_818) (fun H locs hM hS => ?_)
                                                  have hM : mm_P G kR 740 M H := hM
                                                  refine lv_pop hx hb dL_law_821 rfl ?_
                                                  refine lv_aload_n hx hb dL_law_822 rfl (lv_at hl 2 rfl) ?_
                                                  refine lv_aload_n hx hb dL_law_823 rfl (lv_at hl 0 rfl) ?_
                                                  refine lv_iload_n hx hb dL_law_824 rfl (lv_at hl 3 rfl) ?_
                                                  refine lv_iconst (v := 1) hx hb dL_law_825 (by decide) ?_
                                                  refine lv_iadd hx hb dL_law_826 ?_
                                                  refine va_sld hx hb hX hbl hbA hS (vp_in_of2 g199) dL_law_827 ?_
                                                  refine lv_aload_n hx hb dL_law_828 rfl (lv_at hl 0 rfl) ?_
                                                  refine lv_iload_n hx hb dL_law_829 rfl (lv_at hl 3 rfl) ?_
                                                  refine lv_iconst (v := 2) hx hb dL_law_830 (by decide) ?_
                                                  refine lv_iadd hx hb dL_law_831 ?_
                                                  refine va_sld hx hb hX hbl hbA hS (vp_in_of2 g200) dL_law_832 ?_
                                                  obtain ⟨r204, e203, heq⟩ := bn_of heq
                                                  refine mm_ki hS (mm_runV (rest := []) C hM hS (tX7_whyNot l G M (xs (v3 + 1).toNatClampNeg) (xs (v3 + 2).toNatClampNeg) r204 e203) (uL_104 _ (Nat.le_of_ble_eq_true rfl) (Nat.le_of_ble_eq_true rfl)) (mm_recv C hM (kl (rfl : kT 731 = (6, 0))) (ci := 6) rfl (mm_e6 (rfl : kT 731 = (6, 0)))) hl.1 rfl rfl (Nat.le_of_ble_eq_true rfl) ⟨Nat.le_refl _, Nat.le_refl _⟩ dL_law_833) (fun H locs hM hS => ?_)
                                                  have hM : mm_P G kR 740 M H := hM
                                                  refine lv_pop hx hb dL_law_836 rfl ?_
                                                  refine lv_goto (tgt := 991) hx hb dL_law_837 (by decide) ?_
                                                  obtain ⟨y205, ey205⟩ : ∃ y : Int32, y = (v3 + 5) := ⟨_, rfl⟩
                                                  have heq := lt_to ey205 heq
                                                  refine lv_iinc (v := y205) (lv' := [(3, .int y205), (0, .ref b), (1, .ref (mm_lo G + 0)), (2, .ref (mm_lo G + 731))]) hx hb dL_law_991 hl (k := 3) rfl (by rw [ey205]; rfl) (by decide) rfl (fun ls hl => ?_)
                                                  refine lv_goto (tgt := 18) hx hb dL_law_994 (by decide) ?_
                                                  exact ih _ _ _ _ _ hM hS (lv_sub hl [1, 2, 3, 0] rfl) heq
                                                · have heq := if_f c198 heq
                                                  by_cases c206 : ((xs v3.toNatClampNeg) &&& 31) = 22
                                                  · have heq := if_t c206 heq
                                                    refine lv_tableIn (tgt := 840) hx hb dL_law_32 (by rw [c206]; decide) (by rw [c206]; decide) (by rw [c206]; rfl) (by decide) ?_
                                                    refine lv_aload_n hx hb dL_law_840 rfl (lv_at hl 1 rfl) ?_
                                                    refine lv_aload_n hx hb dL_law_841 rfl (lv_at hl 0 rfl) ?_
                                                    refine lv_iload_n hx hb dL_law_842 rfl (lv_at hl 3 rfl) ?_
                                                    refine lv_iconst (v := 1) hx hb dL_law_843 (by decide) ?_
                                                    refine lv_iadd hx hb dL_law_844 ?_
                                                    obtain ⟨g207, heq⟩ := gd_of heq
                                                    refine va_sld hx hb hX hbl hbA hS (vp_in_of2 g207) dL_law_845 ?_
                                                    refine lv_i2l hx hb dL_law_846 rfl ?_
                                                    refine lv_bipush (v := 32) hx hb dL_law_847 (by decide) ?_
                                                    refine lv_lshl hx hb dL_law_849 rfl ?_
                                                    refine lv_aload_n hx hb dL_law_850 rfl (lv_at hl 0 rfl) ?_
                                                    refine lv_iload_n hx hb dL_law_851 rfl (lv_at hl 3 rfl) ?_
                                                    refine lv_iconst (v := 2) hx hb dL_law_852 (by decide) ?_
                                                    refine lv_iadd hx hb dL_law_853 ?_
                                                    obtain ⟨g208, heq⟩ := gd_of heq
                                                    refine va_sld hx hb hX hbl hbA hS (vp_in_of2 g208) dL_law_854 ?_
                                                    refine lv_i2l hx hb dL_law_855 rfl ?_
                                                    refine mm_ldc2 C kL_105 dL_law_856 ?_
                                                    refine lv_land hx hb dL_law_859 ?_
                                                    refine lv_lor hx hb dL_law_860 ?_
                                                    obtain ⟨r210, M211, e209, heq⟩ := bn2_of heq
                                                    refine mm_ki hS (mm_runV (rest := []) C hM hS (tX6_put l G M ((((xs (v3 + 1).toNatClampNeg).toInt64) <<< ((32 : Int32).toInt64 &&& 63)) ||| (((xs (v3 + 2).toNatClampNeg).toInt64) &&& (4294967295 : Int64))) r210 M211 e209) (uL_107 _ (Nat.le_of_ble_eq_true rfl) (Nat.le_of_ble_eq_true rfl)) (mm_recv C hM (kl (rfl : kT 0 = (5, 0))) (ci := 5) rfl (mm_e5 (rfl : kT 0 = (5, 0)))) hl.1 rfl rfl (Nat.le_of_ble_eq_true rfl) ⟨Nat.le_refl _, Nat.le_refl _⟩ dL_law_861) (fun H locs hM hS => ?_)
                                                    have hM : mm_P G kR 740 M211 H := hM
                                                    refine lv_pop hx hb dL_law_864 rfl ?_
                                                    refine lv_aload_n hx hb dL_law_865 rfl (lv_at hl 2 rfl) ?_
                                                    refine lv_aload_n hx hb dL_law_866 rfl (lv_at hl 0 rfl) ?_
                                                    refine lv_iload_n hx hb dL_law_867 rfl (lv_at hl 3 rfl) ?_
                                                    refine lv_iconst (v := 1) hx hb dL_law_868 (by decide) ?_
                                                    refine lv_iadd hx hb dL_law_869 ?_
                                                    refine va_sld hx hb hX hbl hbA hS (vp_in_of2 g207) dL_law_870 ?_
                                                    refine lv_i2l hx hb dL_law_871 rfl ?_
                                                    refine lv_bipush (v := 32) hx hb dL_law_872 (by decide) ?_
                                                    refine lv_lshl hx hb dL_law_874 rfl ?_
                                                    refine lv_aload_n hx hb dL_law_875 rfl (lv_at hl 0 rfl) ?_
                                                    refine lv_iload_n hx hb dL_law_876 rfl (lv_at hl 3 rfl) ?_
                                                    refine lv_iconst (v := 2) hx hb dL_law_877 (by decide) ?_
                                                    refine lv_iadd hx hb dL_law_878 ?_
                                                    refine va_sld hx hb hX hbl hbA hS (vp_in_of2 g208) dL_law_879 ?_
                                                    refine lv_i2l hx hb dL_law_880 rfl ?_
                                                    refine mm_ldc2 C kL_105 dL_law_881 ?_
                                                    refine lv_land hx hb dL_law_884 ?_
                                                    refine lv_lor hx hb dL_law_885 ?_
                                                    obtain ⟨r213, M214, e212, heq⟩ := bn2_of heq
                                                    refine mm_ki hS (mm_runV (rest := []) C hM hS (tX7_put_ l G M211 ((((xs (v3 + 1).toNatClampNeg).toInt64) <<< ((32 : Int32).toInt64 &&& 63)) ||| (((xs (v3 + 2).toNatClampNeg).toInt64) &&& (4294967295 : Int64))) r213 M214 e212) (uL_111 _ (Nat.le_of_ble_eq_true rfl) (Nat.le_of_ble_eq_true rfl)) (mm_recv C hM (kl (rfl : kT 731 = (6, 0))) (ci := 6) rfl (mm_e6 (rfl : kT 731 = (6, 0)))) hl.1 rfl rfl (Nat.le_of_ble_eq_true rfl) ⟨Nat.le_refl _, Nat.le_refl _⟩ dL_law_886) (fun H locs hM hS => ?_)
                                                    have hM : mm_P G kR 740 M214 H := hM
                                                    refine lv_pop hx hb dL_law_889 rfl ?_
                                                    refine lv_goto (tgt := 991) hx hb dL_law_890 (by decide) ?_
                                                    obtain ⟨y215, ey215⟩ : ∃ y : Int32, y = (v3 + 5) := ⟨_, rfl⟩
                                                    have heq := lt_to ey215 heq
                                                    refine lv_iinc (v := y215) (lv' := [(3, .int y215), (0, .ref b), (1, .ref (mm_lo G + 0)), (2, .ref (mm_lo G + 731))]) hx hb dL_law_991 hl (k := 3) rfl (by rw [ey215]; rfl) (by decide) rfl (fun ls hl => ?_)
                                                    refine lv_goto (tgt := 18) hx hb dL_law_994 (by decide) ?_
                                                    exact ih _ _ _ _ _ hM hS (lv_sub hl [1, 2, 3, 0] rfl) heq
                                                  · have heq := if_f c206 heq
                                                    by_cases c216 : ((xs v3.toNatClampNeg) &&& 31) = 23
                                                    · have heq := if_t c216 heq
                                                      refine lv_tableIn (tgt := 893) hx hb dL_law_32 (by rw [c216]; decide) (by rw [c216]; decide) (by rw [c216]; rfl) (by decide) ?_
                                                      refine lv_aload_n hx hb dL_law_893 rfl (lv_at hl 1 rfl) ?_
                                                      obtain ⟨r218, M219, e217, heq⟩ := bn2_of heq
                                                      refine mm_ki hS (mm_runV (rest := []) C hM hS (tX6_wipe l G M r218 M219 e217) (uL_112 _ (Nat.le_of_ble_eq_true rfl) (Nat.le_of_ble_eq_true rfl)) (mm_recv C hM (kl (rfl : kT 0 = (5, 0))) (ci := 5) rfl (mm_e5 (rfl : kT 0 = (5, 0)))) hl.1 rfl rfl (Nat.le_of_ble_eq_true rfl) ⟨Nat.le_refl _, Nat.le_refl _⟩ dL_law_894) (fun H locs hM hS => ?_)
                                                      have hM : mm_P G kR 740 M219 H := hM
                                                      refine lv_pop hx hb dL_law_897 rfl ?_
                                                      refine lv_aload_n hx hb dL_law_898 rfl (lv_at hl 2 rfl) ?_
                                                      obtain ⟨r221, M222, e220, heq⟩ := bn2_of heq
                                                      refine mm_ki hS (mm_runV (rest := []) C hM hS (tX7_wipe l G M219 r221 M222 e220) (uL_116 _ (Nat.le_of_ble_eq_true rfl) (Nat.le_of_ble_eq_true rfl)) (mm_recv C hM (kl (rfl : kT 731 = (6, 0))) (ci := 6) rfl (mm_e6 (rfl : kT 731 = (6, 0)))) hl.1 rfl rfl (Nat.le_of_ble_eq_true rfl) ⟨Nat.le_refl _, Nat.le_refl _⟩ dL_law_899) (fun H locs hM hS => ?_)
                                                      have hM : mm_P G kR 740 M222 H := hM
                                                      refine lv_pop hx hb dL_law_902 rfl ?_
                                                      refine lv_goto (tgt := 991) hx hb dL_law_903 (by decide) ?_
                                                      obtain ⟨y223, ey223⟩ : ∃ y : Int32, y = (v3 + 5) := ⟨_, rfl⟩
                                                      have heq := lt_to ey223 heq
                                                      refine lv_iinc (v := y223) (lv' := [(3, .int y223), (0, .ref b), (1, .ref (mm_lo G + 0)), (2, .ref (mm_lo G + 731))]) hx hb dL_law_991 hl (k := 3) rfl (by rw [ey223]; rfl) (by decide) rfl (fun ls hl => ?_)
                                                      refine lv_goto (tgt := 18) hx hb dL_law_994 (by decide) ?_
                                                      exact ih _ _ _ _ _ hM hS (lv_sub hl [1, 2, 3, 0] rfl) heq
                                                    · have heq := if_f c216 heq
                                                      by_cases c224 : ((xs v3.toNatClampNeg) &&& 31) = 24
                                                      · have heq := if_t c224 heq
                                                        refine lv_tableIn (tgt := 906) hx hb dL_law_32 (by rw [c224]; decide) (by rw [c224]; decide) (by rw [c224]; rfl) (by decide) ?_
                                                        refine lv_aload_n hx hb dL_law_906 rfl (lv_at hl 1 rfl) ?_
                                                        obtain ⟨r226, e225, heq⟩ := bn_of heq
                                                        refine mm_ki hS (mm_runV (rest := []) C hM hS (tX6_fault l G M r226 e225) (uL_117 _ (Nat.le_of_ble_eq_true rfl) (Nat.le_of_ble_eq_true rfl)) (mm_recv C hM (kl (rfl : kT 0 = (5, 0))) (ci := 5) rfl (mm_e5 (rfl : kT 0 = (5, 0)))) hl.1 rfl rfl (Nat.le_of_ble_eq_true rfl) ⟨Nat.le_refl _, Nat.le_refl _⟩ dL_law_907) (fun H locs hM hS => ?_)
                                                        have hM : mm_P G kR 740 M H := hM
                                                        refine lv_pop hx hb dL_law_910 rfl ?_
                                                        refine lv_aload_n hx hb dL_law_911 rfl (lv_at hl 2 rfl) ?_
                                                        obtain ⟨r228, M229, e227, heq⟩ := bn2_of heq
                                                        refine mm_ki hS (mm_runV (rest := []) C hM hS (tX7_fault l G M r228 M229 e227) (uL_120 _ (Nat.le_of_ble_eq_true rfl) (Nat.le_of_ble_eq_true rfl)) (mm_recv C hM (kl (rfl : kT 731 = (6, 0))) (ci := 6) rfl (mm_e6 (rfl : kT 731 = (6, 0)))) hl.1 rfl rfl (Nat.le_of_ble_eq_true rfl) ⟨Nat.le_refl _, Nat.le_refl _⟩ dL_law_912) (fun H locs hM hS => ?_)
                                                        have hM : mm_P G kR 740 M229 H := hM
                                                        refine lv_pop hx hb dL_law_915 rfl ?_
                                                        refine lv_goto (tgt := 991) hx hb dL_law_916 (by decide) ?_
                                                        obtain ⟨y230, ey230⟩ : ∃ y : Int32, y = (v3 + 5) := ⟨_, rfl⟩
                                                        have heq := lt_to ey230 heq
                                                        refine lv_iinc (v := y230) (lv' := [(3, .int y230), (0, .ref b), (1, .ref (mm_lo G + 0)), (2, .ref (mm_lo G + 731))]) hx hb dL_law_991 hl (k := 3) rfl (by rw [ey230]; rfl) (by decide) rfl (fun ls hl => ?_)
                                                        refine lv_goto (tgt := 18) hx hb dL_law_994 (by decide) ?_
                                                        exact ih _ _ _ _ _ hM hS (lv_sub hl [1, 2, 3, 0] rfl) heq
                                                      · have heq := if_f c224 heq
                                                        by_cases c231 : ((xs v3.toNatClampNeg) &&& 31) = 25
                                                        · have heq := if_t c231 heq
                                                          refine lv_tableIn (tgt := 919) hx hb dL_law_32 (by rw [c231]; decide) (by rw [c231]; decide) (by rw [c231]; rfl) (by decide) ?_
                                                          refine lv_aload_n hx hb dL_law_919 rfl (lv_at hl 1 rfl) ?_
                                                          obtain ⟨r233, M234, e232, heq⟩ := bn2_of heq
                                                          refine mm_ki hS (mm_runV (rest := []) C hM hS (tX6_carryOut l G M r233 M234 e232) (uL_121 _ (Nat.le_of_ble_eq_true rfl) (Nat.le_of_ble_eq_true rfl)) (mm_recv C hM (kl (rfl : kT 0 = (5, 0))) (ci := 5) rfl (mm_e5 (rfl : kT 0 = (5, 0)))) hl.1 rfl rfl (Nat.le_of_ble_eq_true rfl) ⟨Nat.le_refl _, Nat.le_refl _⟩ dL_law_920) (fun H locs hM hS => ?_)
                                                          have hM : mm_P G kR 740 M234 H := hM
                                                          refine lv_pop hx hb dL_law_923 rfl ?_
                                                          refine lv_aload_n hx hb dL_law_924 rfl (lv_at hl 2 rfl) ?_
                                                          obtain ⟨r236, M237, e235, heq⟩ := bn2_of heq
                                                          refine mm_ki hS (mm_runV (rest := []) C hM hS (tX7_carryOut l G M234 r236 M237 e235) (uL_124 _ (Nat.le_of_ble_eq_true rfl) (Nat.le_of_ble_eq_true rfl)) (mm_recv C hM (kl (rfl : kT 731 = (6, 0))) (ci := 6) rfl (mm_e6 (rfl : kT 731 = (6, 0)))) hl.1 rfl rfl (Nat.le_of_ble_eq_true rfl) ⟨Nat.le_refl _, Nat.le_refl _⟩ dL_law_925) (fun H locs hM hS => ?_)
                                                          have hM : mm_P G kR 740 M237 H := hM
                                                          refine lv_pop hx hb dL_law_928 rfl ?_
                                                          refine lv_goto (tgt := 991) hx hb dL_law_929 (by decide) ?_
                                                          obtain ⟨y238, ey238⟩ : ∃ y : Int32, y = (v3 + 5) := ⟨_, rfl⟩
                                                          have heq := lt_to ey238 heq
                                                          refine lv_iinc (v := y238) (lv' := [(3, .int y238), (0, .ref b), (1, .ref (mm_lo G + 0)), (2, .ref (mm_lo G + 731))]) hx hb dL_law_991 hl (k := 3) rfl (by rw [ey238]; rfl) (by decide) rfl (fun ls hl => ?_)
                                                          refine lv_goto (tgt := 18) hx hb dL_law_994 (by decide) ?_
                                                          exact ih _ _ _ _ _ hM hS (lv_sub hl [1, 2, 3, 0] rfl) heq
                                                        · have heq := if_f c231 heq
                                                          by_cases c239 : ((xs v3.toNatClampNeg) &&& 31) = 26
                                                          · have heq := if_t c239 heq
                                                            refine lv_tableIn (tgt := 932) hx hb dL_law_32 (by rw [c239]; decide) (by rw [c239]; decide) (by rw [c239]; rfl) (by decide) ?_
                                                            refine lv_aload_n hx hb dL_law_932 rfl (lv_at hl 1 rfl) ?_
                                                            obtain ⟨r241, M242, e240, heq⟩ := bn2_of heq
                                                            refine mm_ki hS (mm_runV (rest := []) C hM hS (tX6_undo l G M r241 M242 e240) (uL_125 _ (Nat.le_of_ble_eq_true rfl) (Nat.le_of_ble_eq_true rfl)) (mm_recv C hM (kl (rfl : kT 0 = (5, 0))) (ci := 5) rfl (mm_e5 (rfl : kT 0 = (5, 0)))) hl.1 rfl rfl (Nat.le_of_ble_eq_true rfl) ⟨Nat.le_refl _, Nat.le_refl _⟩ dL_law_933) (fun H locs hM hS => ?_)
                                                            have hM : mm_P G kR 740 M242 H := hM
                                                            refine lv_pop hx hb dL_law_936 rfl ?_
                                                            refine lv_aload_n hx hb dL_law_937 rfl (lv_at hl 2 rfl) ?_
                                                            obtain ⟨r244, M245, e243, heq⟩ := bn2_of heq
                                                            refine mm_ki hS (mm_runV (rest := []) C hM hS (tX7_undo l G M242 r244 M245 e243) (uL_128 _ (Nat.le_of_ble_eq_true rfl) (Nat.le_of_ble_eq_true rfl)) (mm_recv C hM (kl (rfl : kT 731 = (6, 0))) (ci := 6) rfl (mm_e6 (rfl : kT 731 = (6, 0)))) hl.1 rfl rfl (Nat.le_of_ble_eq_true rfl) ⟨Nat.le_refl _, Nat.le_refl _⟩ dL_law_938) (fun H locs hM hS => ?_)
                                                            have hM : mm_P G kR 740 M245 H := hM
                                                            refine lv_pop hx hb dL_law_941 rfl ?_
                                                            refine lv_goto (tgt := 991) hx hb dL_law_942 (by decide) ?_
                                                            obtain ⟨y246, ey246⟩ : ∃ y : Int32, y = (v3 + 5) := ⟨_, rfl⟩
                                                            have heq := lt_to ey246 heq
                                                            refine lv_iinc (v := y246) (lv' := [(3, .int y246), (0, .ref b), (1, .ref (mm_lo G + 0)), (2, .ref (mm_lo G + 731))]) hx hb dL_law_991 hl (k := 3) rfl (by rw [ey246]; rfl) (by decide) rfl (fun ls hl => ?_)
                                                            refine lv_goto (tgt := 18) hx hb dL_law_994 (by decide) ?_
                                                            exact ih _ _ _ _ _ hM hS (lv_sub hl [1, 2, 3, 0] rfl) heq
                                                          · have heq := if_f c239 heq
                                                            by_cases c247 : ((xs v3.toNatClampNeg) &&& 31) = 27
                                                            · have heq := if_t c247 heq
                                                              refine lv_tableIn (tgt := 945) hx hb dL_law_32 (by rw [c247]; decide) (by rw [c247]; decide) (by rw [c247]; rfl) (by decide) ?_
                                                              refine lv_aload_n hx hb dL_law_945 rfl (lv_at hl 1 rfl) ?_
                                                              refine lv_aload_n hx hb dL_law_946 rfl (lv_at hl 0 rfl) ?_
                                                              refine lv_iload_n hx hb dL_law_947 rfl (lv_at hl 3 rfl) ?_
                                                              refine lv_iconst (v := 1) hx hb dL_law_948 (by decide) ?_
                                                              refine lv_iadd hx hb dL_law_949 ?_
                                                              obtain ⟨g248, heq⟩ := gd_of heq
                                                              refine va_sld hx hb hX hbl hbA hS (vp_in_of2 g248) dL_law_950 ?_
                                                              obtain ⟨r250, M251, e249, heq⟩ := bn2_of heq
                                                              refine mm_ki hS (mm_runV (rest := []) C hM hS (tX6_save l G M (xs (v3 + 1).toNatClampNeg) r250 M251 e249) (uL_129 _ (Nat.le_of_ble_eq_true rfl) (Nat.le_of_ble_eq_true rfl)) (mm_recv C hM (kl (rfl : kT 0 = (5, 0))) (ci := 5) rfl (mm_e5 (rfl : kT 0 = (5, 0)))) hl.1 rfl rfl (Nat.le_of_ble_eq_true rfl) ⟨Nat.le_refl _, Nat.le_refl _⟩ dL_law_951) (fun H locs hM hS => ?_)
                                                              have hM : mm_P G kR 740 M251 H := hM
                                                              refine lv_pop hx hb dL_law_954 rfl ?_
                                                              refine lv_aload_n hx hb dL_law_955 rfl (lv_at hl 2 rfl) ?_
                                                              refine lv_aload_n hx hb dL_law_956 rfl (lv_at hl 0 rfl) ?_
                                                              refine lv_iload_n hx hb dL_law_957 rfl (lv_at hl 3 rfl) ?_
                                                              refine lv_iconst (v := 1) hx hb dL_law_958 (by decide) ?_
                                                              refine lv_iadd hx hb dL_law_959 ?_
                                                              refine va_sld hx hb hX hbl hbA hS (vp_in_of2 g248) dL_law_960 ?_
                                                              obtain ⟨r253, M254, e252, heq⟩ := bn2_of heq
                                                              refine mm_ki hS (mm_runV (rest := []) C hM hS (tX7_save l G M251 (xs (v3 + 1).toNatClampNeg) r253 M254 e252) (uL_132 _ (Nat.le_of_ble_eq_true rfl) (Nat.le_of_ble_eq_true rfl)) (mm_recv C hM (kl (rfl : kT 731 = (6, 0))) (ci := 6) rfl (mm_e6 (rfl : kT 731 = (6, 0)))) hl.1 rfl rfl (Nat.le_of_ble_eq_true rfl) ⟨Nat.le_refl _, Nat.le_refl _⟩ dL_law_961) (fun H locs hM hS => ?_)
                                                              have hM : mm_P G kR 740 M254 H := hM
                                                              refine lv_pop hx hb dL_law_964 rfl ?_
                                                              refine lv_goto (tgt := 991) hx hb dL_law_965 (by decide) ?_
                                                              obtain ⟨y255, ey255⟩ : ∃ y : Int32, y = (v3 + 5) := ⟨_, rfl⟩
                                                              have heq := lt_to ey255 heq
                                                              refine lv_iinc (v := y255) (lv' := [(3, .int y255), (0, .ref b), (1, .ref (mm_lo G + 0)), (2, .ref (mm_lo G + 731))]) hx hb dL_law_991 hl (k := 3) rfl (by rw [ey255]; rfl) (by decide) rfl (fun ls hl => ?_)
                                                              refine lv_goto (tgt := 18) hx hb dL_law_994 (by decide) ?_
                                                              exact ih _ _ _ _ _ hM hS (lv_sub hl [1, 2, 3, 0] rfl) heq
                                                            · have heq := if_f c247 heq
                                                              by_cases c256 : ((xs v3.toNatClampNeg) &&& 31) = 28
                                                              · have heq := if_t c256 heq
                                                                refine lv_tableIn (tgt := 968) hx hb dL_law_32 (by rw [c256]; decide) (by rw [c256]; decide) (by rw [c256]; rfl) (by decide) ?_
                                                                refine lv_aload_n hx hb dL_law_968 rfl (lv_at hl 1 rfl) ?_
                                                                refine lv_aload_n hx hb dL_law_969 rfl (lv_at hl 0 rfl) ?_
                                                                refine lv_iload_n hx hb dL_law_970 rfl (lv_at hl 3 rfl) ?_
                                                                refine lv_iconst (v := 1) hx hb dL_law_971 (by decide) ?_
                                                                refine lv_iadd hx hb dL_law_972 ?_
                                                                obtain ⟨g257, heq⟩ := gd_of heq
                                                                refine va_sld hx hb hX hbl hbA hS (vp_in_of2 g257) dL_law_973 ?_
                                                                obtain ⟨r259, M260, e258, heq⟩ := bn2_of heq
                                                                refine mm_ki hS (mm_runV (rest := []) C hM hS (tX6_restore l G M (xs (v3 + 1).toNatClampNeg) r259 M260 e258) (uL_133 _ (Nat.le_of_ble_eq_true rfl) (Nat.le_of_ble_eq_true rfl)) (mm_recv C hM (kl (rfl : kT 0 = (5, 0))) (ci := 5) rfl (mm_e5 (rfl : kT 0 = (5, 0)))) hl.1 rfl rfl (Nat.le_of_ble_eq_true rfl) ⟨Nat.le_refl _, Nat.le_refl _⟩ dL_law_974) (fun H locs hM hS => ?_)
                                                                have hM : mm_P G kR 740 M260 H := hM
                                                                refine lv_aload_n hx hb dL_law_977 rfl (lv_at hl 2 rfl) ?_
                                                                refine lv_aload_n hx hb dL_law_978 rfl (lv_at hl 0 rfl) ?_
                                                                refine lv_iload_n hx hb dL_law_979 rfl (lv_at hl 3 rfl) ?_
                                                                refine lv_iconst (v := 1) hx hb dL_law_980 (by decide) ?_
                                                                refine lv_iadd hx hb dL_law_981 ?_
                                                                refine va_sld hx hb hX hbl hbA hS (vp_in_of2 g257) dL_law_982 ?_
                                                                obtain ⟨r262, M263, e261, heq⟩ := bn2_of heq
                                                                refine mm_ki hS (mm_runV (rest := [.int r259]) C hM hS (tX7_restore l G M260 (xs (v3 + 1).toNatClampNeg) r262 M263 e261) (uL_136 _ (Nat.le_of_ble_eq_true rfl) (Nat.le_of_ble_eq_true rfl)) (mm_recv C hM (kl (rfl : kT 731 = (6, 0))) (ci := 6) rfl (mm_e6 (rfl : kT 731 = (6, 0)))) hl.1 rfl rfl (Nat.le_of_ble_eq_true rfl) ⟨Nat.le_refl _, Nat.le_refl _⟩ dL_law_983) (fun H locs hM hS => ?_)
                                                                have hM : mm_P G kR 740 M263 H := hM
                                                                refine lv_icmp_eq (tgt := 991) hx hb dL_law_986 (by decide) (fun c264 => ?_) (fun c264 => ?_)
                                                                · have heq := if_t c264 heq
                                                                  obtain ⟨y265, ey265⟩ : ∃ y : Int32, y = (v3 + 5) := ⟨_, rfl⟩
                                                                  have heq := lt_to ey265 heq
                                                                  refine lv_iinc (v := y265) (lv' := [(3, .int y265), (0, .ref b), (1, .ref (mm_lo G + 0)), (2, .ref (mm_lo G + 731))]) hx hb dL_law_991 hl (k := 3) rfl (by rw [ey265]; rfl) (by decide) rfl (fun ls hl => ?_)
                                                                  refine lv_goto (tgt := 18) hx hb dL_law_994 (by decide) ?_
                                                                  exact ih _ _ _ _ _ hM hS (lv_sub hl [1, 2, 3, 0] rfl) heq
                                                                · have heq := if_f c264 heq
                                                                  refine lv_iconst (v := 0) hx hb dL_law_989 (by decide) ?_
                                                                  cases heq
                                                              · have heq := if_f c256 heq
                                                                refine lv_tableOut (tgt := 991) hx hb dL_law_32 (by have nc3 := lv_neT (k := 0) (a := 0) c3 rfl; have nc13 := lv_neT (k := 1) (a := 1) c13 rfl; have nc22 := lv_neT (k := 2) (a := 2) c22 rfl; have nc31 := lv_neT (k := 3) (a := 3) c31 rfl; have nc41 := lv_neT (k := 4) (a := 4) c41 rfl; have nc51 := lv_neT (k := 5) (a := 5) c51 rfl; have nc63 := lv_neT (k := 6) (a := 6) c63 rfl; have nc73 := lv_neT (k := 7) (a := 7) c73 rfl; have nc82 := lv_neT (k := 8) (a := 8) c82 rfl; have nc92 := lv_neT (k := 9) (a := 9) c92 rfl; have nc102 := lv_neT (k := 10) (a := 10) c102 rfl; have nc111 := lv_neT (k := 11) (a := 11) c111 rfl; have nc119 := lv_neT (k := 12) (a := 12) c119 rfl; have nc127 := lv_neT (k := 13) (a := 13) c127 rfl; have nc135 := lv_neT (k := 14) (a := 14) c135 rfl; have nc142 := lv_neT (k := 15) (a := 15) c142 rfl; have nc150 := lv_neT (k := 16) (a := 16) c150 rfl; have nc159 := lv_neT (k := 17) (a := 17) c159 rfl; have nc169 := lv_neT (k := 18) (a := 18) c169 rfl; have nc178 := lv_neT (k := 19) (a := 19) c178 rfl; have nc188 := lv_neT (k := 20) (a := 20) c188 rfl; have nc198 := lv_neT (k := 21) (a := 21) c198 rfl; have nc206 := lv_neT (k := 22) (a := 22) c206 rfl; have nc216 := lv_neT (k := 23) (a := 23) c216 rfl; have nc224 := lv_neT (k := 24) (a := 24) c224 rfl; have nc231 := lv_neT (k := 25) (a := 25) c231 rfl; have nc239 := lv_neT (k := 26) (a := 26) c239 rfl; have nc247 := lv_neT (k := 27) (a := 27) c247 rfl; have nc256 := lv_neT (k := 28) (a := 28) c256 rfl; omega) (by decide) ?_
                                                                obtain ⟨y266, ey266⟩ : ∃ y : Int32, y = (v3 + 5) := ⟨_, rfl⟩
                                                                have heq := lt_to ey266 heq
                                                                refine lv_iinc (v := y266) (lv' := [(3, .int y266), (0, .ref b), (1, .ref (mm_lo G + 0)), (2, .ref (mm_lo G + 731))]) hx hb dL_law_991 hl (k := 3) rfl (by rw [ey266]; rfl) (by decide) rfl (fun ls hl => ?_)
                                                                refine lv_goto (tgt := 18) hx hb dL_law_994 (by decide) ?_
                                                                exact ih _ _ _ _ _ hM hS (lv_sub hl [1, 2, 3, 0] rfl) heq
end LAWW
