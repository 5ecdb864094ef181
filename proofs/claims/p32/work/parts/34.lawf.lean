def fL_up (M : mm_M) (x0 : Int32) (x1 : Int32) : Option (Int32) :=
  gd (¬ x1 = 0) <|
  some ((x0 &&& 2147483647) - (x0 &&& 2147483647) / x1 * x1)

def fL_cell (M : mm_M) (xs : Nat → Int32) (L : Nat) (x1 : Int32) : Option (Int32) :=
  if (Int32.ofNat L) ≤ x1 then
    some (73244475 * (x1 + 1619))
  else
    gd (¬ (x1 < 0 ∨ L ≤ x1.toNatClampNeg)) <|
    some (xs x1.toNatClampNeg)

def fL_least (M : mm_M) (x0 : Int32) : Option (Int32) :=
  if x0 = 3 then
    some 3
  else
    if x0 = 8 then
      some 6
    else
      if x0 = 6 then
        some 0
      else
        if x0 = 7 then
          some 0
        else
          if x0 = 9 then
            some 0
          else
            some 1

def fL_most (M : mm_M) (x0 : Int32) : Option (Int32) :=
  if x0 = 0 then
    some 20
  else
    if x0 = 1 then
      some 200
    else
      if x0 = 5 then
        some 200
      else
        if x0 = 2 then
          some 8
        else
          if x0 = 3 then
            some 30
          else
            if x0 = 4 then
              some 60
            else
              if x0 = 6 then
                some 10000
              else
                if x0 = 7 then
                  some 9
                else
                  if x0 = 8 then
                    some 14
                  else
                    some 5000

def fL_sets_40 (x1 : Int32) (M : mm_M) (v2 : Int32) (t0 : Int32) (t1 : Int32) (t2 : Int32) : Option (Bool × mm_M) :=
  bn (fL_up M t1 t2) fun r2 =>
  lt (t0 + r2) fun y3 =>
  bn (fX6_count M (8 + v2)) fun r5 =>
  bn (fL_least M v2) fun r7 =>
  bn2 (fX6_set M v2 (r7 - 1)) fun r9 M10 =>
  if r9 = (-2) then
    bn (fL_most M10 v2) fun r13 =>
    bn2 (fX6_set M10 v2 (r13 + 1)) fun r15 M16 =>
    if r15 = (-2) then
      bn2 (fX6_set M16 v2 y3) fun r19 M20 =>
      if r19 = r5 then
        bn (fX6_count M20 (8 + v2)) fun r23 =>
        if r23 = y3 then
          some (true, M20)
        else
          some (false, M20)
      else
        some (false, M20)
    else
      some (false, M16)
  else
    some (false, M10)

def fL_sets_24 (x1 : Int32) (M : mm_M) (v2 : Int32) (t0 : Int32) (t1 : Int32) : Option (Bool × mm_M) :=
  fL_sets_40 x1 M v2 t0 t1 12

def fL_sets (M : mm_M) (x1 : Int32) : Option (Bool × mm_M) :=
  bn (fL_up M x1 10) fun r2 =>
  bn (fL_least M r2) fun r4 =>
  if r2 = 1 then
    fL_sets_24 x1 M r2 r4 (x1 >>> (4 &&& 31))
  else
    if r2 = 5 then
      fL_sets_24 x1 M r2 r4 (x1 >>> (4 &&& 31))
    else
      bn (fL_most M r2) fun r8 =>
      bn (fL_least M r2) fun r10 =>
      fL_sets_40 x1 M r2 r4 (x1 >>> (4 &&& 31)) ((r8 - r10) + 1)

def fL_number_19 (x1 : Int32) (M : mm_M) : Option (mm_M) :=
  bn2 (fX6_put M ((48 + (x1 - x1 / 10 * 10)).toInt64)) fun r2 M3 =>
  some M3

def fL_number (M : mm_M) (x1 : Int32) : Option (mm_M) :=
  if x1 ≤ 9 then
    fL_number_19 x1 M
  else
    bn2 (fX6_put M ((48 + (x1 / 10)).toInt64)) fun r3 M4 =>
    fL_number_19 x1 M4

def fL_one_99 (xs : Nat → Int32) (L : Nat) (x2 : Int32) (M : mm_M) (t1 : Int32) (t2 : Int32) (t3 : Int32) (t4 : Int32) : Option (Int32 × mm_M) :=
  bn2 (fX6_wish M t1 t2 t3 t4) fun r2 M3 =>
  some (r2, M3)

def fL_one_75 (xs : Nat → Int32) (L : Nat) (x2 : Int32) (M : mm_M) (v3 : Int32) (t1 : Int32) (t2 : Int32) (t3 : Int32) : Option (Int32 × mm_M) :=
  if v3 ≤ 2 then
    fL_one_99 xs L x2 M t1 t2 t3 (-6)
  else
    gd (¬ ((x2 + 2) < 0 ∨ L ≤ (x2 + 2).toNatClampNeg)) <|
    gd (¬ ((x2 + 3) < 0 ∨ L ≤ (x2 + 3).toNatClampNeg)) <|
    fL_one_99 xs L x2 M t1 t2 t3 (((xs (x2 + 2).toNatClampNeg) + (xs (x2 + 3).toNatClampNeg)) - ((xs (x2 + 2).toNatClampNeg) + (xs (x2 + 3).toNatClampNeg)) / 10 * 10)

def fL_one_60 (xs : Nat → Int32) (L : Nat) (x2 : Int32) (M : mm_M) (v3 : Int32) (t1 : Int32) (t2 : Int32) : Option (Int32 × mm_M) :=
  if v3 ≤ 1 then
    fL_one_75 xs L x2 M v3 t1 t2 (-6)
  else
    gd (¬ ((x2 + 3) < 0 ∨ L ≤ (x2 + 3).toNatClampNeg)) <|
    fL_one_75 xs L x2 M v3 t1 t2 (xs (x2 + 3).toNatClampNeg)

def fL_one (M : mm_M) (xs : Nat → Int32) (L : Nat) (x2 : Int32) : Option (Int32 × mm_M) :=
  gd (¬ ((x2 + 4) < 0 ∨ L ≤ (x2 + 4).toNatClampNeg)) <|
  lt (xs (x2 + 4).toNatClampNeg) fun y2 =>
  gd (¬ (x2 < 0 ∨ L ≤ x2.toNatClampNeg)) <|
  if (xs x2.toNatClampNeg) = 0 then
    gd (¬ ((x2 + 1) < 0 ∨ L ≤ (x2 + 1).toNatClampNeg)) <|
    if y2 ≤ 0 then
      fL_one_60 xs L x2 M y2 (xs (x2 + 1).toNatClampNeg) (-6)
    else
      gd (¬ ((x2 + 2) < 0 ∨ L ≤ (x2 + 2).toNatClampNeg)) <|
      fL_one_60 xs L x2 M y2 (xs (x2 + 1).toNatClampNeg) (xs (x2 + 2).toNatClampNeg)
  else if (xs x2.toNatClampNeg) = 1 then
    gd (¬ ((x2 + 1) < 0 ∨ L ≤ (x2 + 1).toNatClampNeg)) <|
    gd (¬ ((x2 + 2) < 0 ∨ L ≤ (x2 + 2).toNatClampNeg)) <|
    bn2 (fX6_fine M (xs (x2 + 1).toNatClampNeg) (1 + (xs (x2 + 2).toNatClampNeg))) fun r12 M13 =>
    some (r12, M13)
  else if (xs x2.toNatClampNeg) = 2 then
    gd (¬ ((x2 + 1) < 0 ∨ L ≤ (x2 + 1).toNatClampNeg)) <|
    bn2 (fX6_check M (xs (x2 + 1).toNatClampNeg)) fun r17 M18 =>
    some (r17, M18)
  else if (xs x2.toNatClampNeg) = 3 then
    gd (¬ ((x2 + 1) < 0 ∨ L ≤ (x2 + 1).toNatClampNeg)) <|
    gd (¬ ((x2 + 3) < 0 ∨ L ≤ (x2 + 3).toNatClampNeg)) <|
    bn2 (fX6_swap M (xs (x2 + 1).toNatClampNeg) (xs (x2 + 3).toNatClampNeg)) fun r23 M24 =>
    some (r23, M24)
  else 
    gd (¬ ((x2 + 2) < 0 ∨ L ≤ (x2 + 2).toNatClampNeg)) <|
    bn2 (fX6_days M (xs (x2 + 2).toNatClampNeg)) fun r27 M28 =>
    some (r27, M28)

def fL_lucky (M : mm_M) (x1 : Int32) (x2 : Int32) (x3 : Int32) : Option (Bool × mm_M) :=
  bn2 (fX6_seed M x3) fun r2 M3 =>
  bn2 (fX6_days M3 1) fun r5 M6 =>
  bn (fX6_ofCart M6 x1 12) fun r8 =>
  if r8 < 0 then
    some (false, M6)
  else
    if x2 < 0 then
      some (true, M6)
    else
      bn (fX6_ofCart M6 x1 12) fun r12 =>
      if r12 = x2 then
        some (true, M6)
      else
        some (false, M6)

def fL_told_122 (M : mm_M) (k55 : Int32 → Int32 → Option (Int32)) : Nat → Int32 → Int32 → Int32 → Option (Int32)
  | 0, _, _, _ => none
  | n + 1, v1, v2, v3 =>
    if 12 ≤ v3 then
      lt (v2 + 1) fun y2 =>
      k55 v1 y2
    else
      bn (fX6_count M 0) fun r4 =>
      bn (fX6_pointsOn M v2 (r4 + v3)) fun r6 =>
      lt ((31 * v1) + r6) fun y7 =>
      lt (v3 + 2) fun y8 =>
      fL_told_122 M k55 n y7 v2 y8

def fL_told_92 (M : mm_M) (k55 : Int32 → Int32 → Option (Int32)) : Nat → Int32 → Int32 → Int32 → Option (Int32)
  | 0, _, _, _ => none
  | n + 1, v1, v2, v3 =>
    if 5 ≤ v3 then
      fL_told_122 M k55 FU v1 v2 1
    else
      bn (fX6_money M v2 v3) fun r3 =>
      lt ((31 * v1) + ((r3 - r3 / (1000003 : Int64) * (1000003 : Int64)).toInt32)) fun y4 =>
      lt (v3 + 1) fun y5 =>
      fL_told_92 M k55 n y4 v2 y5

def fL_told_66 (M : mm_M) (k55 : Int32 → Int32 → Option (Int32)) : Nat → Int32 → Int32 → Int32 → Option (Int32)
  | 0, _, _, _ => none
  | n + 1, v1, v2, v3 =>
    if 16 ≤ v3 then
      fL_told_92 M k55 FU v1 v2 0
    else
      bn (fX6_ofCart M v2 v3) fun r3 =>
      lt ((31 * v1) + r3) fun y4 =>
      lt (v3 + 1) fun y5 =>
      fL_told_66 M k55 n y4 v2 y5

def fL_told_171 (M : mm_M) (k160 : Int32 → Int32 → Option (Int32)) : Nat → Int32 → Int32 → Int32 → Option (Int32)
  | 0, _, _, _ => none
  | n + 1, v1, v2, v3 =>
    if 4 ≤ v3 then
      lt (v2 + 1) fun y2 =>
      k160 v1 y2
    else
      bn (fX6_ofPitch M v2 v3) fun r4 =>
      lt ((31 * v1) + r4) fun y5 =>
      lt (v3 + 1) fun y6 =>
      fL_told_171 M k160 n y5 v2 y6

def fL_told_160 (M : mm_M) : Nat → Int32 → Int32 → Option (Int32)
  | 0, _, _ => none
  | n + 1, v1, v2 =>
    bn (fX6_count M 2) fun r2 =>
    if r2 ≤ v2 then
      some v1
    else
      fL_told_171 M (fL_told_160 M n) FU v1 v2 0

def fL_told_55 (M : mm_M) : Nat → Int32 → Int32 → Option (Int32)
  | 0, _, _ => none
  | n + 1, v1, v2 =>
    bn (fX6_count M 1) fun r2 =>
    if r2 ≤ v2 then
      fL_told_160 M FU v1 0
    else
      fL_told_66 M (fL_told_55 M n) FU v1 v2 0

def fL_told_30 (M : mm_M) : Nat → Int32 → Int32 → Option (Int32)
  | 0, _, _ => none
  | n + 1, v1, v2 =>
    if 20 ≤ v2 then
      fL_told_55 M FU v1 0
    else
      bn (fX6_count M v2) fun r3 =>
      lt ((31 * v1) + r3) fun y4 =>
      lt (v2 + 1) fun y5 =>
      fL_told_30 M n y4 y5

def fL_told_4 (M : mm_M) : Nat → Int32 → Int32 → Option (Int32)
  | 0, _, _ => none
  | n + 1, v1, v2 =>
    if 6 ≤ v2 then
      fL_told_30 M FU v1 8
    else
      bn (fX6_count M v2) fun r3 =>
      lt ((31 * v1) + r3) fun y4 =>
      lt (v2 + 1) fun y5 =>
      fL_told_4 M n y4 y5

def fL_told (M : mm_M) : Option (Int32) :=
  fL_told_4 M FU 0 0

def fL_back_75 (x1 : Int32) : Nat → mm_M → Int32 → Int32 → Int32 → Int32 → Option (Bool × mm_M)
  | 0, _, _, _, _, _ => none
  | n + 1, M, v2, v3, v4, v5 =>
    if 4 < v5 then
      bn (fL_told M) fun r3 =>
      if r3 = v3 then
        bn2 (fX6_days M 9) fun r6 M7 =>
        bn2 (fX6_set M7 9 4999) fun r9 M10 =>
        bn2 (fX6_restore M10 1) fun r12 M13 =>
        if r12 = v2 then
          bn (fL_told M13) fun r16 =>
          if r16 = v3 then
            bn2 (fX6_undo M13) fun r19 M20 =>
            if r19 < 0 then
              some (false, M20)
            else
              bn (fX6_count M20 17) fun r23 =>
              if r23 = 4999 then
                bn (fX6_count M20 0) fun r26 =>
                if r26 = (v2 + 9) then
                  bn2 (fX6_restore M20 1) fun r29 M30 =>
                  if r29 = v2 then
                    some (true, M30)
                  else
                    some (false, M30)
                else
                  some (false, M20)
              else
                some (false, M20)
          else
            some (false, M13)
        else
          some (false, M13)
      else
        some (false, M)
    else
      bn2 (fX6_undo M) fun r33 M34 =>
      if r33 = (v4 - v5) then
        lt (v5 + 1) fun y36 =>
        fL_back_75 x1 n M34 v2 v3 v4 y36
      else
        some (false, M34)

def fL_back (M : mm_M) (x1 : Int32) : Option (Bool × mm_M) :=
  bn (fX6_count M 0) fun r2 =>
  bn2 (fX6_save M 1) fun r4 M5 =>
  if r4 = r2 then
    bn (fL_told M5) fun r8 =>
    bn (fL_up M5 x1 65537) fun r10 =>
    bn2 (fX6_seed M5 r10) fun r12 M13 =>
    bn (fL_up M13 (x1 >>> (4 &&& 31)) 40) fun r15 =>
    bn2 (fX6_days M13 (1 + r15)) fun r17 M18 =>
    bn2 (fX6_fine M18 0 9) fun r20 M21 =>
    bn2 (fX6_set M21 9 1) fun r23 M24 =>
    bn (fX6_count M24 7) fun r26 =>
    fL_back_75 x1 FU M24 r2 r8 r26 1
  else
    some (false, M5)

def fL_refused_23 (x1 : Int32) (M : mm_M) (t0 : Int32) : Option (Bool × mm_M) :=
  bn2 (fX6_set M t0 1) fun r2 M3 =>
  if r2 = (-2) then
    bn2 (fX6_set M3 0 t0) fun r6 M7 =>
    if r6 = (-2) then
      bn2 (fX6_seed M7 t0) fun r10 M11 =>
      if r10 = (-2) then
        bn2 (fX6_pitch M11 t0) fun r14 M15 =>
        if r14 = (-2) then
          bn2 (fX6_rent M15 t0 0) fun r18 M19 =>
          if r18 = (-1) then
            bn2 (fX6_cart M19 t0 1) fun r22 M23 =>
            if r22 = (-2) then
              bn2 (fX6_cart M23 0 t0) fun r26 M27 =>
              if r26 = (-2) then
                bn2 (fX6_wish M27 t0 0 0 0) fun r30 M31 =>
                if r30 = (-1) then
                  bn2 (fX6_fine M31 t0 1) fun r34 M35 =>
                  if r34 = (-1) then
                    bn2 (fX6_check M35 t0) fun r38 M39 =>
                    if r38 = (-1) then
                      bn2 (fX6_swap M39 t0 0) fun r42 M43 =>
                      if r42 = (-1) then
                        bn2 (fX6_pay M43 t0 1) fun r46 M47 =>
                        if r46 = (-1) then
                          bn2 (fX6_days M47 t0) fun r50 M51 =>
                          if r50 = (-2) then
                            bn (fX6_ofCart M51 t0 0) fun r54 =>
                            if r54 = (-1) then
                              bn (fX6_money M51 t0 0) fun r57 =>
                              if (lg_cmp r57 ((-1) : Int64)) = 0 then
                                bn (fX6_ofPitch M51 t0 0) fun r60 =>
                                if r60 = (-1) then
                                  bn (fX6_count M51 t0) fun r63 =>
                                  if r63 = (-2) then
                                    bn (fX6_pointsOn M51 t0 0) fun r66 =>
                                    if r66 = (-1) then
                                      bn2 (fX6_wouldHave M51 t0) fun r69 M70 =>
                                      if r69 = (-1) then
                                        bn2 (fX6_ifWished M70 t0 0) fun r73 M74 =>
                                        if r73 = (-1) then
                                          bn2 (fX6_firstDay M74 t0) fun r77 M78 =>
                                          if r77 = (-1) then
                                            bn2 (fX6_daysOf M78 t0 1) fun r81 M82 =>
                                            if r81 = (-1) then
                                              bn2 (fX6_luckySeed M82 t0 (-6)) fun r85 M86 =>
                                              if r85 = (-1) then
                                                bn (fX6_whyNot M86 t0 0) fun r89 =>
                                                if r89 = (-1) then
                                                  bn2 (fX6_carryOut M86) fun r92 M93 =>
                                                  if r92 = (-3) then
                                                    bn2 (fX6_undo M93) fun r96 M97 =>
                                                    if r96 = (-5) then
                                                      bn2 (fX6_save M97 t0) fun r100 M101 =>
                                                      if r100 = (-2) then
                                                        bn2 (fX6_restore M101 t0) fun r104 M105 =>
                                                        if r104 = (-2) then
                                                          bn2 (fX6_restore M105 0) fun r108 M109 =>
                                                          if r108 = (-5) then
                                                            bn (fX6_count M109 7) fun r112 =>
                                                            if r112 = 0 then
                                                              some (true, M109)
                                                            else
                                                              some (false, M109)
                                                          else
                                                            some (false, M109)
                                                        else
                                                          some (false, M105)
                                                      else
                                                        some (false, M101)
                                                    else
                                                      some (false, M97)
                                                  else
                                                    some (false, M93)
                                                else
                                                  some (false, M86)
                                              else
                                                some (false, M86)
                                            else
                                              some (false, M82)
                                          else
                                            some (false, M78)
                                        else
                                          some (false, M74)
                                      else
                                        some (false, M70)
                                    else
                                      some (false, M51)
                                  else
                                    some (false, M51)
                                else
                                  some (false, M51)
                              else
                                some (false, M51)
                            else
                              some (false, M51)
                          else
                            some (false, M51)
                        else
                          some (false, M47)
                      else
                        some (false, M43)
                    else
                      some (false, M39)
                  else
                    some (false, M35)
                else
                  some (false, M31)
              else
                some (false, M27)
            else
              some (false, M23)
          else
            some (false, M19)
        else
          some (false, M15)
      else
        some (false, M11)
    else
      some (false, M7)
  else
    some (false, M3)

def fL_refused (M : mm_M) (x1 : Int32) : Option (Bool × mm_M) :=
  if 0 ≤ x1 then
    fL_refused_23 x1 M ((x1 - x1 / 1000000 * 1000000) + 1000001)
  else
    bn (fL_up M x1 1000000) fun r3 =>
    fL_refused_23 x1 M ((-7) - r3)

def fL_comes_205 (x1 : Int32) (k173 : mm_M → Int32 → Int32 → Int32 → Int32 → Int32 → Int32 → Int32 → Int32 → Int32 → Int32 → Int32 → Int32 → Int32 → Option (Bool × mm_M)) (M : mm_M) (v2 : Int32) (v3 : Int32) (v4 : Int32) (v5 : Int32) (v6 : Int32) (v7 : Int32) (v8 : Int32) (v9 : Int32) (v10 : Int32) (v11 : Int32) (v12 : Int32) (v13 : Int32) (v14 : Int32) : Option (Bool × mm_M) :=
  if 0 ≤ v13 then
    lt (v14 + 1) fun y2 =>
    k173 M v2 v3 v4 v5 v6 v7 v8 v9 v10 v11 v12 v13 y2
  else
    bn (fX6_ofCart M v3 12) fun r4 =>
    if r4 < 0 then
      lt (v14 + 1) fun y6 =>
      k173 M v2 v3 v4 v5 v6 v7 v8 v9 v10 v11 v12 v13 y6
    else
      lt (v14 + 1) fun y7 =>
      k173 M v2 v3 v4 v5 v6 v7 v8 v9 v10 v11 v12 v14 y7

def fL_comes_454 (x1 : Int32) (k389 : mm_M → Int32 → Int32 → Int32 → Int32 → Int32 → Int32 → Option (Bool × mm_M)) (M : mm_M) (v2 : Int32) (v3 : Int32) (v4 : Int32) (v10 : Int32) (v11 : Int32) (v14 : Int32) (v15 : Int32) : Option (Bool × mm_M) :=
  if v15 < 0 then
    lt (v14 + 1) fun y2 =>
    k389 M v2 v3 v4 v10 v11 y2
  else
    bn2 (fX6_restore M 0) fun r4 M5 =>
    if r4 = v2 then
      lt (v14 + 1) fun y7 =>
      k389 M5 v2 v3 v4 v10 v11 y7
    else
      some (false, M5)

def fL_comes_444 (x1 : Int32) (k389 : mm_M → Int32 → Int32 → Int32 → Int32 → Int32 → Int32 → Option (Bool × mm_M)) (M : mm_M) (v2 : Int32) (v3 : Int32) (v4 : Int32) (v10 : Int32) (v11 : Int32) (v14 : Int32) (v15 : Int32) (t1 : Int32) (t2 : Int32) : Option (Bool × mm_M) :=
  bn2 (fL_lucky M t1 t2 v15) fun r2 M3 =>
  if r2 = true then
    some (false, M3)
  else
    fL_comes_454 x1 k389 M3 v2 v3 v4 v10 v11 v14 v15

def fL_comes_420 (x1 : Int32) (k389 : mm_M → Int32 → Int32 → Int32 → Int32 → Int32 → Int32 → Option (Bool × mm_M)) (M : mm_M) (v2 : Int32) (v3 : Int32) (v4 : Int32) (v10 : Int32) (v11 : Int32) (v14 : Int32) (t0 : Int32) : Option (Bool × mm_M) :=
  if t0 < 0 then
    fL_comes_454 x1 k389 M v2 v3 v4 v10 v11 v14 t0
  else
    bn (fL_up M x1 2) fun r3 =>
    if r3 = 0 then
      fL_comes_444 x1 k389 M v2 v3 v4 v10 v11 v14 t0 v3 (-6)
    else
      fL_comes_444 x1 k389 M v2 v3 v4 v10 v11 v14 t0 v3 v4

def fL_comes_389 (x1 : Int32) : Nat → mm_M → Int32 → Int32 → Int32 → Int32 → Int32 → Int32 → Option (Bool × mm_M)
  | 0, _, _, _, _, _, _, _ => none
  | n + 1, M, v2, v3, v4, v10, v11, v14 =>
    if 5 ≤ v14 then
      bn (fX6_count M 3) fun r3 =>
      if r3 = v11 then
        some (true, M)
      else
        some (false, M)
    else
      if 0 ≤ v10 then
        fL_comes_420 x1 (fL_comes_389 x1 n) M v2 v3 v4 v10 v11 v14 ((v10 - 1) - v14)
      else
        bn (fL_up M (x1 >>> (v14 &&& 31)) 200) fun r7 =>
        fL_comes_420 x1 (fL_comes_389 x1 n) M v2 v3 v4 v10 v11 v14 r7

def fL_comes_367 (x1 : Int32) (M : mm_M) (v2 : Int32) (v3 : Int32) (v4 : Int32) (v10 : Int32) (v11 : Int32) (t1 : Int32) (t2 : Int32) : Option (Bool × mm_M) :=
  bn2 (fL_lucky M t1 t2 v10) fun r2 M3 =>
  if r2 = true then
    bn2 (fX6_restore M3 0) fun r6 M7 =>
    if r6 = v2 then
      fL_comes_389 x1 FU M7 v2 v3 v4 v10 v11 0
    else
      some (false, M7)
  else
    some (false, M3)

def fL_comes_277 (x1 : Int32) (M : mm_M) (v2 : Int32) (v3 : Int32) (v4 : Int32) (v7 : Int32) (v10 : Int32) (v11 : Int32) : Option (Bool × mm_M) :=
  bn2 (fX6_restore M 0) fun r2 M3 =>
  if r2 = v2 then
    bn2 (fX6_wish M3 v3 v4 (-6) (-6)) fun r6 M7 =>
    if r6 = 1 then
      bn2 (fX6_days M7 1) fun r10 M11 =>
      if r10 = (v2 + 1) then
        bn (fX6_ofCart M11 v3 12) fun r14 =>
        if r14 = v7 then
          bn2 (fX6_restore M11 0) fun r17 M18 =>
          if r17 = v2 then
            if v10 < 0 then
              fL_comes_389 x1 FU M18 v2 v3 v4 v10 v11 0
            else
              if 199 < v10 then
                some (false, M18)
              else
                bn (fL_up M18 x1 2) fun r23 =>
                if r23 = 0 then
                  fL_comes_367 x1 M18 v2 v3 v4 v10 v11 v3 (-6)
                else
                  fL_comes_367 x1 M18 v2 v3 v4 v10 v11 v3 v4
          else
            some (false, M18)
        else
          some (false, M11)
      else
        some (false, M11)
    else
      some (false, M7)
  else
    some (false, M3)

def fL_comes_173 (x1 : Int32) : Nat → mm_M → Int32 → Int32 → Int32 → Int32 → Int32 → Int32 → Int32 → Int32 → Int32 → Int32 → Int32 → Int32 → Int32 → Option (Bool × mm_M)
  | 0, _, _, _, _, _, _, _, _, _, _, _, _, _, _ => none
  | n + 1, M, v2, v3, v4, v5, v6, v7, v8, v9, v10, v11, v12, v13, v14 =>
    if v5 ≤ v14 then
      bn (fX6_ofCart M v3 11) fun r3 =>
      if (r3 - v12) = v9 then
        if v13 < 0 then
          if v8 < 0 then
            fL_comes_277 x1 M v2 v3 v4 v7 v10 v11
          else
            if v8 < v5 then
              some (false, M)
            else
              fL_comes_277 x1 M v2 v3 v4 v7 v10 v11
        else
          if v8 = v13 then
            fL_comes_277 x1 M v2 v3 v4 v7 v10 v11
          else
            some (false, M)
      else
        some (false, M)
    else
      bn2 (fX6_days M 1) fun r10 M11 =>
      if v14 = 0 then
        bn (fX6_ofCart M11 v3 12) fun r14 =>
        if r14 = v6 then
          fL_comes_205 x1 (fL_comes_173 x1 n) M11 v2 v3 v4 v5 v6 v7 v8 v9 v10 v11 v12 v13 v14
        else
          some (false, M11)
      else
        fL_comes_205 x1 (fL_comes_173 x1 n) M11 v2 v3 v4 v5 v6 v7 v8 v9 v10 v11 v12 v13 v14

def fL_comes_153 (x1 : Int32) (M : mm_M) (v2 : Int32) (v3 : Int32) (v4 : Int32) (v5 : Int32) (v6 : Int32) (v7 : Int32) (v8 : Int32) (v9 : Int32) (v10 : Int32) (v11 : Int32) (v12 : Int32) (t0 : Bool) (t1 : Bool) : Option (Bool × mm_M) :=
  if (b2i t0) = (b2i t1) then
    bn2 (fX6_save M 0) fun r3 M4 =>
    if r3 = v2 then
      fL_comes_173 x1 FU M4 v2 v3 v4 v5 v6 v7 v8 v9 v10 v11 v12 (-1) 0
    else
      some (false, M4)
  else
    some (false, M)

def fL_comes_143 (x1 : Int32) (M : mm_M) (v2 : Int32) (v3 : Int32) (v4 : Int32) (v5 : Int32) (v6 : Int32) (v7 : Int32) (v8 : Int32) (v9 : Int32) (v10 : Int32) (v11 : Int32) (v12 : Int32) (t0 : Bool) : Option (Bool × mm_M) :=
  if v8 = 0 then
    fL_comes_153 x1 M v2 v3 v4 v5 v6 v7 v8 v9 v10 v11 v12 t0 true
  else
    fL_comes_153 x1 M v2 v3 v4 v5 v6 v7 v8 v9 v10 v11 v12 t0 false

def fL_comes_91 (x1 : Int32) (M : mm_M) (v2 : Int32) (v3 : Int32) (v4 : Int32) (v5 : Int32) (v6 : Int32) (v7 : Int32) (v8 : Int32) (v9 : Int32) (t1 : Int32) (t2 : Int32) : Option (Bool × mm_M) :=
  bn2 (fX6_luckySeed M t1 t2) fun r2 M3 =>
  bn (fX6_count M3 3) fun r5 =>
  bn (fX6_ofCart M3 v3 11) fun r7 =>
  bn (fX6_count M3 0) fun r9 =>
  if r9 = v2 then
    bn2 (fX6_daysOf M3 v3 61) fun r12 M13 =>
    if r12 = (-2) then
      if v6 < 0 then
        fL_comes_143 x1 M13 v2 v3 v4 v5 v6 v7 v8 v9 r2 r5 r7 false
      else
        fL_comes_143 x1 M13 v2 v3 v4 v5 v6 v7 v8 v9 r2 r5 r7 true
    else
      some (false, M13)
  else
    some (false, M3)

def fL_comes (M : mm_M) (x1 : Int32) : Option (Bool × mm_M) :=
  bn (fX6_count M 0) fun r2 =>
  bn (fX6_count M 1) fun r4 =>
  bn (fL_up M x1 r4) fun r6 =>
  bn (fX6_count M 2) fun r8 =>
  bn (fL_up M (x1 >>> (3 &&& 31)) r8) fun r10 =>
  bn (fL_up M (x1 >>> (6 &&& 31)) 20) fun r12 =>
  lt (1 + r12) fun y13 =>
  bn2 (fX6_wouldHave M r6) fun r15 M16 =>
  bn2 (fX6_ifWished M16 r6 r10) fun r18 M19 =>
  bn2 (fX6_firstDay M19 r6) fun r21 M22 =>
  bn2 (fX6_daysOf M22 r6 y13) fun r24 M25 =>
  bn (fL_up M25 x1 2) fun r27 =>
  if r27 = 0 then
    fL_comes_91 x1 M25 r2 r6 r10 y13 r15 r18 r21 r24 r6 (-6)
  else
    fL_comes_91 x1 M25 r2 r6 r10 y13 r15 r18 r21 r24 r6 r10

def fL_text_508 (x1 : Int32) (x2 : Int32) (k40 : mm_M → (Nat → Int32) → Int32 → Int32 → Option (Bool × mm_M)) (M : mm_M) (F : (Nat → Int32)) (v3 : Int32) (v5 : Int32) : Option (Bool × mm_M) :=
  bn (fX6_fault M) fun r2 =>
  if r2 = (-6) then
    lt (v5 + 1) fun y4 =>
    k40 M F v3 y4
  else
    some (false, M)

def fL_text_384 (x1 : Int32) (x2 : Int32) (k40 : mm_M → (Nat → Int32) → Int32 → Int32 → Option (Bool × mm_M)) (M : mm_M) (F : (Nat → Int32)) (v3 : Int32) (v5 : Int32) (v8 : Int32) : Option (Bool × mm_M) :=
  gd (¬ ((v8 + 4) < 0 ∨ 40 ≤ (v8 + 4).toNatClampNeg)) <|
  if (F (v8 + 4).toNatClampNeg) ≤ 2 then
    fL_text_508 x1 x2 k40 M F v3 v5
  else
    gd (¬ ((v8 + 2) < 0 ∨ 40 ≤ (v8 + 2).toNatClampNeg)) <|
    gd (¬ ((v8 + 3) < 0 ∨ 40 ≤ (v8 + 3).toNatClampNeg)) <|
    bn2 (fX6_put M ((48 + (((F (v8 + 2).toNatClampNeg) + (F (v8 + 3).toNatClampNeg)) - ((F (v8 + 2).toNatClampNeg) + (F (v8 + 3).toNatClampNeg)) / 10 * 10)).toInt64)) fun r6 M7 =>
    fL_text_508 x1 x2 k40 M7 F v3 v5

def fL_text_357 (x1 : Int32) (x2 : Int32) (k40 : mm_M → (Nat → Int32) → Int32 → Int32 → Option (Bool × mm_M)) (M : mm_M) (F : (Nat → Int32)) (v3 : Int32) (v5 : Int32) (v8 : Int32) : Option (Bool × mm_M) :=
  gd (¬ ((v8 + 4) < 0 ∨ 40 ≤ (v8 + 4).toNatClampNeg)) <|
  if (F (v8 + 4).toNatClampNeg) ≤ 1 then
    fL_text_384 x1 x2 k40 M F v3 v5 v8
  else
    gd (¬ ((v8 + 3) < 0 ∨ 40 ≤ (v8 + 3).toNatClampNeg)) <|
    bn2 (fX6_put M ((48 + (F (v8 + 3).toNatClampNeg)).toInt64)) fun r5 M6 =>
    fL_text_384 x1 x2 k40 M6 F v3 v5 v8

def fL_text_312 (x1 : Int32) (x2 : Int32) (k40 : mm_M → (Nat → Int32) → Int32 → Int32 → Option (Bool × mm_M)) (M : mm_M) (F : (Nat → Int32)) (v3 : Int32) (v5 : Int32) (v8 : Int32) : Option (Bool × mm_M) :=
  gd (¬ (v8 < 0 ∨ 40 ≤ v8.toNatClampNeg)) <|
  if (F v8.toNatClampNeg) = 0 then
    bn (fX6_fault M) fun r24 =>
    if r24 = (-6) then
      gd (¬ ((v8 + 4) < 0 ∨ 40 ≤ (v8 + 4).toNatClampNeg)) <|
      if (F (v8 + 4).toNatClampNeg) ≤ 0 then
        fL_text_357 x1 x2 k40 M F v3 v5 v8
      else
        gd (¬ ((v8 + 2) < 0 ∨ 40 ≤ (v8 + 2).toNatClampNeg)) <|
        bn2 (fX6_put M ((48 + (F (v8 + 2).toNatClampNeg)).toInt64)) fun r30 M31 =>
        fL_text_357 x1 x2 k40 M31 F v3 v5 v8
    else
      some (false, M)
  else
    if (F v8.toNatClampNeg) = 1 then
      bn (fX6_fault M) fun r15 =>
      bn (fX6_count M 6) fun r17 =>
      if r15 = r17 then
        gd (¬ ((v8 + 2) < 0 ∨ 40 ≤ (v8 + 2).toNatClampNeg)) <|
        bn2 (fX6_put M ((49 + (F (v8 + 2).toNatClampNeg)).toInt64)) fun r21 M22 =>
        fL_text_508 x1 x2 k40 M22 F v3 v5
      else
        some (false, M)
    else
      if (F v8.toNatClampNeg) = 3 then
        bn (fX6_fault M) fun r6 =>
        bn (fX6_count M 6) fun r8 =>
        if r6 = r8 then
          gd (¬ ((v8 + 3) < 0 ∨ 40 ≤ (v8 + 3).toNatClampNeg)) <|
          bn2 (fX6_put M ((65 + (F (v8 + 3).toNatClampNeg)).toInt64)) fun r12 M13 =>
          fL_text_508 x1 x2 k40 M13 F v3 v5
        else
          some (false, M)
      else
        fL_text_508 x1 x2 k40 M F v3 v5

def fL_text_254 (x1 : Int32) (x2 : Int32) (k40 : mm_M → (Nat → Int32) → Int32 → Int32 → Option (Bool × mm_M)) (M : mm_M) (F : (Nat → Int32)) (v3 : Int32) (v5 : Int32) (v8 : Int32) (t1 : Int64) : Option (Bool × mm_M) :=
  bn2 (fX6_put M t1) fun r2 M3 =>
  bn (fX6_fault M3) fun r5 =>
  bn (fX6_count M3 6) fun r7 =>
  if r5 = r7 then
    gd (¬ (v8 < 0 ∨ 40 ≤ v8.toNatClampNeg)) <|
    if (F v8.toNatClampNeg) = 4 then
      gd (¬ ((v8 + 2) < 0 ∨ 40 ≤ (v8 + 2).toNatClampNeg)) <|
      bn (fL_number M3 (F (v8 + 2).toNatClampNeg)) fun M17 =>
      fL_text_312 x1 x2 k40 M17 F v3 v5 v8
    else
      gd (¬ ((v8 + 1) < 0 ∨ 40 ≤ (v8 + 1).toNatClampNeg)) <|
      bn2 (fX6_put M3 ((65 + (F (v8 + 1).toNatClampNeg)).toInt64)) fun r13 M14 =>
      fL_text_312 x1 x2 k40 M14 F v3 v5 v8
  else
    some (false, M3)

def fL_text_176 (x1 : Int32) (x2 : Int32) (k40 : mm_M → (Nat → Int32) → Int32 → Int32 → Option (Bool × mm_M)) (M : mm_M) (F : (Nat → Int32)) (v3 : Int32) (v5 : Int32) (v8 : Int32) : Option (Bool × mm_M) :=
  bn (fX6_fault M) fun r2 =>
  bn (fX6_count M 6) fun r4 =>
  if r2 = r4 then
    gd (¬ (v8 < 0 ∨ 40 ≤ v8.toNatClampNeg)) <|
    if (F v8.toNatClampNeg) = 0 then
      fL_text_254 x1 x2 k40 M F v3 v5 v8 (119 : Int64)
    else
      if (F v8.toNatClampNeg) = 1 then
        fL_text_254 x1 x2 k40 M F v3 v5 v8 (102 : Int64)
      else
        if (F v8.toNatClampNeg) = 2 then
          fL_text_254 x1 x2 k40 M F v3 v5 v8 (99 : Int64)
        else
          if (F v8.toNatClampNeg) = 3 then
            fL_text_254 x1 x2 k40 M F v3 v5 v8 (115 : Int64)
          else
            fL_text_254 x1 x2 k40 M F v3 v5 v8 (100 : Int64)
  else
    some (false, M)

def fL_text_127 (x1 : Int32) (x2 : Int32) (k40 : mm_M → (Nat → Int32) → Int32 → Int32 → Option (Bool × mm_M)) (M : mm_M) (F : (Nat → Int32)) (v3 : Int32) (v5 : Int32) (v7 : Int32) (v8 : Int32) (t1 : Int32) (t2 : Int32) (t3 : Int32) : Option (Bool × mm_M) :=
  bn (fL_up M t2 t3) fun r2 =>
  gd (¬ (t1 < 0 ∨ 40 ≤ t1.toNatClampNeg)) <|
  lt (aS F t1.toNatClampNeg r2) fun F4 =>
  bn (fL_up M (v7 >>> (4 &&& 31)) 10) fun r6 =>
  gd (¬ ((v8 + 3) < 0 ∨ 40 ≤ (v8 + 3).toNatClampNeg)) <|
  lt (aS F4 (v8 + 3).toNatClampNeg r6) fun F8 =>
  bn (fL_up M (v7 >>> (8 &&& 31)) 4) fun r10 =>
  gd (¬ ((v8 + 4) < 0 ∨ 40 ≤ (v8 + 4).toNatClampNeg)) <|
  lt (aS F8 (v8 + 4).toNatClampNeg r10) fun F12 =>
  if v5 ≤ 0 then
    fL_text_176 x1 x2 k40 M F12 v3 v5 v8
  else
    bn2 (fX6_put M (59 : Int64)) fun r15 M16 =>
    fL_text_176 x1 x2 k40 M16 F12 v3 v5 v8

def fL_text_663 (x1 : Int32) (x2 : Int32) (M : mm_M) (F : (Nat → Int32)) (v6 : Int32) (v7 : Int32) (v8 : Int32) : Option (Bool × mm_M) :=
  if v8 = v6 then
    bn (fL_told M) fun r3 =>
    if r3 = v7 then
      some (true, M)
    else
      some (false, M)
  else
    some (false, M)

def fL_text_620 (x1 : Int32) (x2 : Int32) : Nat → mm_M → (Nat → Int32) → Int32 → Int32 → Int32 → Int32 → Int32 → Option (Bool × mm_M)
  | 0, _, _, _, _, _, _, _ => none
  | n + 1, M, F, v3, v6, v7, v8, v9 =>
    if v3 ≤ v9 then
      fL_text_663 x1 x2 M F v6 v7 v8
    else
      if v8 = v9 then
        bn2 (fL_one M F 40 (8 * v9)) fun r4 M5 =>
        if r4 < 0 then
          lt (v8 + 0) fun y7 =>
          lt (v9 + 1) fun y8 =>
          fL_text_620 x1 x2 n M5 F v3 v6 v7 y7 y8
        else
          lt (v8 + 1) fun y9 =>
          lt (v9 + 1) fun y10 =>
          fL_text_620 x1 x2 n M5 F v3 v6 v7 y9 y10
      else
        fL_text_663 x1 x2 M F v6 v7 v8

def fL_text_609 (x1 : Int32) (x2 : Int32) (M : mm_M) (F : (Nat → Int32)) (v3 : Int32) (v6 : Int32) (v7 : Int32) (t0 : Int32) (t1 : Int32) : Option (Bool × mm_M) :=
  if t0 = t1 then
    fL_text_620 x1 x2 FU M F v3 v6 v7 0 0
  else
    some (false, M)

def fL_text_581 (x1 : Int32) (x2 : Int32) (M : mm_M) (F : (Nat → Int32)) (v3 : Int32) (v5 : Int32) (v6 : Int32) (t0 : Int32) (t1 : Int32) : Option (Bool × mm_M) :=
  if t0 = t1 then
    bn (fL_told M) fun r3 =>
    bn2 (fX6_undo M) fun r5 M6 =>
    if 6 ≤ v5 then
      fL_text_609 x1 x2 M6 F v3 v6 r3 r5 5
    else
      fL_text_609 x1 x2 M6 F v3 v6 r3 r5 v5
  else
    some (false, M)

def fL_text_40 (x1 : Int32) (x2 : Int32) : Nat → mm_M → (Nat → Int32) → Int32 → Int32 → Option (Bool × mm_M)
  | 0, _, _, _, _ => none
  | n + 1, M, F, v3, v5 =>
    if v3 ≤ v5 then
      bn (fX6_count M 7) fun r3 =>
      bn2 (fX6_carryOut M) fun r5 M6 =>
      if r5 < 0 then
        some (false, M6)
      else
        if v3 < r5 then
          some (false, M6)
        else
          bn (fX6_count M6 6) fun r10 =>
          if r10 = 0 then
            bn (fX6_count M6 7) fun r13 =>
            if 6 ≤ r3 then
              fL_text_581 x1 x2 M6 F v3 r3 r5 r13 6
            else
              fL_text_581 x1 x2 M6 F v3 r3 r5 r13 (r3 + 1)
          else
            some (false, M6)
    else
      lt ((x1 >>> (3 &&& 31)) + (37 * v5)) fun y15 =>
      lt ((x2 >>> (v5 &&& 31)) + (11 * v5)) fun y16 =>
      lt (8 * v5) fun y17 =>
      bn (fL_up M y15 5) fun r19 =>
      gd (¬ (y17 < 0 ∨ 40 ≤ y17.toNatClampNeg)) <|
      lt (aS F y17.toNatClampNeg r19) fun F21 =>
      bn (fL_up M (y15 >>> (3 &&& 31)) 9) fun r23 =>
      gd (¬ ((y17 + 1) < 0 ∨ 40 ≤ (y17 + 1).toNatClampNeg)) <|
      lt (aS F21 (y17 + 1).toNatClampNeg r23) fun F25 =>
      if (F25 y17.toNatClampNeg) = 1 then
        fL_text_127 x1 x2 (fL_text_40 x1 x2 n) M F25 v3 v5 y16 y17 (y17 + 2) y16 9
      else
        fL_text_127 x1 x2 (fL_text_40 x1 x2 n) M F25 v3 v5 y16 y17 (y17 + 2) y16 10

def fL_text (M : mm_M) (x1 : Int32) (x2 : Int32) : Option (Bool × mm_M) :=
  bn (fL_up M x1 5) fun r2 =>
  lt (1 + r2) fun y3 =>
  lt (fun _ => (0 : Int32)) fun F4 =>
  bn2 (fX6_wipe M) fun r6 M7 =>
  bn (fX6_fault M7) fun r9 =>
  if r9 = 0 then
    bn2 (fX6_carryOut M7) fun r12 M13 =>
    if r12 = (-3) then
      fL_text_40 x1 x2 FU M13 F4 y3 0
    else
      some (false, M13)
  else
    some (false, M7)

def fL_sound_387 (k38 : mm_M → (Nat → Int32) → Int32 → Int32 → Int32 → Int32 → Int32 → Int32 → Int32 → Int32 → Int32 → Option (Bool × mm_M)) : Nat → mm_M → (Nat → Int32) → Int32 → Int32 → Int32 → Int32 → Int32 → Int32 → Int32 → Int32 → Int32 → Int32 → Int32 → Option (Bool × mm_M)
  | 0, _, _, _, _, _, _, _, _, _, _, _, _, _ => none
  | n + 1, M, F, v1, v2, v3, v4, v5, v6, v7, v8, v10, v15, v16 =>
    if 13 ≤ v16 then
      bn (fX6_count M 0) fun r3 =>
      bn (fX6_count M 13) fun r5 =>
      bn (fX6_pointsOn M v10 (r3 + r5)) fun r7 =>
      if r7 = 0 then
        bn (fX6_count M 0) fun r10 =>
        bn (fX6_pointsOn M v10 (r10 - 1)) fun r12 =>
        if r12 = (-2) then
          bn (fX6_count M 0) fun r15 =>
          bn (fX6_pointsOn M v10 (r15 + 401)) fun r17 =>
          if r17 = (-2) then
            lt (v10 + 1) fun y19 =>
            k38 M F v1 v2 v3 v4 v5 v6 v7 v8 y19
          else
            some (false, M)
        else
          some (false, M)
      else
        some (false, M)
    else
      bn (fX6_count M 0) fun r21 =>
      bn (fX6_pointsOn M v10 (r21 + v16)) fun r23 =>
      if r23 < 0 then
        some (false, M)
      else
        if r23 ≤ v15 then
          lt (v16 + 3) fun y26 =>
          fL_sound_387 k38 n M F v1 v2 v3 v4 v5 v6 v7 v8 v10 r23 y26
        else
          some (false, M)

def fL_sound_308 (k38 : mm_M → (Nat → Int32) → Int32 → Int32 → Int32 → Int32 → Int32 → Int32 → Int32 → Int32 → Int32 → Option (Bool × mm_M)) (M : mm_M) (F : (Nat → Int32)) (v1 : Int32) (v2 : Int32) (v3 : Int32) (v4 : Int32) (v5 : Int32) (v6 : Int32) (v7 : Int32) (v8 : Int32) (v10 : Int32) : Option (Bool × mm_M) :=
  bn (fX6_money M v10 0) fun r2 =>
  bn (fX6_money M v10 1) fun r4 =>
  bn (fX6_money M v10 2) fun r6 =>
  bn (fX6_money M v10 3) fun r8 =>
  bn (fX6_money M v10 4) fun r10 =>
  if (lg_cmp r2 (((r4 - r6) - r8) - r10)) = 0 then
    bn (fX6_count M 0) fun r13 =>
    bn (fX6_pointsOn M v10 r13) fun r15 =>
    bn (fX6_ofCart M v10 9) fun r17 =>
    if r15 = r17 then
      bn (fX6_ofCart M v10 9) fun r20 =>
      fL_sound_387 k38 FU M F v1 v2 v3 v4 v5 v6 v7 v8 v10 r20 1
    else
      some (false, M)
  else
    some (false, M)

def fL_sound_215 (k38 : mm_M → (Nat → Int32) → Int32 → Int32 → Int32 → Int32 → Int32 → Int32 → Int32 → Int32 → Int32 → Option (Bool × mm_M)) : Nat → mm_M → (Nat → Int32) → Int32 → Int32 → Int32 → Int32 → Int32 → Int32 → Int32 → Int32 → Int32 → Int32 → Int32 → Option (Bool × mm_M)
  | 0, _, _, _, _, _, _, _, _, _, _, _, _, _ => none
  | n + 1, M, F, v1, v2, v3, v4, v5, v6, v7, v8, v10, v12, v15 =>
    bn (fX6_ofCart M v10 1) fun r2 =>
    if (v12 + r2) ≤ v15 then
      fL_sound_308 k38 M F v1 v2 v3 v4 v5 v6 v7 v8 v10
    else
      gd (¬ (v15 < 0 ∨ 16 ≤ v15.toNatClampNeg)) <|
      lt (aS F v15.toNatClampNeg ((F v15.toNatClampNeg) + 1)) fun F5 =>
      if 13 < v15 then
        some (false, M)
      else
        if (F5 v15.toNatClampNeg) ≤ 2 then
          lt (v15 + 1) fun y8 =>
          fL_sound_215 k38 n M F5 v1 v2 v3 v4 v5 v6 v7 v8 v10 v12 y8
        else
          some (false, M)

def fL_sound_303 (k38 : mm_M → (Nat → Int32) → Int32 → Int32 → Int32 → Int32 → Int32 → Int32 → Int32 → Int32 → Int32 → Option (Bool × mm_M)) (M : mm_M) (F : (Nat → Int32)) (v1 : Int32) (v2 : Int32) (v3 : Int32) (v4 : Int32) (v5 : Int32) (v6 : Int32) (v7 : Int32) (v8 : Int32) (v10 : Int32) (t0 : Bool) (t1 : Bool) : Option (Bool × mm_M) :=
  if (b2i t0) = (b2i t1) then
    fL_sound_308 k38 M F v1 v2 v3 v4 v5 v6 v7 v8 v10
  else
    some (false, M)

def fL_sound_293 (k38 : mm_M → (Nat → Int32) → Int32 → Int32 → Int32 → Int32 → Int32 → Int32 → Int32 → Int32 → Int32 → Option (Bool × mm_M)) (M : mm_M) (F : (Nat → Int32)) (v1 : Int32) (v2 : Int32) (v3 : Int32) (v4 : Int32) (v5 : Int32) (v6 : Int32) (v7 : Int32) (v8 : Int32) (v10 : Int32) (v13 : Int32) (t0 : Bool) : Option (Bool × mm_M) :=
  if v13 < 0 then
    fL_sound_303 k38 M F v1 v2 v3 v4 v5 v6 v7 v8 v10 t0 false
  else
    fL_sound_303 k38 M F v1 v2 v3 v4 v5 v6 v7 v8 v10 t0 true

def fL_sound_150 (k38 : mm_M → (Nat → Int32) → Int32 → Int32 → Int32 → Int32 → Int32 → Int32 → Int32 → Int32 → Int32 → Option (Bool × mm_M)) (M : mm_M) (F : (Nat → Int32)) (v1 : Int32) (v2 : Int32) (v3 : Int32) (v4 : Int32) (v5 : Int32) (v6 : Int32) (v8 : Int32) (v10 : Int32) (v11 : Int32) (v12 : Int32) (v13 : Int32) (v14 : Int32) (t0 : Int32) : Option (Bool × mm_M) :=
  if v11 < 0 then
    if 0 ≤ v12 then
      some (false, M)
    else
      if v14 < 0 then
        some (false, M)
      else
        if 5 < v14 then
          some (false, M)
        else
          if v14 ≤ 3 then
            fL_sound_293 k38 M F v1 v2 v3 v4 v5 v6 t0 v8 v10 v13 false
          else
            fL_sound_293 k38 M F v1 v2 v3 v4 v5 v6 t0 v8 v10 v13 true
  else
    lt (v5 + 1) fun y6 =>
    bn (fX6_ofPitch M v11 3) fun r8 =>
    if r8 = v10 then
      if v14 = 0 then
        if v12 < 0 then
          some (false, M)
        else
          if v13 < 0 then
            some (false, M)
          else
            bn (fX6_ofCart M v10 6) fun r14 =>
            if r14 = 0 then
              bn (fX6_whyNot M v10 v11) fun r17 =>
              if r17 = 0 then
                fL_sound_215 k38 FU M F v1 v2 v3 v4 y6 v6 t0 v8 v10 v12 v12
              else
                some (false, M)
            else
              some (false, M)
      else
        some (false, M)
    else
      some (false, M)

def fL_sound_133 (k38 : mm_M → (Nat → Int32) → Int32 → Int32 → Int32 → Int32 → Int32 → Int32 → Int32 → Int32 → Int32 → Option (Bool × mm_M)) (M : mm_M) (F : (Nat → Int32)) (v1 : Int32) (v2 : Int32) (v3 : Int32) (v4 : Int32) (v5 : Int32) (v7 : Int32) (v8 : Int32) (v10 : Int32) (v11 : Int32) (v12 : Int32) (v13 : Int32) (v14 : Int32) (t0 : Int32) (t1 : Bool) : Option (Bool × mm_M) :=
  lt (t0 + (b2i t1)) fun y1 =>
  if v13 ≤ v7 then
    fL_sound_150 k38 M F v1 v2 v3 v4 v5 y1 v8 v10 v11 v12 v13 v14 v7
  else
    fL_sound_150 k38 M F v1 v2 v3 v4 v5 y1 v8 v10 v11 v12 v13 v14 v13

def fL_sound_640 (k603 : mm_M → (Nat → Int32) → Int32 → Int32 → Int32 → Int32 → Int32 → Int32 → Int32 → Int32 → Int32 → Int32 → Int32 → Int32 → Int32 → Int32 → Int32 → Option (Bool × mm_M)) (M : mm_M) (F : (Nat → Int32)) (v1 : Int32) (v2 : Int32) (v3 : Int32) (v4 : Int32) (v5 : Int32) (v6 : Int32) (v7 : Int32) (v8 : Int32) (v10 : Int32) (v11 : Int32) (v12 : Int32) (v13 : Int32) (v14 : Int32) (v16 : Int32) (t0 : Int32) : Option (Bool × mm_M) :=
  if t0 < 0 then
    lt (v16 + 2) fun y2 =>
    k603 M F v1 v2 v3 v4 v5 v6 v7 v8 v10 v11 v12 v13 v14 0 y2
  else
    if t0 = v14 then
      lt (v16 + 2) fun y4 =>
      k603 M F v1 v2 v3 v4 v5 v6 v7 v8 v10 v11 v12 v13 v14 0 y4
    else
      bn (fX6_ofCart M t0 0) fun r6 =>
      bn (fX6_ofCart M v14 0) fun r8 =>
      if r6 = r8 then
        lt (v16 + 2) fun y11 =>
        k603 M F v1 v2 v3 v4 v5 v6 v7 v8 v10 v11 v12 v13 v14 2 y11
      else
        lt (v16 + 2) fun y10 =>
        k603 M F v1 v2 v3 v4 v5 v6 v7 v8 v10 v11 v12 v13 v14 0 y10

def fL_sound_628 (k603 : mm_M → (Nat → Int32) → Int32 → Int32 → Int32 → Int32 → Int32 → Int32 → Int32 → Int32 → Int32 → Int32 → Int32 → Int32 → Int32 → Int32 → Int32 → Option (Bool × mm_M)) (M : mm_M) (F : (Nat → Int32)) (v1 : Int32) (v2 : Int32) (v3 : Int32) (v4 : Int32) (v5 : Int32) (v6 : Int32) (v7 : Int32) (v8 : Int32) (v10 : Int32) (v11 : Int32) (v12 : Int32) (v13 : Int32) (v14 : Int32) (v16 : Int32) : Option (Bool × mm_M) :=
  fL_sound_640 k603 M F v1 v2 v3 v4 v5 v6 v7 v8 v10 v11 v12 v13 v14 v16 (-6)

def fL_sound_684 (k572 : mm_M → (Nat → Int32) → Int32 → Int32 → Int32 → Int32 → Int32 → Int32 → Int32 → Int32 → Int32 → Int32 → Int32 → Int32 → Int32 → Option (Bool × mm_M)) (M : mm_M) (F : (Nat → Int32)) (v1 : Int32) (v2 : Int32) (v3 : Int32) (v4 : Int32) (v5 : Int32) (v6 : Int32) (v7 : Int32) (v8 : Int32) (v10 : Int32) (v11 : Int32) (v12 : Int32) (v13 : Int32) (v14 : Int32) (v15 : Int32) : Option (Bool × mm_M) :=
  bn (fX6_whyNot M v14 v12) fun r2 =>
  if r2 = v15 then
    lt (v14 + 1) fun y4 =>
    k572 M F v1 v2 v3 v4 v5 v6 v7 v8 v10 v11 v12 v13 y4
  else
    some (false, M)

def fL_sound_603 (k572 : mm_M → (Nat → Int32) → Int32 → Int32 → Int32 → Int32 → Int32 → Int32 → Int32 → Int32 → Int32 → Int32 → Int32 → Int32 → Int32 → Option (Bool × mm_M)) : Nat → mm_M → (Nat → Int32) → Int32 → Int32 → Int32 → Int32 → Int32 → Int32 → Int32 → Int32 → Int32 → Int32 → Int32 → Int32 → Int32 → Int32 → Int32 → Option (Bool × mm_M)
  | 0, _, _, _, _, _, _, _, _, _, _, _, _, _, _, _, _, _ => none
  | n + 1, M, F, v1, v2, v3, v4, v5, v6, v7, v8, v10, v11, v12, v13, v14, v15, v16 =>
    if (v12 + 1) < v16 then
      fL_sound_684 k572 M F v1 v2 v3 v4 v5 v6 v7 v8 v10 v11 v12 v13 v14 v15
    else
      if v15 = 0 then
        if v16 < 0 then
          fL_sound_628 (fL_sound_603 k572 n) M F v1 v2 v3 v4 v5 v6 v7 v8 v10 v11 v12 v13 v14 v16
        else
          if v16 < v2 then
            bn (fX6_ofPitch M v16 3) fun r6 =>
            fL_sound_640 (fL_sound_603 k572 n) M F v1 v2 v3 v4 v5 v6 v7 v8 v10 v11 v12 v13 v14 v16 r6
          else
            fL_sound_628 (fL_sound_603 k572 n) M F v1 v2 v3 v4 v5 v6 v7 v8 v10 v11 v12 v13 v14 v16
      else
        fL_sound_684 k572 M F v1 v2 v3 v4 v5 v6 v7 v8 v10 v11 v12 v13 v14 v15

def fL_sound_572 (k510 : mm_M → (Nat → Int32) → Int32 → Int32 → Int32 → Int32 → Int32 → Int32 → Int32 → Int32 → Int32 → Int32 → Int32 → Option (Bool × mm_M)) : Nat → mm_M → (Nat → Int32) → Int32 → Int32 → Int32 → Int32 → Int32 → Int32 → Int32 → Int32 → Int32 → Int32 → Int32 → Int32 → Int32 → Option (Bool × mm_M)
  | 0, _, _, _, _, _, _, _, _, _, _, _, _, _, _, _ => none
  | n + 1, M, F, v1, v2, v3, v4, v5, v6, v7, v8, v10, v11, v12, v13, v14 =>
    if v1 ≤ v14 then
      lt (v12 + 1) fun y2 =>
      k510 M F v1 v2 v3 v4 v5 v6 v7 v8 v10 v11 y2
    else
      if v13 < 0 then
        lt (v12 - 1) fun y4 =>
        fL_sound_603 (fL_sound_572 k510 n) FU M F v1 v2 v3 v4 v5 v6 v7 v8 v10 v11 v12 v13 v14 0 y4
      else
        if v13 = v14 then
          lt (v12 - 1) fun y6 =>
          fL_sound_603 (fL_sound_572 k510 n) FU M F v1 v2 v3 v4 v5 v6 v7 v8 v10 v11 v12 v13 v14 0 y6
        else
          lt (v12 - 1) fun y7 =>
          fL_sound_603 (fL_sound_572 k510 n) FU M F v1 v2 v3 v4 v5 v6 v7 v8 v10 v11 v12 v13 v14 1 y7

def fL_sound_510  : Nat → mm_M → (Nat → Int32) → Int32 → Int32 → Int32 → Int32 → Int32 → Int32 → Int32 → Int32 → Int32 → Int32 → Int32 → Option (Bool × mm_M)
  | 0, _, _, _, _, _, _, _, _, _, _, _, _, _ => none
  | n + 1, M, F, v1, v2, v3, v4, v5, v6, v7, v8, v10, v11, v12 =>
    if v2 ≤ v12 then
      if v3 = v10 then
        if v4 = v11 then
          bn (fX6_count M 18) fun r5 =>
          if r5 = v5 then
            if v6 = (v7 + 1) then
              bn (fX6_count M 4) fun r9 =>
              if r9 = v8 then
                bn (fX6_ofCart M v1 0) fun r12 =>
                if r12 = (-1) then
                  bn (fX6_ofPitch M v2 0) fun r15 =>
                  if r15 = (-1) then
                    bn (fX6_whyNot M v1 0) fun r18 =>
                    if r18 = (-1) then
                      some (true, M)
                    else
                      some (false, M)
                  else
                    some (false, M)
                else
                  some (false, M)
              else
                some (false, M)
            else
              some (false, M)
          else
            some (false, M)
        else
          some (false, M)
      else
        some (false, M)
    else
      bn (fX6_ofPitch M v12 3) fun r21 =>
      bn (fX6_ofPitch M v12 1) fun r23 =>
      lt (v10 + r23) fun y24 =>
      bn (fX6_ofPitch M v12 2) fun r26 =>
      lt (v11 + r26) fun y27 =>
      if r21 < 0 then
        fL_sound_572 (fL_sound_510 n) FU M F v1 v2 v3 v4 v5 v6 v7 v8 y24 y27 v12 r21 0
      else
        bn (fX6_ofCart M r21 12) fun r30 =>
        if r30 = v12 then
          fL_sound_572 (fL_sound_510 n) FU M F v1 v2 v3 v4 v5 v6 v7 v8 y24 y27 v12 r21 0
        else
          some (false, M)

def fL_sound_38  : Nat → mm_M → (Nat → Int32) → Int32 → Int32 → Int32 → Int32 → Int32 → Int32 → Int32 → Int32 → Int32 → Option (Bool × mm_M)
  | 0, _, _, _, _, _, _, _, _, _, _, _ => none
  | n + 1, M, F, v1, v2, v3, v4, v5, v6, v7, v8, v10 =>
    if v1 ≤ v10 then
      fL_sound_510 FU M F v1 v2 v3 v4 v5 v6 v7 v8 0 0 0
    else
      bn (fX6_ofCart M v10 12) fun r3 =>
      bn (fX6_ofCart M v10 13) fun r5 =>
      bn (fX6_ofCart M v10 15) fun r7 =>
      bn (fX6_ofCart M v10 14) fun r9 =>
      bn (fX6_ofCart M v10 11) fun r11 =>
      lt (v3 + r11) fun y12 =>
      bn (fX6_money M v10 2) fun r14 =>
      lt (v4 + (r14.toInt32)) fun y15 =>
      bn (fX6_ofCart M v10 8) fun r17 =>
      lt (v8 + r17) fun y18 =>
      if r7 < 0 then
        fL_sound_133 (fL_sound_38 n) M F v1 v2 y12 y15 v5 v7 y18 v10 r3 r5 r7 r9 v6 false
      else
        fL_sound_133 (fL_sound_38 n) M F v1 v2 y12 y15 v5 v7 y18 v10 r3 r5 r7 r9 v6 true

def fL_sound (M : mm_M) : Option (Bool × mm_M) :=
  bn (fX6_count M 1) fun r2 =>
  bn (fX6_count M 2) fun r4 =>
  lt (fun _ => (0 : Int32)) fun F5 =>
  fL_sound_38 FU M F5 r2 r4 0 0 0 0 (-1) 0 0

def fL_act_344 (x1 : Int32) (x2 : Int32) (x3 : Int32) (M : mm_M) (v4 : Int32) (v5 : Int32) (t0 : Int32) (t1 : Int32) : Option (Bool × mm_M) :=
  if t0 = t1 then
    bn2 (fX6_wish M v4 v5 (-6) (-6)) fun r3 M4 =>
    if r3 = (-2) then
      some (true, M4)
    else
      some (false, M4)
  else
    some (false, M)

def fL_act_321 (x1 : Int32) (x2 : Int32) (x3 : Int32) (M : mm_M) (v4 : Int32) (v5 : Int32) (v8 : Int32) (v10 : Int32) (t0 : Int32) (t1 : Int32) : Option (Bool × mm_M) :=
  if t0 = t1 then
    bn (fX6_ofCart M v4 5) fun r3 =>
    if v10 ≤ 2 then
      fL_act_344 x1 x2 x3 M v4 v5 r3 (-6)
    else
      fL_act_344 x1 x2 x3 M v4 v5 r3 v8
  else
    some (false, M)

def fL_act_209 (x1 : Int32) (x2 : Int32) (x3 : Int32) (M : mm_M) (v4 : Int32) (v5 : Int32) (v6 : Int32) (v7 : Int32) (v8 : Int32) (v9 : Bool) (t0 : Int32) : Option (Bool × mm_M) :=
  bn (fX6_ofCart M v4 2) fun r2 =>
  if v9 = true then
    bn2 (fX6_wish M v4 v6 v7 v8) fun r18 M19 =>
    if r18 = (-2) then
      bn (fX6_ofCart M19 v4 2) fun r22 =>
      if r22 = r2 then
        some (true, M19)
      else
        some (false, M19)
    else
      some (false, M19)
  else
    bn2 (fX6_wish M v4 v6 v7 v8) fun r5 M6 =>
    if r5 = t0 then
      bn (fX6_ofCart M6 v4 2) fun r9 =>
      if r9 = t0 then
        bn (fX6_ofCart M6 v4 3) fun r12 =>
        if r12 = v6 then
          bn (fX6_ofCart M6 v4 4) fun r15 =>
          if t0 ≤ 1 then
            fL_act_321 x1 x2 x3 M6 v4 v5 v8 t0 r15 (-6)
          else
            fL_act_321 x1 x2 x3 M6 v4 v5 v8 t0 r15 v7
        else
          some (false, M6)
      else
        some (false, M6)
    else
      some (false, M6)

def fL_act_188 (x1 : Int32) (x2 : Int32) (x3 : Int32) (M : mm_M) (v4 : Int32) (v5 : Int32) (v6 : Int32) (v7 : Int32) (v8 : Int32) (t0 : Bool) : Option (Bool × mm_M) :=
  if 0 ≤ v7 then
    if 0 ≤ v8 then
      fL_act_209 x1 x2 x3 M v4 v5 v6 v7 v8 t0 3
    else
      fL_act_209 x1 x2 x3 M v4 v5 v6 v7 v8 t0 2
  else
    fL_act_209 x1 x2 x3 M v4 v5 v6 v7 v8 t0 1

def fL_act_183 (x1 : Int32) (x2 : Int32) (x3 : Int32) (M : mm_M) (v4 : Int32) (v5 : Int32) (v6 : Int32) (v7 : Int32) (v8 : Int32) : Option (Bool × mm_M) :=
  fL_act_188 x1 x2 x3 M v4 v5 v6 v7 v8 true

def fL_act_187 (x1 : Int32) (x2 : Int32) (x3 : Int32) (M : mm_M) (v4 : Int32) (v5 : Int32) (v6 : Int32) (v7 : Int32) (v8 : Int32) : Option (Bool × mm_M) :=
  fL_act_188 x1 x2 x3 M v4 v5 v6 v7 v8 false

def fL_act_150 (x1 : Int32) (x2 : Int32) (x3 : Int32) (M : mm_M) (v4 : Int32) (v5 : Int32) (v6 : Int32) (v7 : Int32) (t0 : Int32) : Option (Bool × mm_M) :=
  if v7 < 0 then
    fL_act_187 x1 x2 x3 M v4 v5 v6 v7 t0
  else
    if v6 = v7 then
      fL_act_183 x1 x2 x3 M v4 v5 v6 v7 t0
    else
      if t0 < 0 then
        fL_act_187 x1 x2 x3 M v4 v5 v6 v7 t0
      else
        if v6 = t0 then
          fL_act_183 x1 x2 x3 M v4 v5 v6 v7 t0
        else
          if v7 = t0 then
            fL_act_183 x1 x2 x3 M v4 v5 v6 v7 t0
          else
            fL_act_187 x1 x2 x3 M v4 v5 v6 v7 t0

def fL_act_123 (x1 : Int32) (x2 : Int32) (x3 : Int32) (M : mm_M) (v4 : Int32) (v5 : Int32) (v6 : Int32) (t0 : Int32) : Option (Bool × mm_M) :=
  bn (fL_up M (x3 >>> (10 &&& 31)) 3) fun r2 =>
  if r2 = 0 then
    fL_act_150 x1 x2 x3 M v4 v5 v6 t0 (-6)
  else
    bn (fL_up M (x3 >>> (13 &&& 31)) v5) fun r5 =>
    fL_act_150 x1 x2 x3 M v4 v5 v6 t0 r5

def fL_act_84 (x1 : Int32) (x2 : Int32) (x3 : Int32) (M : mm_M) (v4 : Int32) : Option (Bool × mm_M) :=
  bn (fX6_count M 2) fun r2 =>
  bn (fL_up M x3 r2) fun r4 =>
  bn (fL_up M (x3 >>> (4 &&& 31)) 4) fun r6 =>
  if r6 = 0 then
    fL_act_123 x1 x2 x3 M v4 r2 r4 (-6)
  else
    bn (fL_up M (x3 >>> (7 &&& 31)) r2) fun r9 =>
    fL_act_123 x1 x2 x3 M v4 r2 r4 r9

def fL_act_502 (x1 : Int32) (x2 : Int32) (x3 : Int32) (M : mm_M) (v4 : Int32) : Option (Bool × mm_M) :=
  bn2 (fX6_fine M v4 0) fun r2 M3 =>
  if r2 = (-2) then
    some (true, M3)
  else
    some (false, M3)

def fL_act_422 (x1 : Int32) (x2 : Int32) (x3 : Int32) (M : mm_M) (v4 : Int32) (v5 : Int32) (v7 : Int64) (t0 : Int32) : Option (Bool × mm_M) :=
  bn2 (fX6_fine M v4 v5) fun r2 M3 =>
  if r2 = t0 then
    bn (fX6_ofCart M3 v4 9) fun r6 =>
    if r6 = t0 then
      bn (fX6_money M3 v4 3) fun r9 =>
      bn (fX6_count M3 14) fun r11 =>
      if (lg_cmp r9 (v7 + ((v5 * r11).toInt64))) = 0 then
        if 0 < t0 then
          fL_act_502 x1 x2 x3 M3 v4
        else
          bn (fX6_ofCart M3 v4 10) fun r15 =>
          bn (fX6_count M3 0) fun r17 =>
          bn (fX6_count M3 12) fun r19 =>
          if r15 = (r17 + r19) then
            fL_act_502 x1 x2 x3 M3 v4
          else
            some (false, M3)
      else
        some (false, M3)
    else
      some (false, M3)
  else
    some (false, M3)

def fL_act_598 (x1 : Int32) (x2 : Int32) (x3 : Int32) (M : mm_M) (v4 : Int32) : Option (Bool × mm_M) :=
  bn (fX6_count M 1) fun r2 =>
  bn (fL_up M x3 r2) fun r4 =>
  bn (fX6_count M 5) fun r6 =>
  if v4 = r4 then
    bn2 (fX6_swap M v4 r4) fun r21 M22 =>
    if r21 = (-1) then
      some (true, M22)
    else
      some (false, M22)
  else
    if r6 = 8 then
      bn2 (fX6_swap M v4 r4) fun r17 M18 =>
      if r17 = (-4) then
        some (true, M18)
      else
        some (false, M18)
    else
      bn2 (fX6_swap M v4 r4) fun r10 M11 =>
      if r10 = (r6 + 1) then
        bn (fX6_count M11 5) fun r14 =>
        if r14 = (r6 + 1) then
          some (true, M11)
        else
          some (false, M11)
      else
        some (false, M11)

def fL_act_747 (x1 : Int32) (x2 : Int32) (x3 : Int32) (M : mm_M) (v4 : Int32) (v5 : Int32) (v6 : Int64) (t0 : Int32) (t1 : Bool) : Option (Bool × mm_M) :=
  if t0 = (b2i t1) then
    bn (fX6_money M v4 0) fun r3 =>
    if (lg_cmp r3 (v6 + (v5.toInt64))) = 0 then
      bn2 (fX6_pay M v4 0) fun r6 M7 =>
      if r6 = (-2) then
        some (true, M7)
      else
        some (false, M7)
    else
      some (false, M)
  else
    some (false, M)

def fL_act_948 (x1 : Int32) (x2 : Int32) (x3 : Int32) (M : mm_M) (t1 : Int32) (t2 : Int32) : Option (Bool × mm_M) :=
  bn (fL_up M t1 t2) fun r2 =>
  lt (1 + r2) fun y3 =>
  bn (fX6_count M 0) fun r5 =>
  bn2 (fX6_days M y3) fun r7 M8 =>
  if r7 = (r5 + y3) then
    bn (fX6_count M8 0) fun r11 =>
    if r11 = (r5 + y3) then
      bn (fX6_count M8 5) fun r14 =>
      if r14 = 0 then
        some (true, M8)
      else
        some (false, M8)
    else
      some (false, M8)
  else
    some (false, M8)

def fL_act_931 (x1 : Int32) (x2 : Int32) (x3 : Int32) (M : mm_M) : Option (Bool × mm_M) :=
  bn (fL_up M x3 6) fun r2 =>
  if r2 = 0 then
    fL_act_948 x1 x2 x3 M x2 30
  else
    fL_act_948 x1 x2 x3 M x2 4

def fL_act (M : mm_M) (x1 : Int32) (x2 : Int32) (x3 : Int32) : Option (Bool × mm_M) :=
  bn (fX6_count M 1) fun r2 =>
  bn (fL_up M x2 r2) fun r4 =>
  bn (fL_up M x1 14) fun r6 =>
  if r6 = 0 then
    fL_act_84 x1 x2 x3 M r4
  else if r6 = 1 then
    fL_act_84 x1 x2 x3 M r4
  else if r6 = 2 then
    fL_act_84 x1 x2 x3 M r4
  else if r6 = 3 then
    bn (fL_up M x3 9) fun r12 =>
    lt (1 + r12) fun y13 =>
    bn (fX6_ofCart M r4 9) fun r15 =>
    bn (fX6_money M r4 3) fun r17 =>
    bn (fX6_count M 11) fun r19 =>
    if (r15 + y13) < r19 then
      fL_act_422 x1 x2 x3 M r4 y13 r17 (r15 + y13)
    else
      fL_act_422 x1 x2 x3 M r4 y13 r17 0
  else if r6 = 4 then
    bn (fX6_count M 4) fun r23 =>
    bn (fX6_ofCart M r4 8) fun r25 =>
    if r25 = 1 then
      bn2 (fX6_check M r4) fun r39 M40 =>
      if r39 = (-5) then
        some (true, M40)
      else
        some (false, M40)
    else
      bn2 (fX6_check M r4) fun r28 M29 =>
      if r28 = (r23 + 1) then
        bn (fX6_ofCart M29 r4 8) fun r32 =>
        if r32 = 1 then
          bn2 (fX6_check M29 r4) fun r35 M36 =>
          if r35 = (-5) then
            some (true, M36)
          else
            some (false, M36)
        else
          some (false, M29)
      else
        some (false, M29)
  else if r6 = 5 then
    fL_act_598 x1 x2 x3 M r4
  else if r6 = 6 then
    fL_act_598 x1 x2 x3 M r4
  else if r6 = 7 then
    bn (fL_up M x3 1000000) fun r46 =>
    lt (1 + r46) fun y47 =>
    bn (fX6_money M r4 0) fun r49 =>
    bn2 (fX6_pay M r4 y47) fun r51 M52 =>
    if (lg_cmp (r49 + (y47.toInt64)) (0 : Int64)) < 0 then
      fL_act_747 x1 x2 x3 M52 r4 y47 r49 r51 false
    else
      fL_act_747 x1 x2 x3 M52 r4 y47 r49 r51 true
  else if r6 = 8 then
    bn (fX6_count M 2) fun r56 =>
    bn (fL_up M x3 r56) fun r58 =>
    bn (fX6_ofPitch M r58 0) fun r60 =>
    bn (fL_up M (x3 >>> (4 &&& 31)) 20001) fun r62 =>
    bn2 (fX6_rent M r58 r62) fun r64 M65 =>
    if r64 = r60 then
      bn (fX6_ofPitch M65 r58 0) fun r68 =>
      bn (fL_up M65 (x3 >>> (4 &&& 31)) 20001) fun r70 =>
      if r68 = r70 then
        bn2 (fX6_rent M65 r58 20001) fun r73 M74 =>
        if r73 = (-2) then
          some (true, M74)
        else
          some (false, M74)
      else
        some (false, M65)
    else
      some (false, M65)
  else if r6 = 9 then
    bn (fX6_count M 3) fun r78 =>
    bn (fL_up M x2 2) fun r80 =>
    if r80 = 0 then
      bn2 (fL_sets M x3) fun r98 M99 =>
      some (r98, M99)
    else
      bn (fL_up M x3 65537) fun r83 =>
      bn2 (fX6_seed M r83) fun r85 M86 =>
      if r85 = r78 then
        bn (fX6_count M86 3) fun r89 =>
        bn (fL_up M86 x3 65537) fun r91 =>
        if r89 = r91 then
          bn2 (fX6_seed M86 65537) fun r94 M95 =>
          if r94 = (-2) then
            some (true, M95)
          else
            some (false, M95)
        else
          some (false, M86)
      else
        some (false, M86)
  else if r6 = 10 then
    fL_act_931 x1 x2 x3 M
  else if r6 = 11 then
    fL_act_931 x1 x2 x3 M
  else if r6 = 12 then
    fL_act_931 x1 x2 x3 M
  else 
    bn2 (fL_text M x2 x3) fun r104 M105 =>
    some (r104, M105)
