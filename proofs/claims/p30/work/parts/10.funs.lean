def fX0_beginDay (M : mm_M) (a0 : Nat) : Option (mm_M) :=
  lt (sI M a0 8 (-6)) fun M1 =>
  lt (sI M1 a0 9 (-6)) fun M2 =>
  lt (sI M2 a0 10 0) fun M3 =>
  lt (sI M3 a0 11 (-6)) fun M4 =>
  some M4

def fX0_dropAllPoints_2 (a0 : Nat) : Nat → mm_M → Int32 → Option (mm_M)
  | 0, _, _ => none
  | n + 1, M, v1 =>
    if 200 ≤ v1 then
      some M
    else
      gd (¬ (v1 < 0 ∨ 200 ≤ v1.toNatClampNeg)) <|
      lt (sI M (a0 + 2) v1.toNatClampNeg 0) fun M3 =>
      lt (v1 + 1) fun y4 =>
      fX0_dropAllPoints_2 a0 n M3 y4

def fX0_dropAllPoints (M : mm_M) (a0 : Nat) : Option (mm_M) :=
  fX0_dropAllPoints_2 a0 FU M 0

def fX0_begin (M : mm_M) (a0 : Nat) (x1 : Int32) (x2 : Int32) (x3 : Int32) : Option (mm_M) :=
  lt (sI M a0 0 x1) fun M1 =>
  lt (sI M1 a0 1 x2) fun M2 =>
  lt (sI M2 a0 4 x3) fun M3 =>
  lt (sI M3 a0 2 0) fun M4 =>
  lt (sI M4 a0 3 0) fun M5 =>
  lt (sI M5 a0 5 0) fun M6 =>
  lt (sI M6 a0 6 (-6)) fun M7 =>
  lt (sI M7 a0 7 0) fun M8 =>
  lt (sL M8 a0 12 (0 : Int64)) fun M9 =>
  lt (sL M9 a0 13 (0 : Int64)) fun M10 =>
  lt (sL M10 a0 14 (0 : Int64)) fun M11 =>
  lt (sL M11 a0 15 (0 : Int64)) fun M12 =>
  bn (fX0_dropAllPoints M12 a0) fun M14 =>
  bn (fX0_beginDay M14 a0) fun M16 =>
  some M16

def fX0_copyFrom (M : mm_M) (a0 : Nat) (a1 : Nat) : Option (mm_M) :=
  lt (sI M a0 0 (M.1 a1 0)) fun M1 =>
  lt (sI M1 a0 1 (M1.1 a1 1)) fun M2 =>
  lt (sI M2 a0 2 (M2.1 a1 2)) fun M3 =>
  lt (sI M3 a0 3 (M3.1 a1 3)) fun M4 =>
  lt (sI M4 a0 4 (M4.1 a1 4)) fun M5 =>
  gd ((M5.1 a1 5) = 0 ∨ (M5.1 a1 5) = 1) <|
  lt (sI M5 a0 5 (M5.1 a1 5)) fun M7 =>
  lt (sI M7 a0 6 (M7.1 a1 6)) fun M8 =>
  lt (sI M8 a0 7 (M8.1 a1 7)) fun M9 =>
  lt (sI M9 a0 8 (M9.1 a1 8)) fun M10 =>
  lt (sI M10 a0 9 (M10.1 a1 9)) fun M11 =>
  lt (sI M11 a0 10 (M11.1 a1 10)) fun M12 =>
  lt (sI M12 a0 11 (M12.1 a1 11)) fun M13 =>
  lt (sL M13 a0 12 (M13.2 a1 12)) fun M14 =>
  lt (sL M14 a0 13 (M14.2 a1 13)) fun M15 =>
  lt (sL M15 a0 14 (M15.2 a1 14)) fun M16 =>
  lt (sL M16 a0 15 (M16.2 a1 15)) fun M17 =>
  lt (sC M17 (a0 + 1) (fun j => if j < 3 then M17.1 (a1 + 1) j else M17.1 (a0 + 1) j)) fun M18 =>
  lt (sC M18 (a0 + 2) (fun j => if j < 200 then M18.1 (a1 + 2) j else M18.1 (a0 + 2) j)) fun M19 =>
  some M19

def fX0_balance (M : mm_M) (a0 : Nat) : Option (Int64) :=
  some ((((M.2 a0 12) - (M.2 a0 13)) - (M.2 a0 14)) - (M.2 a0 15))

def fX0_wishAt (M : mm_M) (a0 : Nat) (x1 : Int32) : Option (Int32) :=
  if x1 < 0 then
    some (-6)
  else
    if (M.1 a0 2) ≤ x1 then
      some (-6)
    else
      if 3 ≤ x1 then
        some (-6)
      else
        gd (¬ (x1 < 0 ∨ 3 ≤ x1.toNatClampNeg)) <|
        some (M.1 (a0 + 1) x1.toNatClampNeg)

def fX0_addPoints (M : mm_M) (a0 : Nat) (x1 : Int32) (x2 : Int32) : Option (mm_M) :=
  lt (x1 - x1 / 200 * 200) fun y1 =>
  if y1 < 0 then
    some M
  else
    gd (¬ (y1 < 0 ∨ 200 ≤ y1.toNatClampNeg)) <|
    lt (sI M (a0 + 2) y1.toNatClampNeg ((M.1 (a0 + 2) y1.toNatClampNeg) + x2)) fun M4 =>
    some M4

def fX0_dropPointsOfSameSpot (M : mm_M) (a0 : Nat) (x1 : Int32) : Option (mm_M) :=
  lt (x1 - x1 / 200 * 200) fun y1 =>
  if y1 < 0 then
    some M
  else
    gd (¬ (y1 < 0 ∨ 200 ≤ y1.toNatClampNeg)) <|
    lt (sI M (a0 + 2) y1.toNatClampNeg 0) fun M4 =>
    some M4

def fX0_pointsLeft_6 (a0 : Nat) (x1 : Int32) (x2 : Int32) (x3 : Int32) (M : mm_M) : Nat → Int32 → Int32 → Option (Int32)
  | 0, _, _ => none
  | n + 1, v4, v5 =>
    if x3 ≤ v5 then
      some v4
    else
      if 200 ≤ v5 then
        some v4
      else
        lt (x1 - v5) fun y3 =>
        if y3 < 0 then
          lt (v5 + 1) fun y5 =>
          fX0_pointsLeft_6 a0 x1 x2 x3 M n v4 y5
        else
          if x2 < y3 then
            lt (v5 + 1) fun y7 =>
            fX0_pointsLeft_6 a0 x1 x2 x3 M n v4 y7
          else
            gd (¬ ((y3 - y3 / 200 * 200) < 0 ∨ 200 ≤ (y3 - y3 / 200 * 200).toNatClampNeg)) <|
            lt (v4 + (M.1 (a0 + 2) (y3 - y3 / 200 * 200).toNatClampNeg)) fun y9 =>
            lt (v5 + 1) fun y10 =>
            fX0_pointsLeft_6 a0 x1 x2 x3 M n y9 y10

def fX0_pointsLeft (M : mm_M) (a0 : Nat) (x1 : Int32) (x2 : Int32) (x3 : Int32) : Option (Int32) :=
  fX0_pointsLeft_6 a0 x1 x2 x3 M FU 0 0

def fX0_reasonBeforeLots (M : mm_M) (a0 : Nat) (x1 : Int32) : Option (Int32) :=
  if (M.1 a0 2) = 0 then
    some 1
  else
    if x1 ≤ (M.1 a0 4) then
      if (M.1 a0 6) < x1 then
        some 4
      else
        some 3
    else
      some 2

def fX1_nextToCheck_4 (a0 : Nat) (M : mm_M) : Nat → Option Nat → Int32 → Option (Option Nat)
  | 0, _, _ => none
  | n + 1, v1, v2 =>
    if (M.1 a0 3) ≤ v2 then
      some v1
    else
      gd (¬ (v2 < 0 ∨ 16 ≤ v2.toNatClampNeg)) <|
      if (M.1 (a0 + 18 + 3 * v2.toNatClampNeg) 5) = 0 then
        lt (v2 + 1) fun y4 =>
        fX1_nextToCheck_4 a0 M n v1 y4
      else
        om v1
          (lt (v2 + 1) fun y6 =>
          fX1_nextToCheck_4 a0 M n (some (a0 + 18 + 3 * v2.toNatClampNeg)) y6)
          (fun b5 => gd (kT b5 = (0, 0)) <|
          if (M.1 b5 4) ≤ (M.1 (a0 + 18 + 3 * v2.toNatClampNeg) 4) then
            lt (v2 + 1) fun y9 =>
            fX1_nextToCheck_4 a0 M n (some b5) y9
          else
            lt (v2 + 1) fun y10 =>
            fX1_nextToCheck_4 a0 M n (some (a0 + 18 + 3 * v2.toNatClampNeg)) y10)

def fX1_nextToCheck (M : mm_M) (a0 : Nat) : Option (Option Nat) :=
  fX1_nextToCheck_4 a0 M FU none 0

def fX1_runChecks_2 (a0 : Nat) : Nat → mm_M → Int32 → Option (mm_M)
  | 0, _, _ => none
  | n + 1, M, v1 =>
    if (M.1 (a0 + 1) 2) ≤ v1 then
      some M
    else
      bn (fX1_nextToCheck M a0) fun r3 =>
      om r3
        (some M)
        (fun b4 => gd (kT b4 = (0, 0)) <|
        lt (sI M b4 4 ((M.1 a0 0) + (M.1 (a0 + 1) 1))) fun M6 =>
        lt (sI M6 b4 5 0) fun M7 =>
        lt (v1 + 1) fun y8 =>
        fX1_runChecks_2 a0 n M7 y8)

def fX1_runChecks (M : mm_M) (a0 : Nat) : Option (mm_M) :=
  fX1_runChecks_2 a0 FU M 0

def fX1_clearLastDay_29 (a0 : Nat) : Nat → mm_M → Int32 → Option (mm_M)
  | 0, _, _ => none
  | n + 1, M, v1 =>
    if (M.1 a0 3) ≤ v1 then
      some M
    else
      gd (¬ (v1 < 0 ∨ 16 ≤ v1.toNatClampNeg)) <|
      bn (fX0_beginDay M (a0 + 18 + 3 * v1.toNatClampNeg)) fun M4 =>
      lt (v1 + 1) fun y5 =>
      fX1_clearLastDay_29 a0 n M4 y5

def fX1_clearLastDay_2 (a0 : Nat) : Nat → mm_M → Int32 → Option (mm_M)
  | 0, _, _ => none
  | n + 1, M, v1 =>
    if (M.1 a0 2) ≤ v1 then
      fX1_clearLastDay_29 a0 FU M 0
    else
      gd (¬ (v1 < 0 ∨ 10 ≤ v1.toNatClampNeg)) <|
      lt (sI M (a0 + 8 + v1.toNatClampNeg) 3 (-6)) fun M3 =>
      lt (v1 + 1) fun y4 =>
      fX1_clearLastDay_2 a0 n M3 y4

def fX1_clearLastDay (M : mm_M) (a0 : Nat) : Option (mm_M) :=
  fX1_clearLastDay_2 a0 FU M 0

def fX5_hasCart (M : mm_M) (a0 : Nat) (x1 : Int32) : Option (Bool) :=
  if x1 < 0 then
    some false
  else
    if (M.1 a0 3) ≤ x1 then
      some false
    else
      if 16 ≤ x1 then
        some false
      else
        some true

def fX5_hasPitch (M : mm_M) (a0 : Nat) (x1 : Int32) : Option (Bool) :=
  if x1 < 0 then
    some false
  else
    if (M.1 a0 2) ≤ x1 then
      some false
    else
      if 10 ≤ x1 then
        some false
      else
        some true

def fX5_sameKindBeside_43 (a0 : Nat) (x1 : Int32) (x2 : Int32) (M : mm_M) (k14 : Int32 → Option (Bool)) (v3 : Int32) (t0 : Int32) : Option (Bool) :=
  if t0 = x1 then
    lt (v3 + 2) fun y2 =>
    k14 y2
  else
    bn (fX5_hasCart M a0 t0) fun r4 =>
    if r4 = true then
      gd (¬ (t0 < 0 ∨ 16 ≤ t0.toNatClampNeg)) <|
      gd (¬ (x1 < 0 ∨ 16 ≤ x1.toNatClampNeg)) <|
      if (M.1 (a0 + 18 + 3 * t0.toNatClampNeg) 0) = (M.1 (a0 + 18 + 3 * x1.toNatClampNeg) 0) then
        some true
      else
        lt (v3 + 2) fun y10 =>
        k14 y10
    else
      lt (v3 + 2) fun y6 =>
      k14 y6

def fX5_sameKindBeside_14 (a0 : Nat) (x1 : Int32) (x2 : Int32) (M : mm_M) : Nat → Int32 → Option (Bool)
  | 0, _ => none
  | n + 1, v3 =>
    if (x2 + 1) < v3 then
      some false
    else
      bn (fX5_hasPitch M a0 v3) fun r3 =>
      if r3 = true then
        gd (¬ (v3 < 0 ∨ 10 ≤ v3.toNatClampNeg)) <|
        fX5_sameKindBeside_43 a0 x1 x2 M (fX5_sameKindBeside_14 a0 x1 x2 M n) v3 (M.1 (a0 + 8 + v3.toNatClampNeg) 3)
      else
        fX5_sameKindBeside_43 a0 x1 x2 M (fX5_sameKindBeside_14 a0 x1 x2 M n) v3 (-6)

def fX5_sameKindBeside (M : mm_M) (a0 : Nat) (x1 : Int32) (x2 : Int32) : Option (Bool) :=
  bn (fX5_hasCart M a0 x1) fun r2 =>
  if r2 = true then
    lt (x2 - 1) fun y4 =>
    fX5_sameKindBeside_14 a0 x1 x2 M FU y4
  else
    some false

def fX5_seat (M : mm_M) (a0 : Nat) (x1 : Int32) (x2 : Int32) : Option (mm_M) :=
  bn (fX5_hasCart M a0 x1) fun r2 =>
  if r2 = true then
    bn (fX5_hasPitch M a0 x2) fun r5 =>
    if r5 = true then
      gd (¬ (x2 < 0 ∨ 10 ≤ x2.toNatClampNeg)) <|
      lt (sI M (a0 + 8 + x2.toNatClampNeg) 3 x1) fun M8 =>
      gd (¬ (x1 < 0 ∨ 16 ≤ x1.toNatClampNeg)) <|
      lt (sI M8 (a0 + 18 + 3 * x1.toNatClampNeg) 8 x2) fun M10 =>
      some M10
    else
      some M
  else
    some M

def fX1_choosePitch_18 (a0 : Nat) (x1 : Int32) : Nat → mm_M → Nat → Int32 → Option (mm_M)
  | 0, _, _, _ => none
  | n + 1, M, v2, v3 =>
    if (M.1 v2 2) ≤ v3 then
      some M
    else
      bn (fX0_wishAt M v2 v3) fun r3 =>
      bn (fX5_hasPitch M a0 r3) fun r5 =>
      if r5 = true then
        gd (¬ (r3 < 0 ∨ 10 ≤ r3.toNatClampNeg)) <|
        if (M.1 (a0 + 8 + r3.toNatClampNeg) 3) = (-6) then
          bn (fX5_sameKindBeside M a0 x1 r3) fun r12 =>
          if r12 = true then
            lt (v3 + 1) fun y14 =>
            fX1_choosePitch_18 a0 x1 n M v2 y14
          else
            bn (fX5_seat M a0 x1 r3) fun M16 =>
            lt (sI M16 v2 10 0) fun M17 =>
            some M17
        else
          lt (v3 + 1) fun y10 =>
          fX1_choosePitch_18 a0 x1 n M v2 y10
      else
        lt (v3 + 1) fun y7 =>
        fX1_choosePitch_18 a0 x1 n M v2 y7

def fX1_choosePitch (M : mm_M) (a0 : Nat) (x1 : Int32) : Option (mm_M) :=
  bn (fX5_hasCart M a0 x1) fun r2 =>
  if r2 = true then
    gd (¬ (x1 < 0 ∨ 16 ≤ x1.toNatClampNeg)) <|
    fX1_choosePitch_18 a0 x1 FU M (a0 + 18 + 3 * x1.toNatClampNeg) 0
  else
    some M

def fX1_handOutTickets_75 (a0 : Nat) (k4 : mm_M → Int32 → Int32 → Option (Int32 × mm_M)) (M : mm_M) (v1 : Int32) (v2 : Int32) (t0 : Nat) (t1 : Int32) (t2 : Int32) : Option (Int32 × mm_M) :=
  gd (¬ (t1 < 0 ∨ 16 ≤ t1.toNatClampNeg)) <|
  lt (sI M t0 t1.toNatClampNeg t2) fun M2 =>
  gd (¬ (v2 < 0 ∨ 16 ≤ v2.toNatClampNeg)) <|
  lt (v1 + (M2.1 (a0 + 6) v2.toNatClampNeg)) fun y4 =>
  lt (v2 + 1) fun y5 =>
  k4 M2 y4 y5

def fX1_handOutTickets_44 (a0 : Nat) (k4 : mm_M → Int32 → Int32 → Option (Int32 × mm_M)) (M : mm_M) (v1 : Int32) (v2 : Int32) (v3 : Nat) (t0 : Bool) : Option (Int32 × mm_M) :=
  if t0 = true then
    fX1_handOutTickets_75 a0 k4 M v1 v2 (a0 + 6) v2 (if (M.1 (a0 + 1) 0) < (1 + (M.1 v3 3)) then (M.1 (a0 + 1) 0) else (1 + (M.1 v3 3)))
  else
    fX1_handOutTickets_75 a0 k4 M v1 v2 (a0 + 6) v2 0

def fX1_handOutTickets_4 (a0 : Nat) : Nat → mm_M → Int32 → Int32 → Option (Int32 × mm_M)
  | 0, _, _, _ => none
  | n + 1, M, v1, v2 =>
    if (M.1 a0 3) ≤ v2 then
      some (v1, M)
    else
      gd (¬ (v2 < 0 ∨ 16 ≤ v2.toNatClampNeg)) <|
      bn (fX0_reasonBeforeLots M (a0 + 18 + 3 * v2.toNatClampNeg) (M.1 a0 0)) fun r4 =>
      lt (sI M (a0 + 18 + 3 * v2.toNatClampNeg) 10 r4) fun M5 =>
      if (M5.1 (a0 + 18 + 3 * v2.toNatClampNeg) 10) = 4 then
        fX1_handOutTickets_44 a0 (fX1_handOutTickets_4 a0 n) M5 v1 v2 (a0 + 18 + 3 * v2.toNatClampNeg) true
      else
        fX1_handOutTickets_44 a0 (fX1_handOutTickets_4 a0 n) M5 v1 v2 (a0 + 18 + 3 * v2.toNatClampNeg) false

def fX1_handOutTickets (M : mm_M) (a0 : Nat) : Option (Int32 × mm_M) :=
  fX1_handOutTickets_4 a0 FU M 0 0

def fX1_holderOfTicket_4 (a0 : Nat) (x1 : Int32) (M : mm_M) : Nat → Int32 → Int32 → Option (Int32)
  | 0, _, _ => none
  | n + 1, v2, v3 =>
    if (M.1 a0 3) ≤ v3 then
      some (-6)
    else
      gd (¬ (v3 < 0 ∨ 16 ≤ v3.toNatClampNeg)) <|
      lt (v2 + (M.1 (a0 + 6) v3.toNatClampNeg)) fun y3 =>
      if y3 ≤ x1 then
        lt (v3 + 1) fun y5 =>
        fX1_holderOfTicket_4 a0 x1 M n y3 y5
      else
        some v3

def fX1_holderOfTicket (M : mm_M) (a0 : Nat) (x1 : Int32) : Option (Int32) :=
  fX1_holderOfTicket_4 a0 x1 M FU 0 0

def fX1_drawLots_12 (a0 : Nat) : Nat → mm_M → Int32 → Int32 → Option (mm_M)
  | 0, _, _, _ => none
  | n + 1, M, v1, v2 =>
    if v1 ≤ 0 then
      some M
    else
      if (M.1 a0 3) ≤ v2 then
        some M
      else
        lt (sI M a0 1 (((75 * (M.1 a0 1)) + 74) - ((75 * (M.1 a0 1)) + 74) / 65537 * 65537)) fun M3 =>
        gd (¬ v1 = 0) <|
        bn (fX1_holderOfTicket M3 a0 ((M3.1 a0 1) - (M3.1 a0 1) / v1 * v1)) fun r6 =>
        bn (fX5_hasCart M3 a0 r6) fun r8 =>
        if r8 = true then
          gd (¬ (r6 < 0 ∨ 16 ≤ r6.toNatClampNeg)) <|
          lt (v1 - (M3.1 (a0 + 6) r6.toNatClampNeg)) fun y11 =>
          lt (sI M3 (a0 + 6) r6.toNatClampNeg 0) fun M12 =>
          gd (¬ (v2 < 0 ∨ 16 ≤ v2.toNatClampNeg)) <|
          lt (sI M12 (a0 + 7) v2.toNatClampNeg r6) fun M14 =>
          lt (sI M14 a0 14 (v2 + 1)) fun M15 =>
          lt (sI M15 (a0 + 18 + 3 * r6.toNatClampNeg) 11 v2) fun M16 =>
          bn (fX1_choosePitch M16 a0 r6) fun M18 =>
          lt (v2 + 1) fun y19 =>
          fX1_drawLots_12 a0 n M18 y11 y19
        else
          some M3

def fX1_drawLots (M : mm_M) (a0 : Nat) : Option (mm_M) :=
  bn2 (fX1_handOutTickets M a0) fun r2 M3 =>
  lt (sI M3 a0 14 0) fun M4 =>
  fX1_drawLots_12 a0 FU M4 r2 0

def fX5_givePoints (M : mm_M) (a0 : Nat) (a1 : Nat) (x2 : Int32) : Option (Int32 × mm_M) :=
  lt (sL M a1 14 ((M.2 a1 14) + ((x2.toInt64) * ((M.1 (a0 + 1) 6).toInt64)))) fun M1 =>
  bn (fX0_addPoints M1 a1 (M1.1 a0 0) x2) fun M3 =>
  bn (fX0_pointsLeft M3 a1 (M3.1 a0 0) (M3.1 a0 0) (M3.1 (a0 + 1) 5)) fun r5 =>
  if (M3.1 (a0 + 1) 3) ≤ r5 then
    lt (sI M3 a1 6 ((M3.1 a0 0) + (M3.1 (a0 + 1) 4))) fun M7 =>
    bn (fX0_dropAllPoints M7 a1) fun M9 =>
    some (0, M9)
  else
    some (r5, M3)

def fX5_unseat (M : mm_M) (a0 : Nat) (a1 : Nat) : Option (mm_M) :=
  bn (fX5_hasPitch M a0 (M.1 a1 8)) fun r2 =>
  if r2 = true then
    gd (¬ ((M.1 a1 8) < 0 ∨ 10 ≤ (M.1 a1 8).toNatClampNeg)) <|
    lt (sI M (a0 + 8 + (M.1 a1 8).toNatClampNeg) 3 (-6)) fun M6 =>
    lt (sI M6 a1 8 (-6)) fun M7 =>
    some M7
  else
    lt (sI M a1 8 (-6)) fun M4 =>
    some M4

def fX1_shareKitchens_6 (a0 : Nat) : Nat → mm_M → Int32 → Int32 → Int32 → Option (mm_M)
  | 0, _, _, _, _ => none
  | n + 1, M, v1, v2, v3 =>
    if (M.1 a0 14) ≤ v3 then
      some M
    else
      gd (¬ (v3 < 0 ∨ 16 ≤ v3.toNatClampNeg)) <|
      lt (M.1 (a0 + 7) v3.toNatClampNeg) fun y3 =>
      bn (fX5_hasCart M a0 y3) fun r5 =>
      if r5 = true then
        gd (¬ (y3 < 0 ∨ 16 ≤ y3.toNatClampNeg)) <|
        if (M.1 (a0 + 18 + 3 * y3.toNatClampNeg) 8) = (-6) then
          lt (v3 + 1) fun y27 =>
          fX1_shareKitchens_6 a0 n M v1 v2 y27
        else
          lt (if v2 < v1 then v2 else v1) fun y10 =>
          if (y10 + (M.1 (a0 + 18 + 3 * y3.toNatClampNeg) 1)) ≤ (M.1 (a0 + 1) 8) then
            lt (sI M (a0 + 18 + 3 * y3.toNatClampNeg) 9 y10) fun M12 =>
            if y10 = v1 then
              lt (v1 + (M12.1 (a0 + 18 + 3 * y3.toNatClampNeg) 1)) fun y16 =>
              lt (v3 + 1) fun y17 =>
              fX1_shareKitchens_6 a0 n M12 y16 v2 y17
            else
              lt (v2 + (M12.1 (a0 + 18 + 3 * y3.toNatClampNeg) 1)) fun y14 =>
              lt (v3 + 1) fun y15 =>
              fX1_shareKitchens_6 a0 n M12 v1 y14 y15
          else
            bn (fX5_unseat M a0 (a0 + 18 + 3 * y3.toNatClampNeg)) fun M19 =>
            lt (sI M19 (a0 + 18 + 3 * y3.toNatClampNeg) 10 5) fun M20 =>
            if (M20.1 (a0 + 1) 7) ≤ 0 then
              lt (v3 + 1) fun y22 =>
              fX1_shareKitchens_6 a0 n M20 v1 v2 y22
            else
              bn2 (fX5_givePoints M20 a0 (a0 + 18 + 3 * y3.toNatClampNeg) (M20.1 (a0 + 1) 7)) fun r24 M25 =>
              lt (v3 + 1) fun y26 =>
              fX1_shareKitchens_6 a0 n M25 v1 v2 y26
      else
        lt (v3 + 1) fun y7 =>
        fX1_shareKitchens_6 a0 n M v1 v2 y7

def fX1_shareKitchens (M : mm_M) (a0 : Nat) : Option (mm_M) :=
  fX1_shareKitchens_6 a0 FU M 0 0 0

def fX1_exchange_90 (a0 : Nat) (x1 : Int32) (x2 : Int32) (M : mm_M) (v3 : Int32) (v4 : Int32) : Option (Bool × mm_M) :=
  bn (fX5_seat M a0 x1 v3) fun M2 =>
  bn (fX5_seat M2 a0 x2 v4) fun M4 =>
  some (false, M4)

def fX1_exchange (M : mm_M) (a0 : Nat) (x1 : Int32) (x2 : Int32) : Option (Bool × mm_M) :=
  bn (fX5_hasCart M a0 x1) fun r2 =>
  if r2 = true then
    bn (fX5_hasCart M a0 x2) fun r5 =>
    if r5 = true then
      gd (¬ (x1 < 0 ∨ 16 ≤ x1.toNatClampNeg)) <|
      lt (M.1 (a0 + 18 + 3 * x1.toNatClampNeg) 8) fun y8 =>
      gd (¬ (x2 < 0 ∨ 16 ≤ x2.toNatClampNeg)) <|
      lt (M.1 (a0 + 18 + 3 * x2.toNatClampNeg) 8) fun y10 =>
      bn (fX5_hasPitch M a0 y8) fun r12 =>
      if r12 = true then
        bn (fX5_hasPitch M a0 y10) fun r15 =>
        if r15 = true then
          bn (fX5_seat M a0 x1 y10) fun M18 =>
          bn (fX5_seat M18 a0 x2 y8) fun M20 =>
          bn (fX5_sameKindBeside M20 a0 x1 y10) fun r22 =>
          if r22 = true then
            fX1_exchange_90 a0 x1 x2 M20 y8 y10
          else
            bn (fX5_sameKindBeside M20 a0 x2 y8) fun r25 =>
            if r25 = true then
              fX1_exchange_90 a0 x1 x2 M20 y8 y10
            else
              some (true, M20)
        else
          some (false, M)
      else
        some (false, M)
    else
      some (false, M)
  else
    some (false, M)

def fX1_makeSwaps_2 (a0 : Nat) : Nat → mm_M → Int32 → Option (mm_M)
  | 0, _, _ => none
  | n + 1, M, v1 =>
    if (M.1 a0 4) ≤ v1 then
      lt (sI M a0 4 0) fun M2 =>
      some M2
    else
      gd (¬ (v1 < 0 ∨ 8 ≤ v1.toNatClampNeg)) <|
      lt (M.1 (a0 + 4) v1.toNatClampNeg) fun y4 =>
      lt (M.1 (a0 + 5) v1.toNatClampNeg) fun y5 =>
      bn2 (fX1_exchange M a0 y4 y5) fun r7 M8 =>
      if r7 = true then
        gd (¬ (y4 < 0 ∨ 16 ≤ y4.toNatClampNeg)) <|
        lt (sL M8 (a0 + 18 + 3 * y4.toNatClampNeg) 15 ((M8.2 (a0 + 18 + 3 * y4.toNatClampNeg) 15) + ((M8.1 (a0 + 1) 9).toInt64))) fun M12 =>
        gd (¬ (y5 < 0 ∨ 16 ≤ y5.toNatClampNeg)) <|
        lt (sL M12 (a0 + 18 + 3 * y5.toNatClampNeg) 15 ((M12.2 (a0 + 18 + 3 * y5.toNatClampNeg) 15) + ((M12.1 (a0 + 1) 9).toInt64))) fun M14 =>
        lt (sI M14 a0 5 ((M14.1 a0 5) + 1)) fun M15 =>
        lt (v1 + 1) fun y16 =>
        fX1_makeSwaps_2 a0 n M15 y16
      else
        lt (v1 + 1) fun y10 =>
        fX1_makeSwaps_2 a0 n M8 y10

def fX1_makeSwaps (M : mm_M) (a0 : Nat) : Option (mm_M) :=
  fX1_makeSwaps_2 a0 FU M 0

def fX1_trade_2 (a0 : Nat) : Nat → mm_M → Int32 → Option (mm_M)
  | 0, _, _ => none
  | n + 1, M, v1 =>
    if (M.1 a0 3) ≤ v1 then
      some M
    else
      gd (¬ (v1 < 0 ∨ 16 ≤ v1.toNatClampNeg)) <|
      bn (fX5_hasPitch M a0 (M.1 (a0 + 18 + 3 * v1.toNatClampNeg) 8)) fun r4 =>
      if r4 = true then
        gd (¬ ((M.1 (a0 + 18 + 3 * v1.toNatClampNeg) 8) < 0 ∨ 10 ≤ (M.1 (a0 + 18 + 3 * v1.toNatClampNeg) 8).toNatClampNeg)) <|
        lt (sL M (a0 + 18 + 3 * v1.toNatClampNeg) 13 ((M.2 (a0 + 18 + 3 * v1.toNatClampNeg) 13) + ((M.1 (a0 + 8 + (M.1 (a0 + 18 + 3 * v1.toNatClampNeg) 8).toNatClampNeg) 0).toInt64))) fun M11 =>
        lt (sI M11 (a0 + 18 + 3 * v1.toNatClampNeg) 7 ((M11.1 (a0 + 18 + 3 * v1.toNatClampNeg) 7) + 1)) fun M12 =>
        lt (sI M12 (a0 + 18 + 3 * v1.toNatClampNeg) 3 0) fun M13 =>
        lt (sI M13 (a0 + 8 + (M.1 (a0 + 18 + 3 * v1.toNatClampNeg) 8).toNatClampNeg) 2 ((M13.1 (a0 + 8 + (M.1 (a0 + 18 + 3 * v1.toNatClampNeg) 8).toNatClampNeg) 2) + (M13.1 (a0 + 8 + (M.1 (a0 + 18 + 3 * v1.toNatClampNeg) 8).toNatClampNeg) 0))) fun M14 =>
        lt (sI M14 (a0 + 8 + (M.1 (a0 + 18 + 3 * v1.toNatClampNeg) 8).toNatClampNeg) 1 ((M14.1 (a0 + 8 + (M.1 (a0 + 18 + 3 * v1.toNatClampNeg) 8).toNatClampNeg) 1) + 1)) fun M15 =>
        lt (v1 + 1) fun y16 =>
        fX1_trade_2 a0 n M15 y16
      else
        if (M.1 (a0 + 18 + 3 * v1.toNatClampNeg) 11) = (-6) then
          lt (v1 + 1) fun y7 =>
          fX1_trade_2 a0 n M y7
        else
          lt (sI M (a0 + 18 + 3 * v1.toNatClampNeg) 3 ((M.1 (a0 + 18 + 3 * v1.toNatClampNeg) 3) + 1)) fun M8 =>
          lt (v1 + 1) fun y9 =>
          fX1_trade_2 a0 n M8 y9

def fX1_trade (M : mm_M) (a0 : Nat) : Option (mm_M) :=
  fX1_trade_2 a0 FU M 0

def fX4_copyFrom (M : mm_M) (a0 : Nat) (a1 : Nat) : Option (mm_M) :=
  lt (sI M a0 0 (M.1 a1 0)) fun M1 =>
  lt (sI M1 a0 1 (M1.1 a1 1)) fun M2 =>
  lt (sI M2 a0 2 (M2.1 a1 2)) fun M3 =>
  lt (sI M3 a0 3 (M3.1 a1 3)) fun M4 =>
  some M4

def fX5_copyFrom_126 (a0 : Nat) (a1 : Nat) : Nat → mm_M → Int32 → Option (mm_M)
  | 0, _, _ => none
  | n + 1, M, v2 =>
    if (M.1 a0 3) ≤ v2 then
      some M
    else
      gd (¬ (v2 < 0 ∨ 16 ≤ v2.toNatClampNeg)) <|
      bn (fX0_copyFrom M (a0 + 18 + 3 * v2.toNatClampNeg) (a1 + 18 + 3 * v2.toNatClampNeg)) fun M4 =>
      lt (v2 + 1) fun y5 =>
      fX5_copyFrom_126 a0 a1 n M4 y5

def fX5_copyFrom_95 (a0 : Nat) (a1 : Nat) : Nat → mm_M → Int32 → Option (mm_M)
  | 0, _, _ => none
  | n + 1, M, v2 =>
    if (M.1 a0 2) ≤ v2 then
      fX5_copyFrom_126 a0 a1 FU M 0
    else
      gd (¬ (v2 < 0 ∨ 10 ≤ v2.toNatClampNeg)) <|
      bn (fX4_copyFrom M (a0 + 8 + v2.toNatClampNeg) (a1 + 8 + v2.toNatClampNeg)) fun M4 =>
      lt (v2 + 1) fun y5 =>
      fX5_copyFrom_95 a0 a1 n M4 y5

def fX5_copyFrom (M : mm_M) (a0 : Nat) (a1 : Nat) : Option (mm_M) :=
  lt (sI M a0 0 (M.1 a1 0)) fun M1 =>
  lt (sI M1 a0 1 (M1.1 a1 1)) fun M2 =>
  lt (sI M2 a0 2 (M2.1 a1 2)) fun M3 =>
  lt (sI M3 a0 3 (M3.1 a1 3)) fun M4 =>
  lt (sI M4 a0 4 (M4.1 a1 4)) fun M5 =>
  lt (sI M5 a0 5 (M5.1 a1 5)) fun M6 =>
  lt (sC M6 (a0 + 1) (fun j => if j < 10 then M6.1 (a1 + 1) j else M6.1 (a0 + 1) j)) fun M7 =>
  lt (sC M7 (a0 + 4) (fun j => if j < 8 then M7.1 (a1 + 4) j else M7.1 (a0 + 4) j)) fun M8 =>
  lt (sC M8 (a0 + 5) (fun j => if j < 8 then M8.1 (a1 + 5) j else M8.1 (a0 + 5) j)) fun M9 =>
  fX5_copyFrom_95 a0 a1 FU M9 0

def fX2_prepare (M : mm_M) (a0 : Nat) (a1 : Nat) : Option (mm_M) :=
  gd (¬ ((((M.1 a0 1) + (M.1 a0 2)) - ((M.1 a0 1) + (M.1 a0 2)) / 7 * 7) < 0 ∨ 7 ≤ (((M.1 a0 1) + (M.1 a0 2)) - ((M.1 a0 1) + (M.1 a0 2)) / 7 * 7).toNatClampNeg)) <|
  bn (fX5_copyFrom M (135 + 66 * (((M.1 a0 1) + (M.1 a0 2)) - ((M.1 a0 1) + (M.1 a0 2)) / 7 * 7).toNatClampNeg) a1) fun M3 =>
  some M3

def fX2_keepPrepared (M : mm_M) (a0 : Nat) : Option (mm_M) :=
  if 6 ≤ (M.1 a0 2) then
    lt (sI M a0 1 (((M.1 a0 1) + 1) - ((M.1 a0 1) + 1) / 7 * 7)) fun M2 =>
    some M2
  else
    lt (sI M a0 2 ((M.1 a0 2) + 1)) fun M3 =>
    some M3

def fX2_takeBack (M : mm_M) (a0 : Nat) (a1 : Nat) : Option (mm_M) :=
  if (M.1 a0 2) ≤ 0 then
    some M
  else
    lt (sI M a0 2 ((M.1 a0 2) - 1)) fun M2 =>
    gd (¬ ((((M2.1 a0 1) + (M2.1 a0 2)) - ((M2.1 a0 1) + (M2.1 a0 2)) / 7 * 7) < 0 ∨ 7 ≤ (((M2.1 a0 1) + (M2.1 a0 2)) - ((M2.1 a0 1) + (M2.1 a0 2)) / 7 * 7).toNatClampNeg)) <|
    bn (fX5_copyFrom M2 a1 (135 + 66 * (((M2.1 a0 1) + (M2.1 a0 2)) - ((M2.1 a0 1) + (M2.1 a0 2)) / 7 * 7).toNatClampNeg)) fun M5 =>
    some M5

def fX3_codeAt (M : mm_M) (x0 : Int64) (x2 : Int32) : Option (Int32) :=
  some ((((x0.toUInt64 >>> ((8 * x2).toInt64.toUInt64 &&& Int64.toUInt64 63)).toInt64).toInt32) &&& 255)

def fX3_countGiven_4 (x0 : Int64) (M : mm_M) : Nat → Int32 → Int32 → Option (Int32)
  | 0, _, _ => none
  | n + 1, v2, v3 =>
    if 8 ≤ v3 then
      some v2
    else
      bn (fX3_codeAt M x0 v3) fun r3 =>
      if r3 = 0 then
        lt (v3 + 1) fun y10 =>
        fX3_countGiven_4 x0 M n v2 y10
      else
        if r3 < 33 then
          some (-2)
        else
          if 126 < r3 then
            some (-2)
          else
            if v3 ≤ v2 then
              lt (v2 + 1) fun y8 =>
              lt (v3 + 1) fun y9 =>
              fX3_countGiven_4 x0 M n y8 y9
            else
              some (-2)

def fX3_countGiven (M : mm_M) (x0 : Int64) : Option (Int32) :=
  fX3_countGiven_4 x0 M FU 0 0

def fX3_append_32 (a0 : Nat) (x1 : Int64) : Nat → mm_M → Int32 → Option (Int32 × mm_M)
  | 0, _, _ => none
  | n + 1, M, v4 =>
    if v4 < 0 then
      some ((M.1 a0 1), M)
    else
      bn (fX3_codeAt M x1 v4) fun r3 =>
      gd (¬ ((M.1 a0 1) < 0 ∨ 80 ≤ (M.1 a0 1).toNatClampNeg)) <|
      lt (sI M (a0 + 1) (M.1 a0 1).toNatClampNeg ((r3.toUInt32 % 65536).toInt32)) fun M5 =>
      lt (sI M5 a0 1 ((M5.1 a0 1) + 1)) fun M6 =>
      lt (v4 + (-1)) fun y7 =>
      fX3_append_32 a0 x1 n M6 y7

def fX3_append (M : mm_M) (a0 : Nat) (x1 : Int64) : Option (Int32 × mm_M) :=
  bn (fX3_countGiven M x1) fun r2 =>
  if 1 ≤ r2 then
    if ((M.1 a0 1) + r2) ≤ 80 then
      lt (r2 - 1) fun y5 =>
      fX3_append_32 a0 x1 FU M y5
    else
      some ((-4), M)
  else
    some ((-2), M)

def fX3_signAt (M : mm_M) (a0 : Nat) (x1 : Int32) : Option (Int32) :=
  if x1 < 0 then
    some 0
  else
    if (M.1 a0 1) ≤ x1 then
      some 0
    else
      if 80 ≤ x1 then
        some 0
      else
        gd (¬ (x1 < 0 ∨ 80 ≤ x1.toNatClampNeg)) <|
        some (M.1 (a0 + 1) x1.toNatClampNeg)

def fX3_awaitedBehindOrder (M : mm_M) (x0 : Int32) : Option (Int32) :=
  if x0 = 99 then
    some 9
  else if x0 = 100 then
    some 10
  else if x0 = 102 then
    some 6
  else if x0 = 115 then
    some 8
  else if x0 = 119 then
    some 5
  else 
    some 11

def fX3_isCart (M : mm_M) (x0 : Int32) : Option (Bool) :=
  if x0 < 65 then
    some false
  else
    if 80 < x0 then
      some false
    else
      some true

def fX3_isDigit (M : mm_M) (x0 : Int32) : Option (Bool) :=
  if x0 < 48 then
    some false
  else
    if 57 < x0 then
      some false
    else
      some true

def fX3_awaitedBehind (M : mm_M) (x0 : Int32) (x1 : Int32) : Option (Int32) :=
  if x0 = 4 then
    bn (fX3_awaitedBehindOrder M x1) fun r3 =>
    some r3
  else if x0 = 5 then
    bn (fX3_isCart M x1) fun r6 =>
    if r6 = true then
      some 3
    else
      some 11
  else if x0 = 6 then
    bn (fX3_isCart M x1) fun r10 =>
    if r10 = true then
      some 7
    else
      some 11
  else if x0 = 7 then
    if x1 < 49 then
      some 11
    else
      if 57 < x1 then
        some 11
      else
        some 0
  else if x0 = 8 then
    bn (fX3_isCart M x1) fun r17 =>
    if r17 = true then
      some 9
    else
      some 11
  else if x0 = 9 then
    bn (fX3_isCart M x1) fun r21 =>
    if r21 = true then
      some 0
    else
      some 11
  else if x0 = 10 then
    bn (fX3_isDigit M x1) fun r25 =>
    if r25 = true then
      if x1 = 48 then
        some 0
      else
        some 1
    else
      some 11
  else 
    if x1 = 59 then
      some 4
    else
      if x0 ≤ 0 then
        some 11
      else
        bn (fX3_isDigit M x1) fun r31 =>
        if r31 = true then
          some (x0 - 1)
        else
          some 11

def fX3_findFault_4 (a0 : Nat) (M : mm_M) : Nat → Int32 → Int32 → Option (Int32)
  | 0, _, _ => none
  | n + 1, v1, v2 =>
    if (M.1 a0 1) ≤ v2 then
      if 3 < v1 then
        some (M.1 a0 1)
      else
        some (-6)
    else
      bn (fX3_signAt M a0 v2) fun r4 =>
      bn (fX3_awaitedBehind M v1 r4) fun r6 =>
      if r6 = 11 then
        some v2
      else
        lt (v2 + 1) fun y8 =>
        fX3_findFault_4 a0 M n r6 y8

def fX3_findFault (M : mm_M) (a0 : Nat) : Option (Int32) :=
  fX3_findFault_4 a0 M FU 4 0

def fX3_endsOrder (M : mm_M) (a0 : Nat) (x1 : Int32) : Option (Bool) :=
  if x1 = (M.1 a0 1) then
    some true
  else
    bn (fX3_signAt M a0 x1) fun r3 =>
    if r3 = 59 then
      some true
    else
      some false

def fX3_wishAt (M : mm_M) (a0 : Nat) (x1 : Int32) (x2 : Int32) : Option (Int32) :=
  if x2 ≤ x1 then
    some (-6)
  else
    bn (fX3_signAt M a0 x1) fun r3 =>
    some (r3 - 48)

def fX3_numberAt_5 (a0 : Nat) (x1 : Int32) (x2 : Int32) (M : mm_M) : Nat → Int32 → Int32 → Option (Int32)
  | 0, _, _ => none
  | n + 1, v3, v4 =>
    if x2 ≤ v4 then
      some v3
    else
      bn (fX3_signAt M a0 v4) fun r3 =>
      lt (((10 * v3) + r3) - 48) fun y4 =>
      lt (v4 + 1) fun y5 =>
      fX3_numberAt_5 a0 x1 x2 M n y4 y5

def fX3_numberAt (M : mm_M) (a0 : Nat) (x1 : Int32) (x2 : Int32) : Option (Int32) :=
  fX3_numberAt_5 a0 x1 x2 M FU 0 x1

def fX4_begin (M : mm_M) (a0 : Nat) (x1 : Int32) : Option (mm_M) :=
  lt (sI M a0 0 x1) fun M1 =>
  lt (sI M1 a0 1 0) fun M2 =>
  lt (sI M2 a0 2 0) fun M3 =>
  lt (sI M3 a0 3 (-6)) fun M4 =>
  some M4

def fX5_changeSetting (M : mm_M) (a0 : Nat) (x1 : Int32) (x2 : Int32) : Option (Int32 × mm_M) :=
  if x1 < 0 then
    some ((-2), M)
  else
    if 10 ≤ x1 then
      some ((-2), M)
    else
      gd (¬ (x1 < 0 ∨ 10 ≤ x1.toNatClampNeg)) <|
      if x2 < (mm_f1 x1.toNatClampNeg) then
        some ((-2), M)
      else
        if x2 ≤ (mm_f2 x1.toNatClampNeg) then
          lt (M.1 (a0 + 1) x1.toNatClampNeg) fun y6 =>
          lt (sI M (a0 + 1) x1.toNatClampNeg x2) fun M7 =>
          some (y6, M7)
        else
          some ((-2), M)

def fX5_changeLots (M : mm_M) (a0 : Nat) (x1 : Int32) : Option (Int32 × mm_M) :=
  if x1 < 0 then
    some ((-2), M)
  else
    if x1 < 65537 then
      lt (M.1 a0 1) fun y3 =>
      lt (sI M a0 1 x1) fun M4 =>
      some (y3, M4)
    else
      some ((-2), M)

def fX5_addPitch (M : mm_M) (a0 : Nat) (x1 : Int32) : Option (Int32 × mm_M) :=
  if x1 < 0 then
    some ((-2), M)
  else
    if x1 ≤ 20000 then
      if (M.1 a0 2) < 10 then
        gd (¬ ((M.1 a0 2) < 0 ∨ 10 ≤ (M.1 a0 2).toNatClampNeg)) <|
        bn (fX4_begin M (a0 + 8 + (M.1 a0 2).toNatClampNeg) x1) fun M6 =>
        lt (sI M6 a0 2 ((M6.1 a0 2) + 1)) fun M7 =>
        some (((M7.1 a0 2) - 1), M7)
      else
        some ((-4), M)
    else
      some ((-2), M)

def fX5_changeRent (M : mm_M) (a0 : Nat) (x1 : Int32) (x2 : Int32) : Option (Int32 × mm_M) :=
  bn (fX5_hasPitch M a0 x1) fun r2 =>
  if r2 = true then
    if x2 < 0 then
      some ((-2), M)
    else
      if x2 ≤ 20000 then
        gd (¬ (x1 < 0 ∨ 10 ≤ x1.toNatClampNeg)) <|
        lt (M.1 (a0 + 8 + x1.toNatClampNeg) 0) fun y7 =>
        lt (sI M (a0 + 8 + x1.toNatClampNeg) 0 x2) fun M8 =>
        some (y7, M8)
      else
        some ((-2), M)
  else
    some ((-1), M)

def fX5_addCart (M : mm_M) (a0 : Nat) (x1 : Int32) (x2 : Int32) : Option (Int32 × mm_M) :=
  if x1 < 0 then
    some ((-2), M)
  else
    if 5 < x1 then
      some ((-2), M)
    else
      if x2 < 1 then
        some ((-2), M)
      else
        if x2 ≤ 6 then
          if (M.1 a0 3) < 16 then
            gd (¬ ((M.1 a0 3) < 0 ∨ 16 ≤ (M.1 a0 3).toNatClampNeg)) <|
            bn (fX0_begin M (a0 + 18 + 3 * (M.1 a0 3).toNatClampNeg) x1 x2 ((M.1 a0 0) + (M.1 (a0 + 1) 1))) fun M8 =>
            lt (sI M8 a0 3 ((M8.1 a0 3) + 1)) fun M9 =>
            some (((M9.1 a0 3) - 1), M9)
          else
            some ((-4), M)
        else
          some ((-2), M)

def fX5_isPitchOrNone (M : mm_M) (a0 : Nat) (x1 : Int32) : Option (Bool) :=
  if x1 = (-6) then
    some true
  else
    bn (fX5_hasPitch M a0 x1) fun r3 =>
    if r3 = true then
      some true
    else
      some false

def fX5_tellWishes_104 (a0 : Nat) (x1 : Int32) (x2 : Int32) (x3 : Int32) (x4 : Int32) (M : mm_M) (v5 : Int32) : Option (Int32 × mm_M) :=
  gd (¬ (x1 < 0 ∨ 16 ≤ x1.toNatClampNeg)) <|
  lt (sI M (a0 + 18 + 3 * x1.toNatClampNeg) 2 v5) fun M2 =>
  lt (sI M2 ((a0 + 18 + 3 * x1.toNatClampNeg) + 1) 0 x2) fun M3 =>
  lt (sI M3 ((a0 + 18 + 3 * x1.toNatClampNeg) + 1) 1 x3) fun M4 =>
  lt (sI M4 ((a0 + 18 + 3 * x1.toNatClampNeg) + 1) 2 x4) fun M5 =>
  some (v5, M5)

def fX5_tellWishes_83 (a0 : Nat) (x1 : Int32) (x2 : Int32) (x3 : Int32) (x4 : Int32) (M : mm_M) (v5 : Int32) : Option (Int32 × mm_M) :=
  if v5 = 3 then
    if x2 = x4 then
      some ((-2), M)
    else
      if x3 = x4 then
        some ((-2), M)
      else
        fX5_tellWishes_104 a0 x1 x2 x3 x4 M v5
  else
    fX5_tellWishes_104 a0 x1 x2 x3 x4 M v5

def fX5_tellWishes_70 (a0 : Nat) (x1 : Int32) (x2 : Int32) (x3 : Int32) (x4 : Int32) (M : mm_M) (t0 : Int32) : Option (Int32 × mm_M) :=
  if t0 < 2 then
    fX5_tellWishes_83 a0 x1 x2 x3 x4 M t0
  else
    if x2 = x3 then
      some ((-2), M)
    else
      fX5_tellWishes_83 a0 x1 x2 x3 x4 M t0

def fX5_tellWishes (M : mm_M) (a0 : Nat) (x1 : Int32) (x2 : Int32) (x3 : Int32) (x4 : Int32) : Option (Int32 × mm_M) :=
  bn (fX5_hasCart M a0 x1) fun r2 =>
  if r2 = true then
    bn (fX5_isPitchOrNone M a0 x2) fun r5 =>
    if r5 = true then
      bn (fX5_isPitchOrNone M a0 x3) fun r8 =>
      if r8 = true then
        bn (fX5_isPitchOrNone M a0 x4) fun r11 =>
        if r11 = true then
          if x2 = (-6) then
            fX5_tellWishes_70 a0 x1 x2 x3 x4 M 0
          else
            if x3 = (-6) then
              fX5_tellWishes_70 a0 x1 x2 x3 x4 M 1
            else
              if x4 = (-6) then
                fX5_tellWishes_70 a0 x1 x2 x3 x4 M 2
              else
                fX5_tellWishes_70 a0 x1 x2 x3 x4 M 3
        else
          some ((-2), M)
      else
        some ((-2), M)
    else
      some ((-2), M)
  else
    some ((-1), M)

def fX5_punish (M : mm_M) (a0 : Nat) (x1 : Int32) (x2 : Int32) : Option (Int32 × mm_M) :=
  bn (fX5_hasCart M a0 x1) fun r2 =>
  if r2 = true then
    if x2 < 1 then
      some ((-2), M)
    else
      if x2 ≤ 9 then
        gd (¬ (x1 < 0 ∨ 16 ≤ x1.toNatClampNeg)) <|
        bn2 (fX5_givePoints M a0 (a0 + 18 + 3 * x1.toNatClampNeg) x2) fun r8 M9 =>
        some (r8, M9)
      else
        some ((-2), M)
  else
    some ((-1), M)

def fX5_countWaiting_4 (a0 : Nat) (M : mm_M) : Nat → Int32 → Int32 → Option (Int32)
  | 0, _, _ => none
  | n + 1, v1, v2 =>
    if (M.1 a0 3) ≤ v2 then
      some v1
    else
      gd (¬ (v2 < 0 ∨ 16 ≤ v2.toNatClampNeg)) <|
      if (M.1 (a0 + 18 + 3 * v2.toNatClampNeg) 5) = 0 then
        lt (v2 + 1) fun y4 =>
        fX5_countWaiting_4 a0 M n v1 y4
      else
        lt (v1 + 1) fun y5 =>
        lt (v2 + 1) fun y6 =>
        fX5_countWaiting_4 a0 M n y5 y6

def fX5_countWaiting (M : mm_M) (a0 : Nat) : Option (Int32) :=
  fX5_countWaiting_4 a0 M FU 0 0

def fX5_askCheck (M : mm_M) (a0 : Nat) (x1 : Int32) : Option (Int32 × mm_M) :=
  bn (fX5_hasCart M a0 x1) fun r2 =>
  if r2 = true then
    gd (¬ (x1 < 0 ∨ 16 ≤ x1.toNatClampNeg)) <|
    if (M.1 (a0 + 18 + 3 * x1.toNatClampNeg) 5) = 0 then
      lt (sI M (a0 + 18 + 3 * x1.toNatClampNeg) 5 1) fun M6 =>
      bn (fX5_countWaiting M6 a0) fun r8 =>
      some (r8, M6)
    else
      some ((-5), M)
  else
    some ((-1), M)

def fX5_askSwap (M : mm_M) (a0 : Nat) (x1 : Int32) (x2 : Int32) : Option (Int32 × mm_M) :=
  bn (fX5_hasCart M a0 x1) fun r2 =>
  if r2 = true then
    bn (fX5_hasCart M a0 x2) fun r5 =>
    if r5 = true then
      if x1 = x2 then
        some ((-1), M)
      else
        if (M.1 a0 4) < 8 then
          gd (¬ ((M.1 a0 4) < 0 ∨ 8 ≤ (M.1 a0 4).toNatClampNeg)) <|
          lt (sI M (a0 + 4) (M.1 a0 4).toNatClampNeg x1) fun M10 =>
          gd (¬ ((M10.1 a0 4) < 0 ∨ 8 ≤ (M10.1 a0 4).toNatClampNeg)) <|
          lt (sI M10 (a0 + 5) (M10.1 a0 4).toNatClampNeg x2) fun M12 =>
          lt (sI M12 a0 4 ((M12.1 a0 4) + 1)) fun M13 =>
          some ((M13.1 a0 4), M13)
        else
          some ((-4), M)
    else
      some ((-1), M)
  else
    some ((-1), M)

def fX5_takeMoney (M : mm_M) (a0 : Nat) (x1 : Int32) (x2 : Int32) : Option (Int32 × mm_M) :=
  bn (fX5_hasCart M a0 x1) fun r2 =>
  if r2 = true then
    if x2 < 1 then
      some ((-2), M)
    else
      if x2 ≤ 1000000 then
        gd (¬ (x1 < 0 ∨ 16 ≤ x1.toNatClampNeg)) <|
        lt (sL M (a0 + 18 + 3 * x1.toNatClampNeg) 12 ((M.2 (a0 + 18 + 3 * x1.toNatClampNeg) 12) + (x2.toInt64))) fun M7 =>
        bn (fX0_balance M7 (a0 + 18 + 3 * x1.toNatClampNeg)) fun r9 =>
        if (lg_cmp r9 (0 : Int64)) < 0 then
          some (0, M7)
        else
          some (1, M7)
      else
        some ((-2), M)
  else
    some ((-1), M)

def fX5_beginNextDay_12 (a0 : Nat) : Nat → mm_M → Int32 → Option (mm_M)
  | 0, _, _ => none
  | n + 1, M, v1 =>
    if (M.1 a0 3) ≤ v1 then
      some M
    else
      gd (¬ (v1 < 0 ∨ 16 ≤ v1.toNatClampNeg)) <|
      bn (fX0_dropPointsOfSameSpot M (a0 + 18 + 3 * v1.toNatClampNeg) (M.1 a0 0)) fun M4 =>
      lt (v1 + 1) fun y5 =>
      fX5_beginNextDay_12 a0 n M4 y5

def fX5_beginNextDay (M : mm_M) (a0 : Nat) : Option (mm_M) :=
  lt (sI M a0 0 ((M.1 a0 0) + 1)) fun M1 =>
  fX5_beginNextDay_12 a0 FU M1 0

def fX5_passDays_16 (a0 : Nat) (x1 : Int32) : Nat → mm_M → Int32 → Option (Int32 × mm_M)
  | 0, _, _ => none
  | n + 1, M, v2 =>
    if x1 ≤ v2 then
      some ((M.1 a0 0), M)
    else
      bn (fX1_runChecks M a0) fun M3 =>
      bn (fX1_clearLastDay M3 a0) fun M5 =>
      bn (fX1_drawLots M5 a0) fun M7 =>
      bn (fX1_shareKitchens M7 a0) fun M9 =>
      bn (fX1_makeSwaps M9 a0) fun M11 =>
      bn (fX1_trade M11 a0) fun M13 =>
      bn (fX5_beginNextDay M13 a0) fun M15 =>
      lt (v2 + 1) fun y16 =>
      fX5_passDays_16 a0 x1 n M15 y16

def fX5_passDays (M : mm_M) (a0 : Nat) (x1 : Int32) : Option (Int32 × mm_M) :=
  if x1 < 1 then
    some ((-2), M)
  else
    if x1 ≤ 60 then
      fX5_passDays_16 a0 x1 FU M 0
    else
      some ((-2), M)

def fX5_countOnPitches_4 (a0 : Nat) (M : mm_M) : Nat → Int32 → Int32 → Option (Int32)
  | 0, _, _ => none
  | n + 1, v1, v2 =>
    if (M.1 a0 3) ≤ v2 then
      some v1
    else
      gd (¬ (v2 < 0 ∨ 16 ≤ v2.toNatClampNeg)) <|
      if (M.1 (a0 + 18 + 3 * v2.toNatClampNeg) 8) = (-6) then
        lt (v2 + 1) fun y4 =>
        fX5_countOnPitches_4 a0 M n v1 y4
      else
        lt (v1 + 1) fun y5 =>
        lt (v2 + 1) fun y6 =>
        fX5_countOnPitches_4 a0 M n y5 y6

def fX5_countOnPitches (M : mm_M) (a0 : Nat) : Option (Int32) :=
  fX5_countOnPitches_4 a0 M FU 0 0

def fX6_recorded (M : mm_M) (x1 : Int32) : Option (Int32 × mm_M) :=
  if x1 < 0 then
    some (x1, M)
  else
    bn (fX2_keepPrepared M 133) fun M3 =>
    some (x1, M3)

def fX6_set (M : mm_M) (x1 : Int32) (x2 : Int32) : Option (Int32 × mm_M) :=
  bn (fX2_prepare M 133 1) fun M2 =>
  bn2 (fX5_changeSetting M2 1 x1 x2) fun r4 M5 =>
  bn2 (fX6_recorded M5 r4) fun r7 M8 =>
  some (r7, M8)

def fX6_seed (M : mm_M) (x1 : Int32) : Option (Int32 × mm_M) :=
  bn (fX2_prepare M 133 1) fun M2 =>
  bn2 (fX5_changeLots M2 1 x1) fun r4 M5 =>
  bn2 (fX6_recorded M5 r4) fun r7 M8 =>
  some (r7, M8)

def fX6_pitch (M : mm_M) (x1 : Int32) : Option (Int32 × mm_M) :=
  bn (fX2_prepare M 133 1) fun M2 =>
  bn2 (fX5_addPitch M2 1 x1) fun r4 M5 =>
  bn2 (fX6_recorded M5 r4) fun r7 M8 =>
  some (r7, M8)

def fX6_rent (M : mm_M) (x1 : Int32) (x2 : Int32) : Option (Int32 × mm_M) :=
  bn (fX2_prepare M 133 1) fun M2 =>
  bn2 (fX5_changeRent M2 1 x1 x2) fun r4 M5 =>
  bn2 (fX6_recorded M5 r4) fun r7 M8 =>
  some (r7, M8)

def fX6_cart (M : mm_M) (x1 : Int32) (x2 : Int32) : Option (Int32 × mm_M) :=
  bn (fX2_prepare M 133 1) fun M2 =>
  bn2 (fX5_addCart M2 1 x1 x2) fun r4 M5 =>
  bn2 (fX6_recorded M5 r4) fun r7 M8 =>
  some (r7, M8)

def fX6_wish (M : mm_M) (x1 : Int32) (x2 : Int32) (x3 : Int32) (x4 : Int32) : Option (Int32 × mm_M) :=
  bn (fX2_prepare M 133 1) fun M2 =>
  bn2 (fX5_tellWishes M2 1 x1 x2 x3 x4) fun r4 M5 =>
  bn2 (fX6_recorded M5 r4) fun r7 M8 =>
  some (r7, M8)

def fX6_fine (M : mm_M) (x1 : Int32) (x2 : Int32) : Option (Int32 × mm_M) :=
  bn (fX2_prepare M 133 1) fun M2 =>
  bn2 (fX5_punish M2 1 x1 x2) fun r4 M5 =>
  bn2 (fX6_recorded M5 r4) fun r7 M8 =>
  some (r7, M8)

def fX6_check (M : mm_M) (x1 : Int32) : Option (Int32 × mm_M) :=
  bn (fX2_prepare M 133 1) fun M2 =>
  bn2 (fX5_askCheck M2 1 x1) fun r4 M5 =>
  bn2 (fX6_recorded M5 r4) fun r7 M8 =>
  some (r7, M8)

def fX6_swap (M : mm_M) (x1 : Int32) (x2 : Int32) : Option (Int32 × mm_M) :=
  bn (fX2_prepare M 133 1) fun M2 =>
  bn2 (fX5_askSwap M2 1 x1 x2) fun r4 M5 =>
  bn2 (fX6_recorded M5 r4) fun r7 M8 =>
  some (r7, M8)

def fX6_pay (M : mm_M) (x1 : Int32) (x2 : Int32) : Option (Int32 × mm_M) :=
  bn (fX2_prepare M 133 1) fun M2 =>
  bn2 (fX5_takeMoney M2 1 x1 x2) fun r4 M5 =>
  bn2 (fX6_recorded M5 r4) fun r7 M8 =>
  some (r7, M8)

def fX6_days (M : mm_M) (x1 : Int32) : Option (Int32 × mm_M) :=
  bn (fX2_prepare M 133 1) fun M2 =>
  bn2 (fX5_passDays M2 1 x1) fun r4 M5 =>
  bn2 (fX6_recorded M5 r4) fun r7 M8 =>
  some (r7, M8)

def fX6_aboutCart_63 (a1 : Nat) (x2 : Int32) (M : mm_M) : Option (Int32) :=
  bn (fX0_wishAt M a1 (x2 - 3)) fun r2 =>
  some r2

def fX6_aboutCart (M : mm_M) (a1 : Nat) (x2 : Int32) : Option (Int32) :=
  if x2 = 0 then
    some (M.1 a1 0)
  else if x2 = 1 then
    some (M.1 a1 1)
  else if x2 = 2 then
    some (M.1 a1 2)
  else if x2 = 3 then
    fX6_aboutCart_63 a1 x2 M
  else if x2 = 4 then
    fX6_aboutCart_63 a1 x2 M
  else if x2 = 5 then
    fX6_aboutCart_63 a1 x2 M
  else if x2 = 6 then
    some (M.1 a1 3)
  else if x2 = 7 then
    some (M.1 a1 4)
  else 
    if (M.1 a1 5) = 0 then
      some 0
    else
      some 1

def fX6_aboutPastOfCart (M : mm_M) (a1 : Nat) (x2 : Int32) : Option (Int32) :=
  if x2 = 9 then
    bn (fX0_pointsLeft M a1 (M.1 1 0) (M.1 1 0) (M.1 (1 + 1) 5)) fun r3 =>
    some r3
  else if x2 = 10 then
    some (M.1 a1 6)
  else if x2 = 11 then
    some (M.1 a1 7)
  else if x2 = 12 then
    some (M.1 a1 8)
  else if x2 = 13 then
    some (M.1 a1 9)
  else if x2 = 14 then
    some (M.1 a1 10)
  else 
    some (M.1 a1 11)

def fX6_ofCart (M : mm_M) (x1 : Int32) (x2 : Int32) : Option (Int32) :=
  bn (fX5_hasCart M 1 x1) fun r2 =>
  if r2 = true then
    if x2 < 0 then
      some (-2)
    else
      if x2 ≤ 15 then
        gd (¬ (x1 < 0 ∨ 16 ≤ x1.toNatClampNeg)) <|
        if 9 ≤ x2 then
          bn (fX6_aboutPastOfCart M (1 + 18 + 3 * x1.toNatClampNeg) x2) fun r9 =>
          some r9
        else
          bn (fX6_aboutCart M (1 + 18 + 3 * x1.toNatClampNeg) x2) fun r11 =>
          some r11
      else
        some (-2)
  else
    some (-1)

def fX6_money (M : mm_M) (x1 : Int32) (x2 : Int32) : Option (Int64) :=
  bn (fX5_hasCart M 1 x1) fun r2 =>
  if r2 = true then
    gd (¬ (x1 < 0 ∨ 16 ≤ x1.toNatClampNeg)) <|
    if x2 = 0 then
      bn (fX0_balance M (1 + 18 + 3 * x1.toNatClampNeg)) fun r7 =>
      some r7
    else if x2 = 1 then
      some (M.2 (1 + 18 + 3 * x1.toNatClampNeg) 12)
    else if x2 = 2 then
      some (M.2 (1 + 18 + 3 * x1.toNatClampNeg) 13)
    else if x2 = 3 then
      some (M.2 (1 + 18 + 3 * x1.toNatClampNeg) 14)
    else if x2 = 4 then
      some (M.2 (1 + 18 + 3 * x1.toNatClampNeg) 15)
    else 
      some ((-2) : Int64)
  else
    some ((-1) : Int64)

def fX6_ofPitch (M : mm_M) (x1 : Int32) (x2 : Int32) : Option (Int32) :=
  bn (fX5_hasPitch M 1 x1) fun r2 =>
  if r2 = true then
    gd (¬ (x1 < 0 ∨ 10 ≤ x1.toNatClampNeg)) <|
    if x2 = 0 then
      some (M.1 (1 + 8 + x1.toNatClampNeg) 0)
    else if x2 = 1 then
      some (M.1 (1 + 8 + x1.toNatClampNeg) 1)
    else if x2 = 2 then
      some (M.1 (1 + 8 + x1.toNatClampNeg) 2)
    else if x2 = 3 then
      some (M.1 (1 + 8 + x1.toNatClampNeg) 3)
    else 
      some (-2)
  else
    some (-1)

def fX6_count_25 (x1 : Int32) (M : mm_M) : Option (Int32) :=
  if x1 = 0 then
    some (M.1 1 0)
  else if x1 = 1 then
    some (M.1 1 3)
  else if x1 = 2 then
    some (M.1 1 2)
  else if x1 = 3 then
    some (M.1 1 1)
  else if x1 = 4 then
    bn (fX5_countWaiting M 1) fun r7 =>
    some r7
  else if x1 = 5 then
    some (M.1 1 4)
  else if x1 = 6 then
    some (M.1 729 1)
  else if x1 = 7 then
    some (M.1 133 2)
  else if x1 = 8 then
    some (-2)
  else if x1 = 9 then
    some (-2)
  else if x1 = 10 then
    some (-2)
  else if x1 = 11 then
    some (-2)
  else if x1 = 12 then
    some (-2)
  else if x1 = 13 then
    some (-2)
  else if x1 = 14 then
    some (-2)
  else if x1 = 15 then
    some (-2)
  else if x1 = 16 then
    some (-2)
  else if x1 = 17 then
    some (-2)
  else if x1 = 18 then
    bn (fX5_countOnPitches M 1) fun r23 =>
    some r23
  else if x1 = 19 then
    some (M.1 1 5)
  else 
    some (-2)

def fX6_count (M : mm_M) (x1 : Int32) : Option (Int32) :=
  if x1 < 8 then
    fX6_count_25 x1 M
  else
    if 18 ≤ x1 then
      fX6_count_25 x1 M
    else
      gd (¬ ((x1 - 8) < 0 ∨ 10 ≤ (x1 - 8).toNatClampNeg)) <|
      some (M.1 (1 + 1) (x1 - 8).toNatClampNeg)

def fX6_pointsOn (M : mm_M) (x1 : Int32) (x2 : Int32) : Option (Int32) :=
  bn (fX5_hasCart M 1 x1) fun r2 =>
  if r2 = true then
    if x2 < (M.1 1 0) then
      some (-2)
    else
      if x2 ≤ ((M.1 1 0) + 400) then
        gd (¬ (x1 < 0 ∨ 16 ≤ x1.toNatClampNeg)) <|
        bn (fX0_pointsLeft M (1 + 18 + 3 * x1.toNatClampNeg) x2 (M.1 1 0) (M.1 (1 + 1) 5)) fun r8 =>
        some r8
      else
        some (-2)
  else
    some (-1)

def fX6_pitchOnTrialDay (M : mm_M) (x1 : Int32) : Option (Int32 × mm_M) :=
  bn2 (fX5_passDays M 67 1) fun r2 M3 =>
  bn (fX5_hasCart M3 67 x1) fun r5 =>
  if r5 = true then
    gd (¬ (x1 < 0 ∨ 16 ≤ x1.toNatClampNeg)) <|
    some ((M3.1 (67 + 18 + 3 * x1.toNatClampNeg) 8), M3)
  else
    some ((-6), M3)

def fX6_wouldHave (M : mm_M) (x1 : Int32) : Option (Int32 × mm_M) :=
  bn (fX5_hasCart M 1 x1) fun r2 =>
  if r2 = true then
    bn (fX5_copyFrom M 67 1) fun M5 =>
    bn2 (fX6_pitchOnTrialDay M5 x1) fun r7 M8 =>
    some (r7, M8)
  else
    some ((-1), M)

def fX6_ifWished (M : mm_M) (x1 : Int32) (x2 : Int32) : Option (Int32 × mm_M) :=
  bn (fX5_hasCart M 1 x1) fun r2 =>
  if r2 = true then
    bn (fX5_hasPitch M 1 x2) fun r5 =>
    if r5 = true then
      bn (fX5_copyFrom M 67 1) fun M8 =>
      bn2 (fX5_tellWishes M8 67 x1 x2 (-6) (-6)) fun r10 M11 =>
      bn2 (fX6_pitchOnTrialDay M11 x1) fun r13 M14 =>
      some (r13, M14)
    else
      some ((-1), M)
  else
    some ((-1), M)

def fX6_firstDay_26 (x1 : Int32) : Nat → mm_M → Int32 → Option (Int32 × mm_M)
  | 0, _, _ => none
  | n + 1, M, v2 =>
    if 60 ≤ v2 then
      some ((-6), M)
    else
      bn2 (fX6_pitchOnTrialDay M x1) fun r3 M4 =>
      if r3 = (-6) then
        lt (v2 + 1) fun y6 =>
        fX6_firstDay_26 x1 n M4 y6
      else
        some (v2, M4)

def fX6_firstDay (M : mm_M) (x1 : Int32) : Option (Int32 × mm_M) :=
  bn (fX5_hasCart M 1 x1) fun r2 =>
  if r2 = true then
    bn (fX5_copyFrom M 67 1) fun M5 =>
    fX6_firstDay_26 x1 FU M5 0
  else
    some ((-1), M)

def fX6_daysOf_43 (x1 : Int32) (x2 : Int32) : Nat → mm_M → Int32 → Int32 → Option (Int32 × mm_M)
  | 0, _, _, _ => none
  | n + 1, M, v3, v4 =>
    if x2 ≤ v4 then
      some (v3, M)
    else
      bn2 (fX6_pitchOnTrialDay M x1) fun r3 M4 =>
      if r3 = (-6) then
        lt (v4 + 1) fun y6 =>
        fX6_daysOf_43 x1 x2 n M4 v3 y6
      else
        lt (v3 + 1) fun y7 =>
        lt (v4 + 1) fun y8 =>
        fX6_daysOf_43 x1 x2 n M4 y7 y8

def fX6_daysOf (M : mm_M) (x1 : Int32) (x2 : Int32) : Option (Int32 × mm_M) :=
  bn (fX5_hasCart M 1 x1) fun r2 =>
  if r2 = true then
    if x2 < 1 then
      some ((-2), M)
    else
      if x2 ≤ 60 then
        bn (fX5_copyFrom M 67 1) fun M7 =>
        fX6_daysOf_43 x1 x2 FU M7 0 0
      else
        some ((-2), M)
  else
    some ((-1), M)

def fX6_luckySeed_32 (x1 : Int32) (x2 : Int32) : Nat → mm_M → Int32 → Option (Int32 × mm_M)
  | 0, _, _ => none
  | n + 1, M, v3 =>
    if 200 ≤ v3 then
      some ((-6), M)
    else
      bn (fX5_copyFrom M 67 1) fun M3 =>
      bn2 (fX5_changeLots M3 67 v3) fun r5 M6 =>
      bn2 (fX6_pitchOnTrialDay M6 x1) fun r8 M9 =>
      if r8 = (-6) then
        lt (v3 + 1) fun y11 =>
        fX6_luckySeed_32 x1 x2 n M9 y11
      else
        if x2 = (-6) then
          some (v3, M9)
        else
          if r8 = x2 then
            some (v3, M9)
          else
            lt (v3 + 1) fun y14 =>
            fX6_luckySeed_32 x1 x2 n M9 y14

def fX6_luckySeed (M : mm_M) (x1 : Int32) (x2 : Int32) : Option (Int32 × mm_M) :=
  bn (fX5_hasCart M 1 x1) fun r2 =>
  if r2 = true then
    if x2 = (-6) then
      fX6_luckySeed_32 x1 x2 FU M 0
    else
      bn (fX5_hasPitch M 1 x2) fun r6 =>
      if r6 = true then
        fX6_luckySeed_32 x1 x2 FU M 0
      else
        some ((-1), M)
  else
    some ((-1), M)

def fX6_whyNot_50 (x1 : Int32) (x2 : Int32) (M : mm_M) : Option (Int32) :=
  bn (fX5_sameKindBeside M 1 x1 x2) fun r2 =>
  if r2 = true then
    some 2
  else
    some 0

def fX6_whyNot (M : mm_M) (x1 : Int32) (x2 : Int32) : Option (Int32) :=
  bn (fX5_hasCart M 1 x1) fun r2 =>
  if r2 = true then
    bn (fX5_hasPitch M 1 x2) fun r5 =>
    if r5 = true then
      gd (¬ (x2 < 0 ∨ 10 ≤ x2.toNatClampNeg)) <|
      lt (M.1 (1 + 8 + x2.toNatClampNeg) 3) fun y8 =>
      if y8 = (-6) then
        fX6_whyNot_50 x1 x2 M
      else
        if y8 = x1 then
          fX6_whyNot_50 x1 x2 M
        else
          some 1
    else
      some (-1)
  else
    some (-1)

def fX6_put (M : mm_M) (x1 : Int64) : Option (Int32 × mm_M) :=
  bn2 (fX3_append M 729 x1) fun r2 M3 =>
  some (r2, M3)

def fX6_wipe (M : mm_M) : Option (Int32 × mm_M) :=
  lt (M.1 729 1) fun y1 =>
  lt (sI M 729 1 0) fun M2 =>
  some (y1, M2)

def fX6_fault (M : mm_M) : Option (Int32) :=
  bn (fX3_findFault M 729) fun r2 =>
  some r2

def fX6_performOrder (M : mm_M) (x1 : Int32) (x2 : Int32) : Option (Int32 × mm_M) :=
  bn (fX3_signAt M 729 (x1 + 1)) fun r2 =>
  lt (r2 - 65) fun y3 =>
  bn (fX3_signAt M 729 x1) fun r5 =>
  if r5 = 99 then
    bn2 (fX5_askCheck M 1 y3) fun r8 M9 =>
    some (r8, M9)
  else if r5 = 102 then
    bn (fX3_numberAt M 729 (x1 + 2) x2) fun r12 =>
    bn2 (fX5_punish M 1 y3 r12) fun r14 M15 =>
    some (r14, M15)
  else if r5 = 115 then
    bn (fX3_signAt M 729 (x1 + 2)) fun r18 =>
    bn2 (fX5_askSwap M 1 y3 (r18 - 65)) fun r20 M21 =>
    some (r20, M21)
  else if r5 = 119 then
    bn (fX3_wishAt M 729 (x1 + 2) x2) fun r24 =>
    bn (fX3_wishAt M 729 (x1 + 3) x2) fun r26 =>
    bn (fX3_wishAt M 729 (x1 + 4) x2) fun r28 =>
    bn2 (fX5_tellWishes M 1 y3 r24 r26 r28) fun r30 M31 =>
    some (r30, M31)
  else 
    bn (fX3_numberAt M 729 (x1 + 1) x2) fun r33 =>
    bn2 (fX5_passDays M 1 r33) fun r35 M36 =>
    some (r35, M36)

def fX6_carryOut_82 (M : mm_M) (v1 : Int32) : Option (Int32 × mm_M) :=
  lt (sI M 729 1 0) fun M1 =>
  bn2 (fX6_recorded M1 v1) fun r3 M4 =>
  some (r3, M4)

def fX6_carryOut_32  : Nat → mm_M → Int32 → Int32 → Int32 → Option (Int32 × mm_M)
  | 0, _, _, _, _ => none
  | n + 1, M, v1, v2, v3 =>
    if (M.1 729 1) < v3 then
      fX6_carryOut_82 M v1
    else
      bn (fX3_endsOrder M 729 v3) fun r3 =>
      if r3 = true then
        bn2 (fX6_performOrder M v2 v3) fun r6 M7 =>
        if 0 ≤ r6 then
          lt (v1 + 1) fun y9 =>
          lt (v3 + 1) fun y10 =>
          lt (v3 + 1) fun y11 =>
          fX6_carryOut_32 n M7 y9 y10 y11
        else
          fX6_carryOut_82 M7 v1
      else
        lt (v3 + 1) fun y12 =>
        fX6_carryOut_32 n M v1 v2 y12

def fX6_carryOut (M : mm_M) : Option (Int32 × mm_M) :=
  bn (fX3_findFault M 729) fun r2 =>
  if r2 = (-6) then
    bn (fX2_prepare M 133 1) fun M5 =>
    fX6_carryOut_32 FU M5 0 0 0
  else
    some ((-3), M)

def fX6_undo (M : mm_M) : Option (Int32 × mm_M) :=
  if (M.1 133 2) = 0 then
    some ((-5), M)
  else
    bn (fX2_takeBack M 133 1) fun M3 =>
    some ((M3.1 133 2), M3)

def fX6_save_27 (x1 : Int32) (M : mm_M) (t0 : Nat) : Option (Int32 × mm_M) :=
  bn (fX5_copyFrom M t0 1) fun M2 =>
  lt (sI M2 t0 6 1) fun M3 =>
  some ((M3.1 1 0), M3)

def fX6_save (M : mm_M) (x1 : Int32) : Option (Int32 × mm_M) :=
  if x1 < 0 then
    some ((-2), M)
  else
    if x1 < 2 then
      if x1 = 0 then
        fX6_save_27 x1 M 597
      else
        fX6_save_27 x1 M 663
    else
      some ((-2), M)

def fX6_restore_27 (x1 : Int32) (M : mm_M) (t0 : Nat) : Option (Int32 × mm_M) :=
  if (M.1 t0 6) = 0 then
    some ((-5), M)
  else
    bn (fX2_prepare M 133 1) fun M3 =>
    bn (fX5_copyFrom M3 1 t0) fun M5 =>
    bn2 (fX6_recorded M5 (M5.1 1 0)) fun r7 M8 =>
    some (r7, M8)

def fX6_restore (M : mm_M) (x1 : Int32) : Option (Int32 × mm_M) :=
  if x1 < 0 then
    some ((-2), M)
  else
    if x1 < 2 then
      if x1 = 0 then
        fX6_restore_27 x1 M 597
      else
        fX6_restore_27 x1 M 663
    else
      some ((-2), M)

def fX7_in (M : mm_M) (x0 : Int32) (x1 : Int32) (x2 : Int32) : Option (Bool) :=
  if x0 < x1 then
    some false
  else
    if x2 < x0 then
      some false
    else
      some true

def fX7_of (M : mm_M) (x1 : Int32) (x2 : Int32) : Option (Int32) :=
  gd (¬ (((72 + (20 * x1)) + x2) < 0 ∨ 3592 ≤ ((72 + (20 * x1)) + x2).toNatClampNeg)) <|
  some (M.1 732 ((72 + (20 * x1)) + x2).toNatClampNeg)

def fX7_lay (M : mm_M) (x1 : Int32) (x2 : Int32) (x3 : Int32) : Option (mm_M) :=
  gd (¬ (((72 + (20 * x1)) + x2) < 0 ∨ 3592 ≤ ((72 + (20 * x1)) + x2).toNatClampNeg)) <|
  lt (sI M 732 ((72 + (20 * x1)) + x2).toNatClampNeg x3) fun M2 =>
  some M2

def fX7_ofP (M : mm_M) (x1 : Int32) (x2 : Int32) : Option (Int32) :=
  gd (¬ (((32 + (4 * x1)) + x2) < 0 ∨ 3592 ≤ ((32 + (4 * x1)) + x2).toNatClampNeg)) <|
  some (M.1 732 ((32 + (4 * x1)) + x2).toNatClampNeg)

def fX7_isCart (M : mm_M) (x1 : Int32) : Option (Bool) :=
  bn (fX7_in M x1 0 ((M.1 732 13) - 1)) fun r2 =>
  some r2

def fX7_isPitch (M : mm_M) (x1 : Int32) : Option (Bool) :=
  bn (fX7_in M x1 0 ((M.1 732 12) - 1)) fun r2 =>
  some r2

def fX7_keep_52  : Nat → mm_M → Int32 → Option (mm_M)
  | 0, _, _ => none
  | n + 1, M, v1 =>
    if 3592 ≤ v1 then
      lt (sI M 731 2 ((M.1 731 2) + 1)) fun M2 =>
      some M2
    else
      gd (¬ (v1 < 0 ∨ 3592 ≤ v1.toNatClampNeg)) <|
      gd (¬ (((3592 * (M.1 731 2)) + v1) < 0 ∨ 21552 ≤ ((3592 * (M.1 731 2)) + v1).toNatClampNeg)) <|
      lt (sI M 733 ((3592 * (M.1 731 2)) + v1).toNatClampNeg (M.1 732 v1.toNatClampNeg)) fun M5 =>
      lt (v1 + 1) fun y6 =>
      fX7_keep_52 n M5 y6

def fX7_keep_11  : Nat → mm_M → Int32 → Option (mm_M)
  | 0, _, _ => none
  | n + 1, M, v1 =>
    if 17960 ≤ v1 then
      lt (sI M 731 2 ((M.1 731 2) - 1)) fun M2 =>
      fX7_keep_52 FU M2 0
    else
      gd (¬ ((v1 + 3592) < 0 ∨ 21552 ≤ (v1 + 3592).toNatClampNeg)) <|
      gd (¬ (v1 < 0 ∨ 21552 ≤ v1.toNatClampNeg)) <|
      lt (sI M 733 v1.toNatClampNeg (M.1 733 (v1 + 3592).toNatClampNeg)) fun M5 =>
      lt (v1 + 1) fun y6 =>
      fX7_keep_11 n M5 y6

def fX7_keep (M : mm_M) : Option (mm_M) :=
  if (M.1 731 2) = 6 then
    fX7_keep_11 FU M 0
  else
    fX7_keep_52 FU M 0

def fX7_keepIf (M : mm_M) (x1 : Bool) : Option (mm_M) :=
  if x1 = true then
    bn (fX7_keep M) fun M3 =>
    some M3
  else
    some M

def fX7_layAside_2  : Nat → mm_M → Int32 → Option (mm_M)
  | 0, _, _ => none
  | n + 1, M, v1 =>
    if 3592 ≤ v1 then
      some M
    else
      gd (¬ (v1 < 0 ∨ 3592 ≤ v1.toNatClampNeg)) <|
      lt (sI M 736 v1.toNatClampNeg (M.1 732 v1.toNatClampNeg)) fun M3 =>
      lt (v1 + 1) fun y4 =>
      fX7_layAside_2 n M3 y4

def fX7_layAside (M : mm_M) : Option (mm_M) :=
  fX7_layAside_2 FU M 0

def fX7_layBack_2  : Nat → mm_M → Int32 → Option (mm_M)
  | 0, _, _ => none
  | n + 1, M, v1 =>
    if 3592 ≤ v1 then
      some M
    else
      gd (¬ (v1 < 0 ∨ 3592 ≤ v1.toNatClampNeg)) <|
      lt (sI M 732 v1.toNatClampNeg (M.1 736 v1.toNatClampNeg)) fun M3 =>
      lt (v1 + 1) fun y4 =>
      fX7_layBack_2 n M3 y4

def fX7_layBack (M : mm_M) : Option (mm_M) :=
  fX7_layBack_2 FU M 0

def fX7_least (M : mm_M) (x0 : Int32) : Option (Int32) :=
  if x0 = 3 then
    some 3
  else
    if x0 = 8 then
      some 6
    else
      if x0 = 6 then
        some 0
      else
        if x0 = 7 then
          some 0
        else
          if x0 = 9 then
            some 0
          else
            some 1

def fX7_greatest (M : mm_M) (x0 : Int32) : Option (Int32) :=
  if x0 = 0 then
    some 20
  else if x0 = 1 then
    some 200
  else if x0 = 2 then
    some 8
  else if x0 = 3 then
    some 30
  else if x0 = 4 then
    some 60
  else if x0 = 5 then
    some 200
  else if x0 = 6 then
    some 10000
  else if x0 = 7 then
    some 9
  else if x0 = 8 then
    some 14
  else 
    some 5000

def fX7_set (M : mm_M) (x1 : Int32) (x2 : Int32) : Option (Int32 × mm_M) :=
  bn (fX7_in M x1 0 9) fun r2 =>
  if r2 = true then
    bn (fX7_least M x1) fun r5 =>
    bn (fX7_greatest M x1) fun r7 =>
    bn (fX7_in M x2 r5 r7) fun r9 =>
    if r9 = true then
      bn (fX7_keep M) fun M12 =>
      gd (¬ (x1 < 0 ∨ 3592 ≤ x1.toNatClampNeg)) <|
      lt (M12.1 732 x1.toNatClampNeg) fun y14 =>
      lt (sI M12 732 x1.toNatClampNeg x2) fun M15 =>
      some (y14, M15)
    else
      some ((-2), M)
  else
    some ((-2), M)

def fX7_seed (M : mm_M) (x1 : Int32) : Option (Int32 × mm_M) :=
  bn (fX7_in M x1 0 65536) fun r2 =>
  if r2 = true then
    bn (fX7_keep M) fun M5 =>
    lt (M5.1 732 11) fun y6 =>
    lt (sI M5 732 11 x1) fun M7 =>
    some (y6, M7)
  else
    some ((-2), M)

def fX7_pitch (M : mm_M) (x1 : Int32) : Option (Int32 × mm_M) :=
  bn (fX7_in M x1 0 20000) fun r2 =>
  if r2 = true then
    if (M.1 732 12) = 10 then
      some ((-4), M)
    else
      bn (fX7_keep M) fun M6 =>
      lt (32 + (4 * (M6.1 732 12))) fun y7 =>
      gd (¬ ((y7 + 0) < 0 ∨ 3592 ≤ (y7 + 0).toNatClampNeg)) <|
      lt (sI M6 732 (y7 + 0).toNatClampNeg x1) fun M9 =>
      gd (¬ ((y7 + 1) < 0 ∨ 3592 ≤ (y7 + 1).toNatClampNeg)) <|
      lt (sI M9 732 (y7 + 1).toNatClampNeg 0) fun M11 =>
      gd (¬ ((y7 + 2) < 0 ∨ 3592 ≤ (y7 + 2).toNatClampNeg)) <|
      lt (sI M11 732 (y7 + 2).toNatClampNeg 0) fun M13 =>
      gd (¬ ((y7 + 3) < 0 ∨ 3592 ≤ (y7 + 3).toNatClampNeg)) <|
      lt (sI M13 732 (y7 + 3).toNatClampNeg (-6)) fun M15 =>
      lt (sI M15 732 12 ((M15.1 732 12) + 1)) fun M16 =>
      some (((M16.1 732 12) - 1), M16)
  else
    some ((-2), M)

def fX7_rent (M : mm_M) (x1 : Int32) (x2 : Int32) : Option (Int32 × mm_M) :=
  bn (fX7_isPitch M x1) fun r2 =>
  if r2 = true then
    bn (fX7_in M x2 0 20000) fun r5 =>
    if r5 = true then
      bn (fX7_keep M) fun M8 =>
      bn (fX7_ofP M8 x1 0) fun r10 =>
      gd (¬ (((32 + (4 * x1)) + 0) < 0 ∨ 3592 ≤ ((32 + (4 * x1)) + 0).toNatClampNeg)) <|
      lt (sI M8 732 ((32 + (4 * x1)) + 0).toNatClampNeg x2) fun M12 =>
      some (r10, M12)
    else
      some ((-2), M)
  else
    some ((-1), M)

def fX7_cart_76 (x1 : Int32) (x2 : Int32) : Nat → mm_M → Int32 → Int32 → Option (Int32 × mm_M)
  | 0, _, _, _ => none
  | n + 1, M, v3, v4 =>
    if 200 ≤ v4 then
      bn (fX7_lay M v3 0 x1) fun M3 =>
      bn (fX7_lay M3 v3 1 x2) fun M5 =>
      bn (fX7_lay M5 v3 7 ((M5.1 732 10) + (M5.1 732 1))) fun M7 =>
      bn (fX7_lay M7 v3 9 (-6)) fun M9 =>
      bn (fX7_lay M9 v3 11 (-6)) fun M11 =>
      bn (fX7_lay M11 v3 12 (-6)) fun M13 =>
      bn (fX7_lay M13 v3 14 (-6)) fun M15 =>
      lt (sI M15 732 13 ((M15.1 732 13) + 1)) fun M16 =>
      some (v3, M16)
    else
      gd (¬ (((392 + (200 * v3)) + v4) < 0 ∨ 3592 ≤ ((392 + (200 * v3)) + v4).toNatClampNeg)) <|
      lt (sI M 732 ((392 + (200 * v3)) + v4).toNatClampNeg 0) fun M18 =>
      lt (v4 + 1) fun y19 =>
      fX7_cart_76 x1 x2 n M18 v3 y19

def fX7_cart_52 (x1 : Int32) (x2 : Int32) : Nat → mm_M → Int32 → Int32 → Option (Int32 × mm_M)
  | 0, _, _, _ => none
  | n + 1, M, v3, v4 =>
    if 20 ≤ v4 then
      fX7_cart_76 x1 x2 FU M v3 0
    else
      bn (fX7_lay M v3 v4 0) fun M3 =>
      lt (v4 + 1) fun y4 =>
      fX7_cart_52 x1 x2 n M3 v3 y4

def fX7_cart (M : mm_M) (x1 : Int32) (x2 : Int32) : Option (Int32 × mm_M) :=
  bn (fX7_in M x1 0 5) fun r2 =>
  if r2 = true then
    bn (fX7_in M x2 1 6) fun r5 =>
    if r5 = true then
      if (M.1 732 13) = 16 then
        some ((-4), M)
      else
        bn (fX7_keep M) fun M9 =>
        lt (M9.1 732 13) fun y10 =>
        fX7_cart_52 x1 x2 FU M9 y10 0
    else
      some ((-2), M)
  else
    some ((-2), M)

def fX7_pointsAt_62 (x1 : Int32) (x2 : Int32) (M : mm_M) : Nat → Int32 → Int32 → Option (Int32)
  | 0, _, _ => none
  | n + 1, v3, v6 =>
    if (M.1 732 10) < v6 then
      some v3
    else
      gd (¬ (((392 + (200 * x1)) + (v6 - v6 / 200 * 200)) < 0 ∨ 3592 ≤ ((392 + (200 * x1)) + (v6 - v6 / 200 * 200)).toNatClampNeg)) <|
      lt (v3 + (M.1 732 ((392 + (200 * x1)) + (v6 - v6 / 200 * 200)).toNatClampNeg)) fun y3 =>
      lt (v6 + 1) fun y4 =>
      fX7_pointsAt_62 x1 x2 M n y3 y4

def fX7_pointsAt_43 (x1 : Int32) (x2 : Int32) (M : mm_M) (t0 : Int32) : Option (Int32) :=
  if 0 ≤ t0 then
    fX7_pointsAt_62 x1 x2 M FU 0 t0
  else
    fX7_pointsAt_62 x1 x2 M FU 0 0

def fX7_pointsAt (M : mm_M) (x1 : Int32) (x2 : Int32) : Option (Int32) :=
  lt ((x2 - (M.1 732 5)) + 1) fun y1 =>
  lt (((M.1 732 10) - 200) + 1) fun y2 =>
  if y1 ≤ y2 then
    fX7_pointsAt_43 x1 x2 M y2
  else
    fX7_pointsAt_43 x1 x2 M y1

def fX7_give_98 (x1 : Int32) (x2 : Int32) : Nat → mm_M → Int32 → Option (mm_M)
  | 0, _, _ => none
  | n + 1, M, v3 =>
    if 200 ≤ v3 then
      some M
    else
      gd (¬ (((392 + (200 * x1)) + v3) < 0 ∨ 3592 ≤ ((392 + (200 * x1)) + v3).toNatClampNeg)) <|
      lt (sI M 732 ((392 + (200 * x1)) + v3).toNatClampNeg 0) fun M3 =>
      lt (v3 + 1) fun y4 =>
      fX7_give_98 x1 x2 n M3 y4

def fX7_give (M : mm_M) (x1 : Int32) (x2 : Int32) : Option (mm_M) :=
  gd (¬ (((392 + (200 * x1)) + ((M.1 732 10) - (M.1 732 10) / 200 * 200)) < 0 ∨ 3592 ≤ ((392 + (200 * x1)) + ((M.1 732 10) - (M.1 732 10) / 200 * 200)).toNatClampNeg)) <|
  lt (sI M 732 ((392 + (200 * x1)) + ((M.1 732 10) - (M.1 732 10) / 200 * 200)).toNatClampNeg ((M.1 732 ((392 + (200 * x1)) + ((M.1 732 10) - (M.1 732 10) / 200 * 200)).toNatClampNeg) + x2)) fun M2 =>
  bn (fX7_of M2 x1 17) fun r4 =>
  bn (fX7_lay M2 x1 17 (r4 + (x2 * (M2.1 732 6)))) fun M6 =>
  bn (fX7_pointsAt M6 x1 (M6.1 732 10)) fun r8 =>
  if r8 < (M6.1 732 3) then
    some M6
  else
    bn (fX7_lay M6 x1 9 ((M6.1 732 10) + (M6.1 732 4))) fun M11 =>
    fX7_give_98 x1 x2 FU M11 0

def fX7_isNumber (M : mm_M) (x1 : Int32) : Option (Bool) :=
  if x1 = (-6) then
    some true
  else
    bn (fX7_isPitch M x1) fun r3 =>
    if r3 = true then
      some true
    else
      some false

def fX7_tryWish_72 (x1 : Int32) (x2 : Int32) (x3 : Int32) (x4 : Int32) (x5 : Bool) (M : mm_M) (v6 : Int32) (t0 : Bool) : Option (Int32 × mm_M) :=
  bn (fX7_isNumber M x2) fun r2 =>
  if r2 = true then
    bn (fX7_isNumber M x3) fun r5 =>
    if r5 = true then
      bn (fX7_isNumber M x4) fun r8 =>
      if r8 = true then
        if t0 = true then
          some ((-2), M)
        else
          bn (fX7_keepIf M x5) fun M12 =>
          bn (fX7_lay M12 x1 2 v6) fun M14 =>
          bn (fX7_lay M14 x1 3 x2) fun M16 =>
          bn (fX7_lay M16 x1 4 x3) fun M18 =>
          bn (fX7_lay M18 x1 5 x4) fun M20 =>
          some (v6, M20)
      else
        some ((-2), M)
    else
      some ((-2), M)
  else
    some ((-2), M)

def fX7_tryWish_67 (x1 : Int32) (x2 : Int32) (x3 : Int32) (x4 : Int32) (x5 : Bool) (M : mm_M) (v6 : Int32) : Option (Int32 × mm_M) :=
  fX7_tryWish_72 x1 x2 x3 x4 x5 M v6 true

def fX7_tryWish_71 (x1 : Int32) (x2 : Int32) (x3 : Int32) (x4 : Int32) (x5 : Bool) (M : mm_M) (v6 : Int32) : Option (Int32 × mm_M) :=
  fX7_tryWish_72 x1 x2 x3 x4 x5 M v6 false

def fX7_tryWish_49 (x1 : Int32) (x2 : Int32) (x3 : Int32) (x4 : Int32) (x5 : Bool) (M : mm_M) (v6 : Int32) : Option (Int32 × mm_M) :=
  if v6 ≤ 2 then
    fX7_tryWish_71 x1 x2 x3 x4 x5 M v6
  else
    if x2 = x4 then
      fX7_tryWish_67 x1 x2 x3 x4 x5 M v6
    else
      if x3 = x4 then
        fX7_tryWish_67 x1 x2 x3 x4 x5 M v6
      else
        fX7_tryWish_71 x1 x2 x3 x4 x5 M v6

def fX7_tryWish_36 (x1 : Int32) (x2 : Int32) (x3 : Int32) (x4 : Int32) (x5 : Bool) (M : mm_M) (t0 : Int32) : Option (Int32 × mm_M) :=
  if t0 ≤ 1 then
    fX7_tryWish_49 x1 x2 x3 x4 x5 M t0
  else
    if x2 = x3 then
      fX7_tryWish_67 x1 x2 x3 x4 x5 M t0
    else
      fX7_tryWish_49 x1 x2 x3 x4 x5 M t0

def fX7_tryWish (M : mm_M) (x1 : Int32) (x2 : Int32) (x3 : Int32) (x4 : Int32) (x5 : Bool) : Option (Int32 × mm_M) :=
  bn (fX7_isCart M x1) fun r2 =>
  if r2 = true then
    if 0 ≤ x2 then
      if 0 ≤ x3 then
        if 0 ≤ x4 then
          fX7_tryWish_36 x1 x2 x3 x4 x5 M 3
        else
          fX7_tryWish_36 x1 x2 x3 x4 x5 M 2
      else
        fX7_tryWish_36 x1 x2 x3 x4 x5 M 1
    else
      fX7_tryWish_36 x1 x2 x3 x4 x5 M 0
  else
    some ((-1), M)

def fX7_wish (M : mm_M) (x1 : Int32) (x2 : Int32) (x3 : Int32) (x4 : Int32) : Option (Int32 × mm_M) :=
  bn2 (fX7_tryWish M x1 x2 x3 x4 true) fun r2 M3 =>
  some (r2, M3)

def fX7_tryFine (M : mm_M) (x1 : Int32) (x2 : Int32) (x3 : Bool) : Option (Int32 × mm_M) :=
  bn (fX7_isCart M x1) fun r2 =>
  if r2 = true then
    bn (fX7_in M x2 1 9) fun r5 =>
    if r5 = true then
      bn (fX7_keepIf M x3) fun M8 =>
      bn (fX7_give M8 x1 x2) fun M10 =>
      bn (fX7_pointsAt M10 x1 (M10.1 732 10)) fun r12 =>
      some (r12, M10)
    else
      some ((-2), M)
  else
    some ((-1), M)

def fX7_fine (M : mm_M) (x1 : Int32) (x2 : Int32) : Option (Int32 × mm_M) :=
  bn2 (fX7_tryFine M x1 x2 true) fun r2 M3 =>
  some (r2, M3)

def fX7_waiting_4 (M : mm_M) : Nat → Int32 → Int32 → Option (Int32)
  | 0, _, _ => none
  | n + 1, v1, v2 =>
    if (M.1 732 13) ≤ v2 then
      some v1
    else
      bn (fX7_of M v2 8) fun r3 =>
      lt (v1 + r3) fun y4 =>
      lt (v2 + 1) fun y5 =>
      fX7_waiting_4 M n y4 y5

def fX7_waiting (M : mm_M) : Option (Int32) :=
  fX7_waiting_4 M FU 0 0

def fX7_tryCheck (M : mm_M) (x1 : Int32) (x2 : Bool) : Option (Int32 × mm_M) :=
  bn (fX7_isCart M x1) fun r2 =>
  if r2 = true then
    bn (fX7_of M x1 8) fun r5 =>
    if r5 = 1 then
      some ((-5), M)
    else
      bn (fX7_keepIf M x2) fun M8 =>
      bn (fX7_lay M8 x1 8 1) fun M10 =>
      bn (fX7_waiting M10) fun r12 =>
      some (r12, M10)
  else
    some ((-1), M)

def fX7_check (M : mm_M) (x1 : Int32) : Option (Int32 × mm_M) :=
  bn2 (fX7_tryCheck M x1 true) fun r2 M3 =>
  some (r2, M3)

def fX7_trySwap (M : mm_M) (x1 : Int32) (x2 : Int32) (x3 : Bool) : Option (Int32 × mm_M) :=
  bn (fX7_isCart M x1) fun r2 =>
  if r2 = true then
    bn (fX7_isCart M x2) fun r5 =>
    if r5 = true then
      if x1 = x2 then
        some ((-1), M)
      else
        if (M.1 732 14) = 8 then
          some ((-4), M)
        else
          bn (fX7_keepIf M x3) fun M10 =>
          gd (¬ ((16 + (2 * (M10.1 732 14))) < 0 ∨ 3592 ≤ (16 + (2 * (M10.1 732 14))).toNatClampNeg)) <|
          lt (sI M10 732 (16 + (2 * (M10.1 732 14))).toNatClampNeg x1) fun M12 =>
          gd (¬ (((16 + (2 * (M12.1 732 14))) + 1) < 0 ∨ 3592 ≤ ((16 + (2 * (M12.1 732 14))) + 1).toNatClampNeg)) <|
          lt (sI M12 732 ((16 + (2 * (M12.1 732 14))) + 1).toNatClampNeg x2) fun M14 =>
          lt (sI M14 732 14 ((M14.1 732 14) + 1)) fun M15 =>
          some ((M15.1 732 14), M15)
    else
      some ((-1), M)
  else
    some ((-1), M)

def fX7_swap (M : mm_M) (x1 : Int32) (x2 : Int32) : Option (Int32 × mm_M) :=
  bn2 (fX7_trySwap M x1 x2 true) fun r2 M3 =>
  some (r2, M3)

def fX7_balance (M : mm_M) (x1 : Int32) : Option (Int32) :=
  bn (fX7_of M x1 15) fun r2 =>
  bn (fX7_of M x1 16) fun r4 =>
  bn (fX7_of M x1 17) fun r6 =>
  bn (fX7_of M x1 18) fun r8 =>
  some (((r2 - r4) - r6) - r8)

def fX7_pay (M : mm_M) (x1 : Int32) (x2 : Int32) : Option (Int32 × mm_M) :=
  bn (fX7_isCart M x1) fun r2 =>
  if r2 = true then
    bn (fX7_in M x2 1 1000000) fun r5 =>
    if r5 = true then
      bn (fX7_keep M) fun M8 =>
      bn (fX7_of M8 x1 15) fun r10 =>
      bn (fX7_lay M8 x1 15 (r10 + x2)) fun M12 =>
      bn (fX7_balance M12 x1) fun r14 =>
      if r14 < 0 then
        some (0, M12)
      else
        some (1, M12)
    else
      some ((-2), M)
  else
    some ((-1), M)

def fX7_nextToCheck_32 (M : mm_M) (k5 : Int32 → Int32 → Option (Int32)) (v1 : Int32) (v2 : Int32) (t0 : Bool) : Option (Int32) :=
  if t0 = true then
    if v1 < 0 then
      lt (v2 + 1) fun y4 =>
      k5 v2 y4
    else
      bn (fX7_of M v2 7) fun r6 =>
      bn (fX7_of M v1 7) fun r8 =>
      if r8 ≤ r6 then
        lt (v2 + 1) fun y10 =>
        k5 v1 y10
      else
        lt (v2 + 1) fun y11 =>
        k5 v2 y11
  else
    lt (v2 + 1) fun y2 =>
    k5 v1 y2

def fX7_nextToCheck_5 (M : mm_M) : Nat → Int32 → Int32 → Option (Int32)
  | 0, _, _ => none
  | n + 1, v1, v2 =>
    if (M.1 732 13) ≤ v2 then
      some v1
    else
      bn (fX7_of M v2 8) fun r3 =>
      if r3 = 1 then
        fX7_nextToCheck_32 M (fX7_nextToCheck_5 M n) v1 v2 true
      else
        fX7_nextToCheck_32 M (fX7_nextToCheck_5 M n) v1 v2 false

def fX7_nextToCheck (M : mm_M) : Option (Int32) :=
  fX7_nextToCheck_5 M FU (-6) 0

def fX7_checkAll_2  : Nat → mm_M → Int32 → Option (mm_M)
  | 0, _, _ => none
  | n + 1, M, v1 =>
    if (M.1 732 2) ≤ v1 then
      some M
    else
      bn (fX7_nextToCheck M) fun r3 =>
      if r3 < 0 then
        lt (v1 + 1) fun y5 =>
        fX7_checkAll_2 n M y5
      else
        bn (fX7_lay M r3 7 ((M.1 732 10) + (M.1 732 1))) fun M7 =>
        bn (fX7_lay M7 r3 8 0) fun M9 =>
        lt (v1 + 1) fun y10 =>
        fX7_checkAll_2 n M9 y10

def fX7_checkAll (M : mm_M) : Option (mm_M) :=
  fX7_checkAll_2 FU M 0

def fX7_whyOut (M : mm_M) (x1 : Int32) : Option (Int32) :=
  bn (fX7_of M x1 2) fun r2 =>
  if r2 = 0 then
    some 1
  else
    bn (fX7_of M x1 7) fun r5 =>
    if (M.1 732 10) ≤ r5 then
      bn (fX7_of M x1 9) fun r8 =>
      if r8 < (M.1 732 10) then
        some 0
      else
        some 3
    else
      some 2

def fX7_beginDay_42 (k2 : mm_M → Int32 → Option (mm_M)) (M : mm_M) (v1 : Int32) (t1 : Int32) (t3 : Bool) : Option (mm_M) :=
  bn (fX7_lay M t1 19 (b2i t3)) fun M2 =>
  bn (fX7_lay M2 v1 11 (-6)) fun M4 =>
  bn (fX7_lay M4 v1 12 (-6)) fun M6 =>
  bn (fX7_lay M6 v1 14 (-6)) fun M8 =>
  lt (v1 + 1) fun y9 =>
  k2 M8 y9

def fX7_beginDay_80  : Nat → mm_M → Int32 → Option (mm_M)
  | 0, _, _ => none
  | n + 1, M, v1 =>
    if (M.1 732 12) ≤ v1 then
      some M
    else
      gd (¬ (((32 + (4 * v1)) + 3) < 0 ∨ 3592 ≤ ((32 + (4 * v1)) + 3).toNatClampNeg)) <|
      lt (sI M 732 ((32 + (4 * v1)) + 3).toNatClampNeg (-6)) fun M3 =>
      lt (v1 + 1) fun y4 =>
      fX7_beginDay_80 n M3 y4

def fX7_beginDay_2  : Nat → mm_M → Int32 → Option (mm_M)
  | 0, _, _ => none
  | n + 1, M, v1 =>
    if (M.1 732 13) ≤ v1 then
      fX7_beginDay_80 FU M 0
    else
      bn (fX7_whyOut M v1) fun r3 =>
      bn (fX7_lay M v1 13 r3) fun M5 =>
      bn (fX7_whyOut M5 v1) fun r7 =>
      if r7 = 0 then
        fX7_beginDay_42 (fX7_beginDay_2 n) M5 v1 v1 true
      else
        fX7_beginDay_42 (fX7_beginDay_2 n) M5 v1 v1 false

def fX7_beginDay (M : mm_M) : Option (mm_M) :=
  fX7_beginDay_2 FU M 0

def fX7_isKindAt_19 (x1 : Int32) (x2 : Int32) (x3 : Int32) (M : mm_M) (t0 : Int32) : Option (Bool) :=
  if t0 < 0 then
    some false
  else
    if t0 = x3 then
      some false
    else
      bn (fX7_of M t0 0) fun r4 =>
      if r4 = x2 then
        some true
      else
        some false

def fX7_isKindAt (M : mm_M) (x1 : Int32) (x2 : Int32) (x3 : Int32) : Option (Bool) :=
  bn (fX7_isPitch M x1) fun r2 =>
  if r2 = true then
    bn (fX7_ofP M x1 3) fun r5 =>
    fX7_isKindAt_19 x1 x2 x3 M r5
  else
    fX7_isKindAt_19 x1 x2 x3 M (-6)

def fX7_isApart (M : mm_M) (x1 : Int32) (x2 : Int32) : Option (Bool) :=
  bn (fX7_of M x1 0) fun r2 =>
  bn (fX7_isKindAt M (x2 - 1) r2 x1) fun r4 =>
  if r4 = true then
    some false
  else
    bn (fX7_of M x1 0) fun r7 =>
    bn (fX7_isKindAt M (x2 + 1) r7 x1) fun r9 =>
    if r9 = true then
      some false
    else
      some true

def fX7_put (M : mm_M) (x1 : Int32) (x2 : Int32) : Option (mm_M) :=
  bn (fX7_lay M x1 11 x2) fun M2 =>
  gd (¬ (((32 + (4 * x2)) + 3) < 0 ∨ 3592 ≤ ((32 + (4 * x2)) + 3).toNatClampNeg)) <|
  lt (sI M2 732 ((32 + (4 * x2)) + 3).toNatClampNeg x1) fun M4 =>
  some M4

def fX7_choose_2 (x1 : Int32) : Nat → mm_M → Int32 → Option (mm_M)
  | 0, _, _ => none
  | n + 1, M, v2 =>
    bn (fX7_of M x1 2) fun r2 =>
    if r2 ≤ v2 then
      bn (fX7_lay M x1 13 4) fun M5 =>
      some M5
    else
      bn (fX7_of M x1 (3 + v2)) fun r7 =>
      bn (fX7_ofP M r7 3) fun r9 =>
      if 0 ≤ r9 then
        lt (v2 + 1) fun y11 =>
        fX7_choose_2 x1 n M y11
      else
        bn (fX7_isApart M x1 r7) fun r13 =>
        if r13 = true then
          bn (fX7_put M x1 r7) fun M17 =>
          some M17
        else
          lt (v2 + 1) fun y15 =>
          fX7_choose_2 x1 n M y15

def fX7_choose (M : mm_M) (x1 : Int32) : Option (mm_M) :=
  fX7_choose_2 x1 FU M 0

def fX7_isToDraw (M : mm_M) (x1 : Int32) : Option (Bool) :=
  bn (fX7_of M x1 19) fun r2 =>
  if r2 = 1 then
    bn (fX7_of M x1 14) fun r5 =>
    if 0 ≤ r5 then
      some false
    else
      some true
  else
    some false

def fX7_ticketsOf (M : mm_M) (x1 : Int32) : Option (Int32) :=
  bn (fX7_of M x1 6) fun r2 =>
  lt (1 + r2) fun y3 =>
  if (M.1 732 0) ≤ y3 then
    some (M.1 732 0)
  else
    some y3

def fX7_drawOne_52 (x1 : Int32) (k35 : mm_M → Int32 → Int32 → Option (Int32 × mm_M)) (M : mm_M) (v2 : Int32) (v3 : Int32) : Option (Int32 × mm_M) :=
  bn (fX7_isToDraw M v3) fun r2 =>
  if r2 = true then
    bn (fX7_ticketsOf M v3) fun r7 =>
    lt (v2 - r7) fun y8 =>
    lt (v3 + 1) fun y9 =>
    k35 M y8 y9
  else
    lt (v2 - 0) fun y4 =>
    lt (v3 + 1) fun y5 =>
    k35 M y4 y5

def fX7_drawOne_35 (x1 : Int32) : Nat → mm_M → Int32 → Int32 → Option (Int32 × mm_M)
  | 0, _, _, _ => none
  | n + 1, M, v2, v3 =>
    bn (fX7_isToDraw M v3) fun r2 =>
    if r2 = true then
      bn (fX7_ticketsOf M v3) fun r5 =>
      if v2 < r5 then
        some (v3, M)
      else
        fX7_drawOne_52 x1 (fX7_drawOne_35 x1 n) M v2 v3
    else
      fX7_drawOne_52 x1 (fX7_drawOne_35 x1 n) M v2 v3

def fX7_drawOne (M : mm_M) (x1 : Int32) : Option (Int32 × mm_M) :=
  lt (sI M 732 11 (((75 * (M.1 732 11)) + 74) - ((75 * (M.1 732 11)) + 74) / 65537 * 65537)) fun M1 =>
  gd (¬ x1 = 0) <|
  lt ((M1.1 732 11) - (M1.1 732 11) / x1 * x1) fun y3 =>
  fX7_drawOne_35 x1 FU M1 y3 0

def fX7_drawAll_62 (k4 : mm_M → Int32 → Bool → Option (mm_M)) (M : mm_M) (v1 : Int32) (v3 : Int32) (t0 : Bool) : Option (mm_M) :=
  if t0 = true then
    bn2 (fX7_drawOne M v3) fun r3 M4 =>
    bn (fX7_lay M4 r3 14 v1) fun M6 =>
    lt (v1 + 1) fun y7 =>
    bn (fX7_choose M6 r3) fun M9 =>
    k4 M9 y7 t0
  else
    k4 M v1 t0

def fX7_drawAll_13 (k4 : mm_M → Int32 → Bool → Option (mm_M)) : Nat → mm_M → Int32 → Int32 → Int32 → Option (mm_M)
  | 0, _, _, _, _ => none
  | n + 1, M, v1, v3, v4 =>
    if (M.1 732 13) ≤ v4 then
      if v3 ≤ 0 then
        fX7_drawAll_62 k4 M v1 v3 false
      else
        fX7_drawAll_62 k4 M v1 v3 true
    else
      bn (fX7_isToDraw M v4) fun r4 =>
      if r4 = true then
        bn (fX7_ticketsOf M v4) fun r9 =>
        lt (v3 + r9) fun y10 =>
        lt (v4 + 1) fun y11 =>
        fX7_drawAll_13 k4 n M v1 y10 y11
      else
        lt (v3 + 0) fun y6 =>
        lt (v4 + 1) fun y7 =>
        fX7_drawAll_13 k4 n M v1 y6 y7

def fX7_drawAll_4  : Nat → mm_M → Int32 → Bool → Option (mm_M)
  | 0, _, _, _ => none
  | n + 1, M, v1, v2 =>
    if v2 = true then
      fX7_drawAll_13 (fX7_drawAll_4 n) FU M v1 0 0
    else
      some M

def fX7_drawAll (M : mm_M) : Option (mm_M) :=
  fX7_drawAll_4 FU M 0 true

def fX7_drawnAt_2 (x1 : Int32) (M : mm_M) : Nat → Int32 → Option (Int32)
  | 0, _ => none
  | n + 1, v2 =>
    if (M.1 732 13) ≤ v2 then
      some (-6)
    else
      bn (fX7_of M v2 14) fun r3 =>
      if r3 = x1 then
        some v2
      else
        lt (v2 + 1) fun y5 =>
        fX7_drawnAt_2 x1 M n y5

def fX7_drawnAt (M : mm_M) (x1 : Int32) : Option (Int32) :=
  fX7_drawnAt_2 x1 M FU 0

def fX7_cook_108 (x1 : Int32) (M : mm_M) : Option (mm_M) :=
  bn (fX7_of M x1 12) fun r2 =>
  if 0 ≤ r2 then
    some M
  else
    bn (fX7_of M x1 11) fun r5 =>
    gd (¬ (((32 + (4 * r5)) + 3) < 0 ∨ 3592 ≤ ((32 + (4 * r5)) + 3).toNatClampNeg)) <|
    lt (sI M 732 ((32 + (4 * r5)) + 3).toNatClampNeg (-6)) fun M7 =>
    bn (fX7_lay M7 x1 11 (-6)) fun M9 =>
    bn (fX7_lay M9 x1 13 5) fun M11 =>
    if (M11.1 732 7) ≤ 0 then
      some M11
    else
      bn (fX7_give M11 x1 (M11.1 732 7)) fun M14 =>
      some M14

def fX7_cook_9 (x1 : Int32) : Nat → mm_M → Int32 → Int32 → Option (mm_M)
  | 0, _, _, _ => none
  | n + 1, M, v2, v3 =>
    if (M.1 732 8) < (v3 + v2) then
      fX7_cook_108 x1 M
    else
      bn (fX7_of M x1 12) fun r3 =>
      if 0 ≤ r3 then
        fX7_cook_108 x1 M
      else
        lt (((1 <<< (v2 &&& 31)) - 1) <<< (v3 &&& 31)) fun y5 =>
        if ((M.1 731 8) &&& y5) = 0 then
          lt (sI M 731 8 ((M.1 731 8) ||| y5)) fun M13 =>
          bn (fX7_lay M13 x1 12 v3) fun M15 =>
          lt (v3 + 1) fun y16 =>
          fX7_cook_9 x1 n M15 v2 y16
        else
          if ((M.1 731 9) &&& y5) = 0 then
            lt (sI M 731 9 ((M.1 731 9) ||| y5)) fun M9 =>
            bn (fX7_lay M9 x1 12 v3) fun M11 =>
            lt (v3 + 1) fun y12 =>
            fX7_cook_9 x1 n M11 v2 y12
          else
            lt (v3 + 1) fun y8 =>
            fX7_cook_9 x1 n M v2 y8

def fX7_cook (M : mm_M) (x1 : Int32) : Option (mm_M) :=
  bn (fX7_of M x1 1) fun r2 =>
  fX7_cook_9 x1 FU M r2 0

def fX7_cookAll_37 (k18 : mm_M → Int32 → Int32 → Option (mm_M)) (M : mm_M) (v1 : Int32) : Option (mm_M) :=
  lt (v1 + 1) fun y1 =>
  bn (fX7_drawnAt M y1) fun r3 =>
  k18 M y1 r3

def fX7_cookAll_18  : Nat → mm_M → Int32 → Int32 → Option (mm_M)
  | 0, _, _, _ => none
  | n + 1, M, v1, v2 =>
    if v2 < 0 then
      some M
    else
      bn (fX7_of M v2 11) fun r3 =>
      if r3 < 0 then
        fX7_cookAll_37 (fX7_cookAll_18 n) M v1
      else
        bn (fX7_cook M v2) fun M6 =>
        fX7_cookAll_37 (fX7_cookAll_18 n) M6 v1

def fX7_cookAll (M : mm_M) : Option (mm_M) :=
  lt (sI M 731 8 0) fun M1 =>
  lt (sI M1 731 9 0) fun M2 =>
  bn (fX7_drawnAt M2 0) fun r4 =>
  fX7_cookAll_18 FU M2 0 r4

def fX7_swapAll_106 (k2 : mm_M → Int32 → Option (mm_M)) (M : mm_M) (v1 : Int32) (v2 : Int32) (v3 : Int32) (v4 : Int32) (v5 : Int32) (t0 : Bool) : Option (mm_M) :=
  if t0 = true then
    bn (fX7_of M v2 18) fun r8 =>
    bn (fX7_lay M v2 18 (r8 + (M.1 732 9))) fun M10 =>
    bn (fX7_of M10 v3 18) fun r12 =>
    bn (fX7_lay M10 v3 18 (r12 + (M10.1 732 9))) fun M14 =>
    lt (sI M14 732 15 ((M14.1 732 15) + 1)) fun M15 =>
    lt (v1 + 1) fun y16 =>
    k2 M15 y16
  else
    bn (fX7_put M v2 v4) fun M3 =>
    bn (fX7_put M3 v3 v5) fun M5 =>
    lt (v1 + 1) fun y6 =>
    k2 M5 y6

def fX7_swapAll_105 (k2 : mm_M → Int32 → Option (mm_M)) (M : mm_M) (v1 : Int32) (v2 : Int32) (v3 : Int32) (v4 : Int32) (v5 : Int32) : Option (mm_M) :=
  fX7_swapAll_106 k2 M v1 v2 v3 v4 v5 false

def fX7_swapAll_2  : Nat → mm_M → Int32 → Option (mm_M)
  | 0, _, _ => none
  | n + 1, M, v1 =>
    if (M.1 732 14) ≤ v1 then
      lt (sI M 732 14 0) fun M2 =>
      some M2
    else
      gd (¬ ((16 + (2 * v1)) < 0 ∨ 3592 ≤ (16 + (2 * v1)).toNatClampNeg)) <|
      lt (M.1 732 (16 + (2 * v1)).toNatClampNeg) fun y4 =>
      gd (¬ (((16 + (2 * v1)) + 1) < 0 ∨ 3592 ≤ ((16 + (2 * v1)) + 1).toNatClampNeg)) <|
      lt (M.1 732 ((16 + (2 * v1)) + 1).toNatClampNeg) fun y6 =>
      bn (fX7_of M y4 11) fun r8 =>
      bn (fX7_of M y6 11) fun r10 =>
      if r8 < 0 then
        lt (v1 + 1) fun y12 =>
        fX7_swapAll_2 n M y12
      else
        if r10 < 0 then
          lt (v1 + 1) fun y14 =>
          fX7_swapAll_2 n M y14
        else
          bn (fX7_put M y4 r10) fun M16 =>
          bn (fX7_put M16 y6 r8) fun M18 =>
          bn (fX7_isApart M18 y4 r10) fun r20 =>
          if r20 = true then
            bn (fX7_isApart M18 y6 r8) fun r23 =>
            if r23 = true then
              fX7_swapAll_106 (fX7_swapAll_2 n) M18 v1 y4 y6 r8 r10 true
            else
              fX7_swapAll_105 (fX7_swapAll_2 n) M18 v1 y4 y6 r8 r10
          else
            fX7_swapAll_105 (fX7_swapAll_2 n) M18 v1 y4 y6 r8 r10

def fX7_swapAll (M : mm_M) : Option (mm_M) :=
  fX7_swapAll_2 FU M 0

def fX7_trade_2  : Nat → mm_M → Int32 → Option (mm_M)
  | 0, _, _ => none
  | n + 1, M, v1 =>
    if (M.1 732 13) ≤ v1 then
      some M
    else
      bn (fX7_of M v1 11) fun r3 =>
      if r3 < 0 then
        bn (fX7_of M v1 6) fun r6 =>
        bn (fX7_of M v1 19) fun r8 =>
        bn (fX7_lay M v1 6 (r6 + r8)) fun M10 =>
        lt (v1 + 1) fun y11 =>
        fX7_trade_2 n M10 y11
      else
        bn (fX7_of M v1 16) fun r13 =>
        bn (fX7_ofP M r3 0) fun r15 =>
        bn (fX7_lay M v1 16 (r13 + r15)) fun M17 =>
        bn (fX7_of M17 v1 10) fun r19 =>
        bn (fX7_lay M17 v1 10 (r19 + 1)) fun M21 =>
        bn (fX7_lay M21 v1 6 0) fun M23 =>
        gd (¬ (((32 + (4 * r3)) + 1) < 0 ∨ 3592 ≤ ((32 + (4 * r3)) + 1).toNatClampNeg)) <|
        lt (sI M23 732 ((32 + (4 * r3)) + 1).toNatClampNeg ((M23.1 732 ((32 + (4 * r3)) + 1).toNatClampNeg) + 1)) fun M25 =>
        gd (¬ (((32 + (4 * r3)) + 2) < 0 ∨ 3592 ≤ ((32 + (4 * r3)) + 2).toNatClampNeg)) <|
        bn (fX7_ofP M25 r3 0) fun r28 =>
        lt (sI M25 732 ((32 + (4 * r3)) + 2).toNatClampNeg ((M25.1 732 ((32 + (4 * r3)) + 2).toNatClampNeg) + r28)) fun M29 =>
        lt (v1 + 1) fun y30 =>
        fX7_trade_2 n M29 y30

def fX7_trade (M : mm_M) : Option (mm_M) :=
  fX7_trade_2 FU M 0

def fX7_passDay_37  : Nat → mm_M → Int32 → Option (mm_M)
  | 0, _, _ => none
  | n + 1, M, v1 =>
    if (M.1 732 13) ≤ v1 then
      some M
    else
      gd (¬ (((392 + (200 * v1)) + ((M.1 732 10) - (M.1 732 10) / 200 * 200)) < 0 ∨ 3592 ≤ ((392 + (200 * v1)) + ((M.1 732 10) - (M.1 732 10) / 200 * 200)).toNatClampNeg)) <|
      lt (sI M 732 ((392 + (200 * v1)) + ((M.1 732 10) - (M.1 732 10) / 200 * 200)).toNatClampNeg 0) fun M3 =>
      lt (v1 + 1) fun y4 =>
      fX7_passDay_37 n M3 y4

def fX7_passDay (M : mm_M) : Option (mm_M) :=
  bn (fX7_checkAll M) fun M2 =>
  bn (fX7_beginDay M2) fun M4 =>
  bn (fX7_drawAll M4) fun M6 =>
  bn (fX7_cookAll M6) fun M8 =>
  bn (fX7_swapAll M8) fun M10 =>
  bn (fX7_trade M10) fun M12 =>
  lt (sI M12 732 10 ((M12.1 732 10) + 1)) fun M13 =>
  fX7_passDay_37 FU M13 0

def fX7_tryDays_20 (x1 : Int32) (x2 : Bool) : Nat → mm_M → Int32 → Option (Int32 × mm_M)
  | 0, _, _ => none
  | n + 1, M, v3 =>
    if x1 ≤ v3 then
      some ((M.1 732 10), M)
    else
      bn (fX7_passDay M) fun M3 =>
      lt (v3 + 1) fun y4 =>
      fX7_tryDays_20 x1 x2 n M3 y4

def fX7_tryDays (M : mm_M) (x1 : Int32) (x2 : Bool) : Option (Int32 × mm_M) :=
  bn (fX7_in M x1 1 60) fun r2 =>
  if r2 = true then
    bn (fX7_keepIf M x2) fun M5 =>
    fX7_tryDays_20 x1 x2 FU M5 0
  else
    some ((-2), M)

def fX7_days (M : mm_M) (x1 : Int32) : Option (Int32 × mm_M) :=
  bn2 (fX7_tryDays M x1 true) fun r2 M3 =>
  some (r2, M3)

def fX7_ofCart_88 (x1 : Int32) (x2 : Int32) (M : mm_M) : Option (Int32) :=
  bn (fX7_of M x1 x2) fun r2 =>
  some r2

def fX7_ofCart_95 (x1 : Int32) (x2 : Int32) (M : mm_M) : Option (Int32) :=
  bn (fX7_of M x1 2) fun r2 =>
  if r2 ≤ (x2 - 3) then
    some (-6)
  else
    bn (fX7_of M x1 x2) fun r5 =>
    some r5

def fX7_ofCart_119 (x1 : Int32) (x2 : Int32) (M : mm_M) : Option (Int32) :=
  bn (fX7_of M x1 x2) fun r2 =>
  some r2

def fX7_ofCart (M : mm_M) (x1 : Int32) (x2 : Int32) : Option (Int32) :=
  bn (fX7_isCart M x1) fun r2 =>
  if r2 = true then
    if x2 = 0 then
      fX7_ofCart_88 x1 x2 M
    else if x2 = 1 then
      fX7_ofCart_88 x1 x2 M
    else if x2 = 2 then
      fX7_ofCart_88 x1 x2 M
    else if x2 = 3 then
      fX7_ofCart_95 x1 x2 M
    else if x2 = 4 then
      fX7_ofCart_95 x1 x2 M
    else if x2 = 5 then
      fX7_ofCart_95 x1 x2 M
    else if x2 = 6 then
      fX7_ofCart_119 x1 x2 M
    else if x2 = 7 then
      fX7_ofCart_119 x1 x2 M
    else if x2 = 8 then
      fX7_ofCart_119 x1 x2 M
    else if x2 = 9 then
      bn (fX7_pointsAt M x1 (M.1 732 10)) fun r15 =>
      some r15
    else if x2 = 10 then
      bn (fX7_of M x1 9) fun r18 =>
      some r18
    else if x2 = 11 then
      bn (fX7_of M x1 10) fun r21 =>
      some r21
    else if x2 = 12 then
      bn (fX7_of M x1 11) fun r24 =>
      some r24
    else if x2 = 13 then
      bn (fX7_of M x1 12) fun r27 =>
      some r27
    else if x2 = 14 then
      bn (fX7_of M x1 13) fun r30 =>
      some r30
    else if x2 = 15 then
      bn (fX7_of M x1 14) fun r33 =>
      some r33
    else 
      some (-2)
  else
    some (-1)

def fX7_money (M : mm_M) (x1 : Int32) (x2 : Int32) : Option (Int64) :=
  bn (fX7_isCart M x1) fun r2 =>
  if r2 = true then
    if x2 = 0 then
      bn (fX7_balance M x1) fun r11 =>
      some (r11.toInt64)
    else
      bn (fX7_in M x2 1 4) fun r6 =>
      if r6 = true then
        bn (fX7_of M x1 ((15 + x2) - 1)) fun r9 =>
        some (r9.toInt64)
      else
        some ((-2) : Int64)
  else
    some ((-1) : Int64)

def fX7_ofPitch (M : mm_M) (x1 : Int32) (x2 : Int32) : Option (Int32) :=
  bn (fX7_isPitch M x1) fun r2 =>
  if r2 = true then
    bn (fX7_in M x2 0 3) fun r5 =>
    if r5 = true then
      bn (fX7_ofP M x1 x2) fun r8 =>
      some r8
    else
      some (-2)
  else
    some (-1)

def fX7_atPitches_4 (M : mm_M) : Nat → Int32 → Int32 → Option (Int32)
  | 0, _, _ => none
  | n + 1, v1, v2 =>
    if (M.1 732 13) ≤ v2 then
      some v1
    else
      bn (fX7_of M v2 11) fun r3 =>
      if r3 < 0 then
        lt (v1 + 0) fun y5 =>
        lt (v2 + 1) fun y6 =>
        fX7_atPitches_4 M n y5 y6
      else
        lt (v1 + 1) fun y7 =>
        lt (v2 + 1) fun y8 =>
        fX7_atPitches_4 M n y7 y8

def fX7_atPitches (M : mm_M) : Option (Int32) :=
  fX7_atPitches_4 M FU 0 0

def fX7_count (M : mm_M) (x1 : Int32) : Option (Int32) :=
  bn (fX7_in M x1 8 17) fun r2 =>
  if r2 = true then
    gd (¬ ((x1 - 8) < 0 ∨ 3592 ≤ (x1 - 8).toNatClampNeg)) <|
    some (M.1 732 (x1 - 8).toNatClampNeg)
  else
    if x1 = 0 then
      some (M.1 732 10)
    else if x1 = 1 then
      some (M.1 732 13)
    else if x1 = 2 then
      some (M.1 732 12)
    else if x1 = 3 then
      some (M.1 732 11)
    else if x1 = 4 then
      bn (fX7_waiting M) fun r10 =>
      some r10
    else if x1 = 5 then
      some (M.1 732 14)
    else if x1 = 6 then
      some (M.1 731 7)
    else if x1 = 7 then
      some (M.1 731 2)
    else if x1 = 8 then
      some (-2)
    else if x1 = 9 then
      some (-2)
    else if x1 = 10 then
      some (-2)
    else if x1 = 11 then
      some (-2)
    else if x1 = 12 then
      some (-2)
    else if x1 = 13 then
      some (-2)
    else if x1 = 14 then
      some (-2)
    else if x1 = 15 then
      some (-2)
    else if x1 = 16 then
      some (-2)
    else if x1 = 17 then
      some (-2)
    else if x1 = 18 then
      bn (fX7_atPitches M) fun r26 =>
      some r26
    else if x1 = 19 then
      some (M.1 732 15)
    else 
      some (-2)

def fX7_pointsOn (M : mm_M) (x1 : Int32) (x2 : Int32) : Option (Int32) :=
  bn (fX7_isCart M x1) fun r2 =>
  if r2 = true then
    bn (fX7_in M x2 (M.1 732 10) ((M.1 732 10) + 400)) fun r5 =>
    if r5 = true then
      bn (fX7_pointsAt M x1 x2) fun r8 =>
      some r8
    else
      some (-2)
  else
    some (-1)

def fX7_wouldHave (M : mm_M) (x1 : Int32) : Option (Int32 × mm_M) :=
  bn (fX7_isCart M x1) fun r2 =>
  if r2 = true then
    bn (fX7_layAside M) fun M5 =>
    bn (fX7_passDay M5) fun M7 =>
    bn (fX7_of M7 x1 11) fun r9 =>
    bn (fX7_layBack M7) fun M11 =>
    some (r9, M11)
  else
    some ((-1), M)

def fX7_ifWished (M : mm_M) (x1 : Int32) (x2 : Int32) : Option (Int32 × mm_M) :=
  bn (fX7_isCart M x1) fun r2 =>
  if r2 = true then
    bn (fX7_isPitch M x2) fun r5 =>
    if r5 = true then
      bn (fX7_layAside M) fun M8 =>
      bn (fX7_lay M8 x1 2 1) fun M10 =>
      bn (fX7_lay M10 x1 3 x2) fun M12 =>
      bn (fX7_passDay M12) fun M14 =>
      bn (fX7_of M14 x1 11) fun r16 =>
      bn (fX7_layBack M14) fun M18 =>
      some (r16, M18)
    else
      some ((-1), M)
  else
    some ((-1), M)

def fX7_firstDay_56 (x1 : Int32) (M : mm_M) (v2 : Int32) : Option (Int32 × mm_M) :=
  bn (fX7_layBack M) fun M2 =>
  some (v2, M2)

def fX7_firstDay_19 (x1 : Int32) : Nat → mm_M → Int32 → Int32 → Option (Int32 × mm_M)
  | 0, _, _, _ => none
  | n + 1, M, v2, v3 =>
    if 60 ≤ v3 then
      fX7_firstDay_56 x1 M v2
    else
      if 0 ≤ v2 then
        fX7_firstDay_56 x1 M v2
      else
        bn (fX7_passDay M) fun M4 =>
        bn (fX7_of M4 x1 11) fun r6 =>
        if r6 < 0 then
          lt (v3 + 1) fun y8 =>
          fX7_firstDay_19 x1 n M4 (-6) y8
        else
          lt (v3 + 1) fun y9 =>
          fX7_firstDay_19 x1 n M4 v3 y9

def fX7_firstDay (M : mm_M) (x1 : Int32) : Option (Int32 × mm_M) :=
  bn (fX7_isCart M x1) fun r2 =>
  if r2 = true then
    bn (fX7_layAside M) fun M5 =>
    fX7_firstDay_19 x1 FU M5 (-6) 0
  else
    some ((-1), M)

def fX7_daysOf_38 (x1 : Int32) (x2 : Int32) : Nat → mm_M → Int32 → Int32 → Option (Int32 × mm_M)
  | 0, _, _, _ => none
  | n + 1, M, v3, v4 =>
    if x2 ≤ v4 then
      bn (fX7_of M x1 10) fun r3 =>
      lt (r3 - v3) fun y4 =>
      bn (fX7_layBack M) fun M6 =>
      some (y4, M6)
    else
      bn (fX7_passDay M) fun M8 =>
      lt (v4 + 1) fun y9 =>
      fX7_daysOf_38 x1 x2 n M8 v3 y9

def fX7_daysOf (M : mm_M) (x1 : Int32) (x2 : Int32) : Option (Int32 × mm_M) :=
  bn (fX7_isCart M x1) fun r2 =>
  if r2 = true then
    bn (fX7_in M x2 1 60) fun r5 =>
    if r5 = true then
      bn (fX7_layAside M) fun M8 =>
      bn (fX7_of M8 x1 10) fun r10 =>
      fX7_daysOf_38 x1 x2 FU M8 r10 0
    else
      some ((-2), M)
  else
    some ((-1), M)

def fX7_luckySeed_84 (x1 : Int32) (x2 : Int32) (k28 : mm_M → Int32 → Int32 → Option (Int32 × mm_M)) (M : mm_M) (v4 : Int32) (t0 : Int32) : Option (Int32 × mm_M) :=
  bn (fX7_layBack M) fun M2 =>
  lt (v4 + 1) fun y3 =>
  k28 M2 t0 y3

def fX7_luckySeed_77 (x1 : Int32) (x2 : Int32) (k28 : mm_M → Int32 → Int32 → Option (Int32 × mm_M)) (M : mm_M) (v4 : Int32) : Option (Int32 × mm_M) :=
  fX7_luckySeed_84 x1 x2 k28 M v4 v4

def fX7_luckySeed_82 (x1 : Int32) (x2 : Int32) (k28 : mm_M → Int32 → Int32 → Option (Int32 × mm_M)) (M : mm_M) (v4 : Int32) : Option (Int32 × mm_M) :=
  fX7_luckySeed_84 x1 x2 k28 M v4 (-6)

def fX7_luckySeed_28 (x1 : Int32) (x2 : Int32) : Nat → mm_M → Int32 → Int32 → Option (Int32 × mm_M)
  | 0, _, _, _ => none
  | n + 1, M, v3, v4 =>
    if 200 ≤ v4 then
      some (v3, M)
    else
      if 0 ≤ v3 then
        some (v3, M)
      else
        lt (sI M 732 11 v4) fun M3 =>
        bn (fX7_passDay M3) fun M5 =>
        bn (fX7_of M5 x1 11) fun r7 =>
        if r7 < 0 then
          fX7_luckySeed_82 x1 x2 (fX7_luckySeed_28 x1 x2 n) M5 v4
        else
          if x2 < 0 then
            fX7_luckySeed_77 x1 x2 (fX7_luckySeed_28 x1 x2 n) M5 v4
          else
            if r7 = x2 then
              fX7_luckySeed_77 x1 x2 (fX7_luckySeed_28 x1 x2 n) M5 v4
            else
              fX7_luckySeed_82 x1 x2 (fX7_luckySeed_28 x1 x2 n) M5 v4

def fX7_luckySeed (M : mm_M) (x1 : Int32) (x2 : Int32) : Option (Int32 × mm_M) :=
  bn (fX7_isCart M x1) fun r2 =>
  if r2 = true then
    bn (fX7_isNumber M x2) fun r5 =>
    if r5 = true then
      bn (fX7_layAside M) fun M8 =>
      fX7_luckySeed_28 x1 x2 FU M8 (-6) 0
    else
      some ((-1), M)
  else
    some ((-1), M)

def fX7_whyNot_38 (x1 : Int32) (x2 : Int32) (M : mm_M) : Option (Int32) :=
  bn (fX7_isApart M x1 x2) fun r2 =>
  if r2 = true then
    some 0
  else
    some 2

def fX7_whyNot (M : mm_M) (x1 : Int32) (x2 : Int32) : Option (Int32) :=
  bn (fX7_isCart M x1) fun r2 =>
  if r2 = true then
    bn (fX7_isPitch M x2) fun r5 =>
    if r5 = true then
      bn (fX7_ofP M x2 3) fun r8 =>
      if r8 < 0 then
        fX7_whyNot_38 x1 x2 M
      else
        if r8 = x1 then
          fX7_whyNot_38 x1 x2 M
        else
          some 1
    else
      some (-1)
  else
    some (-1)

def fX7_put__86 (x1 : Int64) : Nat → mm_M → Int32 → Int32 → Option (Int32 × mm_M)
  | 0, _, _, _ => none
  | n + 1, M, v3, v6 =>
    if v3 ≤ v6 then
      lt (sI M 731 7 ((M.1 731 7) + v3)) fun M2 =>
      some ((M2.1 731 7), M2)
    else
      gd (¬ (((M.1 731 7) + v6) < 0 ∨ 80 ≤ ((M.1 731 7) + v6).toNatClampNeg)) <|
      lt (sI M 737 ((M.1 731 7) + v6).toNatClampNeg (((x1 >>> ((8 * ((v3 - 1) - v6)).toInt64 &&& 63)) &&& (255 : Int64)).toInt32)) fun M4 =>
      lt (v6 + 1) fun y5 =>
      fX7_put__86 x1 n M4 v3 y5

def fX7_put__55 (x1 : Int64) (M : mm_M) (v3 : Int32) (v4 : Int64) : Option (Int32 × mm_M) :=
  if v3 = 0 then
    some ((-2), M)
  else
    if (lg_cmp v4 (0 : Int64)) = 0 then
      if ((M.1 731 7) + v3) ≤ 80 then
        fX7_put__86 x1 FU M v3 0
      else
        some ((-4), M)
    else
      some ((-2), M)

def fX7_put__5 (x1 : Int64) : Nat → mm_M → Int32 → Int64 → Option (Int32 × mm_M)
  | 0, _, _, _ => none
  | n + 1, M, v3, v4 =>
    if 8 ≤ v3 then
      fX7_put__55 x1 M v3 v4
    else
      if (lg_cmp (v4 &&& (255 : Int64)) (0 : Int64)) = 0 then
        fX7_put__55 x1 M v3 v4
      else
        bn (fX7_in M ((v4 &&& (255 : Int64)).toInt32) 33 126) fun r4 =>
        if r4 = true then
          lt (v3 + 1) fun y6 =>
          lt ((v4.toUInt64 >>> ((8 : Int32).toInt64.toUInt64 &&& Int64.toUInt64 63)).toInt64) fun y7 =>
          fX7_put__5 x1 n M y6 y7
        else
          some ((-2), M)

def fX7_put_ (M : mm_M) (x1 : Int64) : Option (Int32 × mm_M) :=
  fX7_put__5 x1 FU M 0 x1

def fX7_wipe (M : mm_M) : Option (Int32 × mm_M) :=
  lt (M.1 731 7) fun y1 =>
  lt (sI M 731 7 0) fun M2 =>
  some (y1, M2)

def fX7_next (M : mm_M) : Option (Int32) :=
  if (M.1 731 7) ≤ (M.1 731 10) then
    some 0
  else
    gd (¬ ((M.1 731 10) < 0 ∨ 80 ≤ (M.1 731 10).toNatClampNeg)) <|
    some (M.1 737 (M.1 731 10).toNatClampNeg)

def fX7_takeOne_25 (x1 : Int32) (x2 : Int32) (x3 : Int32) (M : mm_M) (t1 : Bool) : Option (mm_M) :=
  lt (sI M 731 11 (b2i t1)) fun M1 =>
  if (M1.1 731 11) = 0 then
    bn (fX7_next M1) fun r4 =>
    gd (¬ (((4 * (M1.1 731 12)) + x1) < 0 ∨ 116 ≤ ((4 * (M1.1 731 12)) + x1).toNatClampNeg)) <|
    lt (sI M1 739 ((4 * (M1.1 731 12)) + x1).toNatClampNeg (r4 - x2)) fun M6 =>
    lt (sI M6 731 10 ((M6.1 731 10) + 1)) fun M7 =>
    some M7
  else
    some M1

def fX7_takeOne_20 (x1 : Int32) (x2 : Int32) (x3 : Int32) (M : mm_M) : Option (mm_M) :=
  fX7_takeOne_25 x1 x2 x3 M true

def fX7_takeOne (M : mm_M) (x1 : Int32) (x2 : Int32) (x3 : Int32) : Option (mm_M) :=
  if (M.1 731 11) = 0 then
    bn (fX7_next M) fun r3 =>
    bn (fX7_in M r3 x2 x3) fun r5 =>
    if r5 = true then
      fX7_takeOne_25 x1 x2 x3 M false
    else
      fX7_takeOne_20 x1 x2 x3 M
  else
    fX7_takeOne_20 x1 x2 x3 M

def fX7_takeNumber (M : mm_M) : Option (mm_M) :=
  bn (fX7_takeOne M 0 48 57) fun M2 =>
  lt (4 * (M2.1 731 12)) fun y3 =>
  if (M2.1 731 11) = 0 then
    gd (¬ (y3 < 0 ∨ 116 ≤ y3.toNatClampNeg)) <|
    if (M2.1 739 y3.toNatClampNeg) ≤ 0 then
      some M2
    else
      bn (fX7_next M2) fun r8 =>
      bn (fX7_in M2 r8 48 57) fun r10 =>
      if r10 = true then
        bn (fX7_next M2) fun r13 =>
        lt (sI M2 739 y3.toNatClampNeg (((10 * (M2.1 739 y3.toNatClampNeg)) + r13) - 48)) fun M14 =>
        lt (sI M14 731 10 ((M14.1 731 10) + 1)) fun M15 =>
        bn (fX7_next M15) fun r17 =>
        bn (fX7_in M15 r17 48 57) fun r19 =>
        lt (sI M15 731 11 (b2i r19)) fun M20 =>
        some M20
      else
        some M2
  else
    some M2

def fX7_takeWishes_11  : Nat → mm_M → Int32 → Option (mm_M)
  | 0, _, _ => none
  | n + 1, M, v1 =>
    if 3 < v1 then
      some M
    else
      gd (¬ (((4 * (M.1 731 12)) + v1) < 0 ∨ 116 ≤ ((4 * (M.1 731 12)) + v1).toNatClampNeg)) <|
      lt (sI M 739 ((4 * (M.1 731 12)) + v1).toNatClampNeg (-6)) fun M3 =>
      if (M3.1 731 11) = 0 then
        bn (fX7_next M3) fun r7 =>
        bn (fX7_in M3 r7 48 57) fun r9 =>
        if r9 = true then
          bn (fX7_takeOne M3 v1 48 57) fun M13 =>
          lt (v1 + 1) fun y14 =>
          fX7_takeWishes_11 n M13 y14
        else
          lt (v1 + 1) fun y11 =>
          fX7_takeWishes_11 n M3 y11
      else
        lt (v1 + 1) fun y5 =>
        fX7_takeWishes_11 n M3 y5

def fX7_takeWishes (M : mm_M) : Option (mm_M) :=
  bn (fX7_takeOne M 0 65 80) fun M2 =>
  fX7_takeWishes_11 FU M2 1

def fX7_takeOrder_151 (M : mm_M) (v1 : Int32) : Option (mm_M) :=
  if (M.1 731 11) = 0 then
    gd (¬ ((M.1 731 12) < 0 ∨ 29 ≤ (M.1 731 12).toNatClampNeg)) <|
    lt (sI M 738 (M.1 731 12).toNatClampNeg v1) fun M3 =>
    lt (sI M3 731 12 ((M3.1 731 12) + 1)) fun M4 =>
    some M4
  else
    some M

def fX7_takeOrder (M : mm_M) : Option (mm_M) :=
  bn (fX7_next M) fun r2 =>
  lt (sI M 731 10 ((M.1 731 10) + 1)) fun M3 =>
  if r2 = 99 then
    bn (fX7_takeOne M3 0 65 80) fun M6 =>
    fX7_takeOrder_151 M6 r2
  else if r2 = 100 then
    bn (fX7_takeNumber M3) fun M9 =>
    fX7_takeOrder_151 M9 r2
  else if r2 = 102 then
    bn (fX7_takeOne M3 0 65 80) fun M12 =>
    bn (fX7_takeOne M12 1 49 57) fun M14 =>
    fX7_takeOrder_151 M14 r2
  else if r2 = 115 then
    bn (fX7_takeOne M3 0 65 80) fun M17 =>
    bn (fX7_takeOne M17 1 65 80) fun M19 =>
    fX7_takeOrder_151 M19 r2
  else if r2 = 119 then
    bn (fX7_takeWishes M3) fun M22 =>
    fX7_takeOrder_151 M22 r2
  else 
    lt (sI M3 731 10 ((M3.1 731 10) - 1)) fun M23 =>
    lt (sI M23 731 11 1) fun M24 =>
    fX7_takeOrder_151 M24 r2

def fX7_fault_52 (k19 : mm_M → Option (Int32 × mm_M)) (M : mm_M) (t1 : Bool) : Option (Int32 × mm_M) :=
  lt (sI M 731 11 (b2i t1)) fun M1 =>
  if (M1.1 731 11) = 0 then
    lt (sI M1 731 10 ((M1.1 731 10) + 1)) fun M3 =>
    bn (fX7_takeOrder M3) fun M5 =>
    k19 M5
  else
    k19 M1

def fX7_fault_79 (M : mm_M) : Option (Int32 × mm_M) :=
  if (M.1 731 11) = 0 then
    some ((-6), M)
  else
    some ((M.1 731 10), M)

def fX7_fault_19  : Nat → mm_M → Option (Int32 × mm_M)
  | 0, _ => none
  | n + 1, M =>
    if (M.1 731 11) = 0 then
      if (M.1 731 7) ≤ (M.1 731 10) then
        fX7_fault_79 M
      else
        bn (fX7_next M) fun r4 =>
        if r4 = 59 then
          fX7_fault_52 (fX7_fault_19 n) M false
        else
          fX7_fault_52 (fX7_fault_19 n) M true
    else
      fX7_fault_79 M

def fX7_fault (M : mm_M) : Option (Int32 × mm_M) :=
  lt (sI M 731 10 0) fun M1 =>
  lt (sI M1 731 11 0) fun M2 =>
  lt (sI M2 731 12 0) fun M3 =>
  bn (fX7_takeOrder M3) fun M5 =>
  fX7_fault_19 FU M5

def fX7_carry (M : mm_M) (x1 : Int32) : Option (Int32 × mm_M) :=
  lt (4 * x1) fun y1 =>
  gd (¬ (x1 < 0 ∨ 29 ≤ x1.toNatClampNeg)) <|
  if (M.1 738 x1.toNatClampNeg) = 99 then
    gd (¬ (y1 < 0 ∨ 116 ≤ y1.toNatClampNeg)) <|
    bn2 (fX7_tryCheck M (M.1 739 y1.toNatClampNeg) false) fun r6 M7 =>
    some (r6, M7)
  else if (M.1 738 x1.toNatClampNeg) = 102 then
    gd (¬ (y1 < 0 ∨ 116 ≤ y1.toNatClampNeg)) <|
    gd (¬ ((y1 + 1) < 0 ∨ 116 ≤ (y1 + 1).toNatClampNeg)) <|
    bn2 (fX7_tryFine M (M.1 739 y1.toNatClampNeg) (1 + (M.1 739 (y1 + 1).toNatClampNeg)) false) fun r12 M13 =>
    some (r12, M13)
  else if (M.1 738 x1.toNatClampNeg) = 115 then
    gd (¬ (y1 < 0 ∨ 116 ≤ y1.toNatClampNeg)) <|
    gd (¬ ((y1 + 1) < 0 ∨ 116 ≤ (y1 + 1).toNatClampNeg)) <|
    bn2 (fX7_trySwap M (M.1 739 y1.toNatClampNeg) (M.1 739 (y1 + 1).toNatClampNeg) false) fun r18 M19 =>
    some (r18, M19)
  else if (M.1 738 x1.toNatClampNeg) = 119 then
    gd (¬ (y1 < 0 ∨ 116 ≤ y1.toNatClampNeg)) <|
    gd (¬ ((y1 + 1) < 0 ∨ 116 ≤ (y1 + 1).toNatClampNeg)) <|
    gd (¬ ((y1 + 2) < 0 ∨ 116 ≤ (y1 + 2).toNatClampNeg)) <|
    gd (¬ ((y1 + 3) < 0 ∨ 116 ≤ (y1 + 3).toNatClampNeg)) <|
    bn2 (fX7_tryWish M (M.1 739 y1.toNatClampNeg) (M.1 739 (y1 + 1).toNatClampNeg) (M.1 739 (y1 + 2).toNatClampNeg) (M.1 739 (y1 + 3).toNatClampNeg) false) fun r26 M27 =>
    some (r26, M27)
  else 
    gd (¬ (y1 < 0 ∨ 116 ≤ y1.toNatClampNeg)) <|
    bn2 (fX7_tryDays M (M.1 739 y1.toNatClampNeg) false) fun r30 M31 =>
    some (r30, M31)

def fX7_carryOut_16  : Nat → mm_M → Int32 → Option (Int32 × mm_M)
  | 0, _, _ => none
  | n + 1, M, v1 =>
    if (M.1 731 12) ≤ v1 then
      lt (sI M 731 7 0) fun M2 =>
      some (v1, M2)
    else
      bn2 (fX7_carry M v1) fun r4 M5 =>
      if r4 < 0 then
        lt (sI M5 731 7 0) fun M7 =>
        some (v1, M7)
      else
        lt (v1 + 1) fun y8 =>
        fX7_carryOut_16 n M5 y8

def fX7_carryOut (M : mm_M) : Option (Int32 × mm_M) :=
  bn2 (fX7_fault M) fun r2 M3 =>
  if r2 < 0 then
    bn (fX7_keep M3) fun M6 =>
    fX7_carryOut_16 FU M6 0
  else
    some ((-3), M3)

def fX7_undo_22  : Nat → mm_M → Int32 → Option (Int32 × mm_M)
  | 0, _, _ => none
  | n + 1, M, v1 =>
    if 3592 ≤ v1 then
      some ((M.1 731 2), M)
    else
      gd (¬ (((3592 * (M.1 731 2)) + v1) < 0 ∨ 21552 ≤ ((3592 * (M.1 731 2)) + v1).toNatClampNeg)) <|
      gd (¬ (v1 < 0 ∨ 3592 ≤ v1.toNatClampNeg)) <|
      lt (sI M 732 v1.toNatClampNeg (M.1 733 ((3592 * (M.1 731 2)) + v1).toNatClampNeg)) fun M4 =>
      lt (v1 + 1) fun y5 =>
      fX7_undo_22 n M4 y5

def fX7_undo (M : mm_M) : Option (Int32 × mm_M) :=
  if (M.1 731 2) = 0 then
    some ((-5), M)
  else
    lt (sI M 731 2 ((M.1 731 2) - 1)) fun M2 =>
    fX7_undo_22 FU M2 0

def fX7_save_14 (x1 : Int32) : Nat → mm_M → Int32 → Option (Int32 × mm_M)
  | 0, _, _ => none
  | n + 1, M, v2 =>
    if 3592 ≤ v2 then
      gd (¬ (x1 < 0 ∨ 2 ≤ x1.toNatClampNeg)) <|
      lt (sI M 735 x1.toNatClampNeg 1) fun M3 =>
      some ((M3.1 732 10), M3)
    else
      gd (¬ (v2 < 0 ∨ 3592 ≤ v2.toNatClampNeg)) <|
      gd (¬ (((3592 * x1) + v2) < 0 ∨ 7184 ≤ ((3592 * x1) + v2).toNatClampNeg)) <|
      lt (sI M 734 ((3592 * x1) + v2).toNatClampNeg (M.1 732 v2.toNatClampNeg)) fun M6 =>
      lt (v2 + 1) fun y7 =>
      fX7_save_14 x1 n M6 y7

def fX7_save (M : mm_M) (x1 : Int32) : Option (Int32 × mm_M) :=
  bn (fX7_in M x1 0 1) fun r2 =>
  if r2 = true then
    fX7_save_14 x1 FU M 0
  else
    some ((-2), M)

def fX7_restore_30 (x1 : Int32) : Nat → mm_M → Int32 → Option (Int32 × mm_M)
  | 0, _, _ => none
  | n + 1, M, v2 =>
    if 3592 ≤ v2 then
      some ((M.1 732 10), M)
    else
      gd (¬ (((3592 * x1) + v2) < 0 ∨ 7184 ≤ ((3592 * x1) + v2).toNatClampNeg)) <|
      gd (¬ (v2 < 0 ∨ 3592 ≤ v2.toNatClampNeg)) <|
      lt (sI M 732 v2.toNatClampNeg (M.1 734 ((3592 * x1) + v2).toNatClampNeg)) fun M4 =>
      lt (v2 + 1) fun y5 =>
      fX7_restore_30 x1 n M4 y5

def fX7_restore (M : mm_M) (x1 : Int32) : Option (Int32 × mm_M) :=
  bn (fX7_in M x1 0 1) fun r2 =>
  if r2 = true then
    gd (¬ (x1 < 0 ∨ 2 ≤ x1.toNatClampNeg)) <|
    if (M.1 735 x1.toNatClampNeg) = 0 then
      some ((-5), M)
    else
      bn (fX7_keep M) fun M7 =>
      fX7_restore_30 x1 FU M7 0
  else
    some ((-2), M)
