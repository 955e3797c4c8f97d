def f_jL_bitCount (h0 : AH) (p1 : Int64) : Option (Int32) :=
  (some ((p1 - ((xlushr p1 (1 : Int32)) &&& (6148914691236517205 : Int64))))).bind fun x1 =>
  (some (((x1 &&& (3689348814741910323 : Int64)) + ((xlushr x1 (2 : Int32)) &&& (3689348814741910323 : Int64))))).bind fun x2 =>
  (some (((x2 + (xlushr x2 (4 : Int32))) &&& (1085102592571150095 : Int64)))).bind fun x3 =>
  (some ((x3 + (xlushr x3 (8 : Int32))))).bind fun x4 =>
  (some ((x4 + (xlushr x4 (16 : Int32))))).bind fun x5 =>
  (some ((x5 + (xlushr x5 (32 : Int32))))).bind fun x6 =>
  some ((((x6).toInt32) &&& (127 : Int32)))
def f_Wo_size_L4 (h0 : AH) (y0 : Nat) : Nat → Int32 → Int32 → Option (Int32)
  | 0, _, _ => none
  | n + 1, z1, z2 =>
    if z2 < (64 : Int32) then
      (gR 11 h0 y0 0).bind fun r1 =>
      (r1).bind fun a2 =>
      (rJ h0 a2 z2).bind fun x3 =>
      (f_jL_bitCount h0 x3).bind fun x4 =>
      (some ((z1 + x4))).bind fun x5 =>
      f_Wo_size_L4 h0 y0 n x5 (z2 + (1 : Int32))
    else
      some (z1)
def f_Wo_size (h0 : AH) (o : Nat) : Option (Int32) :=
  f_Wo_size_L4 h0 o FU (0 : Int32) (0 : Int32)
def f_C_worlds (h0 : AH) (o : Nat) (p1 : Int32) : Option (Int32) :=
  if p1 < (0 : Int32) then
    some ((-101 : Int32))
  else
    (gR 0 h0 o 10).bind fun r1 =>
    (r1).bind fun a2 =>
    (gI 6 h0 a2 1).bind fun x3 =>
    if x3 < p1 then
      some ((-101 : Int32))
    else
      (gR 0 h0 o 10).bind fun r4 =>
      (r4).bind fun a5 =>
      (gR 6 h0 a5 0).bind fun r6 =>
      (r6).bind fun a7 =>
      (rR 11 h0 a7 p1).bind fun r8 =>
      (r8).bind fun a9 =>
      (cv 11 h0 a9 (f_Wo_size h0 a9)).bind fun x10 =>
      some (x10)
def f_Lo_last (h0 : AH) (o : Nat) : Option (Option Nat) :=
  (gR 6 h0 o 0).bind fun r1 =>
  (gI 6 h0 o 1).bind fun x2 =>
  (r1).bind fun a3 =>
  (rR 11 h0 a3 x2).bind fun r4 =>
  some (r4)
def f_Wo_heldInAll_L14 {ρ : Type} (h0 : AH) (y0 : Nat) (y2 : Int32) (k : Int32 → Option (ρ)) : Nat → Int32 → Int32 → Option (ρ)
  | 0, _, _ => none
  | n + 1, z1, z3 =>
    if z3 < (64 : Int32) then
      (gR 11 h0 y0 0).bind fun r1 =>
      (r1).bind fun a2 =>
      (rJ h0 a2 z3).bind fun x3 =>
      (f_Wo_holders h0 z3 y2).bind fun x4 =>
      (
        if (lg_cmp (x3 &&& (x4 ^^^ (-1 : Int64))) (0 : Int64)) = (0 : Int32) then
          some ((4095 : Int32))
        else
          some ((((1 : Int32) <<< (y2 &&& 31)) ^^^ (-1 : Int32)))
      ).bind fun x5 =>
      (some ((z1 &&& x5))).bind fun x6 =>
      f_Wo_heldInAll_L14 h0 y0 y2 k n x6 (z3 + (1 : Int32))
    else
      k z1
def f_Wo_heldInAll_L6 (h0 : AH) (y0 : Nat) : Nat → Int32 → Int32 → Option (Int32)
  | 0, _, _ => none
  | n + 1, z1, z2 =>
    if z2 < (12 : Int32) then
      f_Wo_heldInAll_L14 h0 y0 z2 (fun x7 =>
        f_Wo_heldInAll_L6 h0 y0 n x7 (z2 + (1 : Int32))
      ) FU z1 (0 : Int32)
    else
      some (z1)
def f_Wo_heldInAll (h0 : AH) (o : Nat) : Option (Int32) :=
  f_Wo_heldInAll_L6 h0 o FU (4095 : Int32) (0 : Int32)
def f_Wo_heldInSome_L12 {ρ : Type} (h0 : AH) (y0 : Nat) (y2 : Int32) (k : Int32 → Option (ρ)) : Nat → Int32 → Int32 → Option (ρ)
  | 0, _, _ => none
  | n + 1, z1, z3 =>
    if z3 < (64 : Int32) then
      (gR 11 h0 y0 0).bind fun r1 =>
      (r1).bind fun a2 =>
      (rJ h0 a2 z3).bind fun x3 =>
      (f_Wo_holders h0 z3 y2).bind fun x4 =>
      (
        if (lg_cmp (x3 &&& x4) (0 : Int64)) = (0 : Int32) then
          some ((0 : Int32))
        else
          some (((1 : Int32) <<< (y2 &&& 31)))
      ).bind fun x5 =>
      (some ((z1 ||| x5))).bind fun x6 =>
      f_Wo_heldInSome_L12 h0 y0 y2 k n x6 (z3 + (1 : Int32))
    else
      k z1
def f_Wo_heldInSome_L4 (h0 : AH) (y0 : Nat) : Nat → Int32 → Int32 → Option (Int32)
  | 0, _, _ => none
  | n + 1, z1, z2 =>
    if z2 < (12 : Int32) then
      f_Wo_heldInSome_L12 h0 y0 z2 (fun x7 =>
        f_Wo_heldInSome_L4 h0 y0 n x7 (z2 + (1 : Int32))
      ) FU z1 (0 : Int32)
    else
      some (z1)
def f_Wo_heldInSome (h0 : AH) (o : Nat) : Option (Int32) :=
  f_Wo_heldInSome_L4 h0 o FU (0 : Int32) (0 : Int32)
def f_C_held (h0 : AH) (o : Nat) (p1 : Int32) : Option (Int32) :=
  if p1 < (0 : Int32) then
    some ((-102 : Int32))
  else
    if (1 : Int32) < p1 then
      some ((-102 : Int32))
    else
      (gR 0 h0 o 10).bind fun r1 =>
      (r1).bind fun a2 =>
      (cv 6 h0 a2 (f_Lo_last h0 a2)).bind fun r3 =>
      (r3).bind fun a4 =>
      (cv 11 h0 a4 (f_Wo_size h0 a4)).bind fun x5 =>
      if x5 = (0 : Int32) then
        some ((-103 : Int32))
      else
        if p1 = (0 : Int32) then
          (cv 11 h0 a4 (f_Wo_heldInAll h0 a4)).bind fun x7 =>
          some (x7)
        else
          (cv 11 h0 a4 (f_Wo_heldInSome h0 a4)).bind fun x6 =>
          some (x6)
def f_Wo_bitNumbered_L5 {ρ : Type} (h0 : AH) (y2 : Int32) (k : Int64 → Option (ρ)) : Nat → Int64 → Int32 → Option (ρ)
  | 0, _, _ => none
  | n + 1, z3, z5 =>
    if z5 < y2 then
      (some ((z3 &&& (z3 - (1 : Int64))))).bind fun x1 =>
      f_Wo_bitNumbered_L5 h0 y2 k n x1 (z5 + (1 : Int32))
    else
      k z3
def f_Wo_bitNumbered (h0 : AH) (p1 : Int64) (p2 : Int32) : Option (Int32) :=
  f_Wo_bitNumbered_L5 h0 p2 (fun x2 =>
    (f_jL_bitCount h0 ((x2 &&& (-x2)) - (1 : Int64))).bind fun x3 =>
    some (x3)
  ) FU p1 (0 : Int32)
def f_Wo_numbered_L4 (h0 : AH) (y0 : Nat) (k : Int32 → Int32 → Option (Int32)) : Nat → Int32 → Int32 → Option (Int32)
  | 0, _, _ => none
  | n + 1, z2, z3 =>
    if z3 < (64 : Int32) then
      if z2 < (0 : Int32) then
        some ((-1 : Int32))
      else
        (gR 11 h0 y0 0).bind fun r1 =>
        (r1).bind fun a2 =>
        (rJ h0 a2 z3).bind fun x3 =>
        (f_jL_bitCount h0 x3).bind fun x4 =>
        if z2 < x4 then
          k z2 z3
        else
          (some ((z2 - x4))).bind fun x5 =>
          f_Wo_numbered_L4 h0 y0 k n x5 (z3 + (1 : Int32))
    else
      some ((-1 : Int32))
def f_Wo_numbered (h0 : AH) (o : Nat) (p1 : Int32) : Option (Int32) :=
  f_Wo_numbered_L4 h0 o (fun x6 x7 =>
    (gR 11 h0 o 0).bind fun r8 =>
    (r8).bind fun a9 =>
    (rJ h0 a9 x7).bind fun x10 =>
    (f_Wo_bitNumbered h0 x10 x6).bind fun x11 =>
    some (((x7 <<< ((6 : Int32) &&& 31)) ||| x11))
  ) FU p1 (0 : Int32)
def f_C_world (h0 : AH) (o : Nat) (p1 : Int32) : Option (Int32) :=
  (gR 0 h0 o 10).bind fun r1 =>
  (r1).bind fun a2 =>
  (cv 6 h0 a2 (f_Lo_last h0 a2)).bind fun r3 =>
  (r3).bind fun a4 =>
  (cv 11 h0 a4 (f_Wo_numbered h0 a4 p1)).bind fun x5 =>
  some (x5)
def f_C_broken_L2 (h0 : AH) (y0 : Nat) : Nat → Int32 → Option (Int32)
  | 0, _ => none
  | n + 1, z1 =>
    (gR 0 h0 y0 10).bind fun r1 =>
    (r1).bind fun a2 =>
    (gI 6 h0 a2 1).bind fun x3 =>
    if x3 < z1 then
      some ((0 : Int32))
    else
      (gR 0 h0 y0 10).bind fun r4 =>
      (r4).bind fun a5 =>
      (gR 6 h0 a5 0).bind fun r6 =>
      (r6).bind fun a7 =>
      (rR 11 h0 a7 z1).bind fun r8 =>
      (r8).bind fun a9 =>
      (cv 11 h0 a9 (f_Wo_size h0 a9)).bind fun x10 =>
      if x10 = (0 : Int32) then
        some (z1)
      else
        f_C_broken_L2 h0 y0 n (z1 + (1 : Int32))
def f_C_broken (h0 : AH) (o : Nat) : Option (Int32) :=
  f_C_broken_L2 h0 o FU (1 : Int32)
def f_C_again (h0 : AH) (o : Nat) (p1 : Int32) : Option (Int32) :=
  (gR 0 h0 o 8).bind fun r1 =>
  (r1).bind fun a2 =>
  (cv 8 h0 a2 (f_Ro_helperNumbered h0 a2 p1)).bind fun r3 =>
  onl r3 (
    some ((-101 : Int32))
  ) fun a4 =>
  (gR 0 h0 o 10).bind fun r5 =>
  (r5).bind fun a6 =>
  (cv 6 h0 a6 (f_Lo_last h0 a6)).bind fun r7 =>
  (r7).bind fun a8 =>
  (cv 11 h0 a8 (f_Wo_size h0 a8)).bind fun x9 =>
  if x9 = (0 : Int32) then
    some ((-103 : Int32))
  else
    (gR 4 h0 a4 0).bind fun r10 =>
    (r10).bind fun a11 =>
    (rI 1 h0 a11 (5 : Int32)).bind fun x12 =>
    (gR 4 h0 a4 0).bind fun r13 =>
    (r13).bind fun a14 =>
    (rI 1 h0 a14 (6 : Int32)).bind fun x15 =>
    (some ((x12 ||| x15))).bind fun x16 =>
    (gR 4 h0 a4 0).bind fun r17 =>
    (r17).bind fun a18 =>
    (rI 1 h0 a18 (7 : Int32)).bind fun x19 =>
    (gR 4 h0 a4 0).bind fun r20 =>
    (r20).bind fun a21 =>
    (rI 1 h0 a21 (6 : Int32)).bind fun x22 =>
    (some ((x19 &&& (x22 ^^^ (-1 : Int32))))).bind fun x23 =>
    (cv 11 h0 a8 (f_Wo_heldInAll h0 a8)).bind fun x24 =>
    if (x16 &&& (x24 ^^^ (-1 : Int32))) = (0 : Int32) then
      (cv 11 h0 a8 (f_Wo_heldInSome h0 a8)).bind fun x25 =>
      if (x23 &&& x25) = (0 : Int32) then
        some ((1 : Int32))
      else
        some ((0 : Int32))
    else
      some ((0 : Int32))
def f_C_count (h0 : AH) (o : Nat) (p1 : Int32) : Option (Int32) :=
  if p1 = (0 : Int32) then
    (gI 0 h0 o 2).bind fun x16 =>
    some (x16)
  else
  if p1 = (1 : Int32) then
    (gR 0 h0 o 0).bind fun r13 =>
    (r13).bind fun a14 =>
    (gI 7 h0 a14 1).bind fun x15 =>
    some (x15)
  else
  if p1 = (2 : Int32) then
    (gR 0 h0 o 8).bind fun r10 =>
    (r10).bind fun a11 =>
    (gI 8 h0 a11 1).bind fun x12 =>
    some (x12)
  else
  if p1 = (3 : Int32) then
    (gR 0 h0 o 10).bind fun r7 =>
    (r7).bind fun a8 =>
    (gI 6 h0 a8 1).bind fun x9 =>
    some (x9)
  else
  if p1 = (4 : Int32) then
    (gI 0 h0 o 6).bind fun x6 =>
    some (x6)
  else
  if p1 = (5 : Int32) then
    (gI 0 h0 o 7).bind fun x5 =>
    some (x5)
  else
  if p1 = (6 : Int32) then
    (gI 0 h0 o 9).bind fun x4 =>
    some (x4)
  else
  if p1 = (7 : Int32) then
    (gR 0 h0 o 8).bind fun r1 =>
    (r1).bind fun a2 =>
    (gI 8 h0 a2 4).bind fun x3 =>
    some (x3)
  else
  some ((-102 : Int32))
def f_C_mixed_L3 (h0 : AH) (y2 : Option Nat) (y3 : Int32) : Nat → Int64 → Int32 → Option (Int64)
  | 0, _, _ => none
  | n + 1, z0, z4 =>
    if z4 < y3 then
      (y2).bind fun a1 =>
      (alen 1 h0 a1).bind fun x2 =>
      if z4 < x2 then
        (rI 1 h0 a1 z4).bind fun x3 =>
        (some ((((31 : Int64) * z0) + ((x3).toInt64)))).bind fun x4 =>
        f_C_mixed_L3 h0 y2 y3 n x4 (z4 + (1 : Int32))
      else
        some (z0)
    else
      some (z0)
def f_C_mixed (h0 : AH) (p1 : Int64) (p2 : Option Nat) (p3 : Int32) : Option (Int64) :=
  f_C_mixed_L3 h0 p2 p3 FU p1 (0 : Int32)
def f_Ta_mixedInto_L46 {ρ : Type} (h0 : AH) (y0 : Nat) (y3 : Int32) (k : Int64 → Option (ρ)) : Nat → Int64 → Int32 → Option (ρ)
  | 0, _, _ => none
  | n + 1, z1, z4 =>
    if z4 < (16 : Int32) then
      (gR 9 h0 y0 2).bind fun r7 =>
      (r7).bind fun a8 =>
      (rI 1 h0 a8 ((y3 * (16 : Int32)) + z4)).bind fun x9 =>
      (some ((((31 : Int64) * z1) + ((x9).toInt64)))).bind fun x10 =>
      f_Ta_mixedInto_L46 h0 y0 y3 k n x10 (z4 + (1 : Int32))
    else
      k z1
def f_Ta_mixedInto_L14 (h0 : AH) (y0 : Nat) : Nat → Int64 → Int32 → Option (Int64)
  | 0, _, _ => none
  | n + 1, z1, z3 =>
    (gI 9 h0 y0 0).bind fun x3 =>
    if x3 < z3 then
      some (z1)
    else
      (cv 9 h0 y0 (f_Ta_mayEnd h0 y0 z3)).bind fun x4 =>
      (
        if x4 = (0 : Int32) then
          some ((0 : Int32))
        else
          some ((1 : Int32))
      ).bind fun x5 =>
      (some ((((31 : Int64) * z1) + ((x5).toInt64)))).bind fun x6 =>
      f_Ta_mixedInto_L46 h0 y0 z3 (fun x11 =>
        f_Ta_mixedInto_L14 h0 y0 n x11 (z3 + (1 : Int32))
      ) FU x6 (0 : Int32)
def f_Ta_mixedInto (h0 : AH) (o : Nat) (p1 : Int64) : Option (Int64) :=
  (gI 9 h0 o 0).bind fun x1 =>
  (some ((((31 : Int64) * p1) + ((x1).toInt64)))).bind fun x2 =>
  f_Ta_mixedInto_L14 h0 o FU x2 (0 : Int32)
def f_C_digest_L25 {ρ : Type} (h0 : AH) (y0 : Nat) (k : Int64 → Option (ρ)) : Nat → Int64 → Int32 → Option (ρ)
  | 0, _, _ => none
  | n + 1, z1, z3 =>
    (gI 0 h0 y0 2).bind fun x8 =>
    if z3 < x8 then
      (gR 0 h0 y0 1).bind fun r9 =>
      (r9).bind fun a10 =>
      (rR 9 h0 a10 z3).bind fun r11 =>
      (r11).bind fun a12 =>
      (cv 9 h0 a12 (f_Ta_mixedInto h0 a12 z1)).bind fun x13 =>
      f_C_digest_L25 h0 y0 k n x13 (z3 + (1 : Int32))
    else
      k z1
def f_C_digest_L52 {ρ : Type} (h0 : AH) (y0 : Nat) (k : Int64 → Option (ρ)) : Nat → Int64 → Int32 → Option (ρ)
  | 0, _, _ => none
  | n + 1, z1, z3 =>
    (gR 0 h0 y0 8).bind fun r15 =>
    (r15).bind fun a16 =>
    (gI 8 h0 a16 1).bind fun x17 =>
    if z3 < x17 then
      (gR 0 h0 y0 8).bind fun r18 =>
      (r18).bind fun a19 =>
      (gR 8 h0 a19 0).bind fun r20 =>
      (r20).bind fun a21 =>
      (rR 4 h0 a21 z3).bind fun r22 =>
      (r22).bind fun a23 =>
      (gR 4 h0 a23 0).bind fun r24 =>
      (f_C_mixed h0 z1 r24 (8 : Int32)).bind fun x25 =>
      f_C_digest_L52 h0 y0 k n x25 (z3 + (1 : Int32))
    else
      k z1
def f_C_digest (h0 : AH) (o : Nat) : Option (Int64) :=
  (gR 0 h0 o 0).bind fun r1 =>
  (r1).bind fun a2 =>
  (gR 7 h0 a2 0).bind fun r3 =>
  (gR 0 h0 o 0).bind fun r4 =>
  (r4).bind fun a5 =>
  (gI 7 h0 a5 1).bind fun x6 =>
  (f_C_mixed h0 (211 : Int64) r3 x6).bind fun x7 =>
  f_C_digest_L25 h0 o (fun x14 =>
    f_C_digest_L52 h0 o (fun x26 =>
      (gR 0 h0 o 8).bind fun r27 =>
      (r27).bind fun a28 =>
      (gR 8 h0 a28 2).bind fun r29 =>
      (f_C_mixed h0 x26 r29 (12 : Int32)).bind fun x30 =>
      (gR 0 h0 o 8).bind fun r31 =>
      (r31).bind fun a32 =>
      (gR 8 h0 a32 3).bind fun r33 =>
      (gR 0 h0 o 8).bind fun r34 =>
      (r34).bind fun a35 =>
      (gI 8 h0 a35 4).bind fun x36 =>
      (f_C_mixed h0 x30 r33 x36).bind fun x37 =>
      (gR 0 h0 o 10).bind fun r38 =>
      (r38).bind fun a39 =>
      (gI 6 h0 a39 1).bind fun x40 =>
      (some ((((31 : Int64) * x37) + ((x40).toInt64)))).bind fun x41 =>
      (gR 0 h0 o 10).bind fun r42 =>
      (r42).bind fun a43 =>
      (cv 6 h0 a43 (f_Lo_last h0 a43)).bind fun r44 =>
      (r44).bind fun a45 =>
      (cv 11 h0 a45 (f_Wo_size h0 a45)).bind fun x46 =>
      (some ((((31 : Int64) * x41) + ((x46).toInt64)))).bind fun x47 =>
      (gI 0 h0 o 6).bind fun x48 =>
      (some ((((31 : Int64) * x47) + ((x48).toInt64)))).bind fun x49 =>
      (gI 0 h0 o 7).bind fun x50 =>
      (some ((((31 : Int64) * x49) + ((x50).toInt64)))).bind fun x51 =>
      (gI 0 h0 o 9).bind fun x52 =>
      some ((((31 : Int64) * x51) + ((x52).toInt64)))
    ) FU x14 (0 : Int32)
  ) FU x7 (0 : Int32)
