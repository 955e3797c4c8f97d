def f_C_join (h0 : AH) (o : Nat) (p1 : Int32) (p2 : Int32) (p3 : Int32) : Option (Int32 × AH) :=
  (cv 0 h0 o (f_C_talkNumbered h0 o p1)).bind fun r1 =>
  (cv 0 h0 o (f_C_talkNumbered h0 o p2)).bind fun r2 =>
  onl r1 (
    some ((-101 : Int32), h0)
  ) fun a3 =>
  onl r2 (
    some ((-101 : Int32), h0)
  ) fun a4 =>
  if p3 < (0 : Int32) then
    some ((-102 : Int32), h0)
  else
    if (2 : Int32) < p3 then
      some ((-102 : Int32), h0)
    else
      if (0 : Int32) < p3 then
        (gI 0 h0 o 6).bind fun x9 =>
        if x9 < (20 : Int32) then
          (gI 0 h0 o 6).bind fun x10 =>
          (pI 0 h0 o 6 (x10 + (1 : Int32))).bind fun h11 =>
          (gR 0 h11 o 3).bind fun r12 =>
          (r12).bind fun a13 =>
          bd2 (cv 10 h11 a13 (f_Wa_through h11 a13 (some a3) (some a4) p3)) fun x14 h15 =>
          some (x14, h15)
        else
          some ((-103 : Int32), h0)
      else
        (gR 0 h0 o 3).bind fun r5 =>
        (r5).bind fun a6 =>
        bd2 (cv 10 h0 a6 (f_Wa_through h0 a6 (some a3) (some a4) p3)) fun x7 h8 =>
        some (x7, h8)
def f_C_walked (h0 : AH) (o : Nat) : Option (Int32) :=
  (gR 0 h0 o 3).bind fun r1 =>
  (r1).bind fun a2 =>
  (gI 10 h0 a2 3).bind fun x3 =>
  some (x3)
def f_Wa_stepToFault (h0 : AH) (o : Nat) (p1 : Int32) : Option (Int32) :=
  if p1 < (0 : Int32) then
    some ((-1 : Int32))
  else
    (gI 10 h0 o 7).bind fun x1 =>
    if p1 < x1 then
      (gR 10 h0 o 6).bind fun r2 =>
      (r2).bind fun a3 =>
      (rI 1 h0 a3 p1).bind fun x4 =>
      some (x4)
    else
      some ((-1 : Int32))
def f_C_trace (h0 : AH) (o : Nat) (p1 : Int32) : Option (Int32) :=
  (gR 0 h0 o 3).bind fun r1 =>
  (r1).bind fun a2 =>
  (cv 10 h0 a2 (f_Wa_stepToFault h0 a2 p1)).bind fun x3 =>
  some (x3)
def f_Fi_holds (h0 : AH) (o : Nat) (p1 : Int32) (p2 : Int32) : Option (Int32) :=
  (gR 2 h0 o 0).bind fun r1 =>
  (r1).bind fun a2 =>
  (rI 1 h0 a2 p1).bind fun x3 =>
  (f_C_hasBit h0 x3 p2).bind fun x4 =>
  if x4 = 0 ∨ x4 = 1 then
  some (x4)
  else none
def f_Fi_fitsNow (h0 : AH) (o : Nat) (p1 : Int32) (p2 : Int32) : Option (Int32) :=
  (gR 2 h0 o 2).bind fun r1 =>
  (r1).bind fun a2 =>
  (gR 9 h0 a2 3).bind fun r3 =>
  (r3).bind fun a4 =>
  (rI 1 h0 a4 p2).bind fun x5 =>
  (gR 2 h0 o 1).bind fun r6 =>
  (r6).bind fun a7 =>
  (gR 9 h0 a7 3).bind fun r8 =>
  (r8).bind fun a9 =>
  (rI 1 h0 a9 p1).bind fun x10 =>
  if (x5 &&& (x10 ^^^ (-1 : Int32))) = (0 : Int32) then
    (gR 2 h0 o 1).bind fun r11 =>
    (r11).bind fun a12 =>
    (gR 9 h0 a12 4).bind fun r13 =>
    (r13).bind fun a14 =>
    (rI 1 h0 a14 p1).bind fun x15 =>
    (gR 2 h0 o 2).bind fun r16 =>
    (r16).bind fun a17 =>
    (gR 9 h0 a17 4).bind fun r18 =>
    (r18).bind fun a19 =>
    (rI 1 h0 a19 p2).bind fun x20 =>
    if (x15 &&& (x20 ^^^ (-1 : Int32))) = (0 : Int32) then
      (gR 2 h0 o 1).bind fun r21 =>
      (r21).bind fun a22 =>
      (gR 9 h0 a22 4).bind fun r23 =>
      (r23).bind fun a24 =>
      (rI 1 h0 a24 p1).bind fun x25 =>
      if x25 = (0 : Int32) then
        (gR 2 h0 o 2).bind fun r32 =>
        (r32).bind fun a33 =>
        (gR 9 h0 a33 4).bind fun r34 =>
        (r34).bind fun a35 =>
        (rI 1 h0 a35 p2).bind fun x36 =>
        if x36 = (0 : Int32) then
          (gR 2 h0 o 1).bind fun r37 =>
          (r37).bind fun a38 =>
          (cv 9 h0 a38 (f_Ta_mayEnd h0 a38 p1)).bind fun x39 =>
          (gR 2 h0 o 2).bind fun r40 =>
          (r40).bind fun a41 =>
          (cv 9 h0 a41 (f_Ta_mayEnd h0 a41 p2)).bind fun x42 =>
          if x39 = x42 then
            some ((1 : Int32))
          else
            some ((0 : Int32))
        else
          some ((0 : Int32))
      else
        (gR 2 h0 o 1).bind fun r26 =>
        (r26).bind fun a27 =>
        (cv 9 h0 a27 (f_Ta_mayEnd h0 a27 p1)).bind fun x28 =>
        (gR 2 h0 o 2).bind fun r29 =>
        (r29).bind fun a30 =>
        (cv 9 h0 a30 (f_Ta_mayEnd h0 a30 p2)).bind fun x31 =>
        if x28 = x31 then
          some ((1 : Int32))
        else
          some ((0 : Int32))
    else
      some ((0 : Int32))
  else
    some ((0 : Int32))
def f_Fi_fitsLater_L2 (h0 : AH) (y0 : Nat) (y1 : Int32) (y2 : Int32) : Nat → Int32 → Option (Int32)
  | 0, _ => none
  | n + 1, z3 =>
    if z3 < (8 : Int32) then
      (gR 2 h0 y0 2).bind fun r1 =>
      (r1).bind fun a2 =>
      (gR 9 h0 a2 3).bind fun r3 =>
      (r3).bind fun a4 =>
      (rI 1 h0 a4 y2).bind fun x5 =>
      (f_C_hasBit h0 x5 z3).bind fun x6 =>
      if x6 = (0 : Int32) then
        (gR 2 h0 y0 1).bind fun r7 =>
        (r7).bind fun a8 =>
        (gR 9 h0 a8 4).bind fun r9 =>
        (r9).bind fun a10 =>
        (rI 1 h0 a10 y1).bind fun x11 =>
        (f_C_hasBit h0 x11 z3).bind fun x12 =>
        if x12 = (0 : Int32) then
          f_Fi_fitsLater_L2 h0 y0 y1 y2 n (z3 + (1 : Int32))
        else
          (gR 2 h0 y0 1).bind fun r13 =>
          (r13).bind fun a14 =>
          (cv 9 h0 a14 (f_Ta_behind h0 a14 y1 (1 : Int32) z3)).bind fun x15 =>
          (gR 2 h0 y0 2).bind fun r16 =>
          (r16).bind fun a17 =>
          (cv 9 h0 a17 (f_Ta_behind h0 a17 y2 (1 : Int32) z3)).bind fun x18 =>
          (cv 2 h0 y0 (f_Fi_holds h0 y0 x15 x18)).bind fun x19 =>
          if x19 = (0 : Int32) then
            some ((0 : Int32))
          else
            f_Fi_fitsLater_L2 h0 y0 y1 y2 n (z3 + (1 : Int32))
      else
        (gR 2 h0 y0 1).bind fun r20 =>
        (r20).bind fun a21 =>
        (cv 9 h0 a21 (f_Ta_behind h0 a21 y1 (0 : Int32) z3)).bind fun x22 =>
        (gR 2 h0 y0 2).bind fun r23 =>
        (r23).bind fun a24 =>
        (cv 9 h0 a24 (f_Ta_behind h0 a24 y2 (0 : Int32) z3)).bind fun x25 =>
        (cv 2 h0 y0 (f_Fi_holds h0 y0 x22 x25)).bind fun x26 =>
        if x26 = (0 : Int32) then
          some ((0 : Int32))
        else
          (gR 2 h0 y0 1).bind fun r27 =>
          (r27).bind fun a28 =>
          (gR 9 h0 a28 4).bind fun r29 =>
          (r29).bind fun a30 =>
          (rI 1 h0 a30 y1).bind fun x31 =>
          (f_C_hasBit h0 x31 z3).bind fun x32 =>
          if x32 = (0 : Int32) then
            f_Fi_fitsLater_L2 h0 y0 y1 y2 n (z3 + (1 : Int32))
          else
            (gR 2 h0 y0 1).bind fun r33 =>
            (r33).bind fun a34 =>
            (cv 9 h0 a34 (f_Ta_behind h0 a34 y1 (1 : Int32) z3)).bind fun x35 =>
            (gR 2 h0 y0 2).bind fun r36 =>
            (r36).bind fun a37 =>
            (cv 9 h0 a37 (f_Ta_behind h0 a37 y2 (1 : Int32) z3)).bind fun x38 =>
            (cv 2 h0 y0 (f_Fi_holds h0 y0 x35 x38)).bind fun x39 =>
            if x39 = (0 : Int32) then
              some ((0 : Int32))
            else
              f_Fi_fitsLater_L2 h0 y0 y1 y2 n (z3 + (1 : Int32))
    else
      some ((1 : Int32))
def f_Fi_fitsLater (h0 : AH) (o : Nat) (p1 : Int32) (p2 : Int32) : Option (Int32) :=
  f_Fi_fitsLater_L2 h0 o p1 p2 FU (0 : Int32)
def f_Fi_dropsSome_L17 {ρ : Type} (y0 : Nat) (y2 : Int32) (k : Int32 → AH → Option (ρ)) : Nat → Int32 → Int32 → AH → Option (ρ)
  | 0, _, _, _ => none
  | n + 1, z1, z3, h =>
    (gR 2 h y0 2).bind fun r4 =>
    (r4).bind fun a5 =>
    (gI 9 h a5 0).bind fun x6 =>
    if x6 < z3 then
      k z1 h
    else
      (cv 2 h y0 (f_Fi_holds h y0 y2 z3)).bind fun x7 =>
      if x7 = (0 : Int32) then
        f_Fi_dropsSome_L17 y0 y2 k n z1 (z3 + (1 : Int32)) h
      else
        (cv 2 h y0 (f_Fi_fitsNow h y0 y2 z3)).bind fun x8 =>
        if x8 = (0 : Int32) then
          (gR 2 h y0 0).bind fun r9 =>
          (r9).bind fun a10 =>
          (rI 1 h a10 y2).bind fun x11 =>
          (wI h a10 y2 (x11 &&& (((1 : Int32) <<< (z3 &&& 31)) ^^^ (-1 : Int32)))).bind fun h12 =>
          f_Fi_dropsSome_L17 y0 y2 k n (1 : Int32) (z3 + (1 : Int32)) h12
        else
          (cv 2 h y0 (f_Fi_fitsLater h y0 y2 z3)).bind fun x13 =>
          if x13 = (0 : Int32) then
            (gR 2 h y0 0).bind fun r14 =>
            (r14).bind fun a15 =>
            (rI 1 h a15 y2).bind fun x16 =>
            (wI h a15 y2 (x16 &&& (((1 : Int32) <<< (z3 &&& 31)) ^^^ (-1 : Int32)))).bind fun h17 =>
            f_Fi_dropsSome_L17 y0 y2 k n (1 : Int32) (z3 + (1 : Int32)) h17
          else
            f_Fi_dropsSome_L17 y0 y2 k n z1 (z3 + (1 : Int32)) h
def f_Fi_dropsSome_L4 (y0 : Nat) : Nat → Int32 → Int32 → AH → Option (Int32 × AH)
  | 0, _, _, _ => none
  | n + 1, z1, z2, h =>
    (gR 2 h y0 1).bind fun r1 =>
    (r1).bind fun a2 =>
    (gI 9 h a2 0).bind fun x3 =>
    if x3 < z2 then
      if z1 = 0 ∨ z1 = 1 then
      some (z1, h)
      else none
    else
      f_Fi_dropsSome_L17 y0 z2 (fun x18 h19 =>
        f_Fi_dropsSome_L4 y0 n x18 (z2 + (1 : Int32)) h19
      ) FU z1 (0 : Int32) h
def f_Fi_dropsSome (h0 : AH) (o : Nat) : Option (Int32 × AH) :=
  f_Fi_dropsSome_L4 o FU (0 : Int32) (0 : Int32) h0
def f_Fi_compare_L35 (y0 : Nat) : Nat → Int32 → Int32 → AH → Option (AH)
  | 0, _, _, _ => none
  | n + 1, z3, z4, h =>
    if (625 : Int32) < z4 then
      some h
    else
      if z3 = (0 : Int32) then
        some h
      else
        bd2 (cv 2 h y0 (f_Fi_dropsSome h y0)) fun x8 h9 =>
        f_Fi_compare_L35 y0 n x8 (z4 + (1 : Int32)) h9
def f_Fi_compare (h0 : AH) (o : Nat) (p1 : Option Nat) (p2 : Option Nat) : Option (AH) :=
  (pR 2 h0 o 1 p1).bind fun h1 =>
  (pR 2 h1 o 2 p2).bind fun h2 =>
  (gR 2 h2 o 0).bind fun r3 =>
  (gR 2 h2 o 2).bind fun r4 =>
  (r4).bind fun a5 =>
  (gI 9 h2 a5 0).bind fun x6 =>
  (f_jA_fill_I h2 r3 (((1 : Int32) <<< ((x6 + (1 : Int32)) &&& 31)) - (1 : Int32))).bind fun h7 =>
  f_Fi_compare_L35 o FU (1 : Int32) (0 : Int32) h7
def f_C_fit (h0 : AH) (o : Nat) (p1 : Int32) (p2 : Int32) : Option (Int32 × AH) :=
  (cv 0 h0 o (f_C_talkNumbered h0 o p1)).bind fun r1 =>
  (cv 0 h0 o (f_C_talkNumbered h0 o p2)).bind fun r2 =>
  onl r1 (
    some ((-101 : Int32), h0)
  ) fun a3 =>
  onl r2 (
    some ((-101 : Int32), h0)
  ) fun a4 =>
  (gR 0 h0 o 4).bind fun r5 =>
  (r5).bind fun a6 =>
  (cv 2 h0 a6 (f_Fi_compare h0 a6 (some a3) (some a4))).bind fun h7 =>
  (gR 0 h7 o 4).bind fun r8 =>
  (r8).bind fun a9 =>
  (cv 2 h7 a9 (f_Fi_holds h7 a9 (0 : Int32) (0 : Int32))).bind fun x10 =>
  if x10 = (0 : Int32) then
    some ((0 : Int32), h7)
  else
    some ((1 : Int32), h7)
def f_C_swap_L50 (h0 : AH) (y0 : Nat) (y3 : Int32) (y4 : Nat) : Nat → Int32 → Option (Int32 × AH)
  | 0, _ => none
  | n + 1, z6 =>
    (gI 9 h0 y4 0).bind fun x9 =>
    if x9 < z6 then
      some ((-1 : Int32), h0)
    else
      (gR 0 h0 y0 4).bind fun r10 =>
      (r10).bind fun a11 =>
      (cv 2 h0 a11 (f_Fi_holds h0 a11 z6 y3)).bind fun x12 =>
      if x12 = (0 : Int32) then
        f_C_swap_L50 h0 y0 y3 y4 n (z6 + (1 : Int32))
      else
        some (z6, h0)
def f_C_swap (h0 : AH) (o : Nat) (p1 : Int32) (p2 : Int32) (p3 : Int32) : Option (Int32 × AH) :=
  (cv 0 h0 o (f_C_talkNumbered h0 o p1)).bind fun r1 =>
  (cv 0 h0 o (f_C_talkNumbered h0 o p2)).bind fun r2 =>
  onl r1 (
    some ((-101 : Int32), h0)
  ) fun a3 =>
  onl r2 (
    some ((-101 : Int32), h0)
  ) fun a4 =>
  (cv 9 h0 a4 (f_Ta_has h0 a4 p3)).bind fun x5 =>
  if x5 = (0 : Int32) then
    some ((-101 : Int32), h0)
  else
    (gR 0 h0 o 4).bind fun r6 =>
    (r6).bind fun a7 =>
    (cv 2 h0 a7 (f_Fi_compare h0 a7 (some a3) (some a4))).bind fun h8 =>
    f_C_swap_L50 h8 o p3 a3 FU (0 : Int32)
def f_Ta_messages (h0 : AH) (o : Nat) : Option (Int32) :=
  (cv 9 h0 o (f_Ta_messagesOf h0 o (0 : Int32))).bind fun x1 =>
  (cv 9 h0 o (f_Ta_messagesOf h0 o (1 : Int32))).bind fun x2 =>
  some ((x1 ||| x2))
def f_jI_bitCount (h0 : AH) (p1 : Int32) : Option (Int32) :=
  (some ((p1 - ((xushr p1 (1 : Int32)) &&& (1431655765 : Int32))))).bind fun x1 =>
  (some (((x1 &&& (858993459 : Int32)) + ((xushr x1 (2 : Int32)) &&& (858993459 : Int32))))).bind fun x2 =>
  (some (((x2 + (xushr x2 (4 : Int32))) &&& (252645135 : Int32)))).bind fun x3 =>
  (some ((x3 + (xushr x3 (8 : Int32))))).bind fun x4 =>
  (some ((x4 + (xushr x4 (16 : Int32))))).bind fun x5 =>
  some ((x5 &&& (63 : Int32)))
def f_C_adaptingRefusal (h0 : AH) (o : Nat) (p1 : Int32) (p2 : Int32) (p3 : Int32) : Option (Int32) :=
  (cv 0 h0 o (f_C_talkNumbered h0 o p1)).bind fun r1 =>
  onl r1 (
    some ((-101 : Int32))
  ) fun a2 =>
  (cv 0 h0 o (f_C_talkNumbered h0 o p2)).bind fun r3 =>
  onl r3 (
    some ((-101 : Int32))
  ) fun a4 =>
  (cv 9 h0 a2 (f_Ta_messages h0 a2)).bind fun x5 =>
  (f_jI_bitCount h0 x5).bind fun x6 =>
  if (5 : Int32) < x6 then
    some ((-102 : Int32))
  else
    (f_C_isMessage h0 p3).bind fun x7 =>
    if x7 = (0 : Int32) then
      some ((-102 : Int32))
    else
      (gI 0 h0 o 7).bind fun x8 =>
      if x8 < (20 : Int32) then
        some ((0 : Int32))
      else
        some ((-103 : Int32))
def f_Ad_reach (h0 : AH) (o : Nat) (p1 : Int32) (p2 : Int32) : Option (AH) :=
  (gR 1 h0 o 8).bind fun r1 =>
  (r1).bind fun a2 =>
  (rI 1 h0 a2 p1).bind fun x3 =>
  (f_C_hasBit h0 x3 p2).bind fun x4 =>
  if x4 = (0 : Int32) then
    (gI 1 h0 o 10).bind fun x5 =>
    if x5 < (625 : Int32) then
      (gR 1 h0 o 8).bind fun r6 =>
      (r6).bind fun a7 =>
      (rI 1 h0 a7 p1).bind fun x8 =>
      (wI h0 a7 p1 (x8 ||| ((1 : Int32) <<< (p2 &&& 31)))).bind fun h9 =>
      (gR 1 h9 o 9).bind fun r10 =>
      (gI 1 h9 o 10).bind fun x11 =>
      (r10).bind fun a12 =>
      (wI h9 a12 x11 (p1 ||| (p2 <<< ((5 : Int32) &&& 31)))).bind fun h13 =>
      (gI 1 h13 o 10).bind fun x14 =>
      (pI 1 h13 o 10 (x14 + (1 : Int32))).bind fun h15 =>
      some h15
    else
      some h0
  else
    some h0
def f_Ad_agreeAt_L17 {ρ : Type} (h0 : AH) (y0 : Nat) (y1 : Int32) (y2 : Int32) (k : Int32 → Int32 → Int32 → Int32 → Int32 → Option (ρ)) : Nat → Int32 → Int32 → Int32 → Int32 → Int32 → Int32 → Option (ρ)
  | 0, _, _, _, _, _, _ => none
  | n + 1, z3, z4, z5, z6, z7, z8 =>
    (gI 1 h0 y0 5).bind fun x1 =>
    if z8 < x1 then
      (gR 1 h0 y0 4).bind fun r2 =>
      (r2).bind fun a3 =>
      (rI 1 h0 a3 z8).bind fun x4 =>
      (gR 1 h0 y0 2).bind fun r5 =>
      (r5).bind fun a6 =>
      (gR 9 h0 a6 4).bind fun r7 =>
      (r7).bind fun a8 =>
      (rI 1 h0 a8 y1).bind fun x9 =>
      (some (((x9 >>> (x4 &&& 31)) &&& (1 : Int32)))).bind fun x10 =>
      (gR 1 h0 y0 2).bind fun r11 =>
      (r11).bind fun a12 =>
      (gR 9 h0 a12 3).bind fun r13 =>
      (r13).bind fun a14 =>
      (rI 1 h0 a14 y1).bind fun x15 =>
      (some (((x15 >>> (x4 &&& 31)) &&& (1 : Int32)))).bind fun x16 =>
      (gR 1 h0 y0 6).bind fun r17 =>
      (r17).bind fun a18 =>
      (rI 1 h0 a18 x4).bind fun x19 =>
      if x19 = (-1 : Int32) then
        (some ((z5 + x10))).bind fun x32 =>
        (some ((z6 + x16))).bind fun x33 =>
        f_Ad_agreeAt_L17 h0 y0 y1 y2 k n z3 z4 x32 x33 z7 (z8 + (1 : Int32))
      else
        (gR 1 h0 y0 6).bind fun r20 =>
        (r20).bind fun a21 =>
        (rI 1 h0 a21 x4).bind fun x22 =>
        (some ((z3 ||| (x10 <<< (x22 &&& 31))))).bind fun x23 =>
        (gR 1 h0 y0 6).bind fun r24 =>
        (r24).bind fun a25 =>
        (rI 1 h0 a25 x4).bind fun x26 =>
        (some ((z4 ||| (x16 <<< (x26 &&& 31))))).bind fun x27 =>
        (gR 1 h0 y0 6).bind fun r28 =>
        (r28).bind fun a29 =>
        (rI 1 h0 a29 x4).bind fun x30 =>
        (some ((z7 ||| ((1 : Int32) <<< (x30 &&& 31))))).bind fun x31 =>
        f_Ad_agreeAt_L17 h0 y0 y1 y2 k n x23 x27 z5 z6 x31 (z8 + (1 : Int32))
    else
      k z3 z4 z5 z6 z7
def f_Ad_agreeAt (h0 : AH) (o : Nat) (p1 : Int32) (p2 : Int32) : Option (Int32) :=
  f_Ad_agreeAt_L17 h0 o p1 p2 (fun x34 x35 x36 x37 x38 =>
    (gR 1 h0 o 3).bind fun r39 =>
    (r39).bind fun a40 =>
    (gR 9 h0 a40 3).bind fun r41 =>
    (r41).bind fun a42 =>
    (rI 1 h0 a42 p2).bind fun x43 =>
    if (x34 &&& (x43 ^^^ (-1 : Int32))) = (0 : Int32) then
      (gR 1 h0 o 3).bind fun r44 =>
      (r44).bind fun a45 =>
      (gR 9 h0 a45 4).bind fun r46 =>
      (r46).bind fun a47 =>
      (rI 1 h0 a47 p2).bind fun x48 =>
      if ((x48 &&& x38) &&& (x35 ^^^ (-1 : Int32))) = (0 : Int32) then
        (gR 1 h0 o 3).bind fun r49 =>
        (r49).bind fun a50 =>
        (gR 9 h0 a50 3).bind fun r51 =>
        (r51).bind fun a52 =>
        (rI 1 h0 a52 p2).bind fun x53 =>
        (f_jI_bitCount h0 (x53 &&& (x38 ^^^ (-1 : Int32)))).bind fun x54 =>
        if x54 < x36 then
          some ((0 : Int32))
        else
          (gR 1 h0 o 3).bind fun r55 =>
          (r55).bind fun a56 =>
          (gR 9 h0 a56 4).bind fun r57 =>
          (r57).bind fun a58 =>
          (rI 1 h0 a58 p2).bind fun x59 =>
          (f_jI_bitCount h0 (x59 &&& (x38 ^^^ (-1 : Int32)))).bind fun x60 =>
          if x37 < x60 then
            some ((0 : Int32))
          else
            (gR 1 h0 o 2).bind fun r61 =>
            (r61).bind fun a62 =>
            (gR 9 h0 a62 4).bind fun r63 =>
            (r63).bind fun a64 =>
            (rI 1 h0 a64 p1).bind fun x65 =>
            (gR 1 h0 o 3).bind fun r66 =>
            (r66).bind fun a67 =>
            (gR 9 h0 a67 4).bind fun r68 =>
            (r68).bind fun a69 =>
            (rI 1 h0 a69 p2).bind fun x70 =>
            if (x65 ||| x70) = (0 : Int32) then
              (gR 1 h0 o 2).bind fun r71 =>
              (r71).bind fun a72 =>
              (cv 9 h0 a72 (f_Ta_mayEnd h0 a72 p1)).bind fun x73 =>
              if x73 = (0 : Int32) then
                some ((0 : Int32))
              else
                (gR 1 h0 o 3).bind fun r74 =>
                (r74).bind fun a75 =>
                (cv 9 h0 a75 (f_Ta_mayEnd h0 a75 p2)).bind fun x76 =>
                if x76 = (0 : Int32) then
                  some ((0 : Int32))
                else
                  some ((1 : Int32))
            else
              some ((1 : Int32))
      else
        some ((0 : Int32))
    else
      some ((0 : Int32))
  ) FU (0 : Int32) (0 : Int32) (0 : Int32) (0 : Int32) (0 : Int32) (0 : Int32)
def f_Ad_passFrom_L2 (y0 : Nat) (y1 : Int32) (y2 : Int32) : Nat → Int32 → AH → Option (AH)
  | 0, _, _ => none
  | n + 1, z3, h =>
    (gI 1 h y0 5).bind fun x1 =>
    if z3 < x1 then
      (gR 1 h y0 4).bind fun r2 =>
      (r2).bind fun a3 =>
      (rI 1 h a3 z3).bind fun x4 =>
      (gR 1 h y0 6).bind fun r5 =>
      (r5).bind fun a6 =>
      (rI 1 h a6 x4).bind fun x7 =>
      (
        if x7 = (-1 : Int32) then
          some (h)
        else
          (gR 1 h y0 2).bind fun r8 =>
          (r8).bind fun a9 =>
          (gR 9 h a9 4).bind fun r10 =>
          (r10).bind fun a11 =>
          (rI 1 h a11 y1).bind fun x12 =>
          (f_C_hasBit h x12 x4).bind fun x13 =>
          if x13 = (0 : Int32) then
            some (h)
          else
            (gR 1 h y0 3).bind fun r14 =>
            (r14).bind fun a15 =>
            (gR 9 h a15 3).bind fun r16 =>
            (r16).bind fun a17 =>
            (rI 1 h a17 y2).bind fun x18 =>
            (f_C_hasBit h x18 x7).bind fun x19 =>
            if x19 = (0 : Int32) then
              some (h)
            else
              (gR 1 h y0 2).bind fun r20 =>
              (r20).bind fun a21 =>
              (cv 9 h a21 (f_Ta_behind h a21 y1 (1 : Int32) x4)).bind fun x22 =>
              (gR 1 h y0 3).bind fun r23 =>
              (r23).bind fun a24 =>
              (cv 9 h a24 (f_Ta_behind h a24 y2 (0 : Int32) x7)).bind fun x25 =>
              (cv 1 h y0 (f_Ad_reach h y0 x22 x25)).bind fun h26 =>
              some (h26)
      ).bind fun h27 =>
      if x7 = (-1 : Int32) then
        f_Ad_passFrom_L2 y0 y1 y2 n (z3 + (1 : Int32)) h27
      else
        (gR 1 h27 y0 2).bind fun r28 =>
        (r28).bind fun a29 =>
        (gR 9 h27 a29 3).bind fun r30 =>
        (r30).bind fun a31 =>
        (rI 1 h27 a31 y1).bind fun x32 =>
        (f_C_hasBit h27 x32 x4).bind fun x33 =>
        if x33 = (0 : Int32) then
          f_Ad_passFrom_L2 y0 y1 y2 n (z3 + (1 : Int32)) h27
        else
          (gR 1 h27 y0 3).bind fun r34 =>
          (r34).bind fun a35 =>
          (gR 9 h27 a35 4).bind fun r36 =>
          (r36).bind fun a37 =>
          (rI 1 h27 a37 y2).bind fun x38 =>
          (f_C_hasBit h27 x38 x7).bind fun x39 =>
          if x39 = (0 : Int32) then
            f_Ad_passFrom_L2 y0 y1 y2 n (z3 + (1 : Int32)) h27
          else
            (gR 1 h27 y0 2).bind fun r40 =>
            (r40).bind fun a41 =>
            (cv 9 h27 a41 (f_Ta_behind h27 a41 y1 (0 : Int32) x4)).bind fun x42 =>
            (gR 1 h27 y0 3).bind fun r43 =>
            (r43).bind fun a44 =>
            (cv 9 h27 a44 (f_Ta_behind h27 a44 y2 (1 : Int32) x7)).bind fun x45 =>
            (cv 1 h27 y0 (f_Ad_reach h27 y0 x42 x45)).bind fun h46 =>
            f_Ad_passFrom_L2 y0 y1 y2 n (z3 + (1 : Int32)) h46
    else
      some h
def f_Ad_passFrom (h0 : AH) (o : Nat) (p1 : Int32) (p2 : Int32) : Option (AH) :=
  f_Ad_passFrom_L2 o p1 p2 FU (0 : Int32) h0
def f_Ad_agree_L21 (y0 : Nat) : Nat → Int32 → AH → Option (Int32 × AH)
  | 0, _, _ => none
  | n + 1, z1, h =>
    if z1 < (625 : Int32) then
      (gI 1 h y0 10).bind fun x5 =>
      if (0 : Int32) < x5 then
        (gI 1 h y0 10).bind fun x6 =>
        (pI 1 h y0 10 (x6 - (1 : Int32))).bind fun h7 =>
        (gR 1 h7 y0 9).bind fun r8 =>
        (gI 1 h7 y0 10).bind fun x9 =>
        (r8).bind fun a10 =>
        (rI 1 h7 a10 x9).bind fun x11 =>
        (some ((x11 &&& (31 : Int32)))).bind fun x12 =>
        (gR 1 h7 y0 9).bind fun r13 =>
        (gI 1 h7 y0 10).bind fun x14 =>
        (r13).bind fun a15 =>
        (rI 1 h7 a15 x14).bind fun x16 =>
        (some ((x16 >>> ((5 : Int32) &&& 31)))).bind fun x17 =>
        (cv 1 h7 y0 (f_Ad_agreeAt h7 y0 x12 x17)).bind fun x18 =>
        if x18 = (0 : Int32) then
          some ((0 : Int32), h7)
        else
          (cv 1 h7 y0 (f_Ad_passFrom h7 y0 x12 x17)).bind fun h19 =>
          f_Ad_agree_L21 y0 n (z1 + (1 : Int32)) h19
      else
        some ((1 : Int32), h)
    else
      some ((1 : Int32), h)
def f_Ad_agree (h0 : AH) (o : Nat) : Option (Int32 × AH) :=
  (gR 1 h0 o 8).bind fun r1 =>
  (f_jA_fill_I h0 r1 (0 : Int32)).bind fun h2 =>
  (pI 1 h2 o 10 (0 : Int32)).bind fun h3 =>
  (cv 1 h3 o (f_Ad_reach h3 o (0 : Int32) (0 : Int32))).bind fun h4 =>
  f_Ad_agree_L21 o FU (0 : Int32) h4
def f_Ad_keepFound_L4 {ρ : Type} (h0 : AH) (y0 : Nat) (k : Int32 → Option (ρ)) : Nat → Int32 → Int32 → Option (ρ)
  | 0, _, _ => none
  | n + 1, z1, z2 =>
    (gI 1 h0 y0 5).bind fun x1 =>
    if z2 < x1 then
      (gR 1 h0 y0 6).bind fun r2 =>
      (gR 1 h0 y0 4).bind fun r3 =>
      (r3).bind fun a4 =>
      (rI 1 h0 a4 z2).bind fun x5 =>
      (r2).bind fun a6 =>
      (rI 1 h0 a6 x5).bind fun x7 =>
      (some ((z1 ||| (x7 <<< (((4 : Int32) * z2) &&& 31))))).bind fun x8 =>
      f_Ad_keepFound_L4 h0 y0 k n x8 (z2 + (1 : Int32))
    else
      k z1
def f_Ad_keepFound (h0 : AH) (o : Nat) : Option (AH) :=
  f_Ad_keepFound_L4 h0 o (fun x9 =>
    (gI 1 h0 o 1).bind fun x10 =>
    if x10 < (6720 : Int32) then
      (gR 1 h0 o 0).bind fun r11 =>
      (gI 1 h0 o 1).bind fun x12 =>
      (r11).bind fun a13 =>
      (wI h0 a13 x12 x9).bind fun h14 =>
      (gI 1 h14 o 1).bind fun x15 =>
      (pI 1 h14 o 1 (x15 + (1 : Int32))).bind fun h16 =>
      some h16
    else
      some h0
  ) FU (0 : Int32) (0 : Int32)
def f_Ad_assign_L30 (rec : AH → Nat → Int32 → Option (AH)) (y0 : Nat) (y1 : Int32) (y2 : Int32) : Nat → Int32 → AH → Option (AH)
  | 0, _, _ => none
  | n + 1, z3, h =>
    if z3 < (8 : Int32) then
      (gR 1 h y0 7).bind fun r7 =>
      (r7).bind fun a8 =>
      (rI 1 h a8 z3).bind fun x9 =>
      if x9 = (-1 : Int32) then
        (gR 1 h y0 6).bind fun r10 =>
        (r10).bind fun a11 =>
        (wI h a11 y2 z3).bind fun h12 =>
        (gR 1 h12 y0 7).bind fun r13 =>
        (r13).bind fun a14 =>
        (wI h12 a14 z3 y2).bind fun h15 =>
        (cv 1 h15 y0 (rec h15 y0 (y1 + (1 : Int32)))).bind fun h16 =>
        (gR 1 h16 y0 6).bind fun r17 =>
        (r17).bind fun a18 =>
        (wI h16 a18 y2 (-1 : Int32)).bind fun h19 =>
        (gR 1 h19 y0 7).bind fun r20 =>
        (r20).bind fun a21 =>
        (wI h19 a21 z3 (-1 : Int32)).bind fun h22 =>
        f_Ad_assign_L30 rec y0 y1 y2 n (z3 + (1 : Int32)) h22
      else
        f_Ad_assign_L30 rec y0 y1 y2 n (z3 + (1 : Int32)) h
    else
      some h
def f_Ad_assign : Nat → AH → Nat → Int32 → Option (AH)
  | 0, _, _, _ => none
  | n + 1, h0, o, p1 =>
    bd2 (cv 1 h0 o (f_Ad_agree h0 o)) fun x1 h2 =>
    if x1 = (0 : Int32) then
      some h2
    else
      (gI 1 h2 o 5).bind fun x3 =>
      if p1 < x3 then
        (gR 1 h2 o 4).bind fun r4 =>
        (r4).bind fun a5 =>
        (rI 1 h2 a5 p1).bind fun x6 =>
        f_Ad_assign_L30 (fun h o p1 => f_Ad_assign n h o p1) o p1 x6 FU (0 : Int32) h2
      else
        (cv 1 h2 o (f_Ad_keepFound h2 o)).bind fun h23 =>
        some h23
