def f_Ad_find_L64 {ρ : Type} (y0 : Nat) (y3 : Int32) (k : AH → Option (ρ)) : Nat → Int32 → AH → Option (ρ)
  | 0, _, _ => none
  | n + 1, z4, h =>
    if z4 < (8 : Int32) then
      (gI 1 h y0 5).bind fun x14 =>
      if x14 < (5 : Int32) then
        (f_C_hasBit h y3 z4).bind fun x15 =>
        if x15 = (0 : Int32) then
          f_Ad_find_L64 y0 y3 k n (z4 + (1 : Int32)) h
        else
          (gR 1 h y0 4).bind fun r16 =>
          (gI 1 h y0 5).bind fun x17 =>
          (r16).bind fun a18 =>
          (wI h a18 x17 z4).bind fun h19 =>
          (gI 1 h19 y0 5).bind fun x20 =>
          (pI 1 h19 y0 5 (x20 + (1 : Int32))).bind fun h21 =>
          f_Ad_find_L64 y0 y3 k n (z4 + (1 : Int32)) h21
      else
        k h
    else
      k h
def f_Ad_find (h0 : AH) (o : Nat) (p1 : Option Nat) (p2 : Option Nat) : Option (AH) :=
  (gR 1 h0 o 2).bind fun r1 =>
  if rokb p1 then
  if rokb r1 then
  if p1 = r1 then
    (gR 1 h0 o 3).bind fun r2 =>
    if rokb p2 then
    if rokb r2 then
    if p2 = r2 then
      some h0
    else
      (pR 1 h0 o 2 p1).bind fun h3 =>
      (pR 1 h3 o 3 p2).bind fun h4 =>
      (pI 1 h4 o 1 (0 : Int32)).bind fun h5 =>
      (pI 1 h5 o 5 (0 : Int32)).bind fun h6 =>
      (gR 1 h6 o 6).bind fun r7 =>
      (f_jA_fill_I h6 r7 (-1 : Int32)).bind fun h8 =>
      (gR 1 h8 o 7).bind fun r9 =>
      (f_jA_fill_I h8 r9 (-1 : Int32)).bind fun h10 =>
      (gR 1 h10 o 2).bind fun r11 =>
      (r11).bind fun a12 =>
      (cv 9 h10 a12 (f_Ta_messages h10 a12)).bind fun x13 =>
      f_Ad_find_L64 o x13 (fun h22 =>
        (cv 1 h22 o (f_Ad_assign 8 h22 o (0 : Int32))).bind fun h23 =>
        some h23
      ) FU (0 : Int32) h10
    else none
    else none
  else
    (pR 1 h0 o 2 p1).bind fun h24 =>
    (pR 1 h24 o 3 p2).bind fun h25 =>
    (pI 1 h25 o 1 (0 : Int32)).bind fun h26 =>
    (pI 1 h26 o 5 (0 : Int32)).bind fun h27 =>
    (gR 1 h27 o 6).bind fun r28 =>
    (f_jA_fill_I h27 r28 (-1 : Int32)).bind fun h29 =>
    (gR 1 h29 o 7).bind fun r30 =>
    (f_jA_fill_I h29 r30 (-1 : Int32)).bind fun h31 =>
    (gR 1 h31 o 2).bind fun r32 =>
    (r32).bind fun a33 =>
    (cv 9 h31 a33 (f_Ta_messages h31 a33)).bind fun x34 =>
    f_Ad_find_L64 o x34 (fun h35 =>
      (cv 1 h35 o (f_Ad_assign 8 h35 o (0 : Int32))).bind fun h36 =>
      some h36
    ) FU (0 : Int32) h31
  else none
  else none
def f_C_adapt (h0 : AH) (o : Nat) (p1 : Int32) (p2 : Int32) : Option (AH) :=
  (gI 0 h0 o 7).bind fun x1 =>
  (pI 0 h0 o 7 (x1 + (1 : Int32))).bind fun h2 =>
  (gR 0 h2 o 5).bind fun r3 =>
  (gR 0 h2 o 1).bind fun r4 =>
  (r4).bind fun a5 =>
  (rR 9 h2 a5 p1).bind fun r6 =>
  (gR 0 h2 o 1).bind fun r7 =>
  (r7).bind fun a8 =>
  (rR 9 h2 a8 p2).bind fun r9 =>
  (r3).bind fun a10 =>
  (cv 1 h2 a10 (f_Ad_find h2 a10 r6 r9)).bind fun h11 =>
  some h11
def f_C_adapters (h0 : AH) (o : Nat) (p1 : Int32) (p2 : Int32) : Option (Int32 × AH) :=
  (cv 0 h0 o (f_C_adaptingRefusal h0 o p1 p2 (0 : Int32))).bind fun x1 =>
  if x1 = (0 : Int32) then
    (cv 0 h0 o (f_C_adapt h0 o p1 p2)).bind fun h2 =>
    (gR 0 h2 o 5).bind fun r3 =>
    (r3).bind fun a4 =>
    (gI 1 h2 a4 1).bind fun x5 =>
    some (x5, h2)
  else
    some (x1, h0)
def f_Ad_becomes_L16 (h0 : AH) (y0 : Nat) (y1 : Int32) (y2 : Int32) (k : Int32 → Option (Int32)) : Nat → Int32 → Option (Int32)
  | 0, _ => none
  | n + 1, z3 =>
    (gI 1 h0 y0 5).bind fun x2 =>
    if z3 < x2 then
      (gR 1 h0 y0 4).bind fun r3 =>
      (r3).bind fun a4 =>
      (rI 1 h0 a4 z3).bind fun x5 =>
      if x5 = y2 then
        k z3
      else
        f_Ad_becomes_L16 h0 y0 y1 y2 k n (z3 + (1 : Int32))
    else
      some ((-1 : Int32))
def f_Ad_becomes (h0 : AH) (o : Nat) (p1 : Int32) (p2 : Int32) : Option (Int32) :=
  if p1 < (0 : Int32) then
    some ((-1 : Int32))
  else
    (gI 1 h0 o 1).bind fun x1 =>
    if p1 < x1 then
      f_Ad_becomes_L16 h0 o p1 p2 (fun x6 =>
        (gR 1 h0 o 0).bind fun r7 =>
        (r7).bind fun a8 =>
        (rI 1 h0 a8 p1).bind fun x9 =>
        some (((x9 >>> (((4 : Int32) * x6) &&& 31)) &&& (15 : Int32)))
      ) FU (0 : Int32)
    else
      some ((-1 : Int32))
def f_C_adapter (h0 : AH) (o : Nat) (p1 : Int32) (p2 : Int32) (p3 : Int32) (p4 : Int32) : Option (Int32 × AH) :=
  (cv 0 h0 o (f_C_adaptingRefusal h0 o p1 p2 p4)).bind fun x1 =>
  if x1 = (0 : Int32) then
    (cv 0 h0 o (f_C_adapt h0 o p1 p2)).bind fun h2 =>
    (gR 0 h2 o 5).bind fun r3 =>
    (r3).bind fun a4 =>
    (cv 1 h2 a4 (f_Ad_becomes h2 a4 p3 p4)).bind fun x5 =>
    some (x5, h2)
  else
    some (x1, h0)
def f_C_isFacts (h0 : AH) (p1 : Int32) : Option (Int32) :=
  if p1 < (0 : Int32) then
    some ((0 : Int32))
  else
    if (4095 : Int32) < p1 then
      some ((0 : Int32))
    else
      some ((1 : Int32))
def f_He_init (h0 : AH) (o : Nat) (p1 : Int32) (p2 : Int32) (p3 : Int32) : Option (AH) :=
  (nAr 1 h0 (8 : Int32)).bind fun h1 =>
  (pR 4 h1 o 0 (some (hM h0))).bind fun h2 =>
  (gR 4 h2 o 0).bind fun r3 =>
  (rI 1 h2 1 (2 : Int32)).bind fun x4 =>
  (r3).bind fun a5 =>
  (wI h2 a5 (2 : Int32) x4).bind fun h6 =>
  (gR 4 h6 o 0).bind fun r7 =>
  (rI 1 h6 1 (3 : Int32)).bind fun x8 =>
  (r7).bind fun a9 =>
  (wI h6 a9 (3 : Int32) x8).bind fun h10 =>
  (gR 4 h10 o 0).bind fun r11 =>
  (r11).bind fun a12 =>
  (wI h10 a12 (4 : Int32) (-1 : Int32)).bind fun h13 =>
  (gR 4 h13 o 0).bind fun r14 =>
  (r14).bind fun a15 =>
  (wI h13 a15 (5 : Int32) p1).bind fun h16 =>
  (gR 4 h16 o 0).bind fun r17 =>
  (r17).bind fun a18 =>
  (wI h16 a18 (6 : Int32) p2).bind fun h19 =>
  (gR 4 h19 o 0).bind fun r20 =>
  (r20).bind fun a21 =>
  (wI h19 a21 (7 : Int32) p3).bind fun h22 =>
  some h22
def f_Ro_addHelper (h0 : AH) (o : Nat) (p1 : Option Nat) : Option (Int32 × AH) :=
  (gI 8 h0 o 1).bind fun x1 =>
  (
    if x1 < (8 : Int32) then
      (gR 8 h0 o 0).bind fun r2 =>
      (gI 8 h0 o 1).bind fun x3 =>
      (r2).bind fun a4 =>
      (p1).bind fun a6 =>
      (wR 4 h0 a4 x3 (some a6)).bind fun h5 =>
      (gI 8 h5 o 1).bind fun x7 =>
      (pI 8 h5 o 1 (x7 + (1 : Int32))).bind fun h8 =>
      some (h8)
    else
      some (h0)
  ).bind fun h9 =>
  (gI 8 h9 o 1).bind fun x10 =>
  some ((x10 - (1 : Int32)), h9)
def f_C_helper (h0 : AH) (o : Nat) (p1 : Int32) (p2 : Int32) (p3 : Int32) : Option (Int32 × AH) :=
  (f_C_isFacts h0 p1).bind fun x1 =>
  if x1 = (0 : Int32) then
    some ((-102 : Int32), h0)
  else
    (f_C_isFacts h0 p2).bind fun x2 =>
    if x2 = (0 : Int32) then
      some ((-102 : Int32), h0)
    else
      (f_C_isFacts h0 p3).bind fun x3 =>
      if x3 = (0 : Int32) then
        some ((-102 : Int32), h0)
      else
        (gR 0 h0 o 8).bind fun r4 =>
        (r4).bind fun a5 =>
        (gI 8 h0 a5 1).bind fun x6 =>
        if x6 < (8 : Int32) then
          (gR 0 h0 o 8).bind fun r7 =>
          (f_He_init (nO 4 h0) (hM h0) p1 p2 p3).bind fun h9 =>
          (r7).bind fun a10 =>
          bd2 (cv 8 h9 a10 (f_Ro_addHelper h9 a10 (some (hM h0)))) fun x11 h12 =>
          some (x11, h12)
        else
          some ((-104 : Int32), h0)
def f_Ro_helperNumbered (h0 : AH) (o : Nat) (p1 : Int32) : Option (Option Nat) :=
  if p1 < (0 : Int32) then
    some (none)
  else
    (gI 8 h0 o 1).bind fun x1 =>
    if p1 < x1 then
      (gR 8 h0 o 0).bind fun r2 =>
      (r2).bind fun a3 =>
      (rR 4 h0 a3 p1).bind fun r4 =>
      some (r4)
    else
      some (none)
def f_C_set (h0 : AH) (o : Nat) (p1 : Int32) (p2 : Int32) (p3 : Int32) : Option (Int32 × AH) :=
  (gR 0 h0 o 8).bind fun r1 =>
  (r1).bind fun a2 =>
  (cv 8 h0 a2 (f_Ro_helperNumbered h0 a2 p1)).bind fun r3 =>
  onl r3 (
    some ((-101 : Int32), h0)
  ) fun a4 =>
  if p2 < (0 : Int32) then
    some ((-101 : Int32), h0)
  else
    if (4 : Int32) < p2 then
      some ((-101 : Int32), h0)
    else
      if p2 = (4 : Int32) then
        if p3 = (-1 : Int32) then
          (gR 4 h0 a4 0).bind fun r13 =>
          (r13).bind fun a14 =>
          (rI 1 h0 a14 p2).bind fun x15 =>
          (gR 4 h0 a4 0).bind fun r16 =>
          (r16).bind fun a17 =>
          (wI h0 a17 p2 p3).bind fun h18 =>
          some (x15, h18)
        else
          (gR 0 h0 o 8).bind fun r19 =>
          (r19).bind fun a20 =>
          (cv 8 h0 a20 (f_Ro_helperNumbered h0 a20 p3)).bind fun r21 =>
          onl r21 (
            some ((-101 : Int32), h0)
          ) fun a22 =>
          (gR 4 h0 a4 0).bind fun r23 =>
          (r23).bind fun a24 =>
          (rI 1 h0 a24 p2).bind fun x25 =>
          (gR 4 h0 a4 0).bind fun r26 =>
          (r26).bind fun a27 =>
          (wI h0 a27 p2 p3).bind fun h28 =>
          some (x25, h28)
      else
        (rI 1 h0 0 p2).bind fun x5 =>
        if p3 < x5 then
          some ((-102 : Int32), h0)
        else
          (rI 1 h0 1 p2).bind fun x6 =>
          if x6 < p3 then
            some ((-102 : Int32), h0)
          else
            (gR 4 h0 a4 0).bind fun r7 =>
            (r7).bind fun a8 =>
            (rI 1 h0 a8 p2).bind fun x9 =>
            (gR 4 h0 a4 0).bind fun r10 =>
            (r10).bind fun a11 =>
            (wI h0 a11 p2 p3).bind fun h12 =>
            some (x9, h12)
def f_C_isFact (h0 : AH) (p1 : Int32) : Option (Int32) :=
  if p1 < (0 : Int32) then
    some ((0 : Int32))
  else
    if p1 < (12 : Int32) then
      some ((1 : Int32))
    else
      some ((0 : Int32))
def f_C_level (h0 : AH) (o : Nat) (p1 : Int32) (p2 : Int32) : Option (Int32 × AH) :=
  (f_C_isFact h0 p1).bind fun x1 =>
  if x1 = (0 : Int32) then
    some ((-101 : Int32), h0)
  else
    if p2 < (0 : Int32) then
      some ((-102 : Int32), h0)
    else
      if (3 : Int32) < p2 then
        some ((-102 : Int32), h0)
      else
        (gR 0 h0 o 8).bind fun r2 =>
        (r2).bind fun a3 =>
        (gR 8 h0 a3 2).bind fun r4 =>
        (r4).bind fun a5 =>
        (rI 1 h0 a5 p1).bind fun x6 =>
        (gR 0 h0 o 8).bind fun r7 =>
        (r7).bind fun a8 =>
        (gR 8 h0 a8 2).bind fun r9 =>
        (r9).bind fun a10 =>
        (wI h0 a10 p1 p2).bind fun h11 =>
        some (x6, h11)
def f_C_about (h0 : AH) (o : Nat) (p1 : Int32) (p2 : Int32) : Option (Int32) :=
  (gR 0 h0 o 8).bind fun r1 =>
  (r1).bind fun a2 =>
  (cv 8 h0 a2 (f_Ro_helperNumbered h0 a2 p1)).bind fun r3 =>
  onl r3 (
    some ((-101 : Int32))
  ) fun a4 =>
  if p2 < (0 : Int32) then
    some ((-102 : Int32))
  else
    if p2 < (8 : Int32) then
      (gR 4 h0 a4 0).bind fun r5 =>
      (r5).bind fun a6 =>
      (rI 1 h0 a6 p2).bind fun x7 =>
      some (x7)
    else
      some ((-102 : Int32))
def f_C_put (h0 : AH) (o : Nat) (p1 : Int32) : Option (Int32 × AH) :=
  (gR 0 h0 o 8).bind fun r1 =>
  (r1).bind fun a2 =>
  (cv 8 h0 a2 (f_Ro_helperNumbered h0 a2 p1)).bind fun r3 =>
  onl r3 (
    some ((-101 : Int32), h0)
  ) fun a4 =>
  (gR 0 h0 o 8).bind fun r5 =>
  (r5).bind fun a6 =>
  (gI 8 h0 a6 4).bind fun x7 =>
  if x7 < (5 : Int32) then
    (gR 0 h0 o 8).bind fun r8 =>
    (r8).bind fun a9 =>
    (gR 8 h0 a9 3).bind fun r10 =>
    (gR 0 h0 o 8).bind fun r11 =>
    (r11).bind fun a12 =>
    (gI 8 h0 a12 4).bind fun x13 =>
    (r10).bind fun a14 =>
    (wI h0 a14 x13 p1).bind fun h15 =>
    (gR 0 h15 o 8).bind fun r16 =>
    (r16).bind fun a17 =>
    (gI 8 h15 a17 4).bind fun x18 =>
    (pI 8 h15 a17 4 (x18 + (1 : Int32))).bind fun h19 =>
    (gR 0 h19 o 8).bind fun r20 =>
    (r20).bind fun a21 =>
    (gI 8 h19 a21 4).bind fun x22 =>
    some (x22, h19)
  else
    some ((-104 : Int32), h0)
def f_C_empty (h0 : AH) (o : Nat) : Option (Int32 × AH) :=
  (gR 0 h0 o 8).bind fun r1 =>
  (r1).bind fun a2 =>
  (gI 8 h0 a2 4).bind fun x3 =>
  (gR 0 h0 o 8).bind fun r4 =>
  (r4).bind fun a5 =>
  (pI 8 h0 a5 4 (0 : Int32)).bind fun h6 =>
  some (x3, h6)
def f_C_at (h0 : AH) (o : Nat) (p1 : Int32) : Option (Int32) :=
  if p1 < (0 : Int32) then
    some ((-1 : Int32))
  else
    (gR 0 h0 o 8).bind fun r1 =>
    (r1).bind fun a2 =>
    (gI 8 h0 a2 4).bind fun x3 =>
    if p1 < x3 then
      (gR 0 h0 o 8).bind fun r4 =>
      (r4).bind fun a5 =>
      (gR 8 h0 a5 3).bind fun r6 =>
      (r6).bind fun a7 =>
      (rI 1 h0 a7 p1).bind fun x8 =>
      some (x8)
    else
      some ((-1 : Int32))
def f_Go_startWith (h0 : AH) (o : Nat) (p1 : Int32) (p2 : Option Nat) : Option (AH) :=
  (pI 3 h0 o 0 p1).bind fun h1 =>
  (gR 3 h1 o 1).bind fun r2 =>
  (p2).bind fun a3 =>
  (r2).bind fun a4 =>
  (cpI h1 a3 (0 : Int32) a4 (0 : Int32) (12 : Int32)).bind fun h5 =>
  (gR 3 h5 o 2).bind fun r6 =>
  (f_jA_fill_I h5 r6 (0 : Int32)).bind fun h7 =>
  some h7
def f_Ro_helperAt (h0 : AH) (o : Nat) (p1 : Int32) : Option (Option Nat) :=
  (gR 8 h0 o 0).bind fun r1 =>
  (gR 8 h0 o 3).bind fun r2 =>
  (r2).bind fun a3 =>
  (rI 1 h0 a3 p1).bind fun x4 =>
  (r1).bind fun a5 =>
  (rR 4 h0 a5 x4).bind fun r6 =>
  some (r6)
def f_Go_greatestTaint_L4 (h0 : AH) (y0 : Nat) (y1 : Int32) : Nat → Int32 → Int32 → Option (Int32)
  | 0, _, _ => none
  | n + 1, z2, z3 =>
    if z3 < (12 : Int32) then
      (f_C_hasBit h0 y1 z3).bind fun x1 =>
      if x1 = (0 : Int32) then
        f_Go_greatestTaint_L4 h0 y0 y1 n z2 (z3 + (1 : Int32))
      else
        (gR 3 h0 y0 1).bind fun r2 =>
        (r2).bind fun a3 =>
        (rI 1 h0 a3 z3).bind fun x4 =>
        (some ((if z2 < x4 then x4 else z2))).bind fun x5 =>
        f_Go_greatestTaint_L4 h0 y0 y1 n x5 (z3 + (1 : Int32))
    else
      some (z2)
def f_Go_greatestTaint (h0 : AH) (o : Nat) (p1 : Int32) : Option (Int32) :=
  f_Go_greatestTaint_L4 h0 o p1 FU (0 : Int32) (0 : Int32)
def f_Go_isTrusted (h0 : AH) (o : Nat) (p1 : Option Nat) : Option (Int32) :=
  (p1).bind fun a1 =>
  (gR 4 h0 a1 0).bind fun r2 =>
  (r2).bind fun a3 =>
  (rI 1 h0 a3 (5 : Int32)).bind fun x4 =>
  (gI 3 h0 o 0).bind fun x5 =>
  if (x4 &&& (x5 ^^^ (-1 : Int32))) = (0 : Int32) then
    (cv 3 h0 o (f_Go_greatestTaint h0 o x4)).bind fun x6 =>
    (gR 4 h0 a1 0).bind fun r7 =>
    (r7).bind fun a8 =>
    (rI 1 h0 a8 (3 : Int32)).bind fun x9 =>
    if x9 < x6 then
      some ((0 : Int32))
    else
      some ((1 : Int32))
  else
    some ((0 : Int32))
def f_Go_may (h0 : AH) (o : Nat) (p1 : Option Nat) (p2 : Int32) : Option (Int32) :=
  (gR 3 h0 o 2).bind fun r1 =>
  (r1).bind fun a2 =>
  (rI 1 h0 a2 p2).bind fun x3 =>
  (p1).bind fun a4 =>
  (gR 4 h0 a4 0).bind fun r5 =>
  (r5).bind fun a6 =>
  (rI 1 h0 a6 (2 : Int32)).bind fun x7 =>
  if x3 < x7 then
    (cv 3 h0 o (f_Go_isTrusted h0 o (some a4))).bind fun x8 =>
    if x8 = (0 : Int32) then
      some ((0 : Int32))
    else
      some ((1 : Int32))
  else
    some ((0 : Int32))
def f_Go_become (h0 : AH) (o : Nat) (p1 : Option Nat) : Option (AH) :=
  (p1).bind fun a1 =>
  (gI 3 h0 a1 0).bind fun x2 =>
  (pI 3 h0 o 0 x2).bind fun h3 =>
  (gR 3 h3 a1 1).bind fun r4 =>
  (gR 3 h3 o 1).bind fun r5 =>
  (r4).bind fun a6 =>
  (r5).bind fun a7 =>
  (cpI h3 a6 (0 : Int32) a7 (0 : Int32) (12 : Int32)).bind fun h8 =>
  (gR 3 h8 a1 2).bind fun r9 =>
  (gR 3 h8 o 2).bind fun r10 =>
  (r9).bind fun a11 =>
  (r10).bind fun a12 =>
  (cpI h8 a11 (0 : Int32) a12 (0 : Int32) (8 : Int32)).bind fun h13 =>
  some h13
def f_Go_go_L45 {ρ : Type} (y0 : Nat) (y2 : Int32) (y3 : Option Nat) (y4 : Int32) (y5 : Int32) (k : AH → Option (ρ)) : Nat → Int32 → AH → Option (ρ)
  | 0, _, _ => none
  | n + 1, z6, h =>
    if z6 < (12 : Int32) then
      (f_C_hasBit h y5 z6).bind fun x14 =>
      if x14 = (0 : Int32) then
        f_Go_go_L45 y0 y2 y3 y4 y5 k n (z6 + (1 : Int32)) h
      else
        (gR 3 h y0 1).bind fun r15 =>
        (y3).bind fun a16 =>
        (rI 1 h a16 z6).bind fun x17 =>
        (r15).bind fun a18 =>
        (wI h a18 z6 (if x17 < y4 then y4 else x17)).bind fun h19 =>
        f_Go_go_L45 y0 y2 y3 y4 y5 k n (z6 + (1 : Int32)) h19
    else
      k h
def f_Go_go (h0 : AH) (o : Nat) (p1 : Option Nat) (p2 : Int32) (p3 : Option Nat) : Option (AH) :=
  (p1).bind fun a1 =>
  (gR 4 h0 a1 0).bind fun r2 =>
  (r2).bind fun a3 =>
  (rI 1 h0 a3 (5 : Int32)).bind fun x4 =>
  (cv 3 h0 o (f_Go_greatestTaint h0 o x4)).bind fun x5 =>
  (gR 4 h0 a1 0).bind fun r6 =>
  (r6).bind fun a7 =>
  (rI 1 h0 a7 (6 : Int32)).bind fun x8 =>
  (gI 3 h0 o 0).bind fun x9 =>
  (gR 4 h0 a1 0).bind fun r10 =>
  (r10).bind fun a11 =>
  (rI 1 h0 a11 (7 : Int32)).bind fun x12 =>
  (pI 3 h0 o 0 ((x9 &&& (x12 ^^^ (-1 : Int32))) ||| x8)).bind fun h13 =>
  f_Go_go_L45 o p2 p3 x5 x8 (fun h20 =>
    (gR 3 h20 o 2).bind fun r21 =>
    (r21).bind fun a22 =>
    (rI 1 h20 a22 p2).bind fun x23 =>
    (wI h20 a22 p2 (x23 + (1 : Int32))).bind fun h24 =>
    some h24
  ) FU (0 : Int32) h13
def f_Ro_goOn (h0 : AH) (o : Nat) (p1 : Int32) (p2 : Int32) : Option (AH) :=
  (gR 8 h0 o 5).bind fun r1 =>
  (r1).bind fun a2 =>
  (rR 3 h0 a2 (p1 + (1 : Int32))).bind fun r3 =>
  (gR 8 h0 o 5).bind fun r4 =>
  (r4).bind fun a5 =>
  (rR 3 h0 a5 p1).bind fun r6 =>
  (r3).bind fun a7 =>
  (cv 3 h0 a7 (f_Go_become h0 a7 r6)).bind fun h8 =>
  (gR 8 h8 o 5).bind fun r9 =>
  (r9).bind fun a10 =>
  (rR 3 h8 a10 (p1 + (1 : Int32))).bind fun r11 =>
  (gR 8 h8 o 0).bind fun r12 =>
  (r12).bind fun a13 =>
  (rR 4 h8 a13 p2).bind fun r14 =>
  (gR 8 h8 o 2).bind fun r15 =>
  (r11).bind fun a16 =>
  (cv 3 h8 a16 (f_Go_go h8 a16 r14 p2 r15)).bind fun h17 =>
  some h17
def f_Ro_firstStop_L16 (y0 : Nat) : Nat → Int32 → AH → Option (Int32 × AH)
  | 0, _, _ => none
  | n + 1, z2, h =>
    (gI 8 h y0 4).bind fun x7 =>
    if z2 < x7 then
      (gR 8 h y0 5).bind fun r8 =>
      (r8).bind fun a9 =>
      (rR 3 h a9 z2).bind fun r10 =>
      (cv 8 h y0 (f_Ro_helperAt h y0 z2)).bind fun r11 =>
      (gR 8 h y0 3).bind fun r12 =>
      (r12).bind fun a13 =>
      (rI 1 h a13 z2).bind fun x14 =>
      (r10).bind fun a15 =>
      (cv 3 h a15 (f_Go_may h a15 r11 x14)).bind fun x16 =>
      if x16 = (0 : Int32) then
        some (z2, h)
      else
        (gR 8 h y0 3).bind fun r17 =>
        (r17).bind fun a18 =>
        (rI 1 h a18 z2).bind fun x19 =>
        (cv 8 h y0 (f_Ro_goOn h y0 z2 x19)).bind fun h20 =>
        f_Ro_firstStop_L16 y0 n (z2 + (1 : Int32)) h20
    else
      some ((-1 : Int32), h)
def f_Ro_firstStop (h0 : AH) (o : Nat) (p1 : Int32) : Option (Int32 × AH) :=
  (gR 8 h0 o 5).bind fun r1 =>
  (r1).bind fun a2 =>
  (rR 3 h0 a2 (0 : Int32)).bind fun r3 =>
  (gR 8 h0 o 2).bind fun r4 =>
  (r3).bind fun a5 =>
  (cv 3 h0 a5 (f_Go_startWith h0 a5 p1 r4)).bind fun h6 =>
  f_Ro_firstStop_L16 o FU (0 : Int32) h6
def f_C_stops (h0 : AH) (o : Nat) (p1 : Int32) : Option (Int32 × AH) :=
  (f_C_isFacts h0 p1).bind fun x1 =>
  if x1 = (0 : Int32) then
    some ((-102 : Int32), h0)
  else
    (gR 0 h0 o 8).bind fun r2 =>
    (r2).bind fun a3 =>
    bd2 (cv 8 h0 a3 (f_Ro_firstStop h0 a3 p1)) fun x4 h5 =>
    some (x4, h5)
def f_C_goingRefusal (h0 : AH) (o : Nat) (p1 : Int32) : Option (Int32 × AH) :=
  (f_C_isFacts h0 p1).bind fun x1 =>
  if x1 = (0 : Int32) then
    some ((-102 : Int32), h0)
  else
    (gR 0 h0 o 8).bind fun r2 =>
    (r2).bind fun a3 =>
    bd2 (cv 8 h0 a3 (f_Ro_firstStop h0 a3 p1)) fun x4 h5 =>
    if x4 = (-1 : Int32) then
      some ((0 : Int32), h5)
    else
      some ((-103 : Int32), h5)
def f_Ro_end (h0 : AH) (o : Nat) : Option (Option Nat) :=
  (gR 8 h0 o 5).bind fun r1 =>
  (gI 8 h0 o 4).bind fun x2 =>
  (r1).bind fun a3 =>
  (rR 3 h0 a3 x2).bind fun r4 =>
  some (r4)
def f_C_after (h0 : AH) (o : Nat) (p1 : Int32) : Option (Int32 × AH) :=
  bd2 (cv 0 h0 o (f_C_goingRefusal h0 o p1)) fun x1 h2 =>
  if x1 = (0 : Int32) then
    (gR 0 h2 o 8).bind fun r3 =>
    (r3).bind fun a4 =>
    (cv 8 h2 a4 (f_Ro_end h2 a4)).bind fun r5 =>
    (r5).bind fun a6 =>
    (gI 3 h2 a6 0).bind fun x7 =>
    some (x7, h2)
  else
    some (x1, h2)
def f_C_taint (h0 : AH) (o : Nat) (p1 : Int32) (p2 : Int32) : Option (Int32 × AH) :=
  (f_C_isFact h0 p2).bind fun x1 =>
  if x1 = (0 : Int32) then
    some ((-101 : Int32), h0)
  else
    bd2 (cv 0 h0 o (f_C_goingRefusal h0 o p1)) fun x2 h3 =>
    if x2 = (0 : Int32) then
      (gR 0 h3 o 8).bind fun r4 =>
      (r4).bind fun a5 =>
      (cv 8 h3 a5 (f_Ro_end h3 a5)).bind fun r6 =>
      (r6).bind fun a7 =>
      (gI 3 h3 a7 0).bind fun x8 =>
      (f_C_hasBit h3 x8 p2).bind fun x9 =>
      if x9 = (0 : Int32) then
        some ((-1 : Int32), h3)
      else
        (gR 3 h3 a7 1).bind fun r10 =>
        (r10).bind fun a11 =>
        (rI 1 h3 a11 p2).bind fun x12 =>
        some (x12, h3)
    else
      some (x2, h3)
def f_Ro_sumOfPrices_L4 (h0 : AH) (y0 : Nat) : Nat → Int32 → Int32 → Option (Int32)
  | 0, _, _ => none
  | n + 1, z1, z2 =>
    (gI 8 h0 y0 4).bind fun x1 =>
    if z2 < x1 then
      (cv 8 h0 y0 (f_Ro_helperAt h0 y0 z2)).bind fun r2 =>
      (r2).bind fun a3 =>
      (gR 4 h0 a3 0).bind fun r4 =>
      (r4).bind fun a5 =>
      (rI 1 h0 a5 (0 : Int32)).bind fun x6 =>
      (some ((z1 + x6))).bind fun x7 =>
      f_Ro_sumOfPrices_L4 h0 y0 n x7 (z2 + (1 : Int32))
    else
      some (z1)
def f_Ro_sumOfPrices (h0 : AH) (o : Nat) : Option (Int32) :=
  f_Ro_sumOfPrices_L4 h0 o FU (0 : Int32) (0 : Int32)
def f_C_costs (h0 : AH) (o : Nat) : Option (Int32) :=
  (gR 0 h0 o 8).bind fun r1 =>
  (r1).bind fun a2 =>
  (cv 8 h0 a2 (f_Ro_sumOfPrices h0 a2)).bind fun x3 =>
  some (x3)
