def f_Le_init (h0 : AH) (o : Nat) : Option (Unit) :=
  some ()
def f_Pa_init_L44 (y0 : Nat) : Nat → Int32 → AH → Option (AH)
  | 0, _, _ => none
  | n + 1, z1, h =>
    (gR 7 h y0 2).bind fun r10 =>
    (r10).bind fun a11 =>
    (alen 15 h a11).bind fun x12 =>
    if z1 < x12 then
      (gR 7 h y0 2).bind fun r13 =>
      (f_Le_init (nO 5 h) (hM h)).bind fun u15 =>
      (r13).bind fun a16 =>
      (wR 5 (nO 5 h) a16 z1 (some (hM h))).bind fun h17 =>
      f_Pa_init_L44 y0 n (z1 + (1 : Int32)) h17
    else
      some h
def f_Pa_init (h0 : AH) (o : Nat) : Option (AH) :=
  (nAr 1 h0 (80 : Int32)).bind fun h1 =>
  (pR 7 h1 o 0 (some (hM h0))).bind fun h2 =>
  (nAr 15 h2 (81 : Int32)).bind fun h3 =>
  (pR 7 h3 o 2 (some (hM h2))).bind fun h4 =>
  (nAr 1 h4 (41 : Int32)).bind fun h5 =>
  (pR 7 h5 o 5 (some (hM h4))).bind fun h6 =>
  (nAr 4 h6 (41 : Int32)).bind fun h7 =>
  (pR 7 h7 o 6 (some (hM h6))).bind fun h8 =>
  (pI 7 h8 o 7 (-1 : Int32)).bind fun h9 =>
  f_Pa_init_L44 o FU (0 : Int32) h9
def f_Wa_init (h0 : AH) (o : Nat) : Option (AH) :=
  (nAr 1 h0 (4000 : Int32)).bind fun h1 =>
  (pR 10 h1 o 0 (some (hM h0))).bind fun h2 =>
  (nAr 1 h2 (4000 : Int32)).bind fun h3 =>
  (pR 10 h3 o 1 (some (hM h2))).bind fun h4 =>
  (nAr 1 h4 (4000 : Int32)).bind fun h5 =>
  (pR 10 h5 o 2 (some (hM h4))).bind fun h6 =>
  (nAr 1 h6 (8192 : Int32)).bind fun h7 =>
  (pR 10 h7 o 4 (some (hM h6))).bind fun h8 =>
  (nAr 1 h8 (4000 : Int32)).bind fun h9 =>
  (pR 10 h9 o 6 (some (hM h8))).bind fun h10 =>
  some h10
def f_Fi_init (h0 : AH) (o : Nat) : Option (AH) :=
  (nAr 1 h0 (25 : Int32)).bind fun h1 =>
  (pR 2 h1 o 0 (some (hM h0))).bind fun h2 =>
  some h2
def f_Ad_init (h0 : AH) (o : Nat) : Option (AH) :=
  (nAr 1 h0 (6720 : Int32)).bind fun h1 =>
  (pR 1 h1 o 0 (some (hM h0))).bind fun h2 =>
  (nAr 1 h2 (5 : Int32)).bind fun h3 =>
  (pR 1 h3 o 4 (some (hM h2))).bind fun h4 =>
  (nAr 1 h4 (8 : Int32)).bind fun h5 =>
  (pR 1 h5 o 6 (some (hM h4))).bind fun h6 =>
  (nAr 1 h6 (8 : Int32)).bind fun h7 =>
  (pR 1 h7 o 7 (some (hM h6))).bind fun h8 =>
  (nAr 1 h8 (25 : Int32)).bind fun h9 =>
  (pR 1 h9 o 8 (some (hM h8))).bind fun h10 =>
  (nAr 1 h10 (625 : Int32)).bind fun h11 =>
  (pR 1 h11 o 9 (some (hM h10))).bind fun h12 =>
  some h12
def f_Go_init (h0 : AH) (o : Nat) : Option (AH) :=
  (nAr 1 h0 (12 : Int32)).bind fun h1 =>
  (pR 3 h1 o 1 (some (hM h0))).bind fun h2 =>
  (nAr 1 h2 (8 : Int32)).bind fun h3 =>
  (pR 3 h3 o 2 (some (hM h2))).bind fun h4 =>
  some h4
def f_Ro_init_L64 (y0 : Nat) : Nat → Int32 → AH → Option (AH)
  | 0, _, _ => none
  | n + 1, z1, h =>
    (gR 8 h y0 5).bind fun r16 =>
    (r16).bind fun a17 =>
    (alen 13 h a17).bind fun x18 =>
    if z1 < x18 then
      (gR 8 h y0 5).bind fun r19 =>
      (f_Go_init (nO 3 h) (hM h)).bind fun h21 =>
      (r19).bind fun a22 =>
      (wR 3 h21 a22 z1 (some (hM h))).bind fun h23 =>
      f_Ro_init_L64 y0 n (z1 + (1 : Int32)) h23
    else
      some h
def f_Ro_init (h0 : AH) (o : Nat) : Option (AH) :=
  (nAr 14 h0 (8 : Int32)).bind fun h1 =>
  (pR 8 h1 o 0 (some (hM h0))).bind fun h2 =>
  (nAr 1 h2 (12 : Int32)).bind fun h3 =>
  (pR 8 h3 o 2 (some (hM h2))).bind fun h4 =>
  (nAr 1 h4 (5 : Int32)).bind fun h5 =>
  (pR 8 h5 o 3 (some (hM h4))).bind fun h6 =>
  (nAr 13 h6 (6 : Int32)).bind fun h7 =>
  (pR 8 h7 o 5 (some (hM h6))).bind fun h8 =>
  (f_Go_init (nO 3 h8) (hM h8)).bind fun h10 =>
  (pR 8 h10 o 6 (some (hM h8))).bind fun h11 =>
  (nAr 1 h11 (5 : Int32)).bind fun h12 =>
  (pR 8 h12 o 7 (some (hM h11))).bind fun h13 =>
  (nAr 1 h13 (5 : Int32)).bind fun h14 =>
  (pR 8 h14 o 8 (some (hM h13))).bind fun h15 =>
  f_Ro_init_L64 o FU (0 : Int32) h15
def f_Wo_init (h0 : AH) (o : Nat) : Option (AH) :=
  (nAr 4 h0 (64 : Int32)).bind fun h1 =>
  (pR 11 h1 o 0 (some (hM h0))).bind fun h2 =>
  some h2
def f_Lo_init_L26 (y0 : Nat) : Nat → Int32 → AH → Option (AH)
  | 0, _, _ => none
  | n + 1, z1, h =>
    (gR 6 h y0 0).bind fun r6 =>
    (r6).bind fun a7 =>
    (alen 21 h a7).bind fun x8 =>
    if z1 < x8 then
      (gR 6 h y0 0).bind fun r9 =>
      (f_Wo_init (nO 11 h) (hM h)).bind fun h11 =>
      (r9).bind fun a12 =>
      (wR 11 h11 a12 z1 (some (hM h))).bind fun h13 =>
      f_Lo_init_L26 y0 n (z1 + (1 : Int32)) h13
    else
      some h
def f_Lo_init (h0 : AH) (o : Nat) : Option (AH) :=
  (nAr 21 h0 (31 : Int32)).bind fun h1 =>
  (pR 6 h1 o 0 (some (hM h0))).bind fun h2 =>
  (f_Wo_init (nO 11 h2) (hM h2)).bind fun h4 =>
  (pR 6 h4 o 2 (some (hM h2))).bind fun h5 =>
  f_Lo_init_L26 o FU (0 : Int32) h5
def f_jA_fill_J_L6 (y0 : Nat) (y1 : Int64) (y4 : Int32) : Nat → Int32 → AH → Option (AH)
  | 0, _, _ => none
  | n + 1, z3, h =>
    if z3 < y4 then
      (wJ h y0 z3 y1).bind fun h3 =>
      f_jA_fill_J_L6 y0 y1 y4 n (z3 + (1 : Int32)) h3
    else
      some h
def f_jA_fill_J (h0 : AH) (p1 : Option Nat) (p2 : Int64) : Option (AH) :=
  (p1).bind fun a1 =>
  (alen 4 h0 a1).bind fun x2 =>
  f_jA_fill_J_L6 a1 p2 x2 FU (0 : Int32) h0
def f_Wo_becomeOnly (h0 : AH) (o : Nat) (p1 : Int32) : Option (AH) :=
  (gR 11 h0 o 0).bind fun r1 =>
  (f_jA_fill_J h0 r1 (0 : Int64)).bind fun h2 =>
  (gR 11 h2 o 0).bind fun r3 =>
  (r3).bind fun a4 =>
  (wJ h2 a4 ((p1 >>> ((6 : Int32) &&& 31)) &&& (63 : Int32)) (xlshl (1 : Int64) (p1 &&& (63 : Int32)))).bind fun h5 =>
  some h5
def f_Lo_startWith (h0 : AH) (o : Nat) (p1 : Int32) : Option (AH) :=
  (pI 6 h0 o 1 (0 : Int32)).bind fun h1 =>
  (gR 6 h1 o 0).bind fun r2 =>
  (r2).bind fun a3 =>
  (rR 11 h1 a3 (0 : Int32)).bind fun r4 =>
  (r4).bind fun a5 =>
  (cv 11 h1 a5 (f_Wo_becomeOnly h1 a5 p1)).bind fun h6 =>
  some h6
def f_C_init (h0 : AH) (o : Nat) : Option (AH) :=
  (f_Pa_init (nO 7 h0) (hM h0)).bind fun h2 =>
  (pR 0 h2 o 0 (some (hM h0))).bind fun h3 =>
  (nAr 19 h3 (6 : Int32)).bind fun h4 =>
  (pR 0 h4 o 1 (some (hM h3))).bind fun h5 =>
  (f_Wa_init (nO 10 h5) (hM h5)).bind fun h7 =>
  (pR 0 h7 o 3 (some (hM h5))).bind fun h8 =>
  (f_Fi_init (nO 2 h8) (hM h8)).bind fun h10 =>
  (pR 0 h10 o 4 (some (hM h8))).bind fun h11 =>
  (f_Ad_init (nO 1 h11) (hM h11)).bind fun h13 =>
  (pR 0 h13 o 5 (some (hM h11))).bind fun h14 =>
  (f_Ro_init (nO 8 h14) (hM h14)).bind fun h16 =>
  (pR 0 h16 o 8 (some (hM h14))).bind fun h17 =>
  (f_Lo_init (nO 6 h17) (hM h17)).bind fun h19 =>
  (pR 0 h19 o 10 (some (hM h17))).bind fun h20 =>
  (gR 0 h20 o 10).bind fun r21 =>
  (r21).bind fun a22 =>
  (cv 6 h20 a22 (f_Lo_startWith h20 a22 (0 : Int32))).bind fun h23 =>
  some h23
def f_Pa_lettersIn_L7 (h0 : AH) (y0 : Int64) : Nat → Int32 → Int32 → Int32 → Option (Int32)
  | 0, _, _, _ => none
  | n + 1, z2, z3, z4 =>
    if z4 < (8 : Int32) then
      (some (((((xlushr y0 ((8 : Int32) * z4))).toInt32) &&& (255 : Int32)))).bind fun x1 =>
      if (126 : Int32) < x1 then
        some ((-1 : Int32))
      else
        if z3 = (0 : Int32) then
          (
            if x1 = (0 : Int32) then
              some ((1 : Int32))
            else
              some ((0 : Int32))
          ).bind fun x2 =>
          (
            if x2 = (0 : Int32) then
              some ((1 : Int32))
            else
              some ((0 : Int32))
          ).bind fun x3 =>
          (some ((z2 + x3))).bind fun x4 =>
          f_Pa_lettersIn_L7 h0 y0 n x4 x2 (z4 + (1 : Int32))
        else
          if x1 = (0 : Int32) then
            (
              if x1 = (0 : Int32) then
                some ((1 : Int32))
              else
                some ((0 : Int32))
            ).bind fun x5 =>
            (
              if x5 = (0 : Int32) then
                some ((1 : Int32))
              else
                some ((0 : Int32))
            ).bind fun x6 =>
            (some ((z2 + x6))).bind fun x7 =>
            f_Pa_lettersIn_L7 h0 y0 n x7 x5 (z4 + (1 : Int32))
          else
            some ((-1 : Int32))
    else
      some (z2)
def f_Pa_lettersIn (h0 : AH) (p1 : Int64) : Option (Int32) :=
  f_Pa_lettersIn_L7 h0 p1 FU (0 : Int32) (0 : Int32) (0 : Int32)
def f_Pa_write_L3 (y0 : Nat) (y1 : Int64) (y3 : Int32) : Nat → Int32 → AH → Option (AH)
  | 0, _, _ => none
  | n + 1, z4, h =>
    if z4 < y3 then
      (gI 7 h y0 1).bind fun x1 =>
      if x1 < (80 : Int32) then
        (gR 7 h y0 0).bind fun r2 =>
        (gI 7 h y0 1).bind fun x3 =>
        (r2).bind fun a4 =>
        (wI h a4 x3 ((((xlushr y1 ((8 : Int32) * z4))).toInt32) &&& (255 : Int32))).bind fun h5 =>
        (gI 7 h5 y0 1).bind fun x6 =>
        (pI 7 h5 y0 1 (x6 + (1 : Int32))).bind fun h7 =>
        f_Pa_write_L3 y0 y1 y3 n (z4 + (1 : Int32)) h7
      else
        some h
    else
      some h
def f_Pa_write (h0 : AH) (o : Nat) (p1 : Int64) (p2 : Int32) : Option (AH) :=
  f_Pa_write_L3 o p1 p2 FU (0 : Int32) h0
def f_C_letters (h0 : AH) (o : Nat) (p1 : Int64) : Option (Int32 × AH) :=
  (f_Pa_lettersIn h0 p1).bind fun x1 =>
  if x1 = (-1 : Int32) then
    some ((-102 : Int32), h0)
  else
    (gR 0 h0 o 0).bind fun r2 =>
    (r2).bind fun a3 =>
    (gI 7 h0 a3 1).bind fun x4 =>
    if (80 : Int32) < (x4 + x1) then
      some ((-104 : Int32), h0)
    else
      (gR 0 h0 o 0).bind fun r5 =>
      (r5).bind fun a6 =>
      (cv 7 h0 a6 (f_Pa_write h0 a6 p1 x1)).bind fun h7 =>
      (gR 0 h7 o 0).bind fun r8 =>
      (r8).bind fun a9 =>
      (gI 7 h7 a9 1).bind fun x10 =>
      some (x10, h7)
def f_C_blank (h0 : AH) (o : Nat) : Option (Int32 × AH) :=
  (gR 0 h0 o 0).bind fun r1 =>
  (r1).bind fun a2 =>
  (gI 7 h0 a2 1).bind fun x3 =>
  (gR 0 h0 o 0).bind fun r4 =>
  (r4).bind fun a5 =>
  (pI 7 h0 a5 1 (0 : Int32)).bind fun h6 =>
  some (x3, h6)
def f_Le_startTalk (h0 : AH) (o : Nat) : Option (AH) :=
  (pZ 5 h0 o 2 (0 : Int32)).bind fun h1 =>
  (pJ 5 h1 o 3 (0 : Int64)).bind fun h2 =>
  (pJ 5 h2 o 4 (0 : Int64)).bind fun h3 =>
  (pZ 5 h3 o 5 (1 : Int32)).bind fun h4 =>
  some h4
def f_Le_open (h0 : AH) (o : Nat) (p1 : Int32) : Option (AH) :=
  (pI 5 h0 o 0 p1).bind fun h1 =>
  (pZ 5 h1 o 1 (0 : Int32)).bind fun h2 =>
  (pJ 5 h2 o 6 (0 : Int64)).bind fun h3 =>
  (pJ 5 h3 o 7 (0 : Int64)).bind fun h4 =>
  (pZ 5 h4 o 8 (0 : Int32)).bind fun h5 =>
  (cv 5 h5 o (f_Le_startTalk h5 o)).bind fun h6 =>
  some h6
def f_C_isMessage (h0 : AH) (p1 : Int32) : Option (Int32) :=
  if p1 < (0 : Int32) then
    some ((0 : Int32))
  else
    if p1 < (8 : Int32) then
      some ((1 : Int32))
    else
      some ((0 : Int32))
def f_Pa_link_L3 (y0 : Nat) (y1 : Int64) (y3 : Int64) : Nat → Int32 → AH → Option (AH)
  | 0, _, _ => none
  | n + 1, z5, h =>
    (gI 7 h y0 4).bind fun x1 =>
    if x1 < z5 then
      some h
    else
      if (lg_cmp ((xlshr y1 z5) &&& (1 : Int64)) (0 : Int64)) = (0 : Int32) then
        f_Pa_link_L3 y0 y1 y3 n (z5 + (1 : Int32)) h
      else
        (gR 7 h y0 6).bind fun r2 =>
        (r2).bind fun a3 =>
        (rJ h a3 z5).bind fun x4 =>
        (wJ h a3 z5 (x4 ||| y3)).bind fun h5 =>
        f_Pa_link_L3 y0 y1 y3 n (z5 + (1 : Int32)) h5
def f_Pa_link (h0 : AH) (o : Nat) (p1 : Int64) (p2 : Int64) : Option (AH) :=
  f_Pa_link_L3 o p1 p2 FU (1 : Int32) h0
def f_Pa_append (h0 : AH) (o : Nat) (p1 : Int64) (p2 : Int64) (p3 : Int32) : Option (AH) :=
  (gR 7 h0 o 2).bind fun r1 =>
  (gI 7 h0 o 3).bind fun x2 =>
  (r1).bind fun a3 =>
  (rR 5 h0 a3 x2).bind fun r4 =>
  (r4).bind fun a5 =>
  (gJ 5 h0 a5 4).bind fun x6 =>
  (cv 7 h0 o (f_Pa_link h0 o x6 p1)).bind fun h7 =>
  (gI 5 h7 a5 5).bind fun x8 =>
  (
    if x8 = (0 : Int32) then
      some (h7)
    else
      (gJ 5 h7 a5 3).bind fun x9 =>
      (pJ 5 h7 a5 3 (x9 ||| p1)).bind fun h10 =>
      some (h10)
  ).bind fun h11 =>
  (
    if p3 = (0 : Int32) then
      some (p2)
    else
      (gJ 5 h11 a5 4).bind fun x12 =>
      some ((x12 ||| p2))
  ).bind fun x13 =>
  (pJ 5 h11 a5 4 x13).bind fun h14 =>
  (gI 5 h14 a5 5).bind fun x15 =>
  (pZ 5 h14 a5 5 (x15 &&& p3)).bind fun h16 =>
  (pZ 5 h16 a5 2 (1 : Int32)).bind fun h17 =>
  some h17
def f_Pa_acceptsMessage (h0 : AH) (o : Nat) (p1 : Int32) : Option (Int32 × AH) :=
  (f_C_isMessage h0 p1).bind fun x1 =>
  if x1 = (0 : Int32) then
    some ((0 : Int32), h0)
  else
    (gI 7 h0 o 4).bind fun x2 =>
    if x2 < (40 : Int32) then
      (gI 7 h0 o 4).bind fun x3 =>
      (pI 7 h0 o 4 (x3 + (1 : Int32))).bind fun h4 =>
      (gR 7 h4 o 5).bind fun r5 =>
      (gI 7 h4 o 4).bind fun x6 =>
      (gI 7 h4 o 7).bind fun x7 =>
      (r5).bind fun a8 =>
      (wI h4 a8 x6 ((x7 * (8 : Int32)) + p1)).bind fun h9 =>
      (gR 7 h9 o 6).bind fun r10 =>
      (gI 7 h9 o 4).bind fun x11 =>
      (r10).bind fun a12 =>
      (wJ h9 a12 x11 (0 : Int64)).bind fun h13 =>
      (pI 7 h13 o 7 (-1 : Int32)).bind fun h14 =>
      (gI 7 h14 o 4).bind fun x15 =>
      (gI 7 h14 o 4).bind fun x16 =>
      (cv 7 h14 o (f_Pa_append h14 o (xlshl (1 : Int64) x15) (xlshl (1 : Int64) x16) (0 : Int32))).bind fun h17 =>
      some ((1 : Int32), h17)
    else
      some ((0 : Int32), h0)
def f_Pa_opens (h0 : AH) (o : Nat) (p1 : Int32) : Option (Int32 × AH) :=
  (gI 7 h0 o 3).bind fun x1 =>
  if x1 < (80 : Int32) then
    (gI 7 h0 o 3).bind fun x2 =>
    (pI 7 h0 o 3 (x2 + (1 : Int32))).bind fun h3 =>
    (gR 7 h3 o 2).bind fun r4 =>
    (gI 7 h3 o 3).bind fun x5 =>
    (r4).bind fun a6 =>
    (rR 5 h3 a6 x5).bind fun r7 =>
    (r7).bind fun a8 =>
    (cv 5 h3 a8 (f_Le_open h3 a8 p1)).bind fun h9 =>
    some ((1 : Int32), h9)
  else
    some ((0 : Int32), h0)
def f_Le_mayBar (h0 : AH) (o : Nat) : Option (Int32) :=
  (gI 5 h0 o 0).bind fun x1 =>
  if x1 = (40 : Int32) then
    (gI 5 h0 o 2).bind fun x2 =>
    if x2 = (0 : Int32) then
      some ((0 : Int32))
    else
      some ((1 : Int32))
  else
    some ((0 : Int32))
def f_Le_endBranch (h0 : AH) (o : Nat) : Option (AH) :=
  (gJ 5 h0 o 6).bind fun x1 =>
  (gJ 5 h0 o 3).bind fun x2 =>
  (pJ 5 h0 o 6 (x1 ||| x2)).bind fun h3 =>
  (gJ 5 h3 o 7).bind fun x4 =>
  (gJ 5 h3 o 4).bind fun x5 =>
  (pJ 5 h3 o 7 (x4 ||| x5)).bind fun h6 =>
  (gI 5 h6 o 8).bind fun x7 =>
  (gI 5 h6 o 5).bind fun x8 =>
  (pZ 5 h6 o 8 (x7 ||| x8)).bind fun h9 =>
  (cv 5 h9 o (f_Le_startTalk h9 o)).bind fun h10 =>
  some h10
def f_Pa_bars (h0 : AH) (o : Nat) : Option (Int32 × AH) :=
  (gR 7 h0 o 2).bind fun r1 =>
  (gI 7 h0 o 3).bind fun x2 =>
  (r1).bind fun a3 =>
  (rR 5 h0 a3 x2).bind fun r4 =>
  (r4).bind fun a5 =>
  (cv 5 h0 a5 (f_Le_mayBar h0 a5)).bind fun x6 =>
  if x6 = (0 : Int32) then
    some ((0 : Int32), h0)
  else
    (pZ 5 h0 a5 1 (1 : Int32)).bind fun h7 =>
    (cv 5 h7 a5 (f_Le_endBranch h7 a5)).bind fun h8 =>
    some ((1 : Int32), h8)
def f_Le_mayClose (h0 : AH) (o : Nat) (p1 : Int32) : Option (Int32) :=
  (gI 5 h0 o 2).bind fun x1 =>
  if x1 = (0 : Int32) then
    some ((0 : Int32))
  else
    if p1 = (41 : Int32) then
      (gI 5 h0 o 0).bind fun x3 =>
      if x3 = (40 : Int32) then
        (gI 5 h0 o 1).bind fun x4 =>
        if x4 = (0 : Int32) then
          some ((0 : Int32))
        else
          some ((1 : Int32))
      else
        some ((0 : Int32))
    else
      (gI 5 h0 o 0).bind fun x2 =>
      if x2 = (123 : Int32) then
        some ((1 : Int32))
      else
        some ((0 : Int32))
def f_Pa_closes (h0 : AH) (o : Nat) (p1 : Int32) : Option (Int32 × AH) :=
  (gR 7 h0 o 2).bind fun r1 =>
  (gI 7 h0 o 3).bind fun x2 =>
  (r1).bind fun a3 =>
  (rR 5 h0 a3 x2).bind fun r4 =>
  (gI 7 h0 o 3).bind fun x5 =>
  if x5 = (0 : Int32) then
    some ((0 : Int32), h0)
  else
    (r4).bind fun a6 =>
    (cv 5 h0 a6 (f_Le_mayClose h0 a6 p1)).bind fun x7 =>
    if x7 = (0 : Int32) then
      some ((0 : Int32), h0)
    else
      (gI 7 h0 o 3).bind fun x8 =>
      (pI 7 h0 o 3 (x8 - (1 : Int32))).bind fun h9 =>
      if p1 = (125 : Int32) then
        (gJ 5 h9 a6 4).bind fun x15 =>
        (gJ 5 h9 a6 3).bind fun x16 =>
        (cv 7 h9 o (f_Pa_link h9 o x15 x16)).bind fun h17 =>
        (gJ 5 h17 a6 3).bind fun x18 =>
        (gJ 5 h17 a6 4).bind fun x19 =>
        (cv 7 h17 o (f_Pa_append h17 o x18 x19 (1 : Int32))).bind fun h20 =>
        some ((1 : Int32), h20)
      else
        (cv 5 h9 a6 (f_Le_endBranch h9 a6)).bind fun h10 =>
        (gJ 5 h10 a6 6).bind fun x11 =>
        (gJ 5 h10 a6 7).bind fun x12 =>
        (gI 5 h10 a6 8).bind fun x13 =>
        (cv 7 h10 o (f_Pa_append h10 o x11 x12 x13)).bind fun h14 =>
        some ((1 : Int32), h14)
def f_Pa_accepts (h0 : AH) (o : Nat) (p1 : Int32) : Option (Int32 × AH) :=
  (gI 7 h0 o 7).bind fun x1 =>
  if x1 = (-1 : Int32) then
    if p1 = (33 : Int32) then
      (pI 7 h0 o 7 (1 : Int32)).bind fun h14 =>
      some ((1 : Int32), h14)
    else
    if p1 = (40 : Int32) then
      bd2 (cv 7 h0 o (f_Pa_opens h0 o p1)) fun x12 h13 =>
      if x12 = 0 ∨ x12 = 1 then
      some (x12, h13)
      else none
    else
    if p1 = (41 : Int32) then
      bd2 (cv 7 h0 o (f_Pa_closes h0 o p1)) fun x10 h11 =>
      if x10 = 0 ∨ x10 = 1 then
      some (x10, h11)
      else none
    else
    if p1 = (48 : Int32) then
      (cv 7 h0 o (f_Pa_append h0 o (0 : Int64) (0 : Int64) (1 : Int32))).bind fun h9 =>
      some ((1 : Int32), h9)
    else
    if p1 = (63 : Int32) then
      (pI 7 h0 o 7 (0 : Int32)).bind fun h8 =>
      some ((1 : Int32), h8)
    else
    if p1 = (123 : Int32) then
      bd2 (cv 7 h0 o (f_Pa_opens h0 o p1)) fun x6 h7 =>
      if x6 = 0 ∨ x6 = 1 then
      some (x6, h7)
      else none
    else
    if p1 = (124 : Int32) then
      bd2 (cv 7 h0 o (f_Pa_bars h0 o)) fun x4 h5 =>
      if x4 = 0 ∨ x4 = 1 then
      some (x4, h5)
      else none
    else
    if p1 = (125 : Int32) then
      bd2 (cv 7 h0 o (f_Pa_closes h0 o p1)) fun x2 h3 =>
      if x2 = 0 ∨ x2 = 1 then
      some (x2, h3)
      else none
    else
    some ((0 : Int32), h0)
  else
    bd2 (cv 7 h0 o (f_Pa_acceptsMessage h0 o (p1 - (97 : Int32)))) fun x15 h16 =>
    if x15 = 0 ∨ x15 = 1 then
    some (x15, h16)
    else none
def f_Pa_read_L27 (y0 : Nat) : Nat → Int32 → AH → Option (Int32 × AH)
  | 0, _, _ => none
  | n + 1, z1, h =>
    (gI 7 h y0 1).bind fun x9 =>
    if z1 < x9 then
      (gR 7 h y0 0).bind fun r11 =>
      (r11).bind fun a12 =>
      (rI 1 h a12 z1).bind fun x13 =>
      bd2 (cv 7 h y0 (f_Pa_accepts h y0 x13)) fun x14 h15 =>
      if x14 = (0 : Int32) then
        some (z1, h15)
      else
        f_Pa_read_L27 y0 n (z1 + (1 : Int32)) h15
    else
      (gI 7 h y0 1).bind fun x10 =>
      some (x10, h)
def f_Pa_read (h0 : AH) (o : Nat) : Option (Int32 × AH) :=
  (pI 7 h0 o 3 (0 : Int32)).bind fun h1 =>
  (pI 7 h1 o 4 (0 : Int32)).bind fun h2 =>
  (pI 7 h2 o 7 (-1 : Int32)).bind fun h3 =>
  (gR 7 h3 o 2).bind fun r4 =>
  (r4).bind fun a5 =>
  (rR 5 h3 a5 (0 : Int32)).bind fun r6 =>
  (r6).bind fun a7 =>
  (cv 5 h3 a7 (f_Le_open h3 a7 (0 : Int32))).bind fun h8 =>
  f_Pa_read_L27 o FU (0 : Int32) h8
def f_C_good (h0 : AH) (o : Nat) : Option (Int32 × AH) :=
  (gR 0 h0 o 0).bind fun r1 =>
  (r1).bind fun a2 =>
  bd2 (cv 7 h0 a2 (f_Pa_read h0 a2)) fun x3 h4 =>
  some (x3, h4)
def f_Pa_isWhole (h0 : AH) (o : Nat) : Option (Int32) :=
  (gI 7 h0 o 7).bind fun x1 =>
  if x1 = (-1 : Int32) then
    (gI 7 h0 o 3).bind fun x2 =>
    if x2 = (0 : Int32) then
      (gR 7 h0 o 2).bind fun r3 =>
      (r3).bind fun a4 =>
      (rR 5 h0 a4 (0 : Int32)).bind fun r5 =>
      (r5).bind fun a6 =>
      (gI 5 h0 a6 2).bind fun x7 =>
      if x7 = (0 : Int32) then
        some ((0 : Int32))
      else
        some ((1 : Int32))
    else
      some ((0 : Int32))
  else
    some ((0 : Int32))
def f_Pa_nextSteps (h0 : AH) (o : Nat) (p1 : Int32) : Option (Int64) :=
  if p1 = (0 : Int32) then
    (gR 7 h0 o 2).bind fun r4 =>
    (r4).bind fun a5 =>
    (rR 5 h0 a5 (0 : Int32)).bind fun r6 =>
    (r6).bind fun a7 =>
    (gJ 5 h0 a7 3).bind fun x8 =>
    some (x8)
  else
    (gR 7 h0 o 6).bind fun r1 =>
    (r1).bind fun a2 =>
    (rJ h0 a2 p1).bind fun x3 =>
    some (x3)
def f_C_hasBit (h0 : AH) (p1 : Int32) (p2 : Int32) : Option (Int32) :=
  if ((p1 >>> (p2 &&& 31)) &&& (1 : Int32)) = (0 : Int32) then
    some ((0 : Int32))
  else
    some ((1 : Int32))
def f_Pa_isTwofold_L14 (h0 : AH) (y0 : Nat) (y1 : Int32) (k : Option (Int32)) : Nat → Int32 → Int32 → Option (Int32)
  | 0, _, _ => none
  | n + 1, z2, z3 =>
    (gI 7 h0 y0 4).bind fun x2 =>
    if x2 < z3 then
      k
    else
      (cv 7 h0 y0 (f_Pa_nextSteps h0 y0 y1)).bind fun x3 =>
      if (lg_cmp ((xlshr x3 z3) &&& (1 : Int64)) (0 : Int64)) = (0 : Int32) then
        f_Pa_isTwofold_L14 h0 y0 y1 k n z2 (z3 + (1 : Int32))
      else
        (gR 7 h0 y0 5).bind fun r4 =>
        (r4).bind fun a5 =>
        (rI 1 h0 a5 z3).bind fun x6 =>
        (f_C_hasBit h0 z2 x6).bind fun x7 =>
        if x7 = (0 : Int32) then
          (gR 7 h0 y0 5).bind fun r8 =>
          (r8).bind fun a9 =>
          (rI 1 h0 a9 z3).bind fun x10 =>
          (some ((z2 ||| ((1 : Int32) <<< (x10 &&& 31))))).bind fun x11 =>
          f_Pa_isTwofold_L14 h0 y0 y1 k n x11 (z3 + (1 : Int32))
        else
          some ((1 : Int32))
def f_Pa_isTwofold_L2 (h0 : AH) (y0 : Nat) : Nat → Int32 → Option (Int32)
  | 0, _ => none
  | n + 1, z1 =>
    (gI 7 h0 y0 4).bind fun x1 =>
    if x1 < z1 then
      some ((0 : Int32))
    else
      f_Pa_isTwofold_L14 h0 y0 z1 (
        f_Pa_isTwofold_L2 h0 y0 n (z1 + (1 : Int32))
      ) FU (0 : Int32) (1 : Int32)
def f_Pa_isTwofold (h0 : AH) (o : Nat) : Option (Int32) :=
  f_Pa_isTwofold_L2 h0 o FU (0 : Int32)
def f_jA_fill_I_L5 (y0 : Nat) (y1 : Int32) (y3 : Int32) : Nat → Int32 → AH → Option (AH)
  | 0, _, _ => none
  | n + 1, z2, h =>
    if z2 < y3 then
      (wI h y0 z2 y1).bind fun h3 =>
      f_jA_fill_I_L5 y0 y1 y3 n (z2 + (1 : Int32)) h3
    else
      some h
def f_jA_fill_I (h0 : AH) (p1 : Option Nat) (p2 : Int32) : Option (AH) :=
  (p1).bind fun a1 =>
  (alen 1 h0 a1).bind fun x2 =>
  f_jA_fill_I_L5 a1 p2 x2 FU (0 : Int32) h0
def f_Pa_mayStop (h0 : AH) (o : Nat) (p1 : Int32) : Option (Int32) :=
  if p1 = (0 : Int32) then
    (gR 7 h0 o 2).bind fun r6 =>
    (r6).bind fun a7 =>
    (rR 5 h0 a7 (0 : Int32)).bind fun r8 =>
    (r8).bind fun a9 =>
    (gI 5 h0 a9 5).bind fun x10 =>
    if x10 = 0 ∨ x10 = 1 then
    some (x10)
    else none
  else
    (gR 7 h0 o 2).bind fun r1 =>
    (r1).bind fun a2 =>
    (rR 5 h0 a2 (0 : Int32)).bind fun r3 =>
    (r3).bind fun a4 =>
    (gJ 5 h0 a4 4).bind fun x5 =>
    if (lg_cmp ((xlshr x5 p1) &&& (1 : Int64)) (0 : Int64)) = (0 : Int32) then
      some ((0 : Int32))
    else
      some ((1 : Int32))
def f_Ta_addStep (h0 : AH) (o : Nat) (p1 : Int32) (p2 : Int32) (p3 : Int32) : Option (AH) :=
  (gR 9 h0 o 2).bind fun r1 =>
  (r1).bind fun a2 =>
  (wI h0 a2 ((p1 * (16 : Int32)) + p2) p3).bind fun h3 =>
  if p2 < (8 : Int32) then
    (gR 9 h3 o 3).bind fun r8 =>
    (r8).bind fun a9 =>
    (rI 1 h3 a9 p1).bind fun x10 =>
    (wI h3 a9 p1 (x10 ||| ((1 : Int32) <<< (p2 &&& 31)))).bind fun h11 =>
    some h11
  else
    (gR 9 h3 o 4).bind fun r4 =>
    (r4).bind fun a5 =>
    (rI 1 h3 a5 p1).bind fun x6 =>
    (wI h3 a5 p1 (x6 ||| ((1 : Int32) <<< ((p2 - (8 : Int32)) &&& 31)))).bind fun h7 =>
    some h7
