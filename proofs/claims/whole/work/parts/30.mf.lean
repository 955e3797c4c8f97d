def f_M_init (h0 : AH) (o : Nat) : Option (AH) :=
  (nAr 3 h0 (80 : Int32)).bind fun h1 =>
  (pR 12 h1 o 1 (some (hM h0))).bind fun h2 =>
  (nAr 1 h2 (6 : Int32)).bind fun h3 =>
  (pR 12 h3 o 3 (some (hM h2))).bind fun h4 =>
  (nAr 1 h4 (2400 : Int32)).bind fun h5 =>
  (pR 12 h5 o 4 (some (hM h4))).bind fun h6 =>
  (nAr 2 h6 (150 : Int32)).bind fun h7 =>
  (pR 12 h7 o 5 (some (hM h6))).bind fun h8 =>
  (nAr 1 h8 (8 : Int32)).bind fun h9 =>
  (pR 12 h9 o 10 (some (hM h8))).bind fun h10 =>
  (nAr 1 h10 (8 : Int32)).bind fun h11 =>
  (pR 12 h11 o 11 (some (hM h10))).bind fun h12 =>
  (nAr 1 h12 (8 : Int32)).bind fun h13 =>
  (pR 12 h13 o 12 (some (hM h12))).bind fun h14 =>
  (nAr 1 h14 (40 : Int32)).bind fun h15 =>
  (pR 12 h15 o 13 (some (hM h14))).bind fun h16 =>
  (nAr 1 h16 (12 : Int32)).bind fun h17 =>
  (pR 12 h17 o 14 (some (hM h16))).bind fun h18 =>
  (nAr 1 h18 (5 : Int32)).bind fun h19 =>
  (pR 12 h19 o 16 (some (hM h18))).bind fun h20 =>
  (nAr 1 h20 (30 : Int32)).bind fun h21 =>
  (pR 12 h21 o 19 (some (hM h20))).bind fun h22 =>
  (nAr 1 h22 (30 : Int32)).bind fun h23 =>
  (pR 12 h23 o 20 (some (hM h22))).bind fun h24 =>
  (nAr 1 h24 (81 : Int32)).bind fun h25 =>
  (pR 12 h25 o 22 (some (hM h24))).bind fun h26 =>
  (nAr 1 h26 (81 : Int32)).bind fun h27 =>
  (pR 12 h27 o 23 (some (hM h26))).bind fun h28 =>
  (nAr 2 h28 (81 : Int32)).bind fun h29 =>
  (pR 12 h29 o 24 (some (hM h28))).bind fun h30 =>
  (nAr 4 h30 (81 : Int32)).bind fun h31 =>
  (pR 12 h31 o 25 (some (hM h30))).bind fun h32 =>
  (nAr 4 h32 (81 : Int32)).bind fun h33 =>
  (pR 12 h33 o 26 (some (hM h32))).bind fun h34 =>
  (nAr 2 h34 (81 : Int32)).bind fun h35 =>
  (pR 12 h35 o 27 (some (hM h34))).bind fun h36 =>
  (nAr 4 h36 (81 : Int32)).bind fun h37 =>
  (pR 12 h37 o 28 (some (hM h36))).bind fun h38 =>
  (nAr 4 h38 (81 : Int32)).bind fun h39 =>
  (pR 12 h39 o 29 (some (hM h38))).bind fun h40 =>
  (nAr 1 h40 (40 : Int32)).bind fun h41 =>
  (pR 12 h41 o 31 (some (hM h40))).bind fun h42 =>
  (nAr 4 h42 (40 : Int32)).bind fun h43 =>
  (pR 12 h43 o 32 (some (hM h42))).bind fun h44 =>
  (nAr 1 h44 (4001 : Int32)).bind fun h45 =>
  (pR 12 h45 o 37 (some (hM h44))).bind fun h46 =>
  (nAr 1 h46 (4001 : Int32)).bind fun h47 =>
  (pR 12 h47 o 39 (some (hM h46))).bind fun h48 =>
  (nAr 1 h48 (4001 : Int32)).bind fun h49 =>
  (pR 12 h49 o 40 (some (hM h48))).bind fun h50 =>
  (nAr 1 h50 (4001 : Int32)).bind fun h51 =>
  (pR 12 h51 o 41 (some (hM h50))).bind fun h52 =>
  (nAr 1 h52 (16384 : Int32)).bind fun h53 =>
  (pR 12 h53 o 42 (some (hM h52))).bind fun h54 =>
  (nAr 1 h54 (8 : Int32)).bind fun h55 =>
  (pR 12 h55 o 43 (some (hM h54))).bind fun h56 =>
  (nAr 1 h56 (8 : Int32)).bind fun h57 =>
  (pR 12 h57 o 44 (some (hM h56))).bind fun h58 =>
  (nAr 2 h58 (625 : Int32)).bind fun h59 =>
  (pR 12 h59 o 49 (some (hM h58))).bind fun h60 =>
  (nAr 1 h60 (12 : Int32)).bind fun h61 =>
  (pR 12 h61 o 52 (some (hM h60))).bind fun h62 =>
  (nAr 1 h62 (5 : Int32)).bind fun h63 =>
  (pR 12 h63 o 53 (some (hM h62))).bind fun h64 =>
  (nAr 1 h64 (5 : Int32)).bind fun h65 =>
  (pR 12 h65 o 54 (some (hM h64))).bind fun h66 =>
  (nAr 2 h66 (4096 : Int32)).bind fun h67 =>
  (pR 12 h67 o 55 (some (hM h66))).bind fun h68 =>
  (nAr 2 h68 (4096 : Int32)).bind fun h69 =>
  (pR 12 h69 o 56 (some (hM h68))).bind fun h70 =>
  some h70
def f_M_letters_L8 (h0 : AH) (y0 : Nat) (y1 : Int64) (k : Int32 → Option (Int32 × AH)) : Nat → Int32 → Int32 → Int32 → Option (Int32 × AH)
  | 0, _, _, _ => none
  | n + 1, z3, z4, z5 =>
    if z5 < (8 : Int32) then
      (some (((((xlshr y1 ((8 : Int32) * z5)) &&& (255 : Int64))).toInt32))).bind fun x1 =>
      if (126 : Int32) < x1 then
        some ((-102 : Int32), h0)
      else
        if z4 = (0 : Int32) then
          (
            if z4 = (0 : Int32) then
              if x1 = (0 : Int32) then
                some ((1 : Int32))
              else
                some ((0 : Int32))
            else
              some ((1 : Int32))
          ).bind fun x2 =>
          (
            if x1 = (0 : Int32) then
              some ((0 : Int32))
            else
              some ((1 : Int32))
          ).bind fun x3 =>
          (some ((z3 + x3))).bind fun x4 =>
          f_M_letters_L8 h0 y0 y1 k n x4 x2 (z5 + (1 : Int32))
        else
          if x1 = (0 : Int32) then
            (
              if z4 = (0 : Int32) then
                if x1 = (0 : Int32) then
                  some ((1 : Int32))
                else
                  some ((0 : Int32))
              else
                some ((1 : Int32))
            ).bind fun x5 =>
            (
              if x1 = (0 : Int32) then
                some ((0 : Int32))
              else
                some ((1 : Int32))
            ).bind fun x6 =>
            (some ((z3 + x6))).bind fun x7 =>
            f_M_letters_L8 h0 y0 y1 k n x7 x5 (z5 + (1 : Int32))
          else
            some ((-102 : Int32), h0)
    else
      k z3
def f_M_letters_L102 {ρ : Type} (y0 : Nat) (y1 : Int64) (y3 : Int32) (k : AH → Option (ρ)) : Nat → Int32 → AH → Option (ρ)
  | 0, _, _ => none
  | n + 1, z5, h =>
    if z5 < y3 then
      (gR 12 h y0 1).bind fun r10 =>
      (gI 12 h y0 0).bind fun x11 =>
      (r10).bind fun a12 =>
      (wB h a12 (x11 + z5) (((((xlshr y1 ((8 : Int32) * z5))).toInt32)).toInt8.toInt32)).bind fun h13 =>
      f_M_letters_L102 y0 y1 y3 k n (z5 + (1 : Int32)) h13
    else
      k h
def f_M_letters (h0 : AH) (o : Nat) (p1 : Int64) : Option (Int32 × AH) :=
  f_M_letters_L8 h0 o p1 (fun x8 =>
    (gI 12 h0 o 0).bind fun x9 =>
    if (80 : Int32) < (x9 + x8) then
      some ((-104 : Int32), h0)
    else
      f_M_letters_L102 o p1 x8 (fun h14 =>
        (gI 12 h14 o 0).bind fun x15 =>
        (pI 12 h14 o 0 (x15 + x8)).bind fun h16 =>
        (gI 12 h16 o 0).bind fun x17 =>
        some (x17, h16)
      ) FU (0 : Int32) h0
  ) FU (0 : Int32) (0 : Int32) (0 : Int32)
def f_M_blank (h0 : AH) (o : Nat) : Option (Int32 × AH) :=
  (gI 12 h0 o 0).bind fun x1 =>
  (pI 12 h0 o 0 (0 : Int32)).bind fun h2 =>
  some (x1, h2)
def f_M_fresh (h0 : AH) (o : Nat) : Option (AH) :=
  (gR 12 h0 o 24).bind fun r1 =>
  (gI 12 h0 o 21).bind fun x2 =>
  (r1).bind fun a3 =>
  (wZ h0 a3 x2 (1 : Int32)).bind fun h4 =>
  (gR 12 h4 o 25).bind fun r5 =>
  (gI 12 h4 o 21).bind fun x6 =>
  (r5).bind fun a7 =>
  (wJ h4 a7 x6 (0 : Int64)).bind fun h8 =>
  (gR 12 h8 o 26).bind fun r9 =>
  (gI 12 h8 o 21).bind fun x10 =>
  (r9).bind fun a11 =>
  (wJ h8 a11 x10 (0 : Int64)).bind fun h12 =>
  some h12
def f_M_open (h0 : AH) (o : Nat) (p1 : Int32) : Option (AH) :=
  (gI 12 h0 o 21).bind fun x1 =>
  (pI 12 h0 o 21 (x1 + (1 : Int32))).bind fun h2 =>
  (gR 12 h2 o 22).bind fun r3 =>
  (gI 12 h2 o 21).bind fun x4 =>
  (r3).bind fun a5 =>
  (wI h2 a5 x4 p1).bind fun h6 =>
  (gR 12 h6 o 23).bind fun r7 =>
  (gI 12 h6 o 21).bind fun x8 =>
  (r7).bind fun a9 =>
  (wI h6 a9 x8 (0 : Int32)).bind fun h10 =>
  (gR 12 h10 o 27).bind fun r11 =>
  (gI 12 h10 o 21).bind fun x12 =>
  (r11).bind fun a13 =>
  (wZ h10 a13 x12 (0 : Int32)).bind fun h14 =>
  (gR 12 h14 o 28).bind fun r15 =>
  (gI 12 h14 o 21).bind fun x16 =>
  (r15).bind fun a17 =>
  (wJ h14 a17 x16 (0 : Int64)).bind fun h18 =>
  (gR 12 h18 o 29).bind fun r19 =>
  (gI 12 h18 o 21).bind fun x20 =>
  (r19).bind fun a21 =>
  (wJ h18 a21 x20 (0 : Int64)).bind fun h22 =>
  (cv 12 h22 o (f_M_fresh h22 o)).bind fun h23 =>
  some h23
def f_M_in (h0 : AH) (p1 : Int32) (p2 : Int32) (p3 : Int32) : Option (Int32) :=
  if p1 < p2 then
    some ((0 : Int32))
  else
    if p3 < p1 then
      some ((0 : Int32))
    else
      some ((1 : Int32))
def f_M_link_L3 (y0 : Nat) (y1 : Int64) (y3 : Int64) : Nat → Int32 → AH → Option (AH)
  | 0, _, _ => none
  | n + 1, z5, h =>
    (gI 12 h y0 30).bind fun x1 =>
    if z5 < x1 then
      (gR 12 h y0 32).bind fun r2 =>
      (r2).bind fun a3 =>
      (rJ h a3 z5).bind fun x4 =>
      (
        if (lg_cmp ((xlshr y1 z5) &&& (1 : Int64)) (1 : Int64)) = (0 : Int32) then
          some (y3)
        else
          some ((0 : Int64))
      ).bind fun x5 =>
      (wJ h a3 z5 (x4 ||| x5)).bind fun h6 =>
      f_M_link_L3 y0 y1 y3 n (z5 + (1 : Int32)) h6
    else
      some h
def f_M_link (h0 : AH) (o : Nat) (p1 : Int64) (p2 : Int64) : Option (AH) :=
  f_M_link_L3 o p1 p2 FU (0 : Int32) h0
def f_M_append (h0 : AH) (o : Nat) (p1 : Int32) (p2 : Int64) (p3 : Int64) : Option (AH) :=
  (gR 12 h0 o 26).bind fun r1 =>
  (gI 12 h0 o 21).bind fun x2 =>
  (r1).bind fun a3 =>
  (rJ h0 a3 x2).bind fun x4 =>
  (cv 12 h0 o (f_M_link h0 o x4 p2)).bind fun h5 =>
  (gR 12 h5 o 25).bind fun r6 =>
  (gI 12 h5 o 21).bind fun x7 =>
  (r6).bind fun a8 =>
  (rJ h5 a8 x7).bind fun x9 =>
  (gR 12 h5 o 24).bind fun r10 =>
  (gI 12 h5 o 21).bind fun x11 =>
  (r10).bind fun a12 =>
  (rI 2 h5 a12 x11).bind fun x13 =>
  (
    if x13 = (0 : Int32) then
      some ((0 : Int64))
    else
      some (p2)
  ).bind fun x14 =>
  (wJ h5 a8 x7 (x9 ||| x14)).bind fun h15 =>
  (gR 12 h15 o 26).bind fun r16 =>
  (gI 12 h15 o 21).bind fun x17 =>
  (
    if p1 = (0 : Int32) then
      some (p3)
    else
      (gR 12 h15 o 26).bind fun r18 =>
      (gI 12 h15 o 21).bind fun x19 =>
      (r18).bind fun a20 =>
      (rJ h15 a20 x19).bind fun x21 =>
      some ((x21 ||| p3))
  ).bind fun x22 =>
  (r16).bind fun a23 =>
  (wJ h15 a23 x17 x22).bind fun h24 =>
  (gR 12 h24 o 24).bind fun r25 =>
  (gI 12 h24 o 21).bind fun x26 =>
  (gR 12 h24 o 24).bind fun r27 =>
  (gI 12 h24 o 21).bind fun x28 =>
  (r27).bind fun a29 =>
  (rI 2 h24 a29 x28).bind fun x30 =>
  (
    if x30 = (0 : Int32) then
      some ((0 : Int32))
    else
      if p1 = (0 : Int32) then
        some ((0 : Int32))
      else
        some ((1 : Int32))
  ).bind fun x31 =>
  (r25).bind fun a32 =>
  (wZ h24 a32 x26 x31).bind fun h33 =>
  some h33
def f_M_gather (h0 : AH) (o : Nat) : Option (AH) :=
  (gR 12 h0 o 27).bind fun r1 =>
  (gI 12 h0 o 21).bind fun x2 =>
  (gR 12 h0 o 27).bind fun r3 =>
  (gI 12 h0 o 21).bind fun x4 =>
  (r3).bind fun a5 =>
  (rI 2 h0 a5 x4).bind fun x6 =>
  (
    if x6 = (0 : Int32) then
      (gR 12 h0 o 24).bind fun r7 =>
      (gI 12 h0 o 21).bind fun x8 =>
      (r7).bind fun a9 =>
      (rI 2 h0 a9 x8).bind fun x10 =>
      if x10 = (0 : Int32) then
        some ((0 : Int32))
      else
        some ((1 : Int32))
    else
      some ((1 : Int32))
  ).bind fun x11 =>
  (r1).bind fun a12 =>
  (wZ h0 a12 x2 x11).bind fun h13 =>
  (gR 12 h13 o 28).bind fun r14 =>
  (gI 12 h13 o 21).bind fun x15 =>
  (r14).bind fun a16 =>
  (rJ h13 a16 x15).bind fun x17 =>
  (gR 12 h13 o 25).bind fun r18 =>
  (gI 12 h13 o 21).bind fun x19 =>
  (r18).bind fun a20 =>
  (rJ h13 a20 x19).bind fun x21 =>
  (wJ h13 a16 x15 (x17 ||| x21)).bind fun h22 =>
  (gR 12 h22 o 29).bind fun r23 =>
  (gI 12 h22 o 21).bind fun x24 =>
  (r23).bind fun a25 =>
  (rJ h22 a25 x24).bind fun x26 =>
  (gR 12 h22 o 26).bind fun r27 =>
  (gI 12 h22 o 21).bind fun x28 =>
  (r27).bind fun a29 =>
  (rJ h22 a29 x28).bind fun x30 =>
  (wJ h22 a25 x24 (x26 ||| x30)).bind fun h31 =>
  some h31
def f_M_close (h0 : AH) (o : Nat) (p1 : Int32) : Option (AH) :=
  if p1 = (1 : Int32) then
    (cv 12 h0 o (f_M_gather h0 o)).bind fun h21 =>
    (gI 12 h21 o 21).bind fun x22 =>
    (pI 12 h21 o 21 (x22 - (1 : Int32))).bind fun h23 =>
    (gR 12 h23 o 27).bind fun r24 =>
    (gI 12 h23 o 21).bind fun x25 =>
    (r24).bind fun a26 =>
    (rI 2 h23 a26 (x25 + (1 : Int32))).bind fun x27 =>
    (gR 12 h23 o 28).bind fun r28 =>
    (gI 12 h23 o 21).bind fun x29 =>
    (r28).bind fun a30 =>
    (rJ h23 a30 (x29 + (1 : Int32))).bind fun x31 =>
    (gR 12 h23 o 29).bind fun r32 =>
    (gI 12 h23 o 21).bind fun x33 =>
    (r32).bind fun a34 =>
    (rJ h23 a34 (x33 + (1 : Int32))).bind fun x35 =>
    (cv 12 h23 o (f_M_append h23 o x27 x31 x35)).bind fun h36 =>
    some h36
  else
    (gR 12 h0 o 26).bind fun r1 =>
    (gI 12 h0 o 21).bind fun x2 =>
    (r1).bind fun a3 =>
    (rJ h0 a3 x2).bind fun x4 =>
    (gR 12 h0 o 25).bind fun r5 =>
    (gI 12 h0 o 21).bind fun x6 =>
    (r5).bind fun a7 =>
    (rJ h0 a7 x6).bind fun x8 =>
    (cv 12 h0 o (f_M_link h0 o x4 x8)).bind fun h9 =>
    (gI 12 h9 o 21).bind fun x10 =>
    (pI 12 h9 o 21 (x10 - (1 : Int32))).bind fun h11 =>
    (gR 12 h11 o 25).bind fun r12 =>
    (gI 12 h11 o 21).bind fun x13 =>
    (r12).bind fun a14 =>
    (rJ h11 a14 (x13 + (1 : Int32))).bind fun x15 =>
    (gR 12 h11 o 26).bind fun r16 =>
    (gI 12 h11 o 21).bind fun x17 =>
    (r16).bind fun a18 =>
    (rJ h11 a18 (x17 + (1 : Int32))).bind fun x19 =>
    (cv 12 h11 o (f_M_append h11 o (1 : Int32) x15 x19)).bind fun h20 =>
    some h20
