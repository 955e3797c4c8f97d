def f_M_seekAdapters_L21 {ρ : Type} (h0 : AH) (y0 : Nat) (y1 : Int32) (y2 : Int32) (y3 : Int32) (y4 : Int32) (y5 : Int32) (y6 : Int32) (k : Int32 → Option (ρ)) : Nat → Int32 → Int32 → Option (ρ)
  | 0, _, _ => none
  | n + 1, z7, z8 =>
    (f_M_ones h0 y5).bind fun x3 =>
    if z8 < x3 then
      (some ((z7 * (8 : Int32)))).bind fun x4 =>
      f_M_seekAdapters_L21 h0 y0 y1 y2 y3 y4 y5 y6 k n x4 (z8 + (1 : Int32))
    else
      k z7
def f_M_seekAdapters_L47 {ρ : Type} (y0 : Nat) (y1 : Int32) (y2 : Int32) (y3 : Int32) (y4 : Int32) (y5 : Int32) (y7 : Int32) (k : Int32 → AH → Option (ρ)) : Nat → Int32 → Int32 → AH → Option (ρ)
  | 0, _, _, _ => none
  | n + 1, z6, z8, h =>
    if z8 < y7 then
      bd2 (cv 12 h y0 (f_M_lay h y0 y5 z8 y7)) fun x6 h7 =>
      if x6 = (0 : Int32) then
        f_M_seekAdapters_L47 y0 y1 y2 y3 y4 y5 y7 k n z6 (z8 + (1 : Int32)) h7
      else
        bd2 (cv 12 h7 y0 (f_M_walk h7 y0 y1 y2 (0 : Int32))) fun x8 h9 =>
        if x8 = (0 : Int32) then
          (
            if z6 = y3 then
              (gR 12 h9 y0 43).bind fun r11 =>
              (r11).bind fun a12 =>
              (rI 1 h9 a12 y4).bind fun x13 =>
              some (x13)
            else
              (gI 12 h9 y0 50).bind fun x10 =>
              some (x10)
          ).bind fun x14 =>
          (pI 12 h9 y0 50 x14).bind fun h15 =>
          f_M_seekAdapters_L47 y0 y1 y2 y3 y4 y5 y7 k n (z6 + (1 : Int32)) (z8 + (1 : Int32)) h15
        else
          f_M_seekAdapters_L47 y0 y1 y2 y3 y4 y5 y7 k n z6 (z8 + (1 : Int32)) h9
    else
      k z6 h
def f_M_seekAdapters (h0 : AH) (o : Nat) (p1 : Int32) (p2 : Int32) (p3 : Int32) (p4 : Int32) : Option (Int32 × AH) :=
  (cv 12 h0 o (f_M_messagesOf h0 o p1)).bind fun x1 =>
  (pI 12 h0 o 50 (-1 : Int32)).bind fun h2 =>
  f_M_seekAdapters_L21 h2 o p1 p2 p3 p4 x1 (0 : Int32) (fun x5 =>
    f_M_seekAdapters_L47 o p1 p2 p3 p4 x1 x5 (fun x16 h17 =>
      (cv 12 h17 o (f_M_same h17 o)).bind fun h18 =>
      some (x16, h18)
    ) FU (0 : Int32) (0 : Int32) h2
  ) FU (1 : Int32) (0 : Int32)
def f_M_adapters (h0 : AH) (o : Nat) (p1 : Int32) (p2 : Int32) : Option (Int32 × AH) :=
  (cv 12 h0 o (f_M_barred h0 o p1 p2)).bind fun x1 =>
  if x1 = (0 : Int32) then
    (gI 12 h0 o 7).bind fun x2 =>
    (pI 12 h0 o 7 (x2 + (1 : Int32))).bind fun h3 =>
    bd2 (cv 12 h3 o (f_M_seekAdapters h3 o p1 p2 (-1 : Int32) (0 : Int32))) fun x4 h5 =>
    some (x4, h5)
  else
    some (x1, h0)
def f_M_adapter (h0 : AH) (o : Nat) (p1 : Int32) (p2 : Int32) (p3 : Int32) (p4 : Int32) : Option (Int32 × AH) :=
  (cv 12 h0 o (f_M_isTalk h0 o p1)).bind fun x1 =>
  if x1 = (0 : Int32) then
    some ((-101 : Int32), h0)
  else
    (cv 12 h0 o (f_M_isTalk h0 o p2)).bind fun x2 =>
    if x2 = (0 : Int32) then
      some ((-101 : Int32), h0)
    else
      (f_M_in h0 p4 (0 : Int32) (7 : Int32)).bind fun x3 =>
      (
        if x3 = (0 : Int32) then
          some ((-102 : Int32))
        else
          (cv 12 h0 o (f_M_barred h0 o p1 p2)).bind fun x4 =>
          some (x4)
      ).bind fun x5 =>
      if x5 = (0 : Int32) then
        (gI 12 h0 o 7).bind fun x6 =>
        (pI 12 h0 o 7 (x6 + (1 : Int32))).bind fun h7 =>
        bd2 (cv 12 h7 o (f_M_seekAdapters h7 o p1 p2 p3 p4)) fun x8 h9 =>
        if p3 < (0 : Int32) then
          some ((-1 : Int32), h9)
        else
          (gI 12 h9 o 50).bind fun x10 =>
          some (x10, h9)
      else
        some (x5, h0)
def f_M_isSet (h0 : AH) (p1 : Int32) : Option (Int32) :=
  (f_M_in h0 p1 (0 : Int32) (4095 : Int32)).bind fun x1 =>
  if x1 = 0 ∨ x1 = 1 then
  some (x1)
  else none
def f_M_helper (h0 : AH) (o : Nat) (p1 : Int32) (p2 : Int32) (p3 : Int32) : Option (Int32 × AH) :=
  (f_M_isSet h0 p1).bind fun x1 =>
  if x1 = (0 : Int32) then
    some ((-102 : Int32), h0)
  else
    (f_M_isSet h0 p2).bind fun x2 =>
    if x2 = (0 : Int32) then
      some ((-102 : Int32), h0)
    else
      (f_M_isSet h0 p3).bind fun x3 =>
      if x3 = (0 : Int32) then
        some ((-102 : Int32), h0)
      else
        (gI 12 h0 o 9).bind fun x4 =>
        if x4 = (8 : Int32) then
          some ((-104 : Int32), h0)
        else
          (gR 12 h0 o 10).bind fun r5 =>
          (gI 12 h0 o 9).bind fun x6 =>
          (r5).bind fun a7 =>
          (wI h0 a7 x6 p1).bind fun h8 =>
          (gR 12 h8 o 11).bind fun r9 =>
          (gI 12 h8 o 9).bind fun x10 =>
          (r9).bind fun a11 =>
          (wI h8 a11 x10 p2).bind fun h12 =>
          (gR 12 h12 o 12).bind fun r13 =>
          (gI 12 h12 o 9).bind fun x14 =>
          (r13).bind fun a15 =>
          (wI h12 a15 x14 p3).bind fun h16 =>
          (gR 12 h16 o 13).bind fun r17 =>
          (gI 12 h16 o 9).bind fun x18 =>
          (r17).bind fun a19 =>
          (wI h16 a19 ((5 : Int32) * x18) (0 : Int32)).bind fun h20 =>
          (gR 12 h20 o 13).bind fun r21 =>
          (gI 12 h20 o 9).bind fun x22 =>
          (r21).bind fun a23 =>
          (wI h20 a23 (((5 : Int32) * x22) + (1 : Int32)) (0 : Int32)).bind fun h24 =>
          (gR 12 h24 o 13).bind fun r25 =>
          (gI 12 h24 o 9).bind fun x26 =>
          (r25).bind fun a27 =>
          (wI h24 a27 (((5 : Int32) * x26) + (2 : Int32)) (3 : Int32)).bind fun h28 =>
          (gR 12 h28 o 13).bind fun r29 =>
          (gI 12 h28 o 9).bind fun x30 =>
          (r29).bind fun a31 =>
          (wI h28 a31 (((5 : Int32) * x30) + (3 : Int32)) (3 : Int32)).bind fun h32 =>
          (gR 12 h32 o 13).bind fun r33 =>
          (gI 12 h32 o 9).bind fun x34 =>
          (r33).bind fun a35 =>
          (wI h32 a35 (((5 : Int32) * x34) + (4 : Int32)) (-1 : Int32)).bind fun h36 =>
          (gI 12 h36 o 9).bind fun x37 =>
          (pI 12 h36 o 9 (x37 + (1 : Int32))).bind fun h38 =>
          (gI 12 h38 o 9).bind fun x39 =>
          some ((x39 - (1 : Int32)), h38)
def f_M_isHelper (h0 : AH) (o : Nat) (p1 : Int32) : Option (Int32) :=
  (gI 12 h0 o 9).bind fun x1 =>
  (f_M_in h0 p1 (0 : Int32) (x1 - (1 : Int32))).bind fun x2 =>
  if x2 = 0 ∨ x2 = 1 then
  some (x2)
  else none
def f_M_set (h0 : AH) (o : Nat) (p1 : Int32) (p2 : Int32) (p3 : Int32) : Option (Int32 × AH) :=
  (cv 12 h0 o (f_M_isHelper h0 o p1)).bind fun x1 =>
  if x1 = (0 : Int32) then
    some ((-101 : Int32), h0)
  else
    (f_M_in h0 p2 (0 : Int32) (4 : Int32)).bind fun x2 =>
    if x2 = (0 : Int32) then
      some ((-101 : Int32), h0)
    else
      if p2 = (4 : Int32) then
        if p3 = (-1 : Int32) then
          (
            if p2 = (2 : Int32) then
              some ((1 : Int32))
            else
              if p2 = (4 : Int32) then
                some ((-1 : Int32))
              else
                some ((0 : Int32))
          ).bind fun x12 =>
          (
            if p2 = (0 : Int32) then
              some ((50 : Int32))
            else
              if p2 = (1 : Int32) then
                some ((9 : Int32))
              else
                if p2 = (4 : Int32) then
                  some ((8 : Int32))
                else
                  some ((3 : Int32))
          ).bind fun x13 =>
          (f_M_in h0 p3 x12 x13).bind fun x14 =>
          if x14 = (0 : Int32) then
            some ((-102 : Int32), h0)
          else
            (gR 12 h0 o 13).bind fun r15 =>
            (r15).bind fun a16 =>
            (rI 1 h0 a16 (((5 : Int32) * p1) + p2)).bind fun x17 =>
            (gR 12 h0 o 13).bind fun r18 =>
            (r18).bind fun a19 =>
            (wI h0 a19 (((5 : Int32) * p1) + p2) p3).bind fun h20 =>
            some (x17, h20)
        else
          (cv 12 h0 o (f_M_isHelper h0 o p3)).bind fun x21 =>
          if x21 = (0 : Int32) then
            some ((-101 : Int32), h0)
          else
            (
              if p2 = (2 : Int32) then
                some ((1 : Int32))
              else
                if p2 = (4 : Int32) then
                  some ((-1 : Int32))
                else
                  some ((0 : Int32))
            ).bind fun x22 =>
            (
              if p2 = (0 : Int32) then
                some ((50 : Int32))
              else
                if p2 = (1 : Int32) then
                  some ((9 : Int32))
                else
                  if p2 = (4 : Int32) then
                    some ((8 : Int32))
                  else
                    some ((3 : Int32))
            ).bind fun x23 =>
            (f_M_in h0 p3 x22 x23).bind fun x24 =>
            if x24 = (0 : Int32) then
              some ((-102 : Int32), h0)
            else
              (gR 12 h0 o 13).bind fun r25 =>
              (r25).bind fun a26 =>
              (rI 1 h0 a26 (((5 : Int32) * p1) + p2)).bind fun x27 =>
              (gR 12 h0 o 13).bind fun r28 =>
              (r28).bind fun a29 =>
              (wI h0 a29 (((5 : Int32) * p1) + p2) p3).bind fun h30 =>
              some (x27, h30)
      else
        (
          if p2 = (2 : Int32) then
            some ((1 : Int32))
          else
            if p2 = (4 : Int32) then
              some ((-1 : Int32))
            else
              some ((0 : Int32))
        ).bind fun x3 =>
        (
          if p2 = (0 : Int32) then
            some ((50 : Int32))
          else
            if p2 = (1 : Int32) then
              some ((9 : Int32))
            else
              if p2 = (4 : Int32) then
                some ((8 : Int32))
              else
                some ((3 : Int32))
        ).bind fun x4 =>
        (f_M_in h0 p3 x3 x4).bind fun x5 =>
        if x5 = (0 : Int32) then
          some ((-102 : Int32), h0)
        else
          (gR 12 h0 o 13).bind fun r6 =>
          (r6).bind fun a7 =>
          (rI 1 h0 a7 (((5 : Int32) * p1) + p2)).bind fun x8 =>
          (gR 12 h0 o 13).bind fun r9 =>
          (r9).bind fun a10 =>
          (wI h0 a10 (((5 : Int32) * p1) + p2) p3).bind fun h11 =>
          some (x8, h11)
def f_M_level (h0 : AH) (o : Nat) (p1 : Int32) (p2 : Int32) : Option (Int32 × AH) :=
  (f_M_in h0 p1 (0 : Int32) (11 : Int32)).bind fun x1 =>
  if x1 = (0 : Int32) then
    some ((-101 : Int32), h0)
  else
    (f_M_in h0 p2 (0 : Int32) (3 : Int32)).bind fun x2 =>
    if x2 = (0 : Int32) then
      some ((-102 : Int32), h0)
    else
      (gR 12 h0 o 14).bind fun r3 =>
      (r3).bind fun a4 =>
      (rI 1 h0 a4 p1).bind fun x5 =>
      (gR 12 h0 o 14).bind fun r6 =>
      (r6).bind fun a7 =>
      (wI h0 a7 p1 p2).bind fun h8 =>
      some (x5, h8)
def f_M_aboutOf (h0 : AH) (o : Nat) (p1 : Int32) (p2 : Int32) : Option (Int32) :=
  if p2 < (5 : Int32) then
    (gR 12 h0 o 13).bind fun r10 =>
    (r10).bind fun a11 =>
    (rI 1 h0 a11 (((5 : Int32) * p1) + p2)).bind fun x12 =>
    some (x12)
  else
    if p2 = (5 : Int32) then
      (gR 12 h0 o 10).bind fun r7 =>
      (r7).bind fun a8 =>
      (rI 1 h0 a8 p1).bind fun x9 =>
      some (x9)
    else
      if p2 = (6 : Int32) then
        (gR 12 h0 o 11).bind fun r4 =>
        (r4).bind fun a5 =>
        (rI 1 h0 a5 p1).bind fun x6 =>
        some (x6)
      else
        (gR 12 h0 o 12).bind fun r1 =>
        (r1).bind fun a2 =>
        (rI 1 h0 a2 p1).bind fun x3 =>
        some (x3)
def f_M_about (h0 : AH) (o : Nat) (p1 : Int32) (p2 : Int32) : Option (Int32) :=
  (cv 12 h0 o (f_M_isHelper h0 o p1)).bind fun x1 =>
  if x1 = (0 : Int32) then
    some ((-101 : Int32))
  else
    (f_M_in h0 p2 (0 : Int32) (7 : Int32)).bind fun x2 =>
    if x2 = (0 : Int32) then
      some ((-102 : Int32))
    else
      (cv 12 h0 o (f_M_aboutOf h0 o p1 p2)).bind fun x3 =>
      some (x3)
def f_M_put (h0 : AH) (o : Nat) (p1 : Int32) : Option (Int32 × AH) :=
  (cv 12 h0 o (f_M_isHelper h0 o p1)).bind fun x1 =>
  if x1 = (0 : Int32) then
    some ((-101 : Int32), h0)
  else
    (gI 12 h0 o 15).bind fun x2 =>
    if x2 = (5 : Int32) then
      some ((-104 : Int32), h0)
    else
      (gR 12 h0 o 16).bind fun r3 =>
      (gI 12 h0 o 15).bind fun x4 =>
      (r3).bind fun a5 =>
      (wI h0 a5 x4 p1).bind fun h6 =>
      (gI 12 h6 o 15).bind fun x7 =>
      (pI 12 h6 o 15 (x7 + (1 : Int32))).bind fun h8 =>
      (gI 12 h8 o 15).bind fun x9 =>
      some (x9, h8)
def f_M_empty (h0 : AH) (o : Nat) : Option (Int32 × AH) :=
  (gI 12 h0 o 15).bind fun x1 =>
  (pI 12 h0 o 15 (0 : Int32)).bind fun h2 =>
  some (x1, h2)
def f_M_at (h0 : AH) (o : Nat) (p1 : Int32) : Option (Int32) :=
  (gI 12 h0 o 15).bind fun x1 =>
  (f_M_in h0 p1 (0 : Int32) (x1 - (1 : Int32))).bind fun x2 =>
  if x2 = (0 : Int32) then
    some ((-1 : Int32))
  else
    (gR 12 h0 o 16).bind fun r3 =>
    (r3).bind fun a4 =>
    (rI 1 h0 a4 p1).bind fun x5 =>
    some (x5)
def f_M_start_L7 (y0 : Nat) : Nat → Int32 → AH → Option (AH)
  | 0, _, _ => none
  | n + 1, z2, h =>
    if z2 < (12 : Int32) then
      (gR 12 h y0 52).bind fun r2 =>
      (gR 12 h y0 14).bind fun r3 =>
      (r3).bind fun a4 =>
      (rI 1 h a4 z2).bind fun x5 =>
      (r2).bind fun a6 =>
      (wI h a6 z2 x5).bind fun h7 =>
      f_M_start_L7 y0 n (z2 + (1 : Int32)) h7
    else
      some h
def f_M_start (h0 : AH) (o : Nat) (p1 : Int32) : Option (AH) :=
  (pI 12 h0 o 51 p1).bind fun h1 =>
  f_M_start_L7 o FU (0 : Int32) h1
def f_M_worst_L4 (h0 : AH) (y0 : Nat) (y1 : Int32) : Nat → Int32 → Int32 → Option (Int32)
  | 0, _, _ => none
  | n + 1, z2, z3 =>
    if z3 < (12 : Int32) then
      (
        if ((y1 >>> (z3 &&& 31)) &&& (1 : Int32)) = (1 : Int32) then
          (gR 12 h0 y0 52).bind fun r1 =>
          (r1).bind fun a2 =>
          (rI 1 h0 a2 z3).bind fun x3 =>
          if z2 < x3 then
            (gR 12 h0 y0 52).bind fun r4 =>
            (r4).bind fun a5 =>
            (rI 1 h0 a5 z3).bind fun x6 =>
            some (x6)
          else
            some (z2)
        else
          some (z2)
      ).bind fun x7 =>
      f_M_worst_L4 h0 y0 y1 n x7 (z3 + (1 : Int32))
    else
      some (z2)
def f_M_worst (h0 : AH) (o : Nat) (p1 : Int32) : Option (Int32) :=
  f_M_worst_L4 h0 o p1 FU (0 : Int32) (0 : Int32)
def f_M_mayGo (h0 : AH) (o : Nat) (p1 : Int32) : Option (Int32) :=
  (gR 12 h0 o 10).bind fun r1 =>
  (r1).bind fun a2 =>
  (rI 1 h0 a2 p1).bind fun x3 =>
  (gI 12 h0 o 51).bind fun x4 =>
  if (x3 &&& (x4 ^^^ (-1 : Int32))) = (0 : Int32) then
    (gR 12 h0 o 10).bind fun r5 =>
    (r5).bind fun a6 =>
    (rI 1 h0 a6 p1).bind fun x7 =>
    (cv 12 h0 o (f_M_worst h0 o x7)).bind fun x8 =>
    (gR 12 h0 o 13).bind fun r9 =>
    (r9).bind fun a10 =>
    (rI 1 h0 a10 (((5 : Int32) * p1) + (3 : Int32))).bind fun x11 =>
    if x11 < x8 then
      some ((0 : Int32))
    else
      some ((1 : Int32))
  else
    some ((0 : Int32))
def f_M_goOne_L37 (y0 : Nat) (y1 : Int32) (y2 : Int32) : Nat → Int32 → AH → Option (AH)
  | 0, _, _ => none
  | n + 1, z3, h =>
    if z3 < (12 : Int32) then
      (gR 12 h y0 11).bind fun r13 =>
      (r13).bind fun a14 =>
      (rI 1 h a14 y1).bind fun x15 =>
      if ((x15 >>> (z3 &&& 31)) &&& (1 : Int32)) = (1 : Int32) then
        (gR 12 h y0 52).bind fun r16 =>
        (gR 12 h y0 14).bind fun r17 =>
        (r17).bind fun a18 =>
        (rI 1 h a18 z3).bind fun x19 =>
        (
          if y2 < x19 then
            (gR 12 h y0 14).bind fun r20 =>
            (r20).bind fun a21 =>
            (rI 1 h a21 z3).bind fun x22 =>
            some (x22)
          else
            some (y2)
        ).bind fun x23 =>
        (r16).bind fun a24 =>
        (wI h a24 z3 x23).bind fun h25 =>
        f_M_goOne_L37 y0 y1 y2 n (z3 + (1 : Int32)) h25
      else
        f_M_goOne_L37 y0 y1 y2 n (z3 + (1 : Int32)) h
    else
      some h
def f_M_goOne (h0 : AH) (o : Nat) (p1 : Int32) : Option (AH) :=
  (gR 12 h0 o 10).bind fun r1 =>
  (r1).bind fun a2 =>
  (rI 1 h0 a2 p1).bind fun x3 =>
  (cv 12 h0 o (f_M_worst h0 o x3)).bind fun x4 =>
  (gI 12 h0 o 51).bind fun x5 =>
  (gR 12 h0 o 12).bind fun r6 =>
  (r6).bind fun a7 =>
  (rI 1 h0 a7 p1).bind fun x8 =>
  (gR 12 h0 o 11).bind fun r9 =>
  (r9).bind fun a10 =>
  (rI 1 h0 a10 p1).bind fun x11 =>
  (pI 12 h0 o 51 ((x5 &&& (x8 ^^^ (-1 : Int32))) ||| x11)).bind fun h12 =>
  f_M_goOne_L37 o p1 x4 FU (0 : Int32) h12
def f_M_walkRow_L20 {ρ : Type} (h0 : AH) (y0 : Nat) (y1 : Option Nat) (y2 : Int32) (y4 : Int32) (k : Int32 → Option (ρ)) : Nat → Int32 → Int32 → Option (ρ)
  | 0, _, _ => none
  | n + 1, z5, z6 =>
    if z6 < y4 then
      (y1).bind fun a2 =>
      (rI 1 h0 a2 z6).bind fun x3 =>
      (rI 1 h0 a2 y4).bind fun x4 =>
      (
        if x3 = x4 then
          some ((1 : Int32))
        else
          some ((0 : Int32))
      ).bind fun x5 =>
      (some ((z5 + x5))).bind fun x6 =>
      f_M_walkRow_L20 h0 y0 y1 y2 y4 k n x6 (z6 + (1 : Int32))
    else
      k z5
def f_M_walkRow_L8 (y0 : Nat) (y1 : Option Nat) (y2 : Int32) : Nat → Int32 → AH → Option (Int32 × AH)
  | 0, _, _ => none
  | n + 1, z4, h =>
    if z4 < y2 then
      f_M_walkRow_L20 h y0 y1 y2 z4 (fun x7 =>
        (gR 12 h y0 13).bind fun r8 =>
        (y1).bind fun a9 =>
        (rI 1 h a9 z4).bind fun x10 =>
        (r8).bind fun a11 =>
        (rI 1 h a11 (((5 : Int32) * x10) + (2 : Int32))).bind fun x12 =>
        if x7 < x12 then
          (rI 1 h a9 z4).bind fun x13 =>
          (cv 12 h y0 (f_M_mayGo h y0 x13)).bind fun x14 =>
          if x14 = (0 : Int32) then
            some (z4, h)
          else
            (rI 1 h a9 z4).bind fun x15 =>
            (cv 12 h y0 (f_M_goOne h y0 x15)).bind fun h16 =>
            f_M_walkRow_L8 y0 y1 y2 n (z4 + (1 : Int32)) h16
        else
          some (z4, h)
      ) FU (0 : Int32) (0 : Int32)
    else
      some ((-1 : Int32), h)
def f_M_walkRow (h0 : AH) (o : Nat) (p1 : Option Nat) (p2 : Int32) (p3 : Int32) : Option (Int32 × AH) :=
  (cv 12 h0 o (f_M_start h0 o p3)).bind fun h1 =>
  f_M_walkRow_L8 o p1 p2 FU (0 : Int32) h1
def f_M_stops (h0 : AH) (o : Nat) (p1 : Int32) : Option (Int32 × AH) :=
  (f_M_isSet h0 p1).bind fun x1 =>
  if x1 = (0 : Int32) then
    some ((-102 : Int32), h0)
  else
    (gR 12 h0 o 16).bind fun r2 =>
    (gI 12 h0 o 15).bind fun x3 =>
    bd2 (cv 12 h0 o (f_M_walkRow h0 o r2 x3 p1)) fun x4 h5 =>
    some (x4, h5)
def f_M_after (h0 : AH) (o : Nat) (p1 : Int32) : Option (Int32 × AH) :=
  (f_M_isSet h0 p1).bind fun x1 =>
  if x1 = (0 : Int32) then
    some ((-102 : Int32), h0)
  else
    (gR 12 h0 o 16).bind fun r2 =>
    (gI 12 h0 o 15).bind fun x3 =>
    bd2 (cv 12 h0 o (f_M_walkRow h0 o r2 x3 p1)) fun x4 h5 =>
    if x4 = (-1 : Int32) then
      (gI 12 h5 o 51).bind fun x6 =>
      some (x6, h5)
    else
      some ((-103 : Int32), h5)
def f_M_taint (h0 : AH) (o : Nat) (p1 : Int32) (p2 : Int32) : Option (Int32 × AH) :=
  (f_M_in h0 p2 (0 : Int32) (11 : Int32)).bind fun x1 =>
  if x1 = (0 : Int32) then
    some ((-101 : Int32), h0)
  else
    (f_M_isSet h0 p1).bind fun x2 =>
    if x2 = (0 : Int32) then
      some ((-102 : Int32), h0)
    else
      (gR 12 h0 o 16).bind fun r3 =>
      (gI 12 h0 o 15).bind fun x4 =>
      bd2 (cv 12 h0 o (f_M_walkRow h0 o r3 x4 p1)) fun x5 h6 =>
      if x5 = (-1 : Int32) then
        (gI 12 h6 o 51).bind fun x7 =>
        if ((x7 >>> (p2 &&& 31)) &&& (1 : Int32)) = (1 : Int32) then
          (gR 12 h6 o 52).bind fun r8 =>
          (r8).bind fun a9 =>
          (rI 1 h6 a9 p2).bind fun x10 =>
          some (x10, h6)
        else
          some ((-1 : Int32), h6)
      else
        some ((-103 : Int32), h6)
def f_M_pricesOf_L5 (h0 : AH) (y0 : Nat) (y1 : Option Nat) (y2 : Int32) : Nat → Int32 → Int32 → Option (Int32)
  | 0, _, _ => none
  | n + 1, z3, z4 =>
    if z4 < y2 then
      (gR 12 h0 y0 13).bind fun r1 =>
      (y1).bind fun a2 =>
      (rI 1 h0 a2 z4).bind fun x3 =>
      (r1).bind fun a4 =>
      (rI 1 h0 a4 ((5 : Int32) * x3)).bind fun x5 =>
      (some ((z3 + x5))).bind fun x6 =>
      f_M_pricesOf_L5 h0 y0 y1 y2 n x6 (z4 + (1 : Int32))
    else
      some (z3)
def f_M_pricesOf (h0 : AH) (o : Nat) (p1 : Option Nat) (p2 : Int32) : Option (Int32) :=
  f_M_pricesOf_L5 h0 o p1 p2 FU (0 : Int32) (0 : Int32)
def f_M_costs (h0 : AH) (o : Nat) : Option (Int32) :=
  (gR 12 h0 o 16).bind fun r1 =>
  (gI 12 h0 o 15).bind fun x2 =>
  (cv 12 h0 o (f_M_pricesOf h0 o r1 x2)).bind fun x3 =>
  some (x3)
