def f_M_talk_L70 {ρ : Type} (y0 : Nat) (y1 : Int32) (k : AH → Option (ρ)) : Nat → Int32 → AH → Option (ρ)
  | 0, _, _ => none
  | n + 1, z2, h =>
    if z2 < (16 : Int32) then
      (gR 12 h y0 4).bind fun r12 =>
      (gI 12 h y0 2).bind fun x13 =>
      (f_M_place h x13 y1 (0 : Int32) z2).bind fun x14 =>
      (r12).bind fun a15 =>
      (wI h a15 x14 (-1 : Int32)).bind fun h16 =>
      f_M_talk_L70 y0 y1 k n (z2 + (1 : Int32)) h16
    else
      k h
def f_M_talk_L100 {ρ : Type} (y0 : Nat) (y1 : Int32) (k : AH → Option (ρ)) : Nat → Int32 → AH → Option (ρ)
  | 0, _, _ => none
  | n + 1, z2, h =>
    (gI 12 h y0 30).bind fun x18 =>
    if z2 < x18 then
      (cv 12 h y0 (f_M_nextSet h y0 y1)).bind fun x19 =>
      if (lg_cmp ((xlshr x19 z2) &&& (1 : Int64)) (1 : Int64)) = (0 : Int32) then
        (gR 12 h y0 4).bind fun r20 =>
        (gI 12 h y0 2).bind fun x21 =>
        (gR 12 h y0 31).bind fun r22 =>
        (r22).bind fun a23 =>
        (rI 1 h a23 z2).bind fun x24 =>
        (gR 12 h y0 31).bind fun r25 =>
        (r25).bind fun a26 =>
        (rI 1 h a26 z2).bind fun x27 =>
        (f_M_place h x21 y1 (x24 - x24 / (2 : Int32) * (2 : Int32)) (x27 / (2 : Int32))).bind fun x28 =>
        (r20).bind fun a29 =>
        (wI h a29 x28 (z2 + (1 : Int32))).bind fun h30 =>
        f_M_talk_L100 y0 y1 k n (z2 + (1 : Int32)) h30
      else
        f_M_talk_L100 y0 y1 k n (z2 + (1 : Int32)) h
    else
      k h
def f_M_talk_L60 {ρ : Type} (y0 : Nat) (k : AH → Option (ρ)) : Nat → Int32 → AH → Option (ρ)
  | 0, _, _ => none
  | n + 1, z1, h =>
    (gI 12 h y0 30).bind fun x11 =>
    if x11 < z1 then
      k h
    else
      f_M_talk_L70 y0 z1 (fun h17 =>
        f_M_talk_L100 y0 z1 (fun h31 =>
          (gR 12 h31 y0 5).bind fun r32 =>
          (gI 12 h31 y0 2).bind fun x33 =>
          (
            if z1 = (0 : Int32) then
              (gR 12 h31 y0 24).bind fun r37 =>
              (r37).bind fun a38 =>
              (rI 2 h31 a38 (0 : Int32)).bind fun x39 =>
              some (x39)
            else
              (gR 12 h31 y0 26).bind fun r34 =>
              (r34).bind fun a35 =>
              (rJ h31 a35 (0 : Int32)).bind fun x36 =>
              if (lg_cmp ((xlshr x36 (z1 - (1 : Int32))) &&& (1 : Int64)) (1 : Int64)) = (0 : Int32) then
                some ((1 : Int32))
              else
                some ((0 : Int32))
          ).bind fun x40 =>
          (r32).bind fun a41 =>
          (wZ h31 a41 (((25 : Int32) * x33) + z1) x40).bind fun h42 =>
          f_M_talk_L60 y0 k n (z1 + (1 : Int32)) h42
        ) FU (0 : Int32) h17
      ) FU (0 : Int32) h
def f_M_talk (h0 : AH) (o : Nat) : Option (Int32 × AH) :=
  (cv 12 h0 o (f_M_readPage h0 o)).bind fun h1 =>
  (gI 12 h1 o 34).bind fun x2 =>
  if x2 = (0 : Int32) then
    some ((-103 : Int32), h1)
  else
    (gI 12 h1 o 30).bind fun x3 =>
    if (24 : Int32) < x3 then
      some ((-102 : Int32), h1)
    else
      (cv 12 h1 o (f_M_isTwofold h1 o)).bind fun x4 =>
      if x4 = (0 : Int32) then
        (gI 12 h1 o 2).bind fun x5 =>
        if x5 = (6 : Int32) then
          some ((-104 : Int32), h1)
        else
          (gR 12 h1 o 3).bind fun r6 =>
          (gI 12 h1 o 2).bind fun x7 =>
          (gI 12 h1 o 30).bind fun x8 =>
          (r6).bind fun a9 =>
          (wI h1 a9 x7 x8).bind fun h10 =>
          f_M_talk_L60 o (fun h43 =>
            (gI 12 h43 o 2).bind fun x44 =>
            (pI 12 h43 o 2 (x44 + (1 : Int32))).bind fun h45 =>
            (pI 12 h45 o 0 (0 : Int32)).bind fun h46 =>
            (gI 12 h46 o 2).bind fun x47 =>
            some ((x47 - (1 : Int32)), h46)
          ) FU (0 : Int32) h10
      else
        some ((-102 : Int32), h1)
def f_M_isTalk (h0 : AH) (o : Nat) (p1 : Int32) : Option (Int32) :=
  (gI 12 h0 o 2).bind fun x1 =>
  (f_M_in h0 p1 (0 : Int32) (x1 - (1 : Int32))).bind fun x2 =>
  if x2 = 0 ∨ x2 = 1 then
  some (x2)
  else none
def f_M_steps (h0 : AH) (o : Nat) (p1 : Int32) : Option (Int32) :=
  (cv 12 h0 o (f_M_isTalk h0 o p1)).bind fun x1 =>
  if x1 = (0 : Int32) then
    some ((-101 : Int32))
  else
    (gR 12 h0 o 3).bind fun r2 =>
    (r2).bind fun a3 =>
    (rI 1 h0 a3 p1).bind fun x4 =>
    some (x4)
def f_M_isState (h0 : AH) (o : Nat) (p1 : Int32) (p2 : Int32) : Option (Int32) :=
  (cv 12 h0 o (f_M_isTalk h0 o p1)).bind fun x1 =>
  if x1 = (0 : Int32) then
    some ((0 : Int32))
  else
    (gR 12 h0 o 3).bind fun r2 =>
    (r2).bind fun a3 =>
    (rI 1 h0 a3 p1).bind fun x4 =>
    (f_M_in h0 p2 (0 : Int32) x4).bind fun x5 =>
    if x5 = (0 : Int32) then
      some ((0 : Int32))
    else
      some ((1 : Int32))
def f_M_next (h0 : AH) (o : Nat) (p1 : Int32) (p2 : Int32) (p3 : Int32) (p4 : Int32) : Option (Int32) :=
  (cv 12 h0 o (f_M_isState h0 o p1 p2)).bind fun x1 =>
  if x1 = (0 : Int32) then
    some ((-101 : Int32))
  else
    (f_M_in h0 p3 (0 : Int32) (1 : Int32)).bind fun x2 =>
    if x2 = (0 : Int32) then
      some ((-102 : Int32))
    else
      (f_M_in h0 p4 (0 : Int32) (7 : Int32)).bind fun x3 =>
      if x3 = (0 : Int32) then
        some ((-102 : Int32))
      else
        (gR 12 h0 o 4).bind fun r4 =>
        (f_M_place h0 p1 p2 p3 p4).bind fun x5 =>
        (r4).bind fun a6 =>
        (rI 1 h0 a6 x5).bind fun x7 =>
        some (x7)
def f_M_ends (h0 : AH) (o : Nat) (p1 : Int32) (p2 : Int32) : Option (Int32) :=
  (cv 12 h0 o (f_M_isState h0 o p1 p2)).bind fun x1 =>
  if x1 = (0 : Int32) then
    some ((-101 : Int32))
  else
    (gR 12 h0 o 5).bind fun r2 =>
    (r2).bind fun a3 =>
    (rI 2 h0 a3 (((25 : Int32) * p1) + p2)).bind fun x4 =>
    if x4 = (0 : Int32) then
      some ((0 : Int32))
    else
      some ((1 : Int32))
def f_M_nowOf_L6 (h0 : AH) (y0 : Nat) (y1 : Int32) (y2 : Int32) (y3 : Int32) : Nat → Int32 → Int32 → Option (Int32)
  | 0, _, _ => none
  | n + 1, z4, z5 =>
    if z5 < (8 : Int32) then
      (gR 12 h0 y0 4).bind fun r1 =>
      (f_M_place h0 y1 y2 y3 z5).bind fun x2 =>
      (r1).bind fun a3 =>
      (rI 1 h0 a3 x2).bind fun x4 =>
      (
        if x4 = (-1 : Int32) then
          some ((0 : Int32))
        else
          some (((1 : Int32) <<< (z5 &&& 31)))
      ).bind fun x5 =>
      (some ((z4 ||| x5))).bind fun x6 =>
      f_M_nowOf_L6 h0 y0 y1 y2 y3 n x6 (z5 + (1 : Int32))
    else
      some (z4)
def f_M_nowOf (h0 : AH) (o : Nat) (p1 : Int32) (p2 : Int32) (p3 : Int32) : Option (Int32) :=
  f_M_nowOf_L6 h0 o p1 p2 p3 FU (0 : Int32) (0 : Int32)
def f_M_usesOf_L5 (h0 : AH) (y0 : Nat) (y1 : Int32) (y2 : Int32) : Nat → Int32 → Int32 → Option (Int32)
  | 0, _, _ => none
  | n + 1, z3, z4 =>
    (gR 12 h0 y0 3).bind fun r1 =>
    (r1).bind fun a2 =>
    (rI 1 h0 a2 y1).bind fun x3 =>
    if x3 < z4 then
      some (z3)
    else
      (cv 12 h0 y0 (f_M_nowOf h0 y0 y1 z4 y2)).bind fun x4 =>
      (some ((z3 ||| x4))).bind fun x5 =>
      f_M_usesOf_L5 h0 y0 y1 y2 n x5 (z4 + (1 : Int32))
def f_M_usesOf (h0 : AH) (o : Nat) (p1 : Int32) (p2 : Int32) : Option (Int32) :=
  f_M_usesOf_L5 h0 o p1 p2 FU (0 : Int32) (0 : Int32)
def f_M_uses (h0 : AH) (o : Nat) (p1 : Int32) (p2 : Int32) : Option (Int32) :=
  (cv 12 h0 o (f_M_isTalk h0 o p1)).bind fun x1 =>
  if x1 = (0 : Int32) then
    some ((-101 : Int32))
  else
    (f_M_in h0 p2 (0 : Int32) (1 : Int32)).bind fun x2 =>
    if x2 = (0 : Int32) then
      some ((-102 : Int32))
    else
      (cv 12 h0 o (f_M_usesOf h0 o p1 p2)).bind fun x3 =>
      some (x3)
def f_M_same_L2 (y0 : Nat) : Nat → Int32 → AH → Option (AH)
  | 0, _, _ => none
  | n + 1, z1, h =>
    if z1 < (8 : Int32) then
      (gR 12 h y0 43).bind fun r1 =>
      (r1).bind fun a2 =>
      (wI h a2 z1 z1).bind fun h3 =>
      (gR 12 h3 y0 44).bind fun r4 =>
      (r4).bind fun a5 =>
      (wI h3 a5 z1 z1).bind fun h6 =>
      f_M_same_L2 y0 n (z1 + (1 : Int32)) h6
    else
      some h
def f_M_same (h0 : AH) (o : Nat) : Option (AH) :=
  f_M_same_L2 o FU (0 : Int32) h0
def f_M_restart_L7 (y0 : Nat) : Nat → Int32 → AH → Option (AH)
  | 0, _, _ => none
  | n + 1, z1, h =>
    if z1 < (16384 : Int32) then
      (gR 12 h y0 42).bind fun r2 =>
      (r2).bind fun a3 =>
      (wI h a3 z1 (0 : Int32)).bind fun h4 =>
      f_M_restart_L7 y0 n (z1 + (1 : Int32)) h4
    else
      some h
def f_M_restart (h0 : AH) (o : Nat) : Option (AH) :=
  (pI 12 h0 o 38 (0 : Int32)).bind fun h1 =>
  f_M_restart_L7 o FU (0 : Int32) h1
def f_M_isNew_L12 (h0 : AH) (y0 : Nat) (y1 : Int32) (y2 : Int32) (y3 : Int32) (k : Int32 → Option (Int32 × AH)) : Nat → Int32 → Option (Int32 × AH)
  | 0, _ => none
  | n + 1, z4 =>
    (gR 12 h0 y0 42).bind fun r2 =>
    (r2).bind fun a3 =>
    (rI 1 h0 a3 z4).bind fun x4 =>
    if x4 = (0 : Int32) then
      k z4
    else
      (gR 12 h0 y0 39).bind fun r5 =>
      (gR 12 h0 y0 42).bind fun r6 =>
      (r6).bind fun a7 =>
      (rI 1 h0 a7 z4).bind fun x8 =>
      (r5).bind fun a9 =>
      (rI 1 h0 a9 (x8 - (1 : Int32))).bind fun x10 =>
      if x10 = y1 then
        some ((1 : Int32), h0)
      else
        (some (((z4 + (1 : Int32)) - (z4 + (1 : Int32)) / (16384 : Int32) * (16384 : Int32)))).bind fun x11 =>
        f_M_isNew_L12 h0 y0 y1 y2 y3 k n x11
def f_M_isNew (h0 : AH) (o : Nat) (p1 : Int32) (p2 : Int32) (p3 : Int32) : Option (Int32 × AH) :=
  (some (((xushr (p1 * (40503 : Int32)) (4 : Int32)) - (xushr (p1 * (40503 : Int32)) (4 : Int32)) / (16384 : Int32) * (16384 : Int32)))).bind fun x1 =>
  f_M_isNew_L12 h0 o p1 p2 p3 (fun x12 =>
    (gI 12 h0 o 38).bind fun x13 =>
    if x13 = (4000 : Int32) then
      some ((0 : Int32), h0)
    else
      (gR 12 h0 o 39).bind fun r14 =>
      (gI 12 h0 o 38).bind fun x15 =>
      (r14).bind fun a16 =>
      (wI h0 a16 x15 p1).bind fun h17 =>
      (gR 12 h17 o 40).bind fun r18 =>
      (gI 12 h17 o 38).bind fun x19 =>
      (r18).bind fun a20 =>
      (wI h17 a20 x19 p2).bind fun h21 =>
      (gR 12 h21 o 41).bind fun r22 =>
      (gI 12 h21 o 38).bind fun x23 =>
      (r22).bind fun a24 =>
      (wI h21 a24 x23 p3).bind fun h25 =>
      (gI 12 h25 o 38).bind fun x26 =>
      (pI 12 h25 o 38 (x26 + (1 : Int32))).bind fun h27 =>
      (gR 12 h27 o 42).bind fun r28 =>
      (gI 12 h27 o 38).bind fun x29 =>
      (r28).bind fun a30 =>
      (wI h27 a30 x12 x29).bind fun h31 =>
      some ((1 : Int32), h31)
  ) FU x1
def f_M_saysOf (h0 : AH) (o : Nat) (p1 : Int32) (p2 : Int32) (p3 : Int32) : Option (Int32) :=
  (gR 12 h0 o 44).bind fun r1 =>
  (r1).bind fun a2 =>
  (rI 1 h0 a2 p3).bind fun x3 =>
  if x3 = (-1 : Int32) then
    some ((-1 : Int32))
  else
    (gR 12 h0 o 4).bind fun r4 =>
    (gR 12 h0 o 44).bind fun r5 =>
    (r5).bind fun a6 =>
    (rI 1 h0 a6 p3).bind fun x7 =>
    (f_M_place h0 p1 p2 (1 : Int32) x7).bind fun x8 =>
    (r4).bind fun a9 =>
    (rI 1 h0 a9 x8).bind fun x10 =>
    some (x10)
def f_M_hearsOf (h0 : AH) (o : Nat) (p1 : Int32) (p2 : Int32) (p3 : Int32) : Option (Int32) :=
  (gR 12 h0 o 44).bind fun r1 =>
  (r1).bind fun a2 =>
  (rI 1 h0 a2 p3).bind fun x3 =>
  if x3 = (-1 : Int32) then
    some ((-1 : Int32))
  else
    (gR 12 h0 o 4).bind fun r4 =>
    (gR 12 h0 o 44).bind fun r5 =>
    (r5).bind fun a6 =>
    (rI 1 h0 a6 p3).bind fun x7 =>
    (f_M_place h0 p1 p2 (0 : Int32) x7).bind fun x8 =>
    (r4).bind fun a9 =>
    (rI 1 h0 a9 x8).bind fun x10 =>
    some (x10)
def f_M_passFrom_L35 (y0 : Nat) (y1 : Int32) (y2 : Int32) (y3 : Int32) (y4 : Int32) (y5 : Int32) : Nat → Int32 → AH → Option (AH)
  | 0, _, _ => none
  | n + 1, z6, h =>
    if z6 < (8 : Int32) then
      (cv 12 h y0 (f_M_saysOf h y0 y1 y4 z6)).bind fun x11 =>
      (gR 12 h y0 4).bind fun r12 =>
      (f_M_place h y2 y5 (0 : Int32) z6).bind fun x13 =>
      (r12).bind fun a14 =>
      (rI 1 h a14 x13).bind fun x15 =>
      (gI 12 h y0 45).bind fun x16 =>
      (
        if x16 = (0 : Int32) then
          if x11 = (-1 : Int32) then
            some ((0 : Int32))
          else
            if x15 = (-1 : Int32) then
              some ((1 : Int32))
            else
              some ((0 : Int32))
        else
          some ((1 : Int32))
      ).bind fun x17 =>
      (pZ 12 h y0 45 x17).bind fun h18 =>
      (
        if x11 = (-1 : Int32) then
          some (h18)
        else
          if x15 = (-1 : Int32) then
            some (h18)
          else
            (pZ 12 h18 y0 46 (1 : Int32)).bind fun h19 =>
            bd2 (cv 12 h19 y0 (f_M_isNew h19 y0 (((25 : Int32) * x11) + x15) y3 ((2 : Int32) * z6))) fun x20 h21 =>
            some (h21)
      ).bind fun h22 =>
      (gR 12 h22 y0 4).bind fun r23 =>
      (f_M_place h22 y2 y5 (1 : Int32) z6).bind fun x24 =>
      (r23).bind fun a25 =>
      (rI 1 h22 a25 x24).bind fun x26 =>
      (cv 12 h22 y0 (f_M_hearsOf h22 y0 y1 y4 z6)).bind fun x27 =>
      (gI 12 h22 y0 45).bind fun x28 =>
      (
        if x28 = (0 : Int32) then
          if x26 = (-1 : Int32) then
            some ((0 : Int32))
          else
            if x27 = (-1 : Int32) then
              some ((1 : Int32))
            else
              some ((0 : Int32))
        else
          some ((1 : Int32))
      ).bind fun x29 =>
      (pZ 12 h22 y0 45 x29).bind fun h30 =>
      if x26 = (-1 : Int32) then
        f_M_passFrom_L35 y0 y1 y2 y3 y4 y5 n (z6 + (1 : Int32)) h30
      else
        if x27 = (-1 : Int32) then
          f_M_passFrom_L35 y0 y1 y2 y3 y4 y5 n (z6 + (1 : Int32)) h30
        else
          (pZ 12 h30 y0 46 (1 : Int32)).bind fun h31 =>
          bd2 (cv 12 h31 y0 (f_M_isNew h31 y0 (((25 : Int32) * x27) + x26) y3 (((2 : Int32) * z6) + (1 : Int32)))) fun x32 h33 =>
          f_M_passFrom_L35 y0 y1 y2 y3 y4 y5 n (z6 + (1 : Int32)) h33
    else
      some h
def f_M_passFrom (h0 : AH) (o : Nat) (p1 : Int32) (p2 : Int32) (p3 : Int32) : Option (AH) :=
  (gR 12 h0 o 39).bind fun r1 =>
  (r1).bind fun a2 =>
  (rI 1 h0 a2 p3).bind fun x3 =>
  (some ((x3 / (25 : Int32)))).bind fun x4 =>
  (gR 12 h0 o 39).bind fun r5 =>
  (r5).bind fun a6 =>
  (rI 1 h0 a6 p3).bind fun x7 =>
  (some ((x7 - x7 / (25 : Int32) * (25 : Int32)))).bind fun x8 =>
  (pZ 12 h0 o 45 (0 : Int32)).bind fun h9 =>
  (pZ 12 h9 o 46 (0 : Int32)).bind fun h10 =>
  f_M_passFrom_L35 o p1 p2 p3 x4 x8 FU (0 : Int32) h10
def f_M_walk_L18 (y0 : Nat) (y1 : Int32) (y2 : Int32) (y3 : Int32) : Nat → Int32 → Int32 → AH → Option (Int32 × AH)
  | 0, _, _, _ => none
  | n + 1, z4, z5, h =>
    (gI 12 h y0 38).bind fun x4 =>
    if z5 < x4 then
      if y3 = (0 : Int32) then
        if z4 = (0 : Int32) then
          (cv 12 h y0 (f_M_passFrom h y0 y1 y2 z5)).bind fun h23 =>
          (gR 12 h23 y0 5).bind fun r24 =>
          (gR 12 h23 y0 39).bind fun r25 =>
          (r25).bind fun a26 =>
          (rI 1 h23 a26 z5).bind fun x27 =>
          (r24).bind fun a28 =>
          (rI 2 h23 a28 (((25 : Int32) * y1) + (x27 / (25 : Int32)))).bind fun x29 =>
          (
            if x29 = (0 : Int32) then
              some ((0 : Int32))
            else
              (gR 12 h23 y0 5).bind fun r30 =>
              (gR 12 h23 y0 39).bind fun r31 =>
              (r31).bind fun a32 =>
              (rI 1 h23 a32 z5).bind fun x33 =>
              (r30).bind fun a34 =>
              (rI 2 h23 a34 (((25 : Int32) * y2) + (x33 - x33 / (25 : Int32) * (25 : Int32)))).bind fun x35 =>
              if x35 = (0 : Int32) then
                some ((0 : Int32))
              else
                some ((1 : Int32))
          ).bind fun x36 =>
          (gI 12 h23 y0 45).bind fun x37 =>
          (
            if x37 = (0 : Int32) then
              (gI 12 h23 y0 46).bind fun x38 =>
              if x38 = (0 : Int32) then
                if x36 = (0 : Int32) then
                  some ((1 : Int32))
                else
                  some ((0 : Int32))
              else
                some ((0 : Int32))
            else
              some ((2 : Int32))
          ).bind fun x39 =>
          if z4 = (0 : Int32) then
            if (0 : Int32) < x39 then
              (pI 12 h23 y0 47 z5).bind fun h40 =>
              f_M_walk_L18 y0 y1 y2 y3 n x39 (z5 + (1 : Int32)) h40
            else
              f_M_walk_L18 y0 y1 y2 y3 n z4 (z5 + (1 : Int32)) h23
          else
            f_M_walk_L18 y0 y1 y2 y3 n z4 (z5 + (1 : Int32)) h23
        else
          some (z4, h)
      else
        (cv 12 h y0 (f_M_passFrom h y0 y1 y2 z5)).bind fun h5 =>
        (gR 12 h5 y0 5).bind fun r6 =>
        (gR 12 h5 y0 39).bind fun r7 =>
        (r7).bind fun a8 =>
        (rI 1 h5 a8 z5).bind fun x9 =>
        (r6).bind fun a10 =>
        (rI 2 h5 a10 (((25 : Int32) * y1) + (x9 / (25 : Int32)))).bind fun x11 =>
        (
          if x11 = (0 : Int32) then
            some ((0 : Int32))
          else
            (gR 12 h5 y0 5).bind fun r12 =>
            (gR 12 h5 y0 39).bind fun r13 =>
            (r13).bind fun a14 =>
            (rI 1 h5 a14 z5).bind fun x15 =>
            (r12).bind fun a16 =>
            (rI 2 h5 a16 (((25 : Int32) * y2) + (x15 - x15 / (25 : Int32) * (25 : Int32)))).bind fun x17 =>
            if x17 = (0 : Int32) then
              some ((0 : Int32))
            else
              some ((1 : Int32))
        ).bind fun x18 =>
        (gI 12 h5 y0 45).bind fun x19 =>
        (
          if x19 = (0 : Int32) then
            (gI 12 h5 y0 46).bind fun x20 =>
            if x20 = (0 : Int32) then
              if x18 = (0 : Int32) then
                some ((1 : Int32))
              else
                some ((0 : Int32))
            else
              some ((0 : Int32))
          else
            some ((2 : Int32))
        ).bind fun x21 =>
        if z4 = (0 : Int32) then
          if (0 : Int32) < x21 then
            (pI 12 h5 y0 47 z5).bind fun h22 =>
            f_M_walk_L18 y0 y1 y2 y3 n x21 (z5 + (1 : Int32)) h22
          else
            f_M_walk_L18 y0 y1 y2 y3 n z4 (z5 + (1 : Int32)) h5
        else
          f_M_walk_L18 y0 y1 y2 y3 n z4 (z5 + (1 : Int32)) h5
    else
      some (z4, h)
def f_M_walk (h0 : AH) (o : Nat) (p1 : Int32) (p2 : Int32) (p3 : Int32) : Option (Int32 × AH) :=
  (cv 12 h0 o (f_M_restart h0 o)).bind fun h1 =>
  bd2 (cv 12 h1 o (f_M_isNew h1 o (0 : Int32) (0 : Int32) (0 : Int32))) fun x2 h3 =>
  f_M_walk_L18 o p1 p2 p3 FU (0 : Int32) (0 : Int32) h3
def f_M_sizeOf (h0 : AH) (p1 : Int32) : Option (Int32) :=
  if p1 = (0 : Int32) then
    some ((0 : Int32))
  else
    if p1 < (9 : Int32) then
      some ((1 : Int32))
    else
      some ((2 : Int32))
def f_M_behind (h0 : AH) (p1 : Int32) (p2 : Int32) : Option (Int32) :=
  if p1 = (0 : Int32) then
    some ((p2 + (1 : Int32)))
  else
    some ((((9 : Int32) + ((8 : Int32) * (p1 - (1 : Int32)))) + p2))
def f_M_code (h0 : AH) (p1 : Int32) (p2 : Int32) (p3 : Int32) (p4 : Int32) : Option (Int32) :=
  some (((((((p1 * (25 : Int32)) + p2) * (73 : Int32)) + p3) * (73 : Int32)) + p4))
def f_M_come (h0 : AH) (o : Nat) (p1 : Int32) (p2 : Int32) (p3 : Int32) : Option (AH) :=
  (pZ 12 h0 o 46 (1 : Int32)).bind fun h1 =>
  (gI 12 h1 o 48).bind fun x2 =>
  bd2 (
    if x2 = (0 : Int32) then
      bd2 (cv 12 h1 o (f_M_isNew h1 o p1 p2 p3)) fun x3 h4 =>
      if x3 = (0 : Int32) then
        some ((1 : Int32), h4)
      else
        some ((0 : Int32), h4)
    else
      some ((1 : Int32), h1)
  ) fun x5 h6 =>
  (pZ 12 h6 o 48 x5).bind fun h7 =>
  some h7
def f_M_front (h0 : AH) (p1 : Int32) : Option (Int32) :=
  if p1 < (9 : Int32) then
    some ((p1 - (1 : Int32)))
  else
    some (((p1 - (9 : Int32)) / (8 : Int32)))
def f_M_rest (h0 : AH) (p1 : Int32) : Option (Int32) :=
  if p1 < (9 : Int32) then
    some ((0 : Int32))
  else
    some ((((p1 - (9 : Int32)) - (p1 - (9 : Int32)) / (8 : Int32) * (8 : Int32)) + (1 : Int32)))
