def f_M_actFrom_L63 {ρ : Type} (y0 : Nat) (y1 : Int32) (y2 : Int32) (y3 : Int32) (y4 : Int32) (y5 : Int32) (y6 : Int32) (y7 : Int32) (y8 : Int32) (k : AH → Option (ρ)) : Nat → Int32 → AH → Option (ρ)
  | 0, _, _ => none
  | n + 1, z9, h =>
    if z9 < (8 : Int32) then
      (gR 12 h y0 4).bind fun r18 =>
      (f_M_place h y1 y8 (1 : Int32) z9).bind fun x19 =>
      (r18).bind fun a20 =>
      (rI 1 h a20 x19).bind fun x21 =>
      if x21 = (-1 : Int32) then
        f_M_actFrom_L63 y0 y1 y2 y3 y4 y5 y6 y7 y8 k n (z9 + (1 : Int32)) h
      else
        (f_M_sizeOf h y6).bind fun x22 =>
        if x22 < y3 then
          (f_M_behind h y6 z9).bind fun x23 =>
          (f_M_code h x21 y7 x23 y5).bind fun x24 =>
          (cv 12 h y0 (f_M_come h y0 x24 y4 z9)).bind fun h25 =>
          f_M_actFrom_L63 y0 y1 y2 y3 y4 y5 y6 y7 y8 k n (z9 + (1 : Int32)) h25
        else
          f_M_actFrom_L63 y0 y1 y2 y3 y4 y5 y6 y7 y8 k n (z9 + (1 : Int32)) h
    else
      k h
def f_M_actFrom_L134 {ρ : Type} (y0 : Nat) (y1 : Int32) (y2 : Int32) (y3 : Int32) (y4 : Int32) (y5 : Int32) (y6 : Int32) (y7 : Int32) (y8 : Int32) (k : AH → Option (ρ)) : Nat → Int32 → AH → Option (ρ)
  | 0, _, _ => none
  | n + 1, z9, h =>
    if z9 < (8 : Int32) then
      (gR 12 h y0 4).bind fun r27 =>
      (f_M_place h y2 y7 (1 : Int32) z9).bind fun x28 =>
      (r27).bind fun a29 =>
      (rI 1 h a29 x28).bind fun x30 =>
      if x30 = (-1 : Int32) then
        f_M_actFrom_L134 y0 y1 y2 y3 y4 y5 y6 y7 y8 k n (z9 + (1 : Int32)) h
      else
        (f_M_sizeOf h y5).bind fun x31 =>
        if x31 < y3 then
          (f_M_behind h y5 z9).bind fun x32 =>
          (f_M_code h y8 x30 y6 x32).bind fun x33 =>
          (cv 12 h y0 (f_M_come h y0 x33 y4 ((8 : Int32) + z9))).bind fun h34 =>
          f_M_actFrom_L134 y0 y1 y2 y3 y4 y5 y6 y7 y8 k n (z9 + (1 : Int32)) h34
        else
          f_M_actFrom_L134 y0 y1 y2 y3 y4 y5 y6 y7 y8 k n (z9 + (1 : Int32)) h
    else
      k h
def f_M_actFrom (h0 : AH) (o : Nat) (p1 : Int32) (p2 : Int32) (p3 : Int32) (p4 : Int32) : Option (AH) :=
  (gR 12 h0 o 39).bind fun r1 =>
  (r1).bind fun a2 =>
  (rI 1 h0 a2 p4).bind fun x3 =>
  (some ((x3 - x3 / (73 : Int32) * (73 : Int32)))).bind fun x4 =>
  (gR 12 h0 o 39).bind fun r5 =>
  (r5).bind fun a6 =>
  (rI 1 h0 a6 p4).bind fun x7 =>
  (some (((x7 / (73 : Int32)) - (x7 / (73 : Int32)) / (73 : Int32) * (73 : Int32)))).bind fun x8 =>
  (gR 12 h0 o 39).bind fun r9 =>
  (r9).bind fun a10 =>
  (rI 1 h0 a10 p4).bind fun x11 =>
  (some (((x11 / (5329 : Int32)) - (x11 / (5329 : Int32)) / (25 : Int32) * (25 : Int32)))).bind fun x12 =>
  (gR 12 h0 o 39).bind fun r13 =>
  (r13).bind fun a14 =>
  (rI 1 h0 a14 p4).bind fun x15 =>
  (some ((x15 / (133225 : Int32)))).bind fun x16 =>
  (pZ 12 h0 o 46 (0 : Int32)).bind fun h17 =>
  f_M_actFrom_L63 o p1 p2 p3 p4 x4 x8 x12 x16 (fun h26 =>
    f_M_actFrom_L134 o p1 p2 p3 p4 x4 x8 x12 x16 (fun h35 =>
      (
        if (0 : Int32) < x4 then
          (gR 12 h35 o 4).bind fun r36 =>
          (f_M_front h35 x4).bind fun x37 =>
          (f_M_place h35 p1 x16 (0 : Int32) x37).bind fun x38 =>
          (r36).bind fun a39 =>
          (rI 1 h35 a39 x38).bind fun x40 =>
          if x40 = (-1 : Int32) then
            some (h35)
          else
            (gR 12 h35 o 4).bind fun r41 =>
            (f_M_front h35 x4).bind fun x42 =>
            (f_M_place h35 p1 x16 (0 : Int32) x42).bind fun x43 =>
            (r41).bind fun a44 =>
            (rI 1 h35 a44 x43).bind fun x45 =>
            (f_M_rest h35 x4).bind fun x46 =>
            (f_M_code h35 x45 x12 x8 x46).bind fun x47 =>
            (cv 12 h35 o (f_M_come h35 o x47 p4 (16 : Int32))).bind fun h48 =>
            some (h48)
        else
          some (h35)
      ).bind fun h49 =>
      if (0 : Int32) < x8 then
        (gR 12 h49 o 4).bind fun r50 =>
        (f_M_front h49 x8).bind fun x51 =>
        (f_M_place h49 p2 x12 (0 : Int32) x51).bind fun x52 =>
        (r50).bind fun a53 =>
        (rI 1 h49 a53 x52).bind fun x54 =>
        if x54 = (-1 : Int32) then
          some h49
        else
          (gR 12 h49 o 4).bind fun r55 =>
          (f_M_front h49 x8).bind fun x56 =>
          (f_M_place h49 p2 x12 (0 : Int32) x56).bind fun x57 =>
          (r55).bind fun a58 =>
          (rI 1 h49 a58 x57).bind fun x59 =>
          (f_M_rest h49 x8).bind fun x60 =>
          (f_M_code h49 x16 x59 x60 x4).bind fun x61 =>
          (cv 12 h49 o (f_M_come h49 o x61 p4 (17 : Int32))).bind fun h62 =>
          some h62
      else
        some h49
    ) FU (0 : Int32) h26
  ) FU (0 : Int32) h17
def f_M_walkQueues_L23 {ρ : Type} (y0 : Nat) (y1 : Int32) (y2 : Int32) (y3 : Int32) (k : Int32 → AH → Option (ρ)) : Nat → Int32 → Int32 → AH → Option (ρ)
  | 0, _, _, _ => none
  | n + 1, z4, z5, h =>
    (gI 12 h y0 38).bind fun x5 =>
    if z5 < x5 then
      (gI 12 h y0 48).bind fun x6 =>
      if x6 = (0 : Int32) then
        (cv 12 h y0 (f_M_actFrom h y0 y1 y2 y3 z5)).bind fun h7 =>
        (gR 12 h7 y0 39).bind fun r8 =>
        (r8).bind fun a9 =>
        (rI 1 h7 a9 z5).bind fun x10 =>
        (
          if (x10 - x10 / (5329 : Int32) * (5329 : Int32)) = (0 : Int32) then
            some ((1 : Int32))
          else
            some ((0 : Int32))
        ).bind fun x11 =>
        (
          if x11 = (0 : Int32) then
            some ((0 : Int32))
          else
            (gR 12 h7 y0 5).bind fun r12 =>
            (gR 12 h7 y0 39).bind fun r13 =>
            (r13).bind fun a14 =>
            (rI 1 h7 a14 z5).bind fun x15 =>
            (r12).bind fun a16 =>
            (rI 2 h7 a16 (((25 : Int32) * y1) + (x15 / (133225 : Int32)))).bind fun x17 =>
            if x17 = (0 : Int32) then
              some ((0 : Int32))
            else
              (gR 12 h7 y0 5).bind fun r18 =>
              (gR 12 h7 y0 39).bind fun r19 =>
              (r19).bind fun a20 =>
              (rI 1 h7 a20 z5).bind fun x21 =>
              (r18).bind fun a22 =>
              (rI 2 h7 a22 (((25 : Int32) * y2) + ((x21 / (5329 : Int32)) - (x21 / (5329 : Int32)) / (25 : Int32) * (25 : Int32)))).bind fun x23 =>
              if x23 = (0 : Int32) then
                some ((0 : Int32))
              else
                some ((1 : Int32))
        ).bind fun x24 =>
        if z4 = (0 : Int32) then
          (gI 12 h7 y0 46).bind fun x25 =>
          if x25 = (0 : Int32) then
            if x24 = (0 : Int32) then
              (pI 12 h7 y0 47 z5).bind fun h26 =>
              f_M_walkQueues_L23 y0 y1 y2 y3 k n (1 : Int32) (z5 + (1 : Int32)) h26
            else
              f_M_walkQueues_L23 y0 y1 y2 y3 k n z4 (z5 + (1 : Int32)) h7
          else
            f_M_walkQueues_L23 y0 y1 y2 y3 k n z4 (z5 + (1 : Int32)) h7
        else
          f_M_walkQueues_L23 y0 y1 y2 y3 k n z4 (z5 + (1 : Int32)) h7
      else
        k z4 h
    else
      k z4 h
def f_M_walkQueues (h0 : AH) (o : Nat) (p1 : Int32) (p2 : Int32) (p3 : Int32) : Option (Int32 × AH) :=
  (cv 12 h0 o (f_M_restart h0 o)).bind fun h1 =>
  (pZ 12 h1 o 48 (0 : Int32)).bind fun h2 =>
  bd2 (cv 12 h2 o (f_M_isNew h2 o (0 : Int32) (0 : Int32) (0 : Int32))) fun x3 h4 =>
  f_M_walkQueues_L23 o p1 p2 p3 (fun x27 h28 =>
    (gI 12 h28 o 48).bind fun x29 =>
    if x29 = (0 : Int32) then
      some (x27, h28)
    else
      some ((3 : Int32), h28)
  ) FU (0 : Int32) (0 : Int32) h4
def f_M_traceTo_L7 {ρ : Type} (y0 : Nat) (y1 : Int32) (k : AH → Option (ρ)) : Nat → Int32 → AH → Option (ρ)
  | 0, _, _ => none
  | n + 1, z2, h =>
    if (0 : Int32) < z2 then
      (gI 12 h y0 36).bind fun x2 =>
      (pI 12 h y0 36 (x2 + (1 : Int32))).bind fun h3 =>
      (gR 12 h3 y0 40).bind fun r4 =>
      (r4).bind fun a5 =>
      (rI 1 h3 a5 z2).bind fun x6 =>
      f_M_traceTo_L7 y0 y1 k n x6 h3
    else
      k h
def f_M_traceTo_L38 (y0 : Nat) : Nat → Int32 → Int32 → AH → Option (AH)
  | 0, _, _, _ => none
  | n + 1, z2, z3, h =>
    if (0 : Int32) < z3 then
      (gR 12 h y0 37).bind fun r9 =>
      (gR 12 h y0 41).bind fun r10 =>
      (r10).bind fun a11 =>
      (rI 1 h a11 z3).bind fun x12 =>
      (r9).bind fun a13 =>
      (wI h a13 (z2 + (-1 : Int32)) x12).bind fun h14 =>
      (gR 12 h14 y0 40).bind fun r15 =>
      (r15).bind fun a16 =>
      (rI 1 h14 a16 z3).bind fun x17 =>
      f_M_traceTo_L38 y0 n (z2 + (-1 : Int32)) x17 h14
    else
      some h
def f_M_traceTo (h0 : AH) (o : Nat) (p1 : Int32) : Option (AH) :=
  (pI 12 h0 o 36 (0 : Int32)).bind fun h1 =>
  f_M_traceTo_L7 o p1 (fun h7 =>
    (gI 12 h7 o 36).bind fun x8 =>
    f_M_traceTo_L38 o FU x8 p1 h7
  ) FU p1 h1
def f_M_join (h0 : AH) (o : Nat) (p1 : Int32) (p2 : Int32) (p3 : Int32) : Option (Int32 × AH) :=
  (cv 12 h0 o (f_M_isTalk h0 o p1)).bind fun x1 =>
  if x1 = (0 : Int32) then
    some ((-101 : Int32), h0)
  else
    (cv 12 h0 o (f_M_isTalk h0 o p2)).bind fun x2 =>
    if x2 = (0 : Int32) then
      some ((-101 : Int32), h0)
    else
      (f_M_in h0 p3 (0 : Int32) (2 : Int32)).bind fun x3 =>
      if x3 = (0 : Int32) then
        some ((-102 : Int32), h0)
      else
        if (0 : Int32) < p3 then
          (gI 12 h0 o 6).bind fun x20 =>
          if x20 = (20 : Int32) then
            some ((-103 : Int32), h0)
          else
            (gI 12 h0 o 6).bind fun x21 =>
            (
              if (0 : Int32) < p3 then
                some ((1 : Int32))
              else
                some ((0 : Int32))
            ).bind fun x22 =>
            (pI 12 h0 o 6 (x21 + x22)).bind fun h23 =>
            (cv 12 h23 o (f_M_same h23 o)).bind fun h24 =>
            bd2 (
              if p3 = (0 : Int32) then
                bd2 (cv 12 h24 o (f_M_walk h24 o p1 p2 (1 : Int32))) fun x27 h28 =>
                some (x27, h28)
              else
                bd2 (cv 12 h24 o (f_M_walkQueues h24 o p1 p2 p3)) fun x25 h26 =>
                some (x25, h26)
            ) fun x29 h30 =>
            (gI 12 h30 o 38).bind fun x31 =>
            (pI 12 h30 o 35 x31).bind fun h32 =>
            (pI 12 h32 o 36 (0 : Int32)).bind fun h33 =>
            (f_M_in h33 x29 (1 : Int32) (2 : Int32)).bind fun x34 =>
            if x34 = (0 : Int32) then
              some (x29, h33)
            else
              (gI 12 h33 o 47).bind fun x35 =>
              (cv 12 h33 o (f_M_traceTo h33 o x35)).bind fun h36 =>
              some (x29, h36)
        else
          (gI 12 h0 o 6).bind fun x4 =>
          (
            if (0 : Int32) < p3 then
              some ((1 : Int32))
            else
              some ((0 : Int32))
          ).bind fun x5 =>
          (pI 12 h0 o 6 (x4 + x5)).bind fun h6 =>
          (cv 12 h6 o (f_M_same h6 o)).bind fun h7 =>
          bd2 (
            if p3 = (0 : Int32) then
              bd2 (cv 12 h7 o (f_M_walk h7 o p1 p2 (1 : Int32))) fun x10 h11 =>
              some (x10, h11)
            else
              bd2 (cv 12 h7 o (f_M_walkQueues h7 o p1 p2 p3)) fun x8 h9 =>
              some (x8, h9)
          ) fun x12 h13 =>
          (gI 12 h13 o 38).bind fun x14 =>
          (pI 12 h13 o 35 x14).bind fun h15 =>
          (pI 12 h15 o 36 (0 : Int32)).bind fun h16 =>
          (f_M_in h16 x12 (1 : Int32) (2 : Int32)).bind fun x17 =>
          if x17 = (0 : Int32) then
            some (x12, h16)
          else
            (gI 12 h16 o 47).bind fun x18 =>
            (cv 12 h16 o (f_M_traceTo h16 o x18)).bind fun h19 =>
            some (x12, h19)
def f_M_walked (h0 : AH) (o : Nat) : Option (Int32) :=
  (gI 12 h0 o 35).bind fun x1 =>
  some (x1)
def f_M_trace (h0 : AH) (o : Nat) (p1 : Int32) : Option (Int32) :=
  (gI 12 h0 o 36).bind fun x1 =>
  (f_M_in h0 p1 (0 : Int32) (x1 - (1 : Int32))).bind fun x2 =>
  if x2 = (0 : Int32) then
    some ((-1 : Int32))
  else
    (gR 12 h0 o 37).bind fun r3 =>
    (r3).bind fun a4 =>
    (rI 1 h0 a4 p1).bind fun x5 =>
    some (x5)
def f_M_mayFit_L112 (h0 : AH) (y0 : Nat) (y1 : Int32) (y2 : Int32) (y3 : Int32) (y4 : Int32) (y6 : Int32) (y8 : Int32) : Nat → Int32 → Int32 → Option (Int32)
  | 0, _, _ => none
  | n + 1, z5, z9 =>
    if z9 < (8 : Int32) then
      if z5 = (0 : Int32) then
        if z5 = 0 ∨ z5 = 1 then
        some (z5)
        else none
      else
        (
          if ((y8 >>> (z9 &&& 31)) &&& (1 : Int32)) = (1 : Int32) then
            (gR 12 h0 y0 49).bind fun r13 =>
            (gR 12 h0 y0 4).bind fun r14 =>
            (f_M_place h0 y1 y3 (0 : Int32) z9).bind fun x15 =>
            (r14).bind fun a16 =>
            (rI 1 h0 a16 x15).bind fun x17 =>
            (gR 12 h0 y0 4).bind fun r18 =>
            (f_M_place h0 y2 y4 (0 : Int32) z9).bind fun x19 =>
            (r18).bind fun a20 =>
            (rI 1 h0 a20 x19).bind fun x21 =>
            (r13).bind fun a22 =>
            (rI 2 h0 a22 (((25 : Int32) * x17) + x21)).bind fun x23 =>
            some (x23)
          else
            some (z5)
        ).bind fun x24 =>
        if x24 = (0 : Int32) then
          f_M_mayFit_L112 h0 y0 y1 y2 y3 y4 y6 y8 n x24 (z9 + (1 : Int32))
        else
          if ((y6 >>> (z9 &&& 31)) &&& (1 : Int32)) = (1 : Int32) then
            (gR 12 h0 y0 49).bind fun r25 =>
            (gR 12 h0 y0 4).bind fun r26 =>
            (f_M_place h0 y1 y3 (1 : Int32) z9).bind fun x27 =>
            (r26).bind fun a28 =>
            (rI 1 h0 a28 x27).bind fun x29 =>
            (gR 12 h0 y0 4).bind fun r30 =>
            (f_M_place h0 y2 y4 (1 : Int32) z9).bind fun x31 =>
            (r30).bind fun a32 =>
            (rI 1 h0 a32 x31).bind fun x33 =>
            (r25).bind fun a34 =>
            (rI 2 h0 a34 (((25 : Int32) * x29) + x33)).bind fun x35 =>
            f_M_mayFit_L112 h0 y0 y1 y2 y3 y4 y6 y8 n x35 (z9 + (1 : Int32))
          else
            f_M_mayFit_L112 h0 y0 y1 y2 y3 y4 y6 y8 n x24 (z9 + (1 : Int32))
    else
      if z5 = 0 ∨ z5 = 1 then
      some (z5)
      else none
def f_M_mayFit (h0 : AH) (o : Nat) (p1 : Int32) (p2 : Int32) (p3 : Int32) (p4 : Int32) : Option (Int32) :=
  (gR 12 h0 o 5).bind fun r1 =>
  (r1).bind fun a2 =>
  (rI 2 h0 a2 (((25 : Int32) * p1) + p3)).bind fun x3 =>
  (gR 12 h0 o 5).bind fun r4 =>
  (r4).bind fun a5 =>
  (rI 2 h0 a5 (((25 : Int32) * p2) + p4)).bind fun x6 =>
  (
    if x3 = x6 then
      some ((1 : Int32))
    else
      some ((0 : Int32))
  ).bind fun x7 =>
  (cv 12 h0 o (f_M_nowOf h0 o p1 p3 (1 : Int32))).bind fun x8 =>
  (cv 12 h0 o (f_M_nowOf h0 o p2 p4 (1 : Int32))).bind fun x9 =>
  (cv 12 h0 o (f_M_nowOf h0 o p2 p4 (0 : Int32))).bind fun x10 =>
  (
    if x7 = (0 : Int32) then
      some ((0 : Int32))
    else
      if (x8 &&& (x9 ^^^ (-1 : Int32))) = (0 : Int32) then
        (cv 12 h0 o (f_M_nowOf h0 o p1 p3 (0 : Int32))).bind fun x11 =>
        if (x10 &&& (x11 ^^^ (-1 : Int32))) = (0 : Int32) then
          if x8 = (0 : Int32) then
            if x9 = (0 : Int32) then
              some ((1 : Int32))
            else
              some ((0 : Int32))
          else
            some ((1 : Int32))
        else
          some ((0 : Int32))
      else
        some ((0 : Int32))
  ).bind fun x12 =>
  f_M_mayFit_L112 h0 o p1 p2 p3 p4 x8 x10 FU x12 (0 : Int32)
def f_M_fitAll_L2 {ρ : Type} (y0 : Nat) (y1 : Int32) (y2 : Int32) (k : AH → Option (ρ)) : Nat → Int32 → AH → Option (ρ)
  | 0, _, _ => none
  | n + 1, z3, h =>
    if z3 < (625 : Int32) then
      (gR 12 h y0 49).bind fun r1 =>
      (gR 12 h y0 3).bind fun r2 =>
      (r2).bind fun a3 =>
      (rI 1 h a3 y1).bind fun x4 =>
      (
        if x4 < (z3 / (25 : Int32)) then
          some ((0 : Int32))
        else
          (gR 12 h y0 3).bind fun r5 =>
          (r5).bind fun a6 =>
          (rI 1 h a6 y2).bind fun x7 =>
          if x7 < (z3 - z3 / (25 : Int32) * (25 : Int32)) then
            some ((0 : Int32))
          else
            some ((1 : Int32))
      ).bind fun x8 =>
      (r1).bind fun a9 =>
      (wZ h a9 z3 x8).bind fun h10 =>
      f_M_fitAll_L2 y0 y1 y2 k n (z3 + (1 : Int32)) h10
    else
      k h
def f_M_fitAll_L63 {ρ : Type} (y0 : Nat) (y1 : Int32) (y2 : Int32) (k : Int32 → AH → Option (ρ)) : Nat → Int32 → Int32 → AH → Option (ρ)
  | 0, _, _, _ => none
  | n + 1, z3, z4, h =>
    if z4 < (625 : Int32) then
      (gR 12 h y0 49).bind fun r12 =>
      (r12).bind fun a13 =>
      (rI 2 h a13 z4).bind fun x14 =>
      if x14 = (0 : Int32) then
        f_M_fitAll_L63 y0 y1 y2 k n z3 (z4 + (1 : Int32)) h
      else
        (cv 12 h y0 (f_M_mayFit h y0 y1 y2 (z4 / (25 : Int32)) (z4 - z4 / (25 : Int32) * (25 : Int32)))).bind fun x15 =>
        if x15 = (0 : Int32) then
          (gR 12 h y0 49).bind fun r16 =>
          (r16).bind fun a17 =>
          (wZ h a17 z4 (0 : Int32)).bind fun h18 =>
          f_M_fitAll_L63 y0 y1 y2 k n (1 : Int32) (z4 + (1 : Int32)) h18
        else
          f_M_fitAll_L63 y0 y1 y2 k n z3 (z4 + (1 : Int32)) h
    else
      k z3 h
def f_M_fitAll_L54 (y0 : Nat) (y1 : Int32) (y2 : Int32) : Nat → Int32 → AH → Option (AH)
  | 0, _, _ => none
  | n + 1, z3, h =>
    if z3 = (0 : Int32) then
      some h
    else
      f_M_fitAll_L63 y0 y1 y2 (fun x19 h20 =>
        f_M_fitAll_L54 y0 y1 y2 n x19 h20
      ) FU (0 : Int32) (0 : Int32) h
def f_M_fitAll (h0 : AH) (o : Nat) (p1 : Int32) (p2 : Int32) : Option (AH) :=
  f_M_fitAll_L2 o p1 p2 (fun h11 =>
    f_M_fitAll_L54 o p1 p2 FU (1 : Int32) h11
  ) FU (0 : Int32) h0
def f_M_fit (h0 : AH) (o : Nat) (p1 : Int32) (p2 : Int32) : Option (Int32 × AH) :=
  (cv 12 h0 o (f_M_isTalk h0 o p1)).bind fun x1 =>
  if x1 = (0 : Int32) then
    some ((-101 : Int32), h0)
  else
    (cv 12 h0 o (f_M_isTalk h0 o p2)).bind fun x2 =>
    if x2 = (0 : Int32) then
      some ((-101 : Int32), h0)
    else
      (cv 12 h0 o (f_M_fitAll h0 o p1 p2)).bind fun h3 =>
      (gR 12 h3 o 49).bind fun r4 =>
      (r4).bind fun a5 =>
      (rI 2 h3 a5 (0 : Int32)).bind fun x6 =>
      if x6 = (0 : Int32) then
        some ((0 : Int32), h3)
      else
        some ((1 : Int32), h3)
def f_M_swap_L29 (h0 : AH) (y0 : Nat) (y1 : Int32) (y3 : Int32) : Nat → Int32 → Option (Int32 × AH)
  | 0, _ => none
  | n + 1, z4 =>
    (gR 12 h0 y0 3).bind fun r4 =>
    (r4).bind fun a5 =>
    (rI 1 h0 a5 y1).bind fun x6 =>
    if x6 < z4 then
      some ((-1 : Int32), h0)
    else
      (gR 12 h0 y0 49).bind fun r7 =>
      (r7).bind fun a8 =>
      (rI 2 h0 a8 (((25 : Int32) * z4) + y3)).bind fun x9 =>
      if x9 = (0 : Int32) then
        f_M_swap_L29 h0 y0 y1 y3 n (z4 + (1 : Int32))
      else
        some (z4, h0)
def f_M_swap (h0 : AH) (o : Nat) (p1 : Int32) (p2 : Int32) (p3 : Int32) : Option (Int32 × AH) :=
  (cv 12 h0 o (f_M_isTalk h0 o p1)).bind fun x1 =>
  if x1 = (0 : Int32) then
    some ((-101 : Int32), h0)
  else
    (cv 12 h0 o (f_M_isState h0 o p2 p3)).bind fun x2 =>
    if x2 = (0 : Int32) then
      some ((-101 : Int32), h0)
    else
      (cv 12 h0 o (f_M_fitAll h0 o p1 p2)).bind fun h3 =>
      f_M_swap_L29 h3 o p1 p3 FU (0 : Int32)
def f_M_messagesOf (h0 : AH) (o : Nat) (p1 : Int32) : Option (Int32) :=
  (cv 12 h0 o (f_M_usesOf h0 o p1 (0 : Int32))).bind fun x1 =>
  (cv 12 h0 o (f_M_usesOf h0 o p1 (1 : Int32))).bind fun x2 =>
  some ((x1 ||| x2))
def f_M_ones_L4 (h0 : AH) : Nat → Int32 → Int32 → Option (Int32)
  | 0, _, _ => none
  | n + 1, z1, z2 =>
    if z2 = (0 : Int32) then
      some (z1)
    else
      (some ((z2 &&& (z2 - (1 : Int32))))).bind fun x1 =>
      f_M_ones_L4 h0 n (z1 + (1 : Int32)) x1
def f_M_ones (h0 : AH) (p1 : Int32) : Option (Int32) :=
  f_M_ones_L4 h0 FU (0 : Int32) p1
def f_M_barred (h0 : AH) (o : Nat) (p1 : Int32) (p2 : Int32) : Option (Int32) :=
  (cv 12 h0 o (f_M_isTalk h0 o p1)).bind fun x1 =>
  if x1 = (0 : Int32) then
    some ((-101 : Int32))
  else
    (cv 12 h0 o (f_M_isTalk h0 o p2)).bind fun x2 =>
    if x2 = (0 : Int32) then
      some ((-101 : Int32))
    else
      (cv 12 h0 o (f_M_messagesOf h0 o p1)).bind fun x3 =>
      (f_M_ones h0 x3).bind fun x4 =>
      if (5 : Int32) < x4 then
        some ((-102 : Int32))
      else
        (gI 12 h0 o 7).bind fun x5 =>
        if x5 = (20 : Int32) then
          some ((-103 : Int32))
        else
          some ((0 : Int32))
def f_M_lay_L9 {ρ : Type} (y0 : Nat) (y1 : Int32) (y2 : Int32) (y4 : Int32) (y5 : Int32) (k : AH → Option (ρ)) : Nat → Int32 → AH → Option (ρ)
  | 0, _, _ => none
  | n + 1, z6, h =>
    if z6 < (8 : Int32) then
      (gR 12 h y0 44).bind fun r1 =>
      (r1).bind fun a2 =>
      (wI h a2 z6 (-1 : Int32)).bind fun h3 =>
      (gR 12 h3 y0 43).bind fun r4 =>
      (r4).bind fun a5 =>
      (wI h3 a5 z6 (-1 : Int32)).bind fun h6 =>
      f_M_lay_L9 y0 y1 y2 y4 y5 k n (z6 + (1 : Int32)) h6
    else
      k h
def f_M_lay_L41 (y0 : Nat) (y1 : Int32) (y2 : Int32) : Nat → Int32 → Int32 → Int32 → AH → Option (Int32 × AH)
  | 0, _, _, _, _ => none
  | n + 1, z4, z5, z6, h =>
    if z6 < (8 : Int32) then
      if ((y1 >>> (z6 &&& 31)) &&& (1 : Int32)) = (1 : Int32) then
        (some ((z4 / (8 : Int32)))).bind fun x8 =>
        if ¬ x8 = 0 then
        (some (((y2 / x8) - (y2 / x8) / (8 : Int32) * (8 : Int32)))).bind fun x9 =>
        (
          if z5 = (0 : Int32) then
            some ((0 : Int32))
          else
            (gR 12 h y0 44).bind fun r10 =>
            (r10).bind fun a11 =>
            (rI 1 h a11 x9).bind fun x12 =>
            if x12 = (-1 : Int32) then
              some ((1 : Int32))
            else
              some ((0 : Int32))
        ).bind fun x13 =>
        (gR 12 h y0 44).bind fun r14 =>
        (r14).bind fun a15 =>
        (wI h a15 x9 z6).bind fun h16 =>
        (gR 12 h16 y0 43).bind fun r17 =>
        (r17).bind fun a18 =>
        (wI h16 a18 z6 x9).bind fun h19 =>
        f_M_lay_L41 y0 y1 y2 n x8 x13 (z6 + (1 : Int32)) h19
        else none
      else
        f_M_lay_L41 y0 y1 y2 n z4 z5 (z6 + (1 : Int32)) h
    else
      if z5 = 0 ∨ z5 = 1 then
      some (z5, h)
      else none
def f_M_lay (h0 : AH) (o : Nat) (p1 : Int32) (p2 : Int32) (p3 : Int32) : Option (Int32 × AH) :=
  f_M_lay_L9 o p1 p2 p3 (1 : Int32) (fun h7 =>
    f_M_lay_L41 o p1 p2 FU p3 (1 : Int32) (0 : Int32) h7
  ) FU (0 : Int32) h0
