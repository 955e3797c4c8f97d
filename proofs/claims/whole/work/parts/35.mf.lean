def f_M_plan_L86 {ρ : Type} (y0 : Nat) (y1 : Int32) (y2 : Int32) (y3 : Int32) (y4 : Int32) (y5 : Int32) (y6 : Int32) (y7 : Int32) (y8 : Int32) (k : AH → Option (ρ)) : Nat → Int32 → Int32 → AH → Option (ρ)
  | 0, _, _, _ => none
  | n + 1, z9, z10, h =>
    if z10 < (0 : Int32) then
      k h
    else
      (gR 12 h y0 53).bind fun r8 =>
      (gI 12 h y0 9).bind fun x9 =>
      if ¬ x9 = 0 then
      (r8).bind fun a10 =>
      (wI h a10 z10 (z9 - z9 / x9 * x9)).bind fun h11 =>
      (gI 12 h11 y0 9).bind fun x12 =>
      if ¬ x12 = 0 then
      (some ((z9 / x12))).bind fun x13 =>
      f_M_plan_L86 y0 y1 y2 y3 y4 y5 y6 y7 y8 k n x13 (z10 + (-1 : Int32)) h11
      else none
      else none
def f_M_plan_L182 {ρ : Type} (y0 : Nat) (y1 : Int32) (y2 : Int32) (y3 : Int32) (y4 : Int32) (y5 : Int32) (y6 : Int32) (y7 : Int32) (y8 : Int32) (k : AH → Option (ρ)) : Nat → Int32 → AH → Option (ρ)
  | 0, _, _ => none
  | n + 1, z11, h =>
    if z11 < y7 then
      (gR 12 h y0 54).bind fun r21 =>
      (gR 12 h y0 53).bind fun r22 =>
      (r22).bind fun a23 =>
      (rI 1 h a23 z11).bind fun x24 =>
      (r21).bind fun a25 =>
      (wI h a25 z11 x24).bind fun h26 =>
      f_M_plan_L182 y0 y1 y2 y3 y4 y5 y6 y7 y8 k n (z11 + (1 : Int32)) h26
    else
      k h
def f_M_plan_L69 {ρ : Type} (y0 : Nat) (y1 : Int32) (y2 : Int32) (y3 : Int32) (y6 : Int32) (y7 : Int32) (k : Int32 → Int32 → AH → Option (ρ)) : Nat → Int32 → Int32 → Int32 → AH → Option (ρ)
  | 0, _, _, _, _ => none
  | n + 1, z4, z5, z8, h =>
    if z8 < y6 then
      (some ((y7 - (1 : Int32)))).bind fun x7 =>
      f_M_plan_L86 y0 y1 y2 y3 z4 z5 y6 y7 z8 (fun h14 =>
        (gR 12 h14 y0 53).bind fun r15 =>
        (cv 12 h14 y0 (f_M_pricesOf h14 y0 r15 y7)).bind fun x16 =>
        if z4 = (-1 : Int32) then
          (gR 12 h14 y0 53).bind fun r17 =>
          bd2 (cv 12 h14 y0 (f_M_walkRow h14 y0 r17 y7 y1)) fun x18 h19 =>
          if x18 = (-1 : Int32) then
            (gI 12 h19 y0 51).bind fun x20 =>
            if (y2 &&& (x20 ^^^ (-1 : Int32))) = (0 : Int32) then
              f_M_plan_L182 y0 y1 y2 y3 x16 y7 y6 y7 z8 (fun h27 =>
                f_M_plan_L69 y0 y1 y2 y3 y6 y7 k n x16 y7 (z8 + (1 : Int32)) h27
              ) FU (0 : Int32) h19
            else
              f_M_plan_L69 y0 y1 y2 y3 y6 y7 k n z4 z5 (z8 + (1 : Int32)) h19
          else
            f_M_plan_L69 y0 y1 y2 y3 y6 y7 k n z4 z5 (z8 + (1 : Int32)) h19
        else
          if x16 < z4 then
            (gR 12 h14 y0 53).bind fun r28 =>
            bd2 (cv 12 h14 y0 (f_M_walkRow h14 y0 r28 y7 y1)) fun x29 h30 =>
            if x29 = (-1 : Int32) then
              (gI 12 h30 y0 51).bind fun x31 =>
              if (y2 &&& (x31 ^^^ (-1 : Int32))) = (0 : Int32) then
                f_M_plan_L182 y0 y1 y2 y3 x16 y7 y6 y7 z8 (fun h32 =>
                  f_M_plan_L69 y0 y1 y2 y3 y6 y7 k n x16 y7 (z8 + (1 : Int32)) h32
                ) FU (0 : Int32) h30
              else
                f_M_plan_L69 y0 y1 y2 y3 y6 y7 k n z4 z5 (z8 + (1 : Int32)) h30
            else
              f_M_plan_L69 y0 y1 y2 y3 y6 y7 k n z4 z5 (z8 + (1 : Int32)) h30
          else
            f_M_plan_L69 y0 y1 y2 y3 y6 y7 k n z4 z5 (z8 + (1 : Int32)) h14
      ) FU z8 x7 h
    else
      k z4 z5 h
def f_M_plan_L60 {ρ : Type} (y0 : Nat) (y1 : Int32) (y2 : Int32) (y3 : Int32) (k : Int32 → Int32 → AH → Option (ρ)) : Nat → Int32 → Int32 → Int32 → Int32 → AH → Option (ρ)
  | 0, _, _, _, _, _ => none
  | n + 1, z4, z5, z6, z7, h =>
    if y3 < z7 then
      k z4 z5 h
    else
      f_M_plan_L69 y0 y1 y2 y3 z6 z7 (fun x33 x34 h35 =>
        (gI 12 h35 y0 9).bind fun x36 =>
        (some ((z6 * x36))).bind fun x37 =>
        f_M_plan_L60 y0 y1 y2 y3 k n x33 x34 x37 (z7 + (1 : Int32)) h35
      ) FU z4 z5 (0 : Int32) h
def f_M_plan_L245 (y0 : Nat) (y4 : Int32) (y5 : Int32) : Nat → Int32 → AH → Option (Int32 × AH)
  | 0, _, _ => none
  | n + 1, z7, h =>
    if z7 < y5 then
      (gR 12 h y0 16).bind fun r42 =>
      (gR 12 h y0 54).bind fun r43 =>
      (r43).bind fun a44 =>
      (rI 1 h a44 z7).bind fun x45 =>
      (r42).bind fun a46 =>
      (wI h a46 z7 x45).bind fun h47 =>
      f_M_plan_L245 y0 y4 y5 n (z7 + (1 : Int32)) h47
    else
      some (y4, h)
def f_M_plan (h0 : AH) (o : Nat) (p1 : Int32) (p2 : Int32) (p3 : Int32) : Option (Int32 × AH) :=
  (f_M_isSet h0 p1).bind fun x1 =>
  if x1 = (0 : Int32) then
    some ((-102 : Int32), h0)
  else
    (f_M_isSet h0 p2).bind fun x2 =>
    if x2 = (0 : Int32) then
      some ((-102 : Int32), h0)
    else
      (f_M_in h0 p3 (0 : Int32) (5 : Int32)).bind fun x3 =>
      if x3 = (0 : Int32) then
        some ((-102 : Int32), h0)
      else
        (gI 12 h0 o 8).bind fun x4 =>
        if x4 = (20 : Int32) then
          some ((-103 : Int32), h0)
        else
          (gI 12 h0 o 8).bind fun x5 =>
          (pI 12 h0 o 8 (x5 + (1 : Int32))).bind fun h6 =>
          f_M_plan_L60 o p1 p2 p3 (fun x38 x39 h40 =>
            if x38 = (-1 : Int32) then
              some (x38, h40)
            else
              (pI 12 h40 o 15 x39).bind fun h41 =>
              f_M_plan_L245 o x38 x39 FU (0 : Int32) h41
          ) FU (-1 : Int32) (0 : Int32) (1 : Int32) (0 : Int32) h6
def f_M_power (h0 : AH) (p1 : Int64) (p2 : Int32) : Option (Int64) :=
  if p2 = (1 : Int32) then
    some (p1)
  else
    if p2 = (2 : Int32) then
      some ((p1 * p1))
    else
      some (((p1 * p1) * p1))
def f_M_shared_L6 (h0 : AH) : Nat → Int64 → Int64 → Option (Int64)
  | 0, _, _ => none
  | n + 1, z4, z6 =>
    if (lg_cmp z6 (0 : Int64)) = (0 : Int32) then
      some (z4)
    else
      if ¬ z6 = 0 then
      (some ((z4 - z4 / z6 * z6))).bind fun x1 =>
      f_M_shared_L6 h0 n z6 x1
      else none
def f_M_shared (h0 : AH) (p1 : Int64) (p2 : Int64) : Option (Int64) :=
  f_M_shared_L6 h0 FU p1 p2
def f_M_lowest (h0 : AH) (p1 : Int64) (p2 : Int64) (p3 : Int32) : Option (Int64) :=
  (f_M_shared h0 p1 p2).bind fun x1 =>
  if p3 = (0 : Int32) then
    if ¬ x1 = 0 then
    some ((p1 / x1))
    else none
  else
    if ¬ x1 = 0 then
    some ((p2 / x1))
    else none
def f_M_chance_L30 {ρ : Type} (h0 : AH) (y0 : Nat) (y1 : Int32) (y2 : Int32) (k : Int64 → Int64 → Option (ρ)) : Nat → Int64 → Int64 → Int32 → Option (ρ)
  | 0, _, _, _ => none
  | n + 1, z3, z5, z7 =>
    (gI 12 h0 y0 15).bind fun x3 =>
    if z7 < x3 then
      (f_M_power h0 (10 : Int64) y1).bind fun x4 =>
      (gR 12 h0 y0 13).bind fun r5 =>
      (gR 12 h0 y0 16).bind fun r6 =>
      (r6).bind fun a7 =>
      (rI 1 h0 a7 z7).bind fun x8 =>
      (r5).bind fun a9 =>
      (rI 1 h0 a9 (((5 : Int32) * x8) + (1 : Int32))).bind fun x10 =>
      (f_M_power h0 ((x10).toInt64) y1).bind fun x11 =>
      (some ((z3 * (x4 - x11)))).bind fun x12 =>
      (f_M_power h0 (10 : Int64) y1).bind fun x13 =>
      (some ((z5 * x13))).bind fun x14 =>
      f_M_chance_L30 h0 y0 y1 y2 k n x12 x14 (z7 + (1 : Int32))
    else
      k z3 z5
def f_M_chance (h0 : AH) (o : Nat) (p1 : Int32) (p2 : Int32) : Option (Int64) :=
  (f_M_in h0 p1 (1 : Int32) (3 : Int32)).bind fun x1 =>
  if x1 = (0 : Int32) then
    some ((-102 : Int64))
  else
    (f_M_in h0 p2 (0 : Int32) (1 : Int32)).bind fun x2 =>
    if x2 = (0 : Int32) then
      some ((-102 : Int64))
    else
      f_M_chance_L30 h0 o p1 p2 (fun x15 x16 =>
        (f_M_lowest h0 x15 x16 p2).bind fun x17 =>
        some (x17)
      ) FU (1 : Int64) (1 : Int64) (0 : Int32)
def f_M_mean_L33 {ρ : Type} (h0 : AH) (y0 : Nat) (y1 : Int32) (y2 : Int32) (k : Int64 → Int64 → Option (ρ)) : Nat → Int64 → Int64 → Int64 → Int32 → Option (ρ)
  | 0, _, _, _, _ => none
  | n + 1, z3, z5, z7, z9 =>
    (gI 12 h0 y0 15).bind fun x3 =>
    if z9 < x3 then
      (gR 12 h0 y0 13).bind fun r4 =>
      (gR 12 h0 y0 16).bind fun r5 =>
      (r5).bind fun a6 =>
      (rI 1 h0 a6 z9).bind fun x7 =>
      (r4).bind fun a8 =>
      (rI 1 h0 a8 (((5 : Int32) * x7) + (1 : Int32))).bind fun x9 =>
      (some (((x9).toInt64))).bind fun x10 =>
      (
        if y1 = (1 : Int32) then
          some ((10 : Int64))
        else
          if y1 = (2 : Int32) then
            some (((100 : Int64) + ((10 : Int64) * x10)))
          else
            some ((((1000 : Int64) + ((100 : Int64) * x10)) + (((10 : Int64) * x10) * x10)))
      ).bind fun x11 =>
      (f_M_power h0 (10 : Int64) y1).bind fun x12 =>
      (gR 12 h0 y0 13).bind fun r13 =>
      (gR 12 h0 y0 16).bind fun r14 =>
      (r14).bind fun a15 =>
      (rI 1 h0 a15 z9).bind fun x16 =>
      (r13).bind fun a17 =>
      (rI 1 h0 a17 ((5 : Int32) * x16)).bind fun x18 =>
      (some (((z3 * x12) + ((z5 * ((x18).toInt64)) * x11)))).bind fun x19 =>
      (f_M_power h0 (10 : Int64) y1).bind fun x20 =>
      (f_M_power h0 x10 y1).bind fun x21 =>
      (some ((z5 * (x20 - x21)))).bind fun x22 =>
      (f_M_power h0 (10 : Int64) y1).bind fun x23 =>
      (some ((z7 * x23))).bind fun x24 =>
      f_M_mean_L33 h0 y0 y1 y2 k n x19 x22 x24 (z9 + (1 : Int32))
    else
      k z3 z7
def f_M_mean (h0 : AH) (o : Nat) (p1 : Int32) (p2 : Int32) : Option (Int64) :=
  (f_M_in h0 p1 (1 : Int32) (3 : Int32)).bind fun x1 =>
  if x1 = (0 : Int32) then
    some ((-102 : Int64))
  else
    (f_M_in h0 p2 (0 : Int32) (1 : Int32)).bind fun x2 =>
    if x2 = (0 : Int32) then
      some ((-102 : Int64))
    else
      f_M_mean_L33 h0 o p1 p2 (fun x25 x26 =>
        (f_M_lowest h0 x25 x26 p2).bind fun x27 =>
        some (x27)
      ) FU (0 : Int64) (1 : Int64) (1 : Int64) (0 : Int32)
def f_M_holdsBack_L7 {ρ : Type} (y0 : Nat) (y1 : Int32) (y2 : Int32) (k : AH → Option (ρ)) : Nat → Int32 → AH → Option (ρ)
  | 0, _, _ => none
  | n + 1, z3, h =>
    if z3 < y2 then
      (gR 12 h y0 16).bind fun r2 =>
      (r2).bind fun a3 =>
      (rI 1 h a3 z3).bind fun x4 =>
      (cv 12 h y0 (f_M_goOne h y0 x4)).bind fun h5 =>
      f_M_holdsBack_L7 y0 y1 y2 k n (z3 + (1 : Int32)) h5
    else
      k h
def f_M_holdsBack_L32 (y0 : Nat) (y1 : Int32) (k : AH → Option (Int32 × AH)) : Nat → Int32 → AH → Option (Int32 × AH)
  | 0, _, _ => none
  | n + 1, z3, h =>
    if z3 < (0 : Int32) then
      k h
    else
      (gR 12 h y0 13).bind fun r8 =>
      (gR 12 h y0 16).bind fun r9 =>
      (r9).bind fun a10 =>
      (rI 1 h a10 z3).bind fun x11 =>
      (r8).bind fun a12 =>
      (rI 1 h a12 (((5 : Int32) * x11) + (4 : Int32))).bind fun x13 =>
      if x13 = (-1 : Int32) then
        some ((0 : Int32), h)
      else
        (cv 12 h y0 (f_M_mayGo h y0 x13)).bind fun x14 =>
        if x14 = (0 : Int32) then
          some ((0 : Int32), h)
        else
          (cv 12 h y0 (f_M_goOne h y0 x13)).bind fun h15 =>
          f_M_holdsBack_L32 y0 y1 k n (z3 + (-1 : Int32)) h15
def f_M_holdsBack (h0 : AH) (o : Nat) (p1 : Int32) (p2 : Int32) : Option (Int32 × AH) :=
  (cv 12 h0 o (f_M_start h0 o p1)).bind fun h1 =>
  f_M_holdsBack_L7 o p1 p2 (fun h6 =>
    (some ((p2 - (1 : Int32)))).bind fun x7 =>
    f_M_holdsBack_L32 o p1 (fun h16 =>
      (gI 12 h16 o 51).bind fun x17 =>
      if x17 = p1 then
        some ((1 : Int32), h16)
      else
        some ((0 : Int32), h16)
    ) FU x7 h6
  ) FU (0 : Int32) h1
def f_M_undone_L34 (y0 : Nat) (y1 : Int32) : Nat → Int32 → Int32 → AH → Option (Int32 × AH)
  | 0, _, _, _ => none
  | n + 1, z2, z3, h =>
    (gI 12 h y0 15).bind fun x6 =>
    if x6 < z3 then
      some (z2, h)
    else
      bd2 (cv 12 h y0 (f_M_holdsBack h y0 y1 z3)) fun x7 h8 =>
      (
        if x7 = (0 : Int32) then
          some ((0 : Int32))
        else
          some (((1 : Int32) <<< (z3 &&& 31)))
      ).bind fun x9 =>
      (some ((z2 ||| x9))).bind fun x10 =>
      f_M_undone_L34 y0 y1 n x10 (z3 + (1 : Int32)) h8
def f_M_undone (h0 : AH) (o : Nat) (p1 : Int32) : Option (Int32 × AH) :=
  (f_M_isSet h0 p1).bind fun x1 =>
  if x1 = (0 : Int32) then
    some ((-102 : Int32), h0)
  else
    (gR 12 h0 o 16).bind fun r2 =>
    (gI 12 h0 o 15).bind fun x3 =>
    bd2 (cv 12 h0 o (f_M_walkRow h0 o r2 x3 p1)) fun x4 h5 =>
    if x4 = (-1 : Int32) then
      f_M_undone_L34 o p1 FU (0 : Int32) (0 : Int32) h5
    else
      some ((-103 : Int32), h5)
def f_M_begin (h0 : AH) (o : Nat) (p1 : Int32) : Option (Int32 × AH) :=
  (f_M_isSet h0 p1).bind fun x1 =>
  if x1 = (0 : Int32) then
    some ((-102 : Int32), h0)
  else
    (pI 12 h0 o 17 p1).bind fun h2 =>
    (pI 12 h2 o 18 (0 : Int32)).bind fun h3 =>
    some ((1 : Int32), h3)
def f_M_add (h0 : AH) (o : Nat) (p1 : Int32) (p2 : Int32) : Option (Int32 × AH) :=
  (gI 12 h0 o 18).bind fun x1 =>
  if x1 = (30 : Int32) then
    some ((-104 : Int32), h0)
  else
    (gR 12 h0 o 19).bind fun r2 =>
    (gI 12 h0 o 18).bind fun x3 =>
    (r2).bind fun a4 =>
    (wI h0 a4 x3 p1).bind fun h5 =>
    (gR 12 h5 o 20).bind fun r6 =>
    (gI 12 h5 o 18).bind fun x7 =>
    (r6).bind fun a8 =>
    (wI h5 a8 x7 p2).bind fun h9 =>
    (gI 12 h9 o 18).bind fun x10 =>
    (pI 12 h9 o 18 (x10 + (1 : Int32))).bind fun h11 =>
    (gI 12 h11 o 18).bind fun x12 =>
    some (x12, h11)
def f_M_call (h0 : AH) (o : Nat) (p1 : Int32) (p2 : Int32) : Option (Int32 × AH) :=
  (cv 12 h0 o (f_M_isHelper h0 o p1)).bind fun x1 =>
  if x1 = (0 : Int32) then
    some ((-101 : Int32), h0)
  else
    (f_M_in h0 p2 (0 : Int32) (2 : Int32)).bind fun x2 =>
    if x2 = (0 : Int32) then
      some ((-102 : Int32), h0)
    else
      bd2 (cv 12 h0 o (f_M_add h0 o p2 p1)) fun x3 h4 =>
      some (x3, h4)
def f_M_see (h0 : AH) (o : Nat) (p1 : Int32) (p2 : Int32) : Option (Int32 × AH) :=
  (f_M_in h0 p1 (0 : Int32) (11 : Int32)).bind fun x1 =>
  if x1 = (0 : Int32) then
    some ((-101 : Int32), h0)
  else
    (
      if p2 = (0 : Int32) then
        some ((4 : Int32))
      else
        some ((3 : Int32))
    ).bind fun x2 =>
    bd2 (cv 12 h0 o (f_M_add h0 o x2 p1)) fun x3 h4 =>
    some (x3, h4)
def f_M_strike (h0 : AH) (o : Nat) : Option (Int32 × AH) :=
  (gI 12 h0 o 18).bind fun x1 =>
  if x1 = (0 : Int32) then
    some ((-103 : Int32), h0)
  else
    (gI 12 h0 o 18).bind fun x2 =>
    (pI 12 h0 o 18 (x2 - (1 : Int32))).bind fun h3 =>
    (gI 12 h3 o 18).bind fun x4 =>
    some (x4, h3)
def f_M_did (h0 : AH) (o : Nat) (p1 : Int32) (p2 : Int32) : Option (Int32) :=
  (gR 12 h0 o 12).bind fun r1 =>
  (r1).bind fun a2 =>
  (rI 1 h0 a2 p2).bind fun x3 =>
  (gR 12 h0 o 11).bind fun r4 =>
  (r4).bind fun a5 =>
  (rI 1 h0 a5 p2).bind fun x6 =>
  some (((p1 &&& (x3 ^^^ (-1 : Int32))) ||| x6))
def f_M_pass_L17 {ρ : Type} (y0 : Nat) (y2 : Int32) (y3 : Int32) (k : AH → Option (ρ)) : Nat → Int32 → AH → Option (ρ)
  | 0, _, _ => none
  | n + 1, z4, h =>
    if z4 < (4096 : Int32) then
      (gR 12 h y0 56).bind fun r7 =>
      (r7).bind fun a8 =>
      (wZ h a8 z4 (0 : Int32)).bind fun h9 =>
      f_M_pass_L17 y0 y2 y3 k n (z4 + (1 : Int32)) h9
    else
      k h
def f_M_pass_L42 {ρ : Type} (y0 : Nat) (y2 : Int32) (y3 : Int32) (k : AH → Option (ρ)) : Nat → Int32 → AH → Option (ρ)
  | 0, _, _ => none
  | n + 1, z4, h =>
    if z4 < (4096 : Int32) then
      (gR 12 h y0 55).bind fun r11 =>
      (r11).bind fun a12 =>
      (rI 2 h a12 z4).bind fun x13 =>
      if x13 = (0 : Int32) then
        f_M_pass_L42 y0 y2 y3 k n (z4 + (1 : Int32)) h
      else
        (
          if y2 < (3 : Int32) then
            (gR 12 h y0 10).bind fun r14 =>
            (r14).bind fun a15 =>
            (rI 1 h a15 y3).bind fun x16 =>
            if (x16 &&& (z4 ^^^ (-1 : Int32))) = (0 : Int32) then
              some ((1 : Int32))
            else
              some ((0 : Int32))
          else
            some ((0 : Int32))
        ).bind fun x17 =>
        (
          if y2 = (1 : Int32) then
            some ((1 : Int32))
          else
            if y2 = (2 : Int32) then
              some ((1 : Int32))
            else
              if y2 = (3 : Int32) then
                if ((z4 >>> (y3 &&& 31)) &&& (1 : Int32)) = (1 : Int32) then
                  some ((1 : Int32))
                else
                  if y2 = (4 : Int32) then
                    if ((z4 >>> (y3 &&& 31)) &&& (1 : Int32)) = (0 : Int32) then
                      some ((1 : Int32))
                    else
                      some ((0 : Int32))
                  else
                    some ((0 : Int32))
              else
                if y2 = (4 : Int32) then
                  if ((z4 >>> (y3 &&& 31)) &&& (1 : Int32)) = (0 : Int32) then
                    some ((1 : Int32))
                  else
                    some ((0 : Int32))
                else
                  some ((0 : Int32))
        ).bind fun x18 =>
        (gR 12 h y0 56).bind fun r19 =>
        (gR 12 h y0 56).bind fun r20 =>
        (r20).bind fun a21 =>
        (rI 2 h a21 z4).bind fun x22 =>
        (
          if x22 = (0 : Int32) then
            if x18 = (0 : Int32) then
              some ((0 : Int32))
            else
              some ((1 : Int32))
          else
            some ((1 : Int32))
        ).bind fun x23 =>
        (r19).bind fun a24 =>
        (wZ h a24 z4 x23).bind fun h25 =>
        if x17 = (0 : Int32) then
          f_M_pass_L42 y0 y2 y3 k n (z4 + (1 : Int32)) h25
        else
          if y2 = (1 : Int32) then
            f_M_pass_L42 y0 y2 y3 k n (z4 + (1 : Int32)) h25
          else
            (gR 12 h25 y0 56).bind fun r26 =>
            (cv 12 h25 y0 (f_M_did h25 y0 z4 y3)).bind fun x27 =>
            (r26).bind fun a28 =>
            (wZ h25 a28 x27 (1 : Int32)).bind fun h29 =>
            f_M_pass_L42 y0 y2 y3 k n (z4 + (1 : Int32)) h29
    else
      k h
def f_M_pass_L191 (y0 : Nat) : Nat → Int32 → AH → Option (AH)
  | 0, _, _ => none
  | n + 1, z4, h =>
    if z4 < (4096 : Int32) then
      (gR 12 h y0 55).bind fun r31 =>
      (gR 12 h y0 56).bind fun r32 =>
      (r32).bind fun a33 =>
      (rI 2 h a33 z4).bind fun x34 =>
      (r31).bind fun a35 =>
      (wZ h a35 z4 x34).bind fun h36 =>
      f_M_pass_L191 y0 n (z4 + (1 : Int32)) h36
    else
      some h
def f_M_pass (h0 : AH) (o : Nat) (p1 : Int32) : Option (AH) :=
  (gR 12 h0 o 19).bind fun r1 =>
  (r1).bind fun a2 =>
  (rI 1 h0 a2 p1).bind fun x3 =>
  (gR 12 h0 o 20).bind fun r4 =>
  (r4).bind fun a5 =>
  (rI 1 h0 a5 p1).bind fun x6 =>
  f_M_pass_L17 o x3 x6 (fun h10 =>
    f_M_pass_L42 o x3 x6 (fun h30 =>
      f_M_pass_L191 o FU (0 : Int32) h30
    ) FU (0 : Int32) h10
  ) FU (0 : Int32) h0
def f_M_passAll_L2 {ρ : Type} (y0 : Nat) (y1 : Int32) (k : AH → Option (ρ)) : Nat → Int32 → AH → Option (ρ)
  | 0, _, _ => none
  | n + 1, z2, h =>
    if z2 < (4096 : Int32) then
      (gR 12 h y0 55).bind fun r1 =>
      (gI 12 h y0 17).bind fun x2 =>
      (
        if z2 = x2 then
          some ((1 : Int32))
        else
          some ((0 : Int32))
      ).bind fun x3 =>
      (r1).bind fun a4 =>
      (wZ h a4 z2 x3).bind fun h5 =>
      f_M_passAll_L2 y0 y1 k n (z2 + (1 : Int32)) h5
    else
      k h
def f_M_passAll_L36 {ρ : Type} (y0 : Nat) (y1 : Int32) (k : AH → Option (ρ)) : Nat → Int32 → AH → Option (ρ)
  | 0, _, _ => none
  | n + 1, z2, h =>
    if z2 < y1 then
      (cv 12 h y0 (f_M_pass h y0 z2)).bind fun h7 =>
      f_M_passAll_L36 y0 y1 k n (z2 + (1 : Int32)) h7
    else
      k h
def f_M_passAll_L56 (h0 : AH) (y0 : Nat) : Nat → Int32 → Int32 → Option (Int32 × AH)
  | 0, _, _ => none
  | n + 1, z2, z3 =>
    if z3 < (4096 : Int32) then
      (gR 12 h0 y0 55).bind fun r9 =>
      (r9).bind fun a10 =>
      (rI 2 h0 a10 z3).bind fun x11 =>
      (
        if x11 = (0 : Int32) then
          some ((0 : Int32))
        else
          some ((1 : Int32))
      ).bind fun x12 =>
      (some ((z2 + x12))).bind fun x13 =>
      f_M_passAll_L56 h0 y0 n x13 (z3 + (1 : Int32))
    else
      some (z2, h0)
def f_M_passAll (h0 : AH) (o : Nat) (p1 : Int32) : Option (Int32 × AH) :=
  f_M_passAll_L2 o p1 (fun h6 =>
    f_M_passAll_L36 o p1 (fun h8 =>
      f_M_passAll_L56 h8 o FU (0 : Int32) (0 : Int32)
    ) FU (0 : Int32) h6
  ) FU (0 : Int32) h0
def f_M_worlds (h0 : AH) (o : Nat) (p1 : Int32) : Option (Int32 × AH) :=
  (gI 12 h0 o 18).bind fun x1 =>
  (f_M_in h0 p1 (0 : Int32) x1).bind fun x2 =>
  if x2 = (0 : Int32) then
    some ((-101 : Int32), h0)
  else
    bd2 (cv 12 h0 o (f_M_passAll h0 o p1)) fun x3 h4 =>
    some (x3, h4)
def f_M_held_L35 {ρ : Type} (h0 : AH) (y0 : Nat) (y1 : Int32) (k : Int32 → Int32 → Option (ρ)) : Nat → Int32 → Int32 → Int32 → Option (ρ)
  | 0, _, _, _ => none
  | n + 1, z2, z3, z4 =>
    if z4 < (4096 : Int32) then
      (gR 12 h0 y0 55).bind fun r5 =>
      (r5).bind fun a6 =>
      (rI 2 h0 a6 z4).bind fun x7 =>
      (
        if x7 = (0 : Int32) then
          some ((4095 : Int32))
        else
          some (z4)
      ).bind fun x8 =>
      (some ((z2 &&& x8))).bind fun x9 =>
      (gR 12 h0 y0 55).bind fun r10 =>
      (r10).bind fun a11 =>
      (rI 2 h0 a11 z4).bind fun x12 =>
      (
        if x12 = (0 : Int32) then
          some ((0 : Int32))
        else
          some (z4)
      ).bind fun x13 =>
      (some ((z3 ||| x13))).bind fun x14 =>
      f_M_held_L35 h0 y0 y1 k n x9 x14 (z4 + (1 : Int32))
    else
      k z2 z3
def f_M_held (h0 : AH) (o : Nat) (p1 : Int32) : Option (Int32 × AH) :=
  (f_M_in h0 p1 (0 : Int32) (1 : Int32)).bind fun x1 =>
  if x1 = (0 : Int32) then
    some ((-102 : Int32), h0)
  else
    (gI 12 h0 o 18).bind fun x2 =>
    bd2 (cv 12 h0 o (f_M_passAll h0 o x2)) fun x3 h4 =>
    if x3 = (0 : Int32) then
      some ((-103 : Int32), h4)
    else
      f_M_held_L35 h4 o p1 (fun x15 x16 =>
        if p1 = (0 : Int32) then
          some (x15, h4)
        else
          some (x16, h4)
      ) FU (4095 : Int32) (0 : Int32) (0 : Int32)
def f_M_world_L13 (h0 : AH) (y0 : Nat) (y1 : Int32) : Nat → Int32 → Int32 → Option (Int32 × AH)
  | 0, _, _ => none
  | n + 1, z2, z3 =>
    if z3 < (4096 : Int32) then
      if y1 < (0 : Int32) then
        some ((-1 : Int32), h0)
      else
        (gR 12 h0 y0 55).bind fun r4 =>
        (r4).bind fun a5 =>
        (rI 2 h0 a5 z3).bind fun x6 =>
        if x6 = (0 : Int32) then
          f_M_world_L13 h0 y0 y1 n z2 (z3 + (1 : Int32))
        else
          if z2 = (0 : Int32) then
            some (z3, h0)
          else
            f_M_world_L13 h0 y0 y1 n (z2 + (-1 : Int32)) (z3 + (1 : Int32))
    else
      some ((-1 : Int32), h0)
def f_M_world (h0 : AH) (o : Nat) (p1 : Int32) : Option (Int32 × AH) :=
  (gI 12 h0 o 18).bind fun x1 =>
  bd2 (cv 12 h0 o (f_M_passAll h0 o x1)) fun x2 h3 =>
  f_M_world_L13 h3 o p1 FU p1 (0 : Int32)
def f_M_brokenAt_L2 (y0 : Nat) : Nat → Int32 → AH → Option (Int32 × AH)
  | 0, _, _ => none
  | n + 1, z1, h =>
    (gI 12 h y0 18).bind fun x1 =>
    if x1 < z1 then
      some ((0 : Int32), h)
    else
      bd2 (cv 12 h y0 (f_M_passAll h y0 z1)) fun x2 h3 =>
      if x2 = (0 : Int32) then
        some (z1, h3)
      else
        f_M_brokenAt_L2 y0 n (z1 + (1 : Int32)) h3
def f_M_brokenAt (h0 : AH) (o : Nat) : Option (Int32 × AH) :=
  f_M_brokenAt_L2 o FU (1 : Int32) h0
def f_M_broken (h0 : AH) (o : Nat) : Option (Int32 × AH) :=
  bd2 (cv 12 h0 o (f_M_brokenAt h0 o)) fun x1 h2 =>
  some (x1, h2)
