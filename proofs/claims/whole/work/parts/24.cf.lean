def f_Ro_tryFrom_L79 (rec : AH → Nat → Int32 → Int32 → Option (AH)) (y0 : Nat) (y1 : Int32) (y2 : Int32) : Nat → Int32 → AH → Option (AH)
  | 0, _, _ => none
  | n + 1, z3, h =>
    (gI 8 h y0 1).bind fun x8 =>
    if z3 < x8 then
      (gI 8 h y0 12).bind fun x9 =>
      if y1 < x9 then
        (gR 8 h y0 5).bind fun r10 =>
        (r10).bind fun a11 =>
        (rR 3 h a11 y1).bind fun r12 =>
        (gR 8 h y0 0).bind fun r13 =>
        (r13).bind fun a14 =>
        (rR 4 h a14 z3).bind fun r15 =>
        (r12).bind fun a16 =>
        (cv 3 h a16 (f_Go_may h a16 r15 z3)).bind fun x17 =>
        if x17 = (0 : Int32) then
          f_Ro_tryFrom_L79 rec y0 y1 y2 n (z3 + (1 : Int32)) h
        else
          (gR 8 h y0 7).bind fun r18 =>
          (r18).bind fun a19 =>
          (wI h a19 y1 z3).bind fun h20 =>
          (cv 8 h20 y0 (f_Ro_goOn h20 y0 y1 z3)).bind fun h21 =>
          (gR 8 h21 y0 0).bind fun r22 =>
          (r22).bind fun a23 =>
          (rR 4 h21 a23 z3).bind fun r24 =>
          (r24).bind fun a25 =>
          (gR 4 h21 a25 0).bind fun r26 =>
          (r26).bind fun a27 =>
          (rI 1 h21 a27 (0 : Int32)).bind fun x28 =>
          (cv 8 h21 y0 (rec h21 y0 (y1 + (1 : Int32)) (y2 + x28))).bind fun h29 =>
          f_Ro_tryFrom_L79 rec y0 y1 y2 n (z3 + (1 : Int32)) h29
      else
        some h
    else
      some h
def f_Ro_tryFrom : Nat → AH → Nat → Int32 → Int32 → Option (AH)
  | 0, _, _, _, _ => none
  | n + 1, h0, o, p1, p2 =>
    (gI 8 h0 o 9).bind fun x1 =>
    if x1 = (-1 : Int32) then
      (gI 8 h0 o 11).bind fun x2 =>
      (gR 8 h0 o 5).bind fun r3 =>
      (r3).bind fun a4 =>
      (rR 3 h0 a4 p1).bind fun r5 =>
      (r5).bind fun a6 =>
      (gI 3 h0 a6 0).bind fun x7 =>
      if (x2 &&& (x7 ^^^ (-1 : Int32))) = (0 : Int32) then
        (gR 8 h0 o 7).bind fun r30 =>
        (gR 8 h0 o 8).bind fun r31 =>
        (r30).bind fun a32 =>
        (r31).bind fun a33 =>
        (cpI h0 a32 (0 : Int32) a33 (0 : Int32) p1).bind fun h34 =>
        (pI 8 h34 o 9 p1).bind fun h35 =>
        (pI 8 h35 o 10 p2).bind fun h36 =>
        some h36
      else
        f_Ro_tryFrom_L79 (fun h o p1 p2 => f_Ro_tryFrom n h o p1 p2) o p1 p2 FU (0 : Int32) h0
    else
      (gI 8 h0 o 10).bind fun x37 =>
      if x37 < p2 then
        some h0
      else
        (gI 8 h0 o 10).bind fun x38 =>
        if p2 = x38 then
          (gI 8 h0 o 9).bind fun x52 =>
          if p1 < x52 then
            (gI 8 h0 o 11).bind fun x53 =>
            (gR 8 h0 o 5).bind fun r54 =>
            (r54).bind fun a55 =>
            (rR 3 h0 a55 p1).bind fun r56 =>
            (r56).bind fun a57 =>
            (gI 3 h0 a57 0).bind fun x58 =>
            if (x53 &&& (x58 ^^^ (-1 : Int32))) = (0 : Int32) then
              (gR 8 h0 o 7).bind fun r59 =>
              (gR 8 h0 o 8).bind fun r60 =>
              (r59).bind fun a61 =>
              (r60).bind fun a62 =>
              (cpI h0 a61 (0 : Int32) a62 (0 : Int32) p1).bind fun h63 =>
              (pI 8 h63 o 9 p1).bind fun h64 =>
              (pI 8 h64 o 10 p2).bind fun h65 =>
              some h65
            else
              f_Ro_tryFrom_L79 (fun h o p1 p2 => f_Ro_tryFrom n h o p1 p2) o p1 p2 FU (0 : Int32) h0
          else
            some h0
        else
          (gI 8 h0 o 11).bind fun x39 =>
          (gR 8 h0 o 5).bind fun r40 =>
          (r40).bind fun a41 =>
          (rR 3 h0 a41 p1).bind fun r42 =>
          (r42).bind fun a43 =>
          (gI 3 h0 a43 0).bind fun x44 =>
          if (x39 &&& (x44 ^^^ (-1 : Int32))) = (0 : Int32) then
            (gR 8 h0 o 7).bind fun r45 =>
            (gR 8 h0 o 8).bind fun r46 =>
            (r45).bind fun a47 =>
            (r46).bind fun a48 =>
            (cpI h0 a47 (0 : Int32) a48 (0 : Int32) p1).bind fun h49 =>
            (pI 8 h49 o 9 p1).bind fun h50 =>
            (pI 8 h50 o 10 p2).bind fun h51 =>
            some h51
          else
            f_Ro_tryFrom_L79 (fun h o p1 p2 => f_Ro_tryFrom n h o p1 p2) o p1 p2 FU (0 : Int32) h0
def f_Ro_becomeBest (h0 : AH) (o : Nat) (p1 : Int32) (p2 : Int32) (p3 : Int32) : Option (Int32 × AH) :=
  (pI 8 h0 o 11 p2).bind fun h1 =>
  (pI 8 h1 o 12 p3).bind fun h2 =>
  (pI 8 h2 o 9 (-1 : Int32)).bind fun h3 =>
  (gR 8 h3 o 5).bind fun r4 =>
  (r4).bind fun a5 =>
  (rR 3 h3 a5 (0 : Int32)).bind fun r6 =>
  (gR 8 h3 o 2).bind fun r7 =>
  (r6).bind fun a8 =>
  (cv 3 h3 a8 (f_Go_startWith h3 a8 p1 r7)).bind fun h9 =>
  (cv 8 h9 o (f_Ro_tryFrom 8 h9 o (0 : Int32) (0 : Int32))).bind fun h10 =>
  (gI 8 h10 o 9).bind fun x11 =>
  if x11 = (-1 : Int32) then
    some ((-1 : Int32), h10)
  else
    (gR 8 h10 o 8).bind fun r12 =>
    (gR 8 h10 o 3).bind fun r13 =>
    (gI 8 h10 o 9).bind fun x14 =>
    (r12).bind fun a15 =>
    (r13).bind fun a16 =>
    (cpI h10 a15 (0 : Int32) a16 (0 : Int32) x14).bind fun h17 =>
    (gI 8 h17 o 9).bind fun x18 =>
    (pI 8 h17 o 4 x18).bind fun h19 =>
    (gI 8 h19 o 10).bind fun x20 =>
    some (x20, h19)
def f_C_plan (h0 : AH) (o : Nat) (p1 : Int32) (p2 : Int32) (p3 : Int32) : Option (Int32 × AH) :=
  (f_C_isFacts h0 p1).bind fun x1 =>
  if x1 = (0 : Int32) then
    some ((-102 : Int32), h0)
  else
    (f_C_isFacts h0 p2).bind fun x2 =>
    if x2 = (0 : Int32) then
      some ((-102 : Int32), h0)
    else
      if p3 < (0 : Int32) then
        some ((-102 : Int32), h0)
      else
        if (5 : Int32) < p3 then
          some ((-102 : Int32), h0)
        else
          (gI 0 h0 o 9).bind fun x3 =>
          if x3 < (20 : Int32) then
            (gI 0 h0 o 9).bind fun x4 =>
            (pI 0 h0 o 9 (x4 + (1 : Int32))).bind fun h5 =>
            (gR 0 h5 o 8).bind fun r6 =>
            (r6).bind fun a7 =>
            bd2 (cv 8 h5 a7 (f_Ro_becomeBest h5 a7 p1 p2 p3)) fun x8 h9 =>
            some (x8, h9)
          else
            some ((-103 : Int32), h0)
def f_C_isTries (h0 : AH) (p1 : Int32) : Option (Int32) :=
  if p1 < (1 : Int32) then
    some ((0 : Int32))
  else
    if (3 : Int32) < p1 then
      some ((0 : Int32))
    else
      some ((1 : Int32))
def f_C_isPart (h0 : AH) (p1 : Int32) : Option (Int32) :=
  if p1 = (0 : Int32) then
    some ((1 : Int32))
  else
    if p1 = (1 : Int32) then
      some ((1 : Int32))
    else
      some ((0 : Int32))
def f_C_power_L5 (h0 : AH) (y0 : Int64) (y2 : Int32) : Nat → Int64 → Int32 → Option (Int64)
  | 0, _, _ => none
  | n + 1, z3, z5 =>
    if z5 < y2 then
      (some ((z3 * y0))).bind fun x1 =>
      f_C_power_L5 h0 y0 y2 n x1 (z5 + (1 : Int32))
    else
      some (z3)
def f_C_power (h0 : AH) (p1 : Int64) (p2 : Int32) : Option (Int64) :=
  f_C_power_L5 h0 p1 p2 FU (1 : Int64) (0 : Int32)
def f_He_chancesOfGoing (h0 : AH) (o : Nat) (p1 : Int32) : Option (Int64) :=
  (f_C_power h0 (10 : Int64) p1).bind fun x1 =>
  (gR 4 h0 o 0).bind fun r2 =>
  (r2).bind fun a3 =>
  (rI 1 h0 a3 (1 : Int32)).bind fun x4 =>
  (f_C_power h0 ((x4).toInt64) p1).bind fun x5 =>
  some ((x1 - x5))
def f_C_lowest_L9 {ρ : Type} (h0 : AH) (y0 : Int64) (y2 : Int64) (y4 : Int32) (k : Int64 → Option (ρ)) : Nat → Int64 → Int64 → Int32 → Option (ρ)
  | 0, _, _, _ => none
  | n + 1, z5, z7, z9 =>
    if z9 < (200 : Int32) then
      if (lg_cmp z7 (0 : Int64)) = (0 : Int32) then
        k z5
      else
        if ¬ z7 = 0 then
        (some ((z5 - z5 / z7 * z7))).bind fun x1 =>
        f_C_lowest_L9 h0 y0 y2 y4 k n z7 x1 (z9 + (1 : Int32))
        else none
    else
      k z5
def f_C_lowest (h0 : AH) (p1 : Int64) (p2 : Int64) (p3 : Int32) : Option (Int64) :=
  f_C_lowest_L9 h0 p1 p2 p3 (fun x2 =>
    (
      if p3 = (0 : Int32) then
        some (p1)
      else
        some (p2)
    ).bind fun x3 =>
    if (lg_cmp x2 (0 : Int64)) = (0 : Int32) then
      some (x3)
    else
      if ¬ x2 = 0 then
      some ((x3 / x2))
      else none
  ) FU p1 p2 (0 : Int32)
def f_C_chance_L26 {ρ : Type} (h0 : AH) (y0 : Nat) (y1 : Int32) (y2 : Int32) (k : Int64 → Int64 → Option (ρ)) : Nat → Int64 → Int64 → Int32 → Option (ρ)
  | 0, _, _, _ => none
  | n + 1, z3, z5, z7 =>
    (gR 0 h0 y0 8).bind fun r3 =>
    (r3).bind fun a4 =>
    (gI 8 h0 a4 4).bind fun x5 =>
    if z7 < x5 then
      (gR 0 h0 y0 8).bind fun r6 =>
      (r6).bind fun a7 =>
      (cv 8 h0 a7 (f_Ro_helperAt h0 a7 z7)).bind fun r8 =>
      (r8).bind fun a9 =>
      (cv 4 h0 a9 (f_He_chancesOfGoing h0 a9 y1)).bind fun x10 =>
      (some ((z3 * x10))).bind fun x11 =>
      (f_C_power h0 (10 : Int64) y1).bind fun x12 =>
      (some ((z5 * x12))).bind fun x13 =>
      f_C_chance_L26 h0 y0 y1 y2 k n x11 x13 (z7 + (1 : Int32))
    else
      k z3 z5
def f_C_chance (h0 : AH) (o : Nat) (p1 : Int32) (p2 : Int32) : Option (Int64) :=
  (f_C_isTries h0 p1).bind fun x1 =>
  if x1 = (0 : Int32) then
    some ((-102 : Int64))
  else
    (f_C_isPart h0 p2).bind fun x2 =>
    if x2 = (0 : Int32) then
      some ((-102 : Int64))
    else
      f_C_chance_L26 h0 o p1 p2 (fun x14 x15 =>
        (f_C_lowest h0 x14 x15 p2).bind fun x16 =>
        some (x16)
      ) FU (1 : Int64) (1 : Int64) (0 : Int32)
def f_He_meanOfTries_L5 {ρ : Type} (h0 : AH) (y0 : Nat) (y1 : Int32) (k : Int64 → Option (ρ)) : Nat → Int64 → Int32 → Option (ρ)
  | 0, _, _ => none
  | n + 1, z2, z4 =>
    if z4 < y1 then
      (gR 4 h0 y0 0).bind fun r1 =>
      (r1).bind fun a2 =>
      (rI 1 h0 a2 (1 : Int32)).bind fun x3 =>
      (f_C_power h0 ((x3).toInt64) z4).bind fun x4 =>
      (f_C_power h0 (10 : Int64) (y1 - z4)).bind fun x5 =>
      (some ((z2 + (x4 * x5)))).bind fun x6 =>
      f_He_meanOfTries_L5 h0 y0 y1 k n x6 (z4 + (1 : Int32))
    else
      k z2
def f_He_meanOfTries (h0 : AH) (o : Nat) (p1 : Int32) : Option (Int64) :=
  f_He_meanOfTries_L5 h0 o p1 (fun x7 =>
    (gR 4 h0 o 0).bind fun r8 =>
    (r8).bind fun a9 =>
    (rI 1 h0 a9 (0 : Int32)).bind fun x10 =>
    some ((((x10).toInt64) * x7))
  ) FU (0 : Int64) (0 : Int32)
def f_C_mean_L34 {ρ : Type} (h0 : AH) (y0 : Nat) (y1 : Int32) (y2 : Int32) (k : Int64 → Int64 → Option (ρ)) : Nat → Int64 → Int64 → Int32 → Option (ρ)
  | 0, _, _, _ => none
  | n + 1, z3, z5, z7 =>
    if z7 < (0 : Int32) then
      k z3 z5
    else
      (gR 0 h0 y0 8).bind fun r7 =>
      (r7).bind fun a8 =>
      (cv 8 h0 a8 (f_Ro_helperAt h0 a8 z7)).bind fun r9 =>
      (r9).bind fun a10 =>
      (cv 4 h0 a10 (f_He_meanOfTries h0 a10 y1)).bind fun x11 =>
      (cv 4 h0 a10 (f_He_chancesOfGoing h0 a10 y1)).bind fun x12 =>
      (some (((x11 * z5) + (x12 * z3)))).bind fun x13 =>
      (f_C_power h0 (10 : Int64) y1).bind fun x14 =>
      (some ((z5 * x14))).bind fun x15 =>
      f_C_mean_L34 h0 y0 y1 y2 k n x13 x15 (z7 + (-1 : Int32))
def f_C_mean (h0 : AH) (o : Nat) (p1 : Int32) (p2 : Int32) : Option (Int64) :=
  (f_C_isTries h0 p1).bind fun x1 =>
  if x1 = (0 : Int32) then
    some ((-102 : Int64))
  else
    (f_C_isPart h0 p2).bind fun x2 =>
    if x2 = (0 : Int32) then
      some ((-102 : Int64))
    else
      (gR 0 h0 o 8).bind fun r3 =>
      (r3).bind fun a4 =>
      (gI 8 h0 a4 4).bind fun x5 =>
      (some ((x5 - (1 : Int32)))).bind fun x6 =>
      f_C_mean_L34 h0 o p1 p2 (fun x16 x17 =>
        (f_C_lowest h0 x16 x17 p2).bind fun x18 =>
        some (x18)
      ) FU (0 : Int64) (1 : Int64) x6
def f_Ro_isUndone_L17 (y0 : Nat) (y1 : Int32) (k : AH → Option (Int32 × AH)) : Nat → Int32 → AH → Option (Int32 × AH)
  | 0, _, _ => none
  | n + 1, z3, h =>
    if z3 < (0 : Int32) then
      k h
    else
      (cv 8 h y0 (f_Ro_helperAt h y0 z3)).bind fun r8 =>
      (r8).bind fun a9 =>
      (gR 4 h a9 0).bind fun r10 =>
      (r10).bind fun a11 =>
      (rI 1 h a11 (4 : Int32)).bind fun x12 =>
      (cv 8 h y0 (f_Ro_helperNumbered h y0 x12)).bind fun r13 =>
      onl r13 (
        some ((0 : Int32), h)
      ) fun a14 =>
      (gR 8 h y0 6).bind fun r15 =>
      (r15).bind fun a16 =>
      (cv 3 h a16 (f_Go_isTrusted h a16 (some a14))).bind fun x17 =>
      if x17 = (0 : Int32) then
        some ((0 : Int32), h)
      else
        (gR 8 h y0 6).bind fun r18 =>
        (gR 8 h y0 2).bind fun r19 =>
        (r18).bind fun a20 =>
        (cv 3 h a20 (f_Go_go h a20 (some a14) x12 r19)).bind fun h21 =>
        f_Ro_isUndone_L17 y0 y1 k n (z3 + (-1 : Int32)) h21
def f_Ro_isUndone (h0 : AH) (o : Nat) (p1 : Int32) (p2 : Int32) : Option (Int32 × AH) :=
  (gR 8 h0 o 6).bind fun r1 =>
  (gR 8 h0 o 5).bind fun r2 =>
  (r2).bind fun a3 =>
  (rR 3 h0 a3 p2).bind fun r4 =>
  (r1).bind fun a5 =>
  (cv 3 h0 a5 (f_Go_become h0 a5 r4)).bind fun h6 =>
  (some ((p2 - (1 : Int32)))).bind fun x7 =>
  f_Ro_isUndone_L17 o p1 (fun h22 =>
    (gR 8 h22 o 6).bind fun r23 =>
    (r23).bind fun a24 =>
    (gI 3 h22 a24 0).bind fun x25 =>
    if x25 = p1 then
      some ((1 : Int32), h22)
    else
      some ((0 : Int32), h22)
  ) FU x7 h6
def f_Ro_undoings_L4 (y0 : Nat) (y1 : Int32) : Nat → Int32 → Int32 → AH → Option (Int32 × AH)
  | 0, _, _, _ => none
  | n + 1, z2, z3, h =>
    (gI 8 h y0 4).bind fun x1 =>
    if x1 < z3 then
      some (z2, h)
    else
      bd2 (cv 8 h y0 (f_Ro_isUndone h y0 y1 z3)) fun x2 h3 =>
      (
        if x2 = (0 : Int32) then
          some ((0 : Int32))
        else
          some (((1 : Int32) <<< (z3 &&& 31)))
      ).bind fun x4 =>
      (some ((z2 ||| x4))).bind fun x5 =>
      f_Ro_undoings_L4 y0 y1 n x5 (z3 + (1 : Int32)) h3
def f_Ro_undoings (h0 : AH) (o : Nat) (p1 : Int32) : Option (Int32 × AH) :=
  f_Ro_undoings_L4 o p1 FU (0 : Int32) (0 : Int32) h0
def f_C_undone (h0 : AH) (o : Nat) (p1 : Int32) : Option (Int32 × AH) :=
  bd2 (cv 0 h0 o (f_C_goingRefusal h0 o p1)) fun x1 h2 =>
  if x1 = (0 : Int32) then
    (gR 0 h2 o 8).bind fun r3 =>
    (r3).bind fun a4 =>
    bd2 (cv 8 h2 a4 (f_Ro_undoings h2 a4 p1)) fun x5 h6 =>
    some (x5, h6)
  else
    some (x1, h2)
def f_C_begin (h0 : AH) (o : Nat) (p1 : Int32) : Option (Int32 × AH) :=
  (f_C_isFacts h0 p1).bind fun x1 =>
  if x1 = (0 : Int32) then
    some ((-102 : Int32), h0)
  else
    (gR 0 h0 o 10).bind fun r2 =>
    (r2).bind fun a3 =>
    (cv 6 h0 a3 (f_Lo_startWith h0 a3 p1)).bind fun h4 =>
    some ((1 : Int32), h4)
def f_Wo_become (h0 : AH) (o : Nat) (p1 : Option Nat) : Option (AH) :=
  (p1).bind fun a1 =>
  (gR 11 h0 a1 0).bind fun r2 =>
  (gR 11 h0 o 0).bind fun r3 =>
  (r2).bind fun a4 =>
  (r3).bind fun a5 =>
  (cpJ h0 a4 (0 : Int32) a5 (0 : Int32) (64 : Int32)).bind fun h6 =>
  some h6
def f_Lo_addEvent (h0 : AH) (o : Nat) : Option (Option Nat × AH) :=
  (gI 6 h0 o 1).bind fun x1 =>
  (
    if x1 < (30 : Int32) then
      (gR 6 h0 o 0).bind fun r2 =>
      (gI 6 h0 o 1).bind fun x3 =>
      (r2).bind fun a4 =>
      (rR 11 h0 a4 (x3 + (1 : Int32))).bind fun r5 =>
      (gR 6 h0 o 0).bind fun r6 =>
      (gI 6 h0 o 1).bind fun x7 =>
      (r6).bind fun a8 =>
      (rR 11 h0 a8 x7).bind fun r9 =>
      (r5).bind fun a10 =>
      (cv 11 h0 a10 (f_Wo_become h0 a10 r9)).bind fun h11 =>
      (gI 6 h11 o 1).bind fun x12 =>
      (pI 6 h11 o 1 (x12 + (1 : Int32))).bind fun h13 =>
      some (h13)
    else
      some (h0)
  ).bind fun h14 =>
  (gR 6 h14 o 0).bind fun r15 =>
  (gI 6 h14 o 1).bind fun x16 =>
  (r15).bind fun a17 =>
  (rR 11 h14 a17 x16).bind fun r18 =>
  some (r18, h14)
def f_Wo_holders (h0 : AH) (p1 : Int32) (p2 : Int32) : Option (Int64) :=
  if p2 < (6 : Int32) then
    (rJ h0 2 p2).bind fun x2 =>
    some (x2)
  else
    (f_C_hasBit h0 p1 (p2 - (6 : Int32))).bind fun x1 =>
    if x1 = (0 : Int32) then
      some ((0 : Int64))
    else
      some ((-1 : Int64))
def f_Wo_keep_L2 (y0 : Nat) (y1 : Int32) (y2 : Int32) : Nat → Int32 → AH → Option (AH)
  | 0, _, _ => none
  | n + 1, z3, h =>
    if z3 < (64 : Int32) then
      (gR 11 h y0 0).bind fun r1 =>
      (r1).bind fun a2 =>
      (rJ h a2 z3).bind fun x3 =>
      (
        if y2 = (0 : Int32) then
          (f_Wo_holders h z3 y1).bind fun x4 =>
          some ((x4 ^^^ (-1 : Int64)))
        else
          (f_Wo_holders h z3 y1).bind fun x5 =>
          some (x5)
      ).bind fun x6 =>
      (wJ h a2 z3 (x3 &&& x6)).bind fun h7 =>
      f_Wo_keep_L2 y0 y1 y2 n (z3 + (1 : Int32)) h7
    else
      some h
def f_Wo_keep (h0 : AH) (o : Nat) (p1 : Int32) (p2 : Int32) : Option (AH) :=
  f_Wo_keep_L2 o p1 p2 FU (0 : Int32) h0
def f_Wo_movedWithin (h0 : AH) (p1 : Int64) (p2 : Int32) (p3 : Int32) : Option (Int64) :=
  (rJ h0 2 p2).bind fun x1 =>
  (some ((p1 &&& x1))).bind fun x2 =>
  (rJ h0 2 p2).bind fun x3 =>
  (some ((p1 &&& (x3 ^^^ (-1 : Int64))))).bind fun x4 =>
  if p3 = (0 : Int32) then
    some ((x4 ||| (xlushr x2 ((1 : Int32) <<< (p2 &&& 31)))))
  else
    some ((x2 ||| (xlshl x4 ((1 : Int32) <<< (p2 &&& 31)))))
def f_Wo_move_L2 (y0 : Nat) (y1 : Int32) (y2 : Int32) : Nat → Int32 → AH → Option (AH)
  | 0, _, _ => none
  | n + 1, z3, h =>
    if z3 < (64 : Int32) then
      if y1 < (6 : Int32) then
        (gR 11 h y0 0).bind fun r13 =>
        (gR 11 h y0 0).bind fun r14 =>
        (r14).bind fun a15 =>
        (rJ h a15 z3).bind fun x16 =>
        (f_Wo_movedWithin h x16 y1 y2).bind fun x17 =>
        (r13).bind fun a18 =>
        (wJ h a18 z3 x17).bind fun h19 =>
        f_Wo_move_L2 y0 y1 y2 n (z3 + (1 : Int32)) h19
      else
        (f_C_hasBit h z3 (y1 - (6 : Int32))).bind fun x1 =>
        if x1 = y2 then
          (some ((z3 ^^^ ((1 : Int32) <<< ((y1 - (6 : Int32)) &&& 31))))).bind fun x2 =>
          (gR 11 h y0 0).bind fun r3 =>
          (r3).bind fun a4 =>
          (rJ h a4 z3).bind fun x5 =>
          (gR 11 h y0 0).bind fun r6 =>
          (r6).bind fun a7 =>
          (rJ h a7 x2).bind fun x8 =>
          (wJ h a4 z3 (x5 ||| x8)).bind fun h9 =>
          (gR 11 h9 y0 0).bind fun r10 =>
          (r10).bind fun a11 =>
          (wJ h9 a11 x2 (0 : Int64)).bind fun h12 =>
          f_Wo_move_L2 y0 y1 y2 n (z3 + (1 : Int32)) h12
        else
          f_Wo_move_L2 y0 y1 y2 n (z3 + (1 : Int32)) h
    else
      some h
def f_Wo_move (h0 : AH) (o : Nat) (p1 : Int32) (p2 : Int32) : Option (AH) :=
  f_Wo_move_L2 o p1 p2 FU (0 : Int32) h0
def f_Wo_change_L2 {ρ : Type} (y0 : Nat) (y1 : Option Nat) (k : AH → Option (ρ)) : Nat → Int32 → AH → Option (ρ)
  | 0, _, _ => none
  | n + 1, z2, h =>
    if z2 < (12 : Int32) then
      (y1).bind fun a1 =>
      (gR 4 h a1 0).bind fun r2 =>
      (r2).bind fun a3 =>
      (rI 1 h a3 (5 : Int32)).bind fun x4 =>
      (f_C_hasBit h x4 z2).bind fun x5 =>
      if x5 = (0 : Int32) then
        f_Wo_change_L2 y0 y1 k n (z2 + (1 : Int32)) h
      else
        (cv 11 h y0 (f_Wo_keep h y0 z2 (1 : Int32))).bind fun h6 =>
        f_Wo_change_L2 y0 y1 k n (z2 + (1 : Int32)) h6
    else
      k h
def f_Wo_change_L35 (y0 : Nat) (y1 : Option Nat) : Nat → Int32 → AH → Option (AH)
  | 0, _, _ => none
  | n + 1, z2, h =>
    if z2 < (12 : Int32) then
      (y1).bind fun a8 =>
      (gR 4 h a8 0).bind fun r9 =>
      (r9).bind fun a10 =>
      (rI 1 h a10 (6 : Int32)).bind fun x11 =>
      (f_C_hasBit h x11 z2).bind fun x12 =>
      if x12 = (0 : Int32) then
        (gR 4 h a8 0).bind fun r13 =>
        (r13).bind fun a14 =>
        (rI 1 h a14 (7 : Int32)).bind fun x15 =>
        (f_C_hasBit h x15 z2).bind fun x16 =>
        if x16 = (0 : Int32) then
          f_Wo_change_L35 y0 y1 n (z2 + (1 : Int32)) h
        else
          (cv 11 h y0 (f_Wo_move h y0 z2 (0 : Int32))).bind fun h17 =>
          f_Wo_change_L35 y0 y1 n (z2 + (1 : Int32)) h17
      else
        (cv 11 h y0 (f_Wo_move h y0 z2 (1 : Int32))).bind fun h18 =>
        f_Wo_change_L35 y0 y1 n (z2 + (1 : Int32)) h18
    else
      some h
def f_Wo_change (h0 : AH) (o : Nat) (p1 : Option Nat) : Option (AH) :=
  f_Wo_change_L2 o p1 (fun h7 =>
    f_Wo_change_L35 o p1 FU (0 : Int32) h7
  ) FU (0 : Int32) h0
def f_Wo_add_L2 (y0 : Nat) (y1 : Option Nat) : Nat → Int32 → AH → Option (AH)
  | 0, _, _ => none
  | n + 1, z2, h =>
    if z2 < (64 : Int32) then
      (gR 11 h y0 0).bind fun r1 =>
      (r1).bind fun a2 =>
      (rJ h a2 z2).bind fun x3 =>
      (y1).bind fun a4 =>
      (gR 11 h a4 0).bind fun r5 =>
      (r5).bind fun a6 =>
      (rJ h a6 z2).bind fun x7 =>
      (wJ h a2 z2 (x3 ||| x7)).bind fun h8 =>
      f_Wo_add_L2 y0 y1 n (z2 + (1 : Int32)) h8
    else
      some h
def f_Wo_add (h0 : AH) (o : Nat) (p1 : Option Nat) : Option (AH) :=
  f_Wo_add_L2 o p1 FU (0 : Int32) h0
def f_Lo_addCall (h0 : AH) (o : Nat) (p1 : Option Nat) (p2 : Int32) : Option (AH) :=
  bd2 (cv 6 h0 o (f_Lo_addEvent h0 o)) fun r1 h2 =>
  if p2 = (0 : Int32) then
    (r1).bind fun a12 =>
    (cv 11 h2 a12 (f_Wo_change h2 a12 p1)).bind fun h13 =>
    some h13
  else
    if p2 = (2 : Int32) then
      (gR 6 h2 o 2).bind fun r3 =>
      (r3).bind fun a4 =>
      (cv 11 h2 a4 (f_Wo_become h2 a4 r1)).bind fun h5 =>
      (gR 6 h5 o 2).bind fun r6 =>
      (r6).bind fun a7 =>
      (cv 11 h5 a7 (f_Wo_change h5 a7 p1)).bind fun h8 =>
      (gR 6 h8 o 2).bind fun r9 =>
      (r1).bind fun a10 =>
      (cv 11 h8 a10 (f_Wo_add h8 a10 r9)).bind fun h11 =>
      some h11
    else
      some h2
def f_C_call (h0 : AH) (o : Nat) (p1 : Int32) (p2 : Int32) : Option (Int32 × AH) :=
  (gR 0 h0 o 8).bind fun r1 =>
  (r1).bind fun a2 =>
  (cv 8 h0 a2 (f_Ro_helperNumbered h0 a2 p1)).bind fun r3 =>
  onl r3 (
    some ((-101 : Int32), h0)
  ) fun a4 =>
  if p2 < (0 : Int32) then
    some ((-102 : Int32), h0)
  else
    if (2 : Int32) < p2 then
      some ((-102 : Int32), h0)
    else
      (gR 0 h0 o 10).bind fun r5 =>
      (r5).bind fun a6 =>
      (gI 6 h0 a6 1).bind fun x7 =>
      if x7 < (30 : Int32) then
        (gR 0 h0 o 10).bind fun r8 =>
        (r8).bind fun a9 =>
        (cv 6 h0 a9 (f_Lo_addCall h0 a9 (some a4) p2)).bind fun h10 =>
        (gR 0 h10 o 10).bind fun r11 =>
        (r11).bind fun a12 =>
        (gI 6 h10 a12 1).bind fun x13 =>
        some (x13, h10)
      else
        some ((-104 : Int32), h0)
def f_Lo_addSight (h0 : AH) (o : Nat) (p1 : Int32) (p2 : Int32) : Option (AH) :=
  bd2 (cv 6 h0 o (f_Lo_addEvent h0 o)) fun r1 h2 =>
  (r1).bind fun a3 =>
  (cv 11 h2 a3 (f_Wo_keep h2 a3 p1 p2)).bind fun h4 =>
  some h4
def f_C_see (h0 : AH) (o : Nat) (p1 : Int32) (p2 : Int32) : Option (Int32 × AH) :=
  (f_C_isFact h0 p1).bind fun x1 =>
  if x1 = (0 : Int32) then
    some ((-101 : Int32), h0)
  else
    (gR 0 h0 o 10).bind fun r2 =>
    (r2).bind fun a3 =>
    (gI 6 h0 a3 1).bind fun x4 =>
    if x4 < (30 : Int32) then
      (gR 0 h0 o 10).bind fun r5 =>
      (r5).bind fun a6 =>
      (cv 6 h0 a6 (f_Lo_addSight h0 a6 p1 p2)).bind fun h7 =>
      (gR 0 h7 o 10).bind fun r8 =>
      (r8).bind fun a9 =>
      (gI 6 h7 a9 1).bind fun x10 =>
      some (x10, h7)
    else
      some ((-104 : Int32), h0)
def f_C_strike (h0 : AH) (o : Nat) : Option (Int32 × AH) :=
  (gR 0 h0 o 10).bind fun r1 =>
  (r1).bind fun a2 =>
  (gI 6 h0 a2 1).bind fun x3 =>
  if x3 = (0 : Int32) then
    some ((-103 : Int32), h0)
  else
    (gR 0 h0 o 10).bind fun r4 =>
    (r4).bind fun a5 =>
    (gI 6 h0 a5 1).bind fun x6 =>
    (pI 6 h0 a5 1 (x6 - (1 : Int32))).bind fun h7 =>
    (gR 0 h7 o 10).bind fun r8 =>
    (r8).bind fun a9 =>
    (gI 6 h7 a9 1).bind fun x10 =>
    some (x10, h7)
