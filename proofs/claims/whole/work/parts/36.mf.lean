def f_M_again_L29 {ρ : Type} (h0 : AH) (y0 : Nat) (y1 : Int32) (k : Int32 → Option (ρ)) : Nat → Int32 → Int32 → Option (ρ)
  | 0, _, _ => none
  | n + 1, z2, z3 =>
    if z3 < (4096 : Int32) then
      (
        if z2 = (0 : Int32) then
          some ((0 : Int32))
        else
          (gR 12 h0 y0 55).bind fun r5 =>
          (r5).bind fun a6 =>
          (rI 2 h0 a6 z3).bind fun x7 =>
          if x7 = (0 : Int32) then
            some ((1 : Int32))
          else
            (gR 12 h0 y0 10).bind fun r8 =>
            (r8).bind fun a9 =>
            (rI 1 h0 a9 y1).bind fun x10 =>
            if (x10 &&& (z3 ^^^ (-1 : Int32))) = (0 : Int32) then
              (cv 12 h0 y0 (f_M_did h0 y0 z3 y1)).bind fun x11 =>
              if x11 = z3 then
                some ((1 : Int32))
              else
                some ((0 : Int32))
            else
              some ((0 : Int32))
      ).bind fun x12 =>
      f_M_again_L29 h0 y0 y1 k n x12 (z3 + (1 : Int32))
    else
      k z2
def f_M_again (h0 : AH) (o : Nat) (p1 : Int32) : Option (Int32 × AH) :=
  (cv 12 h0 o (f_M_isHelper h0 o p1)).bind fun x1 =>
  if x1 = (0 : Int32) then
    some ((-101 : Int32), h0)
  else
    (gI 12 h0 o 18).bind fun x2 =>
    bd2 (cv 12 h0 o (f_M_passAll h0 o x2)) fun x3 h4 =>
    if x3 = (0 : Int32) then
      some ((-103 : Int32), h4)
    else
      f_M_again_L29 h4 o p1 (fun x13 =>
        if x13 = (0 : Int32) then
          some ((0 : Int32), h4)
        else
          some ((1 : Int32), h4)
      ) FU (1 : Int32) (0 : Int32)
def f_M_count (h0 : AH) (o : Nat) (p1 : Int32) : Option (Int32) :=
  if p1 = (0 : Int32) then
    (gI 12 h0 o 2).bind fun x8 =>
    some (x8)
  else
  if p1 = (1 : Int32) then
    (gI 12 h0 o 0).bind fun x7 =>
    some (x7)
  else
  if p1 = (2 : Int32) then
    (gI 12 h0 o 9).bind fun x6 =>
    some (x6)
  else
  if p1 = (3 : Int32) then
    (gI 12 h0 o 18).bind fun x5 =>
    some (x5)
  else
  if p1 = (4 : Int32) then
    (gI 12 h0 o 6).bind fun x4 =>
    some (x4)
  else
  if p1 = (5 : Int32) then
    (gI 12 h0 o 7).bind fun x3 =>
    some (x3)
  else
  if p1 = (6 : Int32) then
    (gI 12 h0 o 8).bind fun x2 =>
    some (x2)
  else
  if p1 = (7 : Int32) then
    (gI 12 h0 o 15).bind fun x1 =>
    some (x1)
  else
  some ((-102 : Int32))
def f_M_mix (h0 : AH) (o : Nat) (p1 : Int64) : Option (AH) :=
  (gJ 12 h0 o 57).bind fun x1 =>
  (pJ 12 h0 o 57 (((31 : Int64) * x1) + p1)).bind fun h2 =>
  some h2
def f_M_mixTalk_L48 {ρ : Type} (y0 : Nat) (y1 : Int32) (y2 : Int32) (k : AH → Option (ρ)) : Nat → Int32 → AH → Option (ρ)
  | 0, _, _ => none
  | n + 1, z3, h =>
    if z3 < (16 : Int32) then
      (gR 12 h y0 4).bind fun r13 =>
      (f_M_place h y1 y2 (0 : Int32) z3).bind fun x14 =>
      (r13).bind fun a15 =>
      (rI 1 h a15 x14).bind fun x16 =>
      (cv 12 h y0 (f_M_mix h y0 ((x16).toInt64))).bind fun h17 =>
      f_M_mixTalk_L48 y0 y1 y2 k n (z3 + (1 : Int32)) h17
    else
      k h
def f_M_mixTalk_L13 (y0 : Nat) (y1 : Int32) : Nat → Int32 → AH → Option (AH)
  | 0, _, _ => none
  | n + 1, z2, h =>
    (gR 12 h y0 3).bind fun r5 =>
    (r5).bind fun a6 =>
    (rI 1 h a6 y1).bind fun x7 =>
    if x7 < z2 then
      some h
    else
      (gR 12 h y0 5).bind fun r8 =>
      (r8).bind fun a9 =>
      (rI 2 h a9 (((25 : Int32) * y1) + z2)).bind fun x10 =>
      (
        if x10 = (0 : Int32) then
          some ((0 : Int64))
        else
          some ((1 : Int64))
      ).bind fun x11 =>
      (cv 12 h y0 (f_M_mix h y0 x11)).bind fun h12 =>
      f_M_mixTalk_L48 y0 y1 z2 (fun h18 =>
        f_M_mixTalk_L13 y0 y1 n (z2 + (1 : Int32)) h18
      ) FU (0 : Int32) h12
def f_M_mixTalk (h0 : AH) (o : Nat) (p1 : Int32) : Option (AH) :=
  (gR 12 h0 o 3).bind fun r1 =>
  (r1).bind fun a2 =>
  (rI 1 h0 a2 p1).bind fun x3 =>
  (cv 12 h0 o (f_M_mix h0 o ((x3).toInt64))).bind fun h4 =>
  f_M_mixTalk_L13 o p1 FU (0 : Int32) h4
def f_M_digest_L9 {ρ : Type} (y0 : Nat) (k : AH → Option (ρ)) : Nat → Int32 → AH → Option (ρ)
  | 0, _, _ => none
  | n + 1, z1, h =>
    (gI 12 h y0 0).bind fun x2 =>
    if z1 < x2 then
      (gR 12 h y0 1).bind fun r3 =>
      (r3).bind fun a4 =>
      (rI 3 h a4 z1).bind fun x5 =>
      (cv 12 h y0 (f_M_mix h y0 ((x5).toInt64))).bind fun h6 =>
      f_M_digest_L9 y0 k n (z1 + (1 : Int32)) h6
    else
      k h
def f_M_digest_L36 {ρ : Type} (y0 : Nat) (k : AH → Option (ρ)) : Nat → Int32 → AH → Option (ρ)
  | 0, _, _ => none
  | n + 1, z1, h =>
    (gI 12 h y0 2).bind fun x8 =>
    if z1 < x8 then
      (cv 12 h y0 (f_M_mixTalk h y0 z1)).bind fun h9 =>
      f_M_digest_L36 y0 k n (z1 + (1 : Int32)) h9
    else
      k h
def f_M_digest_L67 {ρ : Type} (y0 : Nat) (y1 : Int32) (k : AH → Option (ρ)) : Nat → Int32 → AH → Option (ρ)
  | 0, _, _ => none
  | n + 1, z2, h =>
    if z2 < (8 : Int32) then
      (cv 12 h y0 (f_M_aboutOf h y0 y1 z2)).bind fun x12 =>
      (cv 12 h y0 (f_M_mix h y0 ((x12).toInt64))).bind fun h13 =>
      f_M_digest_L67 y0 y1 k n (z2 + (1 : Int32)) h13
    else
      k h
def f_M_digest_L57 {ρ : Type} (y0 : Nat) (k : AH → Option (ρ)) : Nat → Int32 → AH → Option (ρ)
  | 0, _, _ => none
  | n + 1, z1, h =>
    (gI 12 h y0 9).bind fun x11 =>
    if z1 < x11 then
      f_M_digest_L67 y0 z1 (fun h14 =>
        f_M_digest_L57 y0 k n (z1 + (1 : Int32)) h14
      ) FU (0 : Int32) h
    else
      k h
def f_M_digest_L98 {ρ : Type} (y0 : Nat) (k : AH → Option (ρ)) : Nat → Int32 → AH → Option (ρ)
  | 0, _, _ => none
  | n + 1, z1, h =>
    if z1 < (12 : Int32) then
      (gR 12 h y0 14).bind fun r16 =>
      (r16).bind fun a17 =>
      (rI 1 h a17 z1).bind fun x18 =>
      (cv 12 h y0 (f_M_mix h y0 ((x18).toInt64))).bind fun h19 =>
      f_M_digest_L98 y0 k n (z1 + (1 : Int32)) h19
    else
      k h
def f_M_digest_L123 {ρ : Type} (y0 : Nat) (k : AH → Option (ρ)) : Nat → Int32 → AH → Option (ρ)
  | 0, _, _ => none
  | n + 1, z1, h =>
    (gI 12 h y0 15).bind fun x21 =>
    if z1 < x21 then
      (gR 12 h y0 16).bind fun r22 =>
      (r22).bind fun a23 =>
      (rI 1 h a23 z1).bind fun x24 =>
      (cv 12 h y0 (f_M_mix h y0 ((x24).toInt64))).bind fun h25 =>
      f_M_digest_L123 y0 k n (z1 + (1 : Int32)) h25
    else
      k h
def f_M_digest (h0 : AH) (o : Nat) : Option (Int64 × AH) :=
  (pJ 12 h0 o 57 (211 : Int64)).bind fun h1 =>
  f_M_digest_L9 o (fun h7 =>
    f_M_digest_L36 o (fun h10 =>
      f_M_digest_L57 o (fun h15 =>
        f_M_digest_L98 o (fun h20 =>
          f_M_digest_L123 o (fun h26 =>
            (gI 12 h26 o 18).bind fun x27 =>
            (cv 12 h26 o (f_M_mix h26 o ((x27).toInt64))).bind fun h28 =>
            (gI 12 h28 o 18).bind fun x29 =>
            bd2 (cv 12 h28 o (f_M_passAll h28 o x29)) fun x30 h31 =>
            (cv 12 h31 o (f_M_mix h31 o ((x30).toInt64))).bind fun h32 =>
            (gI 12 h32 o 6).bind fun x33 =>
            (cv 12 h32 o (f_M_mix h32 o ((x33).toInt64))).bind fun h34 =>
            (gI 12 h34 o 7).bind fun x35 =>
            (cv 12 h34 o (f_M_mix h34 o ((x35).toInt64))).bind fun h36 =>
            (gI 12 h36 o 8).bind fun x37 =>
            (cv 12 h36 o (f_M_mix h36 o ((x37).toInt64))).bind fun h38 =>
            (gJ 12 h38 o 57).bind fun x39 =>
            some (x39, h38)
          ) FU (0 : Int32) h20
        ) FU (0 : Int32) h15
      ) FU (0 : Int32) h10
    ) FU (0 : Int32) h7
  ) FU (0 : Int32) h1
