def f_Ta_init_L111 {ρ : Type} (y0 : Nat) (y1 : Nat) (y2 : Int32) (y3 : Int64) (k : AH → Option (ρ)) : Nat → Int32 → AH → Option (ρ)
  | 0, _, _ => none
  | n + 1, z5, h =>
    (gI 9 h y0 0).bind fun x21 =>
    if x21 < z5 then
      k h
    else
      if (lg_cmp ((xlshr y3 z5) &&& (1 : Int64)) (0 : Int64)) = (0 : Int32) then
        f_Ta_init_L111 y0 y1 y2 y3 k n (z5 + (1 : Int32)) h
      else
        (gR 7 h y1 5).bind fun r22 =>
        (r22).bind fun a23 =>
        (rI 1 h a23 z5).bind fun x24 =>
        (cv 9 h y0 (f_Ta_addStep h y0 y2 x24 z5)).bind fun h25 =>
        f_Ta_init_L111 y0 y1 y2 y3 k n (z5 + (1 : Int32)) h25
def f_Ta_init_L70 (y0 : Nat) (y1 : Nat) : Nat → Int32 → AH → Option (AH)
  | 0, _, _ => none
  | n + 1, z2, h =>
    (gI 9 h y0 0).bind fun x15 =>
    if x15 < z2 then
      some h
    else
      (gI 9 h y0 1).bind fun x16 =>
      (cv 7 h y1 (f_Pa_mayStop h y1 z2)).bind fun x17 =>
      (
        if x17 = (0 : Int32) then
          some ((0 : Int32))
        else
          some (((1 : Int32) <<< (z2 &&& 31)))
      ).bind fun x18 =>
      (pI 9 h y0 1 (x16 ||| x18)).bind fun h19 =>
      (cv 7 h19 y1 (f_Pa_nextSteps h19 y1 z2)).bind fun x20 =>
      f_Ta_init_L111 y0 y1 z2 x20 (fun h26 =>
        f_Ta_init_L70 y0 y1 n (z2 + (1 : Int32)) h26
      ) FU (1 : Int32) h19
def f_Ta_init (h0 : AH) (o : Nat) (p1 : Option Nat) : Option (AH) :=
  (p1).bind fun a1 =>
  (gI 7 h0 a1 4).bind fun x2 =>
  (pI 9 h0 o 0 (if (0 : Int32) < (if x2 < (24 : Int32) then x2 else (24 : Int32)) then (if x2 < (24 : Int32) then x2 else (24 : Int32)) else (0 : Int32))).bind fun h3 =>
  (gI 9 h3 o 0).bind fun x4 =>
  (nAr 1 h3 ((x4 + (1 : Int32)) * (16 : Int32))).bind fun h5 =>
  (pR 9 h5 o 2 (some (hM h3))).bind fun h6 =>
  (gI 9 h6 o 0).bind fun x7 =>
  (nAr 1 h6 (x7 + (1 : Int32))).bind fun h8 =>
  (pR 9 h8 o 3 (some (hM h6))).bind fun h9 =>
  (gI 9 h9 o 0).bind fun x10 =>
  (nAr 1 h9 (x10 + (1 : Int32))).bind fun h11 =>
  (pR 9 h11 o 4 (some (hM h9))).bind fun h12 =>
  (gR 9 h12 o 2).bind fun r13 =>
  (f_jA_fill_I h12 r13 (-1 : Int32)).bind fun h14 =>
  f_Ta_init_L70 o a1 FU (0 : Int32) h14
def f_C_talk (h0 : AH) (o : Nat) : Option (Int32 × AH) :=
  (gR 0 h0 o 0).bind fun r1 =>
  (r1).bind fun a2 =>
  bd2 (cv 7 h0 a2 (f_Pa_read h0 a2)) fun x3 h4 =>
  (gR 0 h4 o 0).bind fun r5 =>
  (r5).bind fun a6 =>
  (gI 7 h4 a6 1).bind fun x7 =>
  if x3 < x7 then
    some ((-103 : Int32), h4)
  else
    (gR 0 h4 o 0).bind fun r8 =>
    (r8).bind fun a9 =>
    (cv 7 h4 a9 (f_Pa_isWhole h4 a9)).bind fun x10 =>
    if x10 = (0 : Int32) then
      some ((-103 : Int32), h4)
    else
      (gR 0 h4 o 0).bind fun r11 =>
      (r11).bind fun a12 =>
      (gI 7 h4 a12 4).bind fun x13 =>
      if (24 : Int32) < x13 then
        some ((-102 : Int32), h4)
      else
        (gR 0 h4 o 0).bind fun r14 =>
        (r14).bind fun a15 =>
        (cv 7 h4 a15 (f_Pa_isTwofold h4 a15)).bind fun x16 =>
        if x16 = (0 : Int32) then
          (gI 0 h4 o 2).bind fun x17 =>
          if x17 < (6 : Int32) then
            (gR 0 h4 o 1).bind fun r18 =>
            (gI 0 h4 o 2).bind fun x19 =>
            (gR 0 (nO 9 h4) o 0).bind fun r21 =>
            (f_Ta_init (nO 9 h4) (hM h4) r21).bind fun h22 =>
            (r18).bind fun a23 =>
            (wR 9 h22 a23 x19 (some (hM h4))).bind fun h24 =>
            (gI 0 h24 o 2).bind fun x25 =>
            (pI 0 h24 o 2 (x25 + (1 : Int32))).bind fun h26 =>
            (gR 0 h26 o 0).bind fun r27 =>
            (r27).bind fun a28 =>
            (pI 7 h26 a28 1 (0 : Int32)).bind fun h29 =>
            (gI 0 h29 o 2).bind fun x30 =>
            some ((x30 - (1 : Int32)), h29)
          else
            some ((-104 : Int32), h4)
        else
          some ((-102 : Int32), h4)
def f_C_talkNumbered (h0 : AH) (o : Nat) (p1 : Int32) : Option (Option Nat) :=
  if p1 < (0 : Int32) then
    some (none)
  else
    (gI 0 h0 o 2).bind fun x1 =>
    if p1 < x1 then
      (gR 0 h0 o 1).bind fun r2 =>
      (r2).bind fun a3 =>
      (rR 9 h0 a3 p1).bind fun r4 =>
      some (r4)
    else
      some (none)
def f_C_steps (h0 : AH) (o : Nat) (p1 : Int32) : Option (Int32) :=
  (cv 0 h0 o (f_C_talkNumbered h0 o p1)).bind fun r1 =>
  onl r1 (
    some ((-101 : Int32))
  ) fun a2 =>
  (gI 9 h0 a2 0).bind fun x3 =>
  some (x3)
def f_Ta_has (h0 : AH) (o : Nat) (p1 : Int32) : Option (Int32) :=
  if p1 < (0 : Int32) then
    some ((0 : Int32))
  else
    (gI 9 h0 o 0).bind fun x1 =>
    if x1 < p1 then
      some ((0 : Int32))
    else
      some ((1 : Int32))
def f_C_isSign (h0 : AH) (p1 : Int32) : Option (Int32) :=
  if p1 = (0 : Int32) then
    some ((1 : Int32))
  else
    if p1 = (1 : Int32) then
      some ((1 : Int32))
    else
      some ((0 : Int32))
def f_Ta_behind (h0 : AH) (o : Nat) (p1 : Int32) (p2 : Int32) (p3 : Int32) : Option (Int32) :=
  (gR 9 h0 o 2).bind fun r1 =>
  (r1).bind fun a2 =>
  (rI 1 h0 a2 (((p1 * (16 : Int32)) + (p2 * (8 : Int32))) + p3)).bind fun x3 =>
  some (x3)
def f_C_next (h0 : AH) (o : Nat) (p1 : Int32) (p2 : Int32) (p3 : Int32) (p4 : Int32) : Option (Int32) :=
  (cv 0 h0 o (f_C_talkNumbered h0 o p1)).bind fun r1 =>
  onl r1 (
    some ((-101 : Int32))
  ) fun a2 =>
  (cv 9 h0 a2 (f_Ta_has h0 a2 p2)).bind fun x3 =>
  if x3 = (0 : Int32) then
    some ((-101 : Int32))
  else
    (f_C_isSign h0 p3).bind fun x4 =>
    if x4 = (0 : Int32) then
      some ((-102 : Int32))
    else
      (f_C_isMessage h0 p4).bind fun x5 =>
      if x5 = (0 : Int32) then
        some ((-102 : Int32))
      else
        (cv 9 h0 a2 (f_Ta_behind h0 a2 p2 p3 p4)).bind fun x6 =>
        some (x6)
def f_Ta_mayEnd (h0 : AH) (o : Nat) (p1 : Int32) : Option (Int32) :=
  (gI 9 h0 o 1).bind fun x1 =>
  if ((x1 >>> (p1 &&& 31)) &&& (1 : Int32)) = (0 : Int32) then
    some ((0 : Int32))
  else
    some ((1 : Int32))
def f_C_ends (h0 : AH) (o : Nat) (p1 : Int32) (p2 : Int32) : Option (Int32) :=
  (cv 0 h0 o (f_C_talkNumbered h0 o p1)).bind fun r1 =>
  onl r1 (
    some ((-101 : Int32))
  ) fun a2 =>
  (cv 9 h0 a2 (f_Ta_has h0 a2 p2)).bind fun x3 =>
  if x3 = (0 : Int32) then
    some ((-101 : Int32))
  else
    (cv 9 h0 a2 (f_Ta_mayEnd h0 a2 p2)).bind fun x4 =>
    if x4 = (0 : Int32) then
      some ((0 : Int32))
    else
      some ((1 : Int32))
def f_Ta_messagesOf_L4 (h0 : AH) (y0 : Nat) (y1 : Int32) : Nat → Int32 → Int32 → Option (Int32)
  | 0, _, _ => none
  | n + 1, z2, z3 =>
    (gI 9 h0 y0 0).bind fun x1 =>
    if x1 < z3 then
      some (z2)
    else
      (
        if y1 = (0 : Int32) then
          (gR 9 h0 y0 3).bind fun r5 =>
          (r5).bind fun a6 =>
          (rI 1 h0 a6 z3).bind fun x7 =>
          some (x7)
        else
          (gR 9 h0 y0 4).bind fun r2 =>
          (r2).bind fun a3 =>
          (rI 1 h0 a3 z3).bind fun x4 =>
          some (x4)
      ).bind fun x8 =>
      (some ((z2 ||| x8))).bind fun x9 =>
      f_Ta_messagesOf_L4 h0 y0 y1 n x9 (z3 + (1 : Int32))
def f_Ta_messagesOf (h0 : AH) (o : Nat) (p1 : Int32) : Option (Int32) :=
  f_Ta_messagesOf_L4 h0 o p1 FU (0 : Int32) (0 : Int32)
def f_C_uses (h0 : AH) (o : Nat) (p1 : Int32) (p2 : Int32) : Option (Int32) :=
  (cv 0 h0 o (f_C_talkNumbered h0 o p1)).bind fun r1 =>
  onl r1 (
    some ((-101 : Int32))
  ) fun a2 =>
  (f_C_isSign h0 p2).bind fun x3 =>
  if x3 = (0 : Int32) then
    some ((-102 : Int32))
  else
    (cv 9 h0 a2 (f_Ta_messagesOf h0 a2 p2)).bind fun x4 =>
    some (x4)
def f_Wa_reach_L12 (h0 : AH) (y0 : Nat) (y1 : Int32) (y2 : Int32) (y3 : Int32) (k : Int32 → Option (AH)) : Nat → Int32 → Int32 → Option (AH)
  | 0, _, _ => none
  | n + 1, z4, z5 =>
    if z5 < (8192 : Int32) then
      (gR 10 h0 y0 4).bind fun r2 =>
      (r2).bind fun a3 =>
      (rI 1 h0 a3 z4).bind fun x4 =>
      if x4 = (0 : Int32) then
        k z4
      else
        (gR 10 h0 y0 0).bind fun r5 =>
        (gR 10 h0 y0 4).bind fun r6 =>
        (r6).bind fun a7 =>
        (rI 1 h0 a7 z4).bind fun x8 =>
        (r5).bind fun a9 =>
        (rI 1 h0 a9 (x8 - (1 : Int32))).bind fun x10 =>
        if x10 = y1 then
          some h0
        else
          (some (((z4 + (1 : Int32)) &&& (8191 : Int32)))).bind fun x11 =>
          f_Wa_reach_L12 h0 y0 y1 y2 y3 k n x11 (z5 + (1 : Int32))
    else
      k z4
def f_Wa_reach (h0 : AH) (o : Nat) (p1 : Int32) (p2 : Int32) (p3 : Int32) : Option (AH) :=
  (some ((xushr (p1 * (-1640531535 : Int32)) (19 : Int32)))).bind fun x1 =>
  f_Wa_reach_L12 h0 o p1 p2 p3 (fun x12 =>
    (gI 10 h0 o 3).bind fun x13 =>
    if x13 < (4000 : Int32) then
      (gR 10 h0 o 0).bind fun r14 =>
      (gI 10 h0 o 3).bind fun x15 =>
      (r14).bind fun a16 =>
      (wI h0 a16 x15 p1).bind fun h17 =>
      (gR 10 h17 o 1).bind fun r18 =>
      (gI 10 h17 o 3).bind fun x19 =>
      (r18).bind fun a20 =>
      (wI h17 a20 x19 p2).bind fun h21 =>
      (gR 10 h21 o 2).bind fun r22 =>
      (gI 10 h21 o 3).bind fun x23 =>
      (r22).bind fun a24 =>
      (wI h21 a24 x23 p3).bind fun h25 =>
      (gI 10 h25 o 3).bind fun x26 =>
      (pI 10 h25 o 3 (x26 + (1 : Int32))).bind fun h27 =>
      (gR 10 h27 o 4).bind fun r28 =>
      (gI 10 h27 o 3).bind fun x29 =>
      (r28).bind fun a30 =>
      (wI h27 a30 x12 x29).bind fun h31 =>
      some h31
    else
      (pZ 10 h0 o 5 (1 : Int32)).bind fun h32 =>
      some h32
  ) FU x1 (0 : Int32)
def f_Wa_place (h0 : AH) (p1 : Int32) (p2 : Int32) (p3 : Int32) (p4 : Int32) : Option (Int32) :=
  some ((((p1 ||| (p2 <<< ((5 : Int32) &&& 31))) ||| (p3 <<< ((10 : Int32) &&& 31))) ||| (p4 <<< ((18 : Int32) &&& 31))))
def f_Wa_passFrom_L67 {ρ : Type} (y0 : Nat) (y1 : Int32) (y2 : Int32) (y3 : Int32) (y4 : Int32) (y5 : Int32) (k : AH → Option (ρ)) : Nat → Int32 → AH → Option (ρ)
  | 0, _, _ => none
  | n + 1, z6, h =>
    if z6 < (8 : Int32) then
      (f_C_hasBit h y4 z6).bind fun x31 =>
      (
        if x31 = (0 : Int32) then
          some (h)
        else
          (gR 10 h y0 8).bind fun r32 =>
          (r32).bind fun a33 =>
          (cv 9 h a33 (f_Ta_behind h a33 y2 (1 : Int32) z6)).bind fun x34 =>
          (gR 10 h y0 9).bind fun r35 =>
          (r35).bind fun a36 =>
          (cv 9 h a36 (f_Ta_behind h a36 y3 (0 : Int32) z6)).bind fun x37 =>
          (f_Wa_place h x34 x37 (0 : Int32) (0 : Int32)).bind fun x38 =>
          (cv 10 h y0 (f_Wa_reach h y0 x38 y1 ((2 : Int32) * z6))).bind fun h39 =>
          some (h39)
      ).bind fun h40 =>
      (f_C_hasBit h40 y5 z6).bind fun x41 =>
      if x41 = (0 : Int32) then
        f_Wa_passFrom_L67 y0 y1 y2 y3 y4 y5 k n (z6 + (1 : Int32)) h40
      else
        (gR 10 h40 y0 8).bind fun r42 =>
        (r42).bind fun a43 =>
        (cv 9 h40 a43 (f_Ta_behind h40 a43 y2 (0 : Int32) z6)).bind fun x44 =>
        (gR 10 h40 y0 9).bind fun r45 =>
        (r45).bind fun a46 =>
        (cv 9 h40 a46 (f_Ta_behind h40 a46 y3 (1 : Int32) z6)).bind fun x47 =>
        (f_Wa_place h40 x44 x47 (0 : Int32) (0 : Int32)).bind fun x48 =>
        (cv 10 h40 y0 (f_Wa_reach h40 y0 x48 y1 (((2 : Int32) * z6) + (1 : Int32)))).bind fun h49 =>
        f_Wa_passFrom_L67 y0 y1 y2 y3 y4 y5 k n (z6 + (1 : Int32)) h49
    else
      k h
def f_Wa_passFrom (h0 : AH) (o : Nat) (p1 : Int32) : Option (Int32 × AH) :=
  (gR 10 h0 o 0).bind fun r1 =>
  (r1).bind fun a2 =>
  (rI 1 h0 a2 p1).bind fun x3 =>
  (some ((x3 &&& (31 : Int32)))).bind fun x4 =>
  (gR 10 h0 o 0).bind fun r5 =>
  (r5).bind fun a6 =>
  (rI 1 h0 a6 p1).bind fun x7 =>
  (some (((x7 >>> ((5 : Int32) &&& 31)) &&& (31 : Int32)))).bind fun x8 =>
  (gR 10 h0 o 8).bind fun r9 =>
  (r9).bind fun a10 =>
  (gR 9 h0 a10 4).bind fun r11 =>
  (r11).bind fun a12 =>
  (rI 1 h0 a12 x4).bind fun x13 =>
  (gR 10 h0 o 9).bind fun r14 =>
  (r14).bind fun a15 =>
  (gR 9 h0 a15 3).bind fun r16 =>
  (r16).bind fun a17 =>
  (rI 1 h0 a17 x8).bind fun x18 =>
  (some ((x13 &&& x18))).bind fun x19 =>
  (gR 10 h0 o 9).bind fun r20 =>
  (r20).bind fun a21 =>
  (gR 9 h0 a21 4).bind fun r22 =>
  (r22).bind fun a23 =>
  (rI 1 h0 a23 x8).bind fun x24 =>
  (gR 10 h0 o 8).bind fun r25 =>
  (r25).bind fun a26 =>
  (gR 9 h0 a26 3).bind fun r27 =>
  (r27).bind fun a28 =>
  (rI 1 h0 a28 x4).bind fun x29 =>
  (some ((x24 &&& x29))).bind fun x30 =>
  f_Wa_passFrom_L67 o p1 x4 x8 x19 x30 (fun h50 =>
    (gR 10 h50 o 8).bind fun r51 =>
    (r51).bind fun a52 =>
    (gR 9 h50 a52 4).bind fun r53 =>
    (r53).bind fun a54 =>
    (rI 1 h50 a54 x4).bind fun x55 =>
    if x19 = x55 then
      (gR 10 h50 o 9).bind fun r56 =>
      (r56).bind fun a57 =>
      (gR 9 h50 a57 4).bind fun r58 =>
      (r58).bind fun a59 =>
      (rI 1 h50 a59 x8).bind fun x60 =>
      if x30 = x60 then
        (gR 10 h50 o 8).bind fun r61 =>
        (r61).bind fun a62 =>
        (cv 9 h50 a62 (f_Ta_mayEnd h50 a62 x4)).bind fun x63 =>
        (
          if x63 = (0 : Int32) then
            some ((0 : Int32))
          else
            (gR 10 h50 o 9).bind fun r64 =>
            (r64).bind fun a65 =>
            (cv 9 h50 a65 (f_Ta_mayEnd h50 a65 x8)).bind fun x66 =>
            if x66 = (0 : Int32) then
              some ((0 : Int32))
            else
              some ((1 : Int32))
        ).bind fun x67 =>
        if (x19 ||| x30) = (0 : Int32) then
          if x67 = (0 : Int32) then
            some ((1 : Int32), h50)
          else
            some ((0 : Int32), h50)
        else
          some ((0 : Int32), h50)
      else
        some ((2 : Int32), h50)
    else
      some ((2 : Int32), h50)
  ) FU (0 : Int32) h0
def f_Wa_hasRoom (h0 : AH) (o : Nat) (p1 : Int32) : Option (Int32) :=
  (gI 10 h0 o 10).bind fun x1 =>
  if x1 = (1 : Int32) then
    if p1 = (0 : Int32) then
      some ((1 : Int32))
    else
      some ((0 : Int32))
  else
    if p1 < (16 : Int32) then
      some ((1 : Int32))
    else
      some ((0 : Int32))
def f_Wa_front (h0 : AH) (p1 : Int32) : Option (Int32) :=
  some ((((1 : Int32) <<< ((p1 &&& (15 : Int32)) &&& 31)) >>> ((1 : Int32) &&& 31)))
def f_Wa_longer (h0 : AH) (p1 : Int32) (p2 : Int32) : Option (Int32) :=
  if p1 = (0 : Int32) then
    some ((p2 + (1 : Int32)))
  else
    some ((p1 ||| ((p2 + (1 : Int32)) <<< ((4 : Int32) &&& 31))))
def f_Wa_actFrom_L137 {ρ : Type} (y0 : Nat) (y1 : Int32) (y2 : Int32) (y3 : Int32) (y4 : Int32) (y5 : Int32) (y6 : Int32) (y7 : Int32) (y8 : Int32) (y9 : Int32) (k : AH → Option (ρ)) : Nat → Int32 → AH → Option (ρ)
  | 0, _, _ => none
  | n + 1, z10, h =>
    if z10 < (8 : Int32) then
      (f_C_hasBit h y6 z10).bind fun x45 =>
      if x45 = (0 : Int32) then
        f_Wa_actFrom_L137 y0 y1 y2 y3 y4 y5 y6 y7 y8 y9 k n (z10 + (1 : Int32)) h
      else
        (gR 10 h y0 8).bind fun r46 =>
        (r46).bind fun a47 =>
        (cv 9 h a47 (f_Ta_behind h a47 y2 (1 : Int32) z10)).bind fun x48 =>
        (f_Wa_longer h y4 z10).bind fun x49 =>
        (f_Wa_place h x48 y3 x49 y5).bind fun x50 =>
        (cv 10 h y0 (f_Wa_reach h y0 x50 y1 ((0 : Int32) + z10))).bind fun h51 =>
        f_Wa_actFrom_L137 y0 y1 y2 y3 y4 y5 y6 y7 y8 y9 k n (z10 + (1 : Int32)) h51
    else
      k h
def f_Wa_actFrom_L196 {ρ : Type} (y0 : Nat) (y1 : Int32) (y2 : Int32) (y3 : Int32) (y4 : Int32) (y5 : Int32) (y6 : Int32) (y7 : Int32) (y8 : Int32) (y9 : Int32) (k : AH → Option (ρ)) : Nat → Int32 → AH → Option (ρ)
  | 0, _, _ => none
  | n + 1, z10, h =>
    if z10 < (8 : Int32) then
      (f_C_hasBit h y7 z10).bind fun x53 =>
      if x53 = (0 : Int32) then
        f_Wa_actFrom_L196 y0 y1 y2 y3 y4 y5 y6 y7 y8 y9 k n (z10 + (1 : Int32)) h
      else
        (gR 10 h y0 9).bind fun r54 =>
        (r54).bind fun a55 =>
        (cv 9 h a55 (f_Ta_behind h a55 y3 (1 : Int32) z10)).bind fun x56 =>
        (f_Wa_longer h y5 z10).bind fun x57 =>
        (f_Wa_place h y2 x56 y4 x57).bind fun x58 =>
        (cv 10 h y0 (f_Wa_reach h y0 x58 y1 ((8 : Int32) + z10))).bind fun h59 =>
        f_Wa_actFrom_L196 y0 y1 y2 y3 y4 y5 y6 y7 y8 y9 k n (z10 + (1 : Int32)) h59
    else
      k h
def f_Wa_actFrom (h0 : AH) (o : Nat) (p1 : Int32) : Option (Int32 × AH) :=
  (gR 10 h0 o 0).bind fun r1 =>
  (r1).bind fun a2 =>
  (rI 1 h0 a2 p1).bind fun x3 =>
  (some ((x3 &&& (31 : Int32)))).bind fun x4 =>
  (gR 10 h0 o 0).bind fun r5 =>
  (r5).bind fun a6 =>
  (rI 1 h0 a6 p1).bind fun x7 =>
  (some (((x7 >>> ((5 : Int32) &&& 31)) &&& (31 : Int32)))).bind fun x8 =>
  (gR 10 h0 o 0).bind fun r9 =>
  (r9).bind fun a10 =>
  (rI 1 h0 a10 p1).bind fun x11 =>
  (some (((x11 >>> ((10 : Int32) &&& 31)) &&& (255 : Int32)))).bind fun x12 =>
  (gR 10 h0 o 0).bind fun r13 =>
  (r13).bind fun a14 =>
  (rI 1 h0 a14 p1).bind fun x15 =>
  (some (((x15 >>> ((18 : Int32) &&& 31)) &&& (255 : Int32)))).bind fun x16 =>
  (cv 10 h0 o (f_Wa_hasRoom h0 o x12)).bind fun x17 =>
  (
    if x17 = (0 : Int32) then
      some ((0 : Int32))
    else
      (gR 10 h0 o 8).bind fun r18 =>
      (r18).bind fun a19 =>
      (gR 9 h0 a19 4).bind fun r20 =>
      (r20).bind fun a21 =>
      (rI 1 h0 a21 x4).bind fun x22 =>
      some (x22)
  ).bind fun x23 =>
  (cv 10 h0 o (f_Wa_hasRoom h0 o x16)).bind fun x24 =>
  (
    if x24 = (0 : Int32) then
      some ((0 : Int32))
    else
      (gR 10 h0 o 9).bind fun r25 =>
      (r25).bind fun a26 =>
      (gR 9 h0 a26 4).bind fun r27 =>
      (r27).bind fun a28 =>
      (rI 1 h0 a28 x8).bind fun x29 =>
      some (x29)
  ).bind fun x30 =>
  (gR 10 h0 o 8).bind fun r31 =>
  (r31).bind fun a32 =>
  (gR 9 h0 a32 3).bind fun r33 =>
  (r33).bind fun a34 =>
  (rI 1 h0 a34 x4).bind fun x35 =>
  (f_Wa_front h0 x16).bind fun x36 =>
  (some ((x35 &&& x36))).bind fun x37 =>
  (gR 10 h0 o 9).bind fun r38 =>
  (r38).bind fun a39 =>
  (gR 9 h0 a39 3).bind fun r40 =>
  (r40).bind fun a41 =>
  (rI 1 h0 a41 x8).bind fun x42 =>
  (f_Wa_front h0 x12).bind fun x43 =>
  (some ((x42 &&& x43))).bind fun x44 =>
  f_Wa_actFrom_L137 o p1 x4 x8 x12 x16 x23 x30 x37 x44 (fun h52 =>
    f_Wa_actFrom_L196 o p1 x4 x8 x12 x16 x23 x30 x37 x44 (fun h60 =>
      (
        if x37 = (0 : Int32) then
          some (h60)
        else
          (gR 10 h60 o 8).bind fun r61 =>
          (r61).bind fun a62 =>
          (cv 9 h60 a62 (f_Ta_behind h60 a62 x4 (0 : Int32) ((x16 &&& (15 : Int32)) - (1 : Int32)))).bind fun x63 =>
          (f_Wa_place h60 x63 x8 x12 (x16 >>> ((4 : Int32) &&& 31))).bind fun x64 =>
          (cv 10 h60 o (f_Wa_reach h60 o x64 p1 (16 : Int32))).bind fun h65 =>
          some (h65)
      ).bind fun h66 =>
      (
        if x44 = (0 : Int32) then
          some (h66)
        else
          (gR 10 h66 o 9).bind fun r67 =>
          (r67).bind fun a68 =>
          (cv 9 h66 a68 (f_Ta_behind h66 a68 x8 (0 : Int32) ((x12 &&& (15 : Int32)) - (1 : Int32)))).bind fun x69 =>
          (f_Wa_place h66 x4 x69 (x12 >>> ((4 : Int32) &&& 31)) x16).bind fun x70 =>
          (cv 10 h66 o (f_Wa_reach h66 o x70 p1 (17 : Int32))).bind fun h71 =>
          some (h71)
      ).bind fun h72 =>
      (gR 10 h72 o 8).bind fun r73 =>
      (r73).bind fun a74 =>
      (cv 9 h72 a74 (f_Ta_mayEnd h72 a74 x4)).bind fun x75 =>
      (
        if x75 = (0 : Int32) then
          some ((0 : Int32))
        else
          (gR 10 h72 o 9).bind fun r76 =>
          (r76).bind fun a77 =>
          (cv 9 h72 a77 (f_Ta_mayEnd h72 a77 x8)).bind fun x78 =>
          if x78 = (0 : Int32) then
            some ((0 : Int32))
          else
            if (x16 ||| x12) = (0 : Int32) then
              some ((1 : Int32))
            else
              some ((0 : Int32))
      ).bind fun x79 =>
      if (((x23 ||| x30) ||| x37) ||| x44) = (0 : Int32) then
        if x79 = (0 : Int32) then
          some ((1 : Int32), h72)
        else
          some ((0 : Int32), h72)
      else
        some ((0 : Int32), h72)
    ) FU (0 : Int32) h52
  ) FU (0 : Int32) h0
def f_Wa_keepWay_L7 {ρ : Type} (y0 : Nat) (k : AH → Option (ρ)) : Nat → Int32 → AH → Option (ρ)
  | 0, _, _ => none
  | n + 1, z2, h =>
    if (0 : Int32) < z2 then
      (gI 10 h y0 7).bind fun x2 =>
      if x2 < (4000 : Int32) then
        (gR 10 h y0 6).bind fun r3 =>
        (gI 10 h y0 7).bind fun x4 =>
        (gR 10 h y0 2).bind fun r5 =>
        (r5).bind fun a6 =>
        (rI 1 h a6 z2).bind fun x7 =>
        (r3).bind fun a8 =>
        (wI h a8 x4 x7).bind fun h9 =>
        (gI 10 h9 y0 7).bind fun x10 =>
        (pI 10 h9 y0 7 (x10 + (1 : Int32))).bind fun h11 =>
        (gR 10 h11 y0 1).bind fun r12 =>
        (r12).bind fun a13 =>
        (rI 1 h11 a13 z2).bind fun x14 =>
        f_Wa_keepWay_L7 y0 k n x14 h11
      else
        k h
    else
      k h
def f_Wa_keepWay_L58 (y0 : Nat) : Nat → Int32 → AH → Option (AH)
  | 0, _, _ => none
  | n + 1, z2, h =>
    (gI 10 h y0 7).bind fun x16 =>
    if z2 < (x16 / (2 : Int32)) then
      (gR 10 h y0 6).bind fun r17 =>
      (r17).bind fun a18 =>
      (rI 1 h a18 z2).bind fun x19 =>
      (gR 10 h y0 6).bind fun r20 =>
      (gR 10 h y0 6).bind fun r21 =>
      (gI 10 h y0 7).bind fun x22 =>
      (r21).bind fun a23 =>
      (rI 1 h a23 ((x22 - (1 : Int32)) - z2)).bind fun x24 =>
      (r20).bind fun a25 =>
      (wI h a25 z2 x24).bind fun h26 =>
      (gR 10 h26 y0 6).bind fun r27 =>
      (gI 10 h26 y0 7).bind fun x28 =>
      (r27).bind fun a29 =>
      (wI h26 a29 ((x28 - (1 : Int32)) - z2) x19).bind fun h30 =>
      f_Wa_keepWay_L58 y0 n (z2 + (1 : Int32)) h30
    else
      some h
def f_Wa_keepWay (h0 : AH) (o : Nat) (p1 : Int32) : Option (AH) :=
  (pI 10 h0 o 7 (0 : Int32)).bind fun h1 =>
  f_Wa_keepWay_L7 o (fun h15 =>
    f_Wa_keepWay_L58 o FU (0 : Int32) h15
  ) FU p1 h1
def f_Wa_through_L51 {ρ : Type} (y0 : Nat) (k : Int32 → AH → Option (ρ)) : Nat → Int32 → Int32 → AH → Option (ρ)
  | 0, _, _, _ => none
  | n + 1, z4, z5, h =>
    (gI 10 h y0 3).bind fun x10 =>
    if z5 < x10 then
      if z5 < (4000 : Int32) then
        (gI 10 h y0 5).bind fun x11 =>
        if x11 = (0 : Int32) then
          (gI 10 h y0 10).bind fun x12 =>
          bd2 (
            if x12 = (0 : Int32) then
              bd2 (cv 10 h y0 (f_Wa_passFrom h y0 z5)) fun x15 h16 =>
              some (x15, h16)
            else
              bd2 (cv 10 h y0 (f_Wa_actFrom h y0 z5)) fun x13 h14 =>
              some (x13, h14)
          ) fun x17 h18 =>
          if z4 = (0 : Int32) then
            if x17 = (0 : Int32) then
              f_Wa_through_L51 y0 k n z4 (z5 + (1 : Int32)) h18
            else
              (cv 10 h18 y0 (f_Wa_keepWay h18 y0 z5)).bind fun h19 =>
              f_Wa_through_L51 y0 k n x17 (z5 + (1 : Int32)) h19
          else
            f_Wa_through_L51 y0 k n z4 (z5 + (1 : Int32)) h18
        else
          k z4 h
      else
        k z4 h
    else
      k z4 h
def f_Wa_through (h0 : AH) (o : Nat) (p1 : Option Nat) (p2 : Option Nat) (p3 : Int32) : Option (Int32 × AH) :=
  (pR 10 h0 o 8 p1).bind fun h1 =>
  (pR 10 h1 o 9 p2).bind fun h2 =>
  (pI 10 h2 o 10 p3).bind fun h3 =>
  (pI 10 h3 o 3 (0 : Int32)).bind fun h4 =>
  (pI 10 h4 o 7 (0 : Int32)).bind fun h5 =>
  (pZ 10 h5 o 5 (0 : Int32)).bind fun h6 =>
  (gR 10 h6 o 4).bind fun r7 =>
  (f_jA_fill_I h6 r7 (0 : Int32)).bind fun h8 =>
  (cv 10 h8 o (f_Wa_reach h8 o (0 : Int32) (-1 : Int32) (-1 : Int32))).bind fun h9 =>
  f_Wa_through_L51 o (fun x20 h21 =>
    (gI 10 h21 o 5).bind fun x22 =>
    if x22 = (0 : Int32) then
      some (x20, h21)
    else
      (pI 10 h21 o 7 (0 : Int32)).bind fun h23 =>
      some ((3 : Int32), h23)
  ) FU (0 : Int32) (0 : Int32) h9
