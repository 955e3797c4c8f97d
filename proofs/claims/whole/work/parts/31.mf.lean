def f_M_readPage_L17 {ρ : Type} (y0 : Nat) (k : AH → Option (ρ)) : Nat → Int32 → AH → Option (ρ)
  | 0, _, _ => none
  | n + 1, z1, h =>
    if z1 < (40 : Int32) then
      (gR 12 h y0 32).bind fun r4 =>
      (r4).bind fun a5 =>
      (wJ h a5 z1 (0 : Int64)).bind fun h6 =>
      f_M_readPage_L17 y0 k n (z1 + (1 : Int32)) h6
    else
      k h
def f_M_readPage_L45 {ρ : Type} (y0 : Nat) (k : Int32 → Int32 → Int32 → AH → Option (ρ)) : Nat → Int32 → Int32 → Int32 → Int32 → AH → Option (ρ)
  | 0, _, _, _, _, _ => none
  | n + 1, z1, z2, z3, z4, h =>
    (gI 12 h y0 0).bind fun x8 =>
    if z3 < x8 then
      if z4 = (0 : Int32) then
        k z1 z2 z3 h
      else
        (gR 12 h y0 1).bind fun r9 =>
        (r9).bind fun a10 =>
        (rI 3 h a10 z3).bind fun x11 =>
        bd4 (
          if z2 = (-1 : Int32) then
            if x11 = (63 : Int32) then
              if x11 = (33 : Int32) then
                some (z1, (1 : Int32), z4, h)
              else
                some (z1, (0 : Int32), z4, h)
            else
              if x11 = (33 : Int32) then
                if x11 = (33 : Int32) then
                  some (z1, (1 : Int32), z4, h)
                else
                  some (z1, (0 : Int32), z4, h)
              else
                if x11 = (40 : Int32) then
                  (
                    if x11 = (40 : Int32) then
                      some ((1 : Int32))
                    else
                      some ((2 : Int32))
                  ).bind fun x12 =>
                  (cv 12 h y0 (f_M_open h y0 x12)).bind fun h13 =>
                  some ((0 : Int32), z2, z4, h13)
                else
                  if x11 = (123 : Int32) then
                    (
                      if x11 = (40 : Int32) then
                        some ((1 : Int32))
                      else
                        some ((2 : Int32))
                    ).bind fun x173 =>
                    (cv 12 h y0 (f_M_open h y0 x173)).bind fun h174 =>
                    some ((0 : Int32), z2, z4, h174)
                  else
                    if x11 = (48 : Int32) then
                      (cv 12 h y0 (f_M_append h y0 (1 : Int32) (0 : Int64) (0 : Int64))).bind fun h172 =>
                      some ((1 : Int32), z2, z4, h172)
                    else
                      if x11 = (124 : Int32) then
                        if z1 = (0 : Int32) then
                          if x11 = (41 : Int32) then
                            if z1 = (0 : Int32) then
                              if x11 = (125 : Int32) then
                                if z1 = (0 : Int32) then
                                  some (z1, z2, (0 : Int32), h)
                                else
                                  (gR 12 h y0 22).bind fun r72 =>
                                  (gI 12 h y0 21).bind fun x73 =>
                                  (r72).bind fun a74 =>
                                  (rI 1 h a74 x73).bind fun x75 =>
                                  if x75 = (2 : Int32) then
                                    (gR 12 h y0 22).bind fun r76 =>
                                    (gI 12 h y0 21).bind fun x77 =>
                                    (r76).bind fun a78 =>
                                    (rI 1 h a78 x77).bind fun x79 =>
                                    (cv 12 h y0 (f_M_close h y0 x79)).bind fun h80 =>
                                    some (z1, z2, z4, h80)
                                  else
                                    some (z1, z2, (0 : Int32), h)
                              else
                                some (z1, z2, (0 : Int32), h)
                            else
                              (gR 12 h y0 22).bind fun r81 =>
                              (gI 12 h y0 21).bind fun x82 =>
                              (r81).bind fun a83 =>
                              (rI 1 h a83 x82).bind fun x84 =>
                              if x84 = (1 : Int32) then
                                (gR 12 h y0 23).bind fun r94 =>
                                (gI 12 h y0 21).bind fun x95 =>
                                (r94).bind fun a96 =>
                                (rI 1 h a96 x95).bind fun x97 =>
                                if (0 : Int32) < x97 then
                                  (gR 12 h y0 22).bind fun r98 =>
                                  (gI 12 h y0 21).bind fun x99 =>
                                  (r98).bind fun a100 =>
                                  (rI 1 h a100 x99).bind fun x101 =>
                                  (cv 12 h y0 (f_M_close h y0 x101)).bind fun h102 =>
                                  some (z1, z2, z4, h102)
                                else
                                  if x11 = (125 : Int32) then
                                    if z1 = (0 : Int32) then
                                      some (z1, z2, (0 : Int32), h)
                                    else
                                      (gR 12 h y0 22).bind fun r103 =>
                                      (gI 12 h y0 21).bind fun x104 =>
                                      (r103).bind fun a105 =>
                                      (rI 1 h a105 x104).bind fun x106 =>
                                      if x106 = (2 : Int32) then
                                        (gR 12 h y0 22).bind fun r107 =>
                                        (gI 12 h y0 21).bind fun x108 =>
                                        (r107).bind fun a109 =>
                                        (rI 1 h a109 x108).bind fun x110 =>
                                        (cv 12 h y0 (f_M_close h y0 x110)).bind fun h111 =>
                                        some (z1, z2, z4, h111)
                                      else
                                        some (z1, z2, (0 : Int32), h)
                                  else
                                    some (z1, z2, (0 : Int32), h)
                              else
                                if x11 = (125 : Int32) then
                                  if z1 = (0 : Int32) then
                                    some (z1, z2, (0 : Int32), h)
                                  else
                                    (gR 12 h y0 22).bind fun r85 =>
                                    (gI 12 h y0 21).bind fun x86 =>
                                    (r85).bind fun a87 =>
                                    (rI 1 h a87 x86).bind fun x88 =>
                                    if x88 = (2 : Int32) then
                                      (gR 12 h y0 22).bind fun r89 =>
                                      (gI 12 h y0 21).bind fun x90 =>
                                      (r89).bind fun a91 =>
                                      (rI 1 h a91 x90).bind fun x92 =>
                                      (cv 12 h y0 (f_M_close h y0 x92)).bind fun h93 =>
                                      some (z1, z2, z4, h93)
                                    else
                                      some (z1, z2, (0 : Int32), h)
                                else
                                  some (z1, z2, (0 : Int32), h)
                          else
                            if x11 = (125 : Int32) then
                              if z1 = (0 : Int32) then
                                some (z1, z2, (0 : Int32), h)
                              else
                                (gR 12 h y0 22).bind fun r63 =>
                                (gI 12 h y0 21).bind fun x64 =>
                                (r63).bind fun a65 =>
                                (rI 1 h a65 x64).bind fun x66 =>
                                if x66 = (2 : Int32) then
                                  (gR 12 h y0 22).bind fun r67 =>
                                  (gI 12 h y0 21).bind fun x68 =>
                                  (r67).bind fun a69 =>
                                  (rI 1 h a69 x68).bind fun x70 =>
                                  (cv 12 h y0 (f_M_close h y0 x70)).bind fun h71 =>
                                  some (z1, z2, z4, h71)
                                else
                                  some (z1, z2, (0 : Int32), h)
                            else
                              some (z1, z2, (0 : Int32), h)
                        else
                          (gR 12 h y0 22).bind fun r112 =>
                          (gI 12 h y0 21).bind fun x113 =>
                          (r112).bind fun a114 =>
                          (rI 1 h a114 x113).bind fun x115 =>
                          if x115 = (1 : Int32) then
                            (cv 12 h y0 (f_M_gather h y0)).bind fun h165 =>
                            (gR 12 h165 y0 23).bind fun r166 =>
                            (gI 12 h165 y0 21).bind fun x167 =>
                            (r166).bind fun a168 =>
                            (rI 1 h165 a168 x167).bind fun x169 =>
                            (wI h165 a168 x167 (x169 + (1 : Int32))).bind fun h170 =>
                            (cv 12 h170 y0 (f_M_fresh h170 y0)).bind fun h171 =>
                            some ((0 : Int32), z2, z4, h171)
                          else
                            if x11 = (41 : Int32) then
                              if z1 = (0 : Int32) then
                                if x11 = (125 : Int32) then
                                  if z1 = (0 : Int32) then
                                    some (z1, z2, (0 : Int32), h)
                                  else
                                    (gR 12 h y0 22).bind fun r125 =>
                                    (gI 12 h y0 21).bind fun x126 =>
                                    (r125).bind fun a127 =>
                                    (rI 1 h a127 x126).bind fun x128 =>
                                    if x128 = (2 : Int32) then
                                      (gR 12 h y0 22).bind fun r129 =>
                                      (gI 12 h y0 21).bind fun x130 =>
                                      (r129).bind fun a131 =>
                                      (rI 1 h a131 x130).bind fun x132 =>
                                      (cv 12 h y0 (f_M_close h y0 x132)).bind fun h133 =>
                                      some (z1, z2, z4, h133)
                                    else
                                      some (z1, z2, (0 : Int32), h)
                                else
                                  some (z1, z2, (0 : Int32), h)
                              else
                                (gR 12 h y0 22).bind fun r134 =>
                                (gI 12 h y0 21).bind fun x135 =>
                                (r134).bind fun a136 =>
                                (rI 1 h a136 x135).bind fun x137 =>
                                if x137 = (1 : Int32) then
                                  (gR 12 h y0 23).bind fun r147 =>
                                  (gI 12 h y0 21).bind fun x148 =>
                                  (r147).bind fun a149 =>
                                  (rI 1 h a149 x148).bind fun x150 =>
                                  if (0 : Int32) < x150 then
                                    (gR 12 h y0 22).bind fun r151 =>
                                    (gI 12 h y0 21).bind fun x152 =>
                                    (r151).bind fun a153 =>
                                    (rI 1 h a153 x152).bind fun x154 =>
                                    (cv 12 h y0 (f_M_close h y0 x154)).bind fun h155 =>
                                    some (z1, z2, z4, h155)
                                  else
                                    if x11 = (125 : Int32) then
                                      if z1 = (0 : Int32) then
                                        some (z1, z2, (0 : Int32), h)
                                      else
                                        (gR 12 h y0 22).bind fun r156 =>
                                        (gI 12 h y0 21).bind fun x157 =>
                                        (r156).bind fun a158 =>
                                        (rI 1 h a158 x157).bind fun x159 =>
                                        if x159 = (2 : Int32) then
                                          (gR 12 h y0 22).bind fun r160 =>
                                          (gI 12 h y0 21).bind fun x161 =>
                                          (r160).bind fun a162 =>
                                          (rI 1 h a162 x161).bind fun x163 =>
                                          (cv 12 h y0 (f_M_close h y0 x163)).bind fun h164 =>
                                          some (z1, z2, z4, h164)
                                        else
                                          some (z1, z2, (0 : Int32), h)
                                    else
                                      some (z1, z2, (0 : Int32), h)
                                else
                                  if x11 = (125 : Int32) then
                                    if z1 = (0 : Int32) then
                                      some (z1, z2, (0 : Int32), h)
                                    else
                                      (gR 12 h y0 22).bind fun r138 =>
                                      (gI 12 h y0 21).bind fun x139 =>
                                      (r138).bind fun a140 =>
                                      (rI 1 h a140 x139).bind fun x141 =>
                                      if x141 = (2 : Int32) then
                                        (gR 12 h y0 22).bind fun r142 =>
                                        (gI 12 h y0 21).bind fun x143 =>
                                        (r142).bind fun a144 =>
                                        (rI 1 h a144 x143).bind fun x145 =>
                                        (cv 12 h y0 (f_M_close h y0 x145)).bind fun h146 =>
                                        some (z1, z2, z4, h146)
                                      else
                                        some (z1, z2, (0 : Int32), h)
                                  else
                                    some (z1, z2, (0 : Int32), h)
                            else
                              if x11 = (125 : Int32) then
                                if z1 = (0 : Int32) then
                                  some (z1, z2, (0 : Int32), h)
                                else
                                  (gR 12 h y0 22).bind fun r116 =>
                                  (gI 12 h y0 21).bind fun x117 =>
                                  (r116).bind fun a118 =>
                                  (rI 1 h a118 x117).bind fun x119 =>
                                  if x119 = (2 : Int32) then
                                    (gR 12 h y0 22).bind fun r120 =>
                                    (gI 12 h y0 21).bind fun x121 =>
                                    (r120).bind fun a122 =>
                                    (rI 1 h a122 x121).bind fun x123 =>
                                    (cv 12 h y0 (f_M_close h y0 x123)).bind fun h124 =>
                                    some (z1, z2, z4, h124)
                                  else
                                    some (z1, z2, (0 : Int32), h)
                              else
                                some (z1, z2, (0 : Int32), h)
                      else
                        if x11 = (41 : Int32) then
                          if z1 = (0 : Int32) then
                            if x11 = (125 : Int32) then
                              if z1 = (0 : Int32) then
                                some (z1, z2, (0 : Int32), h)
                              else
                                (gR 12 h y0 22).bind fun r23 =>
                                (gI 12 h y0 21).bind fun x24 =>
                                (r23).bind fun a25 =>
                                (rI 1 h a25 x24).bind fun x26 =>
                                if x26 = (2 : Int32) then
                                  (gR 12 h y0 22).bind fun r27 =>
                                  (gI 12 h y0 21).bind fun x28 =>
                                  (r27).bind fun a29 =>
                                  (rI 1 h a29 x28).bind fun x30 =>
                                  (cv 12 h y0 (f_M_close h y0 x30)).bind fun h31 =>
                                  some (z1, z2, z4, h31)
                                else
                                  some (z1, z2, (0 : Int32), h)
                            else
                              some (z1, z2, (0 : Int32), h)
                          else
                            (gR 12 h y0 22).bind fun r32 =>
                            (gI 12 h y0 21).bind fun x33 =>
                            (r32).bind fun a34 =>
                            (rI 1 h a34 x33).bind fun x35 =>
                            if x35 = (1 : Int32) then
                              (gR 12 h y0 23).bind fun r45 =>
                              (gI 12 h y0 21).bind fun x46 =>
                              (r45).bind fun a47 =>
                              (rI 1 h a47 x46).bind fun x48 =>
                              if (0 : Int32) < x48 then
                                (gR 12 h y0 22).bind fun r49 =>
                                (gI 12 h y0 21).bind fun x50 =>
                                (r49).bind fun a51 =>
                                (rI 1 h a51 x50).bind fun x52 =>
                                (cv 12 h y0 (f_M_close h y0 x52)).bind fun h53 =>
                                some (z1, z2, z4, h53)
                              else
                                if x11 = (125 : Int32) then
                                  if z1 = (0 : Int32) then
                                    some (z1, z2, (0 : Int32), h)
                                  else
                                    (gR 12 h y0 22).bind fun r54 =>
                                    (gI 12 h y0 21).bind fun x55 =>
                                    (r54).bind fun a56 =>
                                    (rI 1 h a56 x55).bind fun x57 =>
                                    if x57 = (2 : Int32) then
                                      (gR 12 h y0 22).bind fun r58 =>
                                      (gI 12 h y0 21).bind fun x59 =>
                                      (r58).bind fun a60 =>
                                      (rI 1 h a60 x59).bind fun x61 =>
                                      (cv 12 h y0 (f_M_close h y0 x61)).bind fun h62 =>
                                      some (z1, z2, z4, h62)
                                    else
                                      some (z1, z2, (0 : Int32), h)
                                else
                                  some (z1, z2, (0 : Int32), h)
                            else
                              if x11 = (125 : Int32) then
                                if z1 = (0 : Int32) then
                                  some (z1, z2, (0 : Int32), h)
                                else
                                  (gR 12 h y0 22).bind fun r36 =>
                                  (gI 12 h y0 21).bind fun x37 =>
                                  (r36).bind fun a38 =>
                                  (rI 1 h a38 x37).bind fun x39 =>
                                  if x39 = (2 : Int32) then
                                    (gR 12 h y0 22).bind fun r40 =>
                                    (gI 12 h y0 21).bind fun x41 =>
                                    (r40).bind fun a42 =>
                                    (rI 1 h a42 x41).bind fun x43 =>
                                    (cv 12 h y0 (f_M_close h y0 x43)).bind fun h44 =>
                                    some (z1, z2, z4, h44)
                                  else
                                    some (z1, z2, (0 : Int32), h)
                              else
                                some (z1, z2, (0 : Int32), h)
                        else
                          if x11 = (125 : Int32) then
                            if z1 = (0 : Int32) then
                              some (z1, z2, (0 : Int32), h)
                            else
                              (gR 12 h y0 22).bind fun r14 =>
                              (gI 12 h y0 21).bind fun x15 =>
                              (r14).bind fun a16 =>
                              (rI 1 h a16 x15).bind fun x17 =>
                              if x17 = (2 : Int32) then
                                (gR 12 h y0 22).bind fun r18 =>
                                (gI 12 h y0 21).bind fun x19 =>
                                (r18).bind fun a20 =>
                                (rI 1 h a20 x19).bind fun x21 =>
                                (cv 12 h y0 (f_M_close h y0 x21)).bind fun h22 =>
                                some (z1, z2, z4, h22)
                              else
                                some (z1, z2, (0 : Int32), h)
                          else
                            some (z1, z2, (0 : Int32), h)
          else
            (f_M_in h x11 (97 : Int32) (104 : Int32)).bind fun x175 =>
            if x175 = (0 : Int32) then
              some (z1, z2, x175, h)
            else
              (gR 12 h y0 31).bind fun r176 =>
              (gI 12 h y0 30).bind fun x177 =>
              (r176).bind fun a178 =>
              (wI h a178 x177 (((2 : Int32) * (x11 - (97 : Int32))) + z2)).bind fun h179 =>
              (gI 12 h179 y0 30).bind fun x180 =>
              (pI 12 h179 y0 30 (x180 + (1 : Int32))).bind fun h181 =>
              (gI 12 h181 y0 30).bind fun x182 =>
              (gI 12 h181 y0 30).bind fun x183 =>
              (cv 12 h181 y0 (f_M_append h181 y0 (0 : Int32) (xlshl (1 : Int64) (x182 - (1 : Int32))) (xlshl (1 : Int64) (x183 - (1 : Int32))))).bind fun h184 =>
              some ((1 : Int32), (-1 : Int32), x175, h184)
        ) fun x185 x186 x187 h188 =>
        (
          if x187 = (0 : Int32) then
            some ((0 : Int32))
          else
            some ((1 : Int32))
        ).bind fun x189 =>
        (some ((z3 + x189))).bind fun x190 =>
        f_M_readPage_L45 y0 k n x185 x186 x190 x187 h188
    else
      k z1 z2 z3 h
def f_M_readPage (h0 : AH) (o : Nat) : Option (AH) :=
  (pI 12 h0 o 21 (-1 : Int32)).bind fun h1 =>
  (pI 12 h1 o 30 (0 : Int32)).bind fun h2 =>
  (cv 12 h2 o (f_M_open h2 o (0 : Int32))).bind fun h3 =>
  f_M_readPage_L17 o (fun h7 =>
    f_M_readPage_L45 o (fun x191 x192 x193 h194 =>
      (pI 12 h194 o 33 x193).bind fun h195 =>
      (gI 12 h195 o 0).bind fun x196 =>
      (
        if x193 = x196 then
          (gI 12 h195 o 21).bind fun x197 =>
          if x197 = (0 : Int32) then
            if x191 = (0 : Int32) then
              some ((0 : Int32))
            else
              if x192 = (-1 : Int32) then
                some ((1 : Int32))
              else
                some ((0 : Int32))
          else
            some ((0 : Int32))
        else
          some ((0 : Int32))
      ).bind fun x198 =>
      (pZ 12 h195 o 34 x198).bind fun h199 =>
      some h199
    ) FU (0 : Int32) (-1 : Int32) (0 : Int32) (1 : Int32) h7
  ) FU (0 : Int32) h3
def f_M_good (h0 : AH) (o : Nat) : Option (Int32 × AH) :=
  (cv 12 h0 o (f_M_readPage h0 o)).bind fun h1 =>
  (gI 12 h1 o 33).bind fun x2 =>
  some (x2, h1)
def f_M_nextSet (h0 : AH) (o : Nat) (p1 : Int32) : Option (Int64) :=
  if p1 = (0 : Int32) then
    (gR 12 h0 o 25).bind fun r4 =>
    (r4).bind fun a5 =>
    (rJ h0 a5 (0 : Int32)).bind fun x6 =>
    some (x6)
  else
    (gR 12 h0 o 32).bind fun r1 =>
    (r1).bind fun a2 =>
    (rJ h0 a2 (p1 - (1 : Int32))).bind fun x3 =>
    some (x3)
def f_M_isTwofold_L14 (h0 : AH) (y0 : Nat) (y1 : Int32) (k : Option (Int32)) : Nat → Int32 → Int32 → Option (Int32)
  | 0, _, _ => none
  | n + 1, z2, z3 =>
    (gI 12 h0 y0 30).bind fun x2 =>
    if z3 < x2 then
      (cv 12 h0 y0 (f_M_nextSet h0 y0 y1)).bind fun x3 =>
      if (lg_cmp ((xlshr x3 z3) &&& (1 : Int64)) (1 : Int64)) = (0 : Int32) then
        (gR 12 h0 y0 31).bind fun r4 =>
        (r4).bind fun a5 =>
        (rI 1 h0 a5 z3).bind fun x6 =>
        if ((z2 >>> (x6 &&& 31)) &&& (1 : Int32)) = (1 : Int32) then
          some ((1 : Int32))
        else
          (gR 12 h0 y0 31).bind fun r7 =>
          (r7).bind fun a8 =>
          (rI 1 h0 a8 z3).bind fun x9 =>
          (some ((z2 ||| ((1 : Int32) <<< (x9 &&& 31))))).bind fun x10 =>
          f_M_isTwofold_L14 h0 y0 y1 k n x10 (z3 + (1 : Int32))
      else
        f_M_isTwofold_L14 h0 y0 y1 k n z2 (z3 + (1 : Int32))
    else
      k
def f_M_isTwofold_L2 (h0 : AH) (y0 : Nat) : Nat → Int32 → Option (Int32)
  | 0, _ => none
  | n + 1, z1 =>
    (gI 12 h0 y0 30).bind fun x1 =>
    if x1 < z1 then
      some ((0 : Int32))
    else
      f_M_isTwofold_L14 h0 y0 z1 (
        f_M_isTwofold_L2 h0 y0 n (z1 + (1 : Int32))
      ) FU (0 : Int32) (0 : Int32)
def f_M_isTwofold (h0 : AH) (o : Nat) : Option (Int32) :=
  f_M_isTwofold_L2 h0 o FU (0 : Int32)
def f_M_place (h0 : AH) (p1 : Int32) (p2 : Int32) (p3 : Int32) (p4 : Int32) : Option (Int32) :=
  some ((((((400 : Int32) * p1) + ((16 : Int32) * p2)) + ((8 : Int32) * p3)) + p4))
