def f_L_law_L18 (y0 : Option Nat) (y1 : Nat) (y2 : Nat) : Nat → Int32 → AH → Option (Int32 × AH)
  | 0, _, _ => none
  | n + 1, z3, h =>
    (y0).bind fun a5 =>
    (alen 1 h a5).bind fun x6 =>
    if (x6 - (5 : Int32)) < z3 then
      some ((1 : Int32), h)
    else
      (rI 1 h a5 z3).bind fun x7 =>
      if (x7 &&& (63 : Int32)) = (0 : Int32) then
        (rI 1 h a5 (z3 + (1 : Int32))).bind fun x256 =>
        (rI 1 h a5 (z3 + (2 : Int32))).bind fun x257 =>
        bd2 (cv 0 h y1 (f_C_letters h y1 ((xlshl ((x256).toInt64) (32 : Int32)) ||| (((x257).toInt64) &&& (4294967295 : Int64))))) fun x258 h259 =>
        (rI 1 h259 a5 (z3 + (1 : Int32))).bind fun x260 =>
        (rI 1 h259 a5 (z3 + (2 : Int32))).bind fun x261 =>
        bd2 (cv 12 h259 y2 (f_M_letters h259 y2 ((xlshl ((x260).toInt64) (32 : Int32)) ||| (((x261).toInt64) &&& (4294967295 : Int64))))) fun x262 h263 =>
        if x258 = x262 then
          f_L_law_L18 y0 y1 y2 n (z3 + (5 : Int32)) h263
        else
          some ((0 : Int32), h263)
      else
      if (x7 &&& (63 : Int32)) = (1 : Int32) then
        bd2 (cv 0 h y1 (f_C_blank h y1)) fun x252 h253 =>
        bd2 (cv 12 h253 y2 (f_M_blank h253 y2)) fun x254 h255 =>
        if x252 = x254 then
          f_L_law_L18 y0 y1 y2 n (z3 + (5 : Int32)) h255
        else
          some ((0 : Int32), h255)
      else
      if (x7 &&& (63 : Int32)) = (2 : Int32) then
        bd2 (cv 0 h y1 (f_C_good h y1)) fun x248 h249 =>
        bd2 (cv 12 h249 y2 (f_M_good h249 y2)) fun x250 h251 =>
        if x248 = x250 then
          f_L_law_L18 y0 y1 y2 n (z3 + (5 : Int32)) h251
        else
          some ((0 : Int32), h251)
      else
      if (x7 &&& (63 : Int32)) = (3 : Int32) then
        bd2 (cv 0 h y1 (f_C_talk h y1)) fun x244 h245 =>
        bd2 (cv 12 h245 y2 (f_M_talk h245 y2)) fun x246 h247 =>
        if x244 = x246 then
          f_L_law_L18 y0 y1 y2 n (z3 + (5 : Int32)) h247
        else
          some ((0 : Int32), h247)
      else
      if (x7 &&& (63 : Int32)) = (4 : Int32) then
        (rI 1 h a5 (z3 + (1 : Int32))).bind fun x240 =>
        (cv 0 h y1 (f_C_steps h y1 x240)).bind fun x241 =>
        (rI 1 h a5 (z3 + (1 : Int32))).bind fun x242 =>
        (cv 12 h y2 (f_M_steps h y2 x242)).bind fun x243 =>
        if x241 = x243 then
          f_L_law_L18 y0 y1 y2 n (z3 + (5 : Int32)) h
        else
          some ((0 : Int32), h)
      else
      if (x7 &&& (63 : Int32)) = (5 : Int32) then
        (rI 1 h a5 (z3 + (1 : Int32))).bind fun x230 =>
        (rI 1 h a5 (z3 + (2 : Int32))).bind fun x231 =>
        (rI 1 h a5 (z3 + (3 : Int32))).bind fun x232 =>
        (rI 1 h a5 (z3 + (4 : Int32))).bind fun x233 =>
        (cv 0 h y1 (f_C_next h y1 x230 x231 x232 x233)).bind fun x234 =>
        (rI 1 h a5 (z3 + (1 : Int32))).bind fun x235 =>
        (rI 1 h a5 (z3 + (2 : Int32))).bind fun x236 =>
        (rI 1 h a5 (z3 + (3 : Int32))).bind fun x237 =>
        (rI 1 h a5 (z3 + (4 : Int32))).bind fun x238 =>
        (cv 12 h y2 (f_M_next h y2 x235 x236 x237 x238)).bind fun x239 =>
        if x234 = x239 then
          f_L_law_L18 y0 y1 y2 n (z3 + (5 : Int32)) h
        else
          some ((0 : Int32), h)
      else
      if (x7 &&& (63 : Int32)) = (6 : Int32) then
        (rI 1 h a5 (z3 + (1 : Int32))).bind fun x224 =>
        (rI 1 h a5 (z3 + (2 : Int32))).bind fun x225 =>
        (cv 0 h y1 (f_C_ends h y1 x224 x225)).bind fun x226 =>
        (rI 1 h a5 (z3 + (1 : Int32))).bind fun x227 =>
        (rI 1 h a5 (z3 + (2 : Int32))).bind fun x228 =>
        (cv 12 h y2 (f_M_ends h y2 x227 x228)).bind fun x229 =>
        if x226 = x229 then
          f_L_law_L18 y0 y1 y2 n (z3 + (5 : Int32)) h
        else
          some ((0 : Int32), h)
      else
      if (x7 &&& (63 : Int32)) = (7 : Int32) then
        (rI 1 h a5 (z3 + (1 : Int32))).bind fun x218 =>
        (rI 1 h a5 (z3 + (2 : Int32))).bind fun x219 =>
        (cv 0 h y1 (f_C_uses h y1 x218 x219)).bind fun x220 =>
        (rI 1 h a5 (z3 + (1 : Int32))).bind fun x221 =>
        (rI 1 h a5 (z3 + (2 : Int32))).bind fun x222 =>
        (cv 12 h y2 (f_M_uses h y2 x221 x222)).bind fun x223 =>
        if x220 = x223 then
          f_L_law_L18 y0 y1 y2 n (z3 + (5 : Int32)) h
        else
          some ((0 : Int32), h)
      else
      if (x7 &&& (63 : Int32)) = (8 : Int32) then
        (rI 1 h a5 (z3 + (1 : Int32))).bind fun x208 =>
        (rI 1 h a5 (z3 + (2 : Int32))).bind fun x209 =>
        (rI 1 h a5 (z3 + (3 : Int32))).bind fun x210 =>
        bd2 (cv 0 h y1 (f_C_join h y1 x208 x209 x210)) fun x211 h212 =>
        (rI 1 h212 a5 (z3 + (1 : Int32))).bind fun x213 =>
        (rI 1 h212 a5 (z3 + (2 : Int32))).bind fun x214 =>
        (rI 1 h212 a5 (z3 + (3 : Int32))).bind fun x215 =>
        bd2 (cv 12 h212 y2 (f_M_join h212 y2 x213 x214 x215)) fun x216 h217 =>
        if x211 = x216 then
          f_L_law_L18 y0 y1 y2 n (z3 + (5 : Int32)) h217
        else
          some ((0 : Int32), h217)
      else
      if (x7 &&& (63 : Int32)) = (9 : Int32) then
        (cv 0 h y1 (f_C_walked h y1)).bind fun x206 =>
        (cv 12 h y2 (f_M_walked h y2)).bind fun x207 =>
        if x206 = x207 then
          f_L_law_L18 y0 y1 y2 n (z3 + (5 : Int32)) h
        else
          some ((0 : Int32), h)
      else
      if (x7 &&& (63 : Int32)) = (10 : Int32) then
        (rI 1 h a5 (z3 + (1 : Int32))).bind fun x202 =>
        (cv 0 h y1 (f_C_trace h y1 x202)).bind fun x203 =>
        (rI 1 h a5 (z3 + (1 : Int32))).bind fun x204 =>
        (cv 12 h y2 (f_M_trace h y2 x204)).bind fun x205 =>
        if x203 = x205 then
          f_L_law_L18 y0 y1 y2 n (z3 + (5 : Int32)) h
        else
          some ((0 : Int32), h)
      else
      if (x7 &&& (63 : Int32)) = (11 : Int32) then
        (rI 1 h a5 (z3 + (1 : Int32))).bind fun x194 =>
        (rI 1 h a5 (z3 + (2 : Int32))).bind fun x195 =>
        bd2 (cv 0 h y1 (f_C_fit h y1 x194 x195)) fun x196 h197 =>
        (rI 1 h197 a5 (z3 + (1 : Int32))).bind fun x198 =>
        (rI 1 h197 a5 (z3 + (2 : Int32))).bind fun x199 =>
        bd2 (cv 12 h197 y2 (f_M_fit h197 y2 x198 x199)) fun x200 h201 =>
        if x196 = x200 then
          f_L_law_L18 y0 y1 y2 n (z3 + (5 : Int32)) h201
        else
          some ((0 : Int32), h201)
      else
      if (x7 &&& (63 : Int32)) = (12 : Int32) then
        (rI 1 h a5 (z3 + (1 : Int32))).bind fun x184 =>
        (rI 1 h a5 (z3 + (2 : Int32))).bind fun x185 =>
        (rI 1 h a5 (z3 + (3 : Int32))).bind fun x186 =>
        bd2 (cv 0 h y1 (f_C_swap h y1 x184 x185 x186)) fun x187 h188 =>
        (rI 1 h188 a5 (z3 + (1 : Int32))).bind fun x189 =>
        (rI 1 h188 a5 (z3 + (2 : Int32))).bind fun x190 =>
        (rI 1 h188 a5 (z3 + (3 : Int32))).bind fun x191 =>
        bd2 (cv 12 h188 y2 (f_M_swap h188 y2 x189 x190 x191)) fun x192 h193 =>
        if x187 = x192 then
          f_L_law_L18 y0 y1 y2 n (z3 + (5 : Int32)) h193
        else
          some ((0 : Int32), h193)
      else
      if (x7 &&& (63 : Int32)) = (13 : Int32) then
        (rI 1 h a5 (z3 + (1 : Int32))).bind fun x176 =>
        (rI 1 h a5 (z3 + (2 : Int32))).bind fun x177 =>
        bd2 (cv 0 h y1 (f_C_adapters h y1 x176 x177)) fun x178 h179 =>
        (rI 1 h179 a5 (z3 + (1 : Int32))).bind fun x180 =>
        (rI 1 h179 a5 (z3 + (2 : Int32))).bind fun x181 =>
        bd2 (cv 12 h179 y2 (f_M_adapters h179 y2 x180 x181)) fun x182 h183 =>
        if x178 = x182 then
          f_L_law_L18 y0 y1 y2 n (z3 + (5 : Int32)) h183
        else
          some ((0 : Int32), h183)
      else
      if (x7 &&& (63 : Int32)) = (14 : Int32) then
        (rI 1 h a5 (z3 + (1 : Int32))).bind fun x164 =>
        (rI 1 h a5 (z3 + (2 : Int32))).bind fun x165 =>
        (rI 1 h a5 (z3 + (3 : Int32))).bind fun x166 =>
        (rI 1 h a5 (z3 + (4 : Int32))).bind fun x167 =>
        bd2 (cv 0 h y1 (f_C_adapter h y1 x164 x165 x166 x167)) fun x168 h169 =>
        (rI 1 h169 a5 (z3 + (1 : Int32))).bind fun x170 =>
        (rI 1 h169 a5 (z3 + (2 : Int32))).bind fun x171 =>
        (rI 1 h169 a5 (z3 + (3 : Int32))).bind fun x172 =>
        (rI 1 h169 a5 (z3 + (4 : Int32))).bind fun x173 =>
        bd2 (cv 12 h169 y2 (f_M_adapter h169 y2 x170 x171 x172 x173)) fun x174 h175 =>
        if x168 = x174 then
          f_L_law_L18 y0 y1 y2 n (z3 + (5 : Int32)) h175
        else
          some ((0 : Int32), h175)
      else
      if (x7 &&& (63 : Int32)) = (15 : Int32) then
        (rI 1 h a5 (z3 + (1 : Int32))).bind fun x154 =>
        (rI 1 h a5 (z3 + (2 : Int32))).bind fun x155 =>
        (rI 1 h a5 (z3 + (3 : Int32))).bind fun x156 =>
        bd2 (cv 0 h y1 (f_C_helper h y1 x154 x155 x156)) fun x157 h158 =>
        (rI 1 h158 a5 (z3 + (1 : Int32))).bind fun x159 =>
        (rI 1 h158 a5 (z3 + (2 : Int32))).bind fun x160 =>
        (rI 1 h158 a5 (z3 + (3 : Int32))).bind fun x161 =>
        bd2 (cv 12 h158 y2 (f_M_helper h158 y2 x159 x160 x161)) fun x162 h163 =>
        if x157 = x162 then
          f_L_law_L18 y0 y1 y2 n (z3 + (5 : Int32)) h163
        else
          some ((0 : Int32), h163)
      else
      if (x7 &&& (63 : Int32)) = (16 : Int32) then
        (rI 1 h a5 (z3 + (1 : Int32))).bind fun x144 =>
        (rI 1 h a5 (z3 + (2 : Int32))).bind fun x145 =>
        (rI 1 h a5 (z3 + (3 : Int32))).bind fun x146 =>
        bd2 (cv 0 h y1 (f_C_set h y1 x144 x145 x146)) fun x147 h148 =>
        (rI 1 h148 a5 (z3 + (1 : Int32))).bind fun x149 =>
        (rI 1 h148 a5 (z3 + (2 : Int32))).bind fun x150 =>
        (rI 1 h148 a5 (z3 + (3 : Int32))).bind fun x151 =>
        bd2 (cv 12 h148 y2 (f_M_set h148 y2 x149 x150 x151)) fun x152 h153 =>
        if x147 = x152 then
          f_L_law_L18 y0 y1 y2 n (z3 + (5 : Int32)) h153
        else
          some ((0 : Int32), h153)
      else
      if (x7 &&& (63 : Int32)) = (17 : Int32) then
        (rI 1 h a5 (z3 + (1 : Int32))).bind fun x136 =>
        (rI 1 h a5 (z3 + (2 : Int32))).bind fun x137 =>
        bd2 (cv 0 h y1 (f_C_level h y1 x136 x137)) fun x138 h139 =>
        (rI 1 h139 a5 (z3 + (1 : Int32))).bind fun x140 =>
        (rI 1 h139 a5 (z3 + (2 : Int32))).bind fun x141 =>
        bd2 (cv 12 h139 y2 (f_M_level h139 y2 x140 x141)) fun x142 h143 =>
        if x138 = x142 then
          f_L_law_L18 y0 y1 y2 n (z3 + (5 : Int32)) h143
        else
          some ((0 : Int32), h143)
      else
      if (x7 &&& (63 : Int32)) = (18 : Int32) then
        (rI 1 h a5 (z3 + (1 : Int32))).bind fun x130 =>
        (rI 1 h a5 (z3 + (2 : Int32))).bind fun x131 =>
        (cv 0 h y1 (f_C_about h y1 x130 x131)).bind fun x132 =>
        (rI 1 h a5 (z3 + (1 : Int32))).bind fun x133 =>
        (rI 1 h a5 (z3 + (2 : Int32))).bind fun x134 =>
        (cv 12 h y2 (f_M_about h y2 x133 x134)).bind fun x135 =>
        if x132 = x135 then
          f_L_law_L18 y0 y1 y2 n (z3 + (5 : Int32)) h
        else
          some ((0 : Int32), h)
      else
      if (x7 &&& (63 : Int32)) = (19 : Int32) then
        (rI 1 h a5 (z3 + (1 : Int32))).bind fun x124 =>
        bd2 (cv 0 h y1 (f_C_put h y1 x124)) fun x125 h126 =>
        (rI 1 h126 a5 (z3 + (1 : Int32))).bind fun x127 =>
        bd2 (cv 12 h126 y2 (f_M_put h126 y2 x127)) fun x128 h129 =>
        if x125 = x128 then
          f_L_law_L18 y0 y1 y2 n (z3 + (5 : Int32)) h129
        else
          some ((0 : Int32), h129)
      else
      if (x7 &&& (63 : Int32)) = (20 : Int32) then
        bd2 (cv 0 h y1 (f_C_empty h y1)) fun x120 h121 =>
        bd2 (cv 12 h121 y2 (f_M_empty h121 y2)) fun x122 h123 =>
        if x120 = x122 then
          f_L_law_L18 y0 y1 y2 n (z3 + (5 : Int32)) h123
        else
          some ((0 : Int32), h123)
      else
      if (x7 &&& (63 : Int32)) = (21 : Int32) then
        (rI 1 h a5 (z3 + (1 : Int32))).bind fun x116 =>
        (cv 0 h y1 (f_C_at h y1 x116)).bind fun x117 =>
        (rI 1 h a5 (z3 + (1 : Int32))).bind fun x118 =>
        (cv 12 h y2 (f_M_at h y2 x118)).bind fun x119 =>
        if x117 = x119 then
          f_L_law_L18 y0 y1 y2 n (z3 + (5 : Int32)) h
        else
          some ((0 : Int32), h)
      else
      if (x7 &&& (63 : Int32)) = (22 : Int32) then
        (rI 1 h a5 (z3 + (1 : Int32))).bind fun x110 =>
        bd2 (cv 0 h y1 (f_C_stops h y1 x110)) fun x111 h112 =>
        (rI 1 h112 a5 (z3 + (1 : Int32))).bind fun x113 =>
        bd2 (cv 12 h112 y2 (f_M_stops h112 y2 x113)) fun x114 h115 =>
        if x111 = x114 then
          f_L_law_L18 y0 y1 y2 n (z3 + (5 : Int32)) h115
        else
          some ((0 : Int32), h115)
      else
      if (x7 &&& (63 : Int32)) = (23 : Int32) then
        (rI 1 h a5 (z3 + (1 : Int32))).bind fun x104 =>
        bd2 (cv 0 h y1 (f_C_after h y1 x104)) fun x105 h106 =>
        (rI 1 h106 a5 (z3 + (1 : Int32))).bind fun x107 =>
        bd2 (cv 12 h106 y2 (f_M_after h106 y2 x107)) fun x108 h109 =>
        if x105 = x108 then
          f_L_law_L18 y0 y1 y2 n (z3 + (5 : Int32)) h109
        else
          some ((0 : Int32), h109)
      else
      if (x7 &&& (63 : Int32)) = (24 : Int32) then
        (rI 1 h a5 (z3 + (1 : Int32))).bind fun x96 =>
        (rI 1 h a5 (z3 + (2 : Int32))).bind fun x97 =>
        bd2 (cv 0 h y1 (f_C_taint h y1 x96 x97)) fun x98 h99 =>
        (rI 1 h99 a5 (z3 + (1 : Int32))).bind fun x100 =>
        (rI 1 h99 a5 (z3 + (2 : Int32))).bind fun x101 =>
        bd2 (cv 12 h99 y2 (f_M_taint h99 y2 x100 x101)) fun x102 h103 =>
        if x98 = x102 then
          f_L_law_L18 y0 y1 y2 n (z3 + (5 : Int32)) h103
        else
          some ((0 : Int32), h103)
      else
      if (x7 &&& (63 : Int32)) = (25 : Int32) then
        (cv 0 h y1 (f_C_costs h y1)).bind fun x94 =>
        (cv 12 h y2 (f_M_costs h y2)).bind fun x95 =>
        if x94 = x95 then
          f_L_law_L18 y0 y1 y2 n (z3 + (5 : Int32)) h
        else
          some ((0 : Int32), h)
      else
      if (x7 &&& (63 : Int32)) = (26 : Int32) then
        (rI 1 h a5 (z3 + (1 : Int32))).bind fun x84 =>
        (rI 1 h a5 (z3 + (2 : Int32))).bind fun x85 =>
        (rI 1 h a5 (z3 + (3 : Int32))).bind fun x86 =>
        bd2 (cv 0 h y1 (f_C_plan h y1 x84 x85 x86)) fun x87 h88 =>
        (rI 1 h88 a5 (z3 + (1 : Int32))).bind fun x89 =>
        (rI 1 h88 a5 (z3 + (2 : Int32))).bind fun x90 =>
        (rI 1 h88 a5 (z3 + (3 : Int32))).bind fun x91 =>
        bd2 (cv 12 h88 y2 (f_M_plan h88 y2 x89 x90 x91)) fun x92 h93 =>
        if x87 = x92 then
          f_L_law_L18 y0 y1 y2 n (z3 + (5 : Int32)) h93
        else
          some ((0 : Int32), h93)
      else
      if (x7 &&& (63 : Int32)) = (27 : Int32) then
        (rI 1 h a5 (z3 + (1 : Int32))).bind fun x78 =>
        (rI 1 h a5 (z3 + (2 : Int32))).bind fun x79 =>
        (cv 0 h y1 (f_C_chance h y1 x78 x79)).bind fun x80 =>
        (rI 1 h a5 (z3 + (1 : Int32))).bind fun x81 =>
        (rI 1 h a5 (z3 + (2 : Int32))).bind fun x82 =>
        (cv 12 h y2 (f_M_chance h y2 x81 x82)).bind fun x83 =>
        if (lg_cmp x80 x83) = (0 : Int32) then
          f_L_law_L18 y0 y1 y2 n (z3 + (5 : Int32)) h
        else
          some ((0 : Int32), h)
      else
      if (x7 &&& (63 : Int32)) = (28 : Int32) then
        (rI 1 h a5 (z3 + (1 : Int32))).bind fun x72 =>
        (rI 1 h a5 (z3 + (2 : Int32))).bind fun x73 =>
        (cv 0 h y1 (f_C_mean h y1 x72 x73)).bind fun x74 =>
        (rI 1 h a5 (z3 + (1 : Int32))).bind fun x75 =>
        (rI 1 h a5 (z3 + (2 : Int32))).bind fun x76 =>
        (cv 12 h y2 (f_M_mean h y2 x75 x76)).bind fun x77 =>
        if (lg_cmp x74 x77) = (0 : Int32) then
          f_L_law_L18 y0 y1 y2 n (z3 + (5 : Int32)) h
        else
          some ((0 : Int32), h)
      else
      if (x7 &&& (63 : Int32)) = (29 : Int32) then
        (rI 1 h a5 (z3 + (1 : Int32))).bind fun x66 =>
        bd2 (cv 0 h y1 (f_C_undone h y1 x66)) fun x67 h68 =>
        (rI 1 h68 a5 (z3 + (1 : Int32))).bind fun x69 =>
        bd2 (cv 12 h68 y2 (f_M_undone h68 y2 x69)) fun x70 h71 =>
        if x67 = x70 then
          f_L_law_L18 y0 y1 y2 n (z3 + (5 : Int32)) h71
        else
          some ((0 : Int32), h71)
      else
      if (x7 &&& (63 : Int32)) = (30 : Int32) then
        (rI 1 h a5 (z3 + (1 : Int32))).bind fun x60 =>
        bd2 (cv 0 h y1 (f_C_begin h y1 x60)) fun x61 h62 =>
        (rI 1 h62 a5 (z3 + (1 : Int32))).bind fun x63 =>
        bd2 (cv 12 h62 y2 (f_M_begin h62 y2 x63)) fun x64 h65 =>
        if x61 = x64 then
          f_L_law_L18 y0 y1 y2 n (z3 + (5 : Int32)) h65
        else
          some ((0 : Int32), h65)
      else
      if (x7 &&& (63 : Int32)) = (31 : Int32) then
        (rI 1 h a5 (z3 + (1 : Int32))).bind fun x52 =>
        (rI 1 h a5 (z3 + (2 : Int32))).bind fun x53 =>
        bd2 (cv 0 h y1 (f_C_call h y1 x52 x53)) fun x54 h55 =>
        (rI 1 h55 a5 (z3 + (1 : Int32))).bind fun x56 =>
        (rI 1 h55 a5 (z3 + (2 : Int32))).bind fun x57 =>
        bd2 (cv 12 h55 y2 (f_M_call h55 y2 x56 x57)) fun x58 h59 =>
        if x54 = x58 then
          f_L_law_L18 y0 y1 y2 n (z3 + (5 : Int32)) h59
        else
          some ((0 : Int32), h59)
      else
      if (x7 &&& (63 : Int32)) = (32 : Int32) then
        (rI 1 h a5 (z3 + (1 : Int32))).bind fun x42 =>
        (rI 1 h a5 (z3 + (2 : Int32))).bind fun x43 =>
        (
          if x43 = (0 : Int32) then
            some ((0 : Int32))
          else
            some ((1 : Int32))
        ).bind fun x44 =>
        bd2 (cv 0 h y1 (f_C_see h y1 x42 x44)) fun x45 h46 =>
        (rI 1 h46 a5 (z3 + (1 : Int32))).bind fun x47 =>
        (rI 1 h46 a5 (z3 + (2 : Int32))).bind fun x48 =>
        (
          if x48 = (0 : Int32) then
            some ((0 : Int32))
          else
            some ((1 : Int32))
        ).bind fun x49 =>
        bd2 (cv 12 h46 y2 (f_M_see h46 y2 x47 x49)) fun x50 h51 =>
        if x45 = x50 then
          f_L_law_L18 y0 y1 y2 n (z3 + (5 : Int32)) h51
        else
          some ((0 : Int32), h51)
      else
      if (x7 &&& (63 : Int32)) = (33 : Int32) then
        bd2 (cv 0 h y1 (f_C_strike h y1)) fun x38 h39 =>
        bd2 (cv 12 h39 y2 (f_M_strike h39 y2)) fun x40 h41 =>
        if x38 = x40 then
          f_L_law_L18 y0 y1 y2 n (z3 + (5 : Int32)) h41
        else
          some ((0 : Int32), h41)
      else
      if (x7 &&& (63 : Int32)) = (34 : Int32) then
        (rI 1 h a5 (z3 + (1 : Int32))).bind fun x33 =>
        (cv 0 h y1 (f_C_worlds h y1 x33)).bind fun x34 =>
        (rI 1 h a5 (z3 + (1 : Int32))).bind fun x35 =>
        bd2 (cv 12 h y2 (f_M_worlds h y2 x35)) fun x36 h37 =>
        if x34 = x36 then
          f_L_law_L18 y0 y1 y2 n (z3 + (5 : Int32)) h37
        else
          some ((0 : Int32), h37)
      else
      if (x7 &&& (63 : Int32)) = (35 : Int32) then
        (rI 1 h a5 (z3 + (1 : Int32))).bind fun x28 =>
        (cv 0 h y1 (f_C_held h y1 x28)).bind fun x29 =>
        (rI 1 h a5 (z3 + (1 : Int32))).bind fun x30 =>
        bd2 (cv 12 h y2 (f_M_held h y2 x30)) fun x31 h32 =>
        if x29 = x31 then
          f_L_law_L18 y0 y1 y2 n (z3 + (5 : Int32)) h32
        else
          some ((0 : Int32), h32)
      else
      if (x7 &&& (63 : Int32)) = (36 : Int32) then
        (rI 1 h a5 (z3 + (1 : Int32))).bind fun x23 =>
        (cv 0 h y1 (f_C_world h y1 x23)).bind fun x24 =>
        (rI 1 h a5 (z3 + (1 : Int32))).bind fun x25 =>
        bd2 (cv 12 h y2 (f_M_world h y2 x25)) fun x26 h27 =>
        if x24 = x26 then
          f_L_law_L18 y0 y1 y2 n (z3 + (5 : Int32)) h27
        else
          some ((0 : Int32), h27)
      else
      if (x7 &&& (63 : Int32)) = (37 : Int32) then
        (cv 0 h y1 (f_C_broken h y1)).bind fun x20 =>
        bd2 (cv 12 h y2 (f_M_broken h y2)) fun x21 h22 =>
        if x20 = x21 then
          f_L_law_L18 y0 y1 y2 n (z3 + (5 : Int32)) h22
        else
          some ((0 : Int32), h22)
      else
      if (x7 &&& (63 : Int32)) = (38 : Int32) then
        (rI 1 h a5 (z3 + (1 : Int32))).bind fun x15 =>
        (cv 0 h y1 (f_C_again h y1 x15)).bind fun x16 =>
        (rI 1 h a5 (z3 + (1 : Int32))).bind fun x17 =>
        bd2 (cv 12 h y2 (f_M_again h y2 x17)) fun x18 h19 =>
        if x16 = x18 then
          f_L_law_L18 y0 y1 y2 n (z3 + (5 : Int32)) h19
        else
          some ((0 : Int32), h19)
      else
      if (x7 &&& (63 : Int32)) = (39 : Int32) then
        (rI 1 h a5 (z3 + (1 : Int32))).bind fun x11 =>
        (cv 0 h y1 (f_C_count h y1 x11)).bind fun x12 =>
        (rI 1 h a5 (z3 + (1 : Int32))).bind fun x13 =>
        (cv 12 h y2 (f_M_count h y2 x13)).bind fun x14 =>
        if x12 = x14 then
          f_L_law_L18 y0 y1 y2 n (z3 + (5 : Int32)) h
        else
          some ((0 : Int32), h)
      else
      if (x7 &&& (63 : Int32)) = (40 : Int32) then
        (cv 0 h y1 (f_C_digest h y1)).bind fun x8 =>
        bd2 (cv 12 h y2 (f_M_digest h y2)) fun x9 h10 =>
        if (lg_cmp x8 x9) = (0 : Int32) then
          f_L_law_L18 y0 y1 y2 n (z3 + (5 : Int32)) h10
        else
          some ((0 : Int32), h10)
      else
      f_L_law_L18 y0 y1 y2 n (z3 + (5 : Int32)) h
def f_L_law (h0 : AH) (p1 : Option Nat) : Option (Int32 × AH) :=
  (f_C_init (nO 0 h0) (hM h0)).bind fun h2 =>
  (f_M_init (nO 12 h2) (hM h2)).bind fun h4 =>
  f_L_law_L18 p1 (hM h0) (hM h2) FU (0 : Int32) h4
