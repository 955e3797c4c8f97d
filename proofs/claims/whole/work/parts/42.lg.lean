theorem w_L_law_L18 {l : Launch} {E : EN} {R : Room} {B : (Nat × Nat) × (Nat × Nat)} {Qf : QF} {r : Int32} {hF : AH} (hR1 : 17 ≤ R.frames) (hR2 : 1088 ≤ R.locals) (Hr : (r = 0 ∨ r = 1) → ∀ (pc : Nat) (L : List (Option Value)), decode mi_L_law.2.1 pc = .ok (.ireturn, 1) → AW l E mi_L_law R B Qf pc L [.int r] hF) {y0 : Option Nat} {y1 : Nat} {y2 : Nat} : ∀ (n : Nat) (z3 : Int32) (h : AH), f_L_law_L18 y0 y1 y2 n z3 h = some (r, hF) → AW l E mi_L_law R B Qf 18 [some (va_rf y0), some (va_rf (some y1)), some (va_rf (some y2)), some (.int z3)] [] h := by
  intro n
  induction n with
  | zero => intro z3 h hf; cases hf
  | succ n ih =>
    intro z3 h hf
    rw [f_L_law_L18] at hf
    refine ax_iload_n (i := 3) dL_law_18 rfl rfl ?_
    refine ax_aload_n (i := 0) y0 dL_law_19 rfl rfl ?_
    replace hf := bd1_s hf
    obtain ⟨a5, e_d, hf⟩ := hf
    subst e_d
    replace hf := bd1_s hf
    obtain ⟨x6, e_x6, hf⟩ := hf
    refine ax_alen (d := 1) (by decide) rfl dL_law_20 e_x6 ?_
    refine ax_iconst (5 : Int32) dL_law_21 k32_5 ?_
    refine ax_isub dL_law_22 ?_
    replace hf := ite_c hf
    rcases hf with ⟨hc, hf⟩ | ⟨hc, hf⟩
    · refine ax_icmp_gtT 1390 dL_law_23 (by decide) hc ?_
      refine ax_iconst (1 : Int32) dL_law_1390 k32_1 ?_
      cases hf
      exact Hr (Or.inr rfl) _ _ dL_law_1391
    · refine ax_icmp_gtF 1390 dL_law_23 (by decide) hc ?_
      refine ax_aload_n (i := 0) (some a5) dL_law_26 rfl rfl ?_
      refine ax_iload_n (i := 3) dL_law_27 rfl rfl ?_
      replace hf := bd1_s hf
      obtain ⟨x7, e_x7, hf⟩ := hf
      refine ax_iald dL_law_28 e_x7 ?_
      refine ax_bipush (63 : Int32) dL_law_29 k8_63 ?_
      refine ax_iand dL_law_31 ?_
      replace hf := ite_c hf
      rcases hf with ⟨hc, hf⟩ | ⟨hn0, hf⟩
      · refine ax_tsIn 212 dL_law_32 0 (by rw [hc]; decide) (by decide) rfl (by decide) ?_
        refine ax_aload_n (i := 1) (some y1) dL_law_212 rfl rfl ?_
        refine ax_aload_n (i := 0) (some a5) dL_law_213 rfl rfl ?_
        refine ax_iload_n (i := 3) dL_law_214 rfl rfl ?_
        refine ax_iconst (1 : Int32) dL_law_215 k32_1 ?_
        refine ax_iadd dL_law_216 ?_
        replace hf := bd1_s hf
        obtain ⟨x256, e_x256, hf⟩ := hf
        refine ax_iald dL_law_217 e_x256 ?_
        refine ax_i2l dL_law_218 ?_
        refine ax_bipush (32 : Int32) dL_law_219 k8_32 ?_
        refine ax_lshl dL_law_221 ?_
        refine ax_aload_n (i := 0) (some a5) dL_law_222 rfl rfl ?_
        refine ax_iload_n (i := 3) dL_law_223 rfl rfl ?_
        refine ax_iconst (2 : Int32) dL_law_224 k32_2 ?_
        refine ax_iadd dL_law_225 ?_
        replace hf := bd1_s hf
        obtain ⟨x257, e_x257, hf⟩ := hf
        refine ax_iald dL_law_226 e_x257 ?_
        refine ax_i2l dL_law_227 ?_
        refine ax_ldc2 w_1583 dL_law_228 ?_
        refine ax_land dL_law_231 ?_
        refine ax_lor dL_law_232 ?_
        replace hf := bd2_s hf
        obtain ⟨x258, h259, e_x258, hf⟩ := hf
        obtain ⟨k_e_x258, e_x258⟩ := cv_s e_x258
        refine ax_callV (As := [.long ((xlshl ((x256).toInt64) (32 : Int32)) ||| (((x257).toInt64) &&& (4294967295 : Int64)))]) (rest := []) (c_C_letters e_x258) ml_355 cm_C_letters rfl k_e_x258 (Nat.le_trans (Nat.le_of_ble_eq_true rfl) hR1) (Nat.le_trans (Nat.le_of_ble_eq_true rfl) hR2) rfl rfl (Nat.le_of_ble_eq_true rfl) dL_law_233 ?_
        refine ax_aload_n (i := 2) (some y2) dL_law_236 rfl rfl ?_
        refine ax_aload_n (i := 0) (some a5) dL_law_237 rfl rfl ?_
        refine ax_iload_n (i := 3) dL_law_238 rfl rfl ?_
        refine ax_iconst (1 : Int32) dL_law_239 k32_1 ?_
        refine ax_iadd dL_law_240 ?_
        replace hf := bd1_s hf
        obtain ⟨x260, e_x260, hf⟩ := hf
        refine ax_iald dL_law_241 e_x260 ?_
        refine ax_i2l dL_law_242 ?_
        refine ax_bipush (32 : Int32) dL_law_243 k8_32 ?_
        refine ax_lshl dL_law_245 ?_
        refine ax_aload_n (i := 0) (some a5) dL_law_246 rfl rfl ?_
        refine ax_iload_n (i := 3) dL_law_247 rfl rfl ?_
        refine ax_iconst (2 : Int32) dL_law_248 k32_2 ?_
        refine ax_iadd dL_law_249 ?_
        replace hf := bd1_s hf
        obtain ⟨x261, e_x261, hf⟩ := hf
        refine ax_iald dL_law_250 e_x261 ?_
        refine ax_i2l dL_law_251 ?_
        refine ax_ldc2 w_1583 dL_law_252 ?_
        refine ax_land dL_law_255 ?_
        refine ax_lor dL_law_256 ?_
        replace hf := bd2_s hf
        obtain ⟨x262, h263, e_x262, hf⟩ := hf
        obtain ⟨k_e_x262, e_x262⟩ := cv_s e_x262
        refine ax_callV (As := [.long ((xlshl ((x260).toInt64) (32 : Int32)) ||| (((x261).toInt64) &&& (4294967295 : Int64)))]) (rest := [.int x258]) (c_M_letters e_x262) ml_1190 cm_M_letters rfl k_e_x262 (Nat.le_trans (Nat.le_of_ble_eq_true rfl) hR1) (Nat.le_trans (Nat.le_of_ble_eq_true rfl) hR2) rfl rfl (Nat.le_of_ble_eq_true rfl) dL_law_257 ?_
        replace hf := ite_c hf
        rcases hf with ⟨hc, hf⟩ | ⟨hc, hf⟩
        · refine ax_icmp_eqT 1384 dL_law_260 (by decide) hc ?_
          refine ax_iinc (i := 3) (z3 + (5 : Int32)) [some (va_rf (some a5)), some (va_rf (some y1)), some (va_rf (some y2)), some (.int (z3 + (5 : Int32)))] dL_law_1384 rfl (iic k32_5) (Or.inr (c1r rfl)) rfl ?_
          refine ax_goto 18 dL_law_1387 (by decide) ?_
          exact ih (z3 + (5 : Int32)) h263 hf
        · refine ax_icmp_eqF 1384 dL_law_260 (by decide) hc ?_
          refine ax_iconst (0 : Int32) dL_law_263 k32_0 ?_
          cases hf
          exact Hr (Or.inl rfl) _ _ dL_law_264
      replace hf := ite_c hf
      rcases hf with ⟨hc, hf⟩ | ⟨hn1, hf⟩
      · refine ax_tsIn 265 dL_law_32 1 (by rw [hc]; decide) (by decide) rfl (by decide) ?_
        refine ax_aload_n (i := 1) (some y1) dL_law_265 rfl rfl ?_
        replace hf := bd2_s hf
        obtain ⟨x252, h253, e_x252, hf⟩ := hf
        obtain ⟨k_e_x252, e_x252⟩ := cv_s e_x252
        refine ax_callV (As := []) (rest := []) (c_C_blank e_x252) ml_366 cm_C_blank rfl k_e_x252 (Nat.le_trans (Nat.le_of_ble_eq_true rfl) hR1) (Nat.le_trans (Nat.le_of_ble_eq_true rfl) hR2) rfl rfl (Nat.le_of_ble_eq_true rfl) dL_law_266 ?_
        refine ax_aload_n (i := 2) (some y2) dL_law_269 rfl rfl ?_
        replace hf := bd2_s hf
        obtain ⟨x254, h255, e_x254, hf⟩ := hf
        obtain ⟨k_e_x254, e_x254⟩ := cv_s e_x254
        refine ax_callV (As := []) (rest := [.int x252]) (c_M_blank e_x254) ml_1195 cm_M_blank rfl k_e_x254 (Nat.le_trans (Nat.le_of_ble_eq_true rfl) hR1) (Nat.le_trans (Nat.le_of_ble_eq_true rfl) hR2) rfl rfl (Nat.le_of_ble_eq_true rfl) dL_law_270 ?_
        replace hf := ite_c hf
        rcases hf with ⟨hc, hf⟩ | ⟨hc, hf⟩
        · refine ax_icmp_eqT 1384 dL_law_273 (by decide) hc ?_
          refine ax_iinc (i := 3) (z3 + (5 : Int32)) [some (va_rf (some a5)), some (va_rf (some y1)), some (va_rf (some y2)), some (.int (z3 + (5 : Int32)))] dL_law_1384 rfl (iic k32_5) (Or.inr (c1r rfl)) rfl ?_
          refine ax_goto 18 dL_law_1387 (by decide) ?_
          exact ih (z3 + (5 : Int32)) h255 hf
        · refine ax_icmp_eqF 1384 dL_law_273 (by decide) hc ?_
          refine ax_iconst (0 : Int32) dL_law_276 k32_0 ?_
          cases hf
          exact Hr (Or.inl rfl) _ _ dL_law_277
      replace hf := ite_c hf
      rcases hf with ⟨hc, hf⟩ | ⟨hn2, hf⟩
      · refine ax_tsIn 278 dL_law_32 2 (by rw [hc]; decide) (by decide) rfl (by decide) ?_
        refine ax_aload_n (i := 1) (some y1) dL_law_278 rfl rfl ?_
        replace hf := bd2_s hf
        obtain ⟨x248, h249, e_x248, hf⟩ := hf
        obtain ⟨k_e_x248, e_x248⟩ := cv_s e_x248
        refine ax_callV (As := []) (rest := []) (c_C_good e_x248) ml_370 cm_C_good rfl k_e_x248 (Nat.le_trans (Nat.le_of_ble_eq_true rfl) hR1) (Nat.le_trans (Nat.le_of_ble_eq_true rfl) hR2) rfl rfl (Nat.le_of_ble_eq_true rfl) dL_law_279 ?_
        refine ax_aload_n (i := 2) (some y2) dL_law_282 rfl rfl ?_
        replace hf := bd2_s hf
        obtain ⟨x250, h251, e_x250, hf⟩ := hf
        obtain ⟨k_e_x250, e_x250⟩ := cv_s e_x250
        refine ax_callV (As := []) (rest := [.int x248]) (c_M_good e_x250) ml_1199 cm_M_good rfl k_e_x250 (Nat.le_trans (Nat.le_of_ble_eq_true rfl) hR1) (Nat.le_trans (Nat.le_of_ble_eq_true rfl) hR2) rfl rfl (Nat.le_of_ble_eq_true rfl) dL_law_283 ?_
        replace hf := ite_c hf
        rcases hf with ⟨hc, hf⟩ | ⟨hc, hf⟩
        · refine ax_icmp_eqT 1384 dL_law_286 (by decide) hc ?_
          refine ax_iinc (i := 3) (z3 + (5 : Int32)) [some (va_rf (some a5)), some (va_rf (some y1)), some (va_rf (some y2)), some (.int (z3 + (5 : Int32)))] dL_law_1384 rfl (iic k32_5) (Or.inr (c1r rfl)) rfl ?_
          refine ax_goto 18 dL_law_1387 (by decide) ?_
          exact ih (z3 + (5 : Int32)) h251 hf
        · refine ax_icmp_eqF 1384 dL_law_286 (by decide) hc ?_
          refine ax_iconst (0 : Int32) dL_law_289 k32_0 ?_
          cases hf
          exact Hr (Or.inl rfl) _ _ dL_law_290
      replace hf := ite_c hf
      rcases hf with ⟨hc, hf⟩ | ⟨hn3, hf⟩
      · refine ax_tsIn 291 dL_law_32 3 (by rw [hc]; decide) (by decide) rfl (by decide) ?_
        refine ax_aload_n (i := 1) (some y1) dL_law_291 rfl rfl ?_
        replace hf := bd2_s hf
        obtain ⟨x244, h245, e_x244, hf⟩ := hf
        obtain ⟨k_e_x244, e_x244⟩ := cv_s e_x244
        refine ax_callV (As := []) (rest := []) (c_C_talk e_x244) ml_429 cm_C_talk rfl k_e_x244 (Nat.le_trans (Nat.le_of_ble_eq_true rfl) hR1) (Nat.le_trans (Nat.le_of_ble_eq_true rfl) hR2) rfl rfl (Nat.le_of_ble_eq_true rfl) dL_law_292 ?_
        refine ax_aload_n (i := 2) (some y2) dL_law_295 rfl rfl ?_
        replace hf := bd2_s hf
        obtain ⟨x246, h247, e_x246, hf⟩ := hf
        obtain ⟨k_e_x246, e_x246⟩ := cv_s e_x246
        refine ax_callV (As := []) (rest := [.int x244]) (c_M_talk e_x246) ml_1234 cm_M_talk rfl k_e_x246 (Nat.le_trans (Nat.le_of_ble_eq_true rfl) hR1) (Nat.le_trans (Nat.le_of_ble_eq_true rfl) hR2) rfl rfl (Nat.le_of_ble_eq_true rfl) dL_law_296 ?_
        replace hf := ite_c hf
        rcases hf with ⟨hc, hf⟩ | ⟨hc, hf⟩
        · refine ax_icmp_eqT 1384 dL_law_299 (by decide) hc ?_
          refine ax_iinc (i := 3) (z3 + (5 : Int32)) [some (va_rf (some a5)), some (va_rf (some y1)), some (va_rf (some y2)), some (.int (z3 + (5 : Int32)))] dL_law_1384 rfl (iic k32_5) (Or.inr (c1r rfl)) rfl ?_
          refine ax_goto 18 dL_law_1387 (by decide) ?_
          exact ih (z3 + (5 : Int32)) h247 hf
        · refine ax_icmp_eqF 1384 dL_law_299 (by decide) hc ?_
          refine ax_iconst (0 : Int32) dL_law_302 k32_0 ?_
          cases hf
          exact Hr (Or.inl rfl) _ _ dL_law_303
      replace hf := ite_c hf
      rcases hf with ⟨hc, hf⟩ | ⟨hn4, hf⟩
      · refine ax_tsIn 304 dL_law_32 4 (by rw [hc]; decide) (by decide) rfl (by decide) ?_
        refine ax_aload_n (i := 1) (some y1) dL_law_304 rfl rfl ?_
        refine ax_aload_n (i := 0) (some a5) dL_law_305 rfl rfl ?_
        refine ax_iload_n (i := 3) dL_law_306 rfl rfl ?_
        refine ax_iconst (1 : Int32) dL_law_307 k32_1 ?_
        refine ax_iadd dL_law_308 ?_
        replace hf := bd1_s hf
        obtain ⟨x240, e_x240, hf⟩ := hf
        refine ax_iald dL_law_309 e_x240 ?_
        replace hf := bd1_s hf
        obtain ⟨x241, e_x241, hf⟩ := hf
        obtain ⟨k_e_x241, e_x241⟩ := cv_s e_x241
        refine ax_callV (As := [.int x240]) (rest := []) (c_C_steps e_x241) ml_495 cm_C_steps rfl k_e_x241 (Nat.le_trans (Nat.le_of_ble_eq_true rfl) hR1) (Nat.le_trans (Nat.le_of_ble_eq_true rfl) hR2) rfl rfl (Nat.le_of_ble_eq_true rfl) dL_law_310 ?_
        refine ax_aload_n (i := 2) (some y2) dL_law_313 rfl rfl ?_
        refine ax_aload_n (i := 0) (some a5) dL_law_314 rfl rfl ?_
        refine ax_iload_n (i := 3) dL_law_315 rfl rfl ?_
        refine ax_iconst (1 : Int32) dL_law_316 k32_1 ?_
        refine ax_iadd dL_law_317 ?_
        replace hf := bd1_s hf
        obtain ⟨x242, e_x242, hf⟩ := hf
        refine ax_iald dL_law_318 e_x242 ?_
        replace hf := bd1_s hf
        obtain ⟨x243, e_x243, hf⟩ := hf
        obtain ⟨k_e_x243, e_x243⟩ := cv_s e_x243
        refine ax_callV (As := [.int x242]) (rest := [.int x241]) (c_M_steps e_x243) ml_1249 cm_M_steps rfl k_e_x243 (Nat.le_trans (Nat.le_of_ble_eq_true rfl) hR1) (Nat.le_trans (Nat.le_of_ble_eq_true rfl) hR2) rfl rfl (Nat.le_of_ble_eq_true rfl) dL_law_319 ?_
        replace hf := ite_c hf
        rcases hf with ⟨hc, hf⟩ | ⟨hc, hf⟩
        · refine ax_icmp_eqT 1384 dL_law_322 (by decide) hc ?_
          refine ax_iinc (i := 3) (z3 + (5 : Int32)) [some (va_rf (some a5)), some (va_rf (some y1)), some (va_rf (some y2)), some (.int (z3 + (5 : Int32)))] dL_law_1384 rfl (iic k32_5) (Or.inr (c1r rfl)) rfl ?_
          refine ax_goto 18 dL_law_1387 (by decide) ?_
          exact ih (z3 + (5 : Int32)) h hf
        · refine ax_icmp_eqF 1384 dL_law_322 (by decide) hc ?_
          refine ax_iconst (0 : Int32) dL_law_325 k32_0 ?_
          cases hf
          exact Hr (Or.inl rfl) _ _ dL_law_326
      replace hf := ite_c hf
      rcases hf with ⟨hc, hf⟩ | ⟨hn5, hf⟩
      · refine ax_tsIn 327 dL_law_32 5 (by rw [hc]; decide) (by decide) rfl (by decide) ?_
        refine ax_aload_n (i := 1) (some y1) dL_law_327 rfl rfl ?_
        refine ax_aload_n (i := 0) (some a5) dL_law_328 rfl rfl ?_
        refine ax_iload_n (i := 3) dL_law_329 rfl rfl ?_
        refine ax_iconst (1 : Int32) dL_law_330 k32_1 ?_
        refine ax_iadd dL_law_331 ?_
        replace hf := bd1_s hf
        obtain ⟨x230, e_x230, hf⟩ := hf
        refine ax_iald dL_law_332 e_x230 ?_
        refine ax_aload_n (i := 0) (some a5) dL_law_333 rfl rfl ?_
        refine ax_iload_n (i := 3) dL_law_334 rfl rfl ?_
        refine ax_iconst (2 : Int32) dL_law_335 k32_2 ?_
        refine ax_iadd dL_law_336 ?_
        replace hf := bd1_s hf
        obtain ⟨x231, e_x231, hf⟩ := hf
        refine ax_iald dL_law_337 e_x231 ?_
        refine ax_aload_n (i := 0) (some a5) dL_law_338 rfl rfl ?_
        refine ax_iload_n (i := 3) dL_law_339 rfl rfl ?_
        refine ax_iconst (3 : Int32) dL_law_340 k32_3 ?_
        refine ax_iadd dL_law_341 ?_
        replace hf := bd1_s hf
        obtain ⟨x232, e_x232, hf⟩ := hf
        refine ax_iald dL_law_342 e_x232 ?_
        refine ax_aload_n (i := 0) (some a5) dL_law_343 rfl rfl ?_
        refine ax_iload_n (i := 3) dL_law_344 rfl rfl ?_
        refine ax_iconst (4 : Int32) dL_law_345 k32_4 ?_
        refine ax_iadd dL_law_346 ?_
        replace hf := bd1_s hf
        obtain ⟨x233, e_x233, hf⟩ := hf
        refine ax_iald dL_law_347 e_x233 ?_
        replace hf := bd1_s hf
        obtain ⟨x234, e_x234, hf⟩ := hf
        obtain ⟨k_e_x234, e_x234⟩ := cv_s e_x234
        refine ax_callV (As := [.int x230, .int x231, .int x232, .int x233]) (rest := []) (c_C_next e_x234) ml_503 cm_C_next rfl k_e_x234 (Nat.le_trans (Nat.le_of_ble_eq_true rfl) hR1) (Nat.le_trans (Nat.le_of_ble_eq_true rfl) hR2) rfl rfl (Nat.le_of_ble_eq_true rfl) dL_law_348 ?_
        refine ax_aload_n (i := 2) (some y2) dL_law_351 rfl rfl ?_
        refine ax_aload_n (i := 0) (some a5) dL_law_352 rfl rfl ?_
        refine ax_iload_n (i := 3) dL_law_353 rfl rfl ?_
        refine ax_iconst (1 : Int32) dL_law_354 k32_1 ?_
        refine ax_iadd dL_law_355 ?_
        replace hf := bd1_s hf
        obtain ⟨x235, e_x235, hf⟩ := hf
        refine ax_iald dL_law_356 e_x235 ?_
        refine ax_aload_n (i := 0) (some a5) dL_law_357 rfl rfl ?_
        refine ax_iload_n (i := 3) dL_law_358 rfl rfl ?_
        refine ax_iconst (2 : Int32) dL_law_359 k32_2 ?_
        refine ax_iadd dL_law_360 ?_
        replace hf := bd1_s hf
        obtain ⟨x236, e_x236, hf⟩ := hf
        refine ax_iald dL_law_361 e_x236 ?_
        refine ax_aload_n (i := 0) (some a5) dL_law_362 rfl rfl ?_
        refine ax_iload_n (i := 3) dL_law_363 rfl rfl ?_
        refine ax_iconst (3 : Int32) dL_law_364 k32_3 ?_
        refine ax_iadd dL_law_365 ?_
        replace hf := bd1_s hf
        obtain ⟨x237, e_x237, hf⟩ := hf
        refine ax_iald dL_law_366 e_x237 ?_
        refine ax_aload_n (i := 0) (some a5) dL_law_367 rfl rfl ?_
        refine ax_iload_n (i := 3) dL_law_368 rfl rfl ?_
        refine ax_iconst (4 : Int32) dL_law_369 k32_4 ?_
        refine ax_iadd dL_law_370 ?_
        replace hf := bd1_s hf
        obtain ⟨x238, e_x238, hf⟩ := hf
        refine ax_iald dL_law_371 e_x238 ?_
        replace hf := bd1_s hf
        obtain ⟨x239, e_x239, hf⟩ := hf
        obtain ⟨k_e_x239, e_x239⟩ := cv_s e_x239
        refine ax_callV (As := [.int x235, .int x236, .int x237, .int x238]) (rest := [.int x234]) (c_M_next e_x239) ml_1257 cm_M_next rfl k_e_x239 (Nat.le_trans (Nat.le_of_ble_eq_true rfl) hR1) (Nat.le_trans (Nat.le_of_ble_eq_true rfl) hR2) rfl rfl (Nat.le_of_ble_eq_true rfl) dL_law_372 ?_
        replace hf := ite_c hf
        rcases hf with ⟨hc, hf⟩ | ⟨hc, hf⟩
        · refine ax_icmp_eqT 1384 dL_law_375 (by decide) hc ?_
          refine ax_iinc (i := 3) (z3 + (5 : Int32)) [some (va_rf (some a5)), some (va_rf (some y1)), some (va_rf (some y2)), some (.int (z3 + (5 : Int32)))] dL_law_1384 rfl (iic k32_5) (Or.inr (c1r rfl)) rfl ?_
          refine ax_goto 18 dL_law_1387 (by decide) ?_
          exact ih (z3 + (5 : Int32)) h hf
        · refine ax_icmp_eqF 1384 dL_law_375 (by decide) hc ?_
          refine ax_iconst (0 : Int32) dL_law_378 k32_0 ?_
          cases hf
          exact Hr (Or.inl rfl) _ _ dL_law_379
      replace hf := ite_c hf
      rcases hf with ⟨hc, hf⟩ | ⟨hn6, hf⟩
      · refine ax_tsIn 380 dL_law_32 6 (by rw [hc]; decide) (by decide) rfl (by decide) ?_
        refine ax_aload_n (i := 1) (some y1) dL_law_380 rfl rfl ?_
        refine ax_aload_n (i := 0) (some a5) dL_law_381 rfl rfl ?_
        refine ax_iload_n (i := 3) dL_law_382 rfl rfl ?_
        refine ax_iconst (1 : Int32) dL_law_383 k32_1 ?_
        refine ax_iadd dL_law_384 ?_
        replace hf := bd1_s hf
        obtain ⟨x224, e_x224, hf⟩ := hf
        refine ax_iald dL_law_385 e_x224 ?_
        refine ax_aload_n (i := 0) (some a5) dL_law_386 rfl rfl ?_
        refine ax_iload_n (i := 3) dL_law_387 rfl rfl ?_
        refine ax_iconst (2 : Int32) dL_law_388 k32_2 ?_
        refine ax_iadd dL_law_389 ?_
        replace hf := bd1_s hf
        obtain ⟨x225, e_x225, hf⟩ := hf
        refine ax_iald dL_law_390 e_x225 ?_
        replace hf := bd1_s hf
        obtain ⟨x226, e_x226, hf⟩ := hf
        obtain ⟨k_e_x226, e_x226⟩ := cv_s e_x226
        refine ax_callV (As := [.int x224, .int x225]) (rest := []) (c_C_ends e_x226) ml_519 cm_C_ends rfl k_e_x226 (Nat.le_trans (Nat.le_of_ble_eq_true rfl) hR1) (Nat.le_trans (Nat.le_of_ble_eq_true rfl) hR2) rfl rfl (Nat.le_of_ble_eq_true rfl) dL_law_391 ?_
        refine ax_aload_n (i := 2) (some y2) dL_law_394 rfl rfl ?_
        refine ax_aload_n (i := 0) (some a5) dL_law_395 rfl rfl ?_
        refine ax_iload_n (i := 3) dL_law_396 rfl rfl ?_
        refine ax_iconst (1 : Int32) dL_law_397 k32_1 ?_
        refine ax_iadd dL_law_398 ?_
        replace hf := bd1_s hf
        obtain ⟨x227, e_x227, hf⟩ := hf
        refine ax_iald dL_law_399 e_x227 ?_
        refine ax_aload_n (i := 0) (some a5) dL_law_400 rfl rfl ?_
        refine ax_iload_n (i := 3) dL_law_401 rfl rfl ?_
        refine ax_iconst (2 : Int32) dL_law_402 k32_2 ?_
        refine ax_iadd dL_law_403 ?_
        replace hf := bd1_s hf
        obtain ⟨x228, e_x228, hf⟩ := hf
        refine ax_iald dL_law_404 e_x228 ?_
        replace hf := bd1_s hf
        obtain ⟨x229, e_x229, hf⟩ := hf
        obtain ⟨k_e_x229, e_x229⟩ := cv_s e_x229
        refine ax_callV (As := [.int x227, .int x228]) (rest := [.int x226]) (c_M_ends e_x229) ml_1265 cm_M_ends rfl k_e_x229 (Nat.le_trans (Nat.le_of_ble_eq_true rfl) hR1) (Nat.le_trans (Nat.le_of_ble_eq_true rfl) hR2) rfl rfl (Nat.le_of_ble_eq_true rfl) dL_law_405 ?_
        replace hf := ite_c hf
        rcases hf with ⟨hc, hf⟩ | ⟨hc, hf⟩
        · refine ax_icmp_eqT 1384 dL_law_408 (by decide) hc ?_
          refine ax_iinc (i := 3) (z3 + (5 : Int32)) [some (va_rf (some a5)), some (va_rf (some y1)), some (va_rf (some y2)), some (.int (z3 + (5 : Int32)))] dL_law_1384 rfl (iic k32_5) (Or.inr (c1r rfl)) rfl ?_
          refine ax_goto 18 dL_law_1387 (by decide) ?_
          exact ih (z3 + (5 : Int32)) h hf
        · refine ax_icmp_eqF 1384 dL_law_408 (by decide) hc ?_
          refine ax_iconst (0 : Int32) dL_law_411 k32_0 ?_
          cases hf
          exact Hr (Or.inl rfl) _ _ dL_law_412
      replace hf := ite_c hf
      rcases hf with ⟨hc, hf⟩ | ⟨hn7, hf⟩
      · refine ax_tsIn 413 dL_law_32 7 (by rw [hc]; decide) (by decide) rfl (by decide) ?_
        refine ax_aload_n (i := 1) (some y1) dL_law_413 rfl rfl ?_
        refine ax_aload_n (i := 0) (some a5) dL_law_414 rfl rfl ?_
        refine ax_iload_n (i := 3) dL_law_415 rfl rfl ?_
        refine ax_iconst (1 : Int32) dL_law_416 k32_1 ?_
        refine ax_iadd dL_law_417 ?_
        replace hf := bd1_s hf
        obtain ⟨x218, e_x218, hf⟩ := hf
        refine ax_iald dL_law_418 e_x218 ?_
        refine ax_aload_n (i := 0) (some a5) dL_law_419 rfl rfl ?_
        refine ax_iload_n (i := 3) dL_law_420 rfl rfl ?_
        refine ax_iconst (2 : Int32) dL_law_421 k32_2 ?_
        refine ax_iadd dL_law_422 ?_
        replace hf := bd1_s hf
        obtain ⟨x219, e_x219, hf⟩ := hf
        refine ax_iald dL_law_423 e_x219 ?_
        replace hf := bd1_s hf
        obtain ⟨x220, e_x220, hf⟩ := hf
        obtain ⟨k_e_x220, e_x220⟩ := cv_s e_x220
        refine ax_callV (As := [.int x218, .int x219]) (rest := []) (c_C_uses e_x220) ml_527 cm_C_uses rfl k_e_x220 (Nat.le_trans (Nat.le_of_ble_eq_true rfl) hR1) (Nat.le_trans (Nat.le_of_ble_eq_true rfl) hR2) rfl rfl (Nat.le_of_ble_eq_true rfl) dL_law_424 ?_
        refine ax_aload_n (i := 2) (some y2) dL_law_427 rfl rfl ?_
        refine ax_aload_n (i := 0) (some a5) dL_law_428 rfl rfl ?_
        refine ax_iload_n (i := 3) dL_law_429 rfl rfl ?_
        refine ax_iconst (1 : Int32) dL_law_430 k32_1 ?_
        refine ax_iadd dL_law_431 ?_
        replace hf := bd1_s hf
        obtain ⟨x221, e_x221, hf⟩ := hf
        refine ax_iald dL_law_432 e_x221 ?_
        refine ax_aload_n (i := 0) (some a5) dL_law_433 rfl rfl ?_
        refine ax_iload_n (i := 3) dL_law_434 rfl rfl ?_
        refine ax_iconst (2 : Int32) dL_law_435 k32_2 ?_
        refine ax_iadd dL_law_436 ?_
        replace hf := bd1_s hf
        obtain ⟨x222, e_x222, hf⟩ := hf
        refine ax_iald dL_law_437 e_x222 ?_
        replace hf := bd1_s hf
        obtain ⟨x223, e_x223, hf⟩ := hf
        obtain ⟨k_e_x223, e_x223⟩ := cv_s e_x223
        refine ax_callV (As := [.int x221, .int x222]) (rest := [.int x220]) (c_M_uses e_x223) ml_1269 cm_M_uses rfl k_e_x223 (Nat.le_trans (Nat.le_of_ble_eq_true rfl) hR1) (Nat.le_trans (Nat.le_of_ble_eq_true rfl) hR2) rfl rfl (Nat.le_of_ble_eq_true rfl) dL_law_438 ?_
        replace hf := ite_c hf
        rcases hf with ⟨hc, hf⟩ | ⟨hc, hf⟩
        · refine ax_icmp_eqT 1384 dL_law_441 (by decide) hc ?_
          refine ax_iinc (i := 3) (z3 + (5 : Int32)) [some (va_rf (some a5)), some (va_rf (some y1)), some (va_rf (some y2)), some (.int (z3 + (5 : Int32)))] dL_law_1384 rfl (iic k32_5) (Or.inr (c1r rfl)) rfl ?_
          refine ax_goto 18 dL_law_1387 (by decide) ?_
          exact ih (z3 + (5 : Int32)) h hf
        · refine ax_icmp_eqF 1384 dL_law_441 (by decide) hc ?_
          refine ax_iconst (0 : Int32) dL_law_444 k32_0 ?_
          cases hf
          exact Hr (Or.inl rfl) _ _ dL_law_445
      replace hf := ite_c hf
      rcases hf with ⟨hc, hf⟩ | ⟨hn8, hf⟩
      · refine ax_tsIn 446 dL_law_32 8 (by rw [hc]; decide) (by decide) rfl (by decide) ?_
        refine ax_aload_n (i := 1) (some y1) dL_law_446 rfl rfl ?_
        refine ax_aload_n (i := 0) (some a5) dL_law_447 rfl rfl ?_
        refine ax_iload_n (i := 3) dL_law_448 rfl rfl ?_
        refine ax_iconst (1 : Int32) dL_law_449 k32_1 ?_
        refine ax_iadd dL_law_450 ?_
        replace hf := bd1_s hf
        obtain ⟨x208, e_x208, hf⟩ := hf
        refine ax_iald dL_law_451 e_x208 ?_
        refine ax_aload_n (i := 0) (some a5) dL_law_452 rfl rfl ?_
        refine ax_iload_n (i := 3) dL_law_453 rfl rfl ?_
        refine ax_iconst (2 : Int32) dL_law_454 k32_2 ?_
        refine ax_iadd dL_law_455 ?_
        replace hf := bd1_s hf
        obtain ⟨x209, e_x209, hf⟩ := hf
        refine ax_iald dL_law_456 e_x209 ?_
        refine ax_aload_n (i := 0) (some a5) dL_law_457 rfl rfl ?_
        refine ax_iload_n (i := 3) dL_law_458 rfl rfl ?_
        refine ax_iconst (3 : Int32) dL_law_459 k32_3 ?_
        refine ax_iadd dL_law_460 ?_
        replace hf := bd1_s hf
        obtain ⟨x210, e_x210, hf⟩ := hf
        refine ax_iald dL_law_461 e_x210 ?_
        replace hf := bd2_s hf
        obtain ⟨x211, h212, e_x211, hf⟩ := hf
        obtain ⟨k_e_x211, e_x211⟩ := cv_s e_x211
        refine ax_callV (As := [.int x208, .int x209, .int x210]) (rest := []) (c_C_join e_x211) ml_535 cm_C_join rfl k_e_x211 (Nat.le_trans (Nat.le_of_ble_eq_true rfl) hR1) (Nat.le_trans (Nat.le_of_ble_eq_true rfl) hR2) rfl rfl (Nat.le_of_ble_eq_true rfl) dL_law_462 ?_
        refine ax_aload_n (i := 2) (some y2) dL_law_465 rfl rfl ?_
        refine ax_aload_n (i := 0) (some a5) dL_law_466 rfl rfl ?_
        refine ax_iload_n (i := 3) dL_law_467 rfl rfl ?_
        refine ax_iconst (1 : Int32) dL_law_468 k32_1 ?_
        refine ax_iadd dL_law_469 ?_
        replace hf := bd1_s hf
        obtain ⟨x213, e_x213, hf⟩ := hf
        refine ax_iald dL_law_470 e_x213 ?_
        refine ax_aload_n (i := 0) (some a5) dL_law_471 rfl rfl ?_
        refine ax_iload_n (i := 3) dL_law_472 rfl rfl ?_
        refine ax_iconst (2 : Int32) dL_law_473 k32_2 ?_
        refine ax_iadd dL_law_474 ?_
        replace hf := bd1_s hf
        obtain ⟨x214, e_x214, hf⟩ := hf
        refine ax_iald dL_law_475 e_x214 ?_
        refine ax_aload_n (i := 0) (some a5) dL_law_476 rfl rfl ?_
        refine ax_iload_n (i := 3) dL_law_477 rfl rfl ?_
        refine ax_iconst (3 : Int32) dL_law_478 k32_3 ?_
        refine ax_iadd dL_law_479 ?_
        replace hf := bd1_s hf
        obtain ⟨x215, e_x215, hf⟩ := hf
        refine ax_iald dL_law_480 e_x215 ?_
        replace hf := bd2_s hf
        obtain ⟨x216, h217, e_x216, hf⟩ := hf
        obtain ⟨k_e_x216, e_x216⟩ := cv_s e_x216
        refine ax_callV (As := [.int x213, .int x214, .int x215]) (rest := [.int x211]) (c_M_join e_x216) ml_1281 cm_M_join rfl k_e_x216 (Nat.le_trans (Nat.le_of_ble_eq_true rfl) hR1) (Nat.le_trans (Nat.le_of_ble_eq_true rfl) hR2) rfl rfl (Nat.le_of_ble_eq_true rfl) dL_law_481 ?_
        replace hf := ite_c hf
        rcases hf with ⟨hc, hf⟩ | ⟨hc, hf⟩
        · refine ax_icmp_eqT 1384 dL_law_484 (by decide) hc ?_
          refine ax_iinc (i := 3) (z3 + (5 : Int32)) [some (va_rf (some a5)), some (va_rf (some y1)), some (va_rf (some y2)), some (.int (z3 + (5 : Int32)))] dL_law_1384 rfl (iic k32_5) (Or.inr (c1r rfl)) rfl ?_
          refine ax_goto 18 dL_law_1387 (by decide) ?_
          exact ih (z3 + (5 : Int32)) h217 hf
        · refine ax_icmp_eqF 1384 dL_law_484 (by decide) hc ?_
          refine ax_iconst (0 : Int32) dL_law_487 k32_0 ?_
          cases hf
          exact Hr (Or.inl rfl) _ _ dL_law_488
      replace hf := ite_c hf
      rcases hf with ⟨hc, hf⟩ | ⟨hn9, hf⟩
      · refine ax_tsIn 489 dL_law_32 9 (by rw [hc]; decide) (by decide) rfl (by decide) ?_
        refine ax_aload_n (i := 1) (some y1) dL_law_489 rfl rfl ?_
        replace hf := bd1_s hf
        obtain ⟨x206, e_x206, hf⟩ := hf
        obtain ⟨k_e_x206, e_x206⟩ := cv_s e_x206
        refine ax_callV (As := []) (rest := []) (c_C_walked e_x206) ml_577 cm_C_walked rfl k_e_x206 (Nat.le_trans (Nat.le_of_ble_eq_true rfl) hR1) (Nat.le_trans (Nat.le_of_ble_eq_true rfl) hR2) rfl rfl (Nat.le_of_ble_eq_true rfl) dL_law_490 ?_
        refine ax_aload_n (i := 2) (some y2) dL_law_493 rfl rfl ?_
        replace hf := bd1_s hf
        obtain ⟨x207, e_x207, hf⟩ := hf
        obtain ⟨k_e_x207, e_x207⟩ := cv_s e_x207
        refine ax_callV (As := []) (rest := [.int x206]) (c_M_walked e_x207) ml_1346 cm_M_walked rfl k_e_x207 (Nat.le_trans (Nat.le_of_ble_eq_true rfl) hR1) (Nat.le_trans (Nat.le_of_ble_eq_true rfl) hR2) rfl rfl (Nat.le_of_ble_eq_true rfl) dL_law_494 ?_
        replace hf := ite_c hf
        rcases hf with ⟨hc, hf⟩ | ⟨hc, hf⟩
        · refine ax_icmp_eqT 1384 dL_law_497 (by decide) hc ?_
          refine ax_iinc (i := 3) (z3 + (5 : Int32)) [some (va_rf (some a5)), some (va_rf (some y1)), some (va_rf (some y2)), some (.int (z3 + (5 : Int32)))] dL_law_1384 rfl (iic k32_5) (Or.inr (c1r rfl)) rfl ?_
          refine ax_goto 18 dL_law_1387 (by decide) ?_
          exact ih (z3 + (5 : Int32)) h hf
        · refine ax_icmp_eqF 1384 dL_law_497 (by decide) hc ?_
          refine ax_iconst (0 : Int32) dL_law_500 k32_0 ?_
          cases hf
          exact Hr (Or.inl rfl) _ _ dL_law_501
      replace hf := ite_c hf
      rcases hf with ⟨hc, hf⟩ | ⟨hn10, hf⟩
      · refine ax_tsIn 502 dL_law_32 10 (by rw [hc]; decide) (by decide) rfl (by decide) ?_
        refine ax_aload_n (i := 1) (some y1) dL_law_502 rfl rfl ?_
        refine ax_aload_n (i := 0) (some a5) dL_law_503 rfl rfl ?_
        refine ax_iload_n (i := 3) dL_law_504 rfl rfl ?_
        refine ax_iconst (1 : Int32) dL_law_505 k32_1 ?_
        refine ax_iadd dL_law_506 ?_
        replace hf := bd1_s hf
        obtain ⟨x202, e_x202, hf⟩ := hf
        refine ax_iald dL_law_507 e_x202 ?_
        replace hf := bd1_s hf
        obtain ⟨x203, e_x203, hf⟩ := hf
        obtain ⟨k_e_x203, e_x203⟩ := cv_s e_x203
        refine ax_callV (As := [.int x202]) (rest := []) (c_C_trace e_x203) ml_581 cm_C_trace rfl k_e_x203 (Nat.le_trans (Nat.le_of_ble_eq_true rfl) hR1) (Nat.le_trans (Nat.le_of_ble_eq_true rfl) hR2) rfl rfl (Nat.le_of_ble_eq_true rfl) dL_law_508 ?_
        refine ax_aload_n (i := 2) (some y2) dL_law_511 rfl rfl ?_
        refine ax_aload_n (i := 0) (some a5) dL_law_512 rfl rfl ?_
        refine ax_iload_n (i := 3) dL_law_513 rfl rfl ?_
        refine ax_iconst (1 : Int32) dL_law_514 k32_1 ?_
        refine ax_iadd dL_law_515 ?_
        replace hf := bd1_s hf
        obtain ⟨x204, e_x204, hf⟩ := hf
        refine ax_iald dL_law_516 e_x204 ?_
        replace hf := bd1_s hf
        obtain ⟨x205, e_x205, hf⟩ := hf
        obtain ⟨k_e_x205, e_x205⟩ := cv_s e_x205
        refine ax_callV (As := [.int x204]) (rest := [.int x203]) (c_M_trace e_x205) ml_1350 cm_M_trace rfl k_e_x205 (Nat.le_trans (Nat.le_of_ble_eq_true rfl) hR1) (Nat.le_trans (Nat.le_of_ble_eq_true rfl) hR2) rfl rfl (Nat.le_of_ble_eq_true rfl) dL_law_517 ?_
        replace hf := ite_c hf
        rcases hf with ⟨hc, hf⟩ | ⟨hc, hf⟩
        · refine ax_icmp_eqT 1384 dL_law_520 (by decide) hc ?_
          refine ax_iinc (i := 3) (z3 + (5 : Int32)) [some (va_rf (some a5)), some (va_rf (some y1)), some (va_rf (some y2)), some (.int (z3 + (5 : Int32)))] dL_law_1384 rfl (iic k32_5) (Or.inr (c1r rfl)) rfl ?_
          refine ax_goto 18 dL_law_1387 (by decide) ?_
          exact ih (z3 + (5 : Int32)) h hf
        · refine ax_icmp_eqF 1384 dL_law_520 (by decide) hc ?_
          refine ax_iconst (0 : Int32) dL_law_523 k32_0 ?_
          cases hf
          exact Hr (Or.inl rfl) _ _ dL_law_524
      replace hf := ite_c hf
      rcases hf with ⟨hc, hf⟩ | ⟨hn11, hf⟩
      · refine ax_tsIn 525 dL_law_32 11 (by rw [hc]; decide) (by decide) rfl (by decide) ?_
        refine ax_aload_n (i := 1) (some y1) dL_law_525 rfl rfl ?_
        refine ax_aload_n (i := 0) (some a5) dL_law_526 rfl rfl ?_
        refine ax_iload_n (i := 3) dL_law_527 rfl rfl ?_
        refine ax_iconst (1 : Int32) dL_law_528 k32_1 ?_
        refine ax_iadd dL_law_529 ?_
        replace hf := bd1_s hf
        obtain ⟨x194, e_x194, hf⟩ := hf
        refine ax_iald dL_law_530 e_x194 ?_
        refine ax_aload_n (i := 0) (some a5) dL_law_531 rfl rfl ?_
        refine ax_iload_n (i := 3) dL_law_532 rfl rfl ?_
        refine ax_iconst (2 : Int32) dL_law_533 k32_2 ?_
        refine ax_iadd dL_law_534 ?_
        replace hf := bd1_s hf
        obtain ⟨x195, e_x195, hf⟩ := hf
        refine ax_iald dL_law_535 e_x195 ?_
        replace hf := bd2_s hf
        obtain ⟨x196, h197, e_x196, hf⟩ := hf
        obtain ⟨k_e_x196, e_x196⟩ := cv_s e_x196
        refine ax_callV (As := [.int x194, .int x195]) (rest := []) (c_C_fit e_x196) ml_589 cm_C_fit rfl k_e_x196 (Nat.le_trans (Nat.le_of_ble_eq_true rfl) hR1) (Nat.le_trans (Nat.le_of_ble_eq_true rfl) hR2) rfl rfl (Nat.le_of_ble_eq_true rfl) dL_law_536 ?_
        refine ax_aload_n (i := 2) (some y2) dL_law_539 rfl rfl ?_
        refine ax_aload_n (i := 0) (some a5) dL_law_540 rfl rfl ?_
        refine ax_iload_n (i := 3) dL_law_541 rfl rfl ?_
        refine ax_iconst (1 : Int32) dL_law_542 k32_1 ?_
        refine ax_iadd dL_law_543 ?_
        replace hf := bd1_s hf
        obtain ⟨x198, e_x198, hf⟩ := hf
        refine ax_iald dL_law_544 e_x198 ?_
        refine ax_aload_n (i := 0) (some a5) dL_law_545 rfl rfl ?_
        refine ax_iload_n (i := 3) dL_law_546 rfl rfl ?_
        refine ax_iconst (2 : Int32) dL_law_547 k32_2 ?_
        refine ax_iadd dL_law_548 ?_
        replace hf := bd1_s hf
        obtain ⟨x199, e_x199, hf⟩ := hf
        refine ax_iald dL_law_549 e_x199 ?_
        replace hf := bd2_s hf
        obtain ⟨x200, h201, e_x200, hf⟩ := hf
        obtain ⟨k_e_x200, e_x200⟩ := cv_s e_x200
        refine ax_callV (As := [.int x198, .int x199]) (rest := [.int x196]) (c_M_fit e_x200) ml_1354 cm_M_fit rfl k_e_x200 (Nat.le_trans (Nat.le_of_ble_eq_true rfl) hR1) (Nat.le_trans (Nat.le_of_ble_eq_true rfl) hR2) rfl rfl (Nat.le_of_ble_eq_true rfl) dL_law_550 ?_
        replace hf := ite_c hf
        rcases hf with ⟨hc, hf⟩ | ⟨hc, hf⟩
        · refine ax_icmp_eqT 1384 dL_law_553 (by decide) hc ?_
          refine ax_iinc (i := 3) (z3 + (5 : Int32)) [some (va_rf (some a5)), some (va_rf (some y1)), some (va_rf (some y2)), some (.int (z3 + (5 : Int32)))] dL_law_1384 rfl (iic k32_5) (Or.inr (c1r rfl)) rfl ?_
          refine ax_goto 18 dL_law_1387 (by decide) ?_
          exact ih (z3 + (5 : Int32)) h201 hf
        · refine ax_icmp_eqF 1384 dL_law_553 (by decide) hc ?_
          refine ax_iconst (0 : Int32) dL_law_556 k32_0 ?_
          cases hf
          exact Hr (Or.inl rfl) _ _ dL_law_557
      replace hf := ite_c hf
      rcases hf with ⟨hc, hf⟩ | ⟨hn12, hf⟩
      · refine ax_tsIn 558 dL_law_32 12 (by rw [hc]; decide) (by decide) rfl (by decide) ?_
        refine ax_aload_n (i := 1) (some y1) dL_law_558 rfl rfl ?_
        refine ax_aload_n (i := 0) (some a5) dL_law_559 rfl rfl ?_
        refine ax_iload_n (i := 3) dL_law_560 rfl rfl ?_
        refine ax_iconst (1 : Int32) dL_law_561 k32_1 ?_
        refine ax_iadd dL_law_562 ?_
        replace hf := bd1_s hf
        obtain ⟨x184, e_x184, hf⟩ := hf
        refine ax_iald dL_law_563 e_x184 ?_
        refine ax_aload_n (i := 0) (some a5) dL_law_564 rfl rfl ?_
        refine ax_iload_n (i := 3) dL_law_565 rfl rfl ?_
        refine ax_iconst (2 : Int32) dL_law_566 k32_2 ?_
        refine ax_iadd dL_law_567 ?_
        replace hf := bd1_s hf
        obtain ⟨x185, e_x185, hf⟩ := hf
        refine ax_iald dL_law_568 e_x185 ?_
        refine ax_aload_n (i := 0) (some a5) dL_law_569 rfl rfl ?_
        refine ax_iload_n (i := 3) dL_law_570 rfl rfl ?_
        refine ax_iconst (3 : Int32) dL_law_571 k32_3 ?_
        refine ax_iadd dL_law_572 ?_
        replace hf := bd1_s hf
        obtain ⟨x186, e_x186, hf⟩ := hf
        refine ax_iald dL_law_573 e_x186 ?_
        replace hf := bd2_s hf
        obtain ⟨x187, h188, e_x187, hf⟩ := hf
        obtain ⟨k_e_x187, e_x187⟩ := cv_s e_x187
        refine ax_callV (As := [.int x184, .int x185, .int x186]) (rest := []) (c_C_swap e_x187) ml_618 cm_C_swap rfl k_e_x187 (Nat.le_trans (Nat.le_of_ble_eq_true rfl) hR1) (Nat.le_trans (Nat.le_of_ble_eq_true rfl) hR2) rfl rfl (Nat.le_of_ble_eq_true rfl) dL_law_574 ?_
        refine ax_aload_n (i := 2) (some y2) dL_law_577 rfl rfl ?_
        refine ax_aload_n (i := 0) (some a5) dL_law_578 rfl rfl ?_
        refine ax_iload_n (i := 3) dL_law_579 rfl rfl ?_
        refine ax_iconst (1 : Int32) dL_law_580 k32_1 ?_
        refine ax_iadd dL_law_581 ?_
        replace hf := bd1_s hf
        obtain ⟨x189, e_x189, hf⟩ := hf
        refine ax_iald dL_law_582 e_x189 ?_
        refine ax_aload_n (i := 0) (some a5) dL_law_583 rfl rfl ?_
        refine ax_iload_n (i := 3) dL_law_584 rfl rfl ?_
        refine ax_iconst (2 : Int32) dL_law_585 k32_2 ?_
        refine ax_iadd dL_law_586 ?_
        replace hf := bd1_s hf
        obtain ⟨x190, e_x190, hf⟩ := hf
        refine ax_iald dL_law_587 e_x190 ?_
        refine ax_aload_n (i := 0) (some a5) dL_law_588 rfl rfl ?_
        refine ax_iload_n (i := 3) dL_law_589 rfl rfl ?_
        refine ax_iconst (3 : Int32) dL_law_590 k32_3 ?_
        refine ax_iadd dL_law_591 ?_
        replace hf := bd1_s hf
        obtain ⟨x191, e_x191, hf⟩ := hf
        refine ax_iald dL_law_592 e_x191 ?_
        replace hf := bd2_s hf
        obtain ⟨x192, h193, e_x192, hf⟩ := hf
        obtain ⟨k_e_x192, e_x192⟩ := cv_s e_x192
        refine ax_callV (As := [.int x189, .int x190, .int x191]) (rest := [.int x187]) (c_M_swap e_x192) ml_1366 cm_M_swap rfl k_e_x192 (Nat.le_trans (Nat.le_of_ble_eq_true rfl) hR1) (Nat.le_trans (Nat.le_of_ble_eq_true rfl) hR2) rfl rfl (Nat.le_of_ble_eq_true rfl) dL_law_593 ?_
        replace hf := ite_c hf
        rcases hf with ⟨hc, hf⟩ | ⟨hc, hf⟩
        · refine ax_icmp_eqT 1384 dL_law_596 (by decide) hc ?_
          refine ax_iinc (i := 3) (z3 + (5 : Int32)) [some (va_rf (some a5)), some (va_rf (some y1)), some (va_rf (some y2)), some (.int (z3 + (5 : Int32)))] dL_law_1384 rfl (iic k32_5) (Or.inr (c1r rfl)) rfl ?_
          refine ax_goto 18 dL_law_1387 (by decide) ?_
          exact ih (z3 + (5 : Int32)) h193 hf
        · refine ax_icmp_eqF 1384 dL_law_596 (by decide) hc ?_
          refine ax_iconst (0 : Int32) dL_law_599 k32_0 ?_
          cases hf
          exact Hr (Or.inl rfl) _ _ dL_law_600
      replace hf := ite_c hf
      rcases hf with ⟨hc, hf⟩ | ⟨hn13, hf⟩
      · refine ax_tsIn 601 dL_law_32 13 (by rw [hc]; decide) (by decide) rfl (by decide) ?_
        refine ax_aload_n (i := 1) (some y1) dL_law_601 rfl rfl ?_
        refine ax_aload_n (i := 0) (some a5) dL_law_602 rfl rfl ?_
        refine ax_iload_n (i := 3) dL_law_603 rfl rfl ?_
        refine ax_iconst (1 : Int32) dL_law_604 k32_1 ?_
        refine ax_iadd dL_law_605 ?_
        replace hf := bd1_s hf
        obtain ⟨x176, e_x176, hf⟩ := hf
        refine ax_iald dL_law_606 e_x176 ?_
        refine ax_aload_n (i := 0) (some a5) dL_law_607 rfl rfl ?_
        refine ax_iload_n (i := 3) dL_law_608 rfl rfl ?_
        refine ax_iconst (2 : Int32) dL_law_609 k32_2 ?_
        refine ax_iadd dL_law_610 ?_
        replace hf := bd1_s hf
        obtain ⟨x177, e_x177, hf⟩ := hf
        refine ax_iald dL_law_611 e_x177 ?_
        replace hf := bd2_s hf
        obtain ⟨x178, h179, e_x178, hf⟩ := hf
        obtain ⟨k_e_x178, e_x178⟩ := cv_s e_x178
        refine ax_callV (As := [.int x176, .int x177]) (rest := []) (c_C_adapters e_x178) ml_622 cm_C_adapters rfl k_e_x178 (Nat.le_trans (Nat.le_of_ble_eq_true rfl) hR1) (Nat.le_trans (Nat.le_of_ble_eq_true rfl) hR2) rfl rfl (Nat.le_of_ble_eq_true rfl) dL_law_612 ?_
        refine ax_aload_n (i := 2) (some y2) dL_law_615 rfl rfl ?_
        refine ax_aload_n (i := 0) (some a5) dL_law_616 rfl rfl ?_
        refine ax_iload_n (i := 3) dL_law_617 rfl rfl ?_
        refine ax_iconst (1 : Int32) dL_law_618 k32_1 ?_
        refine ax_iadd dL_law_619 ?_
        replace hf := bd1_s hf
        obtain ⟨x180, e_x180, hf⟩ := hf
        refine ax_iald dL_law_620 e_x180 ?_
        refine ax_aload_n (i := 0) (some a5) dL_law_621 rfl rfl ?_
        refine ax_iload_n (i := 3) dL_law_622 rfl rfl ?_
        refine ax_iconst (2 : Int32) dL_law_623 k32_2 ?_
        refine ax_iadd dL_law_624 ?_
        replace hf := bd1_s hf
        obtain ⟨x181, e_x181, hf⟩ := hf
        refine ax_iald dL_law_625 e_x181 ?_
        replace hf := bd2_s hf
        obtain ⟨x182, h183, e_x182, hf⟩ := hf
        obtain ⟨k_e_x182, e_x182⟩ := cv_s e_x182
        refine ax_callV (As := [.int x180, .int x181]) (rest := [.int x178]) (c_M_adapters e_x182) ml_1370 cm_M_adapters rfl k_e_x182 (Nat.le_trans (Nat.le_of_ble_eq_true rfl) hR1) (Nat.le_trans (Nat.le_of_ble_eq_true rfl) hR2) rfl rfl (Nat.le_of_ble_eq_true rfl) dL_law_626 ?_
        replace hf := ite_c hf
        rcases hf with ⟨hc, hf⟩ | ⟨hc, hf⟩
        · refine ax_icmp_eqT 1384 dL_law_629 (by decide) hc ?_
          refine ax_iinc (i := 3) (z3 + (5 : Int32)) [some (va_rf (some a5)), some (va_rf (some y1)), some (va_rf (some y2)), some (.int (z3 + (5 : Int32)))] dL_law_1384 rfl (iic k32_5) (Or.inr (c1r rfl)) rfl ?_
          refine ax_goto 18 dL_law_1387 (by decide) ?_
          exact ih (z3 + (5 : Int32)) h183 hf
        · refine ax_icmp_eqF 1384 dL_law_629 (by decide) hc ?_
          refine ax_iconst (0 : Int32) dL_law_632 k32_0 ?_
          cases hf
          exact Hr (Or.inl rfl) _ _ dL_law_633
      replace hf := ite_c hf
      rcases hf with ⟨hc, hf⟩ | ⟨hn14, hf⟩
      · refine ax_tsIn 634 dL_law_32 14 (by rw [hc]; decide) (by decide) rfl (by decide) ?_
        refine ax_aload_n (i := 1) (some y1) dL_law_634 rfl rfl ?_
        refine ax_aload_n (i := 0) (some a5) dL_law_635 rfl rfl ?_
        refine ax_iload_n (i := 3) dL_law_636 rfl rfl ?_
        refine ax_iconst (1 : Int32) dL_law_637 k32_1 ?_
        refine ax_iadd dL_law_638 ?_
        replace hf := bd1_s hf
        obtain ⟨x164, e_x164, hf⟩ := hf
        refine ax_iald dL_law_639 e_x164 ?_
        refine ax_aload_n (i := 0) (some a5) dL_law_640 rfl rfl ?_
        refine ax_iload_n (i := 3) dL_law_641 rfl rfl ?_
        refine ax_iconst (2 : Int32) dL_law_642 k32_2 ?_
        refine ax_iadd dL_law_643 ?_
        replace hf := bd1_s hf
        obtain ⟨x165, e_x165, hf⟩ := hf
        refine ax_iald dL_law_644 e_x165 ?_
        refine ax_aload_n (i := 0) (some a5) dL_law_645 rfl rfl ?_
        refine ax_iload_n (i := 3) dL_law_646 rfl rfl ?_
        refine ax_iconst (3 : Int32) dL_law_647 k32_3 ?_
        refine ax_iadd dL_law_648 ?_
        replace hf := bd1_s hf
        obtain ⟨x166, e_x166, hf⟩ := hf
        refine ax_iald dL_law_649 e_x166 ?_
        refine ax_aload_n (i := 0) (some a5) dL_law_650 rfl rfl ?_
        refine ax_iload_n (i := 3) dL_law_651 rfl rfl ?_
        refine ax_iconst (4 : Int32) dL_law_652 k32_4 ?_
        refine ax_iadd dL_law_653 ?_
        replace hf := bd1_s hf
        obtain ⟨x167, e_x167, hf⟩ := hf
        refine ax_iald dL_law_654 e_x167 ?_
        replace hf := bd2_s hf
        obtain ⟨x168, h169, e_x168, hf⟩ := hf
        obtain ⟨k_e_x168, e_x168⟩ := cv_s e_x168
        refine ax_callV (As := [.int x164, .int x165, .int x166, .int x167]) (rest := []) (c_C_adapter e_x168) ml_679 cm_C_adapter rfl k_e_x168 (Nat.le_trans (Nat.le_of_ble_eq_true rfl) hR1) (Nat.le_trans (Nat.le_of_ble_eq_true rfl) hR2) rfl rfl (Nat.le_of_ble_eq_true rfl) dL_law_655 ?_
        refine ax_aload_n (i := 2) (some y2) dL_law_658 rfl rfl ?_
        refine ax_aload_n (i := 0) (some a5) dL_law_659 rfl rfl ?_
        refine ax_iload_n (i := 3) dL_law_660 rfl rfl ?_
        refine ax_iconst (1 : Int32) dL_law_661 k32_1 ?_
        refine ax_iadd dL_law_662 ?_
        replace hf := bd1_s hf
        obtain ⟨x170, e_x170, hf⟩ := hf
        refine ax_iald dL_law_663 e_x170 ?_
        refine ax_aload_n (i := 0) (some a5) dL_law_664 rfl rfl ?_
        refine ax_iload_n (i := 3) dL_law_665 rfl rfl ?_
        refine ax_iconst (2 : Int32) dL_law_666 k32_2 ?_
        refine ax_iadd dL_law_667 ?_
        replace hf := bd1_s hf
        obtain ⟨x171, e_x171, hf⟩ := hf
        refine ax_iald dL_law_668 e_x171 ?_
        refine ax_aload_n (i := 0) (some a5) dL_law_669 rfl rfl ?_
        refine ax_iload_n (i := 3) dL_law_670 rfl rfl ?_
        refine ax_iconst (3 : Int32) dL_law_671 k32_3 ?_
        refine ax_iadd dL_law_672 ?_
        replace hf := bd1_s hf
        obtain ⟨x172, e_x172, hf⟩ := hf
        refine ax_iald dL_law_673 e_x172 ?_
        refine ax_aload_n (i := 0) (some a5) dL_law_674 rfl rfl ?_
        refine ax_iload_n (i := 3) dL_law_675 rfl rfl ?_
        refine ax_iconst (4 : Int32) dL_law_676 k32_4 ?_
        refine ax_iadd dL_law_677 ?_
        replace hf := bd1_s hf
        obtain ⟨x173, e_x173, hf⟩ := hf
        refine ax_iald dL_law_678 e_x173 ?_
        replace hf := bd2_s hf
        obtain ⟨x174, h175, e_x174, hf⟩ := hf
        obtain ⟨k_e_x174, e_x174⟩ := cv_s e_x174
        refine ax_callV (As := [.int x170, .int x171, .int x172, .int x173]) (rest := [.int x168]) (c_M_adapter e_x174) ml_1393 cm_M_adapter rfl k_e_x174 (Nat.le_trans (Nat.le_of_ble_eq_true rfl) hR1) (Nat.le_trans (Nat.le_of_ble_eq_true rfl) hR2) rfl rfl (Nat.le_of_ble_eq_true rfl) dL_law_679 ?_
        replace hf := ite_c hf
        rcases hf with ⟨hc, hf⟩ | ⟨hc, hf⟩
        · refine ax_icmp_eqT 1384 dL_law_682 (by decide) hc ?_
          refine ax_iinc (i := 3) (z3 + (5 : Int32)) [some (va_rf (some a5)), some (va_rf (some y1)), some (va_rf (some y2)), some (.int (z3 + (5 : Int32)))] dL_law_1384 rfl (iic k32_5) (Or.inr (c1r rfl)) rfl ?_
          refine ax_goto 18 dL_law_1387 (by decide) ?_
          exact ih (z3 + (5 : Int32)) h175 hf
        · refine ax_icmp_eqF 1384 dL_law_682 (by decide) hc ?_
          refine ax_iconst (0 : Int32) dL_law_685 k32_0 ?_
          cases hf
          exact Hr (Or.inl rfl) _ _ dL_law_686
      replace hf := ite_c hf
      rcases hf with ⟨hc, hf⟩ | ⟨hn15, hf⟩
      · refine ax_tsIn 687 dL_law_32 15 (by rw [hc]; decide) (by decide) rfl (by decide) ?_
        refine ax_aload_n (i := 1) (some y1) dL_law_687 rfl rfl ?_
        refine ax_aload_n (i := 0) (some a5) dL_law_688 rfl rfl ?_
        refine ax_iload_n (i := 3) dL_law_689 rfl rfl ?_
        refine ax_iconst (1 : Int32) dL_law_690 k32_1 ?_
        refine ax_iadd dL_law_691 ?_
        replace hf := bd1_s hf
        obtain ⟨x154, e_x154, hf⟩ := hf
        refine ax_iald dL_law_692 e_x154 ?_
        refine ax_aload_n (i := 0) (some a5) dL_law_693 rfl rfl ?_
        refine ax_iload_n (i := 3) dL_law_694 rfl rfl ?_
        refine ax_iconst (2 : Int32) dL_law_695 k32_2 ?_
        refine ax_iadd dL_law_696 ?_
        replace hf := bd1_s hf
        obtain ⟨x155, e_x155, hf⟩ := hf
        refine ax_iald dL_law_697 e_x155 ?_
        refine ax_aload_n (i := 0) (some a5) dL_law_698 rfl rfl ?_
        refine ax_iload_n (i := 3) dL_law_699 rfl rfl ?_
        refine ax_iconst (3 : Int32) dL_law_700 k32_3 ?_
        refine ax_iadd dL_law_701 ?_
        replace hf := bd1_s hf
        obtain ⟨x156, e_x156, hf⟩ := hf
        refine ax_iald dL_law_702 e_x156 ?_
        replace hf := bd2_s hf
        obtain ⟨x157, h158, e_x157, hf⟩ := hf
        obtain ⟨k_e_x157, e_x157⟩ := cv_s e_x157
        refine ax_callV (As := [.int x154, .int x155, .int x156]) (rest := []) (c_C_helper e_x157) ml_687 cm_C_helper rfl k_e_x157 (Nat.le_trans (Nat.le_of_ble_eq_true rfl) hR1) (Nat.le_trans (Nat.le_of_ble_eq_true rfl) hR2) rfl rfl (Nat.le_of_ble_eq_true rfl) dL_law_703 ?_
        refine ax_aload_n (i := 2) (some y2) dL_law_706 rfl rfl ?_
        refine ax_aload_n (i := 0) (some a5) dL_law_707 rfl rfl ?_
        refine ax_iload_n (i := 3) dL_law_708 rfl rfl ?_
        refine ax_iconst (1 : Int32) dL_law_709 k32_1 ?_
        refine ax_iadd dL_law_710 ?_
        replace hf := bd1_s hf
        obtain ⟨x159, e_x159, hf⟩ := hf
        refine ax_iald dL_law_711 e_x159 ?_
        refine ax_aload_n (i := 0) (some a5) dL_law_712 rfl rfl ?_
        refine ax_iload_n (i := 3) dL_law_713 rfl rfl ?_
        refine ax_iconst (2 : Int32) dL_law_714 k32_2 ?_
        refine ax_iadd dL_law_715 ?_
        replace hf := bd1_s hf
        obtain ⟨x160, e_x160, hf⟩ := hf
        refine ax_iald dL_law_716 e_x160 ?_
        refine ax_aload_n (i := 0) (some a5) dL_law_717 rfl rfl ?_
        refine ax_iload_n (i := 3) dL_law_718 rfl rfl ?_
        refine ax_iconst (3 : Int32) dL_law_719 k32_3 ?_
        refine ax_iadd dL_law_720 ?_
        replace hf := bd1_s hf
        obtain ⟨x161, e_x161, hf⟩ := hf
        refine ax_iald dL_law_721 e_x161 ?_
        replace hf := bd2_s hf
        obtain ⟨x162, h163, e_x162, hf⟩ := hf
        obtain ⟨k_e_x162, e_x162⟩ := cv_s e_x162
        refine ax_callV (As := [.int x159, .int x160, .int x161]) (rest := [.int x157]) (c_M_helper e_x162) ml_1397 cm_M_helper rfl k_e_x162 (Nat.le_trans (Nat.le_of_ble_eq_true rfl) hR1) (Nat.le_trans (Nat.le_of_ble_eq_true rfl) hR2) rfl rfl (Nat.le_of_ble_eq_true rfl) dL_law_722 ?_
        replace hf := ite_c hf
        rcases hf with ⟨hc, hf⟩ | ⟨hc, hf⟩
        · refine ax_icmp_eqT 1384 dL_law_725 (by decide) hc ?_
          refine ax_iinc (i := 3) (z3 + (5 : Int32)) [some (va_rf (some a5)), some (va_rf (some y1)), some (va_rf (some y2)), some (.int (z3 + (5 : Int32)))] dL_law_1384 rfl (iic k32_5) (Or.inr (c1r rfl)) rfl ?_
          refine ax_goto 18 dL_law_1387 (by decide) ?_
          exact ih (z3 + (5 : Int32)) h163 hf
        · refine ax_icmp_eqF 1384 dL_law_725 (by decide) hc ?_
          refine ax_iconst (0 : Int32) dL_law_728 k32_0 ?_
          cases hf
          exact Hr (Or.inl rfl) _ _ dL_law_729
      replace hf := ite_c hf
      rcases hf with ⟨hc, hf⟩ | ⟨hn16, hf⟩
      · refine ax_tsIn 730 dL_law_32 16 (by rw [hc]; decide) (by decide) rfl (by decide) ?_
        refine ax_aload_n (i := 1) (some y1) dL_law_730 rfl rfl ?_
        refine ax_aload_n (i := 0) (some a5) dL_law_731 rfl rfl ?_
        refine ax_iload_n (i := 3) dL_law_732 rfl rfl ?_
        refine ax_iconst (1 : Int32) dL_law_733 k32_1 ?_
        refine ax_iadd dL_law_734 ?_
        replace hf := bd1_s hf
        obtain ⟨x144, e_x144, hf⟩ := hf
        refine ax_iald dL_law_735 e_x144 ?_
        refine ax_aload_n (i := 0) (some a5) dL_law_736 rfl rfl ?_
        refine ax_iload_n (i := 3) dL_law_737 rfl rfl ?_
        refine ax_iconst (2 : Int32) dL_law_738 k32_2 ?_
        refine ax_iadd dL_law_739 ?_
        replace hf := bd1_s hf
        obtain ⟨x145, e_x145, hf⟩ := hf
        refine ax_iald dL_law_740 e_x145 ?_
        refine ax_aload_n (i := 0) (some a5) dL_law_741 rfl rfl ?_
        refine ax_iload_n (i := 3) dL_law_742 rfl rfl ?_
        refine ax_iconst (3 : Int32) dL_law_743 k32_3 ?_
        refine ax_iadd dL_law_744 ?_
        replace hf := bd1_s hf
        obtain ⟨x146, e_x146, hf⟩ := hf
        refine ax_iald dL_law_745 e_x146 ?_
        replace hf := bd2_s hf
        obtain ⟨x147, h148, e_x147, hf⟩ := hf
        obtain ⟨k_e_x147, e_x147⟩ := cv_s e_x147
        refine ax_callV (As := [.int x144, .int x145, .int x146]) (rest := []) (c_C_set e_x147) ml_714 cm_C_set rfl k_e_x147 (Nat.le_trans (Nat.le_of_ble_eq_true rfl) hR1) (Nat.le_trans (Nat.le_of_ble_eq_true rfl) hR2) rfl rfl (Nat.le_of_ble_eq_true rfl) dL_law_746 ?_
        refine ax_aload_n (i := 2) (some y2) dL_law_749 rfl rfl ?_
        refine ax_aload_n (i := 0) (some a5) dL_law_750 rfl rfl ?_
        refine ax_iload_n (i := 3) dL_law_751 rfl rfl ?_
        refine ax_iconst (1 : Int32) dL_law_752 k32_1 ?_
        refine ax_iadd dL_law_753 ?_
        replace hf := bd1_s hf
        obtain ⟨x149, e_x149, hf⟩ := hf
        refine ax_iald dL_law_754 e_x149 ?_
        refine ax_aload_n (i := 0) (some a5) dL_law_755 rfl rfl ?_
        refine ax_iload_n (i := 3) dL_law_756 rfl rfl ?_
        refine ax_iconst (2 : Int32) dL_law_757 k32_2 ?_
        refine ax_iadd dL_law_758 ?_
        replace hf := bd1_s hf
        obtain ⟨x150, e_x150, hf⟩ := hf
        refine ax_iald dL_law_759 e_x150 ?_
        refine ax_aload_n (i := 0) (some a5) dL_law_760 rfl rfl ?_
        refine ax_iload_n (i := 3) dL_law_761 rfl rfl ?_
        refine ax_iconst (3 : Int32) dL_law_762 k32_3 ?_
        refine ax_iadd dL_law_763 ?_
        replace hf := bd1_s hf
        obtain ⟨x151, e_x151, hf⟩ := hf
        refine ax_iald dL_law_764 e_x151 ?_
        replace hf := bd2_s hf
        obtain ⟨x152, h153, e_x152, hf⟩ := hf
        obtain ⟨k_e_x152, e_x152⟩ := cv_s e_x152
        refine ax_callV (As := [.int x149, .int x150, .int x151]) (rest := [.int x147]) (c_M_set e_x152) ml_1404 cm_M_set rfl k_e_x152 (Nat.le_trans (Nat.le_of_ble_eq_true rfl) hR1) (Nat.le_trans (Nat.le_of_ble_eq_true rfl) hR2) rfl rfl (Nat.le_of_ble_eq_true rfl) dL_law_765 ?_
        replace hf := ite_c hf
        rcases hf with ⟨hc, hf⟩ | ⟨hc, hf⟩
        · refine ax_icmp_eqT 1384 dL_law_768 (by decide) hc ?_
          refine ax_iinc (i := 3) (z3 + (5 : Int32)) [some (va_rf (some a5)), some (va_rf (some y1)), some (va_rf (some y2)), some (.int (z3 + (5 : Int32)))] dL_law_1384 rfl (iic k32_5) (Or.inr (c1r rfl)) rfl ?_
          refine ax_goto 18 dL_law_1387 (by decide) ?_
          exact ih (z3 + (5 : Int32)) h153 hf
        · refine ax_icmp_eqF 1384 dL_law_768 (by decide) hc ?_
          refine ax_iconst (0 : Int32) dL_law_771 k32_0 ?_
          cases hf
          exact Hr (Or.inl rfl) _ _ dL_law_772
      replace hf := ite_c hf
      rcases hf with ⟨hc, hf⟩ | ⟨hn17, hf⟩
      · refine ax_tsIn 773 dL_law_32 17 (by rw [hc]; decide) (by decide) rfl (by decide) ?_
        refine ax_aload_n (i := 1) (some y1) dL_law_773 rfl rfl ?_
        refine ax_aload_n (i := 0) (some a5) dL_law_774 rfl rfl ?_
        refine ax_iload_n (i := 3) dL_law_775 rfl rfl ?_
        refine ax_iconst (1 : Int32) dL_law_776 k32_1 ?_
        refine ax_iadd dL_law_777 ?_
        replace hf := bd1_s hf
        obtain ⟨x136, e_x136, hf⟩ := hf
        refine ax_iald dL_law_778 e_x136 ?_
        refine ax_aload_n (i := 0) (some a5) dL_law_779 rfl rfl ?_
        refine ax_iload_n (i := 3) dL_law_780 rfl rfl ?_
        refine ax_iconst (2 : Int32) dL_law_781 k32_2 ?_
        refine ax_iadd dL_law_782 ?_
        replace hf := bd1_s hf
        obtain ⟨x137, e_x137, hf⟩ := hf
        refine ax_iald dL_law_783 e_x137 ?_
        replace hf := bd2_s hf
        obtain ⟨x138, h139, e_x138, hf⟩ := hf
        obtain ⟨k_e_x138, e_x138⟩ := cv_s e_x138
        refine ax_callV (As := [.int x136, .int x137]) (rest := []) (c_C_level e_x138) ml_725 cm_C_level rfl k_e_x138 (Nat.le_trans (Nat.le_of_ble_eq_true rfl) hR1) (Nat.le_trans (Nat.le_of_ble_eq_true rfl) hR2) rfl rfl (Nat.le_of_ble_eq_true rfl) dL_law_784 ?_
        refine ax_aload_n (i := 2) (some y2) dL_law_787 rfl rfl ?_
        refine ax_aload_n (i := 0) (some a5) dL_law_788 rfl rfl ?_
        refine ax_iload_n (i := 3) dL_law_789 rfl rfl ?_
        refine ax_iconst (1 : Int32) dL_law_790 k32_1 ?_
        refine ax_iadd dL_law_791 ?_
        replace hf := bd1_s hf
        obtain ⟨x140, e_x140, hf⟩ := hf
        refine ax_iald dL_law_792 e_x140 ?_
        refine ax_aload_n (i := 0) (some a5) dL_law_793 rfl rfl ?_
        refine ax_iload_n (i := 3) dL_law_794 rfl rfl ?_
        refine ax_iconst (2 : Int32) dL_law_795 k32_2 ?_
        refine ax_iadd dL_law_796 ?_
        replace hf := bd1_s hf
        obtain ⟨x141, e_x141, hf⟩ := hf
        refine ax_iald dL_law_797 e_x141 ?_
        replace hf := bd2_s hf
        obtain ⟨x142, h143, e_x142, hf⟩ := hf
        obtain ⟨k_e_x142, e_x142⟩ := cv_s e_x142
        refine ax_callV (As := [.int x140, .int x141]) (rest := [.int x138]) (c_M_level e_x142) ml_1412 cm_M_level rfl k_e_x142 (Nat.le_trans (Nat.le_of_ble_eq_true rfl) hR1) (Nat.le_trans (Nat.le_of_ble_eq_true rfl) hR2) rfl rfl (Nat.le_of_ble_eq_true rfl) dL_law_798 ?_
        replace hf := ite_c hf
        rcases hf with ⟨hc, hf⟩ | ⟨hc, hf⟩
        · refine ax_icmp_eqT 1384 dL_law_801 (by decide) hc ?_
          refine ax_iinc (i := 3) (z3 + (5 : Int32)) [some (va_rf (some a5)), some (va_rf (some y1)), some (va_rf (some y2)), some (.int (z3 + (5 : Int32)))] dL_law_1384 rfl (iic k32_5) (Or.inr (c1r rfl)) rfl ?_
          refine ax_goto 18 dL_law_1387 (by decide) ?_
          exact ih (z3 + (5 : Int32)) h143 hf
        · refine ax_icmp_eqF 1384 dL_law_801 (by decide) hc ?_
          refine ax_iconst (0 : Int32) dL_law_804 k32_0 ?_
          cases hf
          exact Hr (Or.inl rfl) _ _ dL_law_805
      replace hf := ite_c hf
      rcases hf with ⟨hc, hf⟩ | ⟨hn18, hf⟩
      · refine ax_tsIn 806 dL_law_32 18 (by rw [hc]; decide) (by decide) rfl (by decide) ?_
        refine ax_aload_n (i := 1) (some y1) dL_law_806 rfl rfl ?_
        refine ax_aload_n (i := 0) (some a5) dL_law_807 rfl rfl ?_
        refine ax_iload_n (i := 3) dL_law_808 rfl rfl ?_
        refine ax_iconst (1 : Int32) dL_law_809 k32_1 ?_
        refine ax_iadd dL_law_810 ?_
        replace hf := bd1_s hf
        obtain ⟨x130, e_x130, hf⟩ := hf
        refine ax_iald dL_law_811 e_x130 ?_
        refine ax_aload_n (i := 0) (some a5) dL_law_812 rfl rfl ?_
        refine ax_iload_n (i := 3) dL_law_813 rfl rfl ?_
        refine ax_iconst (2 : Int32) dL_law_814 k32_2 ?_
        refine ax_iadd dL_law_815 ?_
        replace hf := bd1_s hf
        obtain ⟨x131, e_x131, hf⟩ := hf
        refine ax_iald dL_law_816 e_x131 ?_
        replace hf := bd1_s hf
        obtain ⟨x132, e_x132, hf⟩ := hf
        obtain ⟨k_e_x132, e_x132⟩ := cv_s e_x132
        refine ax_callV (As := [.int x130, .int x131]) (rest := []) (c_C_about e_x132) ml_732 cm_C_about rfl k_e_x132 (Nat.le_trans (Nat.le_of_ble_eq_true rfl) hR1) (Nat.le_trans (Nat.le_of_ble_eq_true rfl) hR2) rfl rfl (Nat.le_of_ble_eq_true rfl) dL_law_817 ?_
        refine ax_aload_n (i := 2) (some y2) dL_law_820 rfl rfl ?_
        refine ax_aload_n (i := 0) (some a5) dL_law_821 rfl rfl ?_
        refine ax_iload_n (i := 3) dL_law_822 rfl rfl ?_
        refine ax_iconst (1 : Int32) dL_law_823 k32_1 ?_
        refine ax_iadd dL_law_824 ?_
        replace hf := bd1_s hf
        obtain ⟨x133, e_x133, hf⟩ := hf
        refine ax_iald dL_law_825 e_x133 ?_
        refine ax_aload_n (i := 0) (some a5) dL_law_826 rfl rfl ?_
        refine ax_iload_n (i := 3) dL_law_827 rfl rfl ?_
        refine ax_iconst (2 : Int32) dL_law_828 k32_2 ?_
        refine ax_iadd dL_law_829 ?_
        replace hf := bd1_s hf
        obtain ⟨x134, e_x134, hf⟩ := hf
        refine ax_iald dL_law_830 e_x134 ?_
        replace hf := bd1_s hf
        obtain ⟨x135, e_x135, hf⟩ := hf
        obtain ⟨k_e_x135, e_x135⟩ := cv_s e_x135
        refine ax_callV (As := [.int x133, .int x134]) (rest := [.int x132]) (c_M_about e_x135) ml_1416 cm_M_about rfl k_e_x135 (Nat.le_trans (Nat.le_of_ble_eq_true rfl) hR1) (Nat.le_trans (Nat.le_of_ble_eq_true rfl) hR2) rfl rfl (Nat.le_of_ble_eq_true rfl) dL_law_831 ?_
        replace hf := ite_c hf
        rcases hf with ⟨hc, hf⟩ | ⟨hc, hf⟩
        · refine ax_icmp_eqT 1384 dL_law_834 (by decide) hc ?_
          refine ax_iinc (i := 3) (z3 + (5 : Int32)) [some (va_rf (some a5)), some (va_rf (some y1)), some (va_rf (some y2)), some (.int (z3 + (5 : Int32)))] dL_law_1384 rfl (iic k32_5) (Or.inr (c1r rfl)) rfl ?_
          refine ax_goto 18 dL_law_1387 (by decide) ?_
          exact ih (z3 + (5 : Int32)) h hf
        · refine ax_icmp_eqF 1384 dL_law_834 (by decide) hc ?_
          refine ax_iconst (0 : Int32) dL_law_837 k32_0 ?_
          cases hf
          exact Hr (Or.inl rfl) _ _ dL_law_838
      replace hf := ite_c hf
      rcases hf with ⟨hc, hf⟩ | ⟨hn19, hf⟩
      · refine ax_tsIn 839 dL_law_32 19 (by rw [hc]; decide) (by decide) rfl (by decide) ?_
        refine ax_aload_n (i := 1) (some y1) dL_law_839 rfl rfl ?_
        refine ax_aload_n (i := 0) (some a5) dL_law_840 rfl rfl ?_
        refine ax_iload_n (i := 3) dL_law_841 rfl rfl ?_
        refine ax_iconst (1 : Int32) dL_law_842 k32_1 ?_
        refine ax_iadd dL_law_843 ?_
        replace hf := bd1_s hf
        obtain ⟨x124, e_x124, hf⟩ := hf
        refine ax_iald dL_law_844 e_x124 ?_
        replace hf := bd2_s hf
        obtain ⟨x125, h126, e_x125, hf⟩ := hf
        obtain ⟨k_e_x125, e_x125⟩ := cv_s e_x125
        refine ax_callV (As := [.int x124]) (rest := []) (c_C_put e_x125) ml_736 cm_C_put rfl k_e_x125 (Nat.le_trans (Nat.le_of_ble_eq_true rfl) hR1) (Nat.le_trans (Nat.le_of_ble_eq_true rfl) hR2) rfl rfl (Nat.le_of_ble_eq_true rfl) dL_law_845 ?_
        refine ax_aload_n (i := 2) (some y2) dL_law_848 rfl rfl ?_
        refine ax_aload_n (i := 0) (some a5) dL_law_849 rfl rfl ?_
        refine ax_iload_n (i := 3) dL_law_850 rfl rfl ?_
        refine ax_iconst (1 : Int32) dL_law_851 k32_1 ?_
        refine ax_iadd dL_law_852 ?_
        replace hf := bd1_s hf
        obtain ⟨x127, e_x127, hf⟩ := hf
        refine ax_iald dL_law_853 e_x127 ?_
        replace hf := bd2_s hf
        obtain ⟨x128, h129, e_x128, hf⟩ := hf
        obtain ⟨k_e_x128, e_x128⟩ := cv_s e_x128
        refine ax_callV (As := [.int x127]) (rest := [.int x125]) (c_M_put e_x128) ml_1424 cm_M_put rfl k_e_x128 (Nat.le_trans (Nat.le_of_ble_eq_true rfl) hR1) (Nat.le_trans (Nat.le_of_ble_eq_true rfl) hR2) rfl rfl (Nat.le_of_ble_eq_true rfl) dL_law_854 ?_
        replace hf := ite_c hf
        rcases hf with ⟨hc, hf⟩ | ⟨hc, hf⟩
        · refine ax_icmp_eqT 1384 dL_law_857 (by decide) hc ?_
          refine ax_iinc (i := 3) (z3 + (5 : Int32)) [some (va_rf (some a5)), some (va_rf (some y1)), some (va_rf (some y2)), some (.int (z3 + (5 : Int32)))] dL_law_1384 rfl (iic k32_5) (Or.inr (c1r rfl)) rfl ?_
          refine ax_goto 18 dL_law_1387 (by decide) ?_
          exact ih (z3 + (5 : Int32)) h129 hf
        · refine ax_icmp_eqF 1384 dL_law_857 (by decide) hc ?_
          refine ax_iconst (0 : Int32) dL_law_860 k32_0 ?_
          cases hf
          exact Hr (Or.inl rfl) _ _ dL_law_861
      replace hf := ite_c hf
      rcases hf with ⟨hc, hf⟩ | ⟨hn20, hf⟩
      · refine ax_tsIn 862 dL_law_32 20 (by rw [hc]; decide) (by decide) rfl (by decide) ?_
        refine ax_aload_n (i := 1) (some y1) dL_law_862 rfl rfl ?_
        replace hf := bd2_s hf
        obtain ⟨x120, h121, e_x120, hf⟩ := hf
        obtain ⟨k_e_x120, e_x120⟩ := cv_s e_x120
        refine ax_callV (As := []) (rest := []) (c_C_empty e_x120) ml_740 cm_C_empty rfl k_e_x120 (Nat.le_trans (Nat.le_of_ble_eq_true rfl) hR1) (Nat.le_trans (Nat.le_of_ble_eq_true rfl) hR2) rfl rfl (Nat.le_of_ble_eq_true rfl) dL_law_863 ?_
        refine ax_aload_n (i := 2) (some y2) dL_law_866 rfl rfl ?_
        replace hf := bd2_s hf
        obtain ⟨x122, h123, e_x122, hf⟩ := hf
        obtain ⟨k_e_x122, e_x122⟩ := cv_s e_x122
        refine ax_callV (As := []) (rest := [.int x120]) (c_M_empty e_x122) ml_1428 cm_M_empty rfl k_e_x122 (Nat.le_trans (Nat.le_of_ble_eq_true rfl) hR1) (Nat.le_trans (Nat.le_of_ble_eq_true rfl) hR2) rfl rfl (Nat.le_of_ble_eq_true rfl) dL_law_867 ?_
        replace hf := ite_c hf
        rcases hf with ⟨hc, hf⟩ | ⟨hc, hf⟩
        · refine ax_icmp_eqT 1384 dL_law_870 (by decide) hc ?_
          refine ax_iinc (i := 3) (z3 + (5 : Int32)) [some (va_rf (some a5)), some (va_rf (some y1)), some (va_rf (some y2)), some (.int (z3 + (5 : Int32)))] dL_law_1384 rfl (iic k32_5) (Or.inr (c1r rfl)) rfl ?_
          refine ax_goto 18 dL_law_1387 (by decide) ?_
          exact ih (z3 + (5 : Int32)) h123 hf
        · refine ax_icmp_eqF 1384 dL_law_870 (by decide) hc ?_
          refine ax_iconst (0 : Int32) dL_law_873 k32_0 ?_
          cases hf
          exact Hr (Or.inl rfl) _ _ dL_law_874
      replace hf := ite_c hf
      rcases hf with ⟨hc, hf⟩ | ⟨hn21, hf⟩
      · refine ax_tsIn 875 dL_law_32 21 (by rw [hc]; decide) (by decide) rfl (by decide) ?_
        refine ax_aload_n (i := 1) (some y1) dL_law_875 rfl rfl ?_
        refine ax_aload_n (i := 0) (some a5) dL_law_876 rfl rfl ?_
        refine ax_iload_n (i := 3) dL_law_877 rfl rfl ?_
        refine ax_iconst (1 : Int32) dL_law_878 k32_1 ?_
        refine ax_iadd dL_law_879 ?_
        replace hf := bd1_s hf
        obtain ⟨x116, e_x116, hf⟩ := hf
        refine ax_iald dL_law_880 e_x116 ?_
        replace hf := bd1_s hf
        obtain ⟨x117, e_x117, hf⟩ := hf
        obtain ⟨k_e_x117, e_x117⟩ := cv_s e_x117
        refine ax_callV (As := [.int x116]) (rest := []) (c_C_at e_x117) ml_744 cm_C_at rfl k_e_x117 (Nat.le_trans (Nat.le_of_ble_eq_true rfl) hR1) (Nat.le_trans (Nat.le_of_ble_eq_true rfl) hR2) rfl rfl (Nat.le_of_ble_eq_true rfl) dL_law_881 ?_
        refine ax_aload_n (i := 2) (some y2) dL_law_884 rfl rfl ?_
        refine ax_aload_n (i := 0) (some a5) dL_law_885 rfl rfl ?_
        refine ax_iload_n (i := 3) dL_law_886 rfl rfl ?_
        refine ax_iconst (1 : Int32) dL_law_887 k32_1 ?_
        refine ax_iadd dL_law_888 ?_
        replace hf := bd1_s hf
        obtain ⟨x118, e_x118, hf⟩ := hf
        refine ax_iald dL_law_889 e_x118 ?_
        replace hf := bd1_s hf
        obtain ⟨x119, e_x119, hf⟩ := hf
        obtain ⟨k_e_x119, e_x119⟩ := cv_s e_x119
        refine ax_callV (As := [.int x118]) (rest := [.int x117]) (c_M_at e_x119) ml_1432 cm_M_at rfl k_e_x119 (Nat.le_trans (Nat.le_of_ble_eq_true rfl) hR1) (Nat.le_trans (Nat.le_of_ble_eq_true rfl) hR2) rfl rfl (Nat.le_of_ble_eq_true rfl) dL_law_890 ?_
        replace hf := ite_c hf
        rcases hf with ⟨hc, hf⟩ | ⟨hc, hf⟩
        · refine ax_icmp_eqT 1384 dL_law_893 (by decide) hc ?_
          refine ax_iinc (i := 3) (z3 + (5 : Int32)) [some (va_rf (some a5)), some (va_rf (some y1)), some (va_rf (some y2)), some (.int (z3 + (5 : Int32)))] dL_law_1384 rfl (iic k32_5) (Or.inr (c1r rfl)) rfl ?_
          refine ax_goto 18 dL_law_1387 (by decide) ?_
          exact ih (z3 + (5 : Int32)) h hf
        · refine ax_icmp_eqF 1384 dL_law_893 (by decide) hc ?_
          refine ax_iconst (0 : Int32) dL_law_896 k32_0 ?_
          cases hf
          exact Hr (Or.inl rfl) _ _ dL_law_897
      replace hf := ite_c hf
      rcases hf with ⟨hc, hf⟩ | ⟨hn22, hf⟩
      · refine ax_tsIn 898 dL_law_32 22 (by rw [hc]; decide) (by decide) rfl (by decide) ?_
        refine ax_aload_n (i := 1) (some y1) dL_law_898 rfl rfl ?_
        refine ax_aload_n (i := 0) (some a5) dL_law_899 rfl rfl ?_
        refine ax_iload_n (i := 3) dL_law_900 rfl rfl ?_
        refine ax_iconst (1 : Int32) dL_law_901 k32_1 ?_
        refine ax_iadd dL_law_902 ?_
        replace hf := bd1_s hf
        obtain ⟨x110, e_x110, hf⟩ := hf
        refine ax_iald dL_law_903 e_x110 ?_
        replace hf := bd2_s hf
        obtain ⟨x111, h112, e_x111, hf⟩ := hf
        obtain ⟨k_e_x111, e_x111⟩ := cv_s e_x111
        refine ax_callV (As := [.int x110]) (rest := []) (c_C_stops e_x111) ml_748 cm_C_stops rfl k_e_x111 (Nat.le_trans (Nat.le_of_ble_eq_true rfl) hR1) (Nat.le_trans (Nat.le_of_ble_eq_true rfl) hR2) rfl rfl (Nat.le_of_ble_eq_true rfl) dL_law_904 ?_
        refine ax_aload_n (i := 2) (some y2) dL_law_907 rfl rfl ?_
        refine ax_aload_n (i := 0) (some a5) dL_law_908 rfl rfl ?_
        refine ax_iload_n (i := 3) dL_law_909 rfl rfl ?_
        refine ax_iconst (1 : Int32) dL_law_910 k32_1 ?_
        refine ax_iadd dL_law_911 ?_
        replace hf := bd1_s hf
        obtain ⟨x113, e_x113, hf⟩ := hf
        refine ax_iald dL_law_912 e_x113 ?_
        replace hf := bd2_s hf
        obtain ⟨x114, h115, e_x114, hf⟩ := hf
        obtain ⟨k_e_x114, e_x114⟩ := cv_s e_x114
        refine ax_callV (As := [.int x113]) (rest := [.int x111]) (c_M_stops e_x114) ml_1436 cm_M_stops rfl k_e_x114 (Nat.le_trans (Nat.le_of_ble_eq_true rfl) hR1) (Nat.le_trans (Nat.le_of_ble_eq_true rfl) hR2) rfl rfl (Nat.le_of_ble_eq_true rfl) dL_law_913 ?_
        replace hf := ite_c hf
        rcases hf with ⟨hc, hf⟩ | ⟨hc, hf⟩
        · refine ax_icmp_eqT 1384 dL_law_916 (by decide) hc ?_
          refine ax_iinc (i := 3) (z3 + (5 : Int32)) [some (va_rf (some a5)), some (va_rf (some y1)), some (va_rf (some y2)), some (.int (z3 + (5 : Int32)))] dL_law_1384 rfl (iic k32_5) (Or.inr (c1r rfl)) rfl ?_
          refine ax_goto 18 dL_law_1387 (by decide) ?_
          exact ih (z3 + (5 : Int32)) h115 hf
        · refine ax_icmp_eqF 1384 dL_law_916 (by decide) hc ?_
          refine ax_iconst (0 : Int32) dL_law_919 k32_0 ?_
          cases hf
          exact Hr (Or.inl rfl) _ _ dL_law_920
      replace hf := ite_c hf
      rcases hf with ⟨hc, hf⟩ | ⟨hn23, hf⟩
      · refine ax_tsIn 921 dL_law_32 23 (by rw [hc]; decide) (by decide) rfl (by decide) ?_
        refine ax_aload_n (i := 1) (some y1) dL_law_921 rfl rfl ?_
        refine ax_aload_n (i := 0) (some a5) dL_law_922 rfl rfl ?_
        refine ax_iload_n (i := 3) dL_law_923 rfl rfl ?_
        refine ax_iconst (1 : Int32) dL_law_924 k32_1 ?_
        refine ax_iadd dL_law_925 ?_
        replace hf := bd1_s hf
        obtain ⟨x104, e_x104, hf⟩ := hf
        refine ax_iald dL_law_926 e_x104 ?_
        replace hf := bd2_s hf
        obtain ⟨x105, h106, e_x105, hf⟩ := hf
        obtain ⟨k_e_x105, e_x105⟩ := cv_s e_x105
        refine ax_callV (As := [.int x104]) (rest := []) (c_C_after e_x105) ml_794 cm_C_after rfl k_e_x105 (Nat.le_trans (Nat.le_of_ble_eq_true rfl) hR1) (Nat.le_trans (Nat.le_of_ble_eq_true rfl) hR2) rfl rfl (Nat.le_of_ble_eq_true rfl) dL_law_927 ?_
        refine ax_aload_n (i := 2) (some y2) dL_law_930 rfl rfl ?_
        refine ax_aload_n (i := 0) (some a5) dL_law_931 rfl rfl ?_
        refine ax_iload_n (i := 3) dL_law_932 rfl rfl ?_
        refine ax_iconst (1 : Int32) dL_law_933 k32_1 ?_
        refine ax_iadd dL_law_934 ?_
        replace hf := bd1_s hf
        obtain ⟨x107, e_x107, hf⟩ := hf
        refine ax_iald dL_law_935 e_x107 ?_
        replace hf := bd2_s hf
        obtain ⟨x108, h109, e_x108, hf⟩ := hf
        obtain ⟨k_e_x108, e_x108⟩ := cv_s e_x108
        refine ax_callV (As := [.int x107]) (rest := [.int x105]) (c_M_after e_x108) ml_1460 cm_M_after rfl k_e_x108 (Nat.le_trans (Nat.le_of_ble_eq_true rfl) hR1) (Nat.le_trans (Nat.le_of_ble_eq_true rfl) hR2) rfl rfl (Nat.le_of_ble_eq_true rfl) dL_law_936 ?_
        replace hf := ite_c hf
        rcases hf with ⟨hc, hf⟩ | ⟨hc, hf⟩
        · refine ax_icmp_eqT 1384 dL_law_939 (by decide) hc ?_
          refine ax_iinc (i := 3) (z3 + (5 : Int32)) [some (va_rf (some a5)), some (va_rf (some y1)), some (va_rf (some y2)), some (.int (z3 + (5 : Int32)))] dL_law_1384 rfl (iic k32_5) (Or.inr (c1r rfl)) rfl ?_
          refine ax_goto 18 dL_law_1387 (by decide) ?_
          exact ih (z3 + (5 : Int32)) h109 hf
        · refine ax_icmp_eqF 1384 dL_law_939 (by decide) hc ?_
          refine ax_iconst (0 : Int32) dL_law_942 k32_0 ?_
          cases hf
          exact Hr (Or.inl rfl) _ _ dL_law_943
      replace hf := ite_c hf
      rcases hf with ⟨hc, hf⟩ | ⟨hn24, hf⟩
      · refine ax_tsIn 944 dL_law_32 24 (by rw [hc]; decide) (by decide) rfl (by decide) ?_
        refine ax_aload_n (i := 1) (some y1) dL_law_944 rfl rfl ?_
        refine ax_aload_n (i := 0) (some a5) dL_law_945 rfl rfl ?_
        refine ax_iload_n (i := 3) dL_law_946 rfl rfl ?_
        refine ax_iconst (1 : Int32) dL_law_947 k32_1 ?_
        refine ax_iadd dL_law_948 ?_
        replace hf := bd1_s hf
        obtain ⟨x96, e_x96, hf⟩ := hf
        refine ax_iald dL_law_949 e_x96 ?_
        refine ax_aload_n (i := 0) (some a5) dL_law_950 rfl rfl ?_
        refine ax_iload_n (i := 3) dL_law_951 rfl rfl ?_
        refine ax_iconst (2 : Int32) dL_law_952 k32_2 ?_
        refine ax_iadd dL_law_953 ?_
        replace hf := bd1_s hf
        obtain ⟨x97, e_x97, hf⟩ := hf
        refine ax_iald dL_law_954 e_x97 ?_
        replace hf := bd2_s hf
        obtain ⟨x98, h99, e_x98, hf⟩ := hf
        obtain ⟨k_e_x98, e_x98⟩ := cv_s e_x98
        refine ax_callV (As := [.int x96, .int x97]) (rest := []) (c_C_taint e_x98) ml_806 cm_C_taint rfl k_e_x98 (Nat.le_trans (Nat.le_of_ble_eq_true rfl) hR1) (Nat.le_trans (Nat.le_of_ble_eq_true rfl) hR2) rfl rfl (Nat.le_of_ble_eq_true rfl) dL_law_955 ?_
        refine ax_aload_n (i := 2) (some y2) dL_law_958 rfl rfl ?_
        refine ax_aload_n (i := 0) (some a5) dL_law_959 rfl rfl ?_
        refine ax_iload_n (i := 3) dL_law_960 rfl rfl ?_
        refine ax_iconst (1 : Int32) dL_law_961 k32_1 ?_
        refine ax_iadd dL_law_962 ?_
        replace hf := bd1_s hf
        obtain ⟨x100, e_x100, hf⟩ := hf
        refine ax_iald dL_law_963 e_x100 ?_
        refine ax_aload_n (i := 0) (some a5) dL_law_964 rfl rfl ?_
        refine ax_iload_n (i := 3) dL_law_965 rfl rfl ?_
        refine ax_iconst (2 : Int32) dL_law_966 k32_2 ?_
        refine ax_iadd dL_law_967 ?_
        replace hf := bd1_s hf
        obtain ⟨x101, e_x101, hf⟩ := hf
        refine ax_iald dL_law_968 e_x101 ?_
        replace hf := bd2_s hf
        obtain ⟨x102, h103, e_x102, hf⟩ := hf
        obtain ⟨k_e_x102, e_x102⟩ := cv_s e_x102
        refine ax_callV (As := [.int x100, .int x101]) (rest := [.int x98]) (c_M_taint e_x102) ml_1464 cm_M_taint rfl k_e_x102 (Nat.le_trans (Nat.le_of_ble_eq_true rfl) hR1) (Nat.le_trans (Nat.le_of_ble_eq_true rfl) hR2) rfl rfl (Nat.le_of_ble_eq_true rfl) dL_law_969 ?_
        replace hf := ite_c hf
        rcases hf with ⟨hc, hf⟩ | ⟨hc, hf⟩
        · refine ax_icmp_eqT 1384 dL_law_972 (by decide) hc ?_
          refine ax_iinc (i := 3) (z3 + (5 : Int32)) [some (va_rf (some a5)), some (va_rf (some y1)), some (va_rf (some y2)), some (.int (z3 + (5 : Int32)))] dL_law_1384 rfl (iic k32_5) (Or.inr (c1r rfl)) rfl ?_
          refine ax_goto 18 dL_law_1387 (by decide) ?_
          exact ih (z3 + (5 : Int32)) h103 hf
        · refine ax_icmp_eqF 1384 dL_law_972 (by decide) hc ?_
          refine ax_iconst (0 : Int32) dL_law_975 k32_0 ?_
          cases hf
          exact Hr (Or.inl rfl) _ _ dL_law_976
      replace hf := ite_c hf
      rcases hf with ⟨hc, hf⟩ | ⟨hn25, hf⟩
      · refine ax_tsIn 977 dL_law_32 25 (by rw [hc]; decide) (by decide) rfl (by decide) ?_
        refine ax_aload_n (i := 1) (some y1) dL_law_977 rfl rfl ?_
        replace hf := bd1_s hf
        obtain ⟨x94, e_x94, hf⟩ := hf
        obtain ⟨k_e_x94, e_x94⟩ := cv_s e_x94
        refine ax_callV (As := []) (rest := []) (c_C_costs e_x94) ml_811 cm_C_costs rfl k_e_x94 (Nat.le_trans (Nat.le_of_ble_eq_true rfl) hR1) (Nat.le_trans (Nat.le_of_ble_eq_true rfl) hR2) rfl rfl (Nat.le_of_ble_eq_true rfl) dL_law_978 ?_
        refine ax_aload_n (i := 2) (some y2) dL_law_981 rfl rfl ?_
        replace hf := bd1_s hf
        obtain ⟨x95, e_x95, hf⟩ := hf
        obtain ⟨k_e_x95, e_x95⟩ := cv_s e_x95
        refine ax_callV (As := []) (rest := [.int x94]) (c_M_costs e_x95) ml_1468 cm_M_costs rfl k_e_x95 (Nat.le_trans (Nat.le_of_ble_eq_true rfl) hR1) (Nat.le_trans (Nat.le_of_ble_eq_true rfl) hR2) rfl rfl (Nat.le_of_ble_eq_true rfl) dL_law_982 ?_
        replace hf := ite_c hf
        rcases hf with ⟨hc, hf⟩ | ⟨hc, hf⟩
        · refine ax_icmp_eqT 1384 dL_law_985 (by decide) hc ?_
          refine ax_iinc (i := 3) (z3 + (5 : Int32)) [some (va_rf (some a5)), some (va_rf (some y1)), some (va_rf (some y2)), some (.int (z3 + (5 : Int32)))] dL_law_1384 rfl (iic k32_5) (Or.inr (c1r rfl)) rfl ?_
          refine ax_goto 18 dL_law_1387 (by decide) ?_
          exact ih (z3 + (5 : Int32)) h hf
        · refine ax_icmp_eqF 1384 dL_law_985 (by decide) hc ?_
          refine ax_iconst (0 : Int32) dL_law_988 k32_0 ?_
          cases hf
          exact Hr (Or.inl rfl) _ _ dL_law_989
      replace hf := ite_c hf
      rcases hf with ⟨hc, hf⟩ | ⟨hn26, hf⟩
      · refine ax_tsIn 990 dL_law_32 26 (by rw [hc]; decide) (by decide) rfl (by decide) ?_
        refine ax_aload_n (i := 1) (some y1) dL_law_990 rfl rfl ?_
        refine ax_aload_n (i := 0) (some a5) dL_law_991 rfl rfl ?_
        refine ax_iload_n (i := 3) dL_law_992 rfl rfl ?_
        refine ax_iconst (1 : Int32) dL_law_993 k32_1 ?_
        refine ax_iadd dL_law_994 ?_
        replace hf := bd1_s hf
        obtain ⟨x84, e_x84, hf⟩ := hf
        refine ax_iald dL_law_995 e_x84 ?_
        refine ax_aload_n (i := 0) (some a5) dL_law_996 rfl rfl ?_
        refine ax_iload_n (i := 3) dL_law_997 rfl rfl ?_
        refine ax_iconst (2 : Int32) dL_law_998 k32_2 ?_
        refine ax_iadd dL_law_999 ?_
        replace hf := bd1_s hf
        obtain ⟨x85, e_x85, hf⟩ := hf
        refine ax_iald dL_law_1000 e_x85 ?_
        refine ax_aload_n (i := 0) (some a5) dL_law_1001 rfl rfl ?_
        refine ax_iload_n (i := 3) dL_law_1002 rfl rfl ?_
        refine ax_iconst (3 : Int32) dL_law_1003 k32_3 ?_
        refine ax_iadd dL_law_1004 ?_
        replace hf := bd1_s hf
        obtain ⟨x86, e_x86, hf⟩ := hf
        refine ax_iald dL_law_1005 e_x86 ?_
        replace hf := bd2_s hf
        obtain ⟨x87, h88, e_x87, hf⟩ := hf
        obtain ⟨k_e_x87, e_x87⟩ := cv_s e_x87
        refine ax_callV (As := [.int x84, .int x85, .int x86]) (rest := []) (c_C_plan e_x87) ml_819 cm_C_plan rfl k_e_x87 (Nat.le_trans (Nat.le_of_ble_eq_true rfl) hR1) (Nat.le_trans (Nat.le_of_ble_eq_true rfl) hR2) rfl rfl (Nat.le_of_ble_eq_true rfl) dL_law_1006 ?_
        refine ax_aload_n (i := 2) (some y2) dL_law_1009 rfl rfl ?_
        refine ax_aload_n (i := 0) (some a5) dL_law_1010 rfl rfl ?_
        refine ax_iload_n (i := 3) dL_law_1011 rfl rfl ?_
        refine ax_iconst (1 : Int32) dL_law_1012 k32_1 ?_
        refine ax_iadd dL_law_1013 ?_
        replace hf := bd1_s hf
        obtain ⟨x89, e_x89, hf⟩ := hf
        refine ax_iald dL_law_1014 e_x89 ?_
        refine ax_aload_n (i := 0) (some a5) dL_law_1015 rfl rfl ?_
        refine ax_iload_n (i := 3) dL_law_1016 rfl rfl ?_
        refine ax_iconst (2 : Int32) dL_law_1017 k32_2 ?_
        refine ax_iadd dL_law_1018 ?_
        replace hf := bd1_s hf
        obtain ⟨x90, e_x90, hf⟩ := hf
        refine ax_iald dL_law_1019 e_x90 ?_
        refine ax_aload_n (i := 0) (some a5) dL_law_1020 rfl rfl ?_
        refine ax_iload_n (i := 3) dL_law_1021 rfl rfl ?_
        refine ax_iconst (3 : Int32) dL_law_1022 k32_3 ?_
        refine ax_iadd dL_law_1023 ?_
        replace hf := bd1_s hf
        obtain ⟨x91, e_x91, hf⟩ := hf
        refine ax_iald dL_law_1024 e_x91 ?_
        replace hf := bd2_s hf
        obtain ⟨x92, h93, e_x92, hf⟩ := hf
        obtain ⟨k_e_x92, e_x92⟩ := cv_s e_x92
        refine ax_callV (As := [.int x89, .int x90, .int x91]) (rest := [.int x87]) (c_M_plan e_x92) ml_1476 cm_M_plan rfl k_e_x92 (Nat.le_trans (Nat.le_of_ble_eq_true rfl) hR1) (Nat.le_trans (Nat.le_of_ble_eq_true rfl) hR2) rfl rfl (Nat.le_of_ble_eq_true rfl) dL_law_1025 ?_
        replace hf := ite_c hf
        rcases hf with ⟨hc, hf⟩ | ⟨hc, hf⟩
        · refine ax_icmp_eqT 1384 dL_law_1028 (by decide) hc ?_
          refine ax_iinc (i := 3) (z3 + (5 : Int32)) [some (va_rf (some a5)), some (va_rf (some y1)), some (va_rf (some y2)), some (.int (z3 + (5 : Int32)))] dL_law_1384 rfl (iic k32_5) (Or.inr (c1r rfl)) rfl ?_
          refine ax_goto 18 dL_law_1387 (by decide) ?_
          exact ih (z3 + (5 : Int32)) h93 hf
        · refine ax_icmp_eqF 1384 dL_law_1028 (by decide) hc ?_
          refine ax_iconst (0 : Int32) dL_law_1031 k32_0 ?_
          cases hf
          exact Hr (Or.inl rfl) _ _ dL_law_1032
      replace hf := ite_c hf
      rcases hf with ⟨hc, hf⟩ | ⟨hn27, hf⟩
      · refine ax_tsIn 1033 dL_law_32 27 (by rw [hc]; decide) (by decide) rfl (by decide) ?_
        refine ax_aload_n (i := 1) (some y1) dL_law_1033 rfl rfl ?_
        refine ax_aload_n (i := 0) (some a5) dL_law_1034 rfl rfl ?_
        refine ax_iload_n (i := 3) dL_law_1035 rfl rfl ?_
        refine ax_iconst (1 : Int32) dL_law_1036 k32_1 ?_
        refine ax_iadd dL_law_1037 ?_
        replace hf := bd1_s hf
        obtain ⟨x78, e_x78, hf⟩ := hf
        refine ax_iald dL_law_1038 e_x78 ?_
        refine ax_aload_n (i := 0) (some a5) dL_law_1039 rfl rfl ?_
        refine ax_iload_n (i := 3) dL_law_1040 rfl rfl ?_
        refine ax_iconst (2 : Int32) dL_law_1041 k32_2 ?_
        refine ax_iadd dL_law_1042 ?_
        replace hf := bd1_s hf
        obtain ⟨x79, e_x79, hf⟩ := hf
        refine ax_iald dL_law_1043 e_x79 ?_
        replace hf := bd1_s hf
        obtain ⟨x80, e_x80, hf⟩ := hf
        obtain ⟨k_e_x80, e_x80⟩ := cv_s e_x80
        refine ax_callV (As := [.int x78, .int x79]) (rest := []) (c_C_chance e_x80) ml_832 cm_C_chance rfl k_e_x80 (Nat.le_trans (Nat.le_of_ble_eq_true rfl) hR1) (Nat.le_trans (Nat.le_of_ble_eq_true rfl) hR2) rfl rfl (Nat.le_of_ble_eq_true rfl) dL_law_1044 ?_
        refine ax_aload_n (i := 2) (some y2) dL_law_1047 rfl rfl ?_
        refine ax_aload_n (i := 0) (some a5) dL_law_1048 rfl rfl ?_
        refine ax_iload_n (i := 3) dL_law_1049 rfl rfl ?_
        refine ax_iconst (1 : Int32) dL_law_1050 k32_1 ?_
        refine ax_iadd dL_law_1051 ?_
        replace hf := bd1_s hf
        obtain ⟨x81, e_x81, hf⟩ := hf
        refine ax_iald dL_law_1052 e_x81 ?_
        refine ax_aload_n (i := 0) (some a5) dL_law_1053 rfl rfl ?_
        refine ax_iload_n (i := 3) dL_law_1054 rfl rfl ?_
        refine ax_iconst (2 : Int32) dL_law_1055 k32_2 ?_
        refine ax_iadd dL_law_1056 ?_
        replace hf := bd1_s hf
        obtain ⟨x82, e_x82, hf⟩ := hf
        refine ax_iald dL_law_1057 e_x82 ?_
        replace hf := bd1_s hf
        obtain ⟨x83, e_x83, hf⟩ := hf
        obtain ⟨k_e_x83, e_x83⟩ := cv_s e_x83
        refine ax_callV (As := [.int x81, .int x82]) (rest := [.long x80]) (c_M_chance e_x83) ml_1480 cm_M_chance rfl k_e_x83 (Nat.le_trans (Nat.le_of_ble_eq_true rfl) hR1) (Nat.le_trans (Nat.le_of_ble_eq_true rfl) hR2) rfl rfl (Nat.le_of_ble_eq_true rfl) dL_law_1058 ?_
        refine ax_lcmp dL_law_1061 ?_
        replace hf := ite_c hf
        rcases hf with ⟨hc, hf⟩ | ⟨hc, hf⟩
        · refine ax_if_eqT 1384 dL_law_1062 (by decide) hc ?_
          refine ax_iinc (i := 3) (z3 + (5 : Int32)) [some (va_rf (some a5)), some (va_rf (some y1)), some (va_rf (some y2)), some (.int (z3 + (5 : Int32)))] dL_law_1384 rfl (iic k32_5) (Or.inr (c1r rfl)) rfl ?_
          refine ax_goto 18 dL_law_1387 (by decide) ?_
          exact ih (z3 + (5 : Int32)) h hf
        · refine ax_if_eqF 1384 dL_law_1062 (by decide) hc ?_
          refine ax_iconst (0 : Int32) dL_law_1065 k32_0 ?_
          cases hf
          exact Hr (Or.inl rfl) _ _ dL_law_1066
      replace hf := ite_c hf
      rcases hf with ⟨hc, hf⟩ | ⟨hn28, hf⟩
      · refine ax_tsIn 1067 dL_law_32 28 (by rw [hc]; decide) (by decide) rfl (by decide) ?_
        refine ax_aload_n (i := 1) (some y1) dL_law_1067 rfl rfl ?_
        refine ax_aload_n (i := 0) (some a5) dL_law_1068 rfl rfl ?_
        refine ax_iload_n (i := 3) dL_law_1069 rfl rfl ?_
        refine ax_iconst (1 : Int32) dL_law_1070 k32_1 ?_
        refine ax_iadd dL_law_1071 ?_
        replace hf := bd1_s hf
        obtain ⟨x72, e_x72, hf⟩ := hf
        refine ax_iald dL_law_1072 e_x72 ?_
        refine ax_aload_n (i := 0) (some a5) dL_law_1073 rfl rfl ?_
        refine ax_iload_n (i := 3) dL_law_1074 rfl rfl ?_
        refine ax_iconst (2 : Int32) dL_law_1075 k32_2 ?_
        refine ax_iadd dL_law_1076 ?_
        replace hf := bd1_s hf
        obtain ⟨x73, e_x73, hf⟩ := hf
        refine ax_iald dL_law_1077 e_x73 ?_
        replace hf := bd1_s hf
        obtain ⟨x74, e_x74, hf⟩ := hf
        obtain ⟨k_e_x74, e_x74⟩ := cv_s e_x74
        refine ax_callV (As := [.int x72, .int x73]) (rest := []) (c_C_mean e_x74) ml_857 cm_C_mean rfl k_e_x74 (Nat.le_trans (Nat.le_of_ble_eq_true rfl) hR1) (Nat.le_trans (Nat.le_of_ble_eq_true rfl) hR2) rfl rfl (Nat.le_of_ble_eq_true rfl) dL_law_1078 ?_
        refine ax_aload_n (i := 2) (some y2) dL_law_1081 rfl rfl ?_
        refine ax_aload_n (i := 0) (some a5) dL_law_1082 rfl rfl ?_
        refine ax_iload_n (i := 3) dL_law_1083 rfl rfl ?_
        refine ax_iconst (1 : Int32) dL_law_1084 k32_1 ?_
        refine ax_iadd dL_law_1085 ?_
        replace hf := bd1_s hf
        obtain ⟨x75, e_x75, hf⟩ := hf
        refine ax_iald dL_law_1086 e_x75 ?_
        refine ax_aload_n (i := 0) (some a5) dL_law_1087 rfl rfl ?_
        refine ax_iload_n (i := 3) dL_law_1088 rfl rfl ?_
        refine ax_iconst (2 : Int32) dL_law_1089 k32_2 ?_
        refine ax_iadd dL_law_1090 ?_
        replace hf := bd1_s hf
        obtain ⟨x76, e_x76, hf⟩ := hf
        refine ax_iald dL_law_1091 e_x76 ?_
        replace hf := bd1_s hf
        obtain ⟨x77, e_x77, hf⟩ := hf
        obtain ⟨k_e_x77, e_x77⟩ := cv_s e_x77
        refine ax_callV (As := [.int x75, .int x76]) (rest := [.long x74]) (c_M_mean e_x77) ml_1495 cm_M_mean rfl k_e_x77 (Nat.le_trans (Nat.le_of_ble_eq_true rfl) hR1) (Nat.le_trans (Nat.le_of_ble_eq_true rfl) hR2) rfl rfl (Nat.le_of_ble_eq_true rfl) dL_law_1092 ?_
        refine ax_lcmp dL_law_1095 ?_
        replace hf := ite_c hf
        rcases hf with ⟨hc, hf⟩ | ⟨hc, hf⟩
        · refine ax_if_eqT 1384 dL_law_1096 (by decide) hc ?_
          refine ax_iinc (i := 3) (z3 + (5 : Int32)) [some (va_rf (some a5)), some (va_rf (some y1)), some (va_rf (some y2)), some (.int (z3 + (5 : Int32)))] dL_law_1384 rfl (iic k32_5) (Or.inr (c1r rfl)) rfl ?_
          refine ax_goto 18 dL_law_1387 (by decide) ?_
          exact ih (z3 + (5 : Int32)) h hf
        · refine ax_if_eqF 1384 dL_law_1096 (by decide) hc ?_
          refine ax_iconst (0 : Int32) dL_law_1099 k32_0 ?_
          cases hf
          exact Hr (Or.inl rfl) _ _ dL_law_1100
      replace hf := ite_c hf
      rcases hf with ⟨hc, hf⟩ | ⟨hn29, hf⟩
      · refine ax_tsIn 1101 dL_law_32 29 (by rw [hc]; decide) (by decide) rfl (by decide) ?_
        refine ax_aload_n (i := 1) (some y1) dL_law_1101 rfl rfl ?_
        refine ax_aload_n (i := 0) (some a5) dL_law_1102 rfl rfl ?_
        refine ax_iload_n (i := 3) dL_law_1103 rfl rfl ?_
        refine ax_iconst (1 : Int32) dL_law_1104 k32_1 ?_
        refine ax_iadd dL_law_1105 ?_
        replace hf := bd1_s hf
        obtain ⟨x66, e_x66, hf⟩ := hf
        refine ax_iald dL_law_1106 e_x66 ?_
        replace hf := bd2_s hf
        obtain ⟨x67, h68, e_x67, hf⟩ := hf
        obtain ⟨k_e_x67, e_x67⟩ := cv_s e_x67
        refine ax_callV (As := [.int x66]) (rest := []) (c_C_undone e_x67) ml_865 cm_C_undone rfl k_e_x67 (Nat.le_trans (Nat.le_of_ble_eq_true rfl) hR1) (Nat.le_trans (Nat.le_of_ble_eq_true rfl) hR2) rfl rfl (Nat.le_of_ble_eq_true rfl) dL_law_1107 ?_
        refine ax_aload_n (i := 2) (some y2) dL_law_1110 rfl rfl ?_
        refine ax_aload_n (i := 0) (some a5) dL_law_1111 rfl rfl ?_
        refine ax_iload_n (i := 3) dL_law_1112 rfl rfl ?_
        refine ax_iconst (1 : Int32) dL_law_1113 k32_1 ?_
        refine ax_iadd dL_law_1114 ?_
        replace hf := bd1_s hf
        obtain ⟨x69, e_x69, hf⟩ := hf
        refine ax_iald dL_law_1115 e_x69 ?_
        replace hf := bd2_s hf
        obtain ⟨x70, h71, e_x70, hf⟩ := hf
        obtain ⟨k_e_x70, e_x70⟩ := cv_s e_x70
        refine ax_callV (As := [.int x69]) (rest := [.int x67]) (c_M_undone e_x70) ml_1501 cm_M_undone rfl k_e_x70 (Nat.le_trans (Nat.le_of_ble_eq_true rfl) hR1) (Nat.le_trans (Nat.le_of_ble_eq_true rfl) hR2) rfl rfl (Nat.le_of_ble_eq_true rfl) dL_law_1116 ?_
        replace hf := ite_c hf
        rcases hf with ⟨hc, hf⟩ | ⟨hc, hf⟩
        · refine ax_icmp_eqT 1384 dL_law_1119 (by decide) hc ?_
          refine ax_iinc (i := 3) (z3 + (5 : Int32)) [some (va_rf (some a5)), some (va_rf (some y1)), some (va_rf (some y2)), some (.int (z3 + (5 : Int32)))] dL_law_1384 rfl (iic k32_5) (Or.inr (c1r rfl)) rfl ?_
          refine ax_goto 18 dL_law_1387 (by decide) ?_
          exact ih (z3 + (5 : Int32)) h71 hf
        · refine ax_icmp_eqF 1384 dL_law_1119 (by decide) hc ?_
          refine ax_iconst (0 : Int32) dL_law_1122 k32_0 ?_
          cases hf
          exact Hr (Or.inl rfl) _ _ dL_law_1123
      replace hf := ite_c hf
      rcases hf with ⟨hc, hf⟩ | ⟨hn30, hf⟩
      · refine ax_tsIn 1124 dL_law_32 30 (by rw [hc]; decide) (by decide) rfl (by decide) ?_
        refine ax_aload_n (i := 1) (some y1) dL_law_1124 rfl rfl ?_
        refine ax_aload_n (i := 0) (some a5) dL_law_1125 rfl rfl ?_
        refine ax_iload_n (i := 3) dL_law_1126 rfl rfl ?_
        refine ax_iconst (1 : Int32) dL_law_1127 k32_1 ?_
        refine ax_iadd dL_law_1128 ?_
        replace hf := bd1_s hf
        obtain ⟨x60, e_x60, hf⟩ := hf
        refine ax_iald dL_law_1129 e_x60 ?_
        replace hf := bd2_s hf
        obtain ⟨x61, h62, e_x61, hf⟩ := hf
        obtain ⟨k_e_x61, e_x61⟩ := cv_s e_x61
        refine ax_callV (As := [.int x60]) (rest := []) (c_C_begin e_x61) ml_879 cm_C_begin rfl k_e_x61 (Nat.le_trans (Nat.le_of_ble_eq_true rfl) hR1) (Nat.le_trans (Nat.le_of_ble_eq_true rfl) hR2) rfl rfl (Nat.le_of_ble_eq_true rfl) dL_law_1130 ?_
        refine ax_aload_n (i := 2) (some y2) dL_law_1133 rfl rfl ?_
        refine ax_aload_n (i := 0) (some a5) dL_law_1134 rfl rfl ?_
        refine ax_iload_n (i := 3) dL_law_1135 rfl rfl ?_
        refine ax_iconst (1 : Int32) dL_law_1136 k32_1 ?_
        refine ax_iadd dL_law_1137 ?_
        replace hf := bd1_s hf
        obtain ⟨x63, e_x63, hf⟩ := hf
        refine ax_iald dL_law_1138 e_x63 ?_
        replace hf := bd2_s hf
        obtain ⟨x64, h65, e_x64, hf⟩ := hf
        obtain ⟨k_e_x64, e_x64⟩ := cv_s e_x64
        refine ax_callV (As := [.int x63]) (rest := [.int x61]) (c_M_begin e_x64) ml_1509 cm_M_begin rfl k_e_x64 (Nat.le_trans (Nat.le_of_ble_eq_true rfl) hR1) (Nat.le_trans (Nat.le_of_ble_eq_true rfl) hR2) rfl rfl (Nat.le_of_ble_eq_true rfl) dL_law_1139 ?_
        replace hf := ite_c hf
        rcases hf with ⟨hc, hf⟩ | ⟨hc, hf⟩
        · refine ax_icmp_eqT 1384 dL_law_1142 (by decide) hc ?_
          refine ax_iinc (i := 3) (z3 + (5 : Int32)) [some (va_rf (some a5)), some (va_rf (some y1)), some (va_rf (some y2)), some (.int (z3 + (5 : Int32)))] dL_law_1384 rfl (iic k32_5) (Or.inr (c1r rfl)) rfl ?_
          refine ax_goto 18 dL_law_1387 (by decide) ?_
          exact ih (z3 + (5 : Int32)) h65 hf
        · refine ax_icmp_eqF 1384 dL_law_1142 (by decide) hc ?_
          refine ax_iconst (0 : Int32) dL_law_1145 k32_0 ?_
          cases hf
          exact Hr (Or.inl rfl) _ _ dL_law_1146
      replace hf := ite_c hf
      rcases hf with ⟨hc, hf⟩ | ⟨hn31, hf⟩
      · refine ax_tsIn 1147 dL_law_32 31 (by rw [hc]; decide) (by decide) rfl (by decide) ?_
        refine ax_aload_n (i := 1) (some y1) dL_law_1147 rfl rfl ?_
        refine ax_aload_n (i := 0) (some a5) dL_law_1148 rfl rfl ?_
        refine ax_iload_n (i := 3) dL_law_1149 rfl rfl ?_
        refine ax_iconst (1 : Int32) dL_law_1150 k32_1 ?_
        refine ax_iadd dL_law_1151 ?_
        replace hf := bd1_s hf
        obtain ⟨x52, e_x52, hf⟩ := hf
        refine ax_iald dL_law_1152 e_x52 ?_
        refine ax_aload_n (i := 0) (some a5) dL_law_1153 rfl rfl ?_
        refine ax_iload_n (i := 3) dL_law_1154 rfl rfl ?_
        refine ax_iconst (2 : Int32) dL_law_1155 k32_2 ?_
        refine ax_iadd dL_law_1156 ?_
        replace hf := bd1_s hf
        obtain ⟨x53, e_x53, hf⟩ := hf
        refine ax_iald dL_law_1157 e_x53 ?_
        replace hf := bd2_s hf
        obtain ⟨x54, h55, e_x54, hf⟩ := hf
        obtain ⟨k_e_x54, e_x54⟩ := cv_s e_x54
        refine ax_callV (As := [.int x52, .int x53]) (rest := []) (c_C_call e_x54) ml_883 cm_C_call rfl k_e_x54 (Nat.le_trans (Nat.le_of_ble_eq_true rfl) hR1) (Nat.le_trans (Nat.le_of_ble_eq_true rfl) hR2) rfl rfl (Nat.le_of_ble_eq_true rfl) dL_law_1158 ?_
        refine ax_aload_n (i := 2) (some y2) dL_law_1161 rfl rfl ?_
        refine ax_aload_n (i := 0) (some a5) dL_law_1162 rfl rfl ?_
        refine ax_iload_n (i := 3) dL_law_1163 rfl rfl ?_
        refine ax_iconst (1 : Int32) dL_law_1164 k32_1 ?_
        refine ax_iadd dL_law_1165 ?_
        replace hf := bd1_s hf
        obtain ⟨x56, e_x56, hf⟩ := hf
        refine ax_iald dL_law_1166 e_x56 ?_
        refine ax_aload_n (i := 0) (some a5) dL_law_1167 rfl rfl ?_
        refine ax_iload_n (i := 3) dL_law_1168 rfl rfl ?_
        refine ax_iconst (2 : Int32) dL_law_1169 k32_2 ?_
        refine ax_iadd dL_law_1170 ?_
        replace hf := bd1_s hf
        obtain ⟨x57, e_x57, hf⟩ := hf
        refine ax_iald dL_law_1171 e_x57 ?_
        replace hf := bd2_s hf
        obtain ⟨x58, h59, e_x58, hf⟩ := hf
        obtain ⟨k_e_x58, e_x58⟩ := cv_s e_x58
        refine ax_callV (As := [.int x56, .int x57]) (rest := [.int x54]) (c_M_call e_x58) ml_1513 cm_M_call rfl k_e_x58 (Nat.le_trans (Nat.le_of_ble_eq_true rfl) hR1) (Nat.le_trans (Nat.le_of_ble_eq_true rfl) hR2) rfl rfl (Nat.le_of_ble_eq_true rfl) dL_law_1172 ?_
        replace hf := ite_c hf
        rcases hf with ⟨hc, hf⟩ | ⟨hc, hf⟩
        · refine ax_icmp_eqT 1384 dL_law_1175 (by decide) hc ?_
          refine ax_iinc (i := 3) (z3 + (5 : Int32)) [some (va_rf (some a5)), some (va_rf (some y1)), some (va_rf (some y2)), some (.int (z3 + (5 : Int32)))] dL_law_1384 rfl (iic k32_5) (Or.inr (c1r rfl)) rfl ?_
          refine ax_goto 18 dL_law_1387 (by decide) ?_
          exact ih (z3 + (5 : Int32)) h59 hf
        · refine ax_icmp_eqF 1384 dL_law_1175 (by decide) hc ?_
          refine ax_iconst (0 : Int32) dL_law_1178 k32_0 ?_
          cases hf
          exact Hr (Or.inl rfl) _ _ dL_law_1179
      replace hf := ite_c hf
      rcases hf with ⟨hc, hf⟩ | ⟨hn32, hf⟩
      · refine ax_tsIn 1180 dL_law_32 32 (by rw [hc]; decide) (by decide) rfl (by decide) ?_
        refine ax_aload_n (i := 1) (some y1) dL_law_1180 rfl rfl ?_
        refine ax_aload_n (i := 0) (some a5) dL_law_1181 rfl rfl ?_
        refine ax_iload_n (i := 3) dL_law_1182 rfl rfl ?_
        refine ax_iconst (1 : Int32) dL_law_1183 k32_1 ?_
        refine ax_iadd dL_law_1184 ?_
        replace hf := bd1_s hf
        obtain ⟨x42, e_x42, hf⟩ := hf
        refine ax_iald dL_law_1185 e_x42 ?_
        refine ax_aload_n (i := 0) (some a5) dL_law_1186 rfl rfl ?_
        refine ax_iload_n (i := 3) dL_law_1187 rfl rfl ?_
        refine ax_iconst (2 : Int32) dL_law_1188 k32_2 ?_
        refine ax_iadd dL_law_1189 ?_
        replace hf := bd1_s hf
        obtain ⟨x43, e_x43, hf⟩ := hf
        refine ax_iald dL_law_1190 e_x43 ?_
        replace hf := bd1_s hf
        obtain ⟨x44, hT, hf⟩ := hf
        have K : AW l E mi_L_law R B Qf 1199 [some (va_rf (some a5)), some (va_rf (some y1)), some (va_rf (some y2)), some (.int z3)] [.int x44, .int x42, va_rf (some y1)] h := by
          clear hT
          replace hf := bd2_s hf
          obtain ⟨x45, h46, e_x45, hf⟩ := hf
          obtain ⟨k_e_x45, e_x45⟩ := cv_s e_x45
          refine ax_callV (As := [.int x42, .int x44]) (rest := []) (c_C_see e_x45) ml_926 cm_C_see rfl k_e_x45 (Nat.le_trans (Nat.le_of_ble_eq_true rfl) hR1) (Nat.le_trans (Nat.le_of_ble_eq_true rfl) hR2) rfl rfl (Nat.le_of_ble_eq_true rfl) dL_law_1199 ?_
          refine ax_aload_n (i := 2) (some y2) dL_law_1202 rfl rfl ?_
          refine ax_aload_n (i := 0) (some a5) dL_law_1203 rfl rfl ?_
          refine ax_iload_n (i := 3) dL_law_1204 rfl rfl ?_
          refine ax_iconst (1 : Int32) dL_law_1205 k32_1 ?_
          refine ax_iadd dL_law_1206 ?_
          replace hf := bd1_s hf
          obtain ⟨x47, e_x47, hf⟩ := hf
          refine ax_iald dL_law_1207 e_x47 ?_
          refine ax_aload_n (i := 0) (some a5) dL_law_1208 rfl rfl ?_
          refine ax_iload_n (i := 3) dL_law_1209 rfl rfl ?_
          refine ax_iconst (2 : Int32) dL_law_1210 k32_2 ?_
          refine ax_iadd dL_law_1211 ?_
          replace hf := bd1_s hf
          obtain ⟨x48, e_x48, hf⟩ := hf
          refine ax_iald dL_law_1212 e_x48 ?_
          replace hf := bd1_s hf
          obtain ⟨x49, hT, hf⟩ := hf
          have K : AW l E mi_L_law R B Qf 1221 [some (va_rf (some a5)), some (va_rf (some y1)), some (va_rf (some y2)), some (.int z3)] [.int x49, .int x47, va_rf (some y2), .int x45] h46 := by
            clear hT
            replace hf := bd2_s hf
            obtain ⟨x50, h51, e_x50, hf⟩ := hf
            obtain ⟨k_e_x50, e_x50⟩ := cv_s e_x50
            refine ax_callV (As := [.int x47, .int x49]) (rest := [.int x45]) (c_M_see e_x50) ml_1521 cm_M_see rfl k_e_x50 (Nat.le_trans (Nat.le_of_ble_eq_true rfl) hR1) (Nat.le_trans (Nat.le_of_ble_eq_true rfl) hR2) rfl rfl (Nat.le_of_ble_eq_true rfl) dL_law_1221 ?_
            replace hf := ite_c hf
            rcases hf with ⟨hc, hf⟩ | ⟨hc, hf⟩
            · refine ax_icmp_eqT 1384 dL_law_1224 (by decide) hc ?_
              refine ax_iinc (i := 3) (z3 + (5 : Int32)) [some (va_rf (some a5)), some (va_rf (some y1)), some (va_rf (some y2)), some (.int (z3 + (5 : Int32)))] dL_law_1384 rfl (iic k32_5) (Or.inr (c1r rfl)) rfl ?_
              refine ax_goto 18 dL_law_1387 (by decide) ?_
              exact ih (z3 + (5 : Int32)) h51 hf
            · refine ax_icmp_eqF 1384 dL_law_1224 (by decide) hc ?_
              refine ax_iconst (0 : Int32) dL_law_1227 k32_0 ?_
              cases hf
              exact Hr (Or.inl rfl) _ _ dL_law_1228
          replace hf := hT
          clear hT
          replace hf := ite_c hf
          rcases hf with ⟨hc, hf⟩ | ⟨hc, hf⟩
          · refine ax_if_eqT 1220 dL_law_1213 (by decide) hc ?_
            refine ax_iconst (0 : Int32) dL_law_1220 k32_0 ?_
            cases hf
            exact K
          · refine ax_if_eqF 1220 dL_law_1213 (by decide) hc ?_
            refine ax_iconst (1 : Int32) dL_law_1216 k32_1 ?_
            refine ax_goto 1221 dL_law_1217 (by decide) ?_
            cases hf
            exact K
        replace hf := hT
        clear hT
        replace hf := ite_c hf
        rcases hf with ⟨hc, hf⟩ | ⟨hc, hf⟩
        · refine ax_if_eqT 1198 dL_law_1191 (by decide) hc ?_
          refine ax_iconst (0 : Int32) dL_law_1198 k32_0 ?_
          cases hf
          exact K
        · refine ax_if_eqF 1198 dL_law_1191 (by decide) hc ?_
          refine ax_iconst (1 : Int32) dL_law_1194 k32_1 ?_
          refine ax_goto 1199 dL_law_1195 (by decide) ?_
          cases hf
          exact K
      replace hf := ite_c hf
      rcases hf with ⟨hc, hf⟩ | ⟨hn33, hf⟩
      · refine ax_tsIn 1229 dL_law_32 33 (by rw [hc]; decide) (by decide) rfl (by decide) ?_
        refine ax_aload_n (i := 1) (some y1) dL_law_1229 rfl rfl ?_
        replace hf := bd2_s hf
        obtain ⟨x38, h39, e_x38, hf⟩ := hf
        obtain ⟨k_e_x38, e_x38⟩ := cv_s e_x38
        refine ax_callV (As := []) (rest := []) (c_C_strike e_x38) ml_935 cm_C_strike rfl k_e_x38 (Nat.le_trans (Nat.le_of_ble_eq_true rfl) hR1) (Nat.le_trans (Nat.le_of_ble_eq_true rfl) hR2) rfl rfl (Nat.le_of_ble_eq_true rfl) dL_law_1230 ?_
        refine ax_aload_n (i := 2) (some y2) dL_law_1233 rfl rfl ?_
        replace hf := bd2_s hf
        obtain ⟨x40, h41, e_x40, hf⟩ := hf
        obtain ⟨k_e_x40, e_x40⟩ := cv_s e_x40
        refine ax_callV (As := []) (rest := [.int x38]) (c_M_strike e_x40) ml_1525 cm_M_strike rfl k_e_x40 (Nat.le_trans (Nat.le_of_ble_eq_true rfl) hR1) (Nat.le_trans (Nat.le_of_ble_eq_true rfl) hR2) rfl rfl (Nat.le_of_ble_eq_true rfl) dL_law_1234 ?_
        replace hf := ite_c hf
        rcases hf with ⟨hc, hf⟩ | ⟨hc, hf⟩
        · refine ax_icmp_eqT 1384 dL_law_1237 (by decide) hc ?_
          refine ax_iinc (i := 3) (z3 + (5 : Int32)) [some (va_rf (some a5)), some (va_rf (some y1)), some (va_rf (some y2)), some (.int (z3 + (5 : Int32)))] dL_law_1384 rfl (iic k32_5) (Or.inr (c1r rfl)) rfl ?_
          refine ax_goto 18 dL_law_1387 (by decide) ?_
          exact ih (z3 + (5 : Int32)) h41 hf
        · refine ax_icmp_eqF 1384 dL_law_1237 (by decide) hc ?_
          refine ax_iconst (0 : Int32) dL_law_1240 k32_0 ?_
          cases hf
          exact Hr (Or.inl rfl) _ _ dL_law_1241
      replace hf := ite_c hf
      rcases hf with ⟨hc, hf⟩ | ⟨hn34, hf⟩
      · refine ax_tsIn 1242 dL_law_32 34 (by rw [hc]; decide) (by decide) rfl (by decide) ?_
        refine ax_aload_n (i := 1) (some y1) dL_law_1242 rfl rfl ?_
        refine ax_aload_n (i := 0) (some a5) dL_law_1243 rfl rfl ?_
        refine ax_iload_n (i := 3) dL_law_1244 rfl rfl ?_
        refine ax_iconst (1 : Int32) dL_law_1245 k32_1 ?_
        refine ax_iadd dL_law_1246 ?_
        replace hf := bd1_s hf
        obtain ⟨x33, e_x33, hf⟩ := hf
        refine ax_iald dL_law_1247 e_x33 ?_
        replace hf := bd1_s hf
        obtain ⟨x34, e_x34, hf⟩ := hf
        obtain ⟨k_e_x34, e_x34⟩ := cv_s e_x34
        refine ax_callV (As := [.int x33]) (rest := []) (c_C_worlds e_x34) ml_939 cm_C_worlds rfl k_e_x34 (Nat.le_trans (Nat.le_of_ble_eq_true rfl) hR1) (Nat.le_trans (Nat.le_of_ble_eq_true rfl) hR2) rfl rfl (Nat.le_of_ble_eq_true rfl) dL_law_1248 ?_
        refine ax_aload_n (i := 2) (some y2) dL_law_1251 rfl rfl ?_
        refine ax_aload_n (i := 0) (some a5) dL_law_1252 rfl rfl ?_
        refine ax_iload_n (i := 3) dL_law_1253 rfl rfl ?_
        refine ax_iconst (1 : Int32) dL_law_1254 k32_1 ?_
        refine ax_iadd dL_law_1255 ?_
        replace hf := bd1_s hf
        obtain ⟨x35, e_x35, hf⟩ := hf
        refine ax_iald dL_law_1256 e_x35 ?_
        replace hf := bd2_s hf
        obtain ⟨x36, h37, e_x36, hf⟩ := hf
        obtain ⟨k_e_x36, e_x36⟩ := cv_s e_x36
        refine ax_callV (As := [.int x35]) (rest := [.int x34]) (c_M_worlds e_x36) ml_1529 cm_M_worlds rfl k_e_x36 (Nat.le_trans (Nat.le_of_ble_eq_true rfl) hR1) (Nat.le_trans (Nat.le_of_ble_eq_true rfl) hR2) rfl rfl (Nat.le_of_ble_eq_true rfl) dL_law_1257 ?_
        replace hf := ite_c hf
        rcases hf with ⟨hc, hf⟩ | ⟨hc, hf⟩
        · refine ax_icmp_eqT 1384 dL_law_1260 (by decide) hc ?_
          refine ax_iinc (i := 3) (z3 + (5 : Int32)) [some (va_rf (some a5)), some (va_rf (some y1)), some (va_rf (some y2)), some (.int (z3 + (5 : Int32)))] dL_law_1384 rfl (iic k32_5) (Or.inr (c1r rfl)) rfl ?_
          refine ax_goto 18 dL_law_1387 (by decide) ?_
          exact ih (z3 + (5 : Int32)) h37 hf
        · refine ax_icmp_eqF 1384 dL_law_1260 (by decide) hc ?_
          refine ax_iconst (0 : Int32) dL_law_1263 k32_0 ?_
          cases hf
          exact Hr (Or.inl rfl) _ _ dL_law_1264
      replace hf := ite_c hf
      rcases hf with ⟨hc, hf⟩ | ⟨hn35, hf⟩
      · refine ax_tsIn 1265 dL_law_32 35 (by rw [hc]; decide) (by decide) rfl (by decide) ?_
        refine ax_aload_n (i := 1) (some y1) dL_law_1265 rfl rfl ?_
        refine ax_aload_n (i := 0) (some a5) dL_law_1266 rfl rfl ?_
        refine ax_iload_n (i := 3) dL_law_1267 rfl rfl ?_
        refine ax_iconst (1 : Int32) dL_law_1268 k32_1 ?_
        refine ax_iadd dL_law_1269 ?_
        replace hf := bd1_s hf
        obtain ⟨x28, e_x28, hf⟩ := hf
        refine ax_iald dL_law_1270 e_x28 ?_
        replace hf := bd1_s hf
        obtain ⟨x29, e_x29, hf⟩ := hf
        obtain ⟨k_e_x29, e_x29⟩ := cv_s e_x29
        refine ax_callV (As := [.int x28]) (rest := []) (c_C_held e_x29) ml_953 cm_C_held rfl k_e_x29 (Nat.le_trans (Nat.le_of_ble_eq_true rfl) hR1) (Nat.le_trans (Nat.le_of_ble_eq_true rfl) hR2) rfl rfl (Nat.le_of_ble_eq_true rfl) dL_law_1271 ?_
        refine ax_aload_n (i := 2) (some y2) dL_law_1274 rfl rfl ?_
        refine ax_aload_n (i := 0) (some a5) dL_law_1275 rfl rfl ?_
        refine ax_iload_n (i := 3) dL_law_1276 rfl rfl ?_
        refine ax_iconst (1 : Int32) dL_law_1277 k32_1 ?_
        refine ax_iadd dL_law_1278 ?_
        replace hf := bd1_s hf
        obtain ⟨x30, e_x30, hf⟩ := hf
        refine ax_iald dL_law_1279 e_x30 ?_
        replace hf := bd2_s hf
        obtain ⟨x31, h32, e_x31, hf⟩ := hf
        obtain ⟨k_e_x31, e_x31⟩ := cv_s e_x31
        refine ax_callV (As := [.int x30]) (rest := [.int x29]) (c_M_held e_x31) ml_1545 cm_M_held rfl k_e_x31 (Nat.le_trans (Nat.le_of_ble_eq_true rfl) hR1) (Nat.le_trans (Nat.le_of_ble_eq_true rfl) hR2) rfl rfl (Nat.le_of_ble_eq_true rfl) dL_law_1280 ?_
        replace hf := ite_c hf
        rcases hf with ⟨hc, hf⟩ | ⟨hc, hf⟩
        · refine ax_icmp_eqT 1384 dL_law_1283 (by decide) hc ?_
          refine ax_iinc (i := 3) (z3 + (5 : Int32)) [some (va_rf (some a5)), some (va_rf (some y1)), some (va_rf (some y2)), some (.int (z3 + (5 : Int32)))] dL_law_1384 rfl (iic k32_5) (Or.inr (c1r rfl)) rfl ?_
          refine ax_goto 18 dL_law_1387 (by decide) ?_
          exact ih (z3 + (5 : Int32)) h32 hf
        · refine ax_icmp_eqF 1384 dL_law_1283 (by decide) hc ?_
          refine ax_iconst (0 : Int32) dL_law_1286 k32_0 ?_
          cases hf
          exact Hr (Or.inl rfl) _ _ dL_law_1287
      replace hf := ite_c hf
      rcases hf with ⟨hc, hf⟩ | ⟨hn36, hf⟩
      · refine ax_tsIn 1288 dL_law_32 36 (by rw [hc]; decide) (by decide) rfl (by decide) ?_
        refine ax_aload_n (i := 1) (some y1) dL_law_1288 rfl rfl ?_
        refine ax_aload_n (i := 0) (some a5) dL_law_1289 rfl rfl ?_
        refine ax_iload_n (i := 3) dL_law_1290 rfl rfl ?_
        refine ax_iconst (1 : Int32) dL_law_1291 k32_1 ?_
        refine ax_iadd dL_law_1292 ?_
        replace hf := bd1_s hf
        obtain ⟨x23, e_x23, hf⟩ := hf
        refine ax_iald dL_law_1293 e_x23 ?_
        replace hf := bd1_s hf
        obtain ⟨x24, e_x24, hf⟩ := hf
        obtain ⟨k_e_x24, e_x24⟩ := cv_s e_x24
        refine ax_callV (As := [.int x23]) (rest := []) (c_C_world e_x24) ml_969 cm_C_world rfl k_e_x24 (Nat.le_trans (Nat.le_of_ble_eq_true rfl) hR1) (Nat.le_trans (Nat.le_of_ble_eq_true rfl) hR2) rfl rfl (Nat.le_of_ble_eq_true rfl) dL_law_1294 ?_
        refine ax_aload_n (i := 2) (some y2) dL_law_1297 rfl rfl ?_
        refine ax_aload_n (i := 0) (some a5) dL_law_1298 rfl rfl ?_
        refine ax_iload_n (i := 3) dL_law_1299 rfl rfl ?_
        refine ax_iconst (1 : Int32) dL_law_1300 k32_1 ?_
        refine ax_iadd dL_law_1301 ?_
        replace hf := bd1_s hf
        obtain ⟨x25, e_x25, hf⟩ := hf
        refine ax_iald dL_law_1302 e_x25 ?_
        replace hf := bd2_s hf
        obtain ⟨x26, h27, e_x26, hf⟩ := hf
        obtain ⟨k_e_x26, e_x26⟩ := cv_s e_x26
        refine ax_callV (As := [.int x25]) (rest := [.int x24]) (c_M_world e_x26) ml_1549 cm_M_world rfl k_e_x26 (Nat.le_trans (Nat.le_of_ble_eq_true rfl) hR1) (Nat.le_trans (Nat.le_of_ble_eq_true rfl) hR2) rfl rfl (Nat.le_of_ble_eq_true rfl) dL_law_1303 ?_
        replace hf := ite_c hf
        rcases hf with ⟨hc, hf⟩ | ⟨hc, hf⟩
        · refine ax_icmp_eqT 1384 dL_law_1306 (by decide) hc ?_
          refine ax_iinc (i := 3) (z3 + (5 : Int32)) [some (va_rf (some a5)), some (va_rf (some y1)), some (va_rf (some y2)), some (.int (z3 + (5 : Int32)))] dL_law_1384 rfl (iic k32_5) (Or.inr (c1r rfl)) rfl ?_
          refine ax_goto 18 dL_law_1387 (by decide) ?_
          exact ih (z3 + (5 : Int32)) h27 hf
        · refine ax_icmp_eqF 1384 dL_law_1306 (by decide) hc ?_
          refine ax_iconst (0 : Int32) dL_law_1309 k32_0 ?_
          cases hf
          exact Hr (Or.inl rfl) _ _ dL_law_1310
      replace hf := ite_c hf
      rcases hf with ⟨hc, hf⟩ | ⟨hn37, hf⟩
      · refine ax_tsIn 1311 dL_law_32 37 (by rw [hc]; decide) (by decide) rfl (by decide) ?_
        refine ax_aload_n (i := 1) (some y1) dL_law_1311 rfl rfl ?_
        replace hf := bd1_s hf
        obtain ⟨x20, e_x20, hf⟩ := hf
        obtain ⟨k_e_x20, e_x20⟩ := cv_s e_x20
        refine ax_callV (As := []) (rest := []) (c_C_broken e_x20) ml_980 cm_C_broken rfl k_e_x20 (Nat.le_trans (Nat.le_of_ble_eq_true rfl) hR1) (Nat.le_trans (Nat.le_of_ble_eq_true rfl) hR2) rfl rfl (Nat.le_of_ble_eq_true rfl) dL_law_1312 ?_
        refine ax_aload_n (i := 2) (some y2) dL_law_1315 rfl rfl ?_
        replace hf := bd2_s hf
        obtain ⟨x21, h22, e_x21, hf⟩ := hf
        obtain ⟨k_e_x21, e_x21⟩ := cv_s e_x21
        refine ax_callV (As := []) (rest := [.int x20]) (c_M_broken e_x21) ml_1553 cm_M_broken rfl k_e_x21 (Nat.le_trans (Nat.le_of_ble_eq_true rfl) hR1) (Nat.le_trans (Nat.le_of_ble_eq_true rfl) hR2) rfl rfl (Nat.le_of_ble_eq_true rfl) dL_law_1316 ?_
        replace hf := ite_c hf
        rcases hf with ⟨hc, hf⟩ | ⟨hc, hf⟩
        · refine ax_icmp_eqT 1384 dL_law_1319 (by decide) hc ?_
          refine ax_iinc (i := 3) (z3 + (5 : Int32)) [some (va_rf (some a5)), some (va_rf (some y1)), some (va_rf (some y2)), some (.int (z3 + (5 : Int32)))] dL_law_1384 rfl (iic k32_5) (Or.inr (c1r rfl)) rfl ?_
          refine ax_goto 18 dL_law_1387 (by decide) ?_
          exact ih (z3 + (5 : Int32)) h22 hf
        · refine ax_icmp_eqF 1384 dL_law_1319 (by decide) hc ?_
          refine ax_iconst (0 : Int32) dL_law_1322 k32_0 ?_
          cases hf
          exact Hr (Or.inl rfl) _ _ dL_law_1323
      replace hf := ite_c hf
      rcases hf with ⟨hc, hf⟩ | ⟨hn38, hf⟩
      · refine ax_tsIn 1324 dL_law_32 38 (by rw [hc]; decide) (by decide) rfl (by decide) ?_
        refine ax_aload_n (i := 1) (some y1) dL_law_1324 rfl rfl ?_
        refine ax_aload_n (i := 0) (some a5) dL_law_1325 rfl rfl ?_
        refine ax_iload_n (i := 3) dL_law_1326 rfl rfl ?_
        refine ax_iconst (1 : Int32) dL_law_1327 k32_1 ?_
        refine ax_iadd dL_law_1328 ?_
        replace hf := bd1_s hf
        obtain ⟨x15, e_x15, hf⟩ := hf
        refine ax_iald dL_law_1329 e_x15 ?_
        replace hf := bd1_s hf
        obtain ⟨x16, e_x16, hf⟩ := hf
        obtain ⟨k_e_x16, e_x16⟩ := cv_s e_x16
        refine ax_callV (As := [.int x15]) (rest := []) (c_C_again e_x16) ml_984 cm_C_again rfl k_e_x16 (Nat.le_trans (Nat.le_of_ble_eq_true rfl) hR1) (Nat.le_trans (Nat.le_of_ble_eq_true rfl) hR2) rfl rfl (Nat.le_of_ble_eq_true rfl) dL_law_1330 ?_
        refine ax_aload_n (i := 2) (some y2) dL_law_1333 rfl rfl ?_
        refine ax_aload_n (i := 0) (some a5) dL_law_1334 rfl rfl ?_
        refine ax_iload_n (i := 3) dL_law_1335 rfl rfl ?_
        refine ax_iconst (1 : Int32) dL_law_1336 k32_1 ?_
        refine ax_iadd dL_law_1337 ?_
        replace hf := bd1_s hf
        obtain ⟨x17, e_x17, hf⟩ := hf
        refine ax_iald dL_law_1338 e_x17 ?_
        replace hf := bd2_s hf
        obtain ⟨x18, h19, e_x18, hf⟩ := hf
        obtain ⟨k_e_x18, e_x18⟩ := cv_s e_x18
        refine ax_callV (As := [.int x17]) (rest := [.int x16]) (c_M_again e_x18) ml_1561 cm_M_again rfl k_e_x18 (Nat.le_trans (Nat.le_of_ble_eq_true rfl) hR1) (Nat.le_trans (Nat.le_of_ble_eq_true rfl) hR2) rfl rfl (Nat.le_of_ble_eq_true rfl) dL_law_1339 ?_
        replace hf := ite_c hf
        rcases hf with ⟨hc, hf⟩ | ⟨hc, hf⟩
        · refine ax_icmp_eqT 1384 dL_law_1342 (by decide) hc ?_
          refine ax_iinc (i := 3) (z3 + (5 : Int32)) [some (va_rf (some a5)), some (va_rf (some y1)), some (va_rf (some y2)), some (.int (z3 + (5 : Int32)))] dL_law_1384 rfl (iic k32_5) (Or.inr (c1r rfl)) rfl ?_
          refine ax_goto 18 dL_law_1387 (by decide) ?_
          exact ih (z3 + (5 : Int32)) h19 hf
        · refine ax_icmp_eqF 1384 dL_law_1342 (by decide) hc ?_
          refine ax_iconst (0 : Int32) dL_law_1345 k32_0 ?_
          cases hf
          exact Hr (Or.inl rfl) _ _ dL_law_1346
      replace hf := ite_c hf
      rcases hf with ⟨hc, hf⟩ | ⟨hn39, hf⟩
      · refine ax_tsIn 1347 dL_law_32 39 (by rw [hc]; decide) (by decide) rfl (by decide) ?_
        refine ax_aload_n (i := 1) (some y1) dL_law_1347 rfl rfl ?_
        refine ax_aload_n (i := 0) (some a5) dL_law_1348 rfl rfl ?_
        refine ax_iload_n (i := 3) dL_law_1349 rfl rfl ?_
        refine ax_iconst (1 : Int32) dL_law_1350 k32_1 ?_
        refine ax_iadd dL_law_1351 ?_
        replace hf := bd1_s hf
        obtain ⟨x11, e_x11, hf⟩ := hf
        refine ax_iald dL_law_1352 e_x11 ?_
        replace hf := bd1_s hf
        obtain ⟨x12, e_x12, hf⟩ := hf
        obtain ⟨k_e_x12, e_x12⟩ := cv_s e_x12
        refine ax_callV (As := [.int x11]) (rest := []) (c_C_count e_x12) ml_988 cm_C_count rfl k_e_x12 (Nat.le_trans (Nat.le_of_ble_eq_true rfl) hR1) (Nat.le_trans (Nat.le_of_ble_eq_true rfl) hR2) rfl rfl (Nat.le_of_ble_eq_true rfl) dL_law_1353 ?_
        refine ax_aload_n (i := 2) (some y2) dL_law_1356 rfl rfl ?_
        refine ax_aload_n (i := 0) (some a5) dL_law_1357 rfl rfl ?_
        refine ax_iload_n (i := 3) dL_law_1358 rfl rfl ?_
        refine ax_iconst (1 : Int32) dL_law_1359 k32_1 ?_
        refine ax_iadd dL_law_1360 ?_
        replace hf := bd1_s hf
        obtain ⟨x13, e_x13, hf⟩ := hf
        refine ax_iald dL_law_1361 e_x13 ?_
        replace hf := bd1_s hf
        obtain ⟨x14, e_x14, hf⟩ := hf
        obtain ⟨k_e_x14, e_x14⟩ := cv_s e_x14
        refine ax_callV (As := [.int x13]) (rest := [.int x12]) (c_M_count e_x14) ml_1565 cm_M_count rfl k_e_x14 (Nat.le_trans (Nat.le_of_ble_eq_true rfl) hR1) (Nat.le_trans (Nat.le_of_ble_eq_true rfl) hR2) rfl rfl (Nat.le_of_ble_eq_true rfl) dL_law_1362 ?_
        replace hf := ite_c hf
        rcases hf with ⟨hc, hf⟩ | ⟨hc, hf⟩
        · refine ax_icmp_eqT 1384 dL_law_1365 (by decide) hc ?_
          refine ax_iinc (i := 3) (z3 + (5 : Int32)) [some (va_rf (some a5)), some (va_rf (some y1)), some (va_rf (some y2)), some (.int (z3 + (5 : Int32)))] dL_law_1384 rfl (iic k32_5) (Or.inr (c1r rfl)) rfl ?_
          refine ax_goto 18 dL_law_1387 (by decide) ?_
          exact ih (z3 + (5 : Int32)) h hf
        · refine ax_icmp_eqF 1384 dL_law_1365 (by decide) hc ?_
          refine ax_iconst (0 : Int32) dL_law_1368 k32_0 ?_
          cases hf
          exact Hr (Or.inl rfl) _ _ dL_law_1369
      replace hf := ite_c hf
      rcases hf with ⟨hc, hf⟩ | ⟨hn40, hf⟩
      · refine ax_tsIn 1370 dL_law_32 40 (by rw [hc]; decide) (by decide) rfl (by decide) ?_
        refine ax_aload_n (i := 1) (some y1) dL_law_1370 rfl rfl ?_
        replace hf := bd1_s hf
        obtain ⟨x8, e_x8, hf⟩ := hf
        obtain ⟨k_e_x8, e_x8⟩ := cv_s e_x8
        refine ax_callV (As := []) (rest := []) (c_C_digest e_x8) ml_992 cm_C_digest rfl k_e_x8 (Nat.le_trans (Nat.le_of_ble_eq_true rfl) hR1) (Nat.le_trans (Nat.le_of_ble_eq_true rfl) hR2) rfl rfl (Nat.le_of_ble_eq_true rfl) dL_law_1371 ?_
        refine ax_aload_n (i := 2) (some y2) dL_law_1374 rfl rfl ?_
        replace hf := bd2_s hf
        obtain ⟨x9, h10, e_x9, hf⟩ := hf
        obtain ⟨k_e_x9, e_x9⟩ := cv_s e_x9
        refine ax_callV (As := []) (rest := [.long x8]) (c_M_digest e_x9) ml_1569 cm_M_digest rfl k_e_x9 (Nat.le_trans (Nat.le_of_ble_eq_true rfl) hR1) (Nat.le_trans (Nat.le_of_ble_eq_true rfl) hR2) rfl rfl (Nat.le_of_ble_eq_true rfl) dL_law_1375 ?_
        refine ax_lcmp dL_law_1378 ?_
        replace hf := ite_c hf
        rcases hf with ⟨hc, hf⟩ | ⟨hc, hf⟩
        · refine ax_if_eqT 1384 dL_law_1379 (by decide) hc ?_
          refine ax_iinc (i := 3) (z3 + (5 : Int32)) [some (va_rf (some a5)), some (va_rf (some y1)), some (va_rf (some y2)), some (.int (z3 + (5 : Int32)))] dL_law_1384 rfl (iic k32_5) (Or.inr (c1r rfl)) rfl ?_
          refine ax_goto 18 dL_law_1387 (by decide) ?_
          exact ih (z3 + (5 : Int32)) h10 hf
        · refine ax_if_eqF 1384 dL_law_1379 (by decide) hc ?_
          refine ax_iconst (0 : Int32) dL_law_1382 k32_0 ?_
          cases hf
          exact Hr (Or.inl rfl) _ _ dL_law_1383
      refine ax_tsOut 1384 dL_law_32 (ts_out 40 (by decide) (fun j hj => match j, hj with | 0, _ => hn0 | 1, _ => hn1 | 2, _ => hn2 | 3, _ => hn3 | 4, _ => hn4 | 5, _ => hn5 | 6, _ => hn6 | 7, _ => hn7 | 8, _ => hn8 | 9, _ => hn9 | 10, _ => hn10 | 11, _ => hn11 | 12, _ => hn12 | 13, _ => hn13 | 14, _ => hn14 | 15, _ => hn15 | 16, _ => hn16 | 17, _ => hn17 | 18, _ => hn18 | 19, _ => hn19 | 20, _ => hn20 | 21, _ => hn21 | 22, _ => hn22 | 23, _ => hn23 | 24, _ => hn24 | 25, _ => hn25 | 26, _ => hn26 | 27, _ => hn27 | 28, _ => hn28 | 29, _ => hn29 | 30, _ => hn30 | 31, _ => hn31 | 32, _ => hn32 | 33, _ => hn33 | 34, _ => hn34 | 35, _ => hn35 | 36, _ => hn36 | 37, _ => hn37 | 38, _ => hn38 | 39, _ => hn39 | 40, _ => hn40 | (n + 41), hj => absurd hj (by omega))) (by decide) ?_
      refine ax_iinc (i := 3) (z3 + (5 : Int32)) [some (va_rf (some a5)), some (va_rf (some y1)), some (va_rf (some y2)), some (.int (z3 + (5 : Int32)))] dL_law_1384 rfl (iic k32_5) (Or.inr (c1r rfl)) rfl ?_
      refine ax_goto 18 dL_law_1387 (by decide) ?_
      exact ih (z3 + (5 : Int32)) h hf
theorem v_L_law {l : Launch} {E : EN} {R : Room} {B : (Nat × Nat) × (Nat × Nat)} {Qf : QF} {h0 : AH} {p1 : Option Nat} {r : Int32} {hF : AH} (hR1 : 17 ≤ R.frames) (hR2 : 1088 ≤ R.locals) (Hr : (r = 0 ∨ r = 1) → ∀ (pc : Nat) (L : List (Option Value)), decode mi_L_law.2.1 pc = .ok (.ireturn, 1) → AW l E mi_L_law R B Qf pc L [.int r] hF) (hf : f_L_law h0 p1 = some (r, hF)) : AW l E mi_L_law R B Qf 0 [some (va_rf p1), none, none, none] [] h0 := by
  unfold f_L_law at hf
  refine ax_new (ci := 0) rfl rfl w_19 dL_law_0 ?_
  refine ax_dup dL_law_3 rfl ?_
  replace hf := bd1_s hf
  obtain ⟨h2, e_h2, hf⟩ := hf
  refine ax_callI (As := []) (rest := [va_rf (some (hM h0))]) rfl (c_C_init e_h2) ml_21 cm_C_init (Nat.le_trans (Nat.le_of_ble_eq_true rfl) hR1) (Nat.le_trans (Nat.le_of_ble_eq_true rfl) hR2) rfl rfl (Nat.le_of_ble_eq_true rfl) dL_law_4 ?_
  refine ax_astore_n (i := 1) (r := (some (hM h0))) [some (va_rf p1), some (va_rf (some (hM h0))), none, none] dL_law_7 rfl (Nat.le_of_ble_eq_true rfl) (Or.inr (c1r rfl)) rfl ?_
  refine ax_new (ci := 12) rfl rfl w_1007 dL_law_8 ?_
  refine ax_dup dL_law_11 rfl ?_
  replace hf := bd1_s hf
  obtain ⟨h4, e_h4, hf⟩ := hf
  refine ax_callI (As := []) (rest := [va_rf (some (hM h2))]) rfl (c_M_init e_h4) ml_1009 cm_M_init (Nat.le_trans (Nat.le_of_ble_eq_true rfl) hR1) (Nat.le_trans (Nat.le_of_ble_eq_true rfl) hR2) rfl rfl (Nat.le_of_ble_eq_true rfl) dL_law_12 ?_
  refine ax_astore_n (i := 2) (r := (some (hM h2))) [some (va_rf p1), some (va_rf (some (hM h0))), some (va_rf (some (hM h2))), none] dL_law_15 rfl (Nat.le_of_ble_eq_true rfl) (Or.inr (c1r rfl)) rfl ?_
  refine ax_iconst (0 : Int32) dL_law_16 k32_0 ?_
  refine ax_istore_n (i := 3) [some (va_rf p1), some (va_rf (some (hM h0))), some (va_rf (some (hM h2))), some (.int (0 : Int32))] dL_law_17 rfl (Nat.le_of_ble_eq_true rfl) (Or.inr (c1r rfl)) rfl ?_
  refine w_L_law_L18 hR1 hR2 Hr FU (0 : Int32) h4 hf
