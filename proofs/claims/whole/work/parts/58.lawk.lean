/-! the law: certificates (printed by gen/law.py) -/
theorem K_La_law_b1286 (n : Nat) (E : zE) (r18 : Nat × Nat × Int32 × zS × zH → Option (Bool × zS × zH)) (a1 : Nat) (a2 : Nat) (x3 : Int32) (S : zS) (M : zH) (r : Bool) (S' : zS) (M' : zH) (kc nc : Nat) (hr18 : ∀ (a1 : Nat) (a2 : Nat) (x3 : Int32) (S : zS) (M : zH), r18 (a1, a2, x3, S, M) = some (r, S', M') → zG E Y_La_law (some (.int (bI r)), S', M') 18 [(0, .ref (eb E)), (1, .ref a1), (2, .ref a2), (3, .int x3)] [] S M (kc + 6) (nc + 2567)) (h : F_La_law_b1286 n E r18 a1 a2 x3 S M = some (r, S', M')) : zG E Y_La_law (some (.int (bI r)), S', M') 1286 [(0, .ref (eb E)), (1, .ref a1), (2, .ref a2), (3, .int x3)] [] S M (kc + 6) (nc + 2567) := by
  unfold F_La_law_b1286 at h
  refine zi_iinc 3 (x3 + 6) [(3, .int (x3 + 6)), (0, .ref (eb E)), (1, .ref a1), (2, .ref a2)] d_La_law_1286 rfl rfl (by decide) rfl ?_
  refine zi_goto (tgt := 18) d_La_law_1289 rfl ?_
  refine zi_lo [(0, .ref (eb E)), (1, .ref a1), (2, .ref a2), (3, .int (x3 + 6))] [1, 2, 3, 0] rfl ?_
  refine zi_wide (kc + 6) (nc + 2567) (Nat.le_refl _) (Nat.le_refl _) ?_
  exact hr18 a1 a2 (x3 + 6) S M h
theorem K_La_law_c0 (n : Nat) (E : zE) (r18 : Nat × Nat × Int32 × zS × zH → Option (Bool × zS × zH)) (a1 : Nat) (a2 : Nat) (x3 : Int32) (S : zS) (M : zH) (r : Bool) (S' : zS) (M' : zH) (kc nc : Nat) (hkc : kc + 6 ≤ 3214) (hnc : nc + 2567 ≤ 1341798) (hr18 : ∀ (a1 : Nat) (a2 : Nat) (x3 : Int32) (S : zS) (M : zH), r18 (a1, a2, x3, S, M) = some (r, S', M') → zG E Y_La_law (some (.int (bI r)), S', M') 18 [(0, .ref (eb E)), (1, .ref a1), (2, .ref a2), (3, .int x3)] [] S M (kc + 6) (nc + 2567)) (h : F_La_law_c0 n E r18 a1 a2 x3 S M = some (r, S', M')) : zG E Y_La_law (some (.int (bI r)), S', M') 212 [(0, .ref (eb E)), (1, .ref a1), (2, .ref a2), (3, .int x3)] [] S M kc nc := by
  unfold F_La_law_c0 at h
  refine zi_aload_n 1 d_La_law_212 rfl ?_
  refine zi_aload_n 0 d_La_law_213 rfl ?_
  refine zi_iload_n 3 d_La_law_214 rfl ?_
  refine zi_iconst 1 d_La_law_215 rfl ?_
  refine zi_iadd d_La_law_216 ?_
  obtain ⟨v_1, ev_1, h⟩ := zbind h
  refine zo_scr 218 d_La_law_217 ev_1 rfl ?_
  refine zi_aload_n 0 d_La_law_218 rfl ?_
  refine zi_iload_n 3 d_La_law_219 rfl ?_
  refine zi_iconst 2 d_La_law_220 rfl ?_
  refine zi_iadd d_La_law_221 ?_
  obtain ⟨v_2, ev_2, h⟩ := zbind h
  refine zo_scr 223 d_La_law_222 ev_2 rfl ?_
  refine zi_aload_n 0 d_La_law_223 rfl ?_
  refine zi_iload_n 3 d_La_law_224 rfl ?_
  refine zi_iconst 3 d_La_law_225 rfl ?_
  refine zi_iadd d_La_law_226 ?_
  obtain ⟨v_3, ev_3, h⟩ := zbind h
  refine zo_scr 228 d_La_law_227 ev_3 rfl ?_
  obtain ⟨u_4, eu_4, h⟩ := zbind h
  obtain ⟨q_5, eq_5, h⟩ := zbind h
  refine zo_virt (k' := kc) (n' := nc) 231 [.int v_1, .int v_2, .int v_3] [] [.int q_5.1] zkd_10 (zck_s eu_4) (C_NC_hole n E S a1 v_1 v_2 v_3 M q_5.1 q_5.2 eq_5) d_La_law_228 tw_393 tw_390 tw_391 tw_392 tw_1 dd_NC_hole ⟨Nat.le_of_ble_eq_true rfl, Nat.le_of_ble_eq_true rfl, zle6 hkc (Nat.le_of_ble_eq_true rfl), zle6 hnc (Nat.le_of_ble_eq_true rfl)⟩ (Nat.le_of_ble_eq_true rfl) rfl rfl rfl rfl ?_
  refine zi_aload_n 2 d_La_law_231 rfl ?_
  refine zi_aload_n 0 d_La_law_232 rfl ?_
  refine zi_iload_n 3 d_La_law_233 rfl ?_
  refine zi_iconst 1 d_La_law_234 rfl ?_
  refine zi_iadd d_La_law_235 ?_
  obtain ⟨v_6, ev_6, h⟩ := zbind h
  refine zo_scr 237 d_La_law_236 ev_6 rfl ?_
  refine zi_aload_n 0 d_La_law_237 rfl ?_
  refine zi_iload_n 3 d_La_law_238 rfl ?_
  refine zi_iconst 2 d_La_law_239 rfl ?_
  refine zi_iadd d_La_law_240 ?_
  obtain ⟨v_7, ev_7, h⟩ := zbind h
  refine zo_scr 242 d_La_law_241 ev_7 rfl ?_
  refine zi_aload_n 0 d_La_law_242 rfl ?_
  refine zi_iload_n 3 d_La_law_243 rfl ?_
  refine zi_iconst 3 d_La_law_244 rfl ?_
  refine zi_iadd d_La_law_245 ?_
  obtain ⟨v_8, ev_8, h⟩ := zbind h
  refine zo_scr 247 d_La_law_246 ev_8 rfl ?_
  obtain ⟨u_9, eu_9, h⟩ := zbind h
  obtain ⟨q_10, eq_10, h⟩ := zbind h
  refine zo_virt (k' := kc) (n' := nc) 250 [.int v_6, .int v_7, .int v_8] [.int q_5.1] [.int q_10.1, .int q_5.1] zkd_11 (zck_s eu_9) (C_Mo_hole n E S a2 v_6 v_7 v_8 q_5.2 q_10.1 q_10.2 eq_10) d_La_law_247 tw_1431 tw_1428 tw_1429 tw_1430 tw_13 dd_Mo_hole ⟨Nat.le_of_ble_eq_true rfl, Nat.le_of_ble_eq_true rfl, zle6 hkc (Nat.le_of_ble_eq_true rfl), zle6 hnc (Nat.le_of_ble_eq_true rfl)⟩ (Nat.le_of_ble_eq_true rfl) rfl rfl rfl rfl ?_
  refine zi_icmp_eq (tgt := 1286) d_La_law_250 rfl (fun c_11 => ?_) (fun c_11 => ?_)
  · rw [if_pos c_11] at h
    refine zi_lo [(0, .ref (eb E)), (1, .ref a1), (2, .ref a2), (3, .int x3)] [0, 1, 2, 3] rfl ?_
    refine zi_wide (kc + 6) (nc + 2567) (Nat.le_add_right _ _) (Nat.le_add_right _ _) ?_
    exact K_La_law_b1286 n E r18 a1 a2 x3 S q_10.2 r S' M' kc nc hr18 h
  · rw [if_neg c_11] at h
    refine zi_iconst 0 d_La_law_253 rfl ?_
    cases h
    exact zo_retB d_La_law_254 (zleR hkc) (zleR hnc) rfl
theorem K_La_law_c1 (n : Nat) (E : zE) (r18 : Nat × Nat × Int32 × zS × zH → Option (Bool × zS × zH)) (a1 : Nat) (a2 : Nat) (x3 : Int32) (S : zS) (M : zH) (r : Bool) (S' : zS) (M' : zH) (kc nc : Nat) (hkc : kc + 6 ≤ 3214) (hnc : nc + 2567 ≤ 1341798) (hr18 : ∀ (a1 : Nat) (a2 : Nat) (x3 : Int32) (S : zS) (M : zH), r18 (a1, a2, x3, S, M) = some (r, S', M') → zG E Y_La_law (some (.int (bI r)), S', M') 18 [(0, .ref (eb E)), (1, .ref a1), (2, .ref a2), (3, .int x3)] [] S M (kc + 6) (nc + 2567)) (h : F_La_law_c1 n E r18 a1 a2 x3 S M = some (r, S', M')) : zG E Y_La_law (some (.int (bI r)), S', M') 255 [(0, .ref (eb E)), (1, .ref a1), (2, .ref a2), (3, .int x3)] [] S M kc nc := by
  unfold F_La_law_c1 at h
  refine zi_aload_n 1 d_La_law_255 rfl ?_
  refine zi_aload_n 0 d_La_law_256 rfl ?_
  refine zi_iload_n 3 d_La_law_257 rfl ?_
  refine zi_iconst 1 d_La_law_258 rfl ?_
  refine zi_iadd d_La_law_259 ?_
  obtain ⟨v_1, ev_1, h⟩ := zbind h
  refine zo_scr 261 d_La_law_260 ev_1 rfl ?_
  refine zi_aload_n 0 d_La_law_261 rfl ?_
  refine zi_iload_n 3 d_La_law_262 rfl ?_
  refine zi_iconst 2 d_La_law_263 rfl ?_
  refine zi_iadd d_La_law_264 ?_
  obtain ⟨v_2, ev_2, h⟩ := zbind h
  refine zo_scr 266 d_La_law_265 ev_2 rfl ?_
  obtain ⟨u_3, eu_3, h⟩ := zbind h
  obtain ⟨q_4, eq_4, h⟩ := zbind h
  refine zo_virt (k' := kc) (n' := nc) 269 [.int v_1, .int v_2] [] [.int q_4.1] zkd_10 (zck_s eu_3) (C_NC_turn n E S a1 v_1 v_2 M q_4.1 q_4.2 eq_4) d_La_law_266 tw_444 tw_441 tw_442 tw_443 tw_1 dd_NC_turn ⟨Nat.le_of_ble_eq_true rfl, Nat.le_of_ble_eq_true rfl, zle6 hkc (Nat.le_of_ble_eq_true rfl), zle6 hnc (Nat.le_of_ble_eq_true rfl)⟩ (Nat.le_of_ble_eq_true rfl) rfl rfl rfl rfl ?_
  refine zi_aload_n 2 d_La_law_269 rfl ?_
  refine zi_aload_n 0 d_La_law_270 rfl ?_
  refine zi_iload_n 3 d_La_law_271 rfl ?_
  refine zi_iconst 1 d_La_law_272 rfl ?_
  refine zi_iadd d_La_law_273 ?_
  obtain ⟨v_5, ev_5, h⟩ := zbind h
  refine zo_scr 275 d_La_law_274 ev_5 rfl ?_
  refine zi_aload_n 0 d_La_law_275 rfl ?_
  refine zi_iload_n 3 d_La_law_276 rfl ?_
  refine zi_iconst 2 d_La_law_277 rfl ?_
  refine zi_iadd d_La_law_278 ?_
  obtain ⟨v_6, ev_6, h⟩ := zbind h
  refine zo_scr 280 d_La_law_279 ev_6 rfl ?_
  obtain ⟨u_7, eu_7, h⟩ := zbind h
  obtain ⟨q_8, eq_8, h⟩ := zbind h
  refine zo_virt (k' := kc) (n' := nc) 283 [.int v_5, .int v_6] [.int q_4.1] [.int q_8.1, .int q_4.1] zkd_11 (zck_s eu_7) (C_Mo_turn n E S a2 v_5 v_6 q_4.2 q_8.1 q_8.2 eq_8) d_La_law_280 tw_1476 tw_1473 tw_1474 tw_1475 tw_13 dd_Mo_turn ⟨Nat.le_of_ble_eq_true rfl, Nat.le_of_ble_eq_true rfl, zle6 hkc (Nat.le_of_ble_eq_true rfl), zle6 hnc (Nat.le_of_ble_eq_true rfl)⟩ (Nat.le_of_ble_eq_true rfl) rfl rfl rfl rfl ?_
  refine zi_icmp_eq (tgt := 1286) d_La_law_283 rfl (fun c_9 => ?_) (fun c_9 => ?_)
  · rw [if_pos c_9] at h
    refine zi_lo [(0, .ref (eb E)), (1, .ref a1), (2, .ref a2), (3, .int x3)] [0, 1, 2, 3] rfl ?_
    refine zi_wide (kc + 6) (nc + 2567) (Nat.le_add_right _ _) (Nat.le_add_right _ _) ?_
    exact K_La_law_b1286 n E r18 a1 a2 x3 S q_8.2 r S' M' kc nc hr18 h
  · rw [if_neg c_9] at h
    refine zi_iconst 0 d_La_law_286 rfl ?_
    cases h
    exact zo_retB d_La_law_287 (zleR hkc) (zleR hnc) rfl
theorem K_La_law_c2 (n : Nat) (E : zE) (r18 : Nat × Nat × Int32 × zS × zH → Option (Bool × zS × zH)) (a1 : Nat) (a2 : Nat) (x3 : Int32) (S : zS) (M : zH) (r : Bool) (S' : zS) (M' : zH) (kc nc : Nat) (hkc : kc + 6 ≤ 3214) (hnc : nc + 2567 ≤ 1341798) (hr18 : ∀ (a1 : Nat) (a2 : Nat) (x3 : Int32) (S : zS) (M : zH), r18 (a1, a2, x3, S, M) = some (r, S', M') → zG E Y_La_law (some (.int (bI r)), S', M') 18 [(0, .ref (eb E)), (1, .ref a1), (2, .ref a2), (3, .int x3)] [] S M (kc + 6) (nc + 2567)) (h : F_La_law_c2 n E r18 a1 a2 x3 S M = some (r, S', M')) : zG E Y_La_law (some (.int (bI r)), S', M') 288 [(0, .ref (eb E)), (1, .ref a1), (2, .ref a2), (3, .int x3)] [] S M kc nc := by
  unfold F_La_law_c2 at h
  refine zi_aload_n 1 d_La_law_288 rfl ?_
  refine zi_aload_n 0 d_La_law_289 rfl ?_
  refine zi_iload_n 3 d_La_law_290 rfl ?_
  refine zi_iconst 1 d_La_law_291 rfl ?_
  refine zi_iadd d_La_law_292 ?_
  obtain ⟨v_1, ev_1, h⟩ := zbind h
  refine zo_scr 294 d_La_law_293 ev_1 rfl ?_
  refine zi_aload_n 0 d_La_law_294 rfl ?_
  refine zi_iload_n 3 d_La_law_295 rfl ?_
  refine zi_iconst 2 d_La_law_296 rfl ?_
  refine zi_iadd d_La_law_297 ?_
  obtain ⟨v_2, ev_2, h⟩ := zbind h
  refine zo_scr 299 d_La_law_298 ev_2 rfl ?_
  obtain ⟨u_3, eu_3, h⟩ := zbind h
  obtain ⟨q_4, eq_4, h⟩ := zbind h
  refine zo_virt (k' := kc) (n' := nc) 302 [.int v_1, .int v_2] [] [.int q_4.1] zkd_10 (zck_s eu_3) (C_NC_bucket n E S a1 v_1 v_2 M q_4.1 q_4.2 eq_4) d_La_law_299 tw_460 tw_457 tw_458 tw_459 tw_1 dd_NC_bucket ⟨Nat.le_of_ble_eq_true rfl, Nat.le_of_ble_eq_true rfl, zle6 hkc (Nat.le_of_ble_eq_true rfl), zle6 hnc (Nat.le_of_ble_eq_true rfl)⟩ (Nat.le_of_ble_eq_true rfl) rfl rfl rfl rfl ?_
  refine zi_aload_n 2 d_La_law_302 rfl ?_
  refine zi_aload_n 0 d_La_law_303 rfl ?_
  refine zi_iload_n 3 d_La_law_304 rfl ?_
  refine zi_iconst 1 d_La_law_305 rfl ?_
  refine zi_iadd d_La_law_306 ?_
  obtain ⟨v_5, ev_5, h⟩ := zbind h
  refine zo_scr 308 d_La_law_307 ev_5 rfl ?_
  refine zi_aload_n 0 d_La_law_308 rfl ?_
  refine zi_iload_n 3 d_La_law_309 rfl ?_
  refine zi_iconst 2 d_La_law_310 rfl ?_
  refine zi_iadd d_La_law_311 ?_
  obtain ⟨v_6, ev_6, h⟩ := zbind h
  refine zo_scr 313 d_La_law_312 ev_6 rfl ?_
  obtain ⟨u_7, eu_7, h⟩ := zbind h
  obtain ⟨q_8, eq_8, h⟩ := zbind h
  refine zo_virt (k' := kc) (n' := nc) 316 [.int v_5, .int v_6] [.int q_4.1] [.int q_8.1, .int q_4.1] zkd_11 (zck_s eu_7) (C_Mo_bucket n E S a2 v_5 v_6 q_4.2 q_8.1 q_8.2 eq_8) d_La_law_313 tw_1484 tw_1481 tw_1482 tw_1483 tw_13 dd_Mo_bucket ⟨Nat.le_of_ble_eq_true rfl, Nat.le_of_ble_eq_true rfl, zle6 hkc (Nat.le_of_ble_eq_true rfl), zle6 hnc (Nat.le_of_ble_eq_true rfl)⟩ (Nat.le_of_ble_eq_true rfl) rfl rfl rfl rfl ?_
  refine zi_icmp_eq (tgt := 1286) d_La_law_316 rfl (fun c_9 => ?_) (fun c_9 => ?_)
  · rw [if_pos c_9] at h
    refine zi_lo [(0, .ref (eb E)), (1, .ref a1), (2, .ref a2), (3, .int x3)] [0, 1, 2, 3] rfl ?_
    refine zi_wide (kc + 6) (nc + 2567) (Nat.le_add_right _ _) (Nat.le_add_right _ _) ?_
    exact K_La_law_b1286 n E r18 a1 a2 x3 S q_8.2 r S' M' kc nc hr18 h
  · rw [if_neg c_9] at h
    refine zi_iconst 0 d_La_law_319 rfl ?_
    cases h
    exact zo_retB d_La_law_320 (zleR hkc) (zleR hnc) rfl
theorem K_La_law_c3 (n : Nat) (E : zE) (r18 : Nat × Nat × Int32 × zS × zH → Option (Bool × zS × zH)) (a1 : Nat) (a2 : Nat) (x3 : Int32) (S : zS) (M : zH) (r : Bool) (S' : zS) (M' : zH) (kc nc : Nat) (hkc : kc + 6 ≤ 3214) (hnc : nc + 2567 ≤ 1341798) (hr18 : ∀ (a1 : Nat) (a2 : Nat) (x3 : Int32) (S : zS) (M : zH), r18 (a1, a2, x3, S, M) = some (r, S', M') → zG E Y_La_law (some (.int (bI r)), S', M') 18 [(0, .ref (eb E)), (1, .ref a1), (2, .ref a2), (3, .int x3)] [] S M (kc + 6) (nc + 2567)) (h : F_La_law_c3 n E r18 a1 a2 x3 S M = some (r, S', M')) : zG E Y_La_law (some (.int (bI r)), S', M') 321 [(0, .ref (eb E)), (1, .ref a1), (2, .ref a2), (3, .int x3)] [] S M kc nc := by
  unfold F_La_law_c3 at h
  refine zi_aload_n 1 d_La_law_321 rfl ?_
  refine zi_aload_n 0 d_La_law_322 rfl ?_
  refine zi_iload_n 3 d_La_law_323 rfl ?_
  refine zi_iconst 1 d_La_law_324 rfl ?_
  refine zi_iadd d_La_law_325 ?_
  obtain ⟨v_1, ev_1, h⟩ := zbind h
  refine zo_scr 327 d_La_law_326 ev_1 rfl ?_
  refine zi_aload_n 0 d_La_law_327 rfl ?_
  refine zi_iload_n 3 d_La_law_328 rfl ?_
  refine zi_iconst 2 d_La_law_329 rfl ?_
  refine zi_iadd d_La_law_330 ?_
  obtain ⟨v_2, ev_2, h⟩ := zbind h
  refine zo_scr 332 d_La_law_331 ev_2 rfl ?_
  obtain ⟨u_3, eu_3, h⟩ := zbind h
  obtain ⟨q_4, eq_4, h⟩ := zbind h
  refine zo_virt (k' := kc) (n' := nc) 335 [.int v_1, .int v_2] [] [.int q_4.1] zkd_10 (zck_s eu_3) (C_NC_of n E S a1 v_1 v_2 M q_4.1 q_4.2 eq_4) d_La_law_332 tw_475 tw_472 tw_473 tw_474 tw_1 dd_NC_of ⟨Nat.le_of_ble_eq_true rfl, Nat.le_of_ble_eq_true rfl, zle6 hkc (Nat.le_of_ble_eq_true rfl), zle6 hnc (Nat.le_of_ble_eq_true rfl)⟩ (Nat.le_of_ble_eq_true rfl) rfl rfl rfl rfl ?_
  refine zi_aload_n 2 d_La_law_335 rfl ?_
  refine zi_aload_n 0 d_La_law_336 rfl ?_
  refine zi_iload_n 3 d_La_law_337 rfl ?_
  refine zi_iconst 1 d_La_law_338 rfl ?_
  refine zi_iadd d_La_law_339 ?_
  obtain ⟨v_5, ev_5, h⟩ := zbind h
  refine zo_scr 341 d_La_law_340 ev_5 rfl ?_
  refine zi_aload_n 0 d_La_law_341 rfl ?_
  refine zi_iload_n 3 d_La_law_342 rfl ?_
  refine zi_iconst 2 d_La_law_343 rfl ?_
  refine zi_iadd d_La_law_344 ?_
  obtain ⟨v_6, ev_6, h⟩ := zbind h
  refine zo_scr 346 d_La_law_345 ev_6 rfl ?_
  obtain ⟨u_7, eu_7, h⟩ := zbind h
  obtain ⟨q_8, eq_8, h⟩ := zbind h
  refine zo_virt (k' := kc) (n' := nc) 349 [.int v_5, .int v_6] [.int q_4.1] [.int q_8.1, .int q_4.1] zkd_11 (zck_s eu_7) (C_Mo_of n E S a2 v_5 v_6 q_4.2 q_8.1 q_8.2 eq_8) d_La_law_346 tw_1493 tw_1490 tw_1491 tw_1492 tw_13 dd_Mo_of ⟨Nat.le_of_ble_eq_true rfl, Nat.le_of_ble_eq_true rfl, zle6 hkc (Nat.le_of_ble_eq_true rfl), zle6 hnc (Nat.le_of_ble_eq_true rfl)⟩ (Nat.le_of_ble_eq_true rfl) rfl rfl rfl rfl ?_
  refine zi_icmp_eq (tgt := 1286) d_La_law_349 rfl (fun c_9 => ?_) (fun c_9 => ?_)
  · rw [if_pos c_9] at h
    refine zi_lo [(0, .ref (eb E)), (1, .ref a1), (2, .ref a2), (3, .int x3)] [0, 1, 2, 3] rfl ?_
    refine zi_wide (kc + 6) (nc + 2567) (Nat.le_add_right _ _) (Nat.le_add_right _ _) ?_
    exact K_La_law_b1286 n E r18 a1 a2 x3 S q_8.2 r S' M' kc nc hr18 h
  · rw [if_neg c_9] at h
    refine zi_iconst 0 d_La_law_352 rfl ?_
    cases h
    exact zo_retB d_La_law_353 (zleR hkc) (zleR hnc) rfl
theorem K_La_law_c4 (n : Nat) (E : zE) (r18 : Nat × Nat × Int32 × zS × zH → Option (Bool × zS × zH)) (a1 : Nat) (a2 : Nat) (x3 : Int32) (S : zS) (M : zH) (r : Bool) (S' : zS) (M' : zH) (kc nc : Nat) (hkc : kc + 6 ≤ 3214) (hnc : nc + 2567 ≤ 1341798) (hr18 : ∀ (a1 : Nat) (a2 : Nat) (x3 : Int32) (S : zS) (M : zH), r18 (a1, a2, x3, S, M) = some (r, S', M') → zG E Y_La_law (some (.int (bI r)), S', M') 18 [(0, .ref (eb E)), (1, .ref a1), (2, .ref a2), (3, .int x3)] [] S M (kc + 6) (nc + 2567)) (h : F_La_law_c4 n E r18 a1 a2 x3 S M = some (r, S', M')) : zG E Y_La_law (some (.int (bI r)), S', M') 354 [(0, .ref (eb E)), (1, .ref a1), (2, .ref a2), (3, .int x3)] [] S M kc nc := by
  unfold F_La_law_c4 at h
  refine zi_aload_n 1 d_La_law_354 rfl ?_
  refine zi_aload_n 0 d_La_law_355 rfl ?_
  refine zi_iload_n 3 d_La_law_356 rfl ?_
  refine zi_iconst 1 d_La_law_357 rfl ?_
  refine zi_iadd d_La_law_358 ?_
  obtain ⟨v_1, ev_1, h⟩ := zbind h
  refine zo_scr 360 d_La_law_359 ev_1 rfl ?_
  refine zi_aload_n 0 d_La_law_360 rfl ?_
  refine zi_iload_n 3 d_La_law_361 rfl ?_
  refine zi_iconst 2 d_La_law_362 rfl ?_
  refine zi_iadd d_La_law_363 ?_
  obtain ⟨v_2, ev_2, h⟩ := zbind h
  refine zo_scr 365 d_La_law_364 ev_2 rfl ?_
  obtain ⟨u_3, eu_3, h⟩ := zbind h
  obtain ⟨q_4, eq_4, h⟩ := zbind h
  refine zo_virt (k' := kc) (n' := nc) 368 [.int v_1, .int v_2] [] [.int q_4.1] zkd_10 (zck_s eu_3) (C_NC_wanted n E S a1 v_1 v_2 M q_4.1 q_4.2 eq_4) d_La_law_365 tw_504 tw_501 tw_502 tw_503 tw_1 dd_NC_wanted ⟨Nat.le_of_ble_eq_true rfl, Nat.le_of_ble_eq_true rfl, zle6 hkc (Nat.le_of_ble_eq_true rfl), zle6 hnc (Nat.le_of_ble_eq_true rfl)⟩ (Nat.le_of_ble_eq_true rfl) rfl rfl rfl rfl ?_
  refine zi_aload_n 2 d_La_law_368 rfl ?_
  refine zi_aload_n 0 d_La_law_369 rfl ?_
  refine zi_iload_n 3 d_La_law_370 rfl ?_
  refine zi_iconst 1 d_La_law_371 rfl ?_
  refine zi_iadd d_La_law_372 ?_
  obtain ⟨v_5, ev_5, h⟩ := zbind h
  refine zo_scr 374 d_La_law_373 ev_5 rfl ?_
  refine zi_aload_n 0 d_La_law_374 rfl ?_
  refine zi_iload_n 3 d_La_law_375 rfl ?_
  refine zi_iconst 2 d_La_law_376 rfl ?_
  refine zi_iadd d_La_law_377 ?_
  obtain ⟨v_6, ev_6, h⟩ := zbind h
  refine zo_scr 379 d_La_law_378 ev_6 rfl ?_
  obtain ⟨u_7, eu_7, h⟩ := zbind h
  obtain ⟨q_8, eq_8, h⟩ := zbind h
  refine zo_virt (k' := kc) (n' := nc) 382 [.int v_5, .int v_6] [.int q_4.1] [.int q_8.1, .int q_4.1] zkd_11 (zck_s eu_7) (C_Mo_wanted n E S a2 v_5 v_6 q_4.2 q_8.1 q_8.2 eq_8) d_La_law_379 tw_1514 tw_1511 tw_1512 tw_1513 tw_13 dd_Mo_wanted ⟨Nat.le_of_ble_eq_true rfl, Nat.le_of_ble_eq_true rfl, zle6 hkc (Nat.le_of_ble_eq_true rfl), zle6 hnc (Nat.le_of_ble_eq_true rfl)⟩ (Nat.le_of_ble_eq_true rfl) rfl rfl rfl rfl ?_
  refine zi_icmp_eq (tgt := 1286) d_La_law_382 rfl (fun c_9 => ?_) (fun c_9 => ?_)
  · rw [if_pos c_9] at h
    refine zi_lo [(0, .ref (eb E)), (1, .ref a1), (2, .ref a2), (3, .int x3)] [0, 1, 2, 3] rfl ?_
    refine zi_wide (kc + 6) (nc + 2567) (Nat.le_add_right _ _) (Nat.le_add_right _ _) ?_
    exact K_La_law_b1286 n E r18 a1 a2 x3 S q_8.2 r S' M' kc nc hr18 h
  · rw [if_neg c_9] at h
    refine zi_iconst 0 d_La_law_385 rfl ?_
    cases h
    exact zo_retB d_La_law_386 (zleR hkc) (zleR hnc) rfl
theorem K_La_law_c5 (n : Nat) (E : zE) (r18 : Nat × Nat × Int32 × zS × zH → Option (Bool × zS × zH)) (a1 : Nat) (a2 : Nat) (x3 : Int32) (S : zS) (M : zH) (r : Bool) (S' : zS) (M' : zH) (kc nc : Nat) (hkc : kc + 6 ≤ 3214) (hnc : nc + 2567 ≤ 1341798) (hr18 : ∀ (a1 : Nat) (a2 : Nat) (x3 : Int32) (S : zS) (M : zH), r18 (a1, a2, x3, S, M) = some (r, S', M') → zG E Y_La_law (some (.int (bI r)), S', M') 18 [(0, .ref (eb E)), (1, .ref a1), (2, .ref a2), (3, .int x3)] [] S M (kc + 6) (nc + 2567)) (h : F_La_law_c5 n E r18 a1 a2 x3 S M = some (r, S', M')) : zG E Y_La_law (some (.int (bI r)), S', M') 387 [(0, .ref (eb E)), (1, .ref a1), (2, .ref a2), (3, .int x3)] [] S M kc nc := by
  unfold F_La_law_c5 at h
  refine zi_aload_n 1 d_La_law_387 rfl ?_
  refine zi_aload_n 0 d_La_law_388 rfl ?_
  refine zi_iload_n 3 d_La_law_389 rfl ?_
  refine zi_iconst 1 d_La_law_390 rfl ?_
  refine zi_iadd d_La_law_391 ?_
  obtain ⟨v_1, ev_1, h⟩ := zbind h
  refine zo_scr 393 d_La_law_392 ev_1 rfl ?_
  obtain ⟨u_2, eu_2, h⟩ := zbind h
  obtain ⟨q_3, eq_3, h⟩ := zbind h
  refine zo_virt (k' := kc) (n' := nc) 396 [.int v_1] [] [.int q_3.1] zkd_10 (zck_s eu_2) (C_NC_flow n E S a1 v_1 M q_3.1 q_3.2 eq_3) d_La_law_393 tw_508 tw_505 tw_506 tw_507 tw_1 dd_NC_flow ⟨Nat.le_of_ble_eq_true rfl, Nat.le_of_ble_eq_true rfl, zle6 hkc (Nat.le_of_ble_eq_true rfl), zle6 hnc (Nat.le_of_ble_eq_true rfl)⟩ (Nat.le_of_ble_eq_true rfl) rfl rfl rfl rfl ?_
  refine zi_aload_n 2 d_La_law_396 rfl ?_
  refine zi_aload_n 0 d_La_law_397 rfl ?_
  refine zi_iload_n 3 d_La_law_398 rfl ?_
  refine zi_iconst 1 d_La_law_399 rfl ?_
  refine zi_iadd d_La_law_400 ?_
  obtain ⟨v_4, ev_4, h⟩ := zbind h
  refine zo_scr 402 d_La_law_401 ev_4 rfl ?_
  obtain ⟨u_5, eu_5, h⟩ := zbind h
  obtain ⟨q_6, eq_6, h⟩ := zbind h
  refine zo_virt (k' := kc) (n' := nc) 405 [.int v_4] [.int q_3.1] [.int q_6.1, .int q_3.1] zkd_11 (zck_s eu_5) (C_Mo_flow n E S a2 v_4 q_3.2 q_6.1 q_6.2 eq_6) d_La_law_402 tw_1519 tw_1516 tw_1517 tw_1518 tw_13 dd_Mo_flow ⟨Nat.le_of_ble_eq_true rfl, Nat.le_of_ble_eq_true rfl, zle6 hkc (Nat.le_of_ble_eq_true rfl), zle6 hnc (Nat.le_of_ble_eq_true rfl)⟩ (Nat.le_of_ble_eq_true rfl) rfl rfl rfl rfl ?_
  refine zi_icmp_eq (tgt := 1286) d_La_law_405 rfl (fun c_7 => ?_) (fun c_7 => ?_)
  · rw [if_pos c_7] at h
    refine zi_lo [(0, .ref (eb E)), (1, .ref a1), (2, .ref a2), (3, .int x3)] [0, 1, 2, 3] rfl ?_
    refine zi_wide (kc + 6) (nc + 2567) (Nat.le_add_right _ _) (Nat.le_add_right _ _) ?_
    exact K_La_law_b1286 n E r18 a1 a2 x3 S q_6.2 r S' M' kc nc hr18 h
  · rw [if_neg c_7] at h
    refine zi_iconst 0 d_La_law_408 rfl ?_
    cases h
    exact zo_retB d_La_law_409 (zleR hkc) (zleR hnc) rfl
theorem K_La_law_c6 (n : Nat) (E : zE) (r18 : Nat × Nat × Int32 × zS × zH → Option (Bool × zS × zH)) (a1 : Nat) (a2 : Nat) (x3 : Int32) (S : zS) (M : zH) (r : Bool) (S' : zS) (M' : zH) (kc nc : Nat) (hkc : kc + 6 ≤ 3214) (hnc : nc + 2567 ≤ 1341798) (hr18 : ∀ (a1 : Nat) (a2 : Nat) (x3 : Int32) (S : zS) (M : zH), r18 (a1, a2, x3, S, M) = some (r, S', M') → zG E Y_La_law (some (.int (bI r)), S', M') 18 [(0, .ref (eb E)), (1, .ref a1), (2, .ref a2), (3, .int x3)] [] S M (kc + 6) (nc + 2567)) (h : F_La_law_c6 n E r18 a1 a2 x3 S M = some (r, S', M')) : zG E Y_La_law (some (.int (bI r)), S', M') 410 [(0, .ref (eb E)), (1, .ref a1), (2, .ref a2), (3, .int x3)] [] S M kc nc := by
  unfold F_La_law_c6 at h
  refine zi_aload_n 1 d_La_law_410 rfl ?_
  refine zi_aload_n 0 d_La_law_411 rfl ?_
  refine zi_iload_n 3 d_La_law_412 rfl ?_
  refine zi_iconst 1 d_La_law_413 rfl ?_
  refine zi_iadd d_La_law_414 ?_
  obtain ⟨v_1, ev_1, h⟩ := zbind h
  refine zo_scr 416 d_La_law_415 ev_1 rfl ?_
  refine zi_aload_n 0 d_La_law_416 rfl ?_
  refine zi_iload_n 3 d_La_law_417 rfl ?_
  refine zi_iconst 2 d_La_law_418 rfl ?_
  refine zi_iadd d_La_law_419 ?_
  obtain ⟨v_2, ev_2, h⟩ := zbind h
  refine zo_scr 421 d_La_law_420 ev_2 rfl ?_
  obtain ⟨u_3, eu_3, h⟩ := zbind h
  obtain ⟨q_4, eq_4, h⟩ := zbind h
  refine zo_virt (k' := kc) (n' := nc) 424 [.int v_1, .int v_2] [] [.int q_4.1] zkd_10 (zck_s eu_3) (C_NC_terms n E S a1 v_1 v_2 M q_4.1 q_4.2 eq_4) d_La_law_421 tw_521 tw_518 tw_519 tw_520 tw_1 dd_NC_terms ⟨Nat.le_of_ble_eq_true rfl, Nat.le_of_ble_eq_true rfl, zle6 hkc (Nat.le_of_ble_eq_true rfl), zle6 hnc (Nat.le_of_ble_eq_true rfl)⟩ (Nat.le_of_ble_eq_true rfl) rfl rfl rfl rfl ?_
  refine zi_aload_n 2 d_La_law_424 rfl ?_
  refine zi_aload_n 0 d_La_law_425 rfl ?_
  refine zi_iload_n 3 d_La_law_426 rfl ?_
  refine zi_iconst 1 d_La_law_427 rfl ?_
  refine zi_iadd d_La_law_428 ?_
  obtain ⟨v_5, ev_5, h⟩ := zbind h
  refine zo_scr 430 d_La_law_429 ev_5 rfl ?_
  refine zi_aload_n 0 d_La_law_430 rfl ?_
  refine zi_iload_n 3 d_La_law_431 rfl ?_
  refine zi_iconst 2 d_La_law_432 rfl ?_
  refine zi_iadd d_La_law_433 ?_
  obtain ⟨v_6, ev_6, h⟩ := zbind h
  refine zo_scr 435 d_La_law_434 ev_6 rfl ?_
  obtain ⟨u_7, eu_7, h⟩ := zbind h
  obtain ⟨q_8, eq_8, h⟩ := zbind h
  refine zo_virt (k' := kc) (n' := nc) 438 [.int v_5, .int v_6] [.int q_4.1] [.int q_8.1, .int q_4.1] zkd_11 (zck_s eu_7) (C_Mo_terms n E S a2 v_5 v_6 q_4.2 q_8.1 q_8.2 eq_8) d_La_law_435 tw_1531 tw_1528 tw_1529 tw_1530 tw_13 dd_Mo_terms ⟨Nat.le_of_ble_eq_true rfl, Nat.le_of_ble_eq_true rfl, zle6 hkc (Nat.le_of_ble_eq_true rfl), zle6 hnc (Nat.le_of_ble_eq_true rfl)⟩ (Nat.le_of_ble_eq_true rfl) rfl rfl rfl rfl ?_
  refine zi_icmp_eq (tgt := 1286) d_La_law_438 rfl (fun c_9 => ?_) (fun c_9 => ?_)
  · rw [if_pos c_9] at h
    refine zi_lo [(0, .ref (eb E)), (1, .ref a1), (2, .ref a2), (3, .int x3)] [0, 1, 2, 3] rfl ?_
    refine zi_wide (kc + 6) (nc + 2567) (Nat.le_add_right _ _) (Nat.le_add_right _ _) ?_
    exact K_La_law_b1286 n E r18 a1 a2 x3 S q_8.2 r S' M' kc nc hr18 h
  · rw [if_neg c_9] at h
    refine zi_iconst 0 d_La_law_441 rfl ?_
    cases h
    exact zo_retB d_La_law_442 (zleR hkc) (zleR hnc) rfl
theorem K_La_law_c7 (n : Nat) (E : zE) (r18 : Nat × Nat × Int32 × zS × zH → Option (Bool × zS × zH)) (a1 : Nat) (a2 : Nat) (x3 : Int32) (S : zS) (M : zH) (r : Bool) (S' : zS) (M' : zH) (kc nc : Nat) (hkc : kc + 6 ≤ 3214) (hnc : nc + 2567 ≤ 1341798) (hr18 : ∀ (a1 : Nat) (a2 : Nat) (x3 : Int32) (S : zS) (M : zH), r18 (a1, a2, x3, S, M) = some (r, S', M') → zG E Y_La_law (some (.int (bI r)), S', M') 18 [(0, .ref (eb E)), (1, .ref a1), (2, .ref a2), (3, .int x3)] [] S M (kc + 6) (nc + 2567)) (h : F_La_law_c7 n E r18 a1 a2 x3 S M = some (r, S', M')) : zG E Y_La_law (some (.int (bI r)), S', M') 443 [(0, .ref (eb E)), (1, .ref a1), (2, .ref a2), (3, .int x3)] [] S M kc nc := by
  unfold F_La_law_c7 at h
  refine zi_aload_n 1 d_La_law_443 rfl ?_
  refine zi_aload_n 0 d_La_law_444 rfl ?_
  refine zi_iload_n 3 d_La_law_445 rfl ?_
  refine zi_iconst 1 d_La_law_446 rfl ?_
  refine zi_iadd d_La_law_447 ?_
  obtain ⟨v_1, ev_1, h⟩ := zbind h
  refine zo_scr 449 d_La_law_448 ev_1 rfl ?_
  refine zi_aload_n 0 d_La_law_449 rfl ?_
  refine zi_iload_n 3 d_La_law_450 rfl ?_
  refine zi_iconst 2 d_La_law_451 rfl ?_
  refine zi_iadd d_La_law_452 ?_
  obtain ⟨v_2, ev_2, h⟩ := zbind h
  refine zo_scr 454 d_La_law_453 ev_2 rfl ?_
  refine zi_aload_n 0 d_La_law_454 rfl ?_
  refine zi_iload_n 3 d_La_law_455 rfl ?_
  refine zi_iconst 3 d_La_law_456 rfl ?_
  refine zi_iadd d_La_law_457 ?_
  obtain ⟨v_3, ev_3, h⟩ := zbind h
  refine zo_scr 459 d_La_law_458 ev_3 rfl ?_
  refine zi_aload_n 0 d_La_law_459 rfl ?_
  refine zi_iload_n 3 d_La_law_460 rfl ?_
  refine zi_iconst 4 d_La_law_461 rfl ?_
  refine zi_iadd d_La_law_462 ?_
  obtain ⟨v_4, ev_4, h⟩ := zbind h
  refine zo_scr 464 d_La_law_463 ev_4 rfl ?_
  refine zi_aload_n 0 d_La_law_464 rfl ?_
  refine zi_iload_n 3 d_La_law_465 rfl ?_
  refine zi_iconst 5 d_La_law_466 rfl ?_
  refine zi_iadd d_La_law_467 ?_
  obtain ⟨v_5, ev_5, h⟩ := zbind h
  refine zo_scr 469 d_La_law_468 ev_5 rfl ?_
  obtain ⟨u_6, eu_6, h⟩ := zbind h
  obtain ⟨q_7, eq_7, h⟩ := zbind h
  refine zo_virt (k' := kc) (n' := nc) 472 [.int v_1, .int v_2, .int v_3, .int v_4, .int v_5] [] [.int q_7.1] zkd_10 (zck_s eu_6) (C_NC_feed n E S a1 v_1 v_2 v_3 v_4 v_5 M q_7.1 q_7.2 eq_7) d_La_law_469 tw_527 tw_524 tw_525 tw_526 tw_1 dd_NC_feed ⟨Nat.le_of_ble_eq_true rfl, Nat.le_of_ble_eq_true rfl, zle6 hkc (Nat.le_of_ble_eq_true rfl), zle6 hnc (Nat.le_of_ble_eq_true rfl)⟩ (Nat.le_of_ble_eq_true rfl) rfl rfl rfl rfl ?_
  refine zi_aload_n 2 d_La_law_472 rfl ?_
  refine zi_aload_n 0 d_La_law_473 rfl ?_
  refine zi_iload_n 3 d_La_law_474 rfl ?_
  refine zi_iconst 1 d_La_law_475 rfl ?_
  refine zi_iadd d_La_law_476 ?_
  obtain ⟨v_8, ev_8, h⟩ := zbind h
  refine zo_scr 478 d_La_law_477 ev_8 rfl ?_
  refine zi_aload_n 0 d_La_law_478 rfl ?_
  refine zi_iload_n 3 d_La_law_479 rfl ?_
  refine zi_iconst 2 d_La_law_480 rfl ?_
  refine zi_iadd d_La_law_481 ?_
  obtain ⟨v_9, ev_9, h⟩ := zbind h
  refine zo_scr 483 d_La_law_482 ev_9 rfl ?_
  refine zi_aload_n 0 d_La_law_483 rfl ?_
  refine zi_iload_n 3 d_La_law_484 rfl ?_
  refine zi_iconst 3 d_La_law_485 rfl ?_
  refine zi_iadd d_La_law_486 ?_
  obtain ⟨v_10, ev_10, h⟩ := zbind h
  refine zo_scr 488 d_La_law_487 ev_10 rfl ?_
  refine zi_aload_n 0 d_La_law_488 rfl ?_
  refine zi_iload_n 3 d_La_law_489 rfl ?_
  refine zi_iconst 4 d_La_law_490 rfl ?_
  refine zi_iadd d_La_law_491 ?_
  obtain ⟨v_11, ev_11, h⟩ := zbind h
  refine zo_scr 493 d_La_law_492 ev_11 rfl ?_
  refine zi_aload_n 0 d_La_law_493 rfl ?_
  refine zi_iload_n 3 d_La_law_494 rfl ?_
  refine zi_iconst 5 d_La_law_495 rfl ?_
  refine zi_iadd d_La_law_496 ?_
  obtain ⟨v_12, ev_12, h⟩ := zbind h
  refine zo_scr 498 d_La_law_497 ev_12 rfl ?_
  obtain ⟨u_13, eu_13, h⟩ := zbind h
  obtain ⟨q_14, eq_14, h⟩ := zbind h
  refine zo_virt (k' := kc) (n' := nc) 501 [.int v_8, .int v_9, .int v_10, .int v_11, .int v_12] [.int q_7.1] [.int q_14.1, .int q_7.1] zkd_11 (zck_s eu_13) (C_Mo_feed n E S a2 v_8 v_9 v_10 v_11 v_12 q_7.2 q_14.1 q_14.2 eq_14) d_La_law_498 tw_1549 tw_1546 tw_1547 tw_1548 tw_13 dd_Mo_feed ⟨Nat.le_of_ble_eq_true rfl, Nat.le_of_ble_eq_true rfl, zle6 hkc (Nat.le_of_ble_eq_true rfl), zle6 hnc (Nat.le_of_ble_eq_true rfl)⟩ (Nat.le_of_ble_eq_true rfl) rfl rfl rfl rfl ?_
  refine zi_icmp_eq (tgt := 1286) d_La_law_501 rfl (fun c_15 => ?_) (fun c_15 => ?_)
  · rw [if_pos c_15] at h
    refine zi_lo [(0, .ref (eb E)), (1, .ref a1), (2, .ref a2), (3, .int x3)] [0, 1, 2, 3] rfl ?_
    refine zi_wide (kc + 6) (nc + 2567) (Nat.le_add_right _ _) (Nat.le_add_right _ _) ?_
    exact K_La_law_b1286 n E r18 a1 a2 x3 S q_14.2 r S' M' kc nc hr18 h
  · rw [if_neg c_15] at h
    refine zi_iconst 0 d_La_law_504 rfl ?_
    cases h
    exact zo_retB d_La_law_505 (zleR hkc) (zleR hnc) rfl
theorem K_La_law_c8 (n : Nat) (E : zE) (r18 : Nat × Nat × Int32 × zS × zH → Option (Bool × zS × zH)) (a1 : Nat) (a2 : Nat) (x3 : Int32) (S : zS) (M : zH) (r : Bool) (S' : zS) (M' : zH) (kc nc : Nat) (hkc : kc + 6 ≤ 3214) (hnc : nc + 2567 ≤ 1341798) (hr18 : ∀ (a1 : Nat) (a2 : Nat) (x3 : Int32) (S : zS) (M : zH), r18 (a1, a2, x3, S, M) = some (r, S', M') → zG E Y_La_law (some (.int (bI r)), S', M') 18 [(0, .ref (eb E)), (1, .ref a1), (2, .ref a2), (3, .int x3)] [] S M (kc + 6) (nc + 2567)) (h : F_La_law_c8 n E r18 a1 a2 x3 S M = some (r, S', M')) : zG E Y_La_law (some (.int (bI r)), S', M') 506 [(0, .ref (eb E)), (1, .ref a1), (2, .ref a2), (3, .int x3)] [] S M kc nc := by
  unfold F_La_law_c8 at h
  refine zi_aload_n 1 d_La_law_506 rfl ?_
  refine zi_aload_n 0 d_La_law_507 rfl ?_
  refine zi_iload_n 3 d_La_law_508 rfl ?_
  refine zi_iconst 1 d_La_law_509 rfl ?_
  refine zi_iadd d_La_law_510 ?_
  obtain ⟨v_1, ev_1, h⟩ := zbind h
  refine zo_scr 512 d_La_law_511 ev_1 rfl ?_
  obtain ⟨u_2, eu_2, h⟩ := zbind h
  obtain ⟨q_3, eq_3, h⟩ := zbind h
  refine zo_virt (k' := kc) (n' := nc) 515 [.int v_1] [] [.int q_3.1] zkd_10 (zck_s eu_2) (C_NC_end n E S a1 v_1 M q_3.1 q_3.2 eq_3) d_La_law_512 tw_539 tw_536 tw_537 tw_538 tw_1 dd_NC_end ⟨Nat.le_of_ble_eq_true rfl, Nat.le_of_ble_eq_true rfl, zle6 hkc (Nat.le_of_ble_eq_true rfl), zle6 hnc (Nat.le_of_ble_eq_true rfl)⟩ (Nat.le_of_ble_eq_true rfl) rfl rfl rfl rfl ?_
  refine zi_aload_n 2 d_La_law_515 rfl ?_
  refine zi_aload_n 0 d_La_law_516 rfl ?_
  refine zi_iload_n 3 d_La_law_517 rfl ?_
  refine zi_iconst 1 d_La_law_518 rfl ?_
  refine zi_iadd d_La_law_519 ?_
  obtain ⟨v_4, ev_4, h⟩ := zbind h
  refine zo_scr 521 d_La_law_520 ev_4 rfl ?_
  obtain ⟨u_5, eu_5, h⟩ := zbind h
  obtain ⟨q_6, eq_6, h⟩ := zbind h
  refine zo_virt (k' := kc) (n' := nc) 524 [.int v_4] [.int q_3.1] [.int q_6.1, .int q_3.1] zkd_11 (zck_s eu_5) (C_Mo_end n E S a2 v_4 q_3.2 q_6.1 q_6.2 eq_6) d_La_law_521 tw_1557 tw_1554 tw_1555 tw_1556 tw_13 dd_Mo_end ⟨Nat.le_of_ble_eq_true rfl, Nat.le_of_ble_eq_true rfl, zle6 hkc (Nat.le_of_ble_eq_true rfl), zle6 hnc (Nat.le_of_ble_eq_true rfl)⟩ (Nat.le_of_ble_eq_true rfl) rfl rfl rfl rfl ?_
  refine zi_icmp_eq (tgt := 1286) d_La_law_524 rfl (fun c_7 => ?_) (fun c_7 => ?_)
  · rw [if_pos c_7] at h
    refine zi_lo [(0, .ref (eb E)), (1, .ref a1), (2, .ref a2), (3, .int x3)] [0, 1, 2, 3] rfl ?_
    refine zi_wide (kc + 6) (nc + 2567) (Nat.le_add_right _ _) (Nat.le_add_right _ _) ?_
    exact K_La_law_b1286 n E r18 a1 a2 x3 S q_6.2 r S' M' kc nc hr18 h
  · rw [if_neg c_7] at h
    refine zi_iconst 0 d_La_law_527 rfl ?_
    cases h
    exact zo_retB d_La_law_528 (zleR hkc) (zleR hnc) rfl
theorem K_La_law_c9 (n : Nat) (E : zE) (r18 : Nat × Nat × Int32 × zS × zH → Option (Bool × zS × zH)) (a1 : Nat) (a2 : Nat) (x3 : Int32) (S : zS) (M : zH) (r : Bool) (S' : zS) (M' : zH) (kc nc : Nat) (hkc : kc + 6 ≤ 3214) (hnc : nc + 2567 ≤ 1341798) (hr18 : ∀ (a1 : Nat) (a2 : Nat) (x3 : Int32) (S : zS) (M : zH), r18 (a1, a2, x3, S, M) = some (r, S', M') → zG E Y_La_law (some (.int (bI r)), S', M') 18 [(0, .ref (eb E)), (1, .ref a1), (2, .ref a2), (3, .int x3)] [] S M (kc + 6) (nc + 2567)) (h : F_La_law_c9 n E r18 a1 a2 x3 S M = some (r, S', M')) : zG E Y_La_law (some (.int (bI r)), S', M') 529 [(0, .ref (eb E)), (1, .ref a1), (2, .ref a2), (3, .int x3)] [] S M kc nc := by
  unfold F_La_law_c9 at h
  refine zi_aload_n 1 d_La_law_529 rfl ?_
  obtain ⟨u_1, eu_1, h⟩ := zbind h
  obtain ⟨q_2, eq_2, h⟩ := zbind h
  refine zo_virt (k' := kc) (n' := nc) 533 [] [] [.int q_2.1] zkd_10 (zck_s eu_1) (C_NC_row n E S a1 M q_2.1 q_2.2 eq_2) d_La_law_530 tw_543 tw_540 tw_541 tw_542 tw_1 dd_NC_row ⟨Nat.le_of_ble_eq_true rfl, Nat.le_of_ble_eq_true rfl, zle6 hkc (Nat.le_of_ble_eq_true rfl), zle6 hnc (Nat.le_of_ble_eq_true rfl)⟩ (Nat.le_of_ble_eq_true rfl) rfl rfl rfl rfl ?_
  refine zi_aload_n 2 d_La_law_533 rfl ?_
  obtain ⟨u_3, eu_3, h⟩ := zbind h
  obtain ⟨q_4, eq_4, h⟩ := zbind h
  refine zo_virt (k' := kc) (n' := nc) 537 [] [.int q_2.1] [.int q_4.1, .int q_2.1] zkd_11 (zck_s eu_3) (C_Mo_row n E S a2 q_2.2 q_4.1 q_4.2 eq_4) d_La_law_534 tw_1541 tw_1538 tw_1539 tw_1540 tw_13 dd_Mo_row ⟨Nat.le_of_ble_eq_true rfl, Nat.le_of_ble_eq_true rfl, zle6 hkc (Nat.le_of_ble_eq_true rfl), zle6 hnc (Nat.le_of_ble_eq_true rfl)⟩ (Nat.le_of_ble_eq_true rfl) rfl rfl rfl rfl ?_
  refine zi_icmp_eq (tgt := 1286) d_La_law_537 rfl (fun c_5 => ?_) (fun c_5 => ?_)
  · rw [if_pos c_5] at h
    refine zi_lo [(0, .ref (eb E)), (1, .ref a1), (2, .ref a2), (3, .int x3)] [0, 1, 2, 3] rfl ?_
    refine zi_wide (kc + 6) (nc + 2567) (Nat.le_add_right _ _) (Nat.le_add_right _ _) ?_
    exact K_La_law_b1286 n E r18 a1 a2 x3 S q_4.2 r S' M' kc nc hr18 h
  · rw [if_neg c_5] at h
    refine zi_iconst 0 d_La_law_540 rfl ?_
    cases h
    exact zo_retB d_La_law_541 (zleR hkc) (zleR hnc) rfl
theorem K_La_law_c10 (n : Nat) (E : zE) (r18 : Nat × Nat × Int32 × zS × zH → Option (Bool × zS × zH)) (a1 : Nat) (a2 : Nat) (x3 : Int32) (S : zS) (M : zH) (r : Bool) (S' : zS) (M' : zH) (kc nc : Nat) (hkc : kc + 6 ≤ 3214) (hnc : nc + 2567 ≤ 1341798) (hr18 : ∀ (a1 : Nat) (a2 : Nat) (x3 : Int32) (S : zS) (M : zH), r18 (a1, a2, x3, S, M) = some (r, S', M') → zG E Y_La_law (some (.int (bI r)), S', M') 18 [(0, .ref (eb E)), (1, .ref a1), (2, .ref a2), (3, .int x3)] [] S M (kc + 6) (nc + 2567)) (h : F_La_law_c10 n E r18 a1 a2 x3 S M = some (r, S', M')) : zG E Y_La_law (some (.int (bI r)), S', M') 542 [(0, .ref (eb E)), (1, .ref a1), (2, .ref a2), (3, .int x3)] [] S M kc nc := by
  unfold F_La_law_c10 at h
  refine zi_aload_n 1 d_La_law_542 rfl ?_
  obtain ⟨u_1, eu_1, h⟩ := zbind h
  obtain ⟨q_2, eq_2, h⟩ := zbind h
  refine zo_virt (k' := kc) (n' := nc) 546 [] [] [.int q_2.1] zkd_10 (zck_s eu_1) (C_NC_peas n E S a1 M q_2.1 q_2.2 eq_2) d_La_law_543 tw_555 tw_552 tw_553 tw_554 tw_1 dd_NC_peas ⟨Nat.le_of_ble_eq_true rfl, Nat.le_of_ble_eq_true rfl, zle6 hkc (Nat.le_of_ble_eq_true rfl), zle6 hnc (Nat.le_of_ble_eq_true rfl)⟩ (Nat.le_of_ble_eq_true rfl) rfl rfl rfl rfl ?_
  refine zi_aload_n 2 d_La_law_546 rfl ?_
  obtain ⟨u_3, eu_3, h⟩ := zbind h
  obtain ⟨q_4, eq_4, h⟩ := zbind h
  refine zo_virt (k' := kc) (n' := nc) 550 [] [.int q_2.1] [.int q_4.1, .int q_2.1] zkd_11 (zck_s eu_3) (C_Mo_peas n E S a2 q_2.2 q_4.1 q_4.2 eq_4) d_La_law_547 tw_1545 tw_1542 tw_1543 tw_1544 tw_13 dd_Mo_peas ⟨Nat.le_of_ble_eq_true rfl, Nat.le_of_ble_eq_true rfl, zle6 hkc (Nat.le_of_ble_eq_true rfl), zle6 hnc (Nat.le_of_ble_eq_true rfl)⟩ (Nat.le_of_ble_eq_true rfl) rfl rfl rfl rfl ?_
  refine zi_icmp_eq (tgt := 1286) d_La_law_550 rfl (fun c_5 => ?_) (fun c_5 => ?_)
  · rw [if_pos c_5] at h
    refine zi_lo [(0, .ref (eb E)), (1, .ref a1), (2, .ref a2), (3, .int x3)] [0, 1, 2, 3] rfl ?_
    refine zi_wide (kc + 6) (nc + 2567) (Nat.le_add_right _ _) (Nat.le_add_right _ _) ?_
    exact K_La_law_b1286 n E r18 a1 a2 x3 S q_4.2 r S' M' kc nc hr18 h
  · rw [if_neg c_5] at h
    refine zi_iconst 0 d_La_law_553 rfl ?_
    cases h
    exact zo_retB d_La_law_554 (zleR hkc) (zleR hnc) rfl
