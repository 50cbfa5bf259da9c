set_option maxRecDepth 100000 in
set_option maxHeartbeats 4000000 in
theorem cL_c0 {X : mm_X} (C : mm_C X cL_law yL_law 1300 183448 8551906) {sb L : Nat} {xs : Nat → Int32} (hX : mm_scr X sb L xs) {cl sl : Nat} (hcl : cl + 350 ≤ 183448) (hsl : sl + 16500 ≤ 8551906) {ax ay : Nat} {xi : Int32} {K : mm_H → Option (Int32 × mm_H)} {u : Int32 × mm_H} (hk : ∀ h, K h = some u → mm_E X h (cl + 350) (sl + 16500) 2011 [some (vR (some sb)), some (vR (some ax)), some (vR (some ay)), some (vI xi)] []) : ∀ h, fL_c0 L xs ax ay xi K h = some u → mm_E X h (cl + 0) (sl + 0) 240 [some (vR (some sb)), some (vR (some ax)), some (vR (some ay)), some (vI xi)] [] := by
  intro h hf
  unfold fL_c0 at hf
  refine me_aload_n (q := 241) C dL_law_240 rfl rfl rfl ?_
  refine me_aload_n (q := 242) C dL_law_241 rfl rfl rfl ?_
  refine me_iload_n (q := 243) C dL_law_242 rfl rfl rfl ?_
  refine me_iconst (v := (1 : Int32)) (q := 244) C dL_law_243 (by decide) rfl ?_
  refine me_iadd (q := 245) C dL_law_244 rfl ?_
  obtain ⟨k1, hf⟩ := mm_ck_some hf
  refine me_sld (q := 246) C hX dL_law_245 k1 rfl ?_
  obtain ⟨k2, hf⟩ := mm_ck_some hf
  obtain ⟨v3, g4, e5, hf⟩ := mm_cl_some hf
  refine me_callV (q := 249) (c2 := cl + 0) (s2 := sl + 0) (st := []) C (cX11_clock_ok _ e5) mt_L_13 mv_X11_clock rfl (by decide) dL_law_246 rfl k2 rfl rfl rfl (Nat.le_of_ble_eq_true rfl) (by omega) (by omega) (by omega) (by omega) rfl rfl ?_
  refine me_aload_n (q := 250) C dL_law_249 rfl rfl rfl ?_
  refine me_aload_n (q := 251) C dL_law_250 rfl rfl rfl ?_
  refine me_iload_n (q := 252) C dL_law_251 rfl rfl rfl ?_
  refine me_iconst (v := (1 : Int32)) (q := 253) C dL_law_252 (by decide) rfl ?_
  refine me_iadd (q := 254) C dL_law_253 rfl ?_
  obtain ⟨k6, hf⟩ := mm_ck_some hf
  refine me_sld (q := 255) C hX dL_law_254 k6 rfl ?_
  obtain ⟨k7, hf⟩ := mm_ck_some hf
  obtain ⟨v8, g9, e10, hf⟩ := mm_cl_some hf
  refine me_callV (q := 258) (c2 := cl + 0) (s2 := sl + 0) (st := [vI v3]) C (cX12_clock_ok _ e10) mt_L_17 mv_X12_clock rfl (by decide) dL_law_255 rfl k7 rfl rfl rfl (Nat.le_of_ble_eq_true rfl) (by omega) (by omega) (by omega) (by omega) rfl rfl ?_
  refine me_icmp_eq (q2 := 2011) (q := 261) C dL_law_258 (by decide) rfl (fun c11 => ?_) (fun c11 => ?_)
  · have hf := mm_if_t c11 hf
    refine me_widen (by omega) (by omega) (hk _ hf)
  · have hf := mm_if_f c11 hf
    refine me_iconst (v := (0 : Int32)) (q := 262) C dL_law_261 (by decide) rfl ?_
    exact absurd hf (by simp)
set_option maxRecDepth 100000 in
set_option maxHeartbeats 4000000 in
theorem cL_c1 {X : mm_X} (C : mm_C X cL_law yL_law 1300 183448 8551906) {sb L : Nat} {xs : Nat → Int32} (hX : mm_scr X sb L xs) {cl sl : Nat} (hcl : cl + 350 ≤ 183448) (hsl : sl + 16500 ≤ 8551906) {ax ay : Nat} {xi : Int32} {K : mm_H → Option (Int32 × mm_H)} {u : Int32 × mm_H} (hk : ∀ h, K h = some u → mm_E X h (cl + 350) (sl + 16500) 2011 [some (vR (some sb)), some (vR (some ax)), some (vR (some ay)), some (vI xi)] []) : ∀ h, fL_c1 L xs ax ay xi K h = some u → mm_E X h (cl + 0) (sl + 0) 263 [some (vR (some sb)), some (vR (some ax)), some (vR (some ay)), some (vI xi)] [] := by
  intro h hf
  unfold fL_c1 at hf
  refine me_aload_n (q := 264) C dL_law_263 rfl rfl rfl ?_
  refine me_aload_n (q := 265) C dL_law_264 rfl rfl rfl ?_
  refine me_iload_n (q := 266) C dL_law_265 rfl rfl rfl ?_
  refine me_iconst (v := (1 : Int32)) (q := 267) C dL_law_266 (by decide) rfl ?_
  refine me_iadd (q := 268) C dL_law_267 rfl ?_
  obtain ⟨k1, hf⟩ := mm_ck_some hf
  refine me_sld (q := 269) C hX dL_law_268 k1 rfl ?_
  refine me_aload_n (q := 270) C dL_law_269 rfl rfl rfl ?_
  refine me_iload_n (q := 271) C dL_law_270 rfl rfl rfl ?_
  refine me_iconst (v := (2 : Int32)) (q := 272) C dL_law_271 (by decide) rfl ?_
  refine me_iadd (q := 273) C dL_law_272 rfl ?_
  obtain ⟨k2, hf⟩ := mm_ck_some hf
  refine me_sld (q := 274) C hX dL_law_273 k2 rfl ?_
  obtain ⟨q4, eq4, hf⟩ := mm_jn_some hf
  have Hq4 : ∀ (v3 : Int32), q4 v3 = some u → mm_E X h (cl + 0) (sl + 0) 282 [some (vR (some sb)), some (vR (some ax)), some (vR (some ay)), some (vI xi)] [vI v3, vI (xs (Int32.toNatClampNeg ((xi + (1 : Int32))))), vR (some ax)] := by
    intro v3 hf
    subst eq4
    refine me_aload_n (q := 283) C dL_law_282 rfl rfl rfl ?_
    refine me_iload_n (q := 284) C dL_law_283 rfl rfl rfl ?_
    refine me_iconst (v := (3 : Int32)) (q := 285) C dL_law_284 (by decide) rfl ?_
    refine me_iadd (q := 286) C dL_law_285 rfl ?_
    obtain ⟨k5, hf⟩ := mm_ck_some hf
    refine me_sld (q := 287) C hX dL_law_286 k5 rfl ?_
    obtain ⟨k6, hf⟩ := mm_ck_some hf
    obtain ⟨v7, g8, e9, hf⟩ := mm_cl_some hf
    refine me_callV (q := 290) (c2 := cl + 3) (s2 := sl + 423) (st := []) C (cX11_man_ok _ e9) mt_L_18 mv_X11_man rfl (by decide) dL_law_287 rfl k6 rfl rfl rfl (Nat.le_of_ble_eq_true rfl) (by omega) (by omega) (by omega) (by omega) rfl rfl ?_
    refine me_aload_n (q := 291) C dL_law_290 rfl rfl rfl ?_
    refine me_aload_n (q := 292) C dL_law_291 rfl rfl rfl ?_
    refine me_iload_n (q := 293) C dL_law_292 rfl rfl rfl ?_
    refine me_iconst (v := (1 : Int32)) (q := 294) C dL_law_293 (by decide) rfl ?_
    refine me_iadd (q := 295) C dL_law_294 rfl ?_
    obtain ⟨k10, hf⟩ := mm_ck_some hf
    refine me_sld (q := 296) C hX dL_law_295 k10 rfl ?_
    refine me_aload_n (q := 297) C dL_law_296 rfl rfl rfl ?_
    refine me_iload_n (q := 298) C dL_law_297 rfl rfl rfl ?_
    refine me_iconst (v := (2 : Int32)) (q := 299) C dL_law_298 (by decide) rfl ?_
    refine me_iadd (q := 300) C dL_law_299 rfl ?_
    obtain ⟨k11, hf⟩ := mm_ck_some hf
    refine me_sld (q := 301) C hX dL_law_300 k11 rfl ?_
    obtain ⟨q13, eq13, hf⟩ := mm_jn_some hf
    have Hq13 : ∀ (v12 : Int32), q13 v12 = some u → mm_E X g8 (cl + 3) (sl + 423) 309 [some (vR (some sb)), some (vR (some ax)), some (vR (some ay)), some (vI xi)] [vI v12, vI (xs (Int32.toNatClampNeg ((xi + (1 : Int32))))), vR (some ay), vI v7] := by
      intro v12 hf
      subst eq13
      refine me_aload_n (q := 310) C dL_law_309 rfl rfl rfl ?_
      refine me_iload_n (q := 311) C dL_law_310 rfl rfl rfl ?_
      refine me_iconst (v := (3 : Int32)) (q := 312) C dL_law_311 (by decide) rfl ?_
      refine me_iadd (q := 313) C dL_law_312 rfl ?_
      obtain ⟨k14, hf⟩ := mm_ck_some hf
      refine me_sld (q := 314) C hX dL_law_313 k14 rfl ?_
      obtain ⟨k15, hf⟩ := mm_ck_some hf
      obtain ⟨v16, g17, e18, hf⟩ := mm_cl_some hf
      refine me_callV (q := 317) (c2 := cl + 3) (s2 := sl + 423) (st := [vI v7]) C (cX12_man_ok _ e18) mt_L_22 mv_X12_man rfl (by decide) dL_law_314 rfl k15 rfl rfl rfl (Nat.le_of_ble_eq_true rfl) (by omega) (by omega) (by omega) (by omega) rfl rfl ?_
      refine me_icmp_eq (q2 := 2011) (q := 320) C dL_law_317 (by decide) rfl (fun c19 => ?_) (fun c19 => ?_)
      · have hf := mm_if_t c19 hf
        refine me_widen (by omega) (by omega) (hk _ hf)
      · have hf := mm_if_f c19 hf
        refine me_iconst (v := (0 : Int32)) (q := 321) C dL_law_320 (by decide) rfl ?_
        exact absurd hf (by simp)
    refine me_if_eq (q2 := 308) (q := 304) C dL_law_301 (by decide) rfl (fun c20 => ?_) (fun c20 => ?_)
    · have hf := mm_if_t c20 hf
      refine me_iconst (v := (0 : Int32)) (q := 309) C dL_law_308 (by decide) rfl ?_
      exact Hq13 _ hf
    · have hf := mm_if_f c20 hf
      refine me_iconst (v := (1 : Int32)) (q := 305) C dL_law_304 (by decide) rfl ?_
      refine me_goto (q := 309) C dL_law_305 (by decide) ?_
      exact Hq13 _ hf
  refine me_if_eq (q2 := 281) (q := 277) C dL_law_274 (by decide) rfl (fun c21 => ?_) (fun c21 => ?_)
  · have hf := mm_if_t c21 hf
    refine me_iconst (v := (0 : Int32)) (q := 282) C dL_law_281 (by decide) rfl ?_
    exact Hq4 _ hf
  · have hf := mm_if_f c21 hf
    refine me_iconst (v := (1 : Int32)) (q := 278) C dL_law_277 (by decide) rfl ?_
    refine me_goto (q := 282) C dL_law_278 (by decide) ?_
    exact Hq4 _ hf
set_option maxRecDepth 100000 in
set_option maxHeartbeats 4000000 in
theorem cL_c2 {X : mm_X} (C : mm_C X cL_law yL_law 1300 183448 8551906) {sb L : Nat} {xs : Nat → Int32} (hX : mm_scr X sb L xs) {cl sl : Nat} (hcl : cl + 350 ≤ 183448) (hsl : sl + 16500 ≤ 8551906) {ax ay : Nat} {xi : Int32} {K : mm_H → Option (Int32 × mm_H)} {u : Int32 × mm_H} (hk : ∀ h, K h = some u → mm_E X h (cl + 350) (sl + 16500) 2011 [some (vR (some sb)), some (vR (some ax)), some (vR (some ay)), some (vI xi)] []) : ∀ h, fL_c2 L xs ax ay xi K h = some u → mm_E X h (cl + 0) (sl + 0) 322 [some (vR (some sb)), some (vR (some ax)), some (vR (some ay)), some (vI xi)] [] := by
  intro h hf
  unfold fL_c2 at hf
  refine me_aload_n (q := 323) C dL_law_322 rfl rfl rfl ?_
  refine me_aload_n (q := 324) C dL_law_323 rfl rfl rfl ?_
  refine me_iload_n (q := 325) C dL_law_324 rfl rfl rfl ?_
  refine me_iconst (v := (1 : Int32)) (q := 326) C dL_law_325 (by decide) rfl ?_
  refine me_iadd (q := 327) C dL_law_326 rfl ?_
  obtain ⟨k1, hf⟩ := mm_ck_some hf
  refine me_sld (q := 328) C hX dL_law_327 k1 rfl ?_
  obtain ⟨k2, hf⟩ := mm_ck_some hf
  obtain ⟨v3, g4, e5, hf⟩ := mm_cl_some hf
  refine me_callV (q := 331) (c2 := cl + 0) (s2 := sl + 0) (st := []) C (cX11_leave_ok _ e5) mt_L_23 mv_X11_leave rfl (by decide) dL_law_328 rfl k2 rfl rfl rfl (Nat.le_of_ble_eq_true rfl) (by omega) (by omega) (by omega) (by omega) rfl rfl ?_
  refine me_aload_n (q := 332) C dL_law_331 rfl rfl rfl ?_
  refine me_aload_n (q := 333) C dL_law_332 rfl rfl rfl ?_
  refine me_iload_n (q := 334) C dL_law_333 rfl rfl rfl ?_
  refine me_iconst (v := (1 : Int32)) (q := 335) C dL_law_334 (by decide) rfl ?_
  refine me_iadd (q := 336) C dL_law_335 rfl ?_
  obtain ⟨k6, hf⟩ := mm_ck_some hf
  refine me_sld (q := 337) C hX dL_law_336 k6 rfl ?_
  obtain ⟨k7, hf⟩ := mm_ck_some hf
  obtain ⟨v8, g9, e10, hf⟩ := mm_cl_some hf
  refine me_callV (q := 340) (c2 := cl + 0) (s2 := sl + 0) (st := [vI v3]) C (cX12_leave_ok _ e10) mt_L_26 mv_X12_leave rfl (by decide) dL_law_337 rfl k7 rfl rfl rfl (Nat.le_of_ble_eq_true rfl) (by omega) (by omega) (by omega) (by omega) rfl rfl ?_
  refine me_icmp_eq (q2 := 2011) (q := 343) C dL_law_340 (by decide) rfl (fun c11 => ?_) (fun c11 => ?_)
  · have hf := mm_if_t c11 hf
    refine me_widen (by omega) (by omega) (hk _ hf)
  · have hf := mm_if_f c11 hf
    refine me_iconst (v := (0 : Int32)) (q := 344) C dL_law_343 (by decide) rfl ?_
    exact absurd hf (by simp)
set_option maxRecDepth 100000 in
set_option maxHeartbeats 4000000 in
theorem cL_c3 {X : mm_X} (C : mm_C X cL_law yL_law 1300 183448 8551906) {sb L : Nat} {xs : Nat → Int32} (hX : mm_scr X sb L xs) {cl sl : Nat} (hcl : cl + 350 ≤ 183448) (hsl : sl + 16500 ≤ 8551906) {ax ay : Nat} {xi : Int32} {K : mm_H → Option (Int32 × mm_H)} {u : Int32 × mm_H} (hk : ∀ h, K h = some u → mm_E X h (cl + 350) (sl + 16500) 2011 [some (vR (some sb)), some (vR (some ax)), some (vR (some ay)), some (vI xi)] []) : ∀ h, fL_c3 L xs ax ay xi K h = some u → mm_E X h (cl + 0) (sl + 0) 345 [some (vR (some sb)), some (vR (some ax)), some (vR (some ay)), some (vI xi)] [] := by
  intro h hf
  unfold fL_c3 at hf
  refine me_aload_n (q := 346) C dL_law_345 rfl rfl rfl ?_
  refine me_aload_n (q := 347) C dL_law_346 rfl rfl rfl ?_
  refine me_iload_n (q := 348) C dL_law_347 rfl rfl rfl ?_
  refine me_iconst (v := (1 : Int32)) (q := 349) C dL_law_348 (by decide) rfl ?_
  refine me_iadd (q := 350) C dL_law_349 rfl ?_
  obtain ⟨k1, hf⟩ := mm_ck_some hf
  refine me_sld (q := 351) C hX dL_law_350 k1 rfl ?_
  obtain ⟨k2, hf⟩ := mm_ck_some hf
  obtain ⟨v3, g4, e5, hf⟩ := mm_cl_some hf
  refine me_callV (q := 354) (c2 := cl + 0) (s2 := sl + 0) (st := []) C (cX11_die_ok _ e5) mt_L_27 mv_X11_die rfl (by decide) dL_law_351 rfl k2 rfl rfl rfl (Nat.le_of_ble_eq_true rfl) (by omega) (by omega) (by omega) (by omega) rfl rfl ?_
  refine me_aload_n (q := 355) C dL_law_354 rfl rfl rfl ?_
  refine me_aload_n (q := 356) C dL_law_355 rfl rfl rfl ?_
  refine me_iload_n (q := 357) C dL_law_356 rfl rfl rfl ?_
  refine me_iconst (v := (1 : Int32)) (q := 358) C dL_law_357 (by decide) rfl ?_
  refine me_iadd (q := 359) C dL_law_358 rfl ?_
  obtain ⟨k6, hf⟩ := mm_ck_some hf
  refine me_sld (q := 360) C hX dL_law_359 k6 rfl ?_
  obtain ⟨k7, hf⟩ := mm_ck_some hf
  obtain ⟨v8, g9, e10, hf⟩ := mm_cl_some hf
  refine me_callV (q := 363) (c2 := cl + 0) (s2 := sl + 0) (st := [vI v3]) C (cX12_die_ok _ e10) mt_L_31 mv_X12_die rfl (by decide) dL_law_360 rfl k7 rfl rfl rfl (Nat.le_of_ble_eq_true rfl) (by omega) (by omega) (by omega) (by omega) rfl rfl ?_
  refine me_icmp_eq (q2 := 2011) (q := 366) C dL_law_363 (by decide) rfl (fun c11 => ?_) (fun c11 => ?_)
  · have hf := mm_if_t c11 hf
    refine me_widen (by omega) (by omega) (hk _ hf)
  · have hf := mm_if_f c11 hf
    refine me_iconst (v := (0 : Int32)) (q := 367) C dL_law_366 (by decide) rfl ?_
    exact absurd hf (by simp)
set_option maxRecDepth 100000 in
set_option maxHeartbeats 4000000 in
theorem cL_c4 {X : mm_X} (C : mm_C X cL_law yL_law 1300 183448 8551906) {sb L : Nat} {xs : Nat → Int32} (hX : mm_scr X sb L xs) {cl sl : Nat} (hcl : cl + 350 ≤ 183448) (hsl : sl + 16500 ≤ 8551906) {ax ay : Nat} {xi : Int32} {K : mm_H → Option (Int32 × mm_H)} {u : Int32 × mm_H} (hk : ∀ h, K h = some u → mm_E X h (cl + 350) (sl + 16500) 2011 [some (vR (some sb)), some (vR (some ax)), some (vR (some ay)), some (vI xi)] []) : ∀ h, fL_c4 L xs ax ay xi K h = some u → mm_E X h (cl + 0) (sl + 0) 368 [some (vR (some sb)), some (vR (some ax)), some (vR (some ay)), some (vI xi)] [] := by
  intro h hf
  unfold fL_c4 at hf
  refine me_aload_n (q := 369) C dL_law_368 rfl rfl rfl ?_
  refine me_aload_n (q := 370) C dL_law_369 rfl rfl rfl ?_
  refine me_iload_n (q := 371) C dL_law_370 rfl rfl rfl ?_
  refine me_iconst (v := (1 : Int32)) (q := 372) C dL_law_371 (by decide) rfl ?_
  refine me_iadd (q := 373) C dL_law_372 rfl ?_
  obtain ⟨k1, hf⟩ := mm_ck_some hf
  refine me_sld (q := 374) C hX dL_law_373 k1 rfl ?_
  refine me_aload_n (q := 375) C dL_law_374 rfl rfl rfl ?_
  refine me_iload_n (q := 376) C dL_law_375 rfl rfl rfl ?_
  refine me_iconst (v := (2 : Int32)) (q := 377) C dL_law_376 (by decide) rfl ?_
  refine me_iadd (q := 378) C dL_law_377 rfl ?_
  obtain ⟨k2, hf⟩ := mm_ck_some hf
  refine me_sld (q := 379) C hX dL_law_378 k2 rfl ?_
  refine me_aload_n (q := 380) C dL_law_379 rfl rfl rfl ?_
  refine me_iload_n (q := 381) C dL_law_380 rfl rfl rfl ?_
  refine me_iconst (v := (3 : Int32)) (q := 382) C dL_law_381 (by decide) rfl ?_
  refine me_iadd (q := 383) C dL_law_382 rfl ?_
  obtain ⟨k3, hf⟩ := mm_ck_some hf
  refine me_sld (q := 384) C hX dL_law_383 k3 rfl ?_
  obtain ⟨k4, hf⟩ := mm_ck_some hf
  obtain ⟨v5, g6, e7, hf⟩ := mm_cl_some hf
  refine me_callV (q := 387) (c2 := cl + 3) (s2 := sl + 421) (st := []) C (cX11_bring_ok _ e7) mt_L_32 mv_X11_bring rfl (by decide) dL_law_384 rfl k4 rfl rfl rfl (Nat.le_of_ble_eq_true rfl) (by omega) (by omega) (by omega) (by omega) rfl rfl ?_
  refine me_aload_n (q := 388) C dL_law_387 rfl rfl rfl ?_
  refine me_aload_n (q := 389) C dL_law_388 rfl rfl rfl ?_
  refine me_iload_n (q := 390) C dL_law_389 rfl rfl rfl ?_
  refine me_iconst (v := (1 : Int32)) (q := 391) C dL_law_390 (by decide) rfl ?_
  refine me_iadd (q := 392) C dL_law_391 rfl ?_
  obtain ⟨k8, hf⟩ := mm_ck_some hf
  refine me_sld (q := 393) C hX dL_law_392 k8 rfl ?_
  refine me_aload_n (q := 394) C dL_law_393 rfl rfl rfl ?_
  refine me_iload_n (q := 395) C dL_law_394 rfl rfl rfl ?_
  refine me_iconst (v := (2 : Int32)) (q := 396) C dL_law_395 (by decide) rfl ?_
  refine me_iadd (q := 397) C dL_law_396 rfl ?_
  obtain ⟨k9, hf⟩ := mm_ck_some hf
  refine me_sld (q := 398) C hX dL_law_397 k9 rfl ?_
  refine me_aload_n (q := 399) C dL_law_398 rfl rfl rfl ?_
  refine me_iload_n (q := 400) C dL_law_399 rfl rfl rfl ?_
  refine me_iconst (v := (3 : Int32)) (q := 401) C dL_law_400 (by decide) rfl ?_
  refine me_iadd (q := 402) C dL_law_401 rfl ?_
  obtain ⟨k10, hf⟩ := mm_ck_some hf
  refine me_sld (q := 403) C hX dL_law_402 k10 rfl ?_
  obtain ⟨k11, hf⟩ := mm_ck_some hf
  obtain ⟨v12, g13, e14, hf⟩ := mm_cl_some hf
  refine me_callV (q := 406) (c2 := cl + 3) (s2 := sl + 421) (st := [vI v5]) C (cX12_bring_ok _ e14) mt_L_36 mv_X12_bring rfl (by decide) dL_law_403 rfl k11 rfl rfl rfl (Nat.le_of_ble_eq_true rfl) (by omega) (by omega) (by omega) (by omega) rfl rfl ?_
  refine me_icmp_eq (q2 := 2011) (q := 409) C dL_law_406 (by decide) rfl (fun c15 => ?_) (fun c15 => ?_)
  · have hf := mm_if_t c15 hf
    refine me_widen (by omega) (by omega) (hk _ hf)
  · have hf := mm_if_f c15 hf
    refine me_iconst (v := (0 : Int32)) (q := 410) C dL_law_409 (by decide) rfl ?_
    exact absurd hf (by simp)
set_option maxRecDepth 100000 in
set_option maxHeartbeats 4000000 in
theorem cL_c5 {X : mm_X} (C : mm_C X cL_law yL_law 1300 183448 8551906) {sb L : Nat} {xs : Nat → Int32} (hX : mm_scr X sb L xs) {cl sl : Nat} (hcl : cl + 350 ≤ 183448) (hsl : sl + 16500 ≤ 8551906) {ax ay : Nat} {xi : Int32} {K : mm_H → Option (Int32 × mm_H)} {u : Int32 × mm_H} (hk : ∀ h, K h = some u → mm_E X h (cl + 350) (sl + 16500) 2011 [some (vR (some sb)), some (vR (some ax)), some (vR (some ay)), some (vI xi)] []) : ∀ h, fL_c5 L xs ax ay xi K h = some u → mm_E X h (cl + 0) (sl + 0) 411 [some (vR (some sb)), some (vR (some ax)), some (vR (some ay)), some (vI xi)] [] := by
  intro h hf
  unfold fL_c5 at hf
  refine me_aload_n (q := 412) C dL_law_411 rfl rfl rfl ?_
  refine me_aload_n (q := 413) C dL_law_412 rfl rfl rfl ?_
  refine me_iload_n (q := 414) C dL_law_413 rfl rfl rfl ?_
  refine me_iconst (v := (1 : Int32)) (q := 415) C dL_law_414 (by decide) rfl ?_
  refine me_iadd (q := 416) C dL_law_415 rfl ?_
  obtain ⟨k1, hf⟩ := mm_ck_some hf
  refine me_sld (q := 417) C hX dL_law_416 k1 rfl ?_
  refine me_aload_n (q := 418) C dL_law_417 rfl rfl rfl ?_
  refine me_iload_n (q := 419) C dL_law_418 rfl rfl rfl ?_
  refine me_iconst (v := (2 : Int32)) (q := 420) C dL_law_419 (by decide) rfl ?_
  refine me_iadd (q := 421) C dL_law_420 rfl ?_
  obtain ⟨k2, hf⟩ := mm_ck_some hf
  refine me_sld (q := 422) C hX dL_law_421 k2 rfl ?_
  obtain ⟨k3, hf⟩ := mm_ck_some hf
  obtain ⟨v4, g5, e6, hf⟩ := mm_cl_some hf
  refine me_callV (q := 425) (c2 := cl + 0) (s2 := sl + 0) (st := []) C (cX11_lot_ok _ e6) mt_L_37 mv_X11_lot rfl (by decide) dL_law_422 rfl k3 rfl rfl rfl (Nat.le_of_ble_eq_true rfl) (by omega) (by omega) (by omega) (by omega) rfl rfl ?_
  refine me_aload_n (q := 426) C dL_law_425 rfl rfl rfl ?_
  refine me_aload_n (q := 427) C dL_law_426 rfl rfl rfl ?_
  refine me_iload_n (q := 428) C dL_law_427 rfl rfl rfl ?_
  refine me_iconst (v := (1 : Int32)) (q := 429) C dL_law_428 (by decide) rfl ?_
  refine me_iadd (q := 430) C dL_law_429 rfl ?_
  obtain ⟨k7, hf⟩ := mm_ck_some hf
  refine me_sld (q := 431) C hX dL_law_430 k7 rfl ?_
  refine me_aload_n (q := 432) C dL_law_431 rfl rfl rfl ?_
  refine me_iload_n (q := 433) C dL_law_432 rfl rfl rfl ?_
  refine me_iconst (v := (2 : Int32)) (q := 434) C dL_law_433 (by decide) rfl ?_
  refine me_iadd (q := 435) C dL_law_434 rfl ?_
  obtain ⟨k8, hf⟩ := mm_ck_some hf
  refine me_sld (q := 436) C hX dL_law_435 k8 rfl ?_
  obtain ⟨k9, hf⟩ := mm_ck_some hf
  obtain ⟨v10, g11, e12, hf⟩ := mm_cl_some hf
  refine me_callV (q := 439) (c2 := cl + 0) (s2 := sl + 0) (st := [vI v4]) C (cX12_lot_ok _ e12) mt_L_41 mv_X12_lot rfl (by decide) dL_law_436 rfl k9 rfl rfl rfl (Nat.le_of_ble_eq_true rfl) (by omega) (by omega) (by omega) (by omega) rfl rfl ?_
  refine me_icmp_eq (q2 := 2011) (q := 442) C dL_law_439 (by decide) rfl (fun c13 => ?_) (fun c13 => ?_)
  · have hf := mm_if_t c13 hf
    refine me_widen (by omega) (by omega) (hk _ hf)
  · have hf := mm_if_f c13 hf
    refine me_iconst (v := (0 : Int32)) (q := 443) C dL_law_442 (by decide) rfl ?_
    exact absurd hf (by simp)
set_option maxRecDepth 100000 in
set_option maxHeartbeats 4000000 in
theorem cL_c6 {X : mm_X} (C : mm_C X cL_law yL_law 1300 183448 8551906) {sb L : Nat} {xs : Nat → Int32} (hX : mm_scr X sb L xs) {cl sl : Nat} (hcl : cl + 350 ≤ 183448) (hsl : sl + 16500 ≤ 8551906) {ax ay : Nat} {xi : Int32} {K : mm_H → Option (Int32 × mm_H)} {u : Int32 × mm_H} (hk : ∀ h, K h = some u → mm_E X h (cl + 350) (sl + 16500) 2011 [some (vR (some sb)), some (vR (some ax)), some (vR (some ay)), some (vI xi)] []) : ∀ h, fL_c6 L xs ax ay xi K h = some u → mm_E X h (cl + 0) (sl + 0) 444 [some (vR (some sb)), some (vR (some ax)), some (vR (some ay)), some (vI xi)] [] := by
  intro h hf
  unfold fL_c6 at hf
  refine me_aload_n (q := 445) C dL_law_444 rfl rfl rfl ?_
  refine me_aload_n (q := 446) C dL_law_445 rfl rfl rfl ?_
  refine me_iload_n (q := 447) C dL_law_446 rfl rfl rfl ?_
  refine me_iconst (v := (1 : Int32)) (q := 448) C dL_law_447 (by decide) rfl ?_
  refine me_iadd (q := 449) C dL_law_448 rfl ?_
  obtain ⟨k1, hf⟩ := mm_ck_some hf
  refine me_sld (q := 450) C hX dL_law_449 k1 rfl ?_
  refine me_aload_n (q := 451) C dL_law_450 rfl rfl rfl ?_
  refine me_iload_n (q := 452) C dL_law_451 rfl rfl rfl ?_
  refine me_iconst (v := (2 : Int32)) (q := 453) C dL_law_452 (by decide) rfl ?_
  refine me_iadd (q := 454) C dL_law_453 rfl ?_
  obtain ⟨k2, hf⟩ := mm_ck_some hf
  refine me_sld (q := 455) C hX dL_law_454 k2 rfl ?_
  obtain ⟨k3, hf⟩ := mm_ck_some hf
  obtain ⟨v4, g5, e6, hf⟩ := mm_cl_some hf
  refine me_callV (q := 458) (c2 := cl + 0) (s2 := sl + 0) (st := []) C (cX11_men_ok _ e6) mt_L_42 mv_X11_men rfl (by decide) dL_law_455 rfl k3 rfl rfl rfl (Nat.le_of_ble_eq_true rfl) (by omega) (by omega) (by omega) (by omega) rfl rfl ?_
  refine me_aload_n (q := 459) C dL_law_458 rfl rfl rfl ?_
  refine me_aload_n (q := 460) C dL_law_459 rfl rfl rfl ?_
  refine me_iload_n (q := 461) C dL_law_460 rfl rfl rfl ?_
  refine me_iconst (v := (1 : Int32)) (q := 462) C dL_law_461 (by decide) rfl ?_
  refine me_iadd (q := 463) C dL_law_462 rfl ?_
  obtain ⟨k7, hf⟩ := mm_ck_some hf
  refine me_sld (q := 464) C hX dL_law_463 k7 rfl ?_
  refine me_aload_n (q := 465) C dL_law_464 rfl rfl rfl ?_
  refine me_iload_n (q := 466) C dL_law_465 rfl rfl rfl ?_
  refine me_iconst (v := (2 : Int32)) (q := 467) C dL_law_466 (by decide) rfl ?_
  refine me_iadd (q := 468) C dL_law_467 rfl ?_
  obtain ⟨k8, hf⟩ := mm_ck_some hf
  refine me_sld (q := 469) C hX dL_law_468 k8 rfl ?_
  obtain ⟨k9, hf⟩ := mm_ck_some hf
  obtain ⟨v10, g11, e12, hf⟩ := mm_cl_some hf
  refine me_callV (q := 472) (c2 := cl + 0) (s2 := sl + 0) (st := [vI v4]) C (cX12_men_ok _ e12) mt_L_45 mv_X12_men rfl (by decide) dL_law_469 rfl k9 rfl rfl rfl (Nat.le_of_ble_eq_true rfl) (by omega) (by omega) (by omega) (by omega) rfl rfl ?_
  refine me_icmp_eq (q2 := 2011) (q := 475) C dL_law_472 (by decide) rfl (fun c13 => ?_) (fun c13 => ?_)
  · have hf := mm_if_t c13 hf
    refine me_widen (by omega) (by omega) (hk _ hf)
  · have hf := mm_if_f c13 hf
    refine me_iconst (v := (0 : Int32)) (q := 476) C dL_law_475 (by decide) rfl ?_
    exact absurd hf (by simp)
set_option maxRecDepth 100000 in
set_option maxHeartbeats 4000000 in
theorem cL_c7 {X : mm_X} (C : mm_C X cL_law yL_law 1300 183448 8551906) {sb L : Nat} {xs : Nat → Int32} (hX : mm_scr X sb L xs) {cl sl : Nat} (hcl : cl + 350 ≤ 183448) (hsl : sl + 16500 ≤ 8551906) {ax ay : Nat} {xi : Int32} {K : mm_H → Option (Int32 × mm_H)} {u : Int32 × mm_H} (hk : ∀ h, K h = some u → mm_E X h (cl + 350) (sl + 16500) 2011 [some (vR (some sb)), some (vR (some ax)), some (vR (some ay)), some (vI xi)] []) : ∀ h, fL_c7 L xs ax ay xi K h = some u → mm_E X h (cl + 0) (sl + 0) 477 [some (vR (some sb)), some (vR (some ax)), some (vR (some ay)), some (vI xi)] [] := by
  intro h hf
  unfold fL_c7 at hf
  refine me_aload_n (q := 478) C dL_law_477 rfl rfl rfl ?_
  refine me_aload_n (q := 479) C dL_law_478 rfl rfl rfl ?_
  refine me_iload_n (q := 480) C dL_law_479 rfl rfl rfl ?_
  refine me_iconst (v := (1 : Int32)) (q := 481) C dL_law_480 (by decide) rfl ?_
  refine me_iadd (q := 482) C dL_law_481 rfl ?_
  obtain ⟨k1, hf⟩ := mm_ck_some hf
  refine me_sld (q := 483) C hX dL_law_482 k1 rfl ?_
  refine me_aload_n (q := 484) C dL_law_483 rfl rfl rfl ?_
  refine me_iload_n (q := 485) C dL_law_484 rfl rfl rfl ?_
  refine me_iconst (v := (2 : Int32)) (q := 486) C dL_law_485 (by decide) rfl ?_
  refine me_iadd (q := 487) C dL_law_486 rfl ?_
  obtain ⟨k2, hf⟩ := mm_ck_some hf
  refine me_sld (q := 488) C hX dL_law_487 k2 rfl ?_
  refine me_aload_n (q := 489) C dL_law_488 rfl rfl rfl ?_
  refine me_iload_n (q := 490) C dL_law_489 rfl rfl rfl ?_
  refine me_iconst (v := (3 : Int32)) (q := 491) C dL_law_490 (by decide) rfl ?_
  refine me_iadd (q := 492) C dL_law_491 rfl ?_
  obtain ⟨k3, hf⟩ := mm_ck_some hf
  refine me_sld (q := 493) C hX dL_law_492 k3 rfl ?_
  refine me_aload_n (q := 494) C dL_law_493 rfl rfl rfl ?_
  refine me_iload_n (q := 495) C dL_law_494 rfl rfl rfl ?_
  refine me_iconst (v := (4 : Int32)) (q := 496) C dL_law_495 (by decide) rfl ?_
  refine me_iadd (q := 497) C dL_law_496 rfl ?_
  obtain ⟨k4, hf⟩ := mm_ck_some hf
  refine me_sld (q := 498) C hX dL_law_497 k4 rfl ?_
  refine me_aload_n (q := 499) C dL_law_498 rfl rfl rfl ?_
  refine me_iload_n (q := 500) C dL_law_499 rfl rfl rfl ?_
  refine me_iconst (v := (5 : Int32)) (q := 501) C dL_law_500 (by decide) rfl ?_
  refine me_iadd (q := 502) C dL_law_501 rfl ?_
  obtain ⟨k5, hf⟩ := mm_ck_some hf
  refine me_sld (q := 503) C hX dL_law_502 k5 rfl ?_
  obtain ⟨k6, hf⟩ := mm_ck_some hf
  obtain ⟨v7, g8, e9, hf⟩ := mm_cl_some hf
  refine me_callV (q := 506) (c2 := cl + 0) (s2 := sl + 0) (st := []) C (cX11_feed_ok _ e9) mt_L_46 mv_X11_feed rfl (by decide) dL_law_503 rfl k6 rfl rfl rfl (Nat.le_of_ble_eq_true rfl) (by omega) (by omega) (by omega) (by omega) rfl rfl ?_
  refine me_aload_n (q := 507) C dL_law_506 rfl rfl rfl ?_
  refine me_aload_n (q := 508) C dL_law_507 rfl rfl rfl ?_
  refine me_iload_n (q := 509) C dL_law_508 rfl rfl rfl ?_
  refine me_iconst (v := (1 : Int32)) (q := 510) C dL_law_509 (by decide) rfl ?_
  refine me_iadd (q := 511) C dL_law_510 rfl ?_
  obtain ⟨k10, hf⟩ := mm_ck_some hf
  refine me_sld (q := 512) C hX dL_law_511 k10 rfl ?_
  refine me_aload_n (q := 513) C dL_law_512 rfl rfl rfl ?_
  refine me_iload_n (q := 514) C dL_law_513 rfl rfl rfl ?_
  refine me_iconst (v := (2 : Int32)) (q := 515) C dL_law_514 (by decide) rfl ?_
  refine me_iadd (q := 516) C dL_law_515 rfl ?_
  obtain ⟨k11, hf⟩ := mm_ck_some hf
  refine me_sld (q := 517) C hX dL_law_516 k11 rfl ?_
  refine me_aload_n (q := 518) C dL_law_517 rfl rfl rfl ?_
  refine me_iload_n (q := 519) C dL_law_518 rfl rfl rfl ?_
  refine me_iconst (v := (3 : Int32)) (q := 520) C dL_law_519 (by decide) rfl ?_
  refine me_iadd (q := 521) C dL_law_520 rfl ?_
  obtain ⟨k12, hf⟩ := mm_ck_some hf
  refine me_sld (q := 522) C hX dL_law_521 k12 rfl ?_
  refine me_aload_n (q := 523) C dL_law_522 rfl rfl rfl ?_
  refine me_iload_n (q := 524) C dL_law_523 rfl rfl rfl ?_
  refine me_iconst (v := (4 : Int32)) (q := 525) C dL_law_524 (by decide) rfl ?_
  refine me_iadd (q := 526) C dL_law_525 rfl ?_
  obtain ⟨k13, hf⟩ := mm_ck_some hf
  refine me_sld (q := 527) C hX dL_law_526 k13 rfl ?_
  refine me_aload_n (q := 528) C dL_law_527 rfl rfl rfl ?_
  refine me_iload_n (q := 529) C dL_law_528 rfl rfl rfl ?_
  refine me_iconst (v := (5 : Int32)) (q := 530) C dL_law_529 (by decide) rfl ?_
  refine me_iadd (q := 531) C dL_law_530 rfl ?_
  obtain ⟨k14, hf⟩ := mm_ck_some hf
  refine me_sld (q := 532) C hX dL_law_531 k14 rfl ?_
  obtain ⟨k15, hf⟩ := mm_ck_some hf
  obtain ⟨v16, g17, e18, hf⟩ := mm_cl_some hf
  refine me_callV (q := 535) (c2 := cl + 0) (s2 := sl + 0) (st := [vI v7]) C (cX12_feed_ok _ e18) mt_L_50 mv_X12_feed rfl (by decide) dL_law_532 rfl k15 rfl rfl rfl (Nat.le_of_ble_eq_true rfl) (by omega) (by omega) (by omega) (by omega) rfl rfl ?_
  refine me_icmp_eq (q2 := 2011) (q := 538) C dL_law_535 (by decide) rfl (fun c19 => ?_) (fun c19 => ?_)
  · have hf := mm_if_t c19 hf
    refine me_widen (by omega) (by omega) (hk _ hf)
  · have hf := mm_if_f c19 hf
    refine me_iconst (v := (0 : Int32)) (q := 539) C dL_law_538 (by decide) rfl ?_
    exact absurd hf (by simp)
set_option maxRecDepth 100000 in
set_option maxHeartbeats 4000000 in
theorem cL_c8 {X : mm_X} (C : mm_C X cL_law yL_law 1300 183448 8551906) {sb L : Nat} {xs : Nat → Int32} (hX : mm_scr X sb L xs) {cl sl : Nat} (hcl : cl + 350 ≤ 183448) (hsl : sl + 16500 ≤ 8551906) {ax ay : Nat} {xi : Int32} {K : mm_H → Option (Int32 × mm_H)} {u : Int32 × mm_H} (hk : ∀ h, K h = some u → mm_E X h (cl + 350) (sl + 16500) 2011 [some (vR (some sb)), some (vR (some ax)), some (vR (some ay)), some (vI xi)] []) : ∀ h, fL_c8 L xs ax ay xi K h = some u → mm_E X h (cl + 0) (sl + 0) 540 [some (vR (some sb)), some (vR (some ax)), some (vR (some ay)), some (vI xi)] [] := by
  intro h hf
  unfold fL_c8 at hf
  refine me_aload_n (q := 541) C dL_law_540 rfl rfl rfl ?_
  refine me_aload_n (q := 542) C dL_law_541 rfl rfl rfl ?_
  refine me_iload_n (q := 543) C dL_law_542 rfl rfl rfl ?_
  refine me_iconst (v := (1 : Int32)) (q := 544) C dL_law_543 (by decide) rfl ?_
  refine me_iadd (q := 545) C dL_law_544 rfl ?_
  obtain ⟨k1, hf⟩ := mm_ck_some hf
  refine me_sld (q := 546) C hX dL_law_545 k1 rfl ?_
  obtain ⟨k2, hf⟩ := mm_ck_some hf
  obtain ⟨v3, g4, e5, hf⟩ := mm_cl_some hf
  refine me_callV (q := 549) (c2 := cl + 0) (s2 := sl + 0) (st := []) C (cX11_end_ok _ e5) mt_L_51 mv_X11_end rfl (by decide) dL_law_546 rfl k2 rfl rfl rfl (Nat.le_of_ble_eq_true rfl) (by omega) (by omega) (by omega) (by omega) rfl rfl ?_
  refine me_aload_n (q := 550) C dL_law_549 rfl rfl rfl ?_
  refine me_aload_n (q := 551) C dL_law_550 rfl rfl rfl ?_
  refine me_iload_n (q := 552) C dL_law_551 rfl rfl rfl ?_
  refine me_iconst (v := (1 : Int32)) (q := 553) C dL_law_552 (by decide) rfl ?_
  refine me_iadd (q := 554) C dL_law_553 rfl ?_
  obtain ⟨k6, hf⟩ := mm_ck_some hf
  refine me_sld (q := 555) C hX dL_law_554 k6 rfl ?_
  obtain ⟨k7, hf⟩ := mm_ck_some hf
  obtain ⟨v8, g9, e10, hf⟩ := mm_cl_some hf
  refine me_callV (q := 558) (c2 := cl + 0) (s2 := sl + 0) (st := [vI v3]) C (cX12_end_ok _ e10) mt_L_54 mv_X12_end rfl (by decide) dL_law_555 rfl k7 rfl rfl rfl (Nat.le_of_ble_eq_true rfl) (by omega) (by omega) (by omega) (by omega) rfl rfl ?_
  refine me_icmp_eq (q2 := 2011) (q := 561) C dL_law_558 (by decide) rfl (fun c11 => ?_) (fun c11 => ?_)
  · have hf := mm_if_t c11 hf
    refine me_widen (by omega) (by omega) (hk _ hf)
  · have hf := mm_if_f c11 hf
    refine me_iconst (v := (0 : Int32)) (q := 562) C dL_law_561 (by decide) rfl ?_
    exact absurd hf (by simp)
set_option maxRecDepth 100000 in
set_option maxHeartbeats 4000000 in
theorem cL_c9 {X : mm_X} (C : mm_C X cL_law yL_law 1300 183448 8551906) {sb L : Nat} {xs : Nat → Int32} (hX : mm_scr X sb L xs) {cl sl : Nat} (hcl : cl + 350 ≤ 183448) (hsl : sl + 16500 ≤ 8551906) {ax ay : Nat} {xi : Int32} {K : mm_H → Option (Int32 × mm_H)} {u : Int32 × mm_H} (hk : ∀ h, K h = some u → mm_E X h (cl + 350) (sl + 16500) 2011 [some (vR (some sb)), some (vR (some ax)), some (vR (some ay)), some (vI xi)] []) : ∀ h, fL_c9 L xs ax ay xi K h = some u → mm_E X h (cl + 0) (sl + 0) 563 [some (vR (some sb)), some (vR (some ax)), some (vR (some ay)), some (vI xi)] [] := by
  intro h hf
  unfold fL_c9 at hf
  refine me_aload_n (q := 564) C dL_law_563 rfl rfl rfl ?_
  refine me_aload_n (q := 565) C dL_law_564 rfl rfl rfl ?_
  refine me_iload_n (q := 566) C dL_law_565 rfl rfl rfl ?_
  refine me_iconst (v := (1 : Int32)) (q := 567) C dL_law_566 (by decide) rfl ?_
  refine me_iadd (q := 568) C dL_law_567 rfl ?_
  obtain ⟨k1, hf⟩ := mm_ck_some hf
  refine me_sld (q := 569) C hX dL_law_568 k1 rfl ?_
  refine me_aload_n (q := 570) C dL_law_569 rfl rfl rfl ?_
  refine me_iload_n (q := 571) C dL_law_570 rfl rfl rfl ?_
  refine me_iconst (v := (2 : Int32)) (q := 572) C dL_law_571 (by decide) rfl ?_
  refine me_iadd (q := 573) C dL_law_572 rfl ?_
  obtain ⟨k2, hf⟩ := mm_ck_some hf
  refine me_sld (q := 574) C hX dL_law_573 k2 rfl ?_
  obtain ⟨k3, hf⟩ := mm_ck_some hf
  obtain ⟨v4, g5, e6, hf⟩ := mm_cl_some hf
  refine me_callV (q := 577) (c2 := cl + 6) (s2 := sl + 843) (st := []) C (cX11_law_ok _ e6) mt_L_55 mv_X11_law rfl (by decide) dL_law_574 rfl k3 rfl rfl rfl (Nat.le_of_ble_eq_true rfl) (by omega) (by omega) (by omega) (by omega) rfl rfl ?_
  refine me_aload_n (q := 578) C dL_law_577 rfl rfl rfl ?_
  refine me_aload_n (q := 579) C dL_law_578 rfl rfl rfl ?_
  refine me_iload_n (q := 580) C dL_law_579 rfl rfl rfl ?_
  refine me_iconst (v := (1 : Int32)) (q := 581) C dL_law_580 (by decide) rfl ?_
  refine me_iadd (q := 582) C dL_law_581 rfl ?_
  obtain ⟨k7, hf⟩ := mm_ck_some hf
  refine me_sld (q := 583) C hX dL_law_582 k7 rfl ?_
  refine me_aload_n (q := 584) C dL_law_583 rfl rfl rfl ?_
  refine me_iload_n (q := 585) C dL_law_584 rfl rfl rfl ?_
  refine me_iconst (v := (2 : Int32)) (q := 586) C dL_law_585 (by decide) rfl ?_
  refine me_iadd (q := 587) C dL_law_586 rfl ?_
  obtain ⟨k8, hf⟩ := mm_ck_some hf
  refine me_sld (q := 588) C hX dL_law_587 k8 rfl ?_
  obtain ⟨k9, hf⟩ := mm_ck_some hf
  obtain ⟨v10, g11, e12, hf⟩ := mm_cl_some hf
  refine me_callV (q := 591) (c2 := cl + 6) (s2 := sl + 843) (st := [vI v4]) C (cX12_law_ok _ e12) mt_L_58 mv_X12_law rfl (by decide) dL_law_588 rfl k9 rfl rfl rfl (Nat.le_of_ble_eq_true rfl) (by omega) (by omega) (by omega) (by omega) rfl rfl ?_
  refine me_icmp_eq (q2 := 2011) (q := 594) C dL_law_591 (by decide) rfl (fun c13 => ?_) (fun c13 => ?_)
  · have hf := mm_if_t c13 hf
    refine me_widen (by omega) (by omega) (hk _ hf)
  · have hf := mm_if_f c13 hf
    refine me_iconst (v := (0 : Int32)) (q := 595) C dL_law_594 (by decide) rfl ?_
    exact absurd hf (by simp)
set_option maxRecDepth 100000 in
set_option maxHeartbeats 4000000 in
theorem cL_c10 {X : mm_X} (C : mm_C X cL_law yL_law 1300 183448 8551906) {sb L : Nat} {xs : Nat → Int32} (hX : mm_scr X sb L xs) {cl sl : Nat} (hcl : cl + 350 ≤ 183448) (hsl : sl + 16500 ≤ 8551906) {ax ay : Nat} {xi : Int32} {K : mm_H → Option (Int32 × mm_H)} {u : Int32 × mm_H} (hk : ∀ h, K h = some u → mm_E X h (cl + 350) (sl + 16500) 2011 [some (vR (some sb)), some (vR (some ax)), some (vR (some ay)), some (vI xi)] []) : ∀ h, fL_c10 L xs ax ay xi K h = some u → mm_E X h (cl + 0) (sl + 0) 596 [some (vR (some sb)), some (vR (some ax)), some (vR (some ay)), some (vI xi)] [] := by
  intro h hf
  unfold fL_c10 at hf
  refine me_aload_n (q := 597) C dL_law_596 rfl rfl rfl ?_
  refine me_aload_n (q := 598) C dL_law_597 rfl rfl rfl ?_
  refine me_iload_n (q := 599) C dL_law_598 rfl rfl rfl ?_
  refine me_iconst (v := (1 : Int32)) (q := 600) C dL_law_599 (by decide) rfl ?_
  refine me_iadd (q := 601) C dL_law_600 rfl ?_
  obtain ⟨k1, hf⟩ := mm_ck_some hf
  refine me_sld (q := 602) C hX dL_law_601 k1 rfl ?_
  obtain ⟨k2, hf⟩ := mm_ck_some hf
  obtain ⟨v3, g4, e5, hf⟩ := mm_cl_some hf
  refine me_callV (q := 605) (c2 := cl + 0) (s2 := sl + 0) (st := []) C (cX11_read_ok _ e5) mt_L_59 mv_X11_read rfl (by decide) dL_law_602 rfl k2 rfl rfl rfl (Nat.le_of_ble_eq_true rfl) (by omega) (by omega) (by omega) (by omega) rfl rfl ?_
  refine me_aload_n (q := 606) C dL_law_605 rfl rfl rfl ?_
  refine me_aload_n (q := 607) C dL_law_606 rfl rfl rfl ?_
  refine me_iload_n (q := 608) C dL_law_607 rfl rfl rfl ?_
  refine me_iconst (v := (1 : Int32)) (q := 609) C dL_law_608 (by decide) rfl ?_
  refine me_iadd (q := 610) C dL_law_609 rfl ?_
  obtain ⟨k6, hf⟩ := mm_ck_some hf
  refine me_sld (q := 611) C hX dL_law_610 k6 rfl ?_
  obtain ⟨k7, hf⟩ := mm_ck_some hf
  obtain ⟨v8, g9, e10, hf⟩ := mm_cl_some hf
  refine me_callV (q := 614) (c2 := cl + 0) (s2 := sl + 0) (st := [vI v3]) C (cX12_read_ok _ e10) mt_L_62 mv_X12_read rfl (by decide) dL_law_611 rfl k7 rfl rfl rfl (Nat.le_of_ble_eq_true rfl) (by omega) (by omega) (by omega) (by omega) rfl rfl ?_
  refine me_icmp_eq (q2 := 2011) (q := 617) C dL_law_614 (by decide) rfl (fun c11 => ?_) (fun c11 => ?_)
  · have hf := mm_if_t c11 hf
    refine me_widen (by omega) (by omega) (hk _ hf)
  · have hf := mm_if_f c11 hf
    refine me_iconst (v := (0 : Int32)) (q := 618) C dL_law_617 (by decide) rfl ?_
    exact absurd hf (by simp)
set_option maxRecDepth 100000 in
set_option maxHeartbeats 4000000 in
theorem cL_c11 {X : mm_X} (C : mm_C X cL_law yL_law 1300 183448 8551906) {sb L : Nat} {xs : Nat → Int32} (hX : mm_scr X sb L xs) {cl sl : Nat} (hcl : cl + 350 ≤ 183448) (hsl : sl + 16500 ≤ 8551906) {ax ay : Nat} {xi : Int32} {K : mm_H → Option (Int32 × mm_H)} {u : Int32 × mm_H} (hk : ∀ h, K h = some u → mm_E X h (cl + 350) (sl + 16500) 2011 [some (vR (some sb)), some (vR (some ax)), some (vR (some ay)), some (vI xi)] []) : ∀ h, fL_c11 L xs ax ay xi K h = some u → mm_E X h (cl + 0) (sl + 0) 619 [some (vR (some sb)), some (vR (some ax)), some (vR (some ay)), some (vI xi)] [] := by
  intro h hf
  unfold fL_c11 at hf
  refine me_aload_n (q := 620) C dL_law_619 rfl rfl rfl ?_
  refine me_aload_n (q := 621) C dL_law_620 rfl rfl rfl ?_
  refine me_iload_n (q := 622) C dL_law_621 rfl rfl rfl ?_
  refine me_iconst (v := (1 : Int32)) (q := 623) C dL_law_622 (by decide) rfl ?_
  refine me_iadd (q := 624) C dL_law_623 rfl ?_
  obtain ⟨k1, hf⟩ := mm_ck_some hf
  refine me_sld (q := 625) C hX dL_law_624 k1 rfl ?_
  refine me_aload_n (q := 626) C dL_law_625 rfl rfl rfl ?_
  refine me_iload_n (q := 627) C dL_law_626 rfl rfl rfl ?_
  refine me_iconst (v := (2 : Int32)) (q := 628) C dL_law_627 (by decide) rfl ?_
  refine me_iadd (q := 629) C dL_law_628 rfl ?_
  obtain ⟨k2, hf⟩ := mm_ck_some hf
  refine me_sld (q := 630) C hX dL_law_629 k2 rfl ?_
  obtain ⟨k3, hf⟩ := mm_ck_some hf
  obtain ⟨v4, g5, e6, hf⟩ := mm_cl_some hf
  refine me_callV (q := 633) (c2 := cl + 0) (s2 := sl + 0) (st := []) C (cX11_laws_ok _ e6) mt_L_63 mv_X11_laws rfl (by decide) dL_law_630 rfl k3 rfl rfl rfl (Nat.le_of_ble_eq_true rfl) (by omega) (by omega) (by omega) (by omega) rfl rfl ?_
  refine me_aload_n (q := 634) C dL_law_633 rfl rfl rfl ?_
  refine me_aload_n (q := 635) C dL_law_634 rfl rfl rfl ?_
  refine me_iload_n (q := 636) C dL_law_635 rfl rfl rfl ?_
  refine me_iconst (v := (1 : Int32)) (q := 637) C dL_law_636 (by decide) rfl ?_
  refine me_iadd (q := 638) C dL_law_637 rfl ?_
  obtain ⟨k7, hf⟩ := mm_ck_some hf
  refine me_sld (q := 639) C hX dL_law_638 k7 rfl ?_
  refine me_aload_n (q := 640) C dL_law_639 rfl rfl rfl ?_
  refine me_iload_n (q := 641) C dL_law_640 rfl rfl rfl ?_
  refine me_iconst (v := (2 : Int32)) (q := 642) C dL_law_641 (by decide) rfl ?_
  refine me_iadd (q := 643) C dL_law_642 rfl ?_
  obtain ⟨k8, hf⟩ := mm_ck_some hf
  refine me_sld (q := 644) C hX dL_law_643 k8 rfl ?_
  obtain ⟨k9, hf⟩ := mm_ck_some hf
  obtain ⟨v10, g11, e12, hf⟩ := mm_cl_some hf
  refine me_callV (q := 647) (c2 := cl + 0) (s2 := sl + 0) (st := [vI v4]) C (cX12_laws_ok _ e12) mt_L_66 mv_X12_laws rfl (by decide) dL_law_644 rfl k9 rfl rfl rfl (Nat.le_of_ble_eq_true rfl) (by omega) (by omega) (by omega) (by omega) rfl rfl ?_
  refine me_icmp_eq (q2 := 2011) (q := 650) C dL_law_647 (by decide) rfl (fun c13 => ?_) (fun c13 => ?_)
  · have hf := mm_if_t c13 hf
    refine me_widen (by omega) (by omega) (hk _ hf)
  · have hf := mm_if_f c13 hf
    refine me_iconst (v := (0 : Int32)) (q := 651) C dL_law_650 (by decide) rfl ?_
    exact absurd hf (by simp)
set_option maxRecDepth 100000 in
set_option maxHeartbeats 4000000 in
theorem cL_c12 {X : mm_X} (C : mm_C X cL_law yL_law 1300 183448 8551906) {sb L : Nat} {xs : Nat → Int32} (hX : mm_scr X sb L xs) {cl sl : Nat} (hcl : cl + 350 ≤ 183448) (hsl : sl + 16500 ≤ 8551906) {ax ay : Nat} {xi : Int32} {K : mm_H → Option (Int32 × mm_H)} {u : Int32 × mm_H} (hk : ∀ h, K h = some u → mm_E X h (cl + 350) (sl + 16500) 2011 [some (vR (some sb)), some (vR (some ax)), some (vR (some ay)), some (vI xi)] []) : ∀ h, fL_c12 L xs ax ay xi K h = some u → mm_E X h (cl + 0) (sl + 0) 652 [some (vR (some sb)), some (vR (some ax)), some (vR (some ay)), some (vI xi)] [] := by
  intro h hf
  unfold fL_c12 at hf
  refine me_aload_n (q := 653) C dL_law_652 rfl rfl rfl ?_
  refine me_aload_n (q := 654) C dL_law_653 rfl rfl rfl ?_
  refine me_iload_n (q := 655) C dL_law_654 rfl rfl rfl ?_
  refine me_iconst (v := (1 : Int32)) (q := 656) C dL_law_655 (by decide) rfl ?_
  refine me_iadd (q := 657) C dL_law_656 rfl ?_
  obtain ⟨k1, hf⟩ := mm_ck_some hf
  refine me_sld (q := 658) C hX dL_law_657 k1 rfl ?_
  refine me_aload_n (q := 659) C dL_law_658 rfl rfl rfl ?_
  refine me_iload_n (q := 660) C dL_law_659 rfl rfl rfl ?_
  refine me_iconst (v := (2 : Int32)) (q := 661) C dL_law_660 (by decide) rfl ?_
  refine me_iadd (q := 662) C dL_law_661 rfl ?_
  obtain ⟨k2, hf⟩ := mm_ck_some hf
  refine me_sld (q := 663) C hX dL_law_662 k2 rfl ?_
  obtain ⟨k3, hf⟩ := mm_ck_some hf
  obtain ⟨v4, g5, e6, hf⟩ := mm_cl_some hf
  refine me_callV (q := 666) (c2 := cl + 0) (s2 := sl + 0) (st := []) C (cX11_force_ok _ e6) mt_L_67 mv_X11_force rfl (by decide) dL_law_663 rfl k3 rfl rfl rfl (Nat.le_of_ble_eq_true rfl) (by omega) (by omega) (by omega) (by omega) rfl rfl ?_
  refine me_aload_n (q := 667) C dL_law_666 rfl rfl rfl ?_
  refine me_aload_n (q := 668) C dL_law_667 rfl rfl rfl ?_
  refine me_iload_n (q := 669) C dL_law_668 rfl rfl rfl ?_
  refine me_iconst (v := (1 : Int32)) (q := 670) C dL_law_669 (by decide) rfl ?_
  refine me_iadd (q := 671) C dL_law_670 rfl ?_
  obtain ⟨k7, hf⟩ := mm_ck_some hf
  refine me_sld (q := 672) C hX dL_law_671 k7 rfl ?_
  refine me_aload_n (q := 673) C dL_law_672 rfl rfl rfl ?_
  refine me_iload_n (q := 674) C dL_law_673 rfl rfl rfl ?_
  refine me_iconst (v := (2 : Int32)) (q := 675) C dL_law_674 (by decide) rfl ?_
  refine me_iadd (q := 676) C dL_law_675 rfl ?_
  obtain ⟨k8, hf⟩ := mm_ck_some hf
  refine me_sld (q := 677) C hX dL_law_676 k8 rfl ?_
  obtain ⟨k9, hf⟩ := mm_ck_some hf
  obtain ⟨v10, g11, e12, hf⟩ := mm_cl_some hf
  refine me_callV (q := 680) (c2 := cl + 0) (s2 := sl + 0) (st := [vI v4]) C (cX12_force_ok _ e12) mt_L_70 mv_X12_force rfl (by decide) dL_law_677 rfl k9 rfl rfl rfl (Nat.le_of_ble_eq_true rfl) (by omega) (by omega) (by omega) (by omega) rfl rfl ?_
  refine me_icmp_eq (q2 := 2011) (q := 683) C dL_law_680 (by decide) rfl (fun c13 => ?_) (fun c13 => ?_)
  · have hf := mm_if_t c13 hf
    refine me_widen (by omega) (by omega) (hk _ hf)
  · have hf := mm_if_f c13 hf
    refine me_iconst (v := (0 : Int32)) (q := 684) C dL_law_683 (by decide) rfl ?_
    exact absurd hf (by simp)
set_option maxRecDepth 100000 in
set_option maxHeartbeats 4000000 in
theorem cL_c13 {X : mm_X} (C : mm_C X cL_law yL_law 1300 183448 8551906) {sb L : Nat} {xs : Nat → Int32} (hX : mm_scr X sb L xs) {cl sl : Nat} (hcl : cl + 350 ≤ 183448) (hsl : sl + 16500 ≤ 8551906) {ax ay : Nat} {xi : Int32} {K : mm_H → Option (Int32 × mm_H)} {u : Int32 × mm_H} (hk : ∀ h, K h = some u → mm_E X h (cl + 350) (sl + 16500) 2011 [some (vR (some sb)), some (vR (some ax)), some (vR (some ay)), some (vI xi)] []) : ∀ h, fL_c13 L xs ax ay xi K h = some u → mm_E X h (cl + 0) (sl + 0) 685 [some (vR (some sb)), some (vR (some ax)), some (vR (some ay)), some (vI xi)] [] := by
  intro h hf
  unfold fL_c13 at hf
  refine me_aload_n (q := 686) C dL_law_685 rfl rfl rfl ?_
  refine me_aload_n (q := 687) C dL_law_686 rfl rfl rfl ?_
  refine me_iload_n (q := 688) C dL_law_687 rfl rfl rfl ?_
  refine me_iconst (v := (1 : Int32)) (q := 689) C dL_law_688 (by decide) rfl ?_
  refine me_iadd (q := 690) C dL_law_689 rfl ?_
  obtain ⟨k1, hf⟩ := mm_ck_some hf
  refine me_sld (q := 691) C hX dL_law_690 k1 rfl ?_
  refine me_aload_n (q := 692) C dL_law_691 rfl rfl rfl ?_
  refine me_iload_n (q := 693) C dL_law_692 rfl rfl rfl ?_
  refine me_iconst (v := (2 : Int32)) (q := 694) C dL_law_693 (by decide) rfl ?_
  refine me_iadd (q := 695) C dL_law_694 rfl ?_
  obtain ⟨k2, hf⟩ := mm_ck_some hf
  refine me_sld (q := 696) C hX dL_law_695 k2 rfl ?_
  refine me_aload_n (q := 697) C dL_law_696 rfl rfl rfl ?_
  refine me_iload_n (q := 698) C dL_law_697 rfl rfl rfl ?_
  refine me_iconst (v := (3 : Int32)) (q := 699) C dL_law_698 (by decide) rfl ?_
  refine me_iadd (q := 700) C dL_law_699 rfl ?_
  obtain ⟨k3, hf⟩ := mm_ck_some hf
  refine me_sld (q := 701) C hX dL_law_700 k3 rfl ?_
  refine me_aload_n (q := 702) C dL_law_701 rfl rfl rfl ?_
  refine me_iload_n (q := 703) C dL_law_702 rfl rfl rfl ?_
  refine me_iconst (v := (4 : Int32)) (q := 704) C dL_law_703 (by decide) rfl ?_
  refine me_iadd (q := 705) C dL_law_704 rfl ?_
  obtain ⟨k4, hf⟩ := mm_ck_some hf
  refine me_sld (q := 706) C hX dL_law_705 k4 rfl ?_
  refine me_aload_n (q := 707) C dL_law_706 rfl rfl rfl ?_
  refine me_iload_n (q := 708) C dL_law_707 rfl rfl rfl ?_
  refine me_iconst (v := (5 : Int32)) (q := 709) C dL_law_708 (by decide) rfl ?_
  refine me_iadd (q := 710) C dL_law_709 rfl ?_
  obtain ⟨k5, hf⟩ := mm_ck_some hf
  refine me_sld (q := 711) C hX dL_law_710 k5 rfl ?_
  refine me_aload_n (q := 712) C dL_law_711 rfl rfl rfl ?_
  refine me_iload_n (q := 713) C dL_law_712 rfl rfl rfl ?_
  refine me_bipush (v := (6 : Int32)) (q := 715) C dL_law_713 (by decide) rfl ?_
  refine me_iadd (q := 716) C dL_law_715 rfl ?_
  obtain ⟨k6, hf⟩ := mm_ck_some hf
  refine me_sld (q := 717) C hX dL_law_716 k6 rfl ?_
  refine me_aload_n (q := 718) C dL_law_717 rfl rfl rfl ?_
  refine me_iload_n (q := 719) C dL_law_718 rfl rfl rfl ?_
  refine me_bipush (v := (7 : Int32)) (q := 721) C dL_law_719 (by decide) rfl ?_
  refine me_iadd (q := 722) C dL_law_721 rfl ?_
  obtain ⟨k7, hf⟩ := mm_ck_some hf
  refine me_sld (q := 723) C hX dL_law_722 k7 rfl ?_
  obtain ⟨k8, hf⟩ := mm_ck_some hf
  obtain ⟨v9, g10, e11, hf⟩ := mm_cl_some hf
  refine me_callV (q := 726) (c2 := cl + 0) (s2 := sl + 0) (st := []) C (cX11_verdict_ok _ e11) mt_L_71 mv_X11_verdict rfl (by decide) dL_law_723 rfl k8 rfl rfl rfl (Nat.le_of_ble_eq_true rfl) (by omega) (by omega) (by omega) (by omega) rfl rfl ?_
  refine me_aload_n (q := 727) C dL_law_726 rfl rfl rfl ?_
  refine me_aload_n (q := 728) C dL_law_727 rfl rfl rfl ?_
  refine me_iload_n (q := 729) C dL_law_728 rfl rfl rfl ?_
  refine me_iconst (v := (1 : Int32)) (q := 730) C dL_law_729 (by decide) rfl ?_
  refine me_iadd (q := 731) C dL_law_730 rfl ?_
  obtain ⟨k12, hf⟩ := mm_ck_some hf
  refine me_sld (q := 732) C hX dL_law_731 k12 rfl ?_
  refine me_aload_n (q := 733) C dL_law_732 rfl rfl rfl ?_
  refine me_iload_n (q := 734) C dL_law_733 rfl rfl rfl ?_
  refine me_iconst (v := (2 : Int32)) (q := 735) C dL_law_734 (by decide) rfl ?_
  refine me_iadd (q := 736) C dL_law_735 rfl ?_
  obtain ⟨k13, hf⟩ := mm_ck_some hf
  refine me_sld (q := 737) C hX dL_law_736 k13 rfl ?_
  refine me_aload_n (q := 738) C dL_law_737 rfl rfl rfl ?_
  refine me_iload_n (q := 739) C dL_law_738 rfl rfl rfl ?_
  refine me_iconst (v := (3 : Int32)) (q := 740) C dL_law_739 (by decide) rfl ?_
  refine me_iadd (q := 741) C dL_law_740 rfl ?_
  obtain ⟨k14, hf⟩ := mm_ck_some hf
  refine me_sld (q := 742) C hX dL_law_741 k14 rfl ?_
  refine me_aload_n (q := 743) C dL_law_742 rfl rfl rfl ?_
  refine me_iload_n (q := 744) C dL_law_743 rfl rfl rfl ?_
  refine me_iconst (v := (4 : Int32)) (q := 745) C dL_law_744 (by decide) rfl ?_
  refine me_iadd (q := 746) C dL_law_745 rfl ?_
  obtain ⟨k15, hf⟩ := mm_ck_some hf
  refine me_sld (q := 747) C hX dL_law_746 k15 rfl ?_
  refine me_aload_n (q := 748) C dL_law_747 rfl rfl rfl ?_
  refine me_iload_n (q := 749) C dL_law_748 rfl rfl rfl ?_
  refine me_iconst (v := (5 : Int32)) (q := 750) C dL_law_749 (by decide) rfl ?_
  refine me_iadd (q := 751) C dL_law_750 rfl ?_
  obtain ⟨k16, hf⟩ := mm_ck_some hf
  refine me_sld (q := 752) C hX dL_law_751 k16 rfl ?_
  refine me_aload_n (q := 753) C dL_law_752 rfl rfl rfl ?_
  refine me_iload_n (q := 754) C dL_law_753 rfl rfl rfl ?_
  refine me_bipush (v := (6 : Int32)) (q := 756) C dL_law_754 (by decide) rfl ?_
  refine me_iadd (q := 757) C dL_law_756 rfl ?_
  obtain ⟨k17, hf⟩ := mm_ck_some hf
  refine me_sld (q := 758) C hX dL_law_757 k17 rfl ?_
  refine me_aload_n (q := 759) C dL_law_758 rfl rfl rfl ?_
  refine me_iload_n (q := 760) C dL_law_759 rfl rfl rfl ?_
  refine me_bipush (v := (7 : Int32)) (q := 762) C dL_law_760 (by decide) rfl ?_
  refine me_iadd (q := 763) C dL_law_762 rfl ?_
  obtain ⟨k18, hf⟩ := mm_ck_some hf
  refine me_sld (q := 764) C hX dL_law_763 k18 rfl ?_
  obtain ⟨k19, hf⟩ := mm_ck_some hf
  obtain ⟨v20, g21, e22, hf⟩ := mm_cl_some hf
  refine me_callV (q := 767) (c2 := cl + 0) (s2 := sl + 0) (st := [vI v9]) C (cX12_verdict_ok _ e22) mt_L_75 mv_X12_verdict rfl (by decide) dL_law_764 rfl k19 rfl rfl rfl (Nat.le_of_ble_eq_true rfl) (by omega) (by omega) (by omega) (by omega) rfl rfl ?_
  refine me_icmp_eq (q2 := 2011) (q := 770) C dL_law_767 (by decide) rfl (fun c23 => ?_) (fun c23 => ?_)
  · have hf := mm_if_t c23 hf
    refine me_widen (by omega) (by omega) (hk _ hf)
  · have hf := mm_if_f c23 hf
    refine me_iconst (v := (0 : Int32)) (q := 771) C dL_law_770 (by decide) rfl ?_
    exact absurd hf (by simp)
set_option maxRecDepth 100000 in
set_option maxHeartbeats 4000000 in
theorem cL_c14 {X : mm_X} (C : mm_C X cL_law yL_law 1300 183448 8551906) {sb L : Nat} {xs : Nat → Int32} (hX : mm_scr X sb L xs) {cl sl : Nat} (hcl : cl + 350 ≤ 183448) (hsl : sl + 16500 ≤ 8551906) {ax ay : Nat} {xi : Int32} {K : mm_H → Option (Int32 × mm_H)} {u : Int32 × mm_H} (hk : ∀ h, K h = some u → mm_E X h (cl + 350) (sl + 16500) 2011 [some (vR (some sb)), some (vR (some ax)), some (vR (some ay)), some (vI xi)] []) : ∀ h, fL_c14 L xs ax ay xi K h = some u → mm_E X h (cl + 0) (sl + 0) 772 [some (vR (some sb)), some (vR (some ax)), some (vR (some ay)), some (vI xi)] [] := by
  intro h hf
  unfold fL_c14 at hf
  refine me_aload_n (q := 773) C dL_law_772 rfl rfl rfl ?_
  refine me_aload_n (q := 774) C dL_law_773 rfl rfl rfl ?_
  refine me_iload_n (q := 775) C dL_law_774 rfl rfl rfl ?_
  refine me_iconst (v := (1 : Int32)) (q := 776) C dL_law_775 (by decide) rfl ?_
  refine me_iadd (q := 777) C dL_law_776 rfl ?_
  obtain ⟨k1, hf⟩ := mm_ck_some hf
  refine me_sld (q := 778) C hX dL_law_777 k1 rfl ?_
  obtain ⟨k2, hf⟩ := mm_ck_some hf
  obtain ⟨v3, g4, e5, hf⟩ := mm_cl_some hf
  refine me_callV (q := 781) (c2 := cl + 0) (s2 := sl + 0) (st := []) C (cX11_told_ok _ e5) mt_L_76 mv_X11_told rfl (by decide) dL_law_778 rfl k2 rfl rfl rfl (Nat.le_of_ble_eq_true rfl) (by omega) (by omega) (by omega) (by omega) rfl rfl ?_
  refine me_aload_n (q := 782) C dL_law_781 rfl rfl rfl ?_
  refine me_aload_n (q := 783) C dL_law_782 rfl rfl rfl ?_
  refine me_iload_n (q := 784) C dL_law_783 rfl rfl rfl ?_
  refine me_iconst (v := (1 : Int32)) (q := 785) C dL_law_784 (by decide) rfl ?_
  refine me_iadd (q := 786) C dL_law_785 rfl ?_
  obtain ⟨k6, hf⟩ := mm_ck_some hf
  refine me_sld (q := 787) C hX dL_law_786 k6 rfl ?_
  obtain ⟨k7, hf⟩ := mm_ck_some hf
  obtain ⟨v8, g9, e10, hf⟩ := mm_cl_some hf
  refine me_callV (q := 790) (c2 := cl + 0) (s2 := sl + 0) (st := [vI v3]) C (cX12_told_ok _ e10) mt_L_79 mv_X12_told rfl (by decide) dL_law_787 rfl k7 rfl rfl rfl (Nat.le_of_ble_eq_true rfl) (by omega) (by omega) (by omega) (by omega) rfl rfl ?_
  refine me_icmp_eq (q2 := 2011) (q := 793) C dL_law_790 (by decide) rfl (fun c11 => ?_) (fun c11 => ?_)
  · have hf := mm_if_t c11 hf
    refine me_widen (by omega) (by omega) (hk _ hf)
  · have hf := mm_if_f c11 hf
    refine me_iconst (v := (0 : Int32)) (q := 794) C dL_law_793 (by decide) rfl ?_
    exact absurd hf (by simp)
set_option maxRecDepth 100000 in
set_option maxHeartbeats 4000000 in
theorem cL_c15 {X : mm_X} (C : mm_C X cL_law yL_law 1300 183448 8551906) {sb L : Nat} {xs : Nat → Int32} (hX : mm_scr X sb L xs) {cl sl : Nat} (hcl : cl + 350 ≤ 183448) (hsl : sl + 16500 ≤ 8551906) {ax ay : Nat} {xi : Int32} {K : mm_H → Option (Int32 × mm_H)} {u : Int32 × mm_H} (hk : ∀ h, K h = some u → mm_E X h (cl + 350) (sl + 16500) 2011 [some (vR (some sb)), some (vR (some ax)), some (vR (some ay)), some (vI xi)] []) : ∀ h, fL_c15 L xs ax ay xi K h = some u → mm_E X h (cl + 0) (sl + 0) 795 [some (vR (some sb)), some (vR (some ax)), some (vR (some ay)), some (vI xi)] [] := by
  intro h hf
  unfold fL_c15 at hf
  refine me_aload_n (q := 796) C dL_law_795 rfl rfl rfl ?_
  refine me_aload_n (q := 797) C dL_law_796 rfl rfl rfl ?_
  refine me_iload_n (q := 798) C dL_law_797 rfl rfl rfl ?_
  refine me_iconst (v := (1 : Int32)) (q := 799) C dL_law_798 (by decide) rfl ?_
  refine me_iadd (q := 800) C dL_law_799 rfl ?_
  obtain ⟨k1, hf⟩ := mm_ck_some hf
  refine me_sld (q := 801) C hX dL_law_800 k1 rfl ?_
  refine me_aload_n (q := 802) C dL_law_801 rfl rfl rfl ?_
  refine me_iload_n (q := 803) C dL_law_802 rfl rfl rfl ?_
  refine me_iconst (v := (2 : Int32)) (q := 804) C dL_law_803 (by decide) rfl ?_
  refine me_iadd (q := 805) C dL_law_804 rfl ?_
  obtain ⟨k2, hf⟩ := mm_ck_some hf
  refine me_sld (q := 806) C hX dL_law_805 k2 rfl ?_
  refine me_aload_n (q := 807) C dL_law_806 rfl rfl rfl ?_
  refine me_iload_n (q := 808) C dL_law_807 rfl rfl rfl ?_
  refine me_iconst (v := (3 : Int32)) (q := 809) C dL_law_808 (by decide) rfl ?_
  refine me_iadd (q := 810) C dL_law_809 rfl ?_
  obtain ⟨k3, hf⟩ := mm_ck_some hf
  refine me_sld (q := 811) C hX dL_law_810 k3 rfl ?_
  obtain ⟨k4, hf⟩ := mm_ck_some hf
  obtain ⟨v5, g6, e7, hf⟩ := mm_cl_some hf
  refine me_callV (q := 814) (c2 := cl + 0) (s2 := sl + 0) (st := []) C (cX11_shut_ok _ e7) mt_L_80 mv_X11_shut rfl (by decide) dL_law_811 rfl k4 rfl rfl rfl (Nat.le_of_ble_eq_true rfl) (by omega) (by omega) (by omega) (by omega) rfl rfl ?_
  refine me_aload_n (q := 815) C dL_law_814 rfl rfl rfl ?_
  refine me_aload_n (q := 816) C dL_law_815 rfl rfl rfl ?_
  refine me_iload_n (q := 817) C dL_law_816 rfl rfl rfl ?_
  refine me_iconst (v := (1 : Int32)) (q := 818) C dL_law_817 (by decide) rfl ?_
  refine me_iadd (q := 819) C dL_law_818 rfl ?_
  obtain ⟨k8, hf⟩ := mm_ck_some hf
  refine me_sld (q := 820) C hX dL_law_819 k8 rfl ?_
  refine me_aload_n (q := 821) C dL_law_820 rfl rfl rfl ?_
  refine me_iload_n (q := 822) C dL_law_821 rfl rfl rfl ?_
  refine me_iconst (v := (2 : Int32)) (q := 823) C dL_law_822 (by decide) rfl ?_
  refine me_iadd (q := 824) C dL_law_823 rfl ?_
  obtain ⟨k9, hf⟩ := mm_ck_some hf
  refine me_sld (q := 825) C hX dL_law_824 k9 rfl ?_
  refine me_aload_n (q := 826) C dL_law_825 rfl rfl rfl ?_
  refine me_iload_n (q := 827) C dL_law_826 rfl rfl rfl ?_
  refine me_iconst (v := (3 : Int32)) (q := 828) C dL_law_827 (by decide) rfl ?_
  refine me_iadd (q := 829) C dL_law_828 rfl ?_
  obtain ⟨k10, hf⟩ := mm_ck_some hf
  refine me_sld (q := 830) C hX dL_law_829 k10 rfl ?_
  obtain ⟨k11, hf⟩ := mm_ck_some hf
  obtain ⟨v12, g13, e14, hf⟩ := mm_cl_some hf
  refine me_callV (q := 833) (c2 := cl + 0) (s2 := sl + 0) (st := [vI v5]) C (cX12_shut_ok _ e14) mt_L_83 mv_X12_shut rfl (by decide) dL_law_830 rfl k11 rfl rfl rfl (Nat.le_of_ble_eq_true rfl) (by omega) (by omega) (by omega) (by omega) rfl rfl ?_
  refine me_icmp_eq (q2 := 2011) (q := 836) C dL_law_833 (by decide) rfl (fun c15 => ?_) (fun c15 => ?_)
  · have hf := mm_if_t c15 hf
    refine me_widen (by omega) (by omega) (hk _ hf)
  · have hf := mm_if_f c15 hf
    refine me_iconst (v := (0 : Int32)) (q := 837) C dL_law_836 (by decide) rfl ?_
    exact absurd hf (by simp)
set_option maxRecDepth 100000 in
set_option maxHeartbeats 4000000 in
theorem cL_c16 {X : mm_X} (C : mm_C X cL_law yL_law 1300 183448 8551906) {sb L : Nat} {xs : Nat → Int32} (hX : mm_scr X sb L xs) {cl sl : Nat} (hcl : cl + 350 ≤ 183448) (hsl : sl + 16500 ≤ 8551906) {ax ay : Nat} {xi : Int32} {K : mm_H → Option (Int32 × mm_H)} {u : Int32 × mm_H} (hk : ∀ h, K h = some u → mm_E X h (cl + 350) (sl + 16500) 2011 [some (vR (some sb)), some (vR (some ax)), some (vR (some ay)), some (vI xi)] []) : ∀ h, fL_c16 L xs ax ay xi K h = some u → mm_E X h (cl + 0) (sl + 0) 838 [some (vR (some sb)), some (vR (some ax)), some (vR (some ay)), some (vI xi)] [] := by
  intro h hf
  unfold fL_c16 at hf
  refine me_aload_n (q := 839) C dL_law_838 rfl rfl rfl ?_
  refine me_aload_n (q := 840) C dL_law_839 rfl rfl rfl ?_
  refine me_iload_n (q := 841) C dL_law_840 rfl rfl rfl ?_
  refine me_iconst (v := (1 : Int32)) (q := 842) C dL_law_841 (by decide) rfl ?_
  refine me_iadd (q := 843) C dL_law_842 rfl ?_
  obtain ⟨k1, hf⟩ := mm_ck_some hf
  refine me_sld (q := 844) C hX dL_law_843 k1 rfl ?_
  obtain ⟨k2, hf⟩ := mm_ck_some hf
  obtain ⟨v3, g4, e5, hf⟩ := mm_cl_some hf
  refine me_callV (q := 847) (c2 := cl + 0) (s2 := sl + 0) (st := []) C (cX11_readShut_ok _ e5) mt_L_84 mv_X11_readShut rfl (by decide) dL_law_844 rfl k2 rfl rfl rfl (Nat.le_of_ble_eq_true rfl) (by omega) (by omega) (by omega) (by omega) rfl rfl ?_
  refine me_aload_n (q := 848) C dL_law_847 rfl rfl rfl ?_
  refine me_aload_n (q := 849) C dL_law_848 rfl rfl rfl ?_
  refine me_iload_n (q := 850) C dL_law_849 rfl rfl rfl ?_
  refine me_iconst (v := (1 : Int32)) (q := 851) C dL_law_850 (by decide) rfl ?_
  refine me_iadd (q := 852) C dL_law_851 rfl ?_
  obtain ⟨k6, hf⟩ := mm_ck_some hf
  refine me_sld (q := 853) C hX dL_law_852 k6 rfl ?_
  obtain ⟨k7, hf⟩ := mm_ck_some hf
  obtain ⟨v8, g9, e10, hf⟩ := mm_cl_some hf
  refine me_callV (q := 856) (c2 := cl + 0) (s2 := sl + 0) (st := [vI v3]) C (cX12_readShut_ok _ e10) mt_L_87 mv_X12_readShut rfl (by decide) dL_law_853 rfl k7 rfl rfl rfl (Nat.le_of_ble_eq_true rfl) (by omega) (by omega) (by omega) (by omega) rfl rfl ?_
  refine me_icmp_eq (q2 := 2011) (q := 859) C dL_law_856 (by decide) rfl (fun c11 => ?_) (fun c11 => ?_)
  · have hf := mm_if_t c11 hf
    refine me_widen (by omega) (by omega) (hk _ hf)
  · have hf := mm_if_f c11 hf
    refine me_iconst (v := (0 : Int32)) (q := 860) C dL_law_859 (by decide) rfl ?_
    exact absurd hf (by simp)
set_option maxRecDepth 100000 in
set_option maxHeartbeats 4000000 in
theorem cL_c17 {X : mm_X} (C : mm_C X cL_law yL_law 1300 183448 8551906) {sb L : Nat} {xs : Nat → Int32} (hX : mm_scr X sb L xs) {cl sl : Nat} (hcl : cl + 350 ≤ 183448) (hsl : sl + 16500 ≤ 8551906) {ax ay : Nat} {xi : Int32} {K : mm_H → Option (Int32 × mm_H)} {u : Int32 × mm_H} (hk : ∀ h, K h = some u → mm_E X h (cl + 350) (sl + 16500) 2011 [some (vR (some sb)), some (vR (some ax)), some (vR (some ay)), some (vI xi)] []) : ∀ h, fL_c17 L xs ax ay xi K h = some u → mm_E X h (cl + 0) (sl + 0) 861 [some (vR (some sb)), some (vR (some ax)), some (vR (some ay)), some (vI xi)] [] := by
  intro h hf
  unfold fL_c17 at hf
  refine me_aload_n (q := 862) C dL_law_861 rfl rfl rfl ?_
  refine me_aload_n (q := 863) C dL_law_862 rfl rfl rfl ?_
  refine me_iload_n (q := 864) C dL_law_863 rfl rfl rfl ?_
  refine me_iconst (v := (1 : Int32)) (q := 865) C dL_law_864 (by decide) rfl ?_
  refine me_iadd (q := 866) C dL_law_865 rfl ?_
  obtain ⟨k1, hf⟩ := mm_ck_some hf
  refine me_sld (q := 867) C hX dL_law_866 k1 rfl ?_
  refine me_aload_n (q := 868) C dL_law_867 rfl rfl rfl ?_
  refine me_iload_n (q := 869) C dL_law_868 rfl rfl rfl ?_
  refine me_iconst (v := (2 : Int32)) (q := 870) C dL_law_869 (by decide) rfl ?_
  refine me_iadd (q := 871) C dL_law_870 rfl ?_
  obtain ⟨k2, hf⟩ := mm_ck_some hf
  refine me_sld (q := 872) C hX dL_law_871 k2 rfl ?_
  refine me_aload_n (q := 873) C dL_law_872 rfl rfl rfl ?_
  refine me_iload_n (q := 874) C dL_law_873 rfl rfl rfl ?_
  refine me_iconst (v := (3 : Int32)) (q := 875) C dL_law_874 (by decide) rfl ?_
  refine me_iadd (q := 876) C dL_law_875 rfl ?_
  obtain ⟨k3, hf⟩ := mm_ck_some hf
  refine me_sld (q := 877) C hX dL_law_876 k3 rfl ?_
  obtain ⟨k4, hf⟩ := mm_ck_some hf
  obtain ⟨v5, g6, e7, hf⟩ := mm_cl_some hf
  refine me_callV (q := 880) (c2 := cl + 0) (s2 := sl + 0) (st := []) C (cX11_isShut_ok _ e7) mt_L_88 mv_X11_isShut rfl (by decide) dL_law_877 rfl k4 rfl rfl rfl (Nat.le_of_ble_eq_true rfl) (by omega) (by omega) (by omega) (by omega) rfl rfl ?_
  refine me_aload_n (q := 881) C dL_law_880 rfl rfl rfl ?_
  refine me_aload_n (q := 882) C dL_law_881 rfl rfl rfl ?_
  refine me_iload_n (q := 883) C dL_law_882 rfl rfl rfl ?_
  refine me_iconst (v := (1 : Int32)) (q := 884) C dL_law_883 (by decide) rfl ?_
  refine me_iadd (q := 885) C dL_law_884 rfl ?_
  obtain ⟨k8, hf⟩ := mm_ck_some hf
  refine me_sld (q := 886) C hX dL_law_885 k8 rfl ?_
  refine me_aload_n (q := 887) C dL_law_886 rfl rfl rfl ?_
  refine me_iload_n (q := 888) C dL_law_887 rfl rfl rfl ?_
  refine me_iconst (v := (2 : Int32)) (q := 889) C dL_law_888 (by decide) rfl ?_
  refine me_iadd (q := 890) C dL_law_889 rfl ?_
  obtain ⟨k9, hf⟩ := mm_ck_some hf
  refine me_sld (q := 891) C hX dL_law_890 k9 rfl ?_
  refine me_aload_n (q := 892) C dL_law_891 rfl rfl rfl ?_
  refine me_iload_n (q := 893) C dL_law_892 rfl rfl rfl ?_
  refine me_iconst (v := (3 : Int32)) (q := 894) C dL_law_893 (by decide) rfl ?_
  refine me_iadd (q := 895) C dL_law_894 rfl ?_
  obtain ⟨k10, hf⟩ := mm_ck_some hf
  refine me_sld (q := 896) C hX dL_law_895 k10 rfl ?_
  obtain ⟨k11, hf⟩ := mm_ck_some hf
  obtain ⟨v12, g13, e14, hf⟩ := mm_cl_some hf
  refine me_callV (q := 899) (c2 := cl + 0) (s2 := sl + 0) (st := [vI v5]) C (cX12_isShut_ok _ e14) mt_L_91 mv_X12_isShut rfl (by decide) dL_law_896 rfl k11 rfl rfl rfl (Nat.le_of_ble_eq_true rfl) (by omega) (by omega) (by omega) (by omega) rfl rfl ?_
  refine me_icmp_eq (q2 := 2011) (q := 902) C dL_law_899 (by decide) rfl (fun c15 => ?_) (fun c15 => ?_)
  · have hf := mm_if_t c15 hf
    refine me_widen (by omega) (by omega) (hk _ hf)
  · have hf := mm_if_f c15 hf
    refine me_iconst (v := (0 : Int32)) (q := 903) C dL_law_902 (by decide) rfl ?_
    exact absurd hf (by simp)
set_option maxRecDepth 100000 in
set_option maxHeartbeats 4000000 in
theorem cL_c18 {X : mm_X} (C : mm_C X cL_law yL_law 1300 183448 8551906) {sb L : Nat} {xs : Nat → Int32} (hX : mm_scr X sb L xs) {cl sl : Nat} (hcl : cl + 350 ≤ 183448) (hsl : sl + 16500 ≤ 8551906) {ax ay : Nat} {xi : Int32} {K : mm_H → Option (Int32 × mm_H)} {u : Int32 × mm_H} (hk : ∀ h, K h = some u → mm_E X h (cl + 350) (sl + 16500) 2011 [some (vR (some sb)), some (vR (some ax)), some (vR (some ay)), some (vI xi)] []) : ∀ h, fL_c18 L xs ax ay xi K h = some u → mm_E X h (cl + 0) (sl + 0) 904 [some (vR (some sb)), some (vR (some ax)), some (vR (some ay)), some (vI xi)] [] := by
  intro h hf
  unfold fL_c18 at hf
  refine me_aload_n (q := 905) C dL_law_904 rfl rfl rfl ?_
  refine me_aload_n (q := 906) C dL_law_905 rfl rfl rfl ?_
  refine me_iload_n (q := 907) C dL_law_906 rfl rfl rfl ?_
  refine me_iconst (v := (1 : Int32)) (q := 908) C dL_law_907 (by decide) rfl ?_
  refine me_iadd (q := 909) C dL_law_908 rfl ?_
  obtain ⟨k1, hf⟩ := mm_ck_some hf
  refine me_sld (q := 910) C hX dL_law_909 k1 rfl ?_
  refine me_aload_n (q := 911) C dL_law_910 rfl rfl rfl ?_
  refine me_iload_n (q := 912) C dL_law_911 rfl rfl rfl ?_
  refine me_iconst (v := (2 : Int32)) (q := 913) C dL_law_912 (by decide) rfl ?_
  refine me_iadd (q := 914) C dL_law_913 rfl ?_
  obtain ⟨k2, hf⟩ := mm_ck_some hf
  refine me_sld (q := 915) C hX dL_law_914 k2 rfl ?_
  refine me_aload_n (q := 916) C dL_law_915 rfl rfl rfl ?_
  refine me_iload_n (q := 917) C dL_law_916 rfl rfl rfl ?_
  refine me_iconst (v := (3 : Int32)) (q := 918) C dL_law_917 (by decide) rfl ?_
  refine me_iadd (q := 919) C dL_law_918 rfl ?_
  obtain ⟨k3, hf⟩ := mm_ck_some hf
  refine me_sld (q := 920) C hX dL_law_919 k3 rfl ?_
  refine me_aload_n (q := 921) C dL_law_920 rfl rfl rfl ?_
  refine me_iload_n (q := 922) C dL_law_921 rfl rfl rfl ?_
  refine me_iconst (v := (4 : Int32)) (q := 923) C dL_law_922 (by decide) rfl ?_
  refine me_iadd (q := 924) C dL_law_923 rfl ?_
  obtain ⟨k4, hf⟩ := mm_ck_some hf
  refine me_sld (q := 925) C hX dL_law_924 k4 rfl ?_
  refine me_aload_n (q := 926) C dL_law_925 rfl rfl rfl ?_
  refine me_iload_n (q := 927) C dL_law_926 rfl rfl rfl ?_
  refine me_iconst (v := (5 : Int32)) (q := 928) C dL_law_927 (by decide) rfl ?_
  refine me_iadd (q := 929) C dL_law_928 rfl ?_
  obtain ⟨k5, hf⟩ := mm_ck_some hf
  refine me_sld (q := 930) C hX dL_law_929 k5 rfl ?_
  refine me_aload_n (q := 931) C dL_law_930 rfl rfl rfl ?_
  refine me_iload_n (q := 932) C dL_law_931 rfl rfl rfl ?_
  refine me_bipush (v := (6 : Int32)) (q := 934) C dL_law_932 (by decide) rfl ?_
  refine me_iadd (q := 935) C dL_law_934 rfl ?_
  obtain ⟨k6, hf⟩ := mm_ck_some hf
  refine me_sld (q := 936) C hX dL_law_935 k6 rfl ?_
  refine me_aload_n (q := 937) C dL_law_936 rfl rfl rfl ?_
  refine me_iload_n (q := 938) C dL_law_937 rfl rfl rfl ?_
  refine me_bipush (v := (7 : Int32)) (q := 940) C dL_law_938 (by decide) rfl ?_
  refine me_iadd (q := 941) C dL_law_940 rfl ?_
  obtain ⟨k7, hf⟩ := mm_ck_some hf
  refine me_sld (q := 942) C hX dL_law_941 k7 rfl ?_
  obtain ⟨k8, hf⟩ := mm_ck_some hf
  obtain ⟨v9, g10, e11, hf⟩ := mm_cl_some hf
  refine me_callV (q := 945) (c2 := cl + 9) (s2 := sl + 859) (st := []) C (cX11_deal_ok _ e11) mt_L_92 mv_X11_deal rfl (by decide) dL_law_942 rfl k8 rfl rfl rfl (Nat.le_of_ble_eq_true rfl) (by omega) (by omega) (by omega) (by omega) rfl rfl ?_
  refine me_aload_n (q := 946) C dL_law_945 rfl rfl rfl ?_
  refine me_aload_n (q := 947) C dL_law_946 rfl rfl rfl ?_
  refine me_iload_n (q := 948) C dL_law_947 rfl rfl rfl ?_
  refine me_iconst (v := (1 : Int32)) (q := 949) C dL_law_948 (by decide) rfl ?_
  refine me_iadd (q := 950) C dL_law_949 rfl ?_
  obtain ⟨k12, hf⟩ := mm_ck_some hf
  refine me_sld (q := 951) C hX dL_law_950 k12 rfl ?_
  refine me_aload_n (q := 952) C dL_law_951 rfl rfl rfl ?_
  refine me_iload_n (q := 953) C dL_law_952 rfl rfl rfl ?_
  refine me_iconst (v := (2 : Int32)) (q := 954) C dL_law_953 (by decide) rfl ?_
  refine me_iadd (q := 955) C dL_law_954 rfl ?_
  obtain ⟨k13, hf⟩ := mm_ck_some hf
  refine me_sld (q := 956) C hX dL_law_955 k13 rfl ?_
  refine me_aload_n (q := 957) C dL_law_956 rfl rfl rfl ?_
  refine me_iload_n (q := 958) C dL_law_957 rfl rfl rfl ?_
  refine me_iconst (v := (3 : Int32)) (q := 959) C dL_law_958 (by decide) rfl ?_
  refine me_iadd (q := 960) C dL_law_959 rfl ?_
  obtain ⟨k14, hf⟩ := mm_ck_some hf
  refine me_sld (q := 961) C hX dL_law_960 k14 rfl ?_
  refine me_aload_n (q := 962) C dL_law_961 rfl rfl rfl ?_
  refine me_iload_n (q := 963) C dL_law_962 rfl rfl rfl ?_
  refine me_iconst (v := (4 : Int32)) (q := 964) C dL_law_963 (by decide) rfl ?_
  refine me_iadd (q := 965) C dL_law_964 rfl ?_
  obtain ⟨k15, hf⟩ := mm_ck_some hf
  refine me_sld (q := 966) C hX dL_law_965 k15 rfl ?_
  refine me_aload_n (q := 967) C dL_law_966 rfl rfl rfl ?_
  refine me_iload_n (q := 968) C dL_law_967 rfl rfl rfl ?_
  refine me_iconst (v := (5 : Int32)) (q := 969) C dL_law_968 (by decide) rfl ?_
  refine me_iadd (q := 970) C dL_law_969 rfl ?_
  obtain ⟨k16, hf⟩ := mm_ck_some hf
  refine me_sld (q := 971) C hX dL_law_970 k16 rfl ?_
  refine me_aload_n (q := 972) C dL_law_971 rfl rfl rfl ?_
  refine me_iload_n (q := 973) C dL_law_972 rfl rfl rfl ?_
  refine me_bipush (v := (6 : Int32)) (q := 975) C dL_law_973 (by decide) rfl ?_
  refine me_iadd (q := 976) C dL_law_975 rfl ?_
  obtain ⟨k17, hf⟩ := mm_ck_some hf
  refine me_sld (q := 977) C hX dL_law_976 k17 rfl ?_
  refine me_aload_n (q := 978) C dL_law_977 rfl rfl rfl ?_
  refine me_iload_n (q := 979) C dL_law_978 rfl rfl rfl ?_
  refine me_bipush (v := (7 : Int32)) (q := 981) C dL_law_979 (by decide) rfl ?_
  refine me_iadd (q := 982) C dL_law_981 rfl ?_
  obtain ⟨k18, hf⟩ := mm_ck_some hf
  refine me_sld (q := 983) C hX dL_law_982 k18 rfl ?_
  obtain ⟨k19, hf⟩ := mm_ck_some hf
  obtain ⟨v20, g21, e22, hf⟩ := mm_cl_some hf
  refine me_callV (q := 986) (c2 := cl + 9) (s2 := sl + 859) (st := [vI v9]) C (cX12_deal_ok _ e22) mt_L_95 mv_X12_deal rfl (by decide) dL_law_983 rfl k19 rfl rfl rfl (Nat.le_of_ble_eq_true rfl) (by omega) (by omega) (by omega) (by omega) rfl rfl ?_
  refine me_icmp_eq (q2 := 2011) (q := 989) C dL_law_986 (by decide) rfl (fun c23 => ?_) (fun c23 => ?_)
  · have hf := mm_if_t c23 hf
    refine me_widen (by omega) (by omega) (hk _ hf)
  · have hf := mm_if_f c23 hf
    refine me_iconst (v := (0 : Int32)) (q := 990) C dL_law_989 (by decide) rfl ?_
    exact absurd hf (by simp)
set_option maxRecDepth 100000 in
set_option maxHeartbeats 4000000 in
theorem cL_c19 {X : mm_X} (C : mm_C X cL_law yL_law 1300 183448 8551906) {sb L : Nat} {xs : Nat → Int32} (hX : mm_scr X sb L xs) {cl sl : Nat} (hcl : cl + 350 ≤ 183448) (hsl : sl + 16500 ≤ 8551906) {ax ay : Nat} {xi : Int32} {K : mm_H → Option (Int32 × mm_H)} {u : Int32 × mm_H} (hk : ∀ h, K h = some u → mm_E X h (cl + 350) (sl + 16500) 2011 [some (vR (some sb)), some (vR (some ax)), some (vR (some ay)), some (vI xi)] []) : ∀ h, fL_c19 L xs ax ay xi K h = some u → mm_E X h (cl + 0) (sl + 0) 991 [some (vR (some sb)), some (vR (some ax)), some (vR (some ay)), some (vI xi)] [] := by
  intro h hf
  unfold fL_c19 at hf
  refine me_aload_n (q := 992) C dL_law_991 rfl rfl rfl ?_
  refine me_aload_n (q := 993) C dL_law_992 rfl rfl rfl ?_
  refine me_iload_n (q := 994) C dL_law_993 rfl rfl rfl ?_
  refine me_iconst (v := (1 : Int32)) (q := 995) C dL_law_994 (by decide) rfl ?_
  refine me_iadd (q := 996) C dL_law_995 rfl ?_
  obtain ⟨k1, hf⟩ := mm_ck_some hf
  refine me_sld (q := 997) C hX dL_law_996 k1 rfl ?_
  refine me_aload_n (q := 998) C dL_law_997 rfl rfl rfl ?_
  refine me_iload_n (q := 999) C dL_law_998 rfl rfl rfl ?_
  refine me_iconst (v := (2 : Int32)) (q := 1000) C dL_law_999 (by decide) rfl ?_
  refine me_iadd (q := 1001) C dL_law_1000 rfl ?_
  obtain ⟨k2, hf⟩ := mm_ck_some hf
  refine me_sld (q := 1002) C hX dL_law_1001 k2 rfl ?_
  obtain ⟨k3, hf⟩ := mm_ck_some hf
  obtain ⟨v4, g5, e6, hf⟩ := mm_cl_some hf
  refine me_callV (q := 1005) (c2 := cl + 0) (s2 := sl + 0) (st := []) C (cX11_bargain_ok _ e6) mt_L_96 mv_X11_bargain rfl (by decide) dL_law_1002 rfl k3 rfl rfl rfl (Nat.le_of_ble_eq_true rfl) (by omega) (by omega) (by omega) (by omega) rfl rfl ?_
  refine me_aload_n (q := 1006) C dL_law_1005 rfl rfl rfl ?_
  refine me_aload_n (q := 1007) C dL_law_1006 rfl rfl rfl ?_
  refine me_iload_n (q := 1008) C dL_law_1007 rfl rfl rfl ?_
  refine me_iconst (v := (1 : Int32)) (q := 1009) C dL_law_1008 (by decide) rfl ?_
  refine me_iadd (q := 1010) C dL_law_1009 rfl ?_
  obtain ⟨k7, hf⟩ := mm_ck_some hf
  refine me_sld (q := 1011) C hX dL_law_1010 k7 rfl ?_
  refine me_aload_n (q := 1012) C dL_law_1011 rfl rfl rfl ?_
  refine me_iload_n (q := 1013) C dL_law_1012 rfl rfl rfl ?_
  refine me_iconst (v := (2 : Int32)) (q := 1014) C dL_law_1013 (by decide) rfl ?_
  refine me_iadd (q := 1015) C dL_law_1014 rfl ?_
  obtain ⟨k8, hf⟩ := mm_ck_some hf
  refine me_sld (q := 1016) C hX dL_law_1015 k8 rfl ?_
  obtain ⟨k9, hf⟩ := mm_ck_some hf
  obtain ⟨v10, g11, e12, hf⟩ := mm_cl_some hf
  refine me_callV (q := 1019) (c2 := cl + 0) (s2 := sl + 0) (st := [vI v4]) C (cX12_bargain_ok _ e12) mt_L_99 mv_X12_bargain rfl (by decide) dL_law_1016 rfl k9 rfl rfl rfl (Nat.le_of_ble_eq_true rfl) (by omega) (by omega) (by omega) (by omega) rfl rfl ?_
  refine me_icmp_eq (q2 := 2011) (q := 1022) C dL_law_1019 (by decide) rfl (fun c13 => ?_) (fun c13 => ?_)
  · have hf := mm_if_t c13 hf
    refine me_widen (by omega) (by omega) (hk _ hf)
  · have hf := mm_if_f c13 hf
    refine me_iconst (v := (0 : Int32)) (q := 1023) C dL_law_1022 (by decide) rfl ?_
    exact absurd hf (by simp)
set_option maxRecDepth 100000 in
set_option maxHeartbeats 4000000 in
theorem cL_c20 {X : mm_X} (C : mm_C X cL_law yL_law 1300 183448 8551906) {sb L : Nat} {xs : Nat → Int32} (hX : mm_scr X sb L xs) {cl sl : Nat} (hcl : cl + 350 ≤ 183448) (hsl : sl + 16500 ≤ 8551906) {ax ay : Nat} {xi : Int32} {K : mm_H → Option (Int32 × mm_H)} {u : Int32 × mm_H} (hk : ∀ h, K h = some u → mm_E X h (cl + 350) (sl + 16500) 2011 [some (vR (some sb)), some (vR (some ax)), some (vR (some ay)), some (vI xi)] []) : ∀ h, fL_c20 L xs ax ay xi K h = some u → mm_E X h (cl + 0) (sl + 0) 1024 [some (vR (some sb)), some (vR (some ax)), some (vR (some ay)), some (vI xi)] [] := by
  intro h hf
  unfold fL_c20 at hf
  refine me_aload_n (q := 1025) C dL_law_1024 rfl rfl rfl ?_
  refine me_aload_n (q := 1026) C dL_law_1025 rfl rfl rfl ?_
  refine me_iload_n (q := 1027) C dL_law_1026 rfl rfl rfl ?_
  refine me_iconst (v := (1 : Int32)) (q := 1028) C dL_law_1027 (by decide) rfl ?_
  refine me_iadd (q := 1029) C dL_law_1028 rfl ?_
  obtain ⟨k1, hf⟩ := mm_ck_some hf
  refine me_sld (q := 1030) C hX dL_law_1029 k1 rfl ?_
  refine me_aload_n (q := 1031) C dL_law_1030 rfl rfl rfl ?_
  refine me_iload_n (q := 1032) C dL_law_1031 rfl rfl rfl ?_
  refine me_iconst (v := (2 : Int32)) (q := 1033) C dL_law_1032 (by decide) rfl ?_
  refine me_iadd (q := 1034) C dL_law_1033 rfl ?_
  obtain ⟨k2, hf⟩ := mm_ck_some hf
  refine me_sld (q := 1035) C hX dL_law_1034 k2 rfl ?_
  obtain ⟨k3, hf⟩ := mm_ck_some hf
  obtain ⟨v4, g5, e6, hf⟩ := mm_cl_some hf
  refine me_callV (q := 1038) (c2 := cl + 0) (s2 := sl + 0) (st := []) C (cX11_surety_ok _ e6) mt_L_100 mv_X11_surety rfl (by decide) dL_law_1035 rfl k3 rfl rfl rfl (Nat.le_of_ble_eq_true rfl) (by omega) (by omega) (by omega) (by omega) rfl rfl ?_
  refine me_aload_n (q := 1039) C dL_law_1038 rfl rfl rfl ?_
  refine me_aload_n (q := 1040) C dL_law_1039 rfl rfl rfl ?_
  refine me_iload_n (q := 1041) C dL_law_1040 rfl rfl rfl ?_
  refine me_iconst (v := (1 : Int32)) (q := 1042) C dL_law_1041 (by decide) rfl ?_
  refine me_iadd (q := 1043) C dL_law_1042 rfl ?_
  obtain ⟨k7, hf⟩ := mm_ck_some hf
  refine me_sld (q := 1044) C hX dL_law_1043 k7 rfl ?_
  refine me_aload_n (q := 1045) C dL_law_1044 rfl rfl rfl ?_
  refine me_iload_n (q := 1046) C dL_law_1045 rfl rfl rfl ?_
  refine me_iconst (v := (2 : Int32)) (q := 1047) C dL_law_1046 (by decide) rfl ?_
  refine me_iadd (q := 1048) C dL_law_1047 rfl ?_
  obtain ⟨k8, hf⟩ := mm_ck_some hf
  refine me_sld (q := 1049) C hX dL_law_1048 k8 rfl ?_
  obtain ⟨k9, hf⟩ := mm_ck_some hf
  obtain ⟨v10, g11, e12, hf⟩ := mm_cl_some hf
  refine me_callV (q := 1052) (c2 := cl + 0) (s2 := sl + 0) (st := [vI v4]) C (cX12_surety_ok _ e12) mt_L_103 mv_X12_surety rfl (by decide) dL_law_1049 rfl k9 rfl rfl rfl (Nat.le_of_ble_eq_true rfl) (by omega) (by omega) (by omega) (by omega) rfl rfl ?_
  refine me_icmp_eq (q2 := 2011) (q := 1055) C dL_law_1052 (by decide) rfl (fun c13 => ?_) (fun c13 => ?_)
  · have hf := mm_if_t c13 hf
    refine me_widen (by omega) (by omega) (hk _ hf)
  · have hf := mm_if_f c13 hf
    refine me_iconst (v := (0 : Int32)) (q := 1056) C dL_law_1055 (by decide) rfl ?_
    exact absurd hf (by simp)
set_option maxRecDepth 100000 in
set_option maxHeartbeats 4000000 in
theorem cL_c21 {X : mm_X} (C : mm_C X cL_law yL_law 1300 183448 8551906) {sb L : Nat} {xs : Nat → Int32} (hX : mm_scr X sb L xs) {cl sl : Nat} (hcl : cl + 350 ≤ 183448) (hsl : sl + 16500 ≤ 8551906) {ax ay : Nat} {xi : Int32} {K : mm_H → Option (Int32 × mm_H)} {u : Int32 × mm_H} (hk : ∀ h, K h = some u → mm_E X h (cl + 350) (sl + 16500) 2011 [some (vR (some sb)), some (vR (some ax)), some (vR (some ay)), some (vI xi)] []) : ∀ h, fL_c21 L xs ax ay xi K h = some u → mm_E X h (cl + 0) (sl + 0) 1057 [some (vR (some sb)), some (vR (some ax)), some (vR (some ay)), some (vI xi)] [] := by
  intro h hf
  unfold fL_c21 at hf
  refine me_aload_n (q := 1058) C dL_law_1057 rfl rfl rfl ?_
  refine me_aload_n (q := 1059) C dL_law_1058 rfl rfl rfl ?_
  refine me_iload_n (q := 1060) C dL_law_1059 rfl rfl rfl ?_
  refine me_iconst (v := (1 : Int32)) (q := 1061) C dL_law_1060 (by decide) rfl ?_
  refine me_iadd (q := 1062) C dL_law_1061 rfl ?_
  obtain ⟨k1, hf⟩ := mm_ck_some hf
  refine me_sld (q := 1063) C hX dL_law_1062 k1 rfl ?_
  refine me_aload_n (q := 1064) C dL_law_1063 rfl rfl rfl ?_
  refine me_iload_n (q := 1065) C dL_law_1064 rfl rfl rfl ?_
  refine me_iconst (v := (2 : Int32)) (q := 1066) C dL_law_1065 (by decide) rfl ?_
  refine me_iadd (q := 1067) C dL_law_1066 rfl ?_
  obtain ⟨k2, hf⟩ := mm_ck_some hf
  refine me_sld (q := 1068) C hX dL_law_1067 k2 rfl ?_
  refine me_aload_n (q := 1069) C dL_law_1068 rfl rfl rfl ?_
  refine me_iload_n (q := 1070) C dL_law_1069 rfl rfl rfl ?_
  refine me_iconst (v := (3 : Int32)) (q := 1071) C dL_law_1070 (by decide) rfl ?_
  refine me_iadd (q := 1072) C dL_law_1071 rfl ?_
  obtain ⟨k3, hf⟩ := mm_ck_some hf
  refine me_sld (q := 1073) C hX dL_law_1072 k3 rfl ?_
  obtain ⟨k4, hf⟩ := mm_ck_some hf
  obtain ⟨v5, g6, e7, hf⟩ := mm_cl_some hf
  refine me_callV (q := 1076) (c2 := cl + 0) (s2 := sl + 0) (st := []) C (cX11_sureties_ok _ e7) mt_L_104 mv_X11_sureties rfl (by decide) dL_law_1073 rfl k4 rfl rfl rfl (Nat.le_of_ble_eq_true rfl) (by omega) (by omega) (by omega) (by omega) rfl rfl ?_
  refine me_aload_n (q := 1077) C dL_law_1076 rfl rfl rfl ?_
  refine me_aload_n (q := 1078) C dL_law_1077 rfl rfl rfl ?_
  refine me_iload_n (q := 1079) C dL_law_1078 rfl rfl rfl ?_
  refine me_iconst (v := (1 : Int32)) (q := 1080) C dL_law_1079 (by decide) rfl ?_
  refine me_iadd (q := 1081) C dL_law_1080 rfl ?_
  obtain ⟨k8, hf⟩ := mm_ck_some hf
  refine me_sld (q := 1082) C hX dL_law_1081 k8 rfl ?_
  refine me_aload_n (q := 1083) C dL_law_1082 rfl rfl rfl ?_
  refine me_iload_n (q := 1084) C dL_law_1083 rfl rfl rfl ?_
  refine me_iconst (v := (2 : Int32)) (q := 1085) C dL_law_1084 (by decide) rfl ?_
  refine me_iadd (q := 1086) C dL_law_1085 rfl ?_
  obtain ⟨k9, hf⟩ := mm_ck_some hf
  refine me_sld (q := 1087) C hX dL_law_1086 k9 rfl ?_
  refine me_aload_n (q := 1088) C dL_law_1087 rfl rfl rfl ?_
  refine me_iload_n (q := 1089) C dL_law_1088 rfl rfl rfl ?_
  refine me_iconst (v := (3 : Int32)) (q := 1090) C dL_law_1089 (by decide) rfl ?_
  refine me_iadd (q := 1091) C dL_law_1090 rfl ?_
  obtain ⟨k10, hf⟩ := mm_ck_some hf
  refine me_sld (q := 1092) C hX dL_law_1091 k10 rfl ?_
  obtain ⟨k11, hf⟩ := mm_ck_some hf
  obtain ⟨v12, g13, e14, hf⟩ := mm_cl_some hf
  refine me_callV (q := 1095) (c2 := cl + 0) (s2 := sl + 0) (st := [vI v5]) C (cX12_sureties_ok _ e14) mt_L_107 mv_X12_sureties rfl (by decide) dL_law_1092 rfl k11 rfl rfl rfl (Nat.le_of_ble_eq_true rfl) (by omega) (by omega) (by omega) (by omega) rfl rfl ?_
  refine me_icmp_eq (q2 := 2011) (q := 1098) C dL_law_1095 (by decide) rfl (fun c15 => ?_) (fun c15 => ?_)
  · have hf := mm_if_t c15 hf
    refine me_widen (by omega) (by omega) (hk _ hf)
  · have hf := mm_if_f c15 hf
    refine me_iconst (v := (0 : Int32)) (q := 1099) C dL_law_1098 (by decide) rfl ?_
    exact absurd hf (by simp)
set_option maxRecDepth 100000 in
set_option maxHeartbeats 4000000 in
theorem cL_c22 {X : mm_X} (C : mm_C X cL_law yL_law 1300 183448 8551906) {sb L : Nat} {xs : Nat → Int32} (hX : mm_scr X sb L xs) {cl sl : Nat} (hcl : cl + 350 ≤ 183448) (hsl : sl + 16500 ≤ 8551906) {ax ay : Nat} {xi : Int32} {K : mm_H → Option (Int32 × mm_H)} {u : Int32 × mm_H} (hk : ∀ h, K h = some u → mm_E X h (cl + 350) (sl + 16500) 2011 [some (vR (some sb)), some (vR (some ax)), some (vR (some ay)), some (vI xi)] []) : ∀ h, fL_c22 L xs ax ay xi K h = some u → mm_E X h (cl + 0) (sl + 0) 1100 [some (vR (some sb)), some (vR (some ax)), some (vR (some ay)), some (vI xi)] [] := by
  intro h hf
  unfold fL_c22 at hf
  refine me_aload_n (q := 1101) C dL_law_1100 rfl rfl rfl ?_
  refine me_aload_n (q := 1102) C dL_law_1101 rfl rfl rfl ?_
  refine me_iload_n (q := 1103) C dL_law_1102 rfl rfl rfl ?_
  refine me_iconst (v := (1 : Int32)) (q := 1104) C dL_law_1103 (by decide) rfl ?_
  refine me_iadd (q := 1105) C dL_law_1104 rfl ?_
  obtain ⟨k1, hf⟩ := mm_ck_some hf
  refine me_sld (q := 1106) C hX dL_law_1105 k1 rfl ?_
  refine me_aload_n (q := 1107) C dL_law_1106 rfl rfl rfl ?_
  refine me_iload_n (q := 1108) C dL_law_1107 rfl rfl rfl ?_
  refine me_iconst (v := (2 : Int32)) (q := 1109) C dL_law_1108 (by decide) rfl ?_
  refine me_iadd (q := 1110) C dL_law_1109 rfl ?_
  obtain ⟨k2, hf⟩ := mm_ck_some hf
  refine me_sld (q := 1111) C hX dL_law_1110 k2 rfl ?_
  obtain ⟨k3, hf⟩ := mm_ck_some hf
  obtain ⟨v4, g5, e6, hf⟩ := mm_cl_some hf
  refine me_callV (q := 1114) (c2 := cl + 0) (s2 := sl + 0) (st := []) C (cX11_pay_ok _ e6) mt_L_108 mv_X11_pay rfl (by decide) dL_law_1111 rfl k3 rfl rfl rfl (Nat.le_of_ble_eq_true rfl) (by omega) (by omega) (by omega) (by omega) rfl rfl ?_
  refine me_aload_n (q := 1115) C dL_law_1114 rfl rfl rfl ?_
  refine me_aload_n (q := 1116) C dL_law_1115 rfl rfl rfl ?_
  refine me_iload_n (q := 1117) C dL_law_1116 rfl rfl rfl ?_
  refine me_iconst (v := (1 : Int32)) (q := 1118) C dL_law_1117 (by decide) rfl ?_
  refine me_iadd (q := 1119) C dL_law_1118 rfl ?_
  obtain ⟨k7, hf⟩ := mm_ck_some hf
  refine me_sld (q := 1120) C hX dL_law_1119 k7 rfl ?_
  refine me_aload_n (q := 1121) C dL_law_1120 rfl rfl rfl ?_
  refine me_iload_n (q := 1122) C dL_law_1121 rfl rfl rfl ?_
  refine me_iconst (v := (2 : Int32)) (q := 1123) C dL_law_1122 (by decide) rfl ?_
  refine me_iadd (q := 1124) C dL_law_1123 rfl ?_
  obtain ⟨k8, hf⟩ := mm_ck_some hf
  refine me_sld (q := 1125) C hX dL_law_1124 k8 rfl ?_
  obtain ⟨k9, hf⟩ := mm_ck_some hf
  obtain ⟨v10, g11, e12, hf⟩ := mm_cl_some hf
  refine me_callV (q := 1128) (c2 := cl + 0) (s2 := sl + 0) (st := [vI v4]) C (cX12_pay_ok _ e12) mt_L_111 mv_X12_pay rfl (by decide) dL_law_1125 rfl k9 rfl rfl rfl (Nat.le_of_ble_eq_true rfl) (by omega) (by omega) (by omega) (by omega) rfl rfl ?_
  refine me_icmp_eq (q2 := 2011) (q := 1131) C dL_law_1128 (by decide) rfl (fun c13 => ?_) (fun c13 => ?_)
  · have hf := mm_if_t c13 hf
    refine me_widen (by omega) (by omega) (hk _ hf)
  · have hf := mm_if_f c13 hf
    refine me_iconst (v := (0 : Int32)) (q := 1132) C dL_law_1131 (by decide) rfl ?_
    exact absurd hf (by simp)
set_option maxRecDepth 100000 in
set_option maxHeartbeats 4000000 in
theorem cL_c23 {X : mm_X} (C : mm_C X cL_law yL_law 1300 183448 8551906) {sb L : Nat} {xs : Nat → Int32} (hX : mm_scr X sb L xs) {cl sl : Nat} (hcl : cl + 350 ≤ 183448) (hsl : sl + 16500 ≤ 8551906) {ax ay : Nat} {xi : Int32} {K : mm_H → Option (Int32 × mm_H)} {u : Int32 × mm_H} (hk : ∀ h, K h = some u → mm_E X h (cl + 350) (sl + 16500) 2011 [some (vR (some sb)), some (vR (some ax)), some (vR (some ay)), some (vI xi)] []) : ∀ h, fL_c23 L xs ax ay xi K h = some u → mm_E X h (cl + 0) (sl + 0) 1133 [some (vR (some sb)), some (vR (some ax)), some (vR (some ay)), some (vI xi)] [] := by
  intro h hf
  unfold fL_c23 at hf
  refine me_aload_n (q := 1134) C dL_law_1133 rfl rfl rfl ?_
  refine me_aload_n (q := 1135) C dL_law_1134 rfl rfl rfl ?_
  refine me_iload_n (q := 1136) C dL_law_1135 rfl rfl rfl ?_
  refine me_iconst (v := (1 : Int32)) (q := 1137) C dL_law_1136 (by decide) rfl ?_
  refine me_iadd (q := 1138) C dL_law_1137 rfl ?_
  obtain ⟨k1, hf⟩ := mm_ck_some hf
  refine me_sld (q := 1139) C hX dL_law_1138 k1 rfl ?_
  obtain ⟨k2, hf⟩ := mm_ck_some hf
  obtain ⟨v3, g4, e5, hf⟩ := mm_cl_some hf
  refine me_callV (q := 1142) (c2 := cl + 0) (s2 := sl + 0) (st := []) C (cX11_call_ok _ e5) mt_L_112 mv_X11_call rfl (by decide) dL_law_1139 rfl k2 rfl rfl rfl (Nat.le_of_ble_eq_true rfl) (by omega) (by omega) (by omega) (by omega) rfl rfl ?_
  refine me_aload_n (q := 1143) C dL_law_1142 rfl rfl rfl ?_
  refine me_aload_n (q := 1144) C dL_law_1143 rfl rfl rfl ?_
  refine me_iload_n (q := 1145) C dL_law_1144 rfl rfl rfl ?_
  refine me_iconst (v := (1 : Int32)) (q := 1146) C dL_law_1145 (by decide) rfl ?_
  refine me_iadd (q := 1147) C dL_law_1146 rfl ?_
  obtain ⟨k6, hf⟩ := mm_ck_some hf
  refine me_sld (q := 1148) C hX dL_law_1147 k6 rfl ?_
  obtain ⟨k7, hf⟩ := mm_ck_some hf
  obtain ⟨v8, g9, e10, hf⟩ := mm_cl_some hf
  refine me_callV (q := 1151) (c2 := cl + 0) (s2 := sl + 0) (st := [vI v3]) C (cX12_call_ok _ e10) mt_L_115 mv_X12_call rfl (by decide) dL_law_1148 rfl k7 rfl rfl rfl (Nat.le_of_ble_eq_true rfl) (by omega) (by omega) (by omega) (by omega) rfl rfl ?_
  refine me_icmp_eq (q2 := 2011) (q := 1154) C dL_law_1151 (by decide) rfl (fun c11 => ?_) (fun c11 => ?_)
  · have hf := mm_if_t c11 hf
    refine me_widen (by omega) (by omega) (hk _ hf)
  · have hf := mm_if_f c11 hf
    refine me_iconst (v := (0 : Int32)) (q := 1155) C dL_law_1154 (by decide) rfl ?_
    exact absurd hf (by simp)
set_option maxRecDepth 100000 in
set_option maxHeartbeats 4000000 in
theorem cL_c24 {X : mm_X} (C : mm_C X cL_law yL_law 1300 183448 8551906) {sb L : Nat} {xs : Nat → Int32} (hX : mm_scr X sb L xs) {cl sl : Nat} (hcl : cl + 350 ≤ 183448) (hsl : sl + 16500 ≤ 8551906) {ax ay : Nat} {xi : Int32} {K : mm_H → Option (Int32 × mm_H)} {u : Int32 × mm_H} (hk : ∀ h, K h = some u → mm_E X h (cl + 350) (sl + 16500) 2011 [some (vR (some sb)), some (vR (some ax)), some (vR (some ay)), some (vI xi)] []) : ∀ h, fL_c24 L xs ax ay xi K h = some u → mm_E X h (cl + 0) (sl + 0) 1156 [some (vR (some sb)), some (vR (some ax)), some (vR (some ay)), some (vI xi)] [] := by
  intro h hf
  unfold fL_c24 at hf
  refine me_aload_n (q := 1157) C dL_law_1156 rfl rfl rfl ?_
  refine me_aload_n (q := 1158) C dL_law_1157 rfl rfl rfl ?_
  refine me_iload_n (q := 1159) C dL_law_1158 rfl rfl rfl ?_
  refine me_iconst (v := (1 : Int32)) (q := 1160) C dL_law_1159 (by decide) rfl ?_
  refine me_iadd (q := 1161) C dL_law_1160 rfl ?_
  obtain ⟨k1, hf⟩ := mm_ck_some hf
  refine me_sld (q := 1162) C hX dL_law_1161 k1 rfl ?_
  refine me_aload_n (q := 1163) C dL_law_1162 rfl rfl rfl ?_
  refine me_iload_n (q := 1164) C dL_law_1163 rfl rfl rfl ?_
  refine me_iconst (v := (2 : Int32)) (q := 1165) C dL_law_1164 (by decide) rfl ?_
  refine me_iadd (q := 1166) C dL_law_1165 rfl ?_
  obtain ⟨k2, hf⟩ := mm_ck_some hf
  refine me_sld (q := 1167) C hX dL_law_1166 k2 rfl ?_
  refine me_aload_n (q := 1168) C dL_law_1167 rfl rfl rfl ?_
  refine me_iload_n (q := 1169) C dL_law_1168 rfl rfl rfl ?_
  refine me_iconst (v := (3 : Int32)) (q := 1170) C dL_law_1169 (by decide) rfl ?_
  refine me_iadd (q := 1171) C dL_law_1170 rfl ?_
  obtain ⟨k3, hf⟩ := mm_ck_some hf
  refine me_sld (q := 1172) C hX dL_law_1171 k3 rfl ?_
  obtain ⟨k4, hf⟩ := mm_ck_some hf
  obtain ⟨v5, g6, e7, hf⟩ := mm_cl_some hf
  refine me_callV (q := 1175) (c2 := cl + 0) (s2 := sl + 0) (st := []) C (cX11_claim_ok _ e7) mt_L_116 mv_X11_claim rfl (by decide) dL_law_1172 rfl k4 rfl rfl rfl (Nat.le_of_ble_eq_true rfl) (by omega) (by omega) (by omega) (by omega) rfl rfl ?_
  refine me_aload_n (q := 1176) C dL_law_1175 rfl rfl rfl ?_
  refine me_aload_n (q := 1177) C dL_law_1176 rfl rfl rfl ?_
  refine me_iload_n (q := 1178) C dL_law_1177 rfl rfl rfl ?_
  refine me_iconst (v := (1 : Int32)) (q := 1179) C dL_law_1178 (by decide) rfl ?_
  refine me_iadd (q := 1180) C dL_law_1179 rfl ?_
  obtain ⟨k8, hf⟩ := mm_ck_some hf
  refine me_sld (q := 1181) C hX dL_law_1180 k8 rfl ?_
  refine me_aload_n (q := 1182) C dL_law_1181 rfl rfl rfl ?_
  refine me_iload_n (q := 1183) C dL_law_1182 rfl rfl rfl ?_
  refine me_iconst (v := (2 : Int32)) (q := 1184) C dL_law_1183 (by decide) rfl ?_
  refine me_iadd (q := 1185) C dL_law_1184 rfl ?_
  obtain ⟨k9, hf⟩ := mm_ck_some hf
  refine me_sld (q := 1186) C hX dL_law_1185 k9 rfl ?_
  refine me_aload_n (q := 1187) C dL_law_1186 rfl rfl rfl ?_
  refine me_iload_n (q := 1188) C dL_law_1187 rfl rfl rfl ?_
  refine me_iconst (v := (3 : Int32)) (q := 1189) C dL_law_1188 (by decide) rfl ?_
  refine me_iadd (q := 1190) C dL_law_1189 rfl ?_
  obtain ⟨k10, hf⟩ := mm_ck_some hf
  refine me_sld (q := 1191) C hX dL_law_1190 k10 rfl ?_
  obtain ⟨k11, hf⟩ := mm_ck_some hf
  obtain ⟨v12, g13, e14, hf⟩ := mm_cl_some hf
  refine me_callV (q := 1194) (c2 := cl + 0) (s2 := sl + 0) (st := [vI v5]) C (cX12_claim_ok _ e14) mt_L_119 mv_X12_claim rfl (by decide) dL_law_1191 rfl k11 rfl rfl rfl (Nat.le_of_ble_eq_true rfl) (by omega) (by omega) (by omega) (by omega) rfl rfl ?_
  refine me_icmp_eq (q2 := 2011) (q := 1197) C dL_law_1194 (by decide) rfl (fun c15 => ?_) (fun c15 => ?_)
  · have hf := mm_if_t c15 hf
    refine me_widen (by omega) (by omega) (hk _ hf)
  · have hf := mm_if_f c15 hf
    refine me_iconst (v := (0 : Int32)) (q := 1198) C dL_law_1197 (by decide) rfl ?_
    exact absurd hf (by simp)
