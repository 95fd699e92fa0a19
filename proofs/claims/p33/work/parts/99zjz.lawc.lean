set_option maxRecDepth 4000 in
theorem lc_0 {n : Nat} {f : Nat → Int32} {P : Option Value → qq_H → Prop} {PX : String → qq_H → Prop} {S : sX} {T : sM} {hp : qq_H} (h : LI n f S T hp) (hR : RelL S T) {i x1 x2 x3 : Int32} (e1 : f (i + 1).toNatClampNeg = x1) (e2 : f (i + 2).toNatClampNeg = x2) (e3 : f (i + 3).toNatClampNeg = x3) (hi1 : vp_in (i + 1) n) (hi2 : vp_in (i + 2) n) (hi3 : vp_in (i + 3) n) (bc bs : Nat) (KK : ∀ (hp' : qq_H) (S' : sX) (T' : sM), LI n f S' T' hp' → RelL S' T' → qq_Go mL_law hp' bc bs 1990 [(0, .ref 0), (1, .ref 80), (2, .ref 84), (3, .ref 419), (4, .int i)] [] P PX) : qq_Go mL_law hp (bc + 2) (bs + 12) 252 [(0, .ref 0), (1, .ref 80), (2, .ref 84), (3, .ref 419), (4, .int i)] [] P PX := by
  refine qq_aload_n dL_law_252 rfl 1 rfl ?_
  refine qq_aload_n dL_law_253 rfl 0 rfl ?_
  refine qq_iload dL_law_254 4 rfl ?_
  refine qq_iconst (v := 1) dL_law_256 (by decide) ?_
  refine qq_iadd dL_law_257 ?_
  refine qq_iald dL_law_258 h.2.2.2.2.2 hi1 ?_
  rw [e1]
  refine qq_aload_n dL_law_259 rfl 0 rfl ?_
  refine qq_iload dL_law_260 4 rfl ?_
  refine qq_iconst (v := 2) dL_law_262 (by decide) ?_
  refine qq_iadd dL_law_263 ?_
  refine qq_iald dL_law_264 h.2.2.2.2.2 hi2 ?_
  rw [e2]
  refine qq_aload_n dL_law_265 rfl 3 rfl ?_
  refine qq_less (bc' := bc + 0 + 2) (bs' := bs + 0 + 12) (by omega) (by omega) ?_
  obtain ⟨y0, sv0, ho0⟩ := h.2.2.1
  refine qq_callSX (bc := bc + 0) (bs := bs + 0) (mc := 2) (ms := 12) (as := [.ref 80, .int x1, .int x2, .ref 419]) (rest := []) dL_law_266 (mt_L_quarter hp S h.1 419 y0 sv0 ho0 (by decide) x1 x2) rfl kl_L_171 ks_L_quarter ki_L kc_L_quarter kd_L_quarter rfl (by decide) (by decide) (Nat.le_of_ble_eq_true rfl) (fun v hp1 hv _ _ => ?_) (fun E hp1 zx _ _ => zx.elim)
  obtain ⟨k0, n0, S1, rfl, c1, c2, c3, D⟩ := hv
  have h1 := LI_c h c1 c2 c3
  show qq_Go mL_law hp1 (bc + 0) (bs + 0) 269 [(0, .ref 0), (1, .ref 80), (2, .ref 84), (3, .ref 419), (4, .int i)] [.int k0] P PX
  refine qq_istore (loc' := [(0, .ref 0), (1, .ref 80), (2, .ref 84), (3, .ref 419), (4, .int i), (5, .int k0)]) dL_law_269 [1, 2, 3, 4, 5, 0] (Nat.le_of_ble_eq_true rfl) rfl ?_
  refine qq_aload_n dL_law_271 rfl 2 rfl ?_
  refine qq_aload_n dL_law_272 rfl 0 rfl ?_
  refine qq_iload dL_law_273 4 rfl ?_
  refine qq_iconst (v := 1) dL_law_275 (by decide) ?_
  refine qq_iadd dL_law_276 ?_
  refine qq_iald dL_law_277 h1.2.2.2.2.2 hi1 ?_
  rw [e1]
  refine qq_aload_n dL_law_278 rfl 0 rfl ?_
  refine qq_iload dL_law_279 4 rfl ?_
  refine qq_iconst (v := 2) dL_law_281 (by decide) ?_
  refine qq_iadd dL_law_282 ?_
  refine qq_iald dL_law_283 h1.2.2.2.2.2 hi2 ?_
  rw [e2]
  refine qq_less (bc' := bc + 0 + 0) (bs' := bs + 0 + 0) (by omega) (by omega) ?_
  have hI := h1.2.2.2.2.1
  obtain ⟨A, hA⟩ := h1.2.1
  refine qq_callV (bc := bc + 0) (bs := bs + 0) (mc := 0) (ms := 0) (o := 84) (ci := 4) (N := 11) (T := TX7) (as := [.int x1, .int x2]) (rest := []) dL_law_284 hA.2.2.1 (by decide) rfl (mt_X7_quarter hp1 A T hA x1 x2) rfl kl_L_176 kn_X7_quarter ke_X7_quarter ki_X7 kc_X7_quarter kd_X7_quarter rfl (by decide) (by decide) (Nat.le_of_ble_eq_true rfl) (fun v hp2 hv _ _ => ?_) (fun E hp2 zx _ _ => zx.elim)
  obtain ⟨rfl, hA2, f2⟩ := hv
  have h2 := LI_m h1 hA hA2 f2 (im_quarter _ _ hI)
  show qq_Go mL_law hp2 (bc + 0) (bs + 0) 287 [(0, .ref 0), (1, .ref 80), (2, .ref 84), (3, .ref 419), (4, .int i), (5, .int k0)] [.int ((r_X7_quarter x1 x2 T).1)] P PX
  refine qq_istore (loc' := [(0, .ref 0), (1, .ref 80), (2, .ref 84), (3, .ref 419), (4, .int i), (5, .int k0), (6, .int ((r_X7_quarter x1 x2 T).1))]) dL_law_287 [1, 2, 3, 4, 5, 6, 0] (Nat.le_of_ble_eq_true rfl) rfl ?_
  refine qq_goto (tgt := 1990) dL_law_289 (by decide) ?_
  refine qq_loc [0, 1, 2, 3, 4] rfl ?_
  exact qq_less (bc' := bc) (bs' := bs) (by omega) (by omega) (KK hp2 S1 (r_X7_quarter x1 x2 T).2 h2 (rk_quarter hI hR D))
set_option maxRecDepth 4000 in
theorem lc_1 {n : Nat} {f : Nat → Int32} {P : Option Value → qq_H → Prop} {PX : String → qq_H → Prop} {S : sX} {T : sM} {hp : qq_H} (h : LI n f S T hp) (hR : RelL S T) {i x1 x2 x3 : Int32} (e1 : f (i + 1).toNatClampNeg = x1) (e2 : f (i + 2).toNatClampNeg = x2) (e3 : f (i + 3).toNatClampNeg = x3) (hi1 : vp_in (i + 1) n) (hi2 : vp_in (i + 2) n) (hi3 : vp_in (i + 3) n) (bc bs : Nat) (KK : ∀ (hp' : qq_H) (S' : sX) (T' : sM), LI n f S' T' hp' → RelL S' T' → qq_Go mL_law hp' bc bs 1990 [(0, .ref 0), (1, .ref 80), (2, .ref 84), (3, .ref 419), (4, .int i)] [] P PX) : qq_Go mL_law hp (bc + 1) (bs + 6) 292 [(0, .ref 0), (1, .ref 80), (2, .ref 84), (3, .ref 419), (4, .int i)] [] P PX := by
  refine qq_aload_n dL_law_292 rfl 1 rfl ?_
  refine qq_aload_n dL_law_293 rfl 0 rfl ?_
  refine qq_iload dL_law_294 4 rfl ?_
  refine qq_iconst (v := 1) dL_law_296 (by decide) ?_
  refine qq_iadd dL_law_297 ?_
  refine qq_iald dL_law_298 h.2.2.2.2.2 hi1 ?_
  rw [e1]
  refine qq_aload_n dL_law_299 rfl 0 rfl ?_
  refine qq_iload dL_law_300 4 rfl ?_
  refine qq_iconst (v := 2) dL_law_302 (by decide) ?_
  refine qq_iadd dL_law_303 ?_
  refine qq_iald dL_law_304 h.2.2.2.2.2 hi2 ?_
  rw [e2]
  suffices KB : qq_Go mL_law hp (bc + 1) (bs + 6) 313 [(0, .ref 0), (1, .ref 80), (2, .ref 84), (3, .ref 419), (4, .int i)] [.int (bz x2), .int x1, .ref 80] P PX from by
    refine qq_if_eq (tgt := 312) dL_law_305 (by decide) (fun zc => ?_) (fun zc => ?_)
    · refine qq_iconst (v := 0) dL_law_312 (by decide) ?_
      rw [bz, if_pos zc] at KB
      exact KB
    · refine qq_iconst (v := 1) dL_law_308 (by decide) ?_
      refine qq_goto (tgt := 313) dL_law_309 (by decide) ?_
      rw [bz, if_neg zc] at KB
      exact KB
  refine qq_aload_n dL_law_313 rfl 3 rfl ?_
  refine qq_less (bc' := bc + 0 + 1) (bs' := bs + 0 + 6) (by omega) (by omega) ?_
  obtain ⟨y0, sv0, ho0⟩ := h.2.2.1
  refine qq_callSX (bc := bc + 0) (bs := bs + 0) (mc := 1) (ms := 6) (as := [.ref 80, .int x1, .int (bz x2), .ref 419]) (rest := []) dL_law_314 (mt_L_zero hp S h.1 419 y0 sv0 ho0 (by decide) x1 (bz x2)) rfl kl_L_177 ks_L_zero ki_L kc_L_zero kd_L_zero rfl (by decide) (by decide) (Nat.le_of_ble_eq_true rfl) (fun v hp1 hv _ _ => ?_) (fun E hp1 zx _ _ => zx.elim)
  obtain ⟨k0, n0, S1, rfl, c1, c2, c3, D⟩ := hv
  have h1 := LI_c h c1 c2 c3
  show qq_Go mL_law hp1 (bc + 0) (bs + 0) 317 [(0, .ref 0), (1, .ref 80), (2, .ref 84), (3, .ref 419), (4, .int i)] [.int k0] P PX
  refine qq_istore (loc' := [(0, .ref 0), (1, .ref 80), (2, .ref 84), (3, .ref 419), (4, .int i), (5, .int k0)]) dL_law_317 [1, 2, 3, 4, 5, 0] (Nat.le_of_ble_eq_true rfl) rfl ?_
  refine qq_aload_n dL_law_319 rfl 2 rfl ?_
  refine qq_aload_n dL_law_320 rfl 0 rfl ?_
  refine qq_iload dL_law_321 4 rfl ?_
  refine qq_iconst (v := 1) dL_law_323 (by decide) ?_
  refine qq_iadd dL_law_324 ?_
  refine qq_iald dL_law_325 h1.2.2.2.2.2 hi1 ?_
  rw [e1]
  refine qq_aload_n dL_law_326 rfl 0 rfl ?_
  refine qq_iload dL_law_327 4 rfl ?_
  refine qq_iconst (v := 2) dL_law_329 (by decide) ?_
  refine qq_iadd dL_law_330 ?_
  refine qq_iald dL_law_331 h1.2.2.2.2.2 hi2 ?_
  rw [e2]
  suffices KB : qq_Go mL_law hp1 (bc + 0) (bs + 0) 340 [(0, .ref 0), (1, .ref 80), (2, .ref 84), (3, .ref 419), (4, .int i), (5, .int k0)] [.int (bz x2), .int x1, .ref 84] P PX from by
    refine qq_if_eq (tgt := 339) dL_law_332 (by decide) (fun zc => ?_) (fun zc => ?_)
    · refine qq_iconst (v := 0) dL_law_339 (by decide) ?_
      rw [bz, if_pos zc] at KB
      exact KB
    · refine qq_iconst (v := 1) dL_law_335 (by decide) ?_
      refine qq_goto (tgt := 340) dL_law_336 (by decide) ?_
      rw [bz, if_neg zc] at KB
      exact KB
  refine qq_less (bc' := bc + 0 + 0) (bs' := bs + 0 + 0) (by omega) (by omega) ?_
  have hI := h1.2.2.2.2.1
  obtain ⟨A, hA⟩ := h1.2.1
  refine qq_callV (bc := bc + 0) (bs := bs + 0) (mc := 0) (ms := 0) (o := 84) (ci := 4) (N := 11) (T := TX7) (as := [.int x1, .int (bz x2)]) (rest := []) dL_law_340 hA.2.2.1 (by decide) rfl (mt_X7_zero hp1 A T hA x1 (bz x2)) rfl kl_L_180 kn_X7_zero ke_X7_zero ki_X7 kc_X7_zero kd_X7_zero rfl (by decide) (by decide) (Nat.le_of_ble_eq_true rfl) (fun v hp2 hv _ _ => ?_) (fun E hp2 zx _ _ => zx.elim)
  obtain ⟨rfl, hA2, f2⟩ := hv
  have h2 := LI_m h1 hA hA2 f2 (im_zero _ (bz01 _) hI)
  show qq_Go mL_law hp2 (bc + 0) (bs + 0) 343 [(0, .ref 0), (1, .ref 80), (2, .ref 84), (3, .ref 419), (4, .int i), (5, .int k0)] [.int ((r_X7_zero x1 (bz x2) T).1)] P PX
  refine qq_istore (loc' := [(0, .ref 0), (1, .ref 80), (2, .ref 84), (3, .ref 419), (4, .int i), (5, .int k0), (6, .int ((r_X7_zero x1 (bz x2) T).1))]) dL_law_343 [1, 2, 3, 4, 5, 6, 0] (Nat.le_of_ble_eq_true rfl) rfl ?_
  refine qq_goto (tgt := 1990) dL_law_345 (by decide) ?_
  refine qq_loc [0, 1, 2, 3, 4] rfl ?_
  exact qq_less (bc' := bc) (bs' := bs) (by omega) (by omega) (KK hp2 S1 (r_X7_zero x1 (bz x2) T).2 h2 (rk_zero hI hR D))
set_option maxRecDepth 4000 in
theorem lc_2 {n : Nat} {f : Nat → Int32} {P : Option Value → qq_H → Prop} {PX : String → qq_H → Prop} {S : sX} {T : sM} {hp : qq_H} (h : LI n f S T hp) (hR : RelL S T) {i x1 x2 x3 : Int32} (e1 : f (i + 1).toNatClampNeg = x1) (e2 : f (i + 2).toNatClampNeg = x2) (e3 : f (i + 3).toNatClampNeg = x3) (hi1 : vp_in (i + 1) n) (hi2 : vp_in (i + 2) n) (hi3 : vp_in (i + 3) n) (bc bs : Nat) (KK : ∀ (hp' : qq_H) (S' : sX) (T' : sM), LI n f S' T' hp' → RelL S' T' → qq_Go mL_law hp' bc bs 1990 [(0, .ref 0), (1, .ref 80), (2, .ref 84), (3, .ref 419), (4, .int i)] [] P PX) : qq_Go mL_law hp (bc + 1) (bs + 6) 348 [(0, .ref 0), (1, .ref 80), (2, .ref 84), (3, .ref 419), (4, .int i)] [] P PX := by
  refine qq_aload_n dL_law_348 rfl 1 rfl ?_
  refine qq_aload_n dL_law_349 rfl 0 rfl ?_
  refine qq_iload dL_law_350 4 rfl ?_
  refine qq_iconst (v := 1) dL_law_352 (by decide) ?_
  refine qq_iadd dL_law_353 ?_
  refine qq_iald dL_law_354 h.2.2.2.2.2 hi1 ?_
  rw [e1]
  refine qq_aload_n dL_law_355 rfl 0 rfl ?_
  refine qq_iload dL_law_356 4 rfl ?_
  refine qq_iconst (v := 2) dL_law_358 (by decide) ?_
  refine qq_iadd dL_law_359 ?_
  refine qq_iald dL_law_360 h.2.2.2.2.2 hi2 ?_
  rw [e2]
  suffices KB : qq_Go mL_law hp (bc + 1) (bs + 6) 369 [(0, .ref 0), (1, .ref 80), (2, .ref 84), (3, .ref 419), (4, .int i)] [.int (bz x2), .int x1, .ref 80] P PX from by
    refine qq_if_eq (tgt := 368) dL_law_361 (by decide) (fun zc => ?_) (fun zc => ?_)
    · refine qq_iconst (v := 0) dL_law_368 (by decide) ?_
      rw [bz, if_pos zc] at KB
      exact KB
    · refine qq_iconst (v := 1) dL_law_364 (by decide) ?_
      refine qq_goto (tgt := 369) dL_law_365 (by decide) ?_
      rw [bz, if_neg zc] at KB
      exact KB
  refine qq_aload_n dL_law_369 rfl 3 rfl ?_
  refine qq_less (bc' := bc + 0 + 1) (bs' := bs + 0 + 6) (by omega) (by omega) ?_
  obtain ⟨y0, sv0, ho0⟩ := h.2.2.1
  refine qq_callSX (bc := bc + 0) (bs := bs + 0) (mc := 1) (ms := 6) (as := [.ref 80, .int x1, .int (bz x2), .ref 419]) (rest := []) dL_law_370 (mt_L_endless hp S h.1 419 y0 sv0 ho0 (by decide) x1 (bz x2)) rfl kl_L_181 ks_L_endless ki_L kc_L_endless kd_L_endless rfl (by decide) (by decide) (Nat.le_of_ble_eq_true rfl) (fun v hp1 hv _ _ => ?_) (fun E hp1 zx _ _ => zx.elim)
  obtain ⟨k0, n0, S1, rfl, c1, c2, c3, D⟩ := hv
  have h1 := LI_c h c1 c2 c3
  show qq_Go mL_law hp1 (bc + 0) (bs + 0) 373 [(0, .ref 0), (1, .ref 80), (2, .ref 84), (3, .ref 419), (4, .int i)] [.int k0] P PX
  refine qq_istore (loc' := [(0, .ref 0), (1, .ref 80), (2, .ref 84), (3, .ref 419), (4, .int i), (5, .int k0)]) dL_law_373 [1, 2, 3, 4, 5, 0] (Nat.le_of_ble_eq_true rfl) rfl ?_
  refine qq_aload_n dL_law_375 rfl 2 rfl ?_
  refine qq_aload_n dL_law_376 rfl 0 rfl ?_
  refine qq_iload dL_law_377 4 rfl ?_
  refine qq_iconst (v := 1) dL_law_379 (by decide) ?_
  refine qq_iadd dL_law_380 ?_
  refine qq_iald dL_law_381 h1.2.2.2.2.2 hi1 ?_
  rw [e1]
  refine qq_aload_n dL_law_382 rfl 0 rfl ?_
  refine qq_iload dL_law_383 4 rfl ?_
  refine qq_iconst (v := 2) dL_law_385 (by decide) ?_
  refine qq_iadd dL_law_386 ?_
  refine qq_iald dL_law_387 h1.2.2.2.2.2 hi2 ?_
  rw [e2]
  suffices KB : qq_Go mL_law hp1 (bc + 0) (bs + 0) 396 [(0, .ref 0), (1, .ref 80), (2, .ref 84), (3, .ref 419), (4, .int i), (5, .int k0)] [.int (bz x2), .int x1, .ref 84] P PX from by
    refine qq_if_eq (tgt := 395) dL_law_388 (by decide) (fun zc => ?_) (fun zc => ?_)
    · refine qq_iconst (v := 0) dL_law_395 (by decide) ?_
      rw [bz, if_pos zc] at KB
      exact KB
    · refine qq_iconst (v := 1) dL_law_391 (by decide) ?_
      refine qq_goto (tgt := 396) dL_law_392 (by decide) ?_
      rw [bz, if_neg zc] at KB
      exact KB
  refine qq_less (bc' := bc + 0 + 0) (bs' := bs + 0 + 0) (by omega) (by omega) ?_
  have hI := h1.2.2.2.2.1
  obtain ⟨A, hA⟩ := h1.2.1
  refine qq_callV (bc := bc + 0) (bs := bs + 0) (mc := 0) (ms := 0) (o := 84) (ci := 4) (N := 11) (T := TX7) (as := [.int x1, .int (bz x2)]) (rest := []) dL_law_396 hA.2.2.1 (by decide) rfl (mt_X7_endless hp1 A T hA x1 (bz x2)) rfl kl_L_183 kn_X7_endless ke_X7_endless ki_X7 kc_X7_endless kd_X7_endless rfl (by decide) (by decide) (Nat.le_of_ble_eq_true rfl) (fun v hp2 hv _ _ => ?_) (fun E hp2 zx _ _ => zx.elim)
  obtain ⟨rfl, hA2, f2⟩ := hv
  have h2 := LI_m h1 hA hA2 f2 (im_endless _ (bz01 _) hI)
  show qq_Go mL_law hp2 (bc + 0) (bs + 0) 399 [(0, .ref 0), (1, .ref 80), (2, .ref 84), (3, .ref 419), (4, .int i), (5, .int k0)] [.int ((r_X7_endless x1 (bz x2) T).1)] P PX
  refine qq_istore (loc' := [(0, .ref 0), (1, .ref 80), (2, .ref 84), (3, .ref 419), (4, .int i), (5, .int k0), (6, .int ((r_X7_endless x1 (bz x2) T).1))]) dL_law_399 [1, 2, 3, 4, 5, 6, 0] (Nat.le_of_ble_eq_true rfl) rfl ?_
  refine qq_goto (tgt := 1990) dL_law_401 (by decide) ?_
  refine qq_loc [0, 1, 2, 3, 4] rfl ?_
  exact qq_less (bc' := bc) (bs' := bs) (by omega) (by omega) (KK hp2 S1 (r_X7_endless x1 (bz x2) T).2 h2 (rk_endless hI hR D))
set_option maxRecDepth 4000 in
theorem lc_3 {n : Nat} {f : Nat → Int32} {P : Option Value → qq_H → Prop} {PX : String → qq_H → Prop} {S : sX} {T : sM} {hp : qq_H} (h : LI n f S T hp) (hR : RelL S T) {i x1 x2 x3 : Int32} (e1 : f (i + 1).toNatClampNeg = x1) (e2 : f (i + 2).toNatClampNeg = x2) (e3 : f (i + 3).toNatClampNeg = x3) (hi1 : vp_in (i + 1) n) (hi2 : vp_in (i + 2) n) (hi3 : vp_in (i + 3) n) (bc bs : Nat) (KK : ∀ (hp' : qq_H) (S' : sX) (T' : sM), LI n f S' T' hp' → RelL S' T' → qq_Go mL_law hp' bc bs 1990 [(0, .ref 0), (1, .ref 80), (2, .ref 84), (3, .ref 419), (4, .int i)] [] P PX) : qq_Go mL_law hp (bc + 5) (bs + 36) 404 [(0, .ref 0), (1, .ref 80), (2, .ref 84), (3, .ref 419), (4, .int i)] [] P PX := by
  refine qq_aload_n dL_law_404 rfl 1 rfl ?_
  refine qq_aload_n dL_law_405 rfl 0 rfl ?_
  refine qq_iload dL_law_406 4 rfl ?_
  refine qq_iconst (v := 1) dL_law_408 (by decide) ?_
  refine qq_iadd dL_law_409 ?_
  refine qq_iald dL_law_410 h.2.2.2.2.2 hi1 ?_
  rw [e1]
  refine qq_aload_n dL_law_411 rfl 0 rfl ?_
  refine qq_iload dL_law_412 4 rfl ?_
  refine qq_iconst (v := 2) dL_law_414 (by decide) ?_
  refine qq_iadd dL_law_415 ?_
  refine qq_iald dL_law_416 h.2.2.2.2.2 hi2 ?_
  rw [e2]
  refine qq_aload_n dL_law_417 rfl 3 rfl ?_
  refine qq_less (bc' := bc + 3 + 2) (bs' := bs + 24 + 12) (by omega) (by omega) ?_
  obtain ⟨y0, sv0, ho0⟩ := h.2.2.1
  refine qq_callSX (bc := bc + 3) (bs := bs + 24) (mc := 2) (ms := 12) (as := [.ref 80, .int x1, .int x2, .ref 419]) (rest := []) dL_law_418 (mt_L_row hp S h.1 419 y0 sv0 ho0 (by decide) x1 x2) rfl kl_L_184 ks_L_row ki_L kc_L_row kd_L_row rfl (by decide) (by decide) (Nat.le_of_ble_eq_true rfl) (fun v hp1 hv _ _ => ?_) (fun E hp1 zx _ _ => zx.elim)
  obtain ⟨k0, n0, S1, rfl, c1, c2, c3, D⟩ := hv
  have h1 := LI_c h c1 c2 c3
  show qq_Go mL_law hp1 (bc + 3) (bs + 24) 421 [(0, .ref 0), (1, .ref 80), (2, .ref 84), (3, .ref 419), (4, .int i)] [.int k0] P PX
  refine qq_istore (loc' := [(0, .ref 0), (1, .ref 80), (2, .ref 84), (3, .ref 419), (4, .int i), (5, .int k0)]) dL_law_421 [1, 2, 3, 4, 5, 0] (Nat.le_of_ble_eq_true rfl) rfl ?_
  refine qq_aload_n dL_law_423 rfl 2 rfl ?_
  refine qq_aload_n dL_law_424 rfl 0 rfl ?_
  refine qq_iload dL_law_425 4 rfl ?_
  refine qq_iconst (v := 1) dL_law_427 (by decide) ?_
  refine qq_iadd dL_law_428 ?_
  refine qq_iald dL_law_429 h1.2.2.2.2.2 hi1 ?_
  rw [e1]
  refine qq_aload_n dL_law_430 rfl 0 rfl ?_
  refine qq_iload dL_law_431 4 rfl ?_
  refine qq_iconst (v := 2) dL_law_433 (by decide) ?_
  refine qq_iadd dL_law_434 ?_
  refine qq_iald dL_law_435 h1.2.2.2.2.2 hi2 ?_
  rw [e2]
  refine qq_less (bc' := bc + 0 + 3) (bs' := bs + 0 + 24) (by omega) (by omega) ?_
  have hI := h1.2.2.2.2.1
  obtain ⟨A, hA⟩ := h1.2.1
  refine qq_callV (bc := bc + 0) (bs := bs + 0) (mc := 3) (ms := 24) (o := 84) (ci := 4) (N := 11) (T := TX7) (as := [.int x1, .int x2]) (rest := []) dL_law_436 hA.2.2.1 (by decide) rfl (mt_X7_row hp1 A T hA x1 x2) rfl kl_L_186 kn_X7_row ke_X7_row ki_X7 kc_X7_row kd_X7_row rfl (by decide) (by decide) (Nat.le_of_ble_eq_true rfl) (fun v hp2 hv _ _ => ?_) (fun E hp2 zx _ _ => zx.elim)
  obtain ⟨rfl, A9, hA2, f2⟩ := hv
  have h2 := LI_m h1 hA hA2 f2 (im_row _ _ hI)
  show qq_Go mL_law hp2 (bc + 0) (bs + 0) 439 [(0, .ref 0), (1, .ref 80), (2, .ref 84), (3, .ref 419), (4, .int i), (5, .int k0)] [.int ((r_X7_row x1 x2 T).1)] P PX
  refine qq_istore (loc' := [(0, .ref 0), (1, .ref 80), (2, .ref 84), (3, .ref 419), (4, .int i), (5, .int k0), (6, .int ((r_X7_row x1 x2 T).1))]) dL_law_439 [1, 2, 3, 4, 5, 6, 0] (Nat.le_of_ble_eq_true rfl) rfl ?_
  refine qq_goto (tgt := 1990) dL_law_441 (by decide) ?_
  refine qq_loc [0, 1, 2, 3, 4] rfl ?_
  exact qq_less (bc' := bc) (bs' := bs) (by omega) (by omega) (KK hp2 S1 (r_X7_row x1 x2 T).2 h2 (rk_row hI hR D))
set_option maxRecDepth 4000 in
theorem lc_4 {n : Nat} {f : Nat → Int32} {P : Option Value → qq_H → Prop} {PX : String → qq_H → Prop} {S : sX} {T : sM} {hp : qq_H} (h : LI n f S T hp) (hR : RelL S T) {i x1 x2 x3 : Int32} (e1 : f (i + 1).toNatClampNeg = x1) (e2 : f (i + 2).toNatClampNeg = x2) (e3 : f (i + 3).toNatClampNeg = x3) (hi1 : vp_in (i + 1) n) (hi2 : vp_in (i + 2) n) (hi3 : vp_in (i + 3) n) (bc bs : Nat) (KK : ∀ (hp' : qq_H) (S' : sX) (T' : sM), LI n f S' T' hp' → RelL S' T' → qq_Go mL_law hp' bc bs 1990 [(0, .ref 0), (1, .ref 80), (2, .ref 84), (3, .ref 419), (4, .int i)] [] P PX) : qq_Go mL_law hp (bc + 3) (bs + 24) 444 [(0, .ref 0), (1, .ref 80), (2, .ref 84), (3, .ref 419), (4, .int i)] [] P PX := by
  refine qq_aload_n dL_law_444 rfl 1 rfl ?_
  refine qq_less (bc' := bc + 3 + 0) (bs' := bs + 24 + 0) (by omega) (by omega) ?_
  refine qq_callV (bc := bc + 3) (bs := bs + 24) (mc := 0) (ms := 0) (o := 80) (ci := 2) (N := 6) (T := TX5) (as := []) (rest := []) dL_law_445 h.1.2.2.1 (by decide) rfl (mt_X5_wipe hp S h.1) rfl kl_L_187 kn_X5_wipe ke_X5_wipe ki_X5 kc_X5_wipe kd_X5_wipe rfl (by decide) (by decide) (Nat.le_of_ble_eq_true rfl) (fun v hp1 hv _ _ => ?_) (fun E hp1 zx _ _ => zx.elim)
  obtain ⟨rfl, c1, c2⟩ := hv
  have h1 := LI_x h c1 c2
  show qq_Go mL_law hp1 (bc + 3) (bs + 24) 448 [(0, .ref 0), (1, .ref 80), (2, .ref 84), (3, .ref 419), (4, .int i)] [.int ((r_X5_wipe S).1)] P PX
  refine qq_pop dL_law_448 rfl ?_
  refine qq_aload_n dL_law_449 rfl 2 rfl ?_
  refine qq_less (bc' := bc + 0 + 3) (bs' := bs + 0 + 24) (by omega) (by omega) ?_
  have hI := h1.2.2.2.2.1
  obtain ⟨A, hA⟩ := h1.2.1
  refine qq_callV (bc := bc + 0) (bs := bs + 0) (mc := 3) (ms := 24) (o := 84) (ci := 4) (N := 11) (T := TX7) (as := []) (rest := []) dL_law_450 hA.2.2.1 (by decide) rfl (mt_X7_wipe hp1 A T hA ) rfl kl_L_191 kn_X7_wipe ke_X7_wipe ki_X7 kc_X7_wipe kd_X7_wipe rfl (by decide) (by decide) (Nat.le_of_ble_eq_true rfl) (fun v hp2 hv _ _ => ?_) (fun E hp2 zx _ _ => zx.elim)
  obtain ⟨rfl, A9, hA2, f2⟩ := hv
  have h2 := LI_m h1 hA hA2 f2 (im_wipe _)
  show qq_Go mL_law hp2 (bc + 0) (bs + 0) 453 [(0, .ref 0), (1, .ref 80), (2, .ref 84), (3, .ref 419), (4, .int i)] [.int ((r_X7_wipe T).1)] P PX
  refine qq_pop dL_law_453 rfl ?_
  refine qq_goto (tgt := 1990) dL_law_454 (by decide) ?_
  exact qq_less (bc' := bc) (bs' := bs) (by omega) (by omega) (KK hp2 (r_X5_wipe S).2 (r_X7_wipe T).2 h2 (rk_wipe hI hR))
set_option maxRecDepth 4000 in
theorem lc_5 {n : Nat} {f : Nat → Int32} {P : Option Value → qq_H → Prop} {PX : String → qq_H → Prop} {S : sX} {T : sM} {hp : qq_H} (h : LI n f S T hp) (hR : RelL S T) {i x1 x2 x3 : Int32} (e1 : f (i + 1).toNatClampNeg = x1) (e2 : f (i + 2).toNatClampNeg = x2) (e3 : f (i + 3).toNatClampNeg = x3) (hi1 : vp_in (i + 1) n) (hi2 : vp_in (i + 2) n) (hi3 : vp_in (i + 3) n) (bc bs : Nat) (KK : ∀ (hp' : qq_H) (S' : sX) (T' : sM), LI n f S' T' hp' → RelL S' T' → qq_Go mL_law hp' bc bs 1990 [(0, .ref 0), (1, .ref 80), (2, .ref 84), (3, .ref 419), (4, .int i)] [] P PX) : qq_Go mL_law hp (bc + 2) (bs + 12) 457 [(0, .ref 0), (1, .ref 80), (2, .ref 84), (3, .ref 419), (4, .int i)] [] P PX := by
  refine qq_aload_n dL_law_457 rfl 1 rfl ?_
  refine qq_aload_n dL_law_458 rfl 0 rfl ?_
  refine qq_iload dL_law_459 4 rfl ?_
  refine qq_iconst (v := 1) dL_law_461 (by decide) ?_
  refine qq_iadd dL_law_462 ?_
  refine qq_iald dL_law_463 h.2.2.2.2.2 hi1 ?_
  rw [e1]
  refine qq_aload_n dL_law_464 rfl 0 rfl ?_
  refine qq_iload dL_law_465 4 rfl ?_
  refine qq_iconst (v := 2) dL_law_467 (by decide) ?_
  refine qq_iadd dL_law_468 ?_
  refine qq_iald dL_law_469 h.2.2.2.2.2 hi2 ?_
  rw [e2]
  refine qq_aload_n dL_law_470 rfl 3 rfl ?_
  refine qq_less (bc' := bc + 0 + 2) (bs' := bs + 0 + 12) (by omega) (by omega) ?_
  obtain ⟨y0, sv0, ho0⟩ := h.2.2.1
  refine qq_callSX (bc := bc + 0) (bs := bs + 0) (mc := 2) (ms := 12) (as := [.ref 80, .int x1, .int x2, .ref 419]) (rest := []) dL_law_471 (mt_L_copy hp S h.1 419 y0 sv0 ho0 (by decide) x1 x2) rfl kl_L_192 ks_L_copy ki_L kc_L_copy kd_L_copy rfl (by decide) (by decide) (Nat.le_of_ble_eq_true rfl) (fun v hp1 hv _ _ => ?_) (fun E hp1 zx _ _ => zx.elim)
  obtain ⟨k0, n0, S1, rfl, c1, c2, c3, D⟩ := hv
  have h1 := LI_c h c1 c2 c3
  show qq_Go mL_law hp1 (bc + 0) (bs + 0) 474 [(0, .ref 0), (1, .ref 80), (2, .ref 84), (3, .ref 419), (4, .int i)] [.int k0] P PX
  refine qq_istore (loc' := [(0, .ref 0), (1, .ref 80), (2, .ref 84), (3, .ref 419), (4, .int i), (5, .int k0)]) dL_law_474 [1, 2, 3, 4, 5, 0] (Nat.le_of_ble_eq_true rfl) rfl ?_
  refine qq_aload_n dL_law_476 rfl 2 rfl ?_
  refine qq_aload_n dL_law_477 rfl 0 rfl ?_
  refine qq_iload dL_law_478 4 rfl ?_
  refine qq_iconst (v := 1) dL_law_480 (by decide) ?_
  refine qq_iadd dL_law_481 ?_
  refine qq_iald dL_law_482 h1.2.2.2.2.2 hi1 ?_
  rw [e1]
  refine qq_aload_n dL_law_483 rfl 0 rfl ?_
  refine qq_iload dL_law_484 4 rfl ?_
  refine qq_iconst (v := 2) dL_law_486 (by decide) ?_
  refine qq_iadd dL_law_487 ?_
  refine qq_iald dL_law_488 h1.2.2.2.2.2 hi2 ?_
  rw [e2]
  refine qq_less (bc' := bc + 0 + 0) (bs' := bs + 0 + 0) (by omega) (by omega) ?_
  have hI := h1.2.2.2.2.1
  obtain ⟨A, hA⟩ := h1.2.1
  refine qq_callV (bc := bc + 0) (bs := bs + 0) (mc := 0) (ms := 0) (o := 84) (ci := 4) (N := 11) (T := TX7) (as := [.int x1, .int x2]) (rest := []) dL_law_489 hA.2.2.1 (by decide) rfl (mt_X7_copy hp1 A T hA x1 x2) rfl kl_L_194 kn_X7_copy ke_X7_copy ki_X7 kc_X7_copy kd_X7_copy rfl (by decide) (by decide) (Nat.le_of_ble_eq_true rfl) (fun v hp2 hv _ _ => ?_) (fun E hp2 zx _ _ => zx.elim)
  obtain ⟨rfl, hA2, f2⟩ := hv
  have h2 := LI_m h1 hA hA2 f2 (im_copy _ _ hI)
  show qq_Go mL_law hp2 (bc + 0) (bs + 0) 492 [(0, .ref 0), (1, .ref 80), (2, .ref 84), (3, .ref 419), (4, .int i), (5, .int k0)] [.int ((r_X7_copy x1 x2 T).1)] P PX
  refine qq_istore (loc' := [(0, .ref 0), (1, .ref 80), (2, .ref 84), (3, .ref 419), (4, .int i), (5, .int k0), (6, .int ((r_X7_copy x1 x2 T).1))]) dL_law_492 [1, 2, 3, 4, 5, 6, 0] (Nat.le_of_ble_eq_true rfl) rfl ?_
  refine qq_goto (tgt := 1990) dL_law_494 (by decide) ?_
  refine qq_loc [0, 1, 2, 3, 4] rfl ?_
  exact qq_less (bc' := bc) (bs' := bs) (by omega) (by omega) (KK hp2 S1 (r_X7_copy x1 x2 T).2 h2 (rk_copy hI hR D))
set_option maxRecDepth 4000 in
theorem lc_6 {n : Nat} {f : Nat → Int32} {P : Option Value → qq_H → Prop} {PX : String → qq_H → Prop} {S : sX} {T : sM} {hp : qq_H} (h : LI n f S T hp) (hR : RelL S T) {i x1 x2 x3 : Int32} (e1 : f (i + 1).toNatClampNeg = x1) (e2 : f (i + 2).toNatClampNeg = x2) (e3 : f (i + 3).toNatClampNeg = x3) (hi1 : vp_in (i + 1) n) (hi2 : vp_in (i + 2) n) (hi3 : vp_in (i + 3) n) (bc bs : Nat) (KK : ∀ (hp' : qq_H) (S' : sX) (T' : sM), LI n f S' T' hp' → RelL S' T' → qq_Go mL_law hp' bc bs 1990 [(0, .ref 0), (1, .ref 80), (2, .ref 84), (3, .ref 419), (4, .int i)] [] P PX) : qq_Go mL_law hp (bc + 2) (bs + 12) 497 [(0, .ref 0), (1, .ref 80), (2, .ref 84), (3, .ref 419), (4, .int i)] [] P PX := by
  refine qq_aload_n dL_law_497 rfl 1 rfl ?_
  refine qq_aload_n dL_law_498 rfl 0 rfl ?_
  refine qq_iload dL_law_499 4 rfl ?_
  refine qq_iconst (v := 1) dL_law_501 (by decide) ?_
  refine qq_iadd dL_law_502 ?_
  refine qq_iald dL_law_503 h.2.2.2.2.2 hi1 ?_
  rw [e1]
  refine qq_aload_n dL_law_504 rfl 0 rfl ?_
  refine qq_iload dL_law_505 4 rfl ?_
  refine qq_iconst (v := 2) dL_law_507 (by decide) ?_
  refine qq_iadd dL_law_508 ?_
  refine qq_iald dL_law_509 h.2.2.2.2.2 hi2 ?_
  rw [e2]
  refine qq_aload_n dL_law_510 rfl 3 rfl ?_
  refine qq_less (bc' := bc + 0 + 2) (bs' := bs + 0 + 12) (by omega) (by omega) ?_
  obtain ⟨y0, sv0, ho0⟩ := h.2.2.1
  refine qq_callSX (bc := bc + 0) (bs := bs + 0) (mc := 2) (ms := 12) (as := [.ref 80, .int x1, .int x2, .ref 419]) (rest := []) dL_law_511 (mt_L_swap hp S h.1 419 y0 sv0 ho0 (by decide) x1 x2) rfl kl_L_195 ks_L_swap ki_L kc_L_swap kd_L_swap rfl (by decide) (by decide) (Nat.le_of_ble_eq_true rfl) (fun v hp1 hv _ _ => ?_) (fun E hp1 zx _ _ => zx.elim)
  obtain ⟨k0, n0, S1, rfl, c1, c2, c3, D⟩ := hv
  have h1 := LI_c h c1 c2 c3
  show qq_Go mL_law hp1 (bc + 0) (bs + 0) 514 [(0, .ref 0), (1, .ref 80), (2, .ref 84), (3, .ref 419), (4, .int i)] [.int k0] P PX
  refine qq_istore (loc' := [(0, .ref 0), (1, .ref 80), (2, .ref 84), (3, .ref 419), (4, .int i), (5, .int k0)]) dL_law_514 [1, 2, 3, 4, 5, 0] (Nat.le_of_ble_eq_true rfl) rfl ?_
  refine qq_aload_n dL_law_516 rfl 2 rfl ?_
  refine qq_aload_n dL_law_517 rfl 0 rfl ?_
  refine qq_iload dL_law_518 4 rfl ?_
  refine qq_iconst (v := 1) dL_law_520 (by decide) ?_
  refine qq_iadd dL_law_521 ?_
  refine qq_iald dL_law_522 h1.2.2.2.2.2 hi1 ?_
  rw [e1]
  refine qq_aload_n dL_law_523 rfl 0 rfl ?_
  refine qq_iload dL_law_524 4 rfl ?_
  refine qq_iconst (v := 2) dL_law_526 (by decide) ?_
  refine qq_iadd dL_law_527 ?_
  refine qq_iald dL_law_528 h1.2.2.2.2.2 hi2 ?_
  rw [e2]
  refine qq_less (bc' := bc + 0 + 0) (bs' := bs + 0 + 0) (by omega) (by omega) ?_
  have hI := h1.2.2.2.2.1
  obtain ⟨A, hA⟩ := h1.2.1
  refine qq_callV (bc := bc + 0) (bs := bs + 0) (mc := 0) (ms := 0) (o := 84) (ci := 4) (N := 11) (T := TX7) (as := [.int x1, .int x2]) (rest := []) dL_law_529 hA.2.2.1 (by decide) rfl (mt_X7_swap hp1 A T hA x1 x2) rfl kl_L_197 kn_X7_swap ke_X7_swap ki_X7 kc_X7_swap kd_X7_swap rfl (by decide) (by decide) (Nat.le_of_ble_eq_true rfl) (fun v hp2 hv _ _ => ?_) (fun E hp2 zx _ _ => zx.elim)
  obtain ⟨rfl, hA2, f2⟩ := hv
  have h2 := LI_m h1 hA hA2 f2 (im_swap _ _ hI)
  show qq_Go mL_law hp2 (bc + 0) (bs + 0) 532 [(0, .ref 0), (1, .ref 80), (2, .ref 84), (3, .ref 419), (4, .int i), (5, .int k0)] [.int ((r_X7_swap x1 x2 T).1)] P PX
  refine qq_istore (loc' := [(0, .ref 0), (1, .ref 80), (2, .ref 84), (3, .ref 419), (4, .int i), (5, .int k0), (6, .int ((r_X7_swap x1 x2 T).1))]) dL_law_532 [1, 2, 3, 4, 5, 6, 0] (Nat.le_of_ble_eq_true rfl) rfl ?_
  refine qq_goto (tgt := 1990) dL_law_534 (by decide) ?_
  refine qq_loc [0, 1, 2, 3, 4] rfl ?_
  exact qq_less (bc' := bc) (bs' := bs) (by omega) (by omega) (KK hp2 S1 (r_X7_swap x1 x2 T).2 h2 (rk_swap hI hR D))
set_option maxRecDepth 4000 in
theorem lc_7 {n : Nat} {f : Nat → Int32} {P : Option Value → qq_H → Prop} {PX : String → qq_H → Prop} {S : sX} {T : sM} {hp : qq_H} (h : LI n f S T hp) (hR : RelL S T) {i x1 x2 x3 : Int32} (e1 : f (i + 1).toNatClampNeg = x1) (e2 : f (i + 2).toNatClampNeg = x2) (e3 : f (i + 3).toNatClampNeg = x3) (hi1 : vp_in (i + 1) n) (hi2 : vp_in (i + 2) n) (hi3 : vp_in (i + 3) n) (bc bs : Nat) (KK : ∀ (hp' : qq_H) (S' : sX) (T' : sM), LI n f S' T' hp' → RelL S' T' → qq_Go mL_law hp' bc bs 1990 [(0, .ref 0), (1, .ref 80), (2, .ref 84), (3, .ref 419), (4, .int i)] [] P PX) : qq_Go mL_law hp (bc + 2) (bs + 12) 537 [(0, .ref 0), (1, .ref 80), (2, .ref 84), (3, .ref 419), (4, .int i)] [] P PX := by
  refine qq_aload_n dL_law_537 rfl 1 rfl ?_
  refine qq_aload_n dL_law_538 rfl 0 rfl ?_
  refine qq_iload dL_law_539 4 rfl ?_
  refine qq_iconst (v := 1) dL_law_541 (by decide) ?_
  refine qq_iadd dL_law_542 ?_
  refine qq_iald dL_law_543 h.2.2.2.2.2 hi1 ?_
  rw [e1]
  refine qq_aload_n dL_law_544 rfl 0 rfl ?_
  refine qq_iload dL_law_545 4 rfl ?_
  refine qq_iconst (v := 2) dL_law_547 (by decide) ?_
  refine qq_iadd dL_law_548 ?_
  refine qq_iald dL_law_549 h.2.2.2.2.2 hi2 ?_
  rw [e2]
  refine qq_aload_n dL_law_550 rfl 3 rfl ?_
  refine qq_less (bc' := bc + 0 + 2) (bs' := bs + 0 + 12) (by omega) (by omega) ?_
  obtain ⟨y0, sv0, ho0⟩ := h.2.2.1
  refine qq_callSX (bc := bc + 0) (bs := bs + 0) (mc := 2) (ms := 12) (as := [.ref 80, .int x1, .int x2, .ref 419]) (rest := []) dL_law_551 (mt_L_step hp S h.1 419 y0 sv0 ho0 (by decide) x1 x2) rfl kl_L_198 ks_L_step ki_L kc_L_step kd_L_step rfl (by decide) (by decide) (Nat.le_of_ble_eq_true rfl) (fun v hp1 hv _ _ => ?_) (fun E hp1 zx _ _ => zx.elim)
  obtain ⟨k0, n0, S1, rfl, c1, c2, c3, D⟩ := hv
  have h1 := LI_c h c1 c2 c3
  show qq_Go mL_law hp1 (bc + 0) (bs + 0) 554 [(0, .ref 0), (1, .ref 80), (2, .ref 84), (3, .ref 419), (4, .int i)] [.int k0] P PX
  refine qq_istore (loc' := [(0, .ref 0), (1, .ref 80), (2, .ref 84), (3, .ref 419), (4, .int i), (5, .int k0)]) dL_law_554 [1, 2, 3, 4, 5, 0] (Nat.le_of_ble_eq_true rfl) rfl ?_
  refine qq_aload_n dL_law_556 rfl 2 rfl ?_
  refine qq_aload_n dL_law_557 rfl 0 rfl ?_
  refine qq_iload dL_law_558 4 rfl ?_
  refine qq_iconst (v := 1) dL_law_560 (by decide) ?_
  refine qq_iadd dL_law_561 ?_
  refine qq_iald dL_law_562 h1.2.2.2.2.2 hi1 ?_
  rw [e1]
  refine qq_aload_n dL_law_563 rfl 0 rfl ?_
  refine qq_iload dL_law_564 4 rfl ?_
  refine qq_iconst (v := 2) dL_law_566 (by decide) ?_
  refine qq_iadd dL_law_567 ?_
  refine qq_iald dL_law_568 h1.2.2.2.2.2 hi2 ?_
  rw [e2]
  refine qq_less (bc' := bc + 0 + 0) (bs' := bs + 0 + 0) (by omega) (by omega) ?_
  have hI := h1.2.2.2.2.1
  obtain ⟨A, hA⟩ := h1.2.1
  refine qq_callV (bc := bc + 0) (bs := bs + 0) (mc := 0) (ms := 0) (o := 84) (ci := 4) (N := 11) (T := TX7) (as := [.int x1, .int x2]) (rest := []) dL_law_569 hA.2.2.1 (by decide) rfl (mt_X7_step hp1 A T hA x1 x2) rfl kl_L_200 kn_X7_step ke_X7_step ki_X7 kc_X7_step kd_X7_step rfl (by decide) (by decide) (Nat.le_of_ble_eq_true rfl) (fun v hp2 hv _ _ => ?_) (fun E hp2 zx _ _ => zx.elim)
  obtain ⟨rfl, hA2, f2⟩ := hv
  have h2 := LI_m h1 hA hA2 f2 (im_step _ _ hI)
  show qq_Go mL_law hp2 (bc + 0) (bs + 0) 572 [(0, .ref 0), (1, .ref 80), (2, .ref 84), (3, .ref 419), (4, .int i), (5, .int k0)] [.int ((r_X7_step x1 x2 T).1)] P PX
  refine qq_istore (loc' := [(0, .ref 0), (1, .ref 80), (2, .ref 84), (3, .ref 419), (4, .int i), (5, .int k0), (6, .int ((r_X7_step x1 x2 T).1))]) dL_law_572 [1, 2, 3, 4, 5, 6, 0] (Nat.le_of_ble_eq_true rfl) rfl ?_
  refine qq_goto (tgt := 1990) dL_law_574 (by decide) ?_
  refine qq_loc [0, 1, 2, 3, 4] rfl ?_
  exact qq_less (bc' := bc) (bs' := bs) (by omega) (by omega) (KK hp2 S1 (r_X7_step x1 x2 T).2 h2 (rk_step hI hR D))
set_option maxRecDepth 4000 in
theorem lc_8 {n : Nat} {f : Nat → Int32} {P : Option Value → qq_H → Prop} {PX : String → qq_H → Prop} {S : sX} {T : sM} {hp : qq_H} (h : LI n f S T hp) (hR : RelL S T) {i x1 x2 x3 : Int32} (e1 : f (i + 1).toNatClampNeg = x1) (e2 : f (i + 2).toNatClampNeg = x2) (e3 : f (i + 3).toNatClampNeg = x3) (hi1 : vp_in (i + 1) n) (hi2 : vp_in (i + 2) n) (hi3 : vp_in (i + 3) n) (bc bs : Nat) (KK : ∀ (hp' : qq_H) (S' : sX) (T' : sM), LI n f S' T' hp' → RelL S' T' → qq_Go mL_law hp' bc bs 1990 [(0, .ref 0), (1, .ref 80), (2, .ref 84), (3, .ref 419), (4, .int i)] [] P PX) : qq_Go mL_law hp (bc + 1) (bs + 6) 577 [(0, .ref 0), (1, .ref 80), (2, .ref 84), (3, .ref 419), (4, .int i)] [] P PX := by
  refine qq_aload_n dL_law_577 rfl 1 rfl ?_
  refine qq_aload_n dL_law_578 rfl 0 rfl ?_
  refine qq_iload dL_law_579 4 rfl ?_
  refine qq_iconst (v := 1) dL_law_581 (by decide) ?_
  refine qq_iadd dL_law_582 ?_
  refine qq_iald dL_law_583 h.2.2.2.2.2 hi1 ?_
  rw [e1]
  refine qq_aload_n dL_law_584 rfl 3 rfl ?_
  refine qq_less (bc' := bc + 0 + 1) (bs' := bs + 0 + 6) (by omega) (by omega) ?_
  obtain ⟨y0, sv0, ho0⟩ := h.2.2.1
  refine qq_callSX (bc := bc + 0) (bs := bs + 0) (mc := 1) (ms := 6) (as := [.ref 80, .int x1, .ref 419]) (rest := []) dL_law_585 (mt_L_turn hp S h.1 419 y0 sv0 ho0 (by decide) x1) rfl kl_L_201 ks_L_turn ki_L kc_L_turn kd_L_turn rfl (by decide) (by decide) (Nat.le_of_ble_eq_true rfl) (fun v hp1 hv _ _ => ?_) (fun E hp1 zx _ _ => zx.elim)
  obtain ⟨k0, n0, S1, rfl, c1, c2, c3, D⟩ := hv
  have h1 := LI_c h c1 c2 c3
  show qq_Go mL_law hp1 (bc + 0) (bs + 0) 588 [(0, .ref 0), (1, .ref 80), (2, .ref 84), (3, .ref 419), (4, .int i)] [.int k0] P PX
  refine qq_istore (loc' := [(0, .ref 0), (1, .ref 80), (2, .ref 84), (3, .ref 419), (4, .int i), (5, .int k0)]) dL_law_588 [1, 2, 3, 4, 5, 0] (Nat.le_of_ble_eq_true rfl) rfl ?_
  refine qq_aload_n dL_law_590 rfl 2 rfl ?_
  refine qq_aload_n dL_law_591 rfl 0 rfl ?_
  refine qq_iload dL_law_592 4 rfl ?_
  refine qq_iconst (v := 1) dL_law_594 (by decide) ?_
  refine qq_iadd dL_law_595 ?_
  refine qq_iald dL_law_596 h1.2.2.2.2.2 hi1 ?_
  rw [e1]
  refine qq_less (bc' := bc + 0 + 0) (bs' := bs + 0 + 0) (by omega) (by omega) ?_
  have hI := h1.2.2.2.2.1
  obtain ⟨A, hA⟩ := h1.2.1
  refine qq_callV (bc := bc + 0) (bs := bs + 0) (mc := 0) (ms := 0) (o := 84) (ci := 4) (N := 11) (T := TX7) (as := [.int x1]) (rest := []) dL_law_597 hA.2.2.1 (by decide) rfl (mt_X7_turn hp1 A T hA x1) rfl kl_L_204 kn_X7_turn ke_X7_turn ki_X7 kc_X7_turn kd_X7_turn rfl (by decide) (by decide) (Nat.le_of_ble_eq_true rfl) (fun v hp2 hv _ _ => ?_) (fun E hp2 zx _ _ => zx.elim)
  obtain ⟨rfl, hA2, f2⟩ := hv
  have h2 := LI_m h1 hA hA2 f2 (im_turn _ hI)
  show qq_Go mL_law hp2 (bc + 0) (bs + 0) 600 [(0, .ref 0), (1, .ref 80), (2, .ref 84), (3, .ref 419), (4, .int i), (5, .int k0)] [.int ((r_X7_turn x1 T).1)] P PX
  refine qq_istore (loc' := [(0, .ref 0), (1, .ref 80), (2, .ref 84), (3, .ref 419), (4, .int i), (5, .int k0), (6, .int ((r_X7_turn x1 T).1))]) dL_law_600 [1, 2, 3, 4, 5, 6, 0] (Nat.le_of_ble_eq_true rfl) rfl ?_
  refine qq_goto (tgt := 1990) dL_law_602 (by decide) ?_
  refine qq_loc [0, 1, 2, 3, 4] rfl ?_
  exact qq_less (bc' := bc) (bs' := bs) (by omega) (by omega) (KK hp2 S1 (r_X7_turn x1 T).2 h2 (rk_turn hI hR D))
set_option maxRecDepth 4000 in
theorem lc_9 {n : Nat} {f : Nat → Int32} {P : Option Value → qq_H → Prop} {PX : String → qq_H → Prop} {S : sX} {T : sM} {hp : qq_H} (h : LI n f S T hp) (hR : RelL S T) {i x1 x2 x3 : Int32} (e1 : f (i + 1).toNatClampNeg = x1) (e2 : f (i + 2).toNatClampNeg = x2) (e3 : f (i + 3).toNatClampNeg = x3) (hi1 : vp_in (i + 1) n) (hi2 : vp_in (i + 2) n) (hi3 : vp_in (i + 3) n) (bc bs : Nat) (KK : ∀ (hp' : qq_H) (S' : sX) (T' : sM), LI n f S' T' hp' → RelL S' T' → qq_Go mL_law hp' bc bs 1990 [(0, .ref 0), (1, .ref 80), (2, .ref 84), (3, .ref 419), (4, .int i)] [] P PX) : qq_Go mL_law hp (bc + 3) (bs + 15) 605 [(0, .ref 0), (1, .ref 80), (2, .ref 84), (3, .ref 419), (4, .int i)] [] P PX := by
  refine qq_aload_n dL_law_605 rfl 1 rfl ?_
  refine qq_aload_n dL_law_606 rfl 0 rfl ?_
  refine qq_iload dL_law_607 4 rfl ?_
  refine qq_iconst (v := 1) dL_law_609 (by decide) ?_
  refine qq_iadd dL_law_610 ?_
  refine qq_iald dL_law_611 h.2.2.2.2.2 hi1 ?_
  rw [e1]
  refine qq_aload_n dL_law_612 rfl 0 rfl ?_
  refine qq_iload dL_law_613 4 rfl ?_
  refine qq_iconst (v := 2) dL_law_615 (by decide) ?_
  refine qq_iadd dL_law_616 ?_
  refine qq_iald dL_law_617 h.2.2.2.2.2 hi2 ?_
  rw [e2]
  refine qq_aload_n dL_law_618 rfl 3 rfl ?_
  refine qq_less (bc' := bc + 1 + 2) (bs' := bs + 3 + 12) (by omega) (by omega) ?_
  obtain ⟨y0, sv0, ho0⟩ := h.2.2.1
  refine qq_callSX (bc := bc + 1) (bs := bs + 3) (mc := 2) (ms := 12) (as := [.ref 80, .int x1, .int x2, .ref 419]) (rest := []) dL_law_619 (mt_L_power hp S h.1 419 y0 sv0 ho0 (by decide) x1 x2) rfl kl_L_205 ks_L_power ki_L kc_L_power kd_L_power rfl (by decide) (by decide) (Nat.le_of_ble_eq_true rfl) (fun v hp1 hv _ _ => ?_) (fun E hp1 zx _ _ => zx.elim)
  obtain ⟨k0, n0, S1, rfl, c1, c2, c3, D⟩ := hv
  have h1 := LI_c h c1 c2 c3
  show qq_Go mL_law hp1 (bc + 1) (bs + 3) 622 [(0, .ref 0), (1, .ref 80), (2, .ref 84), (3, .ref 419), (4, .int i)] [.int k0] P PX
  refine qq_istore (loc' := [(0, .ref 0), (1, .ref 80), (2, .ref 84), (3, .ref 419), (4, .int i), (5, .int k0)]) dL_law_622 [1, 2, 3, 4, 5, 0] (Nat.le_of_ble_eq_true rfl) rfl ?_
  refine qq_aload_n dL_law_624 rfl 2 rfl ?_
  refine qq_aload_n dL_law_625 rfl 0 rfl ?_
  refine qq_iload dL_law_626 4 rfl ?_
  refine qq_iconst (v := 1) dL_law_628 (by decide) ?_
  refine qq_iadd dL_law_629 ?_
  refine qq_iald dL_law_630 h1.2.2.2.2.2 hi1 ?_
  rw [e1]
  refine qq_aload_n dL_law_631 rfl 0 rfl ?_
  refine qq_iload dL_law_632 4 rfl ?_
  refine qq_iconst (v := 2) dL_law_634 (by decide) ?_
  refine qq_iadd dL_law_635 ?_
  refine qq_iald dL_law_636 h1.2.2.2.2.2 hi2 ?_
  rw [e2]
  refine qq_less (bc' := bc + 0 + 1) (bs' := bs + 0 + 3) (by omega) (by omega) ?_
  have hI := h1.2.2.2.2.1
  obtain ⟨A, hA⟩ := h1.2.1
  refine qq_callV (bc := bc + 0) (bs := bs + 0) (mc := 1) (ms := 3) (o := 84) (ci := 4) (N := 11) (T := TX7) (as := [.int x1, .int x2]) (rest := []) dL_law_637 hA.2.2.1 (by decide) rfl (mt_X7_power hp1 A T hA x1 x2) rfl kl_L_207 kn_X7_power ke_X7_power ki_X7 kc_X7_power kd_X7_power rfl (by decide) (by decide) (Nat.le_of_ble_eq_true rfl) (fun v hp2 hv _ _ => ?_) (fun E hp2 zx _ _ => zx.elim)
  obtain ⟨rfl, hA2, f2⟩ := hv
  have h2 := LI_m h1 hA hA2 f2 (im_made _ _ (Or.inl rfl) hI)
  show qq_Go mL_law hp2 (bc + 0) (bs + 0) 640 [(0, .ref 0), (1, .ref 80), (2, .ref 84), (3, .ref 419), (4, .int i), (5, .int k0)] [.int ((r_X7_power x1 x2 T).1)] P PX
  refine qq_istore (loc' := [(0, .ref 0), (1, .ref 80), (2, .ref 84), (3, .ref 419), (4, .int i), (5, .int k0), (6, .int ((r_X7_power x1 x2 T).1))]) dL_law_640 [1, 2, 3, 4, 5, 6, 0] (Nat.le_of_ble_eq_true rfl) rfl ?_
  refine qq_goto (tgt := 1990) dL_law_642 (by decide) ?_
  refine qq_loc [0, 1, 2, 3, 4] rfl ?_
  exact qq_less (bc' := bc) (bs' := bs) (by omega) (by omega) (KK hp2 S1 (r_X7_power x1 x2 T).2 h2 (rk_power hI hR D))
set_option maxRecDepth 4000 in
theorem lc_10 {n : Nat} {f : Nat → Int32} {P : Option Value → qq_H → Prop} {PX : String → qq_H → Prop} {S : sX} {T : sM} {hp : qq_H} (h : LI n f S T hp) (hR : RelL S T) {i x1 x2 x3 : Int32} (e1 : f (i + 1).toNatClampNeg = x1) (e2 : f (i + 2).toNatClampNeg = x2) (e3 : f (i + 3).toNatClampNeg = x3) (hi1 : vp_in (i + 1) n) (hi2 : vp_in (i + 2) n) (hi3 : vp_in (i + 3) n) (bc bs : Nat) (KK : ∀ (hp' : qq_H) (S' : sX) (T' : sM), LI n f S' T' hp' → RelL S' T' → qq_Go mL_law hp' bc bs 1990 [(0, .ref 0), (1, .ref 80), (2, .ref 84), (3, .ref 419), (4, .int i)] [] P PX) : qq_Go mL_law hp (bc + 3) (bs + 15) 645 [(0, .ref 0), (1, .ref 80), (2, .ref 84), (3, .ref 419), (4, .int i)] [] P PX := by
  refine qq_aload_n dL_law_645 rfl 1 rfl ?_
  refine qq_aload_n dL_law_646 rfl 0 rfl ?_
  refine qq_iload dL_law_647 4 rfl ?_
  refine qq_iconst (v := 1) dL_law_649 (by decide) ?_
  refine qq_iadd dL_law_650 ?_
  refine qq_iald dL_law_651 h.2.2.2.2.2 hi1 ?_
  rw [e1]
  refine qq_aload_n dL_law_652 rfl 0 rfl ?_
  refine qq_iload dL_law_653 4 rfl ?_
  refine qq_iconst (v := 2) dL_law_655 (by decide) ?_
  refine qq_iadd dL_law_656 ?_
  refine qq_iald dL_law_657 h.2.2.2.2.2 hi2 ?_
  rw [e2]
  refine qq_aload_n dL_law_658 rfl 3 rfl ?_
  refine qq_less (bc' := bc + 1 + 2) (bs' := bs + 3 + 12) (by omega) (by omega) ?_
  obtain ⟨y0, sv0, ho0⟩ := h.2.2.1
  refine qq_callSX (bc := bc + 1) (bs := bs + 3) (mc := 2) (ms := 12) (as := [.ref 80, .int x1, .int x2, .ref 419]) (rest := []) dL_law_659 (mt_L_lessen hp S h.1 419 y0 sv0 ho0 (by decide) x1 x2) rfl kl_L_208 ks_L_lessen ki_L kc_L_lessen kd_L_lessen rfl (by decide) (by decide) (Nat.le_of_ble_eq_true rfl) (fun v hp1 hv _ _ => ?_) (fun E hp1 zx _ _ => zx.elim)
  obtain ⟨k0, n0, S1, rfl, c1, c2, c3, D⟩ := hv
  have h1 := LI_c h c1 c2 c3
  show qq_Go mL_law hp1 (bc + 1) (bs + 3) 662 [(0, .ref 0), (1, .ref 80), (2, .ref 84), (3, .ref 419), (4, .int i)] [.int k0] P PX
  refine qq_istore (loc' := [(0, .ref 0), (1, .ref 80), (2, .ref 84), (3, .ref 419), (4, .int i), (5, .int k0)]) dL_law_662 [1, 2, 3, 4, 5, 0] (Nat.le_of_ble_eq_true rfl) rfl ?_
  refine qq_aload_n dL_law_664 rfl 2 rfl ?_
  refine qq_aload_n dL_law_665 rfl 0 rfl ?_
  refine qq_iload dL_law_666 4 rfl ?_
  refine qq_iconst (v := 1) dL_law_668 (by decide) ?_
  refine qq_iadd dL_law_669 ?_
  refine qq_iald dL_law_670 h1.2.2.2.2.2 hi1 ?_
  rw [e1]
  refine qq_aload_n dL_law_671 rfl 0 rfl ?_
  refine qq_iload dL_law_672 4 rfl ?_
  refine qq_iconst (v := 2) dL_law_674 (by decide) ?_
  refine qq_iadd dL_law_675 ?_
  refine qq_iald dL_law_676 h1.2.2.2.2.2 hi2 ?_
  rw [e2]
  refine qq_less (bc' := bc + 0 + 1) (bs' := bs + 0 + 3) (by omega) (by omega) ?_
  have hI := h1.2.2.2.2.1
  obtain ⟨A, hA⟩ := h1.2.1
  refine qq_callV (bc := bc + 0) (bs := bs + 0) (mc := 1) (ms := 3) (o := 84) (ci := 4) (N := 11) (T := TX7) (as := [.int x1, .int x2]) (rest := []) dL_law_677 hA.2.2.1 (by decide) rfl (mt_X7_lessen hp1 A T hA x1 x2) rfl kl_L_210 kn_X7_lessen ke_X7_lessen ki_X7 kc_X7_lessen kd_X7_lessen rfl (by decide) (by decide) (Nat.le_of_ble_eq_true rfl) (fun v hp2 hv _ _ => ?_) (fun E hp2 zx _ _ => zx.elim)
  obtain ⟨rfl, hA2, f2⟩ := hv
  have h2 := LI_m h1 hA hA2 f2 (im_made _ _ (Or.inr (Or.inl rfl)) hI)
  show qq_Go mL_law hp2 (bc + 0) (bs + 0) 680 [(0, .ref 0), (1, .ref 80), (2, .ref 84), (3, .ref 419), (4, .int i), (5, .int k0)] [.int ((r_X7_lessen x1 x2 T).1)] P PX
  refine qq_istore (loc' := [(0, .ref 0), (1, .ref 80), (2, .ref 84), (3, .ref 419), (4, .int i), (5, .int k0), (6, .int ((r_X7_lessen x1 x2 T).1))]) dL_law_680 [1, 2, 3, 4, 5, 6, 0] (Nat.le_of_ble_eq_true rfl) rfl ?_
  refine qq_goto (tgt := 1990) dL_law_682 (by decide) ?_
  refine qq_loc [0, 1, 2, 3, 4] rfl ?_
  exact qq_less (bc' := bc) (bs' := bs) (by omega) (by omega) (KK hp2 S1 (r_X7_lessen x1 x2 T).2 h2 (rk_lessen hI hR D))
set_option maxRecDepth 4000 in
theorem lc_11 {n : Nat} {f : Nat → Int32} {P : Option Value → qq_H → Prop} {PX : String → qq_H → Prop} {S : sX} {T : sM} {hp : qq_H} (h : LI n f S T hp) (hR : RelL S T) {i x1 x2 x3 : Int32} (e1 : f (i + 1).toNatClampNeg = x1) (e2 : f (i + 2).toNatClampNeg = x2) (e3 : f (i + 3).toNatClampNeg = x3) (hi1 : vp_in (i + 1) n) (hi2 : vp_in (i + 2) n) (hi3 : vp_in (i + 3) n) (bc bs : Nat) (KK : ∀ (hp' : qq_H) (S' : sX) (T' : sM), LI n f S' T' hp' → RelL S' T' → qq_Go mL_law hp' bc bs 1990 [(0, .ref 0), (1, .ref 80), (2, .ref 84), (3, .ref 419), (4, .int i)] [] P PX) : qq_Go mL_law hp (bc + 3) (bs + 15) 685 [(0, .ref 0), (1, .ref 80), (2, .ref 84), (3, .ref 419), (4, .int i)] [] P PX := by
  refine qq_aload_n dL_law_685 rfl 1 rfl ?_
  refine qq_aload_n dL_law_686 rfl 0 rfl ?_
  refine qq_iload dL_law_687 4 rfl ?_
  refine qq_iconst (v := 1) dL_law_689 (by decide) ?_
  refine qq_iadd dL_law_690 ?_
  refine qq_iald dL_law_691 h.2.2.2.2.2 hi1 ?_
  rw [e1]
  refine qq_aload_n dL_law_692 rfl 0 rfl ?_
  refine qq_iload dL_law_693 4 rfl ?_
  refine qq_iconst (v := 2) dL_law_695 (by decide) ?_
  refine qq_iadd dL_law_696 ?_
  refine qq_iald dL_law_697 h.2.2.2.2.2 hi2 ?_
  rw [e2]
  refine qq_aload_n dL_law_698 rfl 3 rfl ?_
  refine qq_less (bc' := bc + 1 + 2) (bs' := bs + 3 + 12) (by omega) (by omega) ?_
  obtain ⟨y0, sv0, ho0⟩ := h.2.2.1
  refine qq_callSX (bc := bc + 1) (bs := bs + 3) (mc := 2) (ms := 12) (as := [.ref 80, .int x1, .int x2, .ref 419]) (rest := []) dL_law_699 (mt_L_log hp S h.1 419 y0 sv0 ho0 (by decide) x1 x2) rfl kl_L_211 ks_L_log ki_L kc_L_log kd_L_log rfl (by decide) (by decide) (Nat.le_of_ble_eq_true rfl) (fun v hp1 hv _ _ => ?_) (fun E hp1 zx _ _ => zx.elim)
  obtain ⟨k0, n0, S1, rfl, c1, c2, c3, D⟩ := hv
  have h1 := LI_c h c1 c2 c3
  show qq_Go mL_law hp1 (bc + 1) (bs + 3) 702 [(0, .ref 0), (1, .ref 80), (2, .ref 84), (3, .ref 419), (4, .int i)] [.int k0] P PX
  refine qq_istore (loc' := [(0, .ref 0), (1, .ref 80), (2, .ref 84), (3, .ref 419), (4, .int i), (5, .int k0)]) dL_law_702 [1, 2, 3, 4, 5, 0] (Nat.le_of_ble_eq_true rfl) rfl ?_
  refine qq_aload_n dL_law_704 rfl 2 rfl ?_
  refine qq_aload_n dL_law_705 rfl 0 rfl ?_
  refine qq_iload dL_law_706 4 rfl ?_
  refine qq_iconst (v := 1) dL_law_708 (by decide) ?_
  refine qq_iadd dL_law_709 ?_
  refine qq_iald dL_law_710 h1.2.2.2.2.2 hi1 ?_
  rw [e1]
  refine qq_aload_n dL_law_711 rfl 0 rfl ?_
  refine qq_iload dL_law_712 4 rfl ?_
  refine qq_iconst (v := 2) dL_law_714 (by decide) ?_
  refine qq_iadd dL_law_715 ?_
  refine qq_iald dL_law_716 h1.2.2.2.2.2 hi2 ?_
  rw [e2]
  refine qq_less (bc' := bc + 0 + 1) (bs' := bs + 0 + 3) (by omega) (by omega) ?_
  have hI := h1.2.2.2.2.1
  obtain ⟨A, hA⟩ := h1.2.1
  refine qq_callV (bc := bc + 0) (bs := bs + 0) (mc := 1) (ms := 3) (o := 84) (ci := 4) (N := 11) (T := TX7) (as := [.int x1, .int x2]) (rest := []) dL_law_717 hA.2.2.1 (by decide) rfl (mt_X7_log hp1 A T hA x1 x2) rfl kl_L_213 kn_X7_log ke_X7_log ki_X7 kc_X7_log kd_X7_log rfl (by decide) (by decide) (Nat.le_of_ble_eq_true rfl) (fun v hp2 hv _ _ => ?_) (fun E hp2 zx _ _ => zx.elim)
  obtain ⟨rfl, hA2, f2⟩ := hv
  have h2 := LI_m h1 hA hA2 f2 (im_made _ _ (Or.inr (Or.inr rfl)) hI)
  show qq_Go mL_law hp2 (bc + 0) (bs + 0) 720 [(0, .ref 0), (1, .ref 80), (2, .ref 84), (3, .ref 419), (4, .int i), (5, .int k0)] [.int ((r_X7_log x1 x2 T).1)] P PX
  refine qq_istore (loc' := [(0, .ref 0), (1, .ref 80), (2, .ref 84), (3, .ref 419), (4, .int i), (5, .int k0), (6, .int ((r_X7_log x1 x2 T).1))]) dL_law_720 [1, 2, 3, 4, 5, 6, 0] (Nat.le_of_ble_eq_true rfl) rfl ?_
  refine qq_goto (tgt := 1990) dL_law_722 (by decide) ?_
  refine qq_loc [0, 1, 2, 3, 4] rfl ?_
  exact qq_less (bc' := bc) (bs' := bs) (by omega) (by omega) (KK hp2 S1 (r_X7_log x1 x2 T).2 h2 (rk_log hI hR D))
set_option maxRecDepth 4000 in
theorem lc_12 {n : Nat} {f : Nat → Int32} {P : Option Value → qq_H → Prop} {PX : String → qq_H → Prop} {S : sX} {T : sM} {hp : qq_H} (h : LI n f S T hp) (hR : RelL S T) {i x1 x2 x3 : Int32} (e1 : f (i + 1).toNatClampNeg = x1) (e2 : f (i + 2).toNatClampNeg = x2) (e3 : f (i + 3).toNatClampNeg = x3) (hi1 : vp_in (i + 1) n) (hi2 : vp_in (i + 2) n) (hi3 : vp_in (i + 3) n) (bc bs : Nat) (KK : ∀ (hp' : qq_H) (S' : sX) (T' : sM), LI n f S' T' hp' → RelL S' T' → qq_Go mL_law hp' bc bs 1990 [(0, .ref 0), (1, .ref 80), (2, .ref 84), (3, .ref 419), (4, .int i)] [] P PX) : qq_Go mL_law hp (bc + 10) (bs + 33) 725 [(0, .ref 0), (1, .ref 80), (2, .ref 84), (3, .ref 419), (4, .int i)] [] P PX := by
  refine qq_aload_n dL_law_725 rfl 1 rfl ?_
  refine qq_aload_n dL_law_726 rfl 0 rfl ?_
  refine qq_iload dL_law_727 4 rfl ?_
  refine qq_iconst (v := 1) dL_law_729 (by decide) ?_
  refine qq_iadd dL_law_730 ?_
  refine qq_iald dL_law_731 h.2.2.2.2.2 hi1 ?_
  rw [e1]
  refine qq_aload_n dL_law_732 rfl 3 rfl ?_
  refine qq_less (bc' := bc + 9 + 1) (bs' := bs + 27 + 6) (by omega) (by omega) ?_
  obtain ⟨y0, sv0, ho0⟩ := h.2.2.1
  refine qq_callSX (bc := bc + 9) (bs := bs + 27) (mc := 1) (ms := 6) (as := [.ref 80, .int x1, .ref 419]) (rest := []) dL_law_733 (mt_L_all hp S h.1 419 y0 sv0 ho0 (by decide) x1) rfl kl_L_214 ks_L_all ki_L kc_L_all kd_L_all rfl (by decide) (by decide) (Nat.le_of_ble_eq_true rfl) (fun v hp1 hv _ _ => ?_) (fun E hp1 zx _ _ => zx.elim)
  obtain ⟨k0, n0, S1, rfl, c1, c2, c3, D⟩ := hv
  have h1 := LI_c h c1 c2 c3
  show qq_Go mL_law hp1 (bc + 9) (bs + 27) 736 [(0, .ref 0), (1, .ref 80), (2, .ref 84), (3, .ref 419), (4, .int i)] [.int k0] P PX
  refine qq_istore (loc' := [(0, .ref 0), (1, .ref 80), (2, .ref 84), (3, .ref 419), (4, .int i), (5, .int k0)]) dL_law_736 [1, 2, 3, 4, 5, 0] (Nat.le_of_ble_eq_true rfl) rfl ?_
  refine qq_aload_n dL_law_738 rfl 2 rfl ?_
  refine qq_aload_n dL_law_739 rfl 0 rfl ?_
  refine qq_iload dL_law_740 4 rfl ?_
  refine qq_iconst (v := 1) dL_law_742 (by decide) ?_
  refine qq_iadd dL_law_743 ?_
  refine qq_iald dL_law_744 h1.2.2.2.2.2 hi1 ?_
  rw [e1]
  refine qq_less (bc' := bc + 0 + 9) (bs' := bs + 0 + 27) (by omega) (by omega) ?_
  have hI := h1.2.2.2.2.1
  obtain ⟨A, hA⟩ := h1.2.1
  refine qq_callV (bc := bc + 0) (bs := bs + 0) (mc := 9) (ms := 27) (o := 84) (ci := 4) (N := 11) (T := TX7) (as := [.int x1]) (rest := []) dL_law_745 hA.2.2.1 (by decide) rfl (mt_X7_all hp1 A T hA x1) rfl kl_L_216 kn_X7_all ke_X7_all ki_X7 kc_X7_all kd_X7_all rfl (by decide) (by decide) (Nat.le_of_ble_eq_true rfl) (fun v hp2 hv _ _ => ?_) (fun E hp2 zx _ _ => zx.elim)
  obtain ⟨rfl, hA2, f2⟩ := hv
  have h2 := LI_m h1 hA hA2 f2 (im_all _ hI)
  show qq_Go mL_law hp2 (bc + 0) (bs + 0) 748 [(0, .ref 0), (1, .ref 80), (2, .ref 84), (3, .ref 419), (4, .int i), (5, .int k0)] [.int ((r_X7_all x1 T).1)] P PX
  refine qq_istore (loc' := [(0, .ref 0), (1, .ref 80), (2, .ref 84), (3, .ref 419), (4, .int i), (5, .int k0), (6, .int ((r_X7_all x1 T).1))]) dL_law_748 [1, 2, 3, 4, 5, 6, 0] (Nat.le_of_ble_eq_true rfl) rfl ?_
  refine qq_goto (tgt := 1990) dL_law_750 (by decide) ?_
  refine qq_loc [0, 1, 2, 3, 4] rfl ?_
  exact qq_less (bc' := bc) (bs' := bs) (by omega) (by omega) (KK hp2 S1 (r_X7_all x1 T).2 h2 (rk_all hI hR D))
set_option maxRecDepth 4000 in
theorem lc_13 {n : Nat} {f : Nat → Int32} {P : Option Value → qq_H → Prop} {PX : String → qq_H → Prop} {S : sX} {T : sM} {hp : qq_H} (h : LI n f S T hp) (hR : RelL S T) {i x1 x2 x3 : Int32} (e1 : f (i + 1).toNatClampNeg = x1) (e2 : f (i + 2).toNatClampNeg = x2) (e3 : f (i + 3).toNatClampNeg = x3) (hi1 : vp_in (i + 1) n) (hi2 : vp_in (i + 2) n) (hi3 : vp_in (i + 3) n) (bc bs : Nat) (KK : ∀ (hp' : qq_H) (S' : sX) (T' : sM), LI n f S' T' hp' → RelL S' T' → qq_Go mL_law hp' bc bs 1990 [(0, .ref 0), (1, .ref 80), (2, .ref 84), (3, .ref 419), (4, .int i)] [] P PX) : qq_Go mL_law hp (bc + 9) (bs + 84) 753 [(0, .ref 0), (1, .ref 80), (2, .ref 84), (3, .ref 419), (4, .int i)] [] P PX := by
  refine qq_aload_n dL_law_753 rfl 1 rfl ?_
  refine qq_aload_n dL_law_754 rfl 0 rfl ?_
  refine qq_iload dL_law_755 4 rfl ?_
  refine qq_iconst (v := 1) dL_law_757 (by decide) ?_
  refine qq_iadd dL_law_758 ?_
  refine qq_iald dL_law_759 h.2.2.2.2.2 hi1 ?_
  rw [e1]
  refine qq_aload_n dL_law_760 rfl 0 rfl ?_
  refine qq_iload dL_law_761 4 rfl ?_
  refine qq_iconst (v := 2) dL_law_763 (by decide) ?_
  refine qq_iadd dL_law_764 ?_
  refine qq_iald dL_law_765 h.2.2.2.2.2 hi2 ?_
  rw [e2]
  refine qq_aload_n dL_law_766 rfl 0 rfl ?_
  refine qq_iload dL_law_767 4 rfl ?_
  refine qq_iconst (v := 3) dL_law_769 (by decide) ?_
  refine qq_iadd dL_law_770 ?_
  refine qq_iald dL_law_771 h.2.2.2.2.2 hi3 ?_
  rw [e3]
  refine qq_aload_n dL_law_772 rfl 3 rfl ?_
  refine qq_less (bc' := bc + 6 + 3) (bs' := bs + 66 + 18) (by omega) (by omega) ?_
  obtain ⟨y0, sv0, ho0⟩ := h.2.2.1
  refine qq_callSX (bc := bc + 6) (bs := bs + 66) (mc := 3) (ms := 18) (as := [.ref 80, .int x1, .int x2, .int x3, .ref 419]) (rest := []) dL_law_773 (mt_L_greater hp S h.1 419 y0 sv0 ho0 (by decide) x1 x2 x3) rfl kl_L_217 ks_L_greater ki_L kc_L_greater kd_L_greater rfl (by decide) (by decide) (Nat.le_of_ble_eq_true rfl) (fun v hp1 hv _ _ => ?_) (fun E hp1 zx _ _ => zx.elim)
  obtain ⟨k0, n0, S1, rfl, c1, c2, c3, D⟩ := hv
  have h1 := LI_c h c1 c2 c3
  show qq_Go mL_law hp1 (bc + 6) (bs + 66) 776 [(0, .ref 0), (1, .ref 80), (2, .ref 84), (3, .ref 419), (4, .int i)] [.int k0] P PX
  refine qq_istore (loc' := [(0, .ref 0), (1, .ref 80), (2, .ref 84), (3, .ref 419), (4, .int i), (5, .int k0)]) dL_law_776 [1, 2, 3, 4, 5, 0] (Nat.le_of_ble_eq_true rfl) rfl ?_
  refine qq_aload_n dL_law_778 rfl 2 rfl ?_
  refine qq_aload_n dL_law_779 rfl 0 rfl ?_
  refine qq_iload dL_law_780 4 rfl ?_
  refine qq_iconst (v := 1) dL_law_782 (by decide) ?_
  refine qq_iadd dL_law_783 ?_
  refine qq_iald dL_law_784 h1.2.2.2.2.2 hi1 ?_
  rw [e1]
  refine qq_aload_n dL_law_785 rfl 0 rfl ?_
  refine qq_iload dL_law_786 4 rfl ?_
  refine qq_iconst (v := 2) dL_law_788 (by decide) ?_
  refine qq_iadd dL_law_789 ?_
  refine qq_iald dL_law_790 h1.2.2.2.2.2 hi2 ?_
  rw [e2]
  refine qq_aload_n dL_law_791 rfl 0 rfl ?_
  refine qq_iload dL_law_792 4 rfl ?_
  refine qq_iconst (v := 3) dL_law_794 (by decide) ?_
  refine qq_iadd dL_law_795 ?_
  refine qq_iald dL_law_796 h1.2.2.2.2.2 hi3 ?_
  rw [e3]
  refine qq_less (bc' := bc + 0 + 6) (bs' := bs + 0 + 66) (by omega) (by omega) ?_
  have hI := h1.2.2.2.2.1
  obtain ⟨A, hA⟩ := h1.2.1
  refine qq_callV (bc := bc + 0) (bs := bs + 0) (mc := 6) (ms := 66) (o := 84) (ci := 4) (N := 11) (T := TX7) (as := [.int x1, .int x2, .int x3]) (rest := []) dL_law_797 hA.2.2.1 (by decide) rfl (mt_X7_greater hp1 A T hA x1 x2 x3 hI) rfl kl_L_220 kn_X7_greater ke_X7_greater ki_X7 kc_X7_greater kd_X7_greater rfl (by decide) (by decide) (Nat.le_of_ble_eq_true rfl) (fun v hp2 hv _ _ => ?_) (fun E hp2 zx _ _ => zx.elim)
  obtain ⟨rfl, hA2, f2⟩ := hv
  have h2 := LI_m h1 hA hA2 f2 (im_greater _ _ _ hI)
  show qq_Go mL_law hp2 (bc + 0) (bs + 0) 800 [(0, .ref 0), (1, .ref 80), (2, .ref 84), (3, .ref 419), (4, .int i), (5, .int k0)] [.int ((r_X7_greater x1 x2 x3 T).1)] P PX
  refine qq_istore (loc' := [(0, .ref 0), (1, .ref 80), (2, .ref 84), (3, .ref 419), (4, .int i), (5, .int k0), (6, .int ((r_X7_greater x1 x2 x3 T).1))]) dL_law_800 [1, 2, 3, 4, 5, 6, 0] (Nat.le_of_ble_eq_true rfl) rfl ?_
  refine qq_goto (tgt := 1990) dL_law_802 (by decide) ?_
  refine qq_loc [0, 1, 2, 3, 4] rfl ?_
  exact qq_less (bc' := bc) (bs' := bs) (by omega) (by omega) (KK hp2 S1 (r_X7_greater x1 x2 x3 T).2 h2 (rk_greater hI hR D))
set_option maxRecDepth 4000 in
theorem lc_14 {n : Nat} {f : Nat → Int32} {P : Option Value → qq_H → Prop} {PX : String → qq_H → Prop} {S : sX} {T : sM} {hp : qq_H} (h : LI n f S T hp) (hR : RelL S T) {i x1 x2 x3 : Int32} (e1 : f (i + 1).toNatClampNeg = x1) (e2 : f (i + 2).toNatClampNeg = x2) (e3 : f (i + 3).toNatClampNeg = x3) (hi1 : vp_in (i + 1) n) (hi2 : vp_in (i + 2) n) (hi3 : vp_in (i + 3) n) (bc bs : Nat) (KK : ∀ (hp' : qq_H) (S' : sX) (T' : sM), LI n f S' T' hp' → RelL S' T' → qq_Go mL_law hp' bc bs 1990 [(0, .ref 0), (1, .ref 80), (2, .ref 84), (3, .ref 419), (4, .int i)] [] P PX) : qq_Go mL_law hp (bc + 9) (bs + 84) 805 [(0, .ref 0), (1, .ref 80), (2, .ref 84), (3, .ref 419), (4, .int i)] [] P PX := by
  refine qq_aload_n dL_law_805 rfl 1 rfl ?_
  refine qq_aload_n dL_law_806 rfl 0 rfl ?_
  refine qq_iload dL_law_807 4 rfl ?_
  refine qq_iconst (v := 1) dL_law_809 (by decide) ?_
  refine qq_iadd dL_law_810 ?_
  refine qq_iald dL_law_811 h.2.2.2.2.2 hi1 ?_
  rw [e1]
  refine qq_aload_n dL_law_812 rfl 0 rfl ?_
  refine qq_iload dL_law_813 4 rfl ?_
  refine qq_iconst (v := 2) dL_law_815 (by decide) ?_
  refine qq_iadd dL_law_816 ?_
  refine qq_iald dL_law_817 h.2.2.2.2.2 hi2 ?_
  rw [e2]
  refine qq_aload_n dL_law_818 rfl 0 rfl ?_
  refine qq_iload dL_law_819 4 rfl ?_
  refine qq_iconst (v := 3) dL_law_821 (by decide) ?_
  refine qq_iadd dL_law_822 ?_
  refine qq_iald dL_law_823 h.2.2.2.2.2 hi3 ?_
  rw [e3]
  refine qq_aload_n dL_law_824 rfl 3 rfl ?_
  refine qq_less (bc' := bc + 6 + 3) (bs' := bs + 66 + 18) (by omega) (by omega) ?_
  obtain ⟨y0, sv0, ho0⟩ := h.2.2.1
  refine qq_callSX (bc := bc + 6) (bs := bs + 66) (mc := 3) (ms := 18) (as := [.ref 80, .int x1, .int x2, .int x3, .ref 419]) (rest := []) dL_law_825 (mt_L_lesser hp S h.1 419 y0 sv0 ho0 (by decide) x1 x2 x3) rfl kl_L_221 ks_L_lesser ki_L kc_L_lesser kd_L_lesser rfl (by decide) (by decide) (Nat.le_of_ble_eq_true rfl) (fun v hp1 hv _ _ => ?_) (fun E hp1 zx _ _ => zx.elim)
  obtain ⟨k0, n0, S1, rfl, c1, c2, c3, D⟩ := hv
  have h1 := LI_c h c1 c2 c3
  show qq_Go mL_law hp1 (bc + 6) (bs + 66) 828 [(0, .ref 0), (1, .ref 80), (2, .ref 84), (3, .ref 419), (4, .int i)] [.int k0] P PX
  refine qq_istore (loc' := [(0, .ref 0), (1, .ref 80), (2, .ref 84), (3, .ref 419), (4, .int i), (5, .int k0)]) dL_law_828 [1, 2, 3, 4, 5, 0] (Nat.le_of_ble_eq_true rfl) rfl ?_
  refine qq_aload_n dL_law_830 rfl 2 rfl ?_
  refine qq_aload_n dL_law_831 rfl 0 rfl ?_
  refine qq_iload dL_law_832 4 rfl ?_
  refine qq_iconst (v := 1) dL_law_834 (by decide) ?_
  refine qq_iadd dL_law_835 ?_
  refine qq_iald dL_law_836 h1.2.2.2.2.2 hi1 ?_
  rw [e1]
  refine qq_aload_n dL_law_837 rfl 0 rfl ?_
  refine qq_iload dL_law_838 4 rfl ?_
  refine qq_iconst (v := 2) dL_law_840 (by decide) ?_
  refine qq_iadd dL_law_841 ?_
  refine qq_iald dL_law_842 h1.2.2.2.2.2 hi2 ?_
  rw [e2]
  refine qq_aload_n dL_law_843 rfl 0 rfl ?_
  refine qq_iload dL_law_844 4 rfl ?_
  refine qq_iconst (v := 3) dL_law_846 (by decide) ?_
  refine qq_iadd dL_law_847 ?_
  refine qq_iald dL_law_848 h1.2.2.2.2.2 hi3 ?_
  rw [e3]
  refine qq_less (bc' := bc + 0 + 6) (bs' := bs + 0 + 66) (by omega) (by omega) ?_
  have hI := h1.2.2.2.2.1
  obtain ⟨A, hA⟩ := h1.2.1
  refine qq_callV (bc := bc + 0) (bs := bs + 0) (mc := 6) (ms := 66) (o := 84) (ci := 4) (N := 11) (T := TX7) (as := [.int x1, .int x2, .int x3]) (rest := []) dL_law_849 hA.2.2.1 (by decide) rfl (mt_X7_lesser hp1 A T hA x1 x2 x3 hI) rfl kl_L_223 kn_X7_lesser ke_X7_lesser ki_X7 kc_X7_lesser kd_X7_lesser rfl (by decide) (by decide) (Nat.le_of_ble_eq_true rfl) (fun v hp2 hv _ _ => ?_) (fun E hp2 zx _ _ => zx.elim)
  obtain ⟨rfl, hA2, f2⟩ := hv
  have h2 := LI_m h1 hA hA2 f2 (im_lesser _ _ _ hI)
  show qq_Go mL_law hp2 (bc + 0) (bs + 0) 852 [(0, .ref 0), (1, .ref 80), (2, .ref 84), (3, .ref 419), (4, .int i), (5, .int k0)] [.int ((r_X7_lesser x1 x2 x3 T).1)] P PX
  refine qq_istore (loc' := [(0, .ref 0), (1, .ref 80), (2, .ref 84), (3, .ref 419), (4, .int i), (5, .int k0), (6, .int ((r_X7_lesser x1 x2 x3 T).1))]) dL_law_852 [1, 2, 3, 4, 5, 6, 0] (Nat.le_of_ble_eq_true rfl) rfl ?_
  refine qq_goto (tgt := 1990) dL_law_854 (by decide) ?_
  refine qq_loc [0, 1, 2, 3, 4] rfl ?_
  exact qq_less (bc' := bc) (bs' := bs) (by omega) (by omega) (KK hp2 S1 (r_X7_lesser x1 x2 x3 T).2 h2 (rk_lesser hI hR D))
set_option maxRecDepth 4000 in
theorem lc_15 {n : Nat} {f : Nat → Int32} {P : Option Value → qq_H → Prop} {PX : String → qq_H → Prop} {S : sX} {T : sM} {hp : qq_H} (h : LI n f S T hp) (hR : RelL S T) {i x1 x2 x3 : Int32} (e1 : f (i + 1).toNatClampNeg = x1) (e2 : f (i + 2).toNatClampNeg = x2) (e3 : f (i + 3).toNatClampNeg = x3) (hi1 : vp_in (i + 1) n) (hi2 : vp_in (i + 2) n) (hi3 : vp_in (i + 3) n) (bc bs : Nat) (KK : ∀ (hp' : qq_H) (S' : sX) (T' : sM), LI n f S' T' hp' → RelL S' T' → qq_Go mL_law hp' bc bs 1990 [(0, .ref 0), (1, .ref 80), (2, .ref 84), (3, .ref 419), (4, .int i)] [] P PX) : qq_Go mL_law hp (bc + 55) (bs + 600) 857 [(0, .ref 0), (1, .ref 80), (2, .ref 84), (3, .ref 419), (4, .int i)] [] P PX := by
  refine qq_aload_n dL_law_857 rfl 1 rfl ?_
  refine qq_aload_n dL_law_858 rfl 0 rfl ?_
  refine qq_iload dL_law_859 4 rfl ?_
  refine qq_iconst (v := 1) dL_law_861 (by decide) ?_
  refine qq_iadd dL_law_862 ?_
  refine qq_iald dL_law_863 h.2.2.2.2.2 hi1 ?_
  rw [e1]
  suffices KB : qq_Go mL_law hp (bc + 55) (bs + 600) 872 [(0, .ref 0), (1, .ref 80), (2, .ref 84), (3, .ref 419), (4, .int i)] [.int (bz x1), .ref 80] P PX from by
    refine qq_if_eq (tgt := 871) dL_law_864 (by decide) (fun zc => ?_) (fun zc => ?_)
    · refine qq_iconst (v := 0) dL_law_871 (by decide) ?_
      rw [bz, if_pos zc] at KB
      exact KB
    · refine qq_iconst (v := 1) dL_law_867 (by decide) ?_
      refine qq_goto (tgt := 872) dL_law_868 (by decide) ?_
      rw [bz, if_neg zc] at KB
      exact KB
  refine qq_aload_n dL_law_872 rfl 0 rfl ?_
  refine qq_iload dL_law_873 4 rfl ?_
  refine qq_iconst (v := 2) dL_law_875 (by decide) ?_
  refine qq_iadd dL_law_876 ?_
  refine qq_iald dL_law_877 h.2.2.2.2.2 hi2 ?_
  rw [e2]
  refine qq_aload_n dL_law_878 rfl 3 rfl ?_
  refine qq_less (bc' := bc + 54 + 1) (bs' := bs + 594 + 6) (by omega) (by omega) ?_
  obtain ⟨y0, sv0, ho0⟩ := h.2.2.1
  refine qq_callSX (bc := bc + 54) (bs := bs + 594) (mc := 1) (ms := 6) (as := [.ref 80, .int (bz x1), .int x2, .ref 419]) (rest := []) dL_law_879 (mt_L_end hp S h.1 419 y0 sv0 ho0 (by decide) (bz x1) x2) rfl kl_L_224 ks_L_end ki_L kc_L_end kd_L_end rfl (by decide) (by decide) (Nat.le_of_ble_eq_true rfl) (fun v hp1 hv _ _ => ?_) (fun E hp1 zx _ _ => zx.elim)
  obtain ⟨k0, n0, S1, rfl, c1, c2, c3, D⟩ := hv
  have h1 := LI_c h c1 c2 c3
  show qq_Go mL_law hp1 (bc + 54) (bs + 594) 882 [(0, .ref 0), (1, .ref 80), (2, .ref 84), (3, .ref 419), (4, .int i)] [.int k0] P PX
  refine qq_istore (loc' := [(0, .ref 0), (1, .ref 80), (2, .ref 84), (3, .ref 419), (4, .int i), (5, .int k0)]) dL_law_882 [1, 2, 3, 4, 5, 0] (Nat.le_of_ble_eq_true rfl) rfl ?_
  refine qq_aload_n dL_law_884 rfl 2 rfl ?_
  refine qq_aload_n dL_law_885 rfl 0 rfl ?_
  refine qq_iload dL_law_886 4 rfl ?_
  refine qq_iconst (v := 1) dL_law_888 (by decide) ?_
  refine qq_iadd dL_law_889 ?_
  refine qq_iald dL_law_890 h1.2.2.2.2.2 hi1 ?_
  rw [e1]
  suffices KB : qq_Go mL_law hp1 (bc + 54) (bs + 594) 899 [(0, .ref 0), (1, .ref 80), (2, .ref 84), (3, .ref 419), (4, .int i), (5, .int k0)] [.int (bz x1), .ref 84] P PX from by
    refine qq_if_eq (tgt := 898) dL_law_891 (by decide) (fun zc => ?_) (fun zc => ?_)
    · refine qq_iconst (v := 0) dL_law_898 (by decide) ?_
      rw [bz, if_pos zc] at KB
      exact KB
    · refine qq_iconst (v := 1) dL_law_894 (by decide) ?_
      refine qq_goto (tgt := 899) dL_law_895 (by decide) ?_
      rw [bz, if_neg zc] at KB
      exact KB
  refine qq_aload_n dL_law_899 rfl 0 rfl ?_
  refine qq_iload dL_law_900 4 rfl ?_
  refine qq_iconst (v := 2) dL_law_902 (by decide) ?_
  refine qq_iadd dL_law_903 ?_
  refine qq_iald dL_law_904 h1.2.2.2.2.2 hi2 ?_
  rw [e2]
  refine qq_less (bc' := bc + 0 + 54) (bs' := bs + 0 + 594) (by omega) (by omega) ?_
  have hI := h1.2.2.2.2.1
  obtain ⟨A, hA⟩ := h1.2.1
  refine qq_callV (bc := bc + 0) (bs := bs + 0) (mc := 54) (ms := 594) (o := 84) (ci := 4) (N := 11) (T := TX7) (as := [.int (bz x1), .int x2]) (rest := []) dL_law_905 hA.2.2.1 (by decide) rfl (mt_X7_end hp1 A T hA (bz x1) x2 hI) rfl kl_L_227 kn_X7_end ke_X7_end ki_X7 kc_X7_end kd_X7_end rfl (by decide) (by decide) (Nat.le_of_ble_eq_true rfl) (fun v hp2 hv _ _ => ?_) (fun E hp2 zx _ _ => zx.elim)
  obtain ⟨rfl, hA2, f2⟩ := hv
  have h2 := LI_m h1 hA hA2 f2 (im_end _ _ hI)
  show qq_Go mL_law hp2 (bc + 0) (bs + 0) 908 [(0, .ref 0), (1, .ref 80), (2, .ref 84), (3, .ref 419), (4, .int i), (5, .int k0)] [.int ((r_X7_end (bz x1) x2 T).1)] P PX
  refine qq_istore (loc' := [(0, .ref 0), (1, .ref 80), (2, .ref 84), (3, .ref 419), (4, .int i), (5, .int k0), (6, .int ((r_X7_end (bz x1) x2 T).1))]) dL_law_908 [1, 2, 3, 4, 5, 6, 0] (Nat.le_of_ble_eq_true rfl) rfl ?_
  refine qq_goto (tgt := 1990) dL_law_910 (by decide) ?_
  refine qq_loc [0, 1, 2, 3, 4] rfl ?_
  exact qq_less (bc' := bc) (bs' := bs) (by omega) (by omega) (KK hp2 S1 (r_X7_end (bz x1) x2 T).2 h2 (rk_end hI hR D))
set_option maxRecDepth 4000 in
theorem lc_16 {n : Nat} {f : Nat → Int32} {P : Option Value → qq_H → Prop} {PX : String → qq_H → Prop} {S : sX} {T : sM} {hp : qq_H} (h : LI n f S T hp) (hR : RelL S T) {i x1 x2 x3 : Int32} (e1 : f (i + 1).toNatClampNeg = x1) (e2 : f (i + 2).toNatClampNeg = x2) (e3 : f (i + 3).toNatClampNeg = x3) (hi1 : vp_in (i + 1) n) (hi2 : vp_in (i + 2) n) (hi3 : vp_in (i + 3) n) (bc bs : Nat) (KK : ∀ (hp' : qq_H) (S' : sX) (T' : sM), LI n f S' T' hp' → RelL S' T' → qq_Go mL_law hp' bc bs 1990 [(0, .ref 0), (1, .ref 80), (2, .ref 84), (3, .ref 419), (4, .int i)] [] P PX) : qq_Go mL_law hp (bc + 600) (bs + 6600) 913 [(0, .ref 0), (1, .ref 80), (2, .ref 84), (3, .ref 419), (4, .int i)] [] P PX := by
  refine qq_aload_n dL_law_913 rfl 1 rfl ?_
  refine qq_less (bc' := bc + 600 + 0) (bs' := bs + 6600 + 0) (by omega) (by omega) ?_
  refine qq_callV (bc := bc + 600) (bs := bs + 6600) (mc := 0) (ms := 0) (o := 80) (ci := 2) (N := 6) (T := TX5) (as := []) (rest := []) dL_law_914 h.1.2.2.1 (by decide) rfl (mt_X5_sort hp S h.1) rfl kl_L_228 kn_X5_sort ke_X5_sort ki_X5 kc_X5_sort kd_X5_sort rfl (by decide) (by decide) (Nat.le_of_ble_eq_true rfl) (fun v hp1 hv _ _ => ?_) (fun E hp1 zx _ _ => zx.elim)
  obtain ⟨rfl, c1, c2⟩ := hv
  have h1 := LI_x h c1 c2
  show qq_Go mL_law hp1 (bc + 600) (bs + 6600) 917 [(0, .ref 0), (1, .ref 80), (2, .ref 84), (3, .ref 419), (4, .int i)] [.int ((r_X5_sort S).1)] P PX
  refine qq_pop dL_law_917 rfl ?_
  refine qq_aload_n dL_law_918 rfl 2 rfl ?_
  refine qq_less (bc' := bc + 0 + 600) (bs' := bs + 0 + 6600) (by omega) (by omega) ?_
  have hI := h1.2.2.2.2.1
  obtain ⟨A, hA⟩ := h1.2.1
  refine qq_callV (bc := bc + 0) (bs := bs + 0) (mc := 600) (ms := 6600) (o := 84) (ci := 4) (N := 11) (T := TX7) (as := []) (rest := []) dL_law_919 hA.2.2.1 (by decide) rfl (mt_X7_sort hp1 A T hA  hI) rfl kl_L_231 kn_X7_sort ke_X7_sort ki_X7 kc_X7_sort kd_X7_sort rfl (by decide) (by decide) (Nat.le_of_ble_eq_true rfl) (fun v hp2 hv _ _ => ?_) (fun E hp2 zx _ _ => zx.elim)
  obtain ⟨rfl, A9, hA2, f2⟩ := hv
  have h2 := LI_m h1 hA hA2 f2 (im_sort hI)
  show qq_Go mL_law hp2 (bc + 0) (bs + 0) 922 [(0, .ref 0), (1, .ref 80), (2, .ref 84), (3, .ref 419), (4, .int i)] [.int ((r_X7_sort T).1)] P PX
  refine qq_pop dL_law_922 rfl ?_
  refine qq_goto (tgt := 1990) dL_law_923 (by decide) ?_
  exact qq_less (bc' := bc) (bs' := bs) (by omega) (by omega) (KK hp2 (r_X5_sort S).2 (r_X7_sort T).2 h2 (rk_sort hI hR))
set_option maxRecDepth 4000 in
theorem lc_17 {n : Nat} {f : Nat → Int32} {P : Option Value → qq_H → Prop} {PX : String → qq_H → Prop} {S : sX} {T : sM} {hp : qq_H} (h : LI n f S T hp) (hR : RelL S T) {i x1 x2 x3 : Int32} (e1 : f (i + 1).toNatClampNeg = x1) (e2 : f (i + 2).toNatClampNeg = x2) (e3 : f (i + 3).toNatClampNeg = x3) (hi1 : vp_in (i + 1) n) (hi2 : vp_in (i + 2) n) (hi3 : vp_in (i + 3) n) (bc bs : Nat) (KK : ∀ (hp' : qq_H) (S' : sX) (T' : sM), LI n f S' T' hp' → RelL S' T' → qq_Go mL_law hp' bc bs 1990 [(0, .ref 0), (1, .ref 80), (2, .ref 84), (3, .ref 419), (4, .int i)] [] P PX) : qq_Go mL_law hp (bc + 1) (bs + 6) 926 [(0, .ref 0), (1, .ref 80), (2, .ref 84), (3, .ref 419), (4, .int i)] [] P PX := by
  refine qq_aload_n dL_law_926 rfl 1 rfl ?_
  refine qq_aload_n dL_law_927 rfl 0 rfl ?_
  refine qq_iload dL_law_928 4 rfl ?_
  refine qq_iconst (v := 1) dL_law_930 (by decide) ?_
  refine qq_iadd dL_law_931 ?_
  refine qq_iald dL_law_932 h.2.2.2.2.2 hi1 ?_
  rw [e1]
  refine qq_aload_n dL_law_933 rfl 3 rfl ?_
  refine qq_less (bc' := bc + 0 + 1) (bs' := bs + 0 + 6) (by omega) (by omega) ?_
  obtain ⟨y0, sv0, ho0⟩ := h.2.2.1
  refine qq_callSX (bc := bc + 0) (bs := bs + 0) (mc := 1) (ms := 6) (as := [.ref 80, .int x1, .ref 419]) (rest := []) dL_law_934 (mt_L_kind hp S h.1 419 y0 sv0 ho0 (by decide) x1) rfl kl_L_232 ks_L_kind ki_L kc_L_kind kd_L_kind rfl (by decide) (by decide) (Nat.le_of_ble_eq_true rfl) (fun v hp1 hv _ _ => ?_) (fun E hp1 zx _ _ => zx.elim)
  obtain ⟨k0, n0, S1, rfl, c1, c2, c3, D⟩ := hv
  have h1 := LI_c h c1 c2 c3
  show qq_Go mL_law hp1 (bc + 0) (bs + 0) 937 [(0, .ref 0), (1, .ref 80), (2, .ref 84), (3, .ref 419), (4, .int i)] [.int k0] P PX
  refine qq_istore (loc' := [(0, .ref 0), (1, .ref 80), (2, .ref 84), (3, .ref 419), (4, .int i), (5, .int k0)]) dL_law_937 [1, 2, 3, 4, 5, 0] (Nat.le_of_ble_eq_true rfl) rfl ?_
  refine qq_aload_n dL_law_939 rfl 2 rfl ?_
  refine qq_aload_n dL_law_940 rfl 0 rfl ?_
  refine qq_iload dL_law_941 4 rfl ?_
  refine qq_iconst (v := 1) dL_law_943 (by decide) ?_
  refine qq_iadd dL_law_944 ?_
  refine qq_iald dL_law_945 h1.2.2.2.2.2 hi1 ?_
  rw [e1]
  refine qq_less (bc' := bc + 0 + 0) (bs' := bs + 0 + 0) (by omega) (by omega) ?_
  have hI := h1.2.2.2.2.1
  obtain ⟨A, hA⟩ := h1.2.1
  refine qq_callV (bc := bc + 0) (bs := bs + 0) (mc := 0) (ms := 0) (o := 84) (ci := 4) (N := 11) (T := TX7) (as := [.int x1]) (rest := []) dL_law_946 hA.2.2.1 (by decide) rfl (mt_X7_kind hp1 A T hA x1) rfl kl_L_234 kn_X7_kind ke_X7_kind ki_X7 kc_X7_kind kd_X7_kind rfl (by decide) (by decide) (Nat.le_of_ble_eq_true rfl) (fun v hp2 hv _ _ => ?_) (fun E hp2 zx _ _ => zx.elim)
  obtain ⟨rfl, hA2, f2⟩ := hv
  have h2 := LI_m h1 hA hA2 f2 (im_o hI (tu_kind _ _))
  show qq_Go mL_law hp2 (bc + 0) (bs + 0) 949 [(0, .ref 0), (1, .ref 80), (2, .ref 84), (3, .ref 419), (4, .int i), (5, .int k0)] [.int ((r_X7_kind x1 T).1)] P PX
  refine qq_istore (loc' := [(0, .ref 0), (1, .ref 80), (2, .ref 84), (3, .ref 419), (4, .int i), (5, .int k0), (6, .int ((r_X7_kind x1 T).1))]) dL_law_949 [1, 2, 3, 4, 5, 6, 0] (Nat.le_of_ble_eq_true rfl) rfl ?_
  refine qq_goto (tgt := 1990) dL_law_951 (by decide) ?_
  refine qq_loc [0, 1, 2, 3, 4] rfl ?_
  exact qq_less (bc' := bc) (bs' := bs) (by omega) (by omega) (KK hp2 S1 (r_X7_kind x1 T).2 h2 (rk_kind hI hR D))
set_option maxRecDepth 4000 in
theorem lc_18 {n : Nat} {f : Nat → Int32} {P : Option Value → qq_H → Prop} {PX : String → qq_H → Prop} {S : sX} {T : sM} {hp : qq_H} (h : LI n f S T hp) (hR : RelL S T) {i x1 x2 x3 : Int32} (e1 : f (i + 1).toNatClampNeg = x1) (e2 : f (i + 2).toNatClampNeg = x2) (e3 : f (i + 3).toNatClampNeg = x3) (hi1 : vp_in (i + 1) n) (hi2 : vp_in (i + 2) n) (hi3 : vp_in (i + 3) n) (bc bs : Nat) (KK : ∀ (hp' : qq_H) (S' : sX) (T' : sM), LI n f S' T' hp' → RelL S' T' → qq_Go mL_law hp' bc bs 1990 [(0, .ref 0), (1, .ref 80), (2, .ref 84), (3, .ref 419), (4, .int i)] [] P PX) : qq_Go mL_law hp (bc + 1) (bs + 6) 954 [(0, .ref 0), (1, .ref 80), (2, .ref 84), (3, .ref 419), (4, .int i)] [] P PX := by
  refine qq_aload_n dL_law_954 rfl 1 rfl ?_
  refine qq_aload_n dL_law_955 rfl 0 rfl ?_
  refine qq_iload dL_law_956 4 rfl ?_
  refine qq_iconst (v := 1) dL_law_958 (by decide) ?_
  refine qq_iadd dL_law_959 ?_
  refine qq_iald dL_law_960 h.2.2.2.2.2 hi1 ?_
  rw [e1]
  refine qq_aload_n dL_law_961 rfl 3 rfl ?_
  refine qq_less (bc' := bc + 0 + 1) (bs' := bs + 0 + 6) (by omega) (by omega) ?_
  obtain ⟨y0, sv0, ho0⟩ := h.2.2.1
  refine qq_callSX (bc := bc + 0) (bs := bs + 0) (mc := 1) (ms := 6) (as := [.ref 80, .int x1, .ref 419]) (rest := []) dL_law_962 (mt_L_of hp S h.1 419 y0 sv0 ho0 (by decide) x1) rfl kl_L_235 ks_L_of ki_L kc_L_of kd_L_of rfl (by decide) (by decide) (Nat.le_of_ble_eq_true rfl) (fun v hp1 hv _ _ => ?_) (fun E hp1 zx _ _ => zx.elim)
  obtain ⟨k0, n0, S1, rfl, c1, c2, c3, D⟩ := hv
  have h1 := LI_c h c1 c2 c3
  show qq_Go mL_law hp1 (bc + 0) (bs + 0) 965 [(0, .ref 0), (1, .ref 80), (2, .ref 84), (3, .ref 419), (4, .int i)] [.int k0] P PX
  refine qq_istore (loc' := [(0, .ref 0), (1, .ref 80), (2, .ref 84), (3, .ref 419), (4, .int i), (5, .int k0)]) dL_law_965 [1, 2, 3, 4, 5, 0] (Nat.le_of_ble_eq_true rfl) rfl ?_
  refine qq_aload_n dL_law_967 rfl 2 rfl ?_
  refine qq_aload_n dL_law_968 rfl 0 rfl ?_
  refine qq_iload dL_law_969 4 rfl ?_
  refine qq_iconst (v := 1) dL_law_971 (by decide) ?_
  refine qq_iadd dL_law_972 ?_
  refine qq_iald dL_law_973 h1.2.2.2.2.2 hi1 ?_
  rw [e1]
  refine qq_less (bc' := bc + 0 + 0) (bs' := bs + 0 + 0) (by omega) (by omega) ?_
  have hI := h1.2.2.2.2.1
  obtain ⟨A, hA⟩ := h1.2.1
  refine qq_callV (bc := bc + 0) (bs := bs + 0) (mc := 0) (ms := 0) (o := 84) (ci := 4) (N := 11) (T := TX7) (as := [.int x1]) (rest := []) dL_law_974 hA.2.2.1 (by decide) rfl (mt_X7_of hp1 A T hA x1) rfl kl_L_237 kn_X7_of ke_X7_of ki_X7 kc_X7_of kd_X7_of rfl (by decide) (by decide) (Nat.le_of_ble_eq_true rfl) (fun v hp2 hv _ _ => ?_) (fun E hp2 zx _ _ => zx.elim)
  obtain ⟨rfl, hA2, f2⟩ := hv
  have h2 := LI_m h1 hA hA2 f2 (im_o hI (tu_of _ _))
  show qq_Go mL_law hp2 (bc + 0) (bs + 0) 977 [(0, .ref 0), (1, .ref 80), (2, .ref 84), (3, .ref 419), (4, .int i), (5, .int k0)] [.int ((r_X7_of x1 T).1)] P PX
  refine qq_istore (loc' := [(0, .ref 0), (1, .ref 80), (2, .ref 84), (3, .ref 419), (4, .int i), (5, .int k0), (6, .int ((r_X7_of x1 T).1))]) dL_law_977 [1, 2, 3, 4, 5, 6, 0] (Nat.le_of_ble_eq_true rfl) rfl ?_
  refine qq_goto (tgt := 1990) dL_law_979 (by decide) ?_
  refine qq_loc [0, 1, 2, 3, 4] rfl ?_
  exact qq_less (bc' := bc) (bs' := bs) (by omega) (by omega) (KK hp2 S1 (r_X7_of x1 T).2 h2 (rk_of hI hR D))
set_option maxRecDepth 4000 in
theorem lc_19 {n : Nat} {f : Nat → Int32} {P : Option Value → qq_H → Prop} {PX : String → qq_H → Prop} {S : sX} {T : sM} {hp : qq_H} (h : LI n f S T hp) (hR : RelL S T) {i x1 x2 x3 : Int32} (e1 : f (i + 1).toNatClampNeg = x1) (e2 : f (i + 2).toNatClampNeg = x2) (e3 : f (i + 3).toNatClampNeg = x3) (hi1 : vp_in (i + 1) n) (hi2 : vp_in (i + 2) n) (hi3 : vp_in (i + 3) n) (bc bs : Nat) (KK : ∀ (hp' : qq_H) (S' : sX) (T' : sM), LI n f S' T' hp' → RelL S' T' → qq_Go mL_law hp' bc bs 1990 [(0, .ref 0), (1, .ref 80), (2, .ref 84), (3, .ref 419), (4, .int i)] [] P PX) : qq_Go mL_law hp (bc + 4) (bs + 39) 982 [(0, .ref 0), (1, .ref 80), (2, .ref 84), (3, .ref 419), (4, .int i)] [] P PX := by
  refine qq_aload_n dL_law_982 rfl 1 rfl ?_
  refine qq_aload_n dL_law_983 rfl 0 rfl ?_
  refine qq_iload dL_law_984 4 rfl ?_
  refine qq_iconst (v := 1) dL_law_986 (by decide) ?_
  refine qq_iadd dL_law_987 ?_
  refine qq_iald dL_law_988 h.2.2.2.2.2 hi1 ?_
  rw [e1]
  refine qq_aload_n dL_law_989 rfl 3 rfl ?_
  refine qq_less (bc' := bc + 3 + 1) (bs' := bs + 33 + 6) (by omega) (by omega) ?_
  obtain ⟨y0, sv0, ho0⟩ := h.2.2.1
  refine qq_callSX (bc := bc + 3) (bs := bs + 33) (mc := 1) (ms := 6) (as := [.ref 80, .int x1, .ref 419]) (rest := []) dL_law_990 (mt_L_isBelow hp S h.1 419 y0 sv0 ho0 (by decide) x1) rfl kl_L_238 ks_L_isBelow ki_L kc_L_isBelow kd_L_isBelow rfl (by decide) (by decide) (Nat.le_of_ble_eq_true rfl) (fun v hp1 hv _ _ => ?_) (fun E hp1 zx _ _ => zx.elim)
  obtain ⟨k0, n0, S1, rfl, c1, c2, c3, D⟩ := hv
  have h1 := LI_c h c1 c2 c3
  show qq_Go mL_law hp1 (bc + 3) (bs + 33) 993 [(0, .ref 0), (1, .ref 80), (2, .ref 84), (3, .ref 419), (4, .int i)] [.int k0] P PX
  refine qq_istore (loc' := [(0, .ref 0), (1, .ref 80), (2, .ref 84), (3, .ref 419), (4, .int i), (5, .int k0)]) dL_law_993 [1, 2, 3, 4, 5, 0] (Nat.le_of_ble_eq_true rfl) rfl ?_
  refine qq_aload_n dL_law_995 rfl 2 rfl ?_
  refine qq_aload_n dL_law_996 rfl 0 rfl ?_
  refine qq_iload dL_law_997 4 rfl ?_
  refine qq_iconst (v := 1) dL_law_999 (by decide) ?_
  refine qq_iadd dL_law_1000 ?_
  refine qq_iald dL_law_1001 h1.2.2.2.2.2 hi1 ?_
  rw [e1]
  refine qq_less (bc' := bc + 0 + 3) (bs' := bs + 0 + 33) (by omega) (by omega) ?_
  have hI := h1.2.2.2.2.1
  obtain ⟨A, hA⟩ := h1.2.1
  refine qq_callV (bc := bc + 0) (bs := bs + 0) (mc := 3) (ms := 33) (o := 84) (ci := 4) (N := 11) (T := TX7) (as := [.int x1]) (rest := []) dL_law_1002 hA.2.2.1 (by decide) rfl (mt_X7_isBelow hp1 A T hA x1 hI) rfl kl_L_240 kn_X7_isBelow ke_X7_isBelow ki_X7 kc_X7_isBelow kd_X7_isBelow rfl (by decide) (by decide) (Nat.le_of_ble_eq_true rfl) (fun v hp2 hv _ _ => ?_) (fun E hp2 zx _ _ => zx.elim)
  obtain ⟨rfl, hA2, f2⟩ := hv
  have h2 := LI_m h1 hA hA2 f2 (im_o hI (tu_isBelow _ _))
  show qq_Go mL_law hp2 (bc + 0) (bs + 0) 1005 [(0, .ref 0), (1, .ref 80), (2, .ref 84), (3, .ref 419), (4, .int i), (5, .int k0)] [.int ((r_X7_isBelow x1 T).1)] P PX
  refine qq_istore (loc' := [(0, .ref 0), (1, .ref 80), (2, .ref 84), (3, .ref 419), (4, .int i), (5, .int k0), (6, .int ((r_X7_isBelow x1 T).1))]) dL_law_1005 [1, 2, 3, 4, 5, 6, 0] (Nat.le_of_ble_eq_true rfl) rfl ?_
  refine qq_goto (tgt := 1990) dL_law_1007 (by decide) ?_
  refine qq_loc [0, 1, 2, 3, 4] rfl ?_
  exact qq_less (bc' := bc) (bs' := bs) (by omega) (by omega) (KK hp2 S1 (r_X7_isBelow x1 T).2 h2 (rk_isBelow hI hR D))
set_option maxRecDepth 4000 in
theorem lc_20 {n : Nat} {f : Nat → Int32} {P : Option Value → qq_H → Prop} {PX : String → qq_H → Prop} {S : sX} {T : sM} {hp : qq_H} (h : LI n f S T hp) (hR : RelL S T) {i x1 x2 x3 : Int32} (e1 : f (i + 1).toNatClampNeg = x1) (e2 : f (i + 2).toNatClampNeg = x2) (e3 : f (i + 3).toNatClampNeg = x3) (hi1 : vp_in (i + 1) n) (hi2 : vp_in (i + 2) n) (hi3 : vp_in (i + 3) n) (bc bs : Nat) (KK : ∀ (hp' : qq_H) (S' : sX) (T' : sM), LI n f S' T' hp' → RelL S' T' → qq_Go mL_law hp' bc bs 1990 [(0, .ref 0), (1, .ref 80), (2, .ref 84), (3, .ref 419), (4, .int i)] [] P PX) : qq_Go mL_law hp (bc + 1) (bs + 6) 1010 [(0, .ref 0), (1, .ref 80), (2, .ref 84), (3, .ref 419), (4, .int i)] [] P PX := by
  refine qq_aload_n dL_law_1010 rfl 1 rfl ?_
  refine qq_aload_n dL_law_1011 rfl 0 rfl ?_
  refine qq_iload dL_law_1012 4 rfl ?_
  refine qq_iconst (v := 1) dL_law_1014 (by decide) ?_
  refine qq_iadd dL_law_1015 ?_
  refine qq_iald dL_law_1016 h.2.2.2.2.2 hi1 ?_
  rw [e1]
  refine qq_aload_n dL_law_1017 rfl 3 rfl ?_
  refine qq_less (bc' := bc + 0 + 1) (bs' := bs + 0 + 6) (by omega) (by omega) ?_
  obtain ⟨y0, sv0, ho0⟩ := h.2.2.1
  refine qq_callSX (bc := bc + 0) (bs := bs + 0) (mc := 1) (ms := 6) (as := [.ref 80, .int x1, .ref 419]) (rest := []) dL_law_1018 (mt_L_isZero hp S h.1 419 y0 sv0 ho0 (by decide) x1) rfl kl_L_241 ks_L_isZero ki_L kc_L_isZero kd_L_isZero rfl (by decide) (by decide) (Nat.le_of_ble_eq_true rfl) (fun v hp1 hv _ _ => ?_) (fun E hp1 zx _ _ => zx.elim)
  obtain ⟨k0, n0, S1, rfl, c1, c2, c3, D⟩ := hv
  have h1 := LI_c h c1 c2 c3
  show qq_Go mL_law hp1 (bc + 0) (bs + 0) 1021 [(0, .ref 0), (1, .ref 80), (2, .ref 84), (3, .ref 419), (4, .int i)] [.int k0] P PX
  refine qq_istore (loc' := [(0, .ref 0), (1, .ref 80), (2, .ref 84), (3, .ref 419), (4, .int i), (5, .int k0)]) dL_law_1021 [1, 2, 3, 4, 5, 0] (Nat.le_of_ble_eq_true rfl) rfl ?_
  refine qq_aload_n dL_law_1023 rfl 2 rfl ?_
  refine qq_aload_n dL_law_1024 rfl 0 rfl ?_
  refine qq_iload dL_law_1025 4 rfl ?_
  refine qq_iconst (v := 1) dL_law_1027 (by decide) ?_
  refine qq_iadd dL_law_1028 ?_
  refine qq_iald dL_law_1029 h1.2.2.2.2.2 hi1 ?_
  rw [e1]
  refine qq_less (bc' := bc + 0 + 0) (bs' := bs + 0 + 0) (by omega) (by omega) ?_
  have hI := h1.2.2.2.2.1
  obtain ⟨A, hA⟩ := h1.2.1
  refine qq_callV (bc := bc + 0) (bs := bs + 0) (mc := 0) (ms := 0) (o := 84) (ci := 4) (N := 11) (T := TX7) (as := [.int x1]) (rest := []) dL_law_1030 hA.2.2.1 (by decide) rfl (mt_X7_isZero hp1 A T hA x1) rfl kl_L_243 kn_X7_isZero ke_X7_isZero ki_X7 kc_X7_isZero kd_X7_isZero rfl (by decide) (by decide) (Nat.le_of_ble_eq_true rfl) (fun v hp2 hv _ _ => ?_) (fun E hp2 zx _ _ => zx.elim)
  obtain ⟨rfl, hA2, f2⟩ := hv
  have h2 := LI_m h1 hA hA2 f2 (im_o hI (tu_isZero _ _))
  show qq_Go mL_law hp2 (bc + 0) (bs + 0) 1033 [(0, .ref 0), (1, .ref 80), (2, .ref 84), (3, .ref 419), (4, .int i), (5, .int k0)] [.int ((r_X7_isZero x1 T).1)] P PX
  refine qq_istore (loc' := [(0, .ref 0), (1, .ref 80), (2, .ref 84), (3, .ref 419), (4, .int i), (5, .int k0), (6, .int ((r_X7_isZero x1 T).1))]) dL_law_1033 [1, 2, 3, 4, 5, 6, 0] (Nat.le_of_ble_eq_true rfl) rfl ?_
  refine qq_goto (tgt := 1990) dL_law_1035 (by decide) ?_
  refine qq_loc [0, 1, 2, 3, 4] rfl ?_
  exact qq_less (bc' := bc) (bs' := bs) (by omega) (by omega) (KK hp2 S1 (r_X7_isZero x1 T).2 h2 (rk_isZero hI hR D))
set_option maxRecDepth 4000 in
theorem lc_21 {n : Nat} {f : Nat → Int32} {P : Option Value → qq_H → Prop} {PX : String → qq_H → Prop} {S : sX} {T : sM} {hp : qq_H} (h : LI n f S T hp) (hR : RelL S T) {i x1 x2 x3 : Int32} (e1 : f (i + 1).toNatClampNeg = x1) (e2 : f (i + 2).toNatClampNeg = x2) (e3 : f (i + 3).toNatClampNeg = x3) (hi1 : vp_in (i + 1) n) (hi2 : vp_in (i + 2) n) (hi3 : vp_in (i + 3) n) (bc bs : Nat) (KK : ∀ (hp' : qq_H) (S' : sX) (T' : sM), LI n f S' T' hp' → RelL S' T' → qq_Go mL_law hp' bc bs 1990 [(0, .ref 0), (1, .ref 80), (2, .ref 84), (3, .ref 419), (4, .int i)] [] P PX) : qq_Go mL_law hp (bc + 1) (bs + 6) 1038 [(0, .ref 0), (1, .ref 80), (2, .ref 84), (3, .ref 419), (4, .int i)] [] P PX := by
  refine qq_aload_n dL_law_1038 rfl 1 rfl ?_
  refine qq_aload_n dL_law_1039 rfl 0 rfl ?_
  refine qq_iload dL_law_1040 4 rfl ?_
  refine qq_iconst (v := 1) dL_law_1042 (by decide) ?_
  refine qq_iadd dL_law_1043 ?_
  refine qq_iald dL_law_1044 h.2.2.2.2.2 hi1 ?_
  rw [e1]
  refine qq_aload_n dL_law_1045 rfl 3 rfl ?_
  refine qq_less (bc' := bc + 0 + 1) (bs' := bs + 0 + 6) (by omega) (by omega) ?_
  obtain ⟨y0, sv0, ho0⟩ := h.2.2.1
  refine qq_callSX (bc := bc + 0) (bs := bs + 0) (mc := 1) (ms := 6) (as := [.ref 80, .int x1, .ref 419]) (rest := []) dL_law_1046 (mt_L_isEndless hp S h.1 419 y0 sv0 ho0 (by decide) x1) rfl kl_L_244 ks_L_isEndless ki_L kc_L_isEndless kd_L_isEndless rfl (by decide) (by decide) (Nat.le_of_ble_eq_true rfl) (fun v hp1 hv _ _ => ?_) (fun E hp1 zx _ _ => zx.elim)
  obtain ⟨k0, n0, S1, rfl, c1, c2, c3, D⟩ := hv
  have h1 := LI_c h c1 c2 c3
  show qq_Go mL_law hp1 (bc + 0) (bs + 0) 1049 [(0, .ref 0), (1, .ref 80), (2, .ref 84), (3, .ref 419), (4, .int i)] [.int k0] P PX
  refine qq_istore (loc' := [(0, .ref 0), (1, .ref 80), (2, .ref 84), (3, .ref 419), (4, .int i), (5, .int k0)]) dL_law_1049 [1, 2, 3, 4, 5, 0] (Nat.le_of_ble_eq_true rfl) rfl ?_
  refine qq_aload_n dL_law_1051 rfl 2 rfl ?_
  refine qq_aload_n dL_law_1052 rfl 0 rfl ?_
  refine qq_iload dL_law_1053 4 rfl ?_
  refine qq_iconst (v := 1) dL_law_1055 (by decide) ?_
  refine qq_iadd dL_law_1056 ?_
  refine qq_iald dL_law_1057 h1.2.2.2.2.2 hi1 ?_
  rw [e1]
  refine qq_less (bc' := bc + 0 + 0) (bs' := bs + 0 + 0) (by omega) (by omega) ?_
  have hI := h1.2.2.2.2.1
  obtain ⟨A, hA⟩ := h1.2.1
  refine qq_callV (bc := bc + 0) (bs := bs + 0) (mc := 0) (ms := 0) (o := 84) (ci := 4) (N := 11) (T := TX7) (as := [.int x1]) (rest := []) dL_law_1058 hA.2.2.1 (by decide) rfl (mt_X7_isEndless hp1 A T hA x1) rfl kl_L_246 kn_X7_isEndless ke_X7_isEndless ki_X7 kc_X7_isEndless kd_X7_isEndless rfl (by decide) (by decide) (Nat.le_of_ble_eq_true rfl) (fun v hp2 hv _ _ => ?_) (fun E hp2 zx _ _ => zx.elim)
  obtain ⟨rfl, hA2, f2⟩ := hv
  have h2 := LI_m h1 hA hA2 f2 (im_o hI (tu_isEndless _ _))
  show qq_Go mL_law hp2 (bc + 0) (bs + 0) 1061 [(0, .ref 0), (1, .ref 80), (2, .ref 84), (3, .ref 419), (4, .int i), (5, .int k0)] [.int ((r_X7_isEndless x1 T).1)] P PX
  refine qq_istore (loc' := [(0, .ref 0), (1, .ref 80), (2, .ref 84), (3, .ref 419), (4, .int i), (5, .int k0), (6, .int ((r_X7_isEndless x1 T).1))]) dL_law_1061 [1, 2, 3, 4, 5, 6, 0] (Nat.le_of_ble_eq_true rfl) rfl ?_
  refine qq_goto (tgt := 1990) dL_law_1063 (by decide) ?_
  refine qq_loc [0, 1, 2, 3, 4] rfl ?_
  exact qq_less (bc' := bc) (bs' := bs) (by omega) (by omega) (KK hp2 S1 (r_X7_isEndless x1 T).2 h2 (rk_isEndless hI hR D))
set_option maxRecDepth 4000 in
theorem lc_22 {n : Nat} {f : Nat → Int32} {P : Option Value → qq_H → Prop} {PX : String → qq_H → Prop} {S : sX} {T : sM} {hp : qq_H} (h : LI n f S T hp) (hR : RelL S T) {i x1 x2 x3 : Int32} (e1 : f (i + 1).toNatClampNeg = x1) (e2 : f (i + 2).toNatClampNeg = x2) (e3 : f (i + 3).toNatClampNeg = x3) (hi1 : vp_in (i + 1) n) (hi2 : vp_in (i + 2) n) (hi3 : vp_in (i + 3) n) (bc bs : Nat) (KK : ∀ (hp' : qq_H) (S' : sX) (T' : sM), LI n f S' T' hp' → RelL S' T' → qq_Go mL_law hp' bc bs 1990 [(0, .ref 0), (1, .ref 80), (2, .ref 84), (3, .ref 419), (4, .int i)] [] P PX) : qq_Go mL_law hp (bc + 7) (bs + 57) 1066 [(0, .ref 0), (1, .ref 80), (2, .ref 84), (3, .ref 419), (4, .int i)] [] P PX := by
  refine qq_aload_n dL_law_1066 rfl 1 rfl ?_
  refine qq_aload_n dL_law_1067 rfl 0 rfl ?_
  refine qq_iload dL_law_1068 4 rfl ?_
  refine qq_iconst (v := 1) dL_law_1070 (by decide) ?_
  refine qq_iadd dL_law_1071 ?_
  refine qq_iald dL_law_1072 h.2.2.2.2.2 hi1 ?_
  rw [e1]
  refine qq_aload_n dL_law_1073 rfl 0 rfl ?_
  refine qq_iload dL_law_1074 4 rfl ?_
  refine qq_iconst (v := 2) dL_law_1076 (by decide) ?_
  refine qq_iadd dL_law_1077 ?_
  refine qq_iald dL_law_1078 h.2.2.2.2.2 hi2 ?_
  rw [e2]
  refine qq_aload_n dL_law_1079 rfl 3 rfl ?_
  refine qq_less (bc' := bc + 3 + 4) (bs' := bs + 33 + 24) (by omega) (by omega) ?_
  obtain ⟨y0, sv0, ho0⟩ := h.2.2.1
  refine qq_callSX (bc := bc + 3) (bs := bs + 33) (mc := 4) (ms := 24) (as := [.ref 80, .int x1, .int x2, .ref 419]) (rest := []) dL_law_1080 (mt_L_whole hp S h.1 419 y0 sv0 ho0 (by decide) x1 x2) rfl kl_L_247 ks_L_whole ki_L kc_L_whole kd_L_whole rfl (by decide) (by decide) (Nat.le_of_ble_eq_true rfl) (fun v hp1 hv _ _ => ?_) (fun E hp1 zx _ _ => zx.elim)
  obtain ⟨k0, n0, S1, rfl, c1, c2, c3, D⟩ := hv
  have h1 := LI_c h c1 c2 c3
  show qq_Go mL_law hp1 (bc + 3) (bs + 33) 1083 [(0, .ref 0), (1, .ref 80), (2, .ref 84), (3, .ref 419), (4, .int i)] [.int k0] P PX
  refine qq_istore (loc' := [(0, .ref 0), (1, .ref 80), (2, .ref 84), (3, .ref 419), (4, .int i), (5, .int k0)]) dL_law_1083 [1, 2, 3, 4, 5, 0] (Nat.le_of_ble_eq_true rfl) rfl ?_
  refine qq_aload_n dL_law_1085 rfl 2 rfl ?_
  refine qq_aload_n dL_law_1086 rfl 0 rfl ?_
  refine qq_iload dL_law_1087 4 rfl ?_
  refine qq_iconst (v := 1) dL_law_1089 (by decide) ?_
  refine qq_iadd dL_law_1090 ?_
  refine qq_iald dL_law_1091 h1.2.2.2.2.2 hi1 ?_
  rw [e1]
  refine qq_aload_n dL_law_1092 rfl 0 rfl ?_
  refine qq_iload dL_law_1093 4 rfl ?_
  refine qq_iconst (v := 2) dL_law_1095 (by decide) ?_
  refine qq_iadd dL_law_1096 ?_
  refine qq_iald dL_law_1097 h1.2.2.2.2.2 hi2 ?_
  rw [e2]
  refine qq_less (bc' := bc + 0 + 3) (bs' := bs + 0 + 33) (by omega) (by omega) ?_
  have hI := h1.2.2.2.2.1
  obtain ⟨A, hA⟩ := h1.2.1
  refine qq_callV (bc := bc + 0) (bs := bs + 0) (mc := 3) (ms := 33) (o := 84) (ci := 4) (N := 11) (T := TX7) (as := [.int x1, .int x2]) (rest := []) dL_law_1098 hA.2.2.1 (by decide) rfl (mt_X7_whole hp1 A T hA x1 x2 hI) rfl kl_L_249 kn_X7_whole ke_X7_whole ki_X7 kc_X7_whole kd_X7_whole rfl (by decide) (by decide) (Nat.le_of_ble_eq_true rfl) (fun v hp2 hv _ _ => ?_) (fun E hp2 zx _ _ => zx.elim)
  obtain ⟨rfl, hA2, f2⟩ := hv
  have h2 := LI_m h1 hA hA2 f2 (im_o hI (tu_whole _ _ _))
  show qq_Go mL_law hp2 (bc + 0) (bs + 0) 1101 [(0, .ref 0), (1, .ref 80), (2, .ref 84), (3, .ref 419), (4, .int i), (5, .int k0)] [.int ((r_X7_whole x1 x2 T).1)] P PX
  refine qq_istore (loc' := [(0, .ref 0), (1, .ref 80), (2, .ref 84), (3, .ref 419), (4, .int i), (5, .int k0), (6, .int ((r_X7_whole x1 x2 T).1))]) dL_law_1101 [1, 2, 3, 4, 5, 6, 0] (Nat.le_of_ble_eq_true rfl) rfl ?_
  refine qq_goto (tgt := 1990) dL_law_1103 (by decide) ?_
  refine qq_loc [0, 1, 2, 3, 4] rfl ?_
  exact qq_less (bc' := bc) (bs' := bs) (by omega) (by omega) (KK hp2 S1 (r_X7_whole x1 x2 T).2 h2 (rk_whole hI hR D))
set_option maxRecDepth 4000 in
theorem lc_23 {n : Nat} {f : Nat → Int32} {P : Option Value → qq_H → Prop} {PX : String → qq_H → Prop} {S : sX} {T : sM} {hp : qq_H} (h : LI n f S T hp) (hR : RelL S T) {i x1 x2 x3 : Int32} (e1 : f (i + 1).toNatClampNeg = x1) (e2 : f (i + 2).toNatClampNeg = x2) (e3 : f (i + 3).toNatClampNeg = x3) (hi1 : vp_in (i + 1) n) (hi2 : vp_in (i + 2) n) (hi3 : vp_in (i + 3) n) (bc bs : Nat) (KK : ∀ (hp' : qq_H) (S' : sX) (T' : sM), LI n f S' T' hp' → RelL S' T' → qq_Go mL_law hp' bc bs 1990 [(0, .ref 0), (1, .ref 80), (2, .ref 84), (3, .ref 419), (4, .int i)] [] P PX) : qq_Go mL_law hp (bc + 7) (bs + 67) 1106 [(0, .ref 0), (1, .ref 80), (2, .ref 84), (3, .ref 419), (4, .int i)] [] P PX := by
  refine qq_aload_n dL_law_1106 rfl 1 rfl ?_
  refine qq_aload_n dL_law_1107 rfl 0 rfl ?_
  refine qq_iload dL_law_1108 4 rfl ?_
  refine qq_iconst (v := 1) dL_law_1110 (by decide) ?_
  refine qq_iadd dL_law_1111 ?_
  refine qq_iald dL_law_1112 h.2.2.2.2.2 hi1 ?_
  rw [e1]
  refine qq_aload_n dL_law_1113 rfl 3 rfl ?_
  refine qq_less (bc' := bc + 5 + 2) (bs' := bs + 55 + 12) (by omega) (by omega) ?_
  obtain ⟨y0, sv0, ho0⟩ := h.2.2.1
  refine qq_callSX (bc := bc + 5) (bs := bs + 55) (mc := 2) (ms := 12) (as := [.ref 80, .int x1, .ref 419]) (rest := []) dL_law_1114 (mt_L_height hp S h.1 419 y0 sv0 ho0 (by decide) x1) rfl kl_L_250 ks_L_height ki_L kc_L_height kd_L_height rfl (by decide) (by decide) (Nat.le_of_ble_eq_true rfl) (fun v hp1 hv _ _ => ?_) (fun E hp1 zx _ _ => zx.elim)
  obtain ⟨k0, n0, S1, rfl, c1, c2, c3, D⟩ := hv
  have h1 := LI_c h c1 c2 c3
  show qq_Go mL_law hp1 (bc + 5) (bs + 55) 1117 [(0, .ref 0), (1, .ref 80), (2, .ref 84), (3, .ref 419), (4, .int i)] [.int k0] P PX
  refine qq_istore (loc' := [(0, .ref 0), (1, .ref 80), (2, .ref 84), (3, .ref 419), (4, .int i), (5, .int k0)]) dL_law_1117 [1, 2, 3, 4, 5, 0] (Nat.le_of_ble_eq_true rfl) rfl ?_
  refine qq_aload_n dL_law_1119 rfl 2 rfl ?_
  refine qq_aload_n dL_law_1120 rfl 0 rfl ?_
  refine qq_iload dL_law_1121 4 rfl ?_
  refine qq_iconst (v := 1) dL_law_1123 (by decide) ?_
  refine qq_iadd dL_law_1124 ?_
  refine qq_iald dL_law_1125 h1.2.2.2.2.2 hi1 ?_
  rw [e1]
  refine qq_less (bc' := bc + 0 + 5) (bs' := bs + 0 + 55) (by omega) (by omega) ?_
  have hI := h1.2.2.2.2.1
  obtain ⟨A, hA⟩ := h1.2.1
  refine qq_callV (bc := bc + 0) (bs := bs + 0) (mc := 5) (ms := 55) (o := 84) (ci := 4) (N := 11) (T := TX7) (as := [.int x1]) (rest := []) dL_law_1126 hA.2.2.1 (by decide) rfl (mt_X7_height hp1 A T hA x1 hI (IH_of hI)) rfl kl_L_252 kn_X7_height ke_X7_height ki_X7 kc_X7_height kd_X7_height rfl (by decide) (by decide) (Nat.le_of_ble_eq_true rfl) (fun v hp2 hv _ _ => ?_) (fun E hp2 zx _ _ => zx.elim)
  obtain ⟨rfl, hA2, f2⟩ := hv
  have h2 := LI_m h1 hA hA2 f2 (im_o hI (tu_height _ _))
  show qq_Go mL_law hp2 (bc + 0) (bs + 0) 1129 [(0, .ref 0), (1, .ref 80), (2, .ref 84), (3, .ref 419), (4, .int i), (5, .int k0)] [.int ((r_X7_height x1 T).1)] P PX
  refine qq_istore (loc' := [(0, .ref 0), (1, .ref 80), (2, .ref 84), (3, .ref 419), (4, .int i), (5, .int k0), (6, .int ((r_X7_height x1 T).1))]) dL_law_1129 [1, 2, 3, 4, 5, 6, 0] (Nat.le_of_ble_eq_true rfl) rfl ?_
  refine qq_goto (tgt := 1990) dL_law_1131 (by decide) ?_
  refine qq_loc [0, 1, 2, 3, 4] rfl ?_
  exact qq_less (bc' := bc) (bs' := bs) (by omega) (by omega) (KK hp2 S1 (r_X7_height x1 T).2 h2 (rk_height hI hR D))
set_option maxRecDepth 4000 in
theorem lc_24 {n : Nat} {f : Nat → Int32} {P : Option Value → qq_H → Prop} {PX : String → qq_H → Prop} {S : sX} {T : sM} {hp : qq_H} (h : LI n f S T hp) (hR : RelL S T) {i x1 x2 x3 : Int32} (e1 : f (i + 1).toNatClampNeg = x1) (e2 : f (i + 2).toNatClampNeg = x2) (e3 : f (i + 3).toNatClampNeg = x3) (hi1 : vp_in (i + 1) n) (hi2 : vp_in (i + 2) n) (hi3 : vp_in (i + 3) n) (bc bs : Nat) (KK : ∀ (hp' : qq_H) (S' : sX) (T' : sM), LI n f S' T' hp' → RelL S' T' → qq_Go mL_law hp' bc bs 1990 [(0, .ref 0), (1, .ref 80), (2, .ref 84), (3, .ref 419), (4, .int i)] [] P PX) : qq_Go mL_law hp (bc + 7) (bs + 67) 1134 [(0, .ref 0), (1, .ref 80), (2, .ref 84), (3, .ref 419), (4, .int i)] [] P PX := by
  refine qq_aload_n dL_law_1134 rfl 1 rfl ?_
  refine qq_aload_n dL_law_1135 rfl 0 rfl ?_
  refine qq_iload dL_law_1136 4 rfl ?_
  refine qq_iconst (v := 1) dL_law_1138 (by decide) ?_
  refine qq_iadd dL_law_1139 ?_
  refine qq_iald dL_law_1140 h.2.2.2.2.2 hi1 ?_
  rw [e1]
  refine qq_aload_n dL_law_1141 rfl 3 rfl ?_
  refine qq_less (bc' := bc + 5 + 2) (bs' := bs + 55 + 12) (by omega) (by omega) ?_
  obtain ⟨y0, sv0, ho0⟩ := h.2.2.1
  refine qq_callSX (bc := bc + 5) (bs := bs + 55) (mc := 2) (ms := 12) (as := [.ref 80, .int x1, .ref 419]) (rest := []) dL_law_1142 (mt_L_digits hp S h.1 419 y0 sv0 ho0 (by decide) x1) rfl kl_L_253 ks_L_digits ki_L kc_L_digits kd_L_digits rfl (by decide) (by decide) (Nat.le_of_ble_eq_true rfl) (fun v hp1 hv _ _ => ?_) (fun E hp1 zx _ _ => zx.elim)
  obtain ⟨k0, n0, S1, rfl, c1, c2, c3, D⟩ := hv
  have h1 := LI_c h c1 c2 c3
  show qq_Go mL_law hp1 (bc + 5) (bs + 55) 1145 [(0, .ref 0), (1, .ref 80), (2, .ref 84), (3, .ref 419), (4, .int i)] [.int k0] P PX
  refine qq_istore (loc' := [(0, .ref 0), (1, .ref 80), (2, .ref 84), (3, .ref 419), (4, .int i), (5, .int k0)]) dL_law_1145 [1, 2, 3, 4, 5, 0] (Nat.le_of_ble_eq_true rfl) rfl ?_
  refine qq_aload_n dL_law_1147 rfl 2 rfl ?_
  refine qq_aload_n dL_law_1148 rfl 0 rfl ?_
  refine qq_iload dL_law_1149 4 rfl ?_
  refine qq_iconst (v := 1) dL_law_1151 (by decide) ?_
  refine qq_iadd dL_law_1152 ?_
  refine qq_iald dL_law_1153 h1.2.2.2.2.2 hi1 ?_
  rw [e1]
  refine qq_less (bc' := bc + 0 + 5) (bs' := bs + 0 + 55) (by omega) (by omega) ?_
  have hI := h1.2.2.2.2.1
  obtain ⟨A, hA⟩ := h1.2.1
  refine qq_callV (bc := bc + 0) (bs := bs + 0) (mc := 5) (ms := 55) (o := 84) (ci := 4) (N := 11) (T := TX7) (as := [.int x1]) (rest := []) dL_law_1154 hA.2.2.1 (by decide) rfl (mt_X7_digits hp1 A T hA x1 hI (IH_of hI)) rfl kl_L_255 kn_X7_digits ke_X7_digits ki_X7 kc_X7_digits kd_X7_digits rfl (by decide) (by decide) (Nat.le_of_ble_eq_true rfl) (fun v hp2 hv _ _ => ?_) (fun E hp2 zx _ _ => zx.elim)
  obtain ⟨rfl, hA2, f2⟩ := hv
  have h2 := LI_m h1 hA hA2 f2 (im_o hI (tu_digits _ _))
  show qq_Go mL_law hp2 (bc + 0) (bs + 0) 1157 [(0, .ref 0), (1, .ref 80), (2, .ref 84), (3, .ref 419), (4, .int i), (5, .int k0)] [.int ((r_X7_digits x1 T).1)] P PX
  refine qq_istore (loc' := [(0, .ref 0), (1, .ref 80), (2, .ref 84), (3, .ref 419), (4, .int i), (5, .int k0), (6, .int ((r_X7_digits x1 T).1))]) dL_law_1157 [1, 2, 3, 4, 5, 6, 0] (Nat.le_of_ble_eq_true rfl) rfl ?_
  refine qq_goto (tgt := 1990) dL_law_1159 (by decide) ?_
  refine qq_loc [0, 1, 2, 3, 4] rfl ?_
  exact qq_less (bc' := bc) (bs' := bs) (by omega) (by omega) (KK hp2 S1 (r_X7_digits x1 T).2 h2 (rk_digits hI hR D))
set_option maxRecDepth 4000 in
theorem lc_25 {n : Nat} {f : Nat → Int32} {P : Option Value → qq_H → Prop} {PX : String → qq_H → Prop} {S : sX} {T : sM} {hp : qq_H} (h : LI n f S T hp) (hR : RelL S T) {i x1 x2 x3 : Int32} (e1 : f (i + 1).toNatClampNeg = x1) (e2 : f (i + 2).toNatClampNeg = x2) (e3 : f (i + 3).toNatClampNeg = x3) (hi1 : vp_in (i + 1) n) (hi2 : vp_in (i + 2) n) (hi3 : vp_in (i + 3) n) (bc bs : Nat) (KK : ∀ (hp' : qq_H) (S' : sX) (T' : sM), LI n f S' T' hp' → RelL S' T' → qq_Go mL_law hp' bc bs 1990 [(0, .ref 0), (1, .ref 80), (2, .ref 84), (3, .ref 419), (4, .int i)] [] P PX) : qq_Go mL_law hp (bc + 2) (bs + 12) 1162 [(0, .ref 0), (1, .ref 80), (2, .ref 84), (3, .ref 419), (4, .int i)] [] P PX := by
  refine qq_aload_n dL_law_1162 rfl 1 rfl ?_
  refine qq_aload_n dL_law_1163 rfl 0 rfl ?_
  refine qq_iload dL_law_1164 4 rfl ?_
  refine qq_iconst (v := 1) dL_law_1166 (by decide) ?_
  refine qq_iadd dL_law_1167 ?_
  refine qq_iald dL_law_1168 h.2.2.2.2.2 hi1 ?_
  rw [e1]
  refine qq_aload_n dL_law_1169 rfl 3 rfl ?_
  refine qq_less (bc' := bc + 0 + 2) (bs' := bs + 0 + 12) (by omega) (by omega) ?_
  obtain ⟨y0, sv0, ho0⟩ := h.2.2.1
  refine qq_callSX (bc := bc + 0) (bs := bs + 0) (mc := 2) (ms := 12) (as := [.ref 80, .int x1, .ref 419]) (rest := []) dL_law_1170 (mt_L_upper hp S h.1 419 y0 sv0 ho0 (by decide) x1) rfl kl_L_256 ks_L_upper ki_L kc_L_upper kd_L_upper rfl (by decide) (by decide) (Nat.le_of_ble_eq_true rfl) (fun v hp1 hv _ _ => ?_) (fun E hp1 zx _ _ => zx.elim)
  obtain ⟨k0, n0, S1, rfl, c1, c2, c3, D⟩ := hv
  have h1 := LI_c h c1 c2 c3
  show qq_Go mL_law hp1 (bc + 0) (bs + 0) 1173 [(0, .ref 0), (1, .ref 80), (2, .ref 84), (3, .ref 419), (4, .int i)] [.int k0] P PX
  refine qq_istore (loc' := [(0, .ref 0), (1, .ref 80), (2, .ref 84), (3, .ref 419), (4, .int i), (5, .int k0)]) dL_law_1173 [1, 2, 3, 4, 5, 0] (Nat.le_of_ble_eq_true rfl) rfl ?_
  refine qq_aload_n dL_law_1175 rfl 2 rfl ?_
  refine qq_aload_n dL_law_1176 rfl 0 rfl ?_
  refine qq_iload dL_law_1177 4 rfl ?_
  refine qq_iconst (v := 1) dL_law_1179 (by decide) ?_
  refine qq_iadd dL_law_1180 ?_
  refine qq_iald dL_law_1181 h1.2.2.2.2.2 hi1 ?_
  rw [e1]
  refine qq_less (bc' := bc + 0 + 0) (bs' := bs + 0 + 0) (by omega) (by omega) ?_
  have hI := h1.2.2.2.2.1
  obtain ⟨A, hA⟩ := h1.2.1
  refine qq_callV (bc := bc + 0) (bs := bs + 0) (mc := 0) (ms := 0) (o := 84) (ci := 4) (N := 11) (T := TX7) (as := [.int x1]) (rest := []) dL_law_1182 hA.2.2.1 (by decide) rfl (mt_X7_upper hp1 A T hA x1) rfl kl_L_258 kn_X7_upper ke_X7_upper ki_X7 kc_X7_upper kd_X7_upper rfl (by decide) (by decide) (Nat.le_of_ble_eq_true rfl) (fun v hp2 hv _ _ => ?_) (fun E hp2 zx _ _ => zx.elim)
  obtain ⟨rfl, hA2, f2⟩ := hv
  have h2 := LI_m h1 hA hA2 f2 (im_o hI (tu_upper _ _))
  show qq_Go mL_law hp2 (bc + 0) (bs + 0) 1185 [(0, .ref 0), (1, .ref 80), (2, .ref 84), (3, .ref 419), (4, .int i), (5, .int k0)] [.int ((r_X7_upper x1 T).1)] P PX
  refine qq_istore (loc' := [(0, .ref 0), (1, .ref 80), (2, .ref 84), (3, .ref 419), (4, .int i), (5, .int k0), (6, .int ((r_X7_upper x1 T).1))]) dL_law_1185 [1, 2, 3, 4, 5, 6, 0] (Nat.le_of_ble_eq_true rfl) rfl ?_
  refine qq_goto (tgt := 1990) dL_law_1187 (by decide) ?_
  refine qq_loc [0, 1, 2, 3, 4] rfl ?_
  exact qq_less (bc' := bc) (bs' := bs) (by omega) (by omega) (KK hp2 S1 (r_X7_upper x1 T).2 h2 (rk_upper hI hR D))
set_option maxRecDepth 4000 in
theorem lc_26 {n : Nat} {f : Nat → Int32} {P : Option Value → qq_H → Prop} {PX : String → qq_H → Prop} {S : sX} {T : sM} {hp : qq_H} (h : LI n f S T hp) (hR : RelL S T) {i x1 x2 x3 : Int32} (e1 : f (i + 1).toNatClampNeg = x1) (e2 : f (i + 2).toNatClampNeg = x2) (e3 : f (i + 3).toNatClampNeg = x3) (hi1 : vp_in (i + 1) n) (hi2 : vp_in (i + 2) n) (hi3 : vp_in (i + 3) n) (bc bs : Nat) (KK : ∀ (hp' : qq_H) (S' : sX) (T' : sM), LI n f S' T' hp' → RelL S' T' → qq_Go mL_law hp' bc bs 1990 [(0, .ref 0), (1, .ref 80), (2, .ref 84), (3, .ref 419), (4, .int i)] [] P PX) : qq_Go mL_law hp (bc + 2) (bs + 12) 1190 [(0, .ref 0), (1, .ref 80), (2, .ref 84), (3, .ref 419), (4, .int i)] [] P PX := by
  refine qq_aload_n dL_law_1190 rfl 1 rfl ?_
  refine qq_aload_n dL_law_1191 rfl 0 rfl ?_
  refine qq_iload dL_law_1192 4 rfl ?_
  refine qq_iconst (v := 1) dL_law_1194 (by decide) ?_
  refine qq_iadd dL_law_1195 ?_
  refine qq_iald dL_law_1196 h.2.2.2.2.2 hi1 ?_
  rw [e1]
  refine qq_aload_n dL_law_1197 rfl 3 rfl ?_
  refine qq_less (bc' := bc + 0 + 2) (bs' := bs + 0 + 12) (by omega) (by omega) ?_
  obtain ⟨y0, sv0, ho0⟩ := h.2.2.1
  refine qq_callSX (bc := bc + 0) (bs := bs + 0) (mc := 2) (ms := 12) (as := [.ref 80, .int x1, .ref 419]) (rest := []) dL_law_1198 (mt_L_lower hp S h.1 419 y0 sv0 ho0 (by decide) x1) rfl kl_L_259 ks_L_lower ki_L kc_L_lower kd_L_lower rfl (by decide) (by decide) (Nat.le_of_ble_eq_true rfl) (fun v hp1 hv _ _ => ?_) (fun E hp1 zx _ _ => zx.elim)
  obtain ⟨k0, n0, S1, rfl, c1, c2, c3, D⟩ := hv
  have h1 := LI_c h c1 c2 c3
  show qq_Go mL_law hp1 (bc + 0) (bs + 0) 1201 [(0, .ref 0), (1, .ref 80), (2, .ref 84), (3, .ref 419), (4, .int i)] [.int k0] P PX
  refine qq_istore (loc' := [(0, .ref 0), (1, .ref 80), (2, .ref 84), (3, .ref 419), (4, .int i), (5, .int k0)]) dL_law_1201 [1, 2, 3, 4, 5, 0] (Nat.le_of_ble_eq_true rfl) rfl ?_
  refine qq_aload_n dL_law_1203 rfl 2 rfl ?_
  refine qq_aload_n dL_law_1204 rfl 0 rfl ?_
  refine qq_iload dL_law_1205 4 rfl ?_
  refine qq_iconst (v := 1) dL_law_1207 (by decide) ?_
  refine qq_iadd dL_law_1208 ?_
  refine qq_iald dL_law_1209 h1.2.2.2.2.2 hi1 ?_
  rw [e1]
  refine qq_less (bc' := bc + 0 + 0) (bs' := bs + 0 + 0) (by omega) (by omega) ?_
  have hI := h1.2.2.2.2.1
  obtain ⟨A, hA⟩ := h1.2.1
  refine qq_callV (bc := bc + 0) (bs := bs + 0) (mc := 0) (ms := 0) (o := 84) (ci := 4) (N := 11) (T := TX7) (as := [.int x1]) (rest := []) dL_law_1210 hA.2.2.1 (by decide) rfl (mt_X7_lower hp1 A T hA x1) rfl kl_L_261 kn_X7_lower ke_X7_lower ki_X7 kc_X7_lower kd_X7_lower rfl (by decide) (by decide) (Nat.le_of_ble_eq_true rfl) (fun v hp2 hv _ _ => ?_) (fun E hp2 zx _ _ => zx.elim)
  obtain ⟨rfl, hA2, f2⟩ := hv
  have h2 := LI_m h1 hA hA2 f2 (im_o hI (tu_lower _ _))
  show qq_Go mL_law hp2 (bc + 0) (bs + 0) 1213 [(0, .ref 0), (1, .ref 80), (2, .ref 84), (3, .ref 419), (4, .int i), (5, .int k0)] [.int ((r_X7_lower x1 T).1)] P PX
  refine qq_istore (loc' := [(0, .ref 0), (1, .ref 80), (2, .ref 84), (3, .ref 419), (4, .int i), (5, .int k0), (6, .int ((r_X7_lower x1 T).1))]) dL_law_1213 [1, 2, 3, 4, 5, 6, 0] (Nat.le_of_ble_eq_true rfl) rfl ?_
  refine qq_goto (tgt := 1990) dL_law_1215 (by decide) ?_
  refine qq_loc [0, 1, 2, 3, 4] rfl ?_
  exact qq_less (bc' := bc) (bs' := bs) (by omega) (by omega) (KK hp2 S1 (r_X7_lower x1 T).2 h2 (rk_lower hI hR D))
set_option maxRecDepth 4000 in
theorem lc_27 {n : Nat} {f : Nat → Int32} {P : Option Value → qq_H → Prop} {PX : String → qq_H → Prop} {S : sX} {T : sM} {hp : qq_H} (h : LI n f S T hp) (hR : RelL S T) {i x1 x2 x3 : Int32} (e1 : f (i + 1).toNatClampNeg = x1) (e2 : f (i + 2).toNatClampNeg = x2) (e3 : f (i + 3).toNatClampNeg = x3) (hi1 : vp_in (i + 1) n) (hi2 : vp_in (i + 2) n) (hi3 : vp_in (i + 3) n) (bc bs : Nat) (KK : ∀ (hp' : qq_H) (S' : sX) (T' : sM), LI n f S' T' hp' → RelL S' T' → qq_Go mL_law hp' bc bs 1990 [(0, .ref 0), (1, .ref 80), (2, .ref 84), (3, .ref 419), (4, .int i)] [] P PX) : qq_Go mL_law hp (bc + 9) (bs + 86) 1218 [(0, .ref 0), (1, .ref 80), (2, .ref 84), (3, .ref 419), (4, .int i)] [] P PX := by
  refine qq_aload_n dL_law_1218 rfl 1 rfl ?_
  refine qq_aload_n dL_law_1219 rfl 0 rfl ?_
  refine qq_iload dL_law_1220 4 rfl ?_
  refine qq_iconst (v := 1) dL_law_1222 (by decide) ?_
  refine qq_iadd dL_law_1223 ?_
  refine qq_iald dL_law_1224 h.2.2.2.2.2 hi1 ?_
  rw [e1]
  refine qq_aload_n dL_law_1225 rfl 3 rfl ?_
  refine qq_less (bc' := bc + 4 + 5) (bs' := bs + 40 + 46) (by omega) (by omega) ?_
  obtain ⟨y0, sv0, ho0⟩ := h.2.2.1
  refine qq_callSX (bc := bc + 4) (bs := bs + 40) (mc := 5) (ms := 46) (as := [.ref 80, .int x1, .ref 419]) (rest := []) dL_law_1226 (mt_L_text hp S h.1 419 y0 sv0 ho0 (by decide) h.2.2.2.1 x1) rfl kl_L_262 ks_L_text ki_L kc_L_text kd_L_text rfl (by decide) (by decide) (Nat.le_of_ble_eq_true rfl) (fun v hp1 hv _ _ => ?_) (fun E hp1 zx _ _ => zx.elim)
  obtain ⟨k0, sv1, rfl, c1, c2, c3, c4, D⟩ := hv
  have h1 := LI_t h c1 c2 c3 c4
  show qq_Go mL_law hp1 (bc + 4) (bs + 40) 1229 [(0, .ref 0), (1, .ref 80), (2, .ref 84), (3, .ref 419), (4, .int i)] [.int k0] P PX
  refine qq_istore (loc' := [(0, .ref 0), (1, .ref 80), (2, .ref 84), (3, .ref 419), (4, .int i), (5, .int k0)]) dL_law_1229 [1, 2, 3, 4, 5, 0] (Nat.le_of_ble_eq_true rfl) rfl ?_
  refine qq_aload_n dL_law_1231 rfl 2 rfl ?_
  refine qq_aload_n dL_law_1232 rfl 0 rfl ?_
  refine qq_iload dL_law_1233 4 rfl ?_
  refine qq_iconst (v := 1) dL_law_1235 (by decide) ?_
  refine qq_iadd dL_law_1236 ?_
  refine qq_iald dL_law_1237 h1.2.2.2.2.2 hi1 ?_
  rw [e1]
  refine qq_less (bc' := bc + 0 + 4) (bs' := bs + 0 + 40) (by omega) (by omega) ?_
  have hI := h1.2.2.2.2.1
  obtain ⟨A, hA⟩ := h1.2.1
  refine qq_callV (bc := bc + 0) (bs := bs + 0) (mc := 4) (ms := 40) (o := 84) (ci := 4) (N := 11) (T := TX7) (as := [.int x1]) (rest := []) dL_law_1238 hA.2.2.1 (by decide) rfl (mt_X7_text hp1 A T hA hI x1) rfl kl_L_264 kn_X7_text ke_X7_text ki_X7 kc_X7_text kd_X7_text rfl (by decide) (by decide) (Nat.le_of_ble_eq_true rfl) (fun v hp2 hv _ _ => ?_) (fun E hp2 zx _ _ => zx.elim)
  obtain ⟨⟨r0, rfl⟩, hA2, f2⟩ := hv
  have h2 := LI_m h1 hA hA2 f2 (im_ref hI)
  show qq_Go mL_law hp2 (bc + 0) (bs + 0) 1241 [(0, .ref 0), (1, .ref 80), (2, .ref 84), (3, .ref 419), (4, .int i), (5, .int k0)] [.ref r0] P PX
  refine qq_astore (loc' := [(0, .ref 0), (1, .ref 80), (2, .ref 84), (3, .ref 419), (4, .int i), (5, .int k0), (6, .ref r0)]) dL_law_1241 [1, 2, 3, 4, 5, 6, 0] (Nat.le_of_ble_eq_true rfl) rfl ?_
  refine qq_goto (tgt := 1990) dL_law_1243 (by decide) ?_
  refine qq_loc [0, 1, 2, 3, 4] rfl ?_
  exact qq_less (bc' := bc) (bs' := bs) (by omega) (by omega) (KK hp2 S (r_X7_isRefused (f_X7_isNoCell x1) 0 T).2 h2 (rk_text hI hR))
set_option maxRecDepth 4000 in
theorem lc_28 {n : Nat} {f : Nat → Int32} {P : Option Value → qq_H → Prop} {PX : String → qq_H → Prop} {S : sX} {T : sM} {hp : qq_H} (h : LI n f S T hp) (hR : RelL S T) {i x1 x2 x3 : Int32} (e1 : f (i + 1).toNatClampNeg = x1) (e2 : f (i + 2).toNatClampNeg = x2) (e3 : f (i + 3).toNatClampNeg = x3) (hi1 : vp_in (i + 1) n) (hi2 : vp_in (i + 2) n) (hi3 : vp_in (i + 3) n) (bc bs : Nat) (KK : ∀ (hp' : qq_H) (S' : sX) (T' : sM), LI n f S' T' hp' → RelL S' T' → qq_Go mL_law hp' bc bs 1990 [(0, .ref 0), (1, .ref 80), (2, .ref 84), (3, .ref 419), (4, .int i)] [] P PX) : qq_Go mL_law hp (bc + 8) (bs + 78) 1246 [(0, .ref 0), (1, .ref 80), (2, .ref 84), (3, .ref 419), (4, .int i)] [] P PX := by
  refine qq_aload_n dL_law_1246 rfl 1 rfl ?_
  refine qq_aload_n dL_law_1247 rfl 0 rfl ?_
  refine qq_iload dL_law_1248 4 rfl ?_
  refine qq_iconst (v := 1) dL_law_1250 (by decide) ?_
  refine qq_iadd dL_law_1251 ?_
  refine qq_iald dL_law_1252 h.2.2.2.2.2 hi1 ?_
  rw [e1]
  refine qq_aload_n dL_law_1253 rfl 0 rfl ?_
  refine qq_iload dL_law_1254 4 rfl ?_
  refine qq_iconst (v := 2) dL_law_1256 (by decide) ?_
  refine qq_iadd dL_law_1257 ?_
  refine qq_iald dL_law_1258 h.2.2.2.2.2 hi2 ?_
  rw [e2]
  refine qq_aload_n dL_law_1259 rfl 3 rfl ?_
  refine qq_less (bc' := bc + 6 + 2) (bs' := bs + 66 + 12) (by omega) (by omega) ?_
  obtain ⟨y0, sv0, ho0⟩ := h.2.2.1
  refine qq_callSX (bc := bc + 6) (bs := bs + 66) (mc := 2) (ms := 12) (as := [.ref 80, .int x1, .int x2, .ref 419]) (rest := []) dL_law_1260 (mt_L_order hp S h.1 419 y0 sv0 ho0 (by decide) x1 x2) rfl kl_L_265 ks_L_order ki_L kc_L_order kd_L_order rfl (by decide) (by decide) (Nat.le_of_ble_eq_true rfl) (fun v hp1 hv _ _ => ?_) (fun E hp1 zx _ _ => zx.elim)
  obtain ⟨k0, n0, S1, rfl, c1, c2, c3, D⟩ := hv
  have h1 := LI_c h c1 c2 c3
  show qq_Go mL_law hp1 (bc + 6) (bs + 66) 1263 [(0, .ref 0), (1, .ref 80), (2, .ref 84), (3, .ref 419), (4, .int i)] [.int k0] P PX
  refine qq_istore (loc' := [(0, .ref 0), (1, .ref 80), (2, .ref 84), (3, .ref 419), (4, .int i), (5, .int k0)]) dL_law_1263 [1, 2, 3, 4, 5, 0] (Nat.le_of_ble_eq_true rfl) rfl ?_
  refine qq_aload_n dL_law_1265 rfl 2 rfl ?_
  refine qq_aload_n dL_law_1266 rfl 0 rfl ?_
  refine qq_iload dL_law_1267 4 rfl ?_
  refine qq_iconst (v := 1) dL_law_1269 (by decide) ?_
  refine qq_iadd dL_law_1270 ?_
  refine qq_iald dL_law_1271 h1.2.2.2.2.2 hi1 ?_
  rw [e1]
  refine qq_aload_n dL_law_1272 rfl 0 rfl ?_
  refine qq_iload dL_law_1273 4 rfl ?_
  refine qq_iconst (v := 2) dL_law_1275 (by decide) ?_
  refine qq_iadd dL_law_1276 ?_
  refine qq_iald dL_law_1277 h1.2.2.2.2.2 hi2 ?_
  rw [e2]
  refine qq_less (bc' := bc + 0 + 6) (bs' := bs + 0 + 66) (by omega) (by omega) ?_
  have hI := h1.2.2.2.2.1
  obtain ⟨A, hA⟩ := h1.2.1
  refine qq_callV (bc := bc + 0) (bs := bs + 0) (mc := 6) (ms := 66) (o := 84) (ci := 4) (N := 11) (T := TX7) (as := [.int x1, .int x2]) (rest := []) dL_law_1278 hA.2.2.1 (by decide) rfl (mt_X7_order hp1 A T hA x1 x2 hI) rfl kl_L_267 kn_X7_order ke_X7_order ki_X7 kc_X7_order kd_X7_order rfl (by decide) (by decide) (Nat.le_of_ble_eq_true rfl) (fun v hp2 hv _ _ => ?_) (fun E hp2 zx _ _ => zx.elim)
  obtain ⟨rfl, hA2, f2⟩ := hv
  have h2 := LI_m h1 hA hA2 f2 (im_o hI (tu_order _ _ _))
  show qq_Go mL_law hp2 (bc + 0) (bs + 0) 1281 [(0, .ref 0), (1, .ref 80), (2, .ref 84), (3, .ref 419), (4, .int i), (5, .int k0)] [.int ((r_X7_order x1 x2 T).1)] P PX
  refine qq_istore (loc' := [(0, .ref 0), (1, .ref 80), (2, .ref 84), (3, .ref 419), (4, .int i), (5, .int k0), (6, .int ((r_X7_order x1 x2 T).1))]) dL_law_1281 [1, 2, 3, 4, 5, 6, 0] (Nat.le_of_ble_eq_true rfl) rfl ?_
  refine qq_goto (tgt := 1990) dL_law_1283 (by decide) ?_
  refine qq_loc [0, 1, 2, 3, 4] rfl ?_
  exact qq_less (bc' := bc) (bs' := bs) (by omega) (by omega) (KK hp2 S1 (r_X7_order x1 x2 T).2 h2 (rk_order hI hR D))
set_option maxRecDepth 4000 in
theorem lc_29 {n : Nat} {f : Nat → Int32} {P : Option Value → qq_H → Prop} {PX : String → qq_H → Prop} {S : sX} {T : sM} {hp : qq_H} (h : LI n f S T hp) (hR : RelL S T) {i x1 x2 x3 : Int32} (e1 : f (i + 1).toNatClampNeg = x1) (e2 : f (i + 2).toNatClampNeg = x2) (e3 : f (i + 3).toNatClampNeg = x3) (hi1 : vp_in (i + 1) n) (hi2 : vp_in (i + 2) n) (hi3 : vp_in (i + 3) n) (bc bs : Nat) (KK : ∀ (hp' : qq_H) (S' : sX) (T' : sM), LI n f S' T' hp' → RelL S' T' → qq_Go mL_law hp' bc bs 1990 [(0, .ref 0), (1, .ref 80), (2, .ref 84), (3, .ref 419), (4, .int i)] [] P PX) : qq_Go mL_law hp (bc + 2) (bs + 12) 1286 [(0, .ref 0), (1, .ref 80), (2, .ref 84), (3, .ref 419), (4, .int i)] [] P PX := by
  refine qq_aload_n dL_law_1286 rfl 1 rfl ?_
  refine qq_aload_n dL_law_1287 rfl 0 rfl ?_
  refine qq_iload dL_law_1288 4 rfl ?_
  refine qq_iconst (v := 1) dL_law_1290 (by decide) ?_
  refine qq_iadd dL_law_1291 ?_
  refine qq_iald dL_law_1292 h.2.2.2.2.2 hi1 ?_
  rw [e1]
  refine qq_aload_n dL_law_1293 rfl 0 rfl ?_
  refine qq_iload dL_law_1294 4 rfl ?_
  refine qq_iconst (v := 2) dL_law_1296 (by decide) ?_
  refine qq_iadd dL_law_1297 ?_
  refine qq_iald dL_law_1298 h.2.2.2.2.2 hi2 ?_
  rw [e2]
  refine qq_aload_n dL_law_1299 rfl 3 rfl ?_
  refine qq_less (bc' := bc + 0 + 2) (bs' := bs + 0 + 12) (by omega) (by omega) ?_
  obtain ⟨y0, sv0, ho0⟩ := h.2.2.1
  refine qq_callSX (bc := bc + 0) (bs := bs + 0) (mc := 2) (ms := 12) (as := [.ref 80, .int x1, .int x2, .ref 419]) (rest := []) dL_law_1300 (mt_L_isAlike hp S h.1 419 y0 sv0 ho0 (by decide) x1 x2) rfl kl_L_268 ks_L_isAlike ki_L kc_L_isAlike kd_L_isAlike rfl (by decide) (by decide) (Nat.le_of_ble_eq_true rfl) (fun v hp1 hv _ _ => ?_) (fun E hp1 zx _ _ => zx.elim)
  obtain ⟨k0, n0, S1, rfl, c1, c2, c3, D⟩ := hv
  have h1 := LI_c h c1 c2 c3
  show qq_Go mL_law hp1 (bc + 0) (bs + 0) 1303 [(0, .ref 0), (1, .ref 80), (2, .ref 84), (3, .ref 419), (4, .int i)] [.int k0] P PX
  refine qq_istore (loc' := [(0, .ref 0), (1, .ref 80), (2, .ref 84), (3, .ref 419), (4, .int i), (5, .int k0)]) dL_law_1303 [1, 2, 3, 4, 5, 0] (Nat.le_of_ble_eq_true rfl) rfl ?_
  refine qq_aload_n dL_law_1305 rfl 2 rfl ?_
  refine qq_aload_n dL_law_1306 rfl 0 rfl ?_
  refine qq_iload dL_law_1307 4 rfl ?_
  refine qq_iconst (v := 1) dL_law_1309 (by decide) ?_
  refine qq_iadd dL_law_1310 ?_
  refine qq_iald dL_law_1311 h1.2.2.2.2.2 hi1 ?_
  rw [e1]
  refine qq_aload_n dL_law_1312 rfl 0 rfl ?_
  refine qq_iload dL_law_1313 4 rfl ?_
  refine qq_iconst (v := 2) dL_law_1315 (by decide) ?_
  refine qq_iadd dL_law_1316 ?_
  refine qq_iald dL_law_1317 h1.2.2.2.2.2 hi2 ?_
  rw [e2]
  refine qq_less (bc' := bc + 0 + 0) (bs' := bs + 0 + 0) (by omega) (by omega) ?_
  have hI := h1.2.2.2.2.1
  obtain ⟨A, hA⟩ := h1.2.1
  refine qq_callV (bc := bc + 0) (bs := bs + 0) (mc := 0) (ms := 0) (o := 84) (ci := 4) (N := 11) (T := TX7) (as := [.int x1, .int x2]) (rest := []) dL_law_1318 hA.2.2.1 (by decide) rfl (mt_X7_isAlike hp1 A T hA x1 x2) rfl kl_L_270 kn_X7_isAlike ke_X7_isAlike ki_X7 kc_X7_isAlike kd_X7_isAlike rfl (by decide) (by decide) (Nat.le_of_ble_eq_true rfl) (fun v hp2 hv _ _ => ?_) (fun E hp2 zx _ _ => zx.elim)
  obtain ⟨rfl, hA2, f2⟩ := hv
  have h2 := LI_m h1 hA hA2 f2 (im_o hI (tu_isAlike _ _ _))
  show qq_Go mL_law hp2 (bc + 0) (bs + 0) 1321 [(0, .ref 0), (1, .ref 80), (2, .ref 84), (3, .ref 419), (4, .int i), (5, .int k0)] [.int ((r_X7_isAlike x1 x2 T).1)] P PX
  refine qq_istore (loc' := [(0, .ref 0), (1, .ref 80), (2, .ref 84), (3, .ref 419), (4, .int i), (5, .int k0), (6, .int ((r_X7_isAlike x1 x2 T).1))]) dL_law_1321 [1, 2, 3, 4, 5, 6, 0] (Nat.le_of_ble_eq_true rfl) rfl ?_
  refine qq_goto (tgt := 1990) dL_law_1323 (by decide) ?_
  refine qq_loc [0, 1, 2, 3, 4] rfl ?_
  exact qq_less (bc' := bc) (bs' := bs) (by omega) (by omega) (KK hp2 S1 (r_X7_isAlike x1 x2 T).2 h2 (rk_isAlike hI hR D))
set_option maxRecDepth 4000 in
theorem lc_30 {n : Nat} {f : Nat → Int32} {P : Option Value → qq_H → Prop} {PX : String → qq_H → Prop} {S : sX} {T : sM} {hp : qq_H} (h : LI n f S T hp) (hR : RelL S T) {i x1 x2 x3 : Int32} (e1 : f (i + 1).toNatClampNeg = x1) (e2 : f (i + 2).toNatClampNeg = x2) (e3 : f (i + 3).toNatClampNeg = x3) (hi1 : vp_in (i + 1) n) (hi2 : vp_in (i + 2) n) (hi3 : vp_in (i + 3) n) (bc bs : Nat) (KK : ∀ (hp' : qq_H) (S' : sX) (T' : sM), LI n f S' T' hp' → RelL S' T' → qq_Go mL_law hp' bc bs 1990 [(0, .ref 0), (1, .ref 80), (2, .ref 84), (3, .ref 419), (4, .int i)] [] P PX) : qq_Go mL_law hp (bc + 2) (bs + 12) 1326 [(0, .ref 0), (1, .ref 80), (2, .ref 84), (3, .ref 419), (4, .int i)] [] P PX := by
  refine qq_aload_n dL_law_1326 rfl 1 rfl ?_
  refine qq_aload_n dL_law_1327 rfl 0 rfl ?_
  refine qq_iload dL_law_1328 4 rfl ?_
  refine qq_iconst (v := 1) dL_law_1330 (by decide) ?_
  refine qq_iadd dL_law_1331 ?_
  refine qq_iald dL_law_1332 h.2.2.2.2.2 hi1 ?_
  rw [e1]
  refine qq_aload_n dL_law_1333 rfl 0 rfl ?_
  refine qq_iload dL_law_1334 4 rfl ?_
  refine qq_iconst (v := 2) dL_law_1336 (by decide) ?_
  refine qq_iadd dL_law_1337 ?_
  refine qq_iald dL_law_1338 h.2.2.2.2.2 hi2 ?_
  rw [e2]
  refine qq_aload_n dL_law_1339 rfl 3 rfl ?_
  refine qq_less (bc' := bc + 0 + 2) (bs' := bs + 0 + 12) (by omega) (by omega) ?_
  obtain ⟨y0, sv0, ho0⟩ := h.2.2.1
  refine qq_callSX (bc := bc + 0) (bs := bs + 0) (mc := 2) (ms := 12) (as := [.ref 80, .int x1, .int x2, .ref 419]) (rest := []) dL_law_1340 (mt_L_isNear hp S h.1 419 y0 sv0 ho0 (by decide) x1 x2) rfl kl_L_271 ks_L_isNear ki_L kc_L_isNear kd_L_isNear rfl (by decide) (by decide) (Nat.le_of_ble_eq_true rfl) (fun v hp1 hv _ _ => ?_) (fun E hp1 zx _ _ => zx.elim)
  obtain ⟨k0, n0, S1, rfl, c1, c2, c3, D⟩ := hv
  have h1 := LI_c h c1 c2 c3
  show qq_Go mL_law hp1 (bc + 0) (bs + 0) 1343 [(0, .ref 0), (1, .ref 80), (2, .ref 84), (3, .ref 419), (4, .int i)] [.int k0] P PX
  refine qq_istore (loc' := [(0, .ref 0), (1, .ref 80), (2, .ref 84), (3, .ref 419), (4, .int i), (5, .int k0)]) dL_law_1343 [1, 2, 3, 4, 5, 0] (Nat.le_of_ble_eq_true rfl) rfl ?_
  refine qq_aload_n dL_law_1345 rfl 2 rfl ?_
  refine qq_aload_n dL_law_1346 rfl 0 rfl ?_
  refine qq_iload dL_law_1347 4 rfl ?_
  refine qq_iconst (v := 1) dL_law_1349 (by decide) ?_
  refine qq_iadd dL_law_1350 ?_
  refine qq_iald dL_law_1351 h1.2.2.2.2.2 hi1 ?_
  rw [e1]
  refine qq_aload_n dL_law_1352 rfl 0 rfl ?_
  refine qq_iload dL_law_1353 4 rfl ?_
  refine qq_iconst (v := 2) dL_law_1355 (by decide) ?_
  refine qq_iadd dL_law_1356 ?_
  refine qq_iald dL_law_1357 h1.2.2.2.2.2 hi2 ?_
  rw [e2]
  refine qq_less (bc' := bc + 0 + 0) (bs' := bs + 0 + 0) (by omega) (by omega) ?_
  have hI := h1.2.2.2.2.1
  obtain ⟨A, hA⟩ := h1.2.1
  refine qq_callV (bc := bc + 0) (bs := bs + 0) (mc := 0) (ms := 0) (o := 84) (ci := 4) (N := 11) (T := TX7) (as := [.int x1, .int x2]) (rest := []) dL_law_1358 hA.2.2.1 (by decide) rfl (mt_X7_isNear hp1 A T hA x1 x2) rfl kl_L_273 kn_X7_isNear ke_X7_isNear ki_X7 kc_X7_isNear kd_X7_isNear rfl (by decide) (by decide) (Nat.le_of_ble_eq_true rfl) (fun v hp2 hv _ _ => ?_) (fun E hp2 zx _ _ => zx.elim)
  obtain ⟨rfl, hA2, f2⟩ := hv
  have h2 := LI_m h1 hA hA2 f2 (im_o hI (tu_isNear _ _ _))
  show qq_Go mL_law hp2 (bc + 0) (bs + 0) 1361 [(0, .ref 0), (1, .ref 80), (2, .ref 84), (3, .ref 419), (4, .int i), (5, .int k0)] [.int ((r_X7_isNear x1 x2 T).1)] P PX
  refine qq_istore (loc' := [(0, .ref 0), (1, .ref 80), (2, .ref 84), (3, .ref 419), (4, .int i), (5, .int k0), (6, .int ((r_X7_isNear x1 x2 T).1))]) dL_law_1361 [1, 2, 3, 4, 5, 6, 0] (Nat.le_of_ble_eq_true rfl) rfl ?_
  refine qq_goto (tgt := 1990) dL_law_1363 (by decide) ?_
  refine qq_loc [0, 1, 2, 3, 4] rfl ?_
  exact qq_less (bc' := bc) (bs' := bs) (by omega) (by omega) (KK hp2 S1 (r_X7_isNear x1 x2 T).2 h2 (rk_isNear hI hR D))
set_option maxRecDepth 4000 in
theorem lc_31 {n : Nat} {f : Nat → Int32} {P : Option Value → qq_H → Prop} {PX : String → qq_H → Prop} {S : sX} {T : sM} {hp : qq_H} (h : LI n f S T hp) (hR : RelL S T) {i x1 x2 x3 : Int32} (e1 : f (i + 1).toNatClampNeg = x1) (e2 : f (i + 2).toNatClampNeg = x2) (e3 : f (i + 3).toNatClampNeg = x3) (hi1 : vp_in (i + 1) n) (hi2 : vp_in (i + 2) n) (hi3 : vp_in (i + 3) n) (bc bs : Nat) (KK : ∀ (hp' : qq_H) (S' : sX) (T' : sM), LI n f S' T' hp' → RelL S' T' → qq_Go mL_law hp' bc bs 1990 [(0, .ref 0), (1, .ref 80), (2, .ref 84), (3, .ref 419), (4, .int i)] [] P PX) : qq_Go mL_law hp (bc + 4) (bs + 25) 1366 [(0, .ref 0), (1, .ref 80), (2, .ref 84), (3, .ref 419), (4, .int i)] [] P PX := by
  refine qq_aload_n dL_law_1366 rfl 1 rfl ?_
  refine qq_aload_n dL_law_1367 rfl 0 rfl ?_
  refine qq_iload dL_law_1368 4 rfl ?_
  refine qq_iconst (v := 1) dL_law_1370 (by decide) ?_
  refine qq_iadd dL_law_1371 ?_
  refine qq_iald dL_law_1372 h.2.2.2.2.2 hi1 ?_
  rw [e1]
  refine qq_aload_n dL_law_1373 rfl 0 rfl ?_
  refine qq_iload dL_law_1374 4 rfl ?_
  refine qq_iconst (v := 2) dL_law_1376 (by decide) ?_
  refine qq_iadd dL_law_1377 ?_
  refine qq_iald dL_law_1378 h.2.2.2.2.2 hi2 ?_
  rw [e2]
  refine qq_aload_n dL_law_1379 rfl 3 rfl ?_
  refine qq_less (bc' := bc + 1 + 3) (bs' := bs + 7 + 18) (by omega) (by omega) ?_
  obtain ⟨y0, sv0, ho0⟩ := h.2.2.1
  refine qq_callSX (bc := bc + 1) (bs := bs + 7) (mc := 3) (ms := 18) (as := [.ref 80, .int x1, .int x2, .ref 419]) (rest := []) dL_law_1380 (mt_L_most hp S h.1 419 y0 sv0 ho0 (by decide) x1 x2) rfl kl_L_274 ks_L_most ki_L kc_L_most kd_L_most rfl (by decide) (by decide) (Nat.le_of_ble_eq_true rfl) (fun v hp1 hv _ _ => ?_) (fun E hp1 zx _ _ => zx.elim)
  obtain ⟨k0, n0, S1, rfl, c1, c2, c3, D⟩ := hv
  have h1 := LI_c h c1 c2 c3
  show qq_Go mL_law hp1 (bc + 1) (bs + 7) 1383 [(0, .ref 0), (1, .ref 80), (2, .ref 84), (3, .ref 419), (4, .int i)] [.int k0] P PX
  refine qq_istore (loc' := [(0, .ref 0), (1, .ref 80), (2, .ref 84), (3, .ref 419), (4, .int i), (5, .int k0)]) dL_law_1383 [1, 2, 3, 4, 5, 0] (Nat.le_of_ble_eq_true rfl) rfl ?_
  refine qq_aload_n dL_law_1385 rfl 2 rfl ?_
  refine qq_aload_n dL_law_1386 rfl 0 rfl ?_
  refine qq_iload dL_law_1387 4 rfl ?_
  refine qq_iconst (v := 1) dL_law_1389 (by decide) ?_
  refine qq_iadd dL_law_1390 ?_
  refine qq_iald dL_law_1391 h1.2.2.2.2.2 hi1 ?_
  rw [e1]
  refine qq_aload_n dL_law_1392 rfl 0 rfl ?_
  refine qq_iload dL_law_1393 4 rfl ?_
  refine qq_iconst (v := 2) dL_law_1395 (by decide) ?_
  refine qq_iadd dL_law_1396 ?_
  refine qq_iald dL_law_1397 h1.2.2.2.2.2 hi2 ?_
  rw [e2]
  refine qq_less (bc' := bc + 0 + 1) (bs' := bs + 0 + 7) (by omega) (by omega) ?_
  have hI := h1.2.2.2.2.1
  obtain ⟨A, hA⟩ := h1.2.1
  refine qq_callV (bc := bc + 0) (bs := bs + 0) (mc := 1) (ms := 7) (o := 84) (ci := 4) (N := 11) (T := TX7) (as := [.int x1, .int x2]) (rest := []) dL_law_1398 hA.2.2.1 (by decide) rfl (mt_X7_most hp1 A T hA x1 x2 hI) rfl kl_L_276 kn_X7_most ke_X7_most ki_X7 kc_X7_most kd_X7_most rfl (by decide) (by decide) (Nat.le_of_ble_eq_true rfl) (fun v hp2 hv _ _ => ?_) (fun E hp2 zx _ _ => zx.elim)
  obtain ⟨rfl, hA2, f2⟩ := hv
  have h2 := LI_m h1 hA hA2 f2 (im_o hI (tu_most _ _ _))
  show qq_Go mL_law hp2 (bc + 0) (bs + 0) 1401 [(0, .ref 0), (1, .ref 80), (2, .ref 84), (3, .ref 419), (4, .int i), (5, .int k0)] [.int ((r_X7_most x1 x2 T).1)] P PX
  refine qq_istore (loc' := [(0, .ref 0), (1, .ref 80), (2, .ref 84), (3, .ref 419), (4, .int i), (5, .int k0), (6, .int ((r_X7_most x1 x2 T).1))]) dL_law_1401 [1, 2, 3, 4, 5, 6, 0] (Nat.le_of_ble_eq_true rfl) rfl ?_
  refine qq_aload_n dL_law_1403 rfl 2 rfl ?_
  refine qq_less (bc' := bc + 0 + 0) (bs' := bs + 0 + 0) (by omega) (by omega) ?_
  have C := ck_most hI hR D
  have o2 := LI_o hA f2 h1.2.2.2.1 c2
  refine qq_callV (bc := bc + 0) (bs := bs + 0) (mc := 0) (ms := 0) (o := 84) (ci := 4) (N := 11) (T := TX7) (as := []) (rest := []) dL_law_1404 hA2.2.2.1 (by decide) rfl (mt_X7_thrown hp2 _ _ hA2) rfl kl_L_277 kn_X7_thrown ke_X7_thrown ki_X7 kc_X7_thrown kd_X7_thrown rfl (by decide) (by decide) (Nat.le_of_ble_eq_true rfl) (fun v hp3 hv _ _ => ?_) (fun E hp3 zx _ _ => zx.elim)
  obtain ⟨rfl, rfl⟩ := hv
  show qq_Go mL_law hp2 (bc + 0) (bs + 0) 1407 [(0, .ref 0), (1, .ref 80), (2, .ref 84), (3, .ref 419), (4, .int i), (5, .int k0), (6, .int ((r_X7_most x1 x2 T).1))] [.int (r_X7_thrown (r_X7_most x1 x2 T).2)] P PX
  refine qq_iload dL_law_1407 5 rfl ?_
  refine qq_icmp_eq (tgt := 1414) dL_law_1409 (by decide) (fun zc => ?_) (fun zc => absurd C.1 zc)
  refine qq_iload dL_law_1414 5 rfl ?_
  refine qq_if_ne (tgt := 1432) dL_law_1416 (by decide) (fun zk => ?_) (fun zk => ?_)
  · refine qq_goto (tgt := 1990) dL_law_1432 (by decide) ?_
    refine qq_loc [0, 1, 2, 3, 4] rfl ?_
    exact qq_less (bc' := bc) (bs' := bs) (by omega) (by omega) (KK hp2 S1 (r_X7_most x1 x2 T).2 h2 (rk_most hI hR D))
  · refine qq_aload_n dL_law_1419 rfl 3 rfl ?_
    refine qq_getO (C := RX6) (host := "QuarterpowersLaw") (T := TX6) (N := 2) dL_law_1420 o2 (by decide) rfl 0 (by decide) rfl ku_X6 (by decide +kernel) ?_
    refine qq_iload dL_law_1423 6 rfl ?_
    refine qq_i2l dL_law_1425 ?_
    refine qq_lc_eq (tgt := 1432) dL_law_1426 dL_law_1427 (by decide) (fun zc => ?_) (fun zc => absurd (C.2 zk) zc)
    refine qq_goto (tgt := 1990) dL_law_1432 (by decide) ?_
    refine qq_loc [0, 1, 2, 3, 4] rfl ?_
    exact qq_less (bc' := bc) (bs' := bs) (by omega) (by omega) (KK hp2 S1 (r_X7_most x1 x2 T).2 h2 (rk_most hI hR D))
set_option maxRecDepth 4000 in
theorem lc_32 {n : Nat} {f : Nat → Int32} {P : Option Value → qq_H → Prop} {PX : String → qq_H → Prop} {S : sX} {T : sM} {hp : qq_H} (h : LI n f S T hp) (hR : RelL S T) {i x1 x2 x3 : Int32} (e1 : f (i + 1).toNatClampNeg = x1) (e2 : f (i + 2).toNatClampNeg = x2) (e3 : f (i + 3).toNatClampNeg = x3) (hi1 : vp_in (i + 1) n) (hi2 : vp_in (i + 2) n) (hi3 : vp_in (i + 3) n) (bc bs : Nat) (KK : ∀ (hp' : qq_H) (S' : sX) (T' : sM), LI n f S' T' hp' → RelL S' T' → qq_Go mL_law hp' bc bs 1990 [(0, .ref 0), (1, .ref 80), (2, .ref 84), (3, .ref 419), (4, .int i)] [] P PX) : qq_Go mL_law hp (bc + 4) (bs + 25) 1435 [(0, .ref 0), (1, .ref 80), (2, .ref 84), (3, .ref 419), (4, .int i)] [] P PX := by
  refine qq_aload_n dL_law_1435 rfl 1 rfl ?_
  refine qq_aload_n dL_law_1436 rfl 0 rfl ?_
  refine qq_iload dL_law_1437 4 rfl ?_
  refine qq_iconst (v := 1) dL_law_1439 (by decide) ?_
  refine qq_iadd dL_law_1440 ?_
  refine qq_iald dL_law_1441 h.2.2.2.2.2 hi1 ?_
  rw [e1]
  refine qq_aload_n dL_law_1442 rfl 0 rfl ?_
  refine qq_iload dL_law_1443 4 rfl ?_
  refine qq_iconst (v := 2) dL_law_1445 (by decide) ?_
  refine qq_iadd dL_law_1446 ?_
  refine qq_iald dL_law_1447 h.2.2.2.2.2 hi2 ?_
  rw [e2]
  refine qq_aload_n dL_law_1448 rfl 3 rfl ?_
  refine qq_less (bc' := bc + 1 + 3) (bs' := bs + 7 + 18) (by omega) (by omega) ?_
  obtain ⟨y0, sv0, ho0⟩ := h.2.2.1
  refine qq_callSX (bc := bc + 1) (bs := bs + 7) (mc := 3) (ms := 18) (as := [.ref 80, .int x1, .int x2, .ref 419]) (rest := []) dL_law_1449 (mt_L_isWithin hp S h.1 419 y0 sv0 ho0 (by decide) x1 x2) rfl kl_L_280 ks_L_isWithin ki_L kc_L_isWithin kd_L_isWithin rfl (by decide) (by decide) (Nat.le_of_ble_eq_true rfl) (fun v hp1 hv _ _ => ?_) (fun E hp1 zx _ _ => zx.elim)
  obtain ⟨k0, n0, S1, rfl, c1, c2, c3, D⟩ := hv
  have h1 := LI_c h c1 c2 c3
  show qq_Go mL_law hp1 (bc + 1) (bs + 7) 1452 [(0, .ref 0), (1, .ref 80), (2, .ref 84), (3, .ref 419), (4, .int i)] [.int k0] P PX
  refine qq_istore (loc' := [(0, .ref 0), (1, .ref 80), (2, .ref 84), (3, .ref 419), (4, .int i), (5, .int k0)]) dL_law_1452 [1, 2, 3, 4, 5, 0] (Nat.le_of_ble_eq_true rfl) rfl ?_
  refine qq_aload_n dL_law_1454 rfl 2 rfl ?_
  refine qq_aload_n dL_law_1455 rfl 0 rfl ?_
  refine qq_iload dL_law_1456 4 rfl ?_
  refine qq_iconst (v := 1) dL_law_1458 (by decide) ?_
  refine qq_iadd dL_law_1459 ?_
  refine qq_iald dL_law_1460 h1.2.2.2.2.2 hi1 ?_
  rw [e1]
  refine qq_aload_n dL_law_1461 rfl 0 rfl ?_
  refine qq_iload dL_law_1462 4 rfl ?_
  refine qq_iconst (v := 2) dL_law_1464 (by decide) ?_
  refine qq_iadd dL_law_1465 ?_
  refine qq_iald dL_law_1466 h1.2.2.2.2.2 hi2 ?_
  rw [e2]
  refine qq_less (bc' := bc + 0 + 1) (bs' := bs + 0 + 7) (by omega) (by omega) ?_
  have hI := h1.2.2.2.2.1
  obtain ⟨A, hA⟩ := h1.2.1
  refine qq_callV (bc := bc + 0) (bs := bs + 0) (mc := 1) (ms := 7) (o := 84) (ci := 4) (N := 11) (T := TX7) (as := [.int x1, .int x2]) (rest := []) dL_law_1467 hA.2.2.1 (by decide) rfl (mt_X7_isWithin hp1 A T hA x1 x2 hI) rfl kl_L_282 kn_X7_isWithin ke_X7_isWithin ki_X7 kc_X7_isWithin kd_X7_isWithin rfl (by decide) (by decide) (Nat.le_of_ble_eq_true rfl) (fun v hp2 hv _ _ => ?_) (fun E hp2 zx _ _ => zx.elim)
  obtain ⟨rfl, hA2, f2⟩ := hv
  have h2 := LI_m h1 hA hA2 f2 (im_o hI (tu_isWithin _ _ _))
  show qq_Go mL_law hp2 (bc + 0) (bs + 0) 1470 [(0, .ref 0), (1, .ref 80), (2, .ref 84), (3, .ref 419), (4, .int i), (5, .int k0)] [.int ((r_X7_isWithin x1 x2 T).1)] P PX
  refine qq_istore (loc' := [(0, .ref 0), (1, .ref 80), (2, .ref 84), (3, .ref 419), (4, .int i), (5, .int k0), (6, .int ((r_X7_isWithin x1 x2 T).1))]) dL_law_1470 [1, 2, 3, 4, 5, 6, 0] (Nat.le_of_ble_eq_true rfl) rfl ?_
  refine qq_goto (tgt := 1990) dL_law_1472 (by decide) ?_
  refine qq_loc [0, 1, 2, 3, 4] rfl ?_
  exact qq_less (bc' := bc) (bs' := bs) (by omega) (by omega) (KK hp2 S1 (r_X7_isWithin x1 x2 T).2 h2 (rk_isWithin hI hR D))
set_option maxRecDepth 4000 in
theorem lc_33 {n : Nat} {f : Nat → Int32} {P : Option Value → qq_H → Prop} {PX : String → qq_H → Prop} {S : sX} {T : sM} {hp : qq_H} (h : LI n f S T hp) (hR : RelL S T) {i x1 x2 x3 : Int32} (e1 : f (i + 1).toNatClampNeg = x1) (e2 : f (i + 2).toNatClampNeg = x2) (e3 : f (i + 3).toNatClampNeg = x3) (hi1 : vp_in (i + 1) n) (hi2 : vp_in (i + 2) n) (hi3 : vp_in (i + 3) n) (bc bs : Nat) (KK : ∀ (hp' : qq_H) (S' : sX) (T' : sM), LI n f S' T' hp' → RelL S' T' → qq_Go mL_law hp' bc bs 1990 [(0, .ref 0), (1, .ref 80), (2, .ref 84), (3, .ref 419), (4, .int i)] [] P PX) : qq_Go mL_law hp (bc + 1) (bs + 6) 1475 [(0, .ref 0), (1, .ref 80), (2, .ref 84), (3, .ref 419), (4, .int i)] [] P PX := by
  refine qq_aload_n dL_law_1475 rfl 1 rfl ?_
  refine qq_aload_n dL_law_1476 rfl 0 rfl ?_
  refine qq_iload dL_law_1477 4 rfl ?_
  refine qq_iconst (v := 1) dL_law_1479 (by decide) ?_
  refine qq_iadd dL_law_1480 ?_
  refine qq_iald dL_law_1481 h.2.2.2.2.2 hi1 ?_
  rw [e1]
  refine qq_aload_n dL_law_1482 rfl 0 rfl ?_
  refine qq_iload dL_law_1483 4 rfl ?_
  refine qq_iconst (v := 2) dL_law_1485 (by decide) ?_
  refine qq_iadd dL_law_1486 ?_
  refine qq_iald dL_law_1487 h.2.2.2.2.2 hi2 ?_
  rw [e2]
  suffices KB : qq_Go mL_law hp (bc + 1) (bs + 6) 1496 [(0, .ref 0), (1, .ref 80), (2, .ref 84), (3, .ref 419), (4, .int i)] [.int (bz x2), .int x1, .ref 80] P PX from by
    refine qq_if_eq (tgt := 1495) dL_law_1488 (by decide) (fun zc => ?_) (fun zc => ?_)
    · refine qq_iconst (v := 0) dL_law_1495 (by decide) ?_
      rw [bz, if_pos zc] at KB
      exact KB
    · refine qq_iconst (v := 1) dL_law_1491 (by decide) ?_
      refine qq_goto (tgt := 1496) dL_law_1492 (by decide) ?_
      rw [bz, if_neg zc] at KB
      exact KB
  refine qq_aload_n dL_law_1496 rfl 3 rfl ?_
  refine qq_less (bc' := bc + 0 + 1) (bs' := bs + 0 + 6) (by omega) (by omega) ?_
  obtain ⟨y0, sv0, ho0⟩ := h.2.2.1
  refine qq_callSX (bc := bc + 0) (bs := bs + 0) (mc := 1) (ms := 6) (as := [.ref 80, .int x1, .int (bz x2), .ref 419]) (rest := []) dL_law_1497 (mt_L_find hp S h.1 419 y0 sv0 ho0 (by decide) x1 (bz x2)) rfl kl_L_283 ks_L_find ki_L kc_L_find kd_L_find rfl (by decide) (by decide) (Nat.le_of_ble_eq_true rfl) (fun v hp1 hv _ _ => ?_) (fun E hp1 zx _ _ => zx.elim)
  obtain ⟨k0, n0, S1, rfl, c1, c2, c3, D⟩ := hv
  have h1 := LI_c h c1 c2 c3
  show qq_Go mL_law hp1 (bc + 0) (bs + 0) 1500 [(0, .ref 0), (1, .ref 80), (2, .ref 84), (3, .ref 419), (4, .int i)] [.int k0] P PX
  refine qq_istore (loc' := [(0, .ref 0), (1, .ref 80), (2, .ref 84), (3, .ref 419), (4, .int i), (5, .int k0)]) dL_law_1500 [1, 2, 3, 4, 5, 0] (Nat.le_of_ble_eq_true rfl) rfl ?_
  refine qq_aload_n dL_law_1502 rfl 2 rfl ?_
  refine qq_aload_n dL_law_1503 rfl 0 rfl ?_
  refine qq_iload dL_law_1504 4 rfl ?_
  refine qq_iconst (v := 1) dL_law_1506 (by decide) ?_
  refine qq_iadd dL_law_1507 ?_
  refine qq_iald dL_law_1508 h1.2.2.2.2.2 hi1 ?_
  rw [e1]
  refine qq_aload_n dL_law_1509 rfl 0 rfl ?_
  refine qq_iload dL_law_1510 4 rfl ?_
  refine qq_iconst (v := 2) dL_law_1512 (by decide) ?_
  refine qq_iadd dL_law_1513 ?_
  refine qq_iald dL_law_1514 h1.2.2.2.2.2 hi2 ?_
  rw [e2]
  suffices KB : qq_Go mL_law hp1 (bc + 0) (bs + 0) 1523 [(0, .ref 0), (1, .ref 80), (2, .ref 84), (3, .ref 419), (4, .int i), (5, .int k0)] [.int (bz x2), .int x1, .ref 84] P PX from by
    refine qq_if_eq (tgt := 1522) dL_law_1515 (by decide) (fun zc => ?_) (fun zc => ?_)
    · refine qq_iconst (v := 0) dL_law_1522 (by decide) ?_
      rw [bz, if_pos zc] at KB
      exact KB
    · refine qq_iconst (v := 1) dL_law_1518 (by decide) ?_
      refine qq_goto (tgt := 1523) dL_law_1519 (by decide) ?_
      rw [bz, if_neg zc] at KB
      exact KB
  refine qq_less (bc' := bc + 0 + 0) (bs' := bs + 0 + 0) (by omega) (by omega) ?_
  have hI := h1.2.2.2.2.1
  obtain ⟨A, hA⟩ := h1.2.1
  refine qq_callV (bc := bc + 0) (bs := bs + 0) (mc := 0) (ms := 0) (o := 84) (ci := 4) (N := 11) (T := TX7) (as := [.int x1, .int (bz x2)]) (rest := []) dL_law_1523 hA.2.2.1 (by decide) rfl (mt_X7_find hp1 A T hA x1 (bz x2)) rfl kl_L_285 kn_X7_find ke_X7_find ki_X7 kc_X7_find kd_X7_find rfl (by decide) (by decide) (Nat.le_of_ble_eq_true rfl) (fun v hp2 hv _ _ => ?_) (fun E hp2 zx _ _ => zx.elim)
  obtain ⟨rfl, hA2, f2⟩ := hv
  have h2 := LI_m h1 hA hA2 f2 (im_o hI (tu_find _ _ _))
  show qq_Go mL_law hp2 (bc + 0) (bs + 0) 1526 [(0, .ref 0), (1, .ref 80), (2, .ref 84), (3, .ref 419), (4, .int i), (5, .int k0)] [.int ((r_X7_find x1 (bz x2) T).1)] P PX
  refine qq_istore (loc' := [(0, .ref 0), (1, .ref 80), (2, .ref 84), (3, .ref 419), (4, .int i), (5, .int k0), (6, .int ((r_X7_find x1 (bz x2) T).1))]) dL_law_1526 [1, 2, 3, 4, 5, 6, 0] (Nat.le_of_ble_eq_true rfl) rfl ?_
  refine qq_goto (tgt := 1990) dL_law_1528 (by decide) ?_
  refine qq_loc [0, 1, 2, 3, 4] rfl ?_
  exact qq_less (bc' := bc) (bs' := bs) (by omega) (by omega) (KK hp2 S1 (r_X7_find x1 (bz x2) T).2 h2 (rk_find hI hR D))
set_option maxRecDepth 4000 in
theorem lc_34 {n : Nat} {f : Nat → Int32} {P : Option Value → qq_H → Prop} {PX : String → qq_H → Prop} {S : sX} {T : sM} {hp : qq_H} (h : LI n f S T hp) (hR : RelL S T) {i x1 x2 x3 : Int32} (e1 : f (i + 1).toNatClampNeg = x1) (e2 : f (i + 2).toNatClampNeg = x2) (e3 : f (i + 3).toNatClampNeg = x3) (hi1 : vp_in (i + 1) n) (hi2 : vp_in (i + 2) n) (hi3 : vp_in (i + 3) n) (bc bs : Nat) (KK : ∀ (hp' : qq_H) (S' : sX) (T' : sM), LI n f S' T' hp' → RelL S' T' → qq_Go mL_law hp' bc bs 1990 [(0, .ref 0), (1, .ref 80), (2, .ref 84), (3, .ref 419), (4, .int i)] [] P PX) : qq_Go mL_law hp (bc + 55) (bs + 600) 1531 [(0, .ref 0), (1, .ref 80), (2, .ref 84), (3, .ref 419), (4, .int i)] [] P PX := by
  refine qq_aload_n dL_law_1531 rfl 1 rfl ?_
  refine qq_aload_n dL_law_1532 rfl 0 rfl ?_
  refine qq_iload dL_law_1533 4 rfl ?_
  refine qq_iconst (v := 1) dL_law_1535 (by decide) ?_
  refine qq_iadd dL_law_1536 ?_
  refine qq_iald dL_law_1537 h.2.2.2.2.2 hi1 ?_
  rw [e1]
  refine qq_aload_n dL_law_1538 rfl 3 rfl ?_
  refine qq_less (bc' := bc + 54 + 1) (bs' := bs + 594 + 6) (by omega) (by omega) ?_
  obtain ⟨y0, sv0, ho0⟩ := h.2.2.1
  refine qq_callSX (bc := bc + 54) (bs := bs + 594) (mc := 1) (ms := 6) (as := [.ref 80, .int x1, .ref 419]) (rest := []) dL_law_1539 (mt_L_rank hp S h.1 419 y0 sv0 ho0 (by decide) x1) rfl kl_L_286 ks_L_rank ki_L kc_L_rank kd_L_rank rfl (by decide) (by decide) (Nat.le_of_ble_eq_true rfl) (fun v hp1 hv _ _ => ?_) (fun E hp1 zx _ _ => zx.elim)
  obtain ⟨k0, n0, S1, rfl, c1, c2, c3, D⟩ := hv
  have h1 := LI_c h c1 c2 c3
  show qq_Go mL_law hp1 (bc + 54) (bs + 594) 1542 [(0, .ref 0), (1, .ref 80), (2, .ref 84), (3, .ref 419), (4, .int i)] [.int k0] P PX
  refine qq_istore (loc' := [(0, .ref 0), (1, .ref 80), (2, .ref 84), (3, .ref 419), (4, .int i), (5, .int k0)]) dL_law_1542 [1, 2, 3, 4, 5, 0] (Nat.le_of_ble_eq_true rfl) rfl ?_
  refine qq_aload_n dL_law_1544 rfl 2 rfl ?_
  refine qq_aload_n dL_law_1545 rfl 0 rfl ?_
  refine qq_iload dL_law_1546 4 rfl ?_
  refine qq_iconst (v := 1) dL_law_1548 (by decide) ?_
  refine qq_iadd dL_law_1549 ?_
  refine qq_iald dL_law_1550 h1.2.2.2.2.2 hi1 ?_
  rw [e1]
  refine qq_less (bc' := bc + 0 + 54) (bs' := bs + 0 + 594) (by omega) (by omega) ?_
  have hI := h1.2.2.2.2.1
  obtain ⟨A, hA⟩ := h1.2.1
  refine qq_callV (bc := bc + 0) (bs := bs + 0) (mc := 54) (ms := 594) (o := 84) (ci := 4) (N := 11) (T := TX7) (as := [.int x1]) (rest := []) dL_law_1551 hA.2.2.1 (by decide) rfl (mt_X7_rank hp1 A T hA x1 hI) rfl kl_L_288 kn_X7_rank ke_X7_rank ki_X7 kc_X7_rank kd_X7_rank rfl (by decide) (by decide) (Nat.le_of_ble_eq_true rfl) (fun v hp2 hv _ _ => ?_) (fun E hp2 zx _ _ => zx.elim)
  obtain ⟨rfl, hA2, f2⟩ := hv
  have h2 := LI_m h1 hA hA2 f2 (im_o hI (tu_rank _ _))
  show qq_Go mL_law hp2 (bc + 0) (bs + 0) 1554 [(0, .ref 0), (1, .ref 80), (2, .ref 84), (3, .ref 419), (4, .int i), (5, .int k0)] [.int ((r_X7_rank x1 T).1)] P PX
  refine qq_istore (loc' := [(0, .ref 0), (1, .ref 80), (2, .ref 84), (3, .ref 419), (4, .int i), (5, .int k0), (6, .int ((r_X7_rank x1 T).1))]) dL_law_1554 [1, 2, 3, 4, 5, 6, 0] (Nat.le_of_ble_eq_true rfl) rfl ?_
  refine qq_goto (tgt := 1990) dL_law_1556 (by decide) ?_
  refine qq_loc [0, 1, 2, 3, 4] rfl ?_
  exact qq_less (bc' := bc) (bs' := bs) (by omega) (by omega) (KK hp2 S1 (r_X7_rank x1 T).2 h2 (rk_rank hI hR D))
set_option maxRecDepth 4000 in
theorem lc_35 {n : Nat} {f : Nat → Int32} {P : Option Value → qq_H → Prop} {PX : String → qq_H → Prop} {S : sX} {T : sM} {hp : qq_H} (h : LI n f S T hp) (hR : RelL S T) {i x1 x2 x3 : Int32} (e1 : f (i + 1).toNatClampNeg = x1) (e2 : f (i + 2).toNatClampNeg = x2) (e3 : f (i + 3).toNatClampNeg = x3) (hi1 : vp_in (i + 1) n) (hi2 : vp_in (i + 2) n) (hi3 : vp_in (i + 3) n) (bc bs : Nat) (KK : ∀ (hp' : qq_H) (S' : sX) (T' : sM), LI n f S' T' hp' → RelL S' T' → qq_Go mL_law hp' bc bs 1990 [(0, .ref 0), (1, .ref 80), (2, .ref 84), (3, .ref 419), (4, .int i)] [] P PX) : qq_Go mL_law hp (bc + 38) (bs + 408) 1559 [(0, .ref 0), (1, .ref 80), (2, .ref 84), (3, .ref 419), (4, .int i)] [] P PX := by
  refine qq_aload_n dL_law_1559 rfl 1 rfl ?_
  refine qq_aload_n dL_law_1560 rfl 0 rfl ?_
  refine qq_iload dL_law_1561 4 rfl ?_
  refine qq_iconst (v := 1) dL_law_1563 (by decide) ?_
  refine qq_iadd dL_law_1564 ?_
  refine qq_iald dL_law_1565 h.2.2.2.2.2 hi1 ?_
  rw [e1]
  refine qq_aload_n dL_law_1566 rfl 0 rfl ?_
  refine qq_iload dL_law_1567 4 rfl ?_
  refine qq_iconst (v := 2) dL_law_1569 (by decide) ?_
  refine qq_iadd dL_law_1570 ?_
  refine qq_iald dL_law_1571 h.2.2.2.2.2 hi2 ?_
  rw [e2]
  refine qq_aload_n dL_law_1572 rfl 3 rfl ?_
  refine qq_less (bc' := bc + 36 + 2) (bs' := bs + 396 + 12) (by omega) (by omega) ?_
  obtain ⟨y0, sv0, ho0⟩ := h.2.2.1
  refine qq_callSX (bc := bc + 36) (bs := bs + 396) (mc := 2) (ms := 12) (as := [.ref 80, .int x1, .int x2, .ref 419]) (rest := []) dL_law_1573 (mt_L_before hp S h.1 419 y0 sv0 ho0 (by decide) x1 x2) rfl kl_L_289 ks_L_before ki_L kc_L_before kd_L_before rfl (by decide) (by decide) (Nat.le_of_ble_eq_true rfl) (fun v hp1 hv _ _ => ?_) (fun E hp1 zx _ _ => zx.elim)
  obtain ⟨k0, n0, S1, rfl, c1, c2, c3, D⟩ := hv
  have h1 := LI_c h c1 c2 c3
  show qq_Go mL_law hp1 (bc + 36) (bs + 396) 1576 [(0, .ref 0), (1, .ref 80), (2, .ref 84), (3, .ref 419), (4, .int i)] [.int k0] P PX
  refine qq_istore (loc' := [(0, .ref 0), (1, .ref 80), (2, .ref 84), (3, .ref 419), (4, .int i), (5, .int k0)]) dL_law_1576 [1, 2, 3, 4, 5, 0] (Nat.le_of_ble_eq_true rfl) rfl ?_
  refine qq_aload_n dL_law_1578 rfl 2 rfl ?_
  refine qq_aload_n dL_law_1579 rfl 0 rfl ?_
  refine qq_iload dL_law_1580 4 rfl ?_
  refine qq_iconst (v := 1) dL_law_1582 (by decide) ?_
  refine qq_iadd dL_law_1583 ?_
  refine qq_iald dL_law_1584 h1.2.2.2.2.2 hi1 ?_
  rw [e1]
  refine qq_aload_n dL_law_1585 rfl 0 rfl ?_
  refine qq_iload dL_law_1586 4 rfl ?_
  refine qq_iconst (v := 2) dL_law_1588 (by decide) ?_
  refine qq_iadd dL_law_1589 ?_
  refine qq_iald dL_law_1590 h1.2.2.2.2.2 hi2 ?_
  rw [e2]
  refine qq_less (bc' := bc + 0 + 36) (bs' := bs + 0 + 396) (by omega) (by omega) ?_
  have hI := h1.2.2.2.2.1
  obtain ⟨A, hA⟩ := h1.2.1
  refine qq_callV (bc := bc + 0) (bs := bs + 0) (mc := 36) (ms := 396) (o := 84) (ci := 4) (N := 11) (T := TX7) (as := [.int x1, .int x2]) (rest := []) dL_law_1591 hA.2.2.1 (by decide) rfl (mt_X7_before hp1 A T hA x1 x2 hI) rfl kl_L_291 kn_X7_before ke_X7_before ki_X7 kc_X7_before kd_X7_before rfl (by decide) (by decide) (Nat.le_of_ble_eq_true rfl) (fun v hp2 hv _ _ => ?_) (fun E hp2 zx _ _ => zx.elim)
  obtain ⟨rfl, hA2, f2⟩ := hv
  have h2 := LI_m h1 hA hA2 f2 (im_o hI (tu_before _ _ _))
  show qq_Go mL_law hp2 (bc + 0) (bs + 0) 1594 [(0, .ref 0), (1, .ref 80), (2, .ref 84), (3, .ref 419), (4, .int i), (5, .int k0)] [.int ((r_X7_before x1 x2 T).1)] P PX
  refine qq_istore (loc' := [(0, .ref 0), (1, .ref 80), (2, .ref 84), (3, .ref 419), (4, .int i), (5, .int k0), (6, .int ((r_X7_before x1 x2 T).1))]) dL_law_1594 [1, 2, 3, 4, 5, 6, 0] (Nat.le_of_ble_eq_true rfl) rfl ?_
  refine qq_goto (tgt := 1990) dL_law_1596 (by decide) ?_
  refine qq_loc [0, 1, 2, 3, 4] rfl ?_
  exact qq_less (bc' := bc) (bs' := bs) (by omega) (by omega) (KK hp2 S1 (r_X7_before x1 x2 T).2 h2 (rk_before hI hR D))
set_option maxRecDepth 4000 in
theorem lc_36 {n : Nat} {f : Nat → Int32} {P : Option Value → qq_H → Prop} {PX : String → qq_H → Prop} {S : sX} {T : sM} {hp : qq_H} (h : LI n f S T hp) (hR : RelL S T) {i x1 x2 x3 : Int32} (e1 : f (i + 1).toNatClampNeg = x1) (e2 : f (i + 2).toNatClampNeg = x2) (e3 : f (i + 3).toNatClampNeg = x3) (hi1 : vp_in (i + 1) n) (hi2 : vp_in (i + 2) n) (hi3 : vp_in (i + 3) n) (bc bs : Nat) (KK : ∀ (hp' : qq_H) (S' : sX) (T' : sM), LI n f S' T' hp' → RelL S' T' → qq_Go mL_law hp' bc bs 1990 [(0, .ref 0), (1, .ref 80), (2, .ref 84), (3, .ref 419), (4, .int i)] [] P PX) : qq_Go mL_law hp (bc + 7) (bs + 57) 1599 [(0, .ref 0), (1, .ref 80), (2, .ref 84), (3, .ref 419), (4, .int i)] [] P PX := by
  refine qq_aload_n dL_law_1599 rfl 1 rfl ?_
  refine qq_aload_n dL_law_1600 rfl 0 rfl ?_
  refine qq_iload dL_law_1601 4 rfl ?_
  refine qq_iconst (v := 1) dL_law_1603 (by decide) ?_
  refine qq_iadd dL_law_1604 ?_
  refine qq_iald dL_law_1605 h.2.2.2.2.2 hi1 ?_
  rw [e1]
  refine qq_aload_n dL_law_1606 rfl 0 rfl ?_
  refine qq_iload dL_law_1607 4 rfl ?_
  refine qq_iconst (v := 2) dL_law_1609 (by decide) ?_
  refine qq_iadd dL_law_1610 ?_
  refine qq_iald dL_law_1611 h.2.2.2.2.2 hi2 ?_
  rw [e2]
  refine qq_aload_n dL_law_1612 rfl 0 rfl ?_
  refine qq_iload dL_law_1613 4 rfl ?_
  refine qq_iconst (v := 3) dL_law_1615 (by decide) ?_
  refine qq_iadd dL_law_1616 ?_
  refine qq_iald dL_law_1617 h.2.2.2.2.2 hi3 ?_
  rw [e3]
  refine qq_aload_n dL_law_1618 rfl 3 rfl ?_
  refine qq_less (bc' := bc + 3 + 4) (bs' := bs + 33 + 24) (by omega) (by omega) ?_
  obtain ⟨y0, sv0, ho0⟩ := h.2.2.1
  refine qq_callSX (bc := bc + 3) (bs := bs + 33) (mc := 4) (ms := 24) (as := [.ref 80, .int x1, .int x2, .int x3, .ref 419]) (rest := []) dL_law_1619 (mt_L_answer hp S h.1 419 y0 sv0 ho0 (by decide) x1 x2 x3) rfl kl_L_292 ks_L_answer ki_L kc_L_answer kd_L_answer rfl (by decide) (by decide) (Nat.le_of_ble_eq_true rfl) (fun v hp1 hv _ _ => ?_) (fun E hp1 zx _ _ => zx.elim)
  obtain ⟨k0, n0, S1, rfl, c1, c2, c3, D⟩ := hv
  have h1 := LI_c h c1 c2 c3
  show qq_Go mL_law hp1 (bc + 3) (bs + 33) 1622 [(0, .ref 0), (1, .ref 80), (2, .ref 84), (3, .ref 419), (4, .int i)] [.int k0] P PX
  refine qq_istore (loc' := [(0, .ref 0), (1, .ref 80), (2, .ref 84), (3, .ref 419), (4, .int i), (5, .int k0)]) dL_law_1622 [1, 2, 3, 4, 5, 0] (Nat.le_of_ble_eq_true rfl) rfl ?_
  refine qq_aload_n dL_law_1624 rfl 2 rfl ?_
  refine qq_aload_n dL_law_1625 rfl 0 rfl ?_
  refine qq_iload dL_law_1626 4 rfl ?_
  refine qq_iconst (v := 1) dL_law_1628 (by decide) ?_
  refine qq_iadd dL_law_1629 ?_
  refine qq_iald dL_law_1630 h1.2.2.2.2.2 hi1 ?_
  rw [e1]
  refine qq_aload_n dL_law_1631 rfl 0 rfl ?_
  refine qq_iload dL_law_1632 4 rfl ?_
  refine qq_iconst (v := 2) dL_law_1634 (by decide) ?_
  refine qq_iadd dL_law_1635 ?_
  refine qq_iald dL_law_1636 h1.2.2.2.2.2 hi2 ?_
  rw [e2]
  refine qq_aload_n dL_law_1637 rfl 0 rfl ?_
  refine qq_iload dL_law_1638 4 rfl ?_
  refine qq_iconst (v := 3) dL_law_1640 (by decide) ?_
  refine qq_iadd dL_law_1641 ?_
  refine qq_iald dL_law_1642 h1.2.2.2.2.2 hi3 ?_
  rw [e3]
  refine qq_less (bc' := bc + 0 + 3) (bs' := bs + 0 + 33) (by omega) (by omega) ?_
  have hI := h1.2.2.2.2.1
  obtain ⟨A, hA⟩ := h1.2.1
  refine qq_callV (bc := bc + 0) (bs := bs + 0) (mc := 3) (ms := 33) (o := 84) (ci := 4) (N := 11) (T := TX7) (as := [.int x1, .int x2, .int x3]) (rest := []) dL_law_1643 hA.2.2.1 (by decide) rfl (mt_X7_answer hp1 A T hA x1 x2 x3) rfl kl_L_294 kn_X7_answer ke_X7_answer ki_X7 kc_X7_answer kd_X7_answer rfl (by decide) (by decide) (Nat.le_of_ble_eq_true rfl) (fun v hp2 hv _ _ => ?_) (fun E hp2 zx _ _ => zx.elim)
  obtain ⟨rfl, hA2, f2⟩ := hv
  have h2 := LI_m h1 hA hA2 f2 (im_o hI (tu_answer _ _ _ _))
  show qq_Go mL_law hp2 (bc + 0) (bs + 0) 1646 [(0, .ref 0), (1, .ref 80), (2, .ref 84), (3, .ref 419), (4, .int i), (5, .int k0)] [.int ((r_X7_answer x1 x2 x3 T).1)] P PX
  refine qq_istore (loc' := [(0, .ref 0), (1, .ref 80), (2, .ref 84), (3, .ref 419), (4, .int i), (5, .int k0), (6, .int ((r_X7_answer x1 x2 x3 T).1))]) dL_law_1646 [1, 2, 3, 4, 5, 6, 0] (Nat.le_of_ble_eq_true rfl) rfl ?_
  refine qq_goto (tgt := 1990) dL_law_1648 (by decide) ?_
  refine qq_loc [0, 1, 2, 3, 4] rfl ?_
  exact qq_less (bc' := bc) (bs' := bs) (by omega) (by omega) (KK hp2 S1 (r_X7_answer x1 x2 x3 T).2 h2 (rk_answer hI hR D))
set_option maxRecDepth 4000 in
theorem lc_37 {n : Nat} {f : Nat → Int32} {P : Option Value → qq_H → Prop} {PX : String → qq_H → Prop} {S : sX} {T : sM} {hp : qq_H} (h : LI n f S T hp) (hR : RelL S T) {i x1 x2 x3 : Int32} (e1 : f (i + 1).toNatClampNeg = x1) (e2 : f (i + 2).toNatClampNeg = x2) (e3 : f (i + 3).toNatClampNeg = x3) (hi1 : vp_in (i + 1) n) (hi2 : vp_in (i + 2) n) (hi3 : vp_in (i + 3) n) (bc bs : Nat) (KK : ∀ (hp' : qq_H) (S' : sX) (T' : sM), LI n f S' T' hp' → RelL S' T' → qq_Go mL_law hp' bc bs 1990 [(0, .ref 0), (1, .ref 80), (2, .ref 84), (3, .ref 419), (4, .int i)] [] P PX) : qq_Go mL_law hp (bc + 36) (bs + 386) 1651 [(0, .ref 0), (1, .ref 80), (2, .ref 84), (3, .ref 419), (4, .int i)] [] P PX := by
  refine qq_aload_n dL_law_1651 rfl 1 rfl ?_
  refine qq_aload_n dL_law_1652 rfl 0 rfl ?_
  refine qq_iload dL_law_1653 4 rfl ?_
  refine qq_iconst (v := 1) dL_law_1655 (by decide) ?_
  refine qq_iadd dL_law_1656 ?_
  refine qq_iald dL_law_1657 h.2.2.2.2.2 hi1 ?_
  rw [e1]
  refine qq_aload_n dL_law_1658 rfl 0 rfl ?_
  refine qq_iload dL_law_1659 4 rfl ?_
  refine qq_iconst (v := 2) dL_law_1661 (by decide) ?_
  refine qq_iadd dL_law_1662 ?_
  refine qq_iald dL_law_1663 h.2.2.2.2.2 hi2 ?_
  rw [e2]
  refine qq_aload_n dL_law_1664 rfl 0 rfl ?_
  refine qq_iload dL_law_1665 4 rfl ?_
  refine qq_iconst (v := 3) dL_law_1667 (by decide) ?_
  refine qq_iadd dL_law_1668 ?_
  refine qq_iald dL_law_1669 h.2.2.2.2.2 hi3 ?_
  rw [e3]
  refine qq_aload_n dL_law_1670 rfl 3 rfl ?_
  refine qq_less (bc' := bc + 34 + 2) (bs' := bs + 374 + 12) (by omega) (by omega) ?_
  obtain ⟨y0, sv0, ho0⟩ := h.2.2.1
  refine qq_callSX (bc := bc + 34) (bs := bs + 374) (mc := 2) (ms := 12) (as := [.ref 80, .int x1, .int x2, .int x3, .ref 419]) (rest := []) dL_law_1671 (mt_L_below hp S h.1 419 y0 sv0 ho0 (by decide) x1 x2 x3) rfl kl_L_295 ks_L_below ki_L kc_L_below kd_L_below rfl (by decide) (by decide) (Nat.le_of_ble_eq_true rfl) (fun v hp1 hv _ _ => ?_) (fun E hp1 zx _ _ => zx.elim)
  obtain ⟨k0, n0, S1, rfl, c1, c2, c3, D⟩ := hv
  have h1 := LI_c h c1 c2 c3
  show qq_Go mL_law hp1 (bc + 34) (bs + 374) 1674 [(0, .ref 0), (1, .ref 80), (2, .ref 84), (3, .ref 419), (4, .int i)] [.int k0] P PX
  refine qq_istore (loc' := [(0, .ref 0), (1, .ref 80), (2, .ref 84), (3, .ref 419), (4, .int i), (5, .int k0)]) dL_law_1674 [1, 2, 3, 4, 5, 0] (Nat.le_of_ble_eq_true rfl) rfl ?_
  refine qq_aload_n dL_law_1676 rfl 2 rfl ?_
  refine qq_aload_n dL_law_1677 rfl 0 rfl ?_
  refine qq_iload dL_law_1678 4 rfl ?_
  refine qq_iconst (v := 1) dL_law_1680 (by decide) ?_
  refine qq_iadd dL_law_1681 ?_
  refine qq_iald dL_law_1682 h1.2.2.2.2.2 hi1 ?_
  rw [e1]
  refine qq_aload_n dL_law_1683 rfl 0 rfl ?_
  refine qq_iload dL_law_1684 4 rfl ?_
  refine qq_iconst (v := 2) dL_law_1686 (by decide) ?_
  refine qq_iadd dL_law_1687 ?_
  refine qq_iald dL_law_1688 h1.2.2.2.2.2 hi2 ?_
  rw [e2]
  refine qq_aload_n dL_law_1689 rfl 0 rfl ?_
  refine qq_iload dL_law_1690 4 rfl ?_
  refine qq_iconst (v := 3) dL_law_1692 (by decide) ?_
  refine qq_iadd dL_law_1693 ?_
  refine qq_iald dL_law_1694 h1.2.2.2.2.2 hi3 ?_
  rw [e3]
  refine qq_less (bc' := bc + 0 + 34) (bs' := bs + 0 + 374) (by omega) (by omega) ?_
  have hI := h1.2.2.2.2.1
  obtain ⟨A, hA⟩ := h1.2.1
  refine qq_callV (bc := bc + 0) (bs := bs + 0) (mc := 34) (ms := 374) (o := 84) (ci := 4) (N := 11) (T := TX7) (as := [.int x1, .int x2, .int x3]) (rest := []) dL_law_1695 hA.2.2.1 (by decide) rfl (mt_X7_below hp1 A T hA x1 x2 x3) rfl kl_L_297 kn_X7_below ke_X7_below ki_X7 kc_X7_below kd_X7_below rfl (by decide) (by decide) (Nat.le_of_ble_eq_true rfl) (fun v hp2 hv _ _ => ?_) (fun E hp2 zx _ _ => zx.elim)
  obtain ⟨rfl, hA2, f2⟩ := hv
  have h2 := LI_m h1 hA hA2 f2 (im_o hI (tu_below _ _ _ _))
  show qq_Go mL_law hp2 (bc + 0) (bs + 0) 1698 [(0, .ref 0), (1, .ref 80), (2, .ref 84), (3, .ref 419), (4, .int i), (5, .int k0)] [.int ((r_X7_below x1 x2 x3 T).1)] P PX
  refine qq_istore (loc' := [(0, .ref 0), (1, .ref 80), (2, .ref 84), (3, .ref 419), (4, .int i), (5, .int k0), (6, .int ((r_X7_below x1 x2 x3 T).1))]) dL_law_1698 [1, 2, 3, 4, 5, 6, 0] (Nat.le_of_ble_eq_true rfl) rfl ?_
  refine qq_goto (tgt := 1990) dL_law_1700 (by decide) ?_
  refine qq_loc [0, 1, 2, 3, 4] rfl ?_
  exact qq_less (bc' := bc) (bs' := bs) (by omega) (by omega) (KK hp2 S1 (r_X7_below x1 x2 x3 T).2 h2 (rk_below hI hR D))
set_option maxRecDepth 4000 in
theorem lc_38 {n : Nat} {f : Nat → Int32} {P : Option Value → qq_H → Prop} {PX : String → qq_H → Prop} {S : sX} {T : sM} {hp : qq_H} (h : LI n f S T hp) (hR : RelL S T) {i x1 x2 x3 : Int32} (e1 : f (i + 1).toNatClampNeg = x1) (e2 : f (i + 2).toNatClampNeg = x2) (e3 : f (i + 3).toNatClampNeg = x3) (hi1 : vp_in (i + 1) n) (hi2 : vp_in (i + 2) n) (hi3 : vp_in (i + 3) n) (bc bs : Nat) (KK : ∀ (hp' : qq_H) (S' : sX) (T' : sM), LI n f S' T' hp' → RelL S' T' → qq_Go mL_law hp' bc bs 1990 [(0, .ref 0), (1, .ref 80), (2, .ref 84), (3, .ref 419), (4, .int i)] [] P PX) : qq_Go mL_law hp (bc + 1935) (bs + 21270) 1703 [(0, .ref 0), (1, .ref 80), (2, .ref 84), (3, .ref 419), (4, .int i)] [] P PX := by
  refine qq_aload_n dL_law_1703 rfl 1 rfl ?_
  refine qq_aload_n dL_law_1704 rfl 0 rfl ?_
  refine qq_iload dL_law_1705 4 rfl ?_
  refine qq_iconst (v := 1) dL_law_1707 (by decide) ?_
  refine qq_iadd dL_law_1708 ?_
  refine qq_iald dL_law_1709 h.2.2.2.2.2 hi1 ?_
  rw [e1]
  refine qq_aload_n dL_law_1710 rfl 0 rfl ?_
  refine qq_iload dL_law_1711 4 rfl ?_
  refine qq_iconst (v := 2) dL_law_1713 (by decide) ?_
  refine qq_iadd dL_law_1714 ?_
  refine qq_iald dL_law_1715 h.2.2.2.2.2 hi2 ?_
  rw [e2]
  refine qq_aload_n dL_law_1716 rfl 0 rfl ?_
  refine qq_iload dL_law_1717 4 rfl ?_
  refine qq_iconst (v := 3) dL_law_1719 (by decide) ?_
  refine qq_iadd dL_law_1720 ?_
  refine qq_iald dL_law_1721 h.2.2.2.2.2 hi3 ?_
  rw [e3]
  refine qq_aload_n dL_law_1722 rfl 3 rfl ?_
  refine qq_less (bc' := bc + 1932 + 3) (bs' := bs + 21252 + 18) (by omega) (by omega) ?_
  obtain ⟨y0, sv0, ho0⟩ := h.2.2.1
  refine qq_callSX (bc := bc + 1932) (bs := bs + 21252) (mc := 3) (ms := 18) (as := [.ref 80, .int x1, .int x2, .int x3, .ref 419]) (rest := []) dL_law_1723 (mt_L_rises hp S h.1 419 y0 sv0 ho0 (by decide) x1 x2 x3) rfl kl_L_298 ks_L_rises ki_L kc_L_rises kd_L_rises rfl (by decide) (by decide) (Nat.le_of_ble_eq_true rfl) (fun v hp1 hv _ _ => ?_) (fun E hp1 zx _ _ => zx.elim)
  obtain ⟨k0, n0, S1, rfl, c1, c2, c3, D⟩ := hv
  have h1 := LI_c h c1 c2 c3
  show qq_Go mL_law hp1 (bc + 1932) (bs + 21252) 1726 [(0, .ref 0), (1, .ref 80), (2, .ref 84), (3, .ref 419), (4, .int i)] [.int k0] P PX
  refine qq_istore (loc' := [(0, .ref 0), (1, .ref 80), (2, .ref 84), (3, .ref 419), (4, .int i), (5, .int k0)]) dL_law_1726 [1, 2, 3, 4, 5, 0] (Nat.le_of_ble_eq_true rfl) rfl ?_
  refine qq_aload_n dL_law_1728 rfl 2 rfl ?_
  refine qq_aload_n dL_law_1729 rfl 0 rfl ?_
  refine qq_iload dL_law_1730 4 rfl ?_
  refine qq_iconst (v := 1) dL_law_1732 (by decide) ?_
  refine qq_iadd dL_law_1733 ?_
  refine qq_iald dL_law_1734 h1.2.2.2.2.2 hi1 ?_
  rw [e1]
  refine qq_aload_n dL_law_1735 rfl 0 rfl ?_
  refine qq_iload dL_law_1736 4 rfl ?_
  refine qq_iconst (v := 2) dL_law_1738 (by decide) ?_
  refine qq_iadd dL_law_1739 ?_
  refine qq_iald dL_law_1740 h1.2.2.2.2.2 hi2 ?_
  rw [e2]
  refine qq_aload_n dL_law_1741 rfl 0 rfl ?_
  refine qq_iload dL_law_1742 4 rfl ?_
  refine qq_iconst (v := 3) dL_law_1744 (by decide) ?_
  refine qq_iadd dL_law_1745 ?_
  refine qq_iald dL_law_1746 h1.2.2.2.2.2 hi3 ?_
  rw [e3]
  refine qq_less (bc' := bc + 0 + 1932) (bs' := bs + 0 + 21252) (by omega) (by omega) ?_
  have hI := h1.2.2.2.2.1
  obtain ⟨A, hA⟩ := h1.2.1
  refine qq_callV (bc := bc + 0) (bs := bs + 0) (mc := 1932) (ms := 21252) (o := 84) (ci := 4) (N := 11) (T := TX7) (as := [.int x1, .int x2, .int x3]) (rest := []) dL_law_1747 hA.2.2.1 (by decide) rfl (mt_X7_rises hp1 A T hA x1 x2 x3) rfl kl_L_300 kn_X7_rises ke_X7_rises ki_X7 kc_X7_rises kd_X7_rises rfl (by decide) (by decide) (Nat.le_of_ble_eq_true rfl) (fun v hp2 hv _ _ => ?_) (fun E hp2 zx _ _ => zx.elim)
  obtain ⟨rfl, hA2, f2⟩ := hv
  have h2 := LI_m h1 hA hA2 f2 (im_o hI (tu_rises _ _ _ _))
  show qq_Go mL_law hp2 (bc + 0) (bs + 0) 1750 [(0, .ref 0), (1, .ref 80), (2, .ref 84), (3, .ref 419), (4, .int i), (5, .int k0)] [.int ((r_X7_rises x1 x2 x3 T).1)] P PX
  refine qq_istore (loc' := [(0, .ref 0), (1, .ref 80), (2, .ref 84), (3, .ref 419), (4, .int i), (5, .int k0), (6, .int ((r_X7_rises x1 x2 x3 T).1))]) dL_law_1750 [1, 2, 3, 4, 5, 6, 0] (Nat.le_of_ble_eq_true rfl) rfl ?_
  refine qq_goto (tgt := 1990) dL_law_1752 (by decide) ?_
  refine qq_loc [0, 1, 2, 3, 4] rfl ?_
  exact qq_less (bc' := bc) (bs' := bs) (by omega) (by omega) (KK hp2 S1 (r_X7_rises x1 x2 x3 T).2 h2 (rk_rises hI hR D))
set_option maxRecDepth 4000 in
theorem lc_39 {n : Nat} {f : Nat → Int32} {P : Option Value → qq_H → Prop} {PX : String → qq_H → Prop} {S : sX} {T : sM} {hp : qq_H} (h : LI n f S T hp) (hR : RelL S T) {i x1 x2 x3 : Int32} (e1 : f (i + 1).toNatClampNeg = x1) (e2 : f (i + 2).toNatClampNeg = x2) (e3 : f (i + 3).toNatClampNeg = x3) (hi1 : vp_in (i + 1) n) (hi2 : vp_in (i + 2) n) (hi3 : vp_in (i + 3) n) (bc bs : Nat) (KK : ∀ (hp' : qq_H) (S' : sX) (T' : sM), LI n f S' T' hp' → RelL S' T' → qq_Go mL_law hp' bc bs 1990 [(0, .ref 0), (1, .ref 80), (2, .ref 84), (3, .ref 419), (4, .int i)] [] P PX) : qq_Go mL_law hp (bc + 9) (bs + 94) 1755 [(0, .ref 0), (1, .ref 80), (2, .ref 84), (3, .ref 419), (4, .int i)] [] P PX := by
  refine qq_aload_n dL_law_1755 rfl 1 rfl ?_
  refine qq_aload_n dL_law_1756 rfl 0 rfl ?_
  refine qq_iload dL_law_1757 4 rfl ?_
  refine qq_iconst (v := 1) dL_law_1759 (by decide) ?_
  refine qq_iadd dL_law_1760 ?_
  refine qq_iald dL_law_1761 h.2.2.2.2.2 hi1 ?_
  rw [e1]
  refine qq_aload_n dL_law_1762 rfl 3 rfl ?_
  refine qq_less (bc' := bc + 8 + 1) (bs' := bs + 88 + 6) (by omega) (by omega) ?_
  obtain ⟨y0, sv0, ho0⟩ := h.2.2.1
  refine qq_callSX (bc := bc + 8) (bs := bs + 88) (mc := 1) (ms := 6) (as := [.ref 80, .int x1, .ref 419]) (rest := []) dL_law_1763 (mt_L_between hp S h.1 419 y0 sv0 ho0 (by decide) x1) rfl kl_L_301 ks_L_between ki_L kc_L_between kd_L_between rfl (by decide) (by decide) (Nat.le_of_ble_eq_true rfl) (fun v hp1 hv _ _ => ?_) (fun E hp1 zx _ _ => zx.elim)
  obtain ⟨k0, n0, S1, rfl, c1, c2, c3, D⟩ := hv
  have h1 := LI_c h c1 c2 c3
  show qq_Go mL_law hp1 (bc + 8) (bs + 88) 1766 [(0, .ref 0), (1, .ref 80), (2, .ref 84), (3, .ref 419), (4, .int i)] [.int k0] P PX
  refine qq_istore (loc' := [(0, .ref 0), (1, .ref 80), (2, .ref 84), (3, .ref 419), (4, .int i), (5, .int k0)]) dL_law_1766 [1, 2, 3, 4, 5, 0] (Nat.le_of_ble_eq_true rfl) rfl ?_
  refine qq_aload_n dL_law_1768 rfl 2 rfl ?_
  refine qq_aload_n dL_law_1769 rfl 0 rfl ?_
  refine qq_iload dL_law_1770 4 rfl ?_
  refine qq_iconst (v := 1) dL_law_1772 (by decide) ?_
  refine qq_iadd dL_law_1773 ?_
  refine qq_iald dL_law_1774 h1.2.2.2.2.2 hi1 ?_
  rw [e1]
  refine qq_less (bc' := bc + 0 + 8) (bs' := bs + 0 + 88) (by omega) (by omega) ?_
  have hI := h1.2.2.2.2.1
  obtain ⟨A, hA⟩ := h1.2.1
  refine qq_callV (bc := bc + 0) (bs := bs + 0) (mc := 8) (ms := 88) (o := 84) (ci := 4) (N := 11) (T := TX7) (as := [.int x1]) (rest := []) dL_law_1775 hA.2.2.1 (by decide) rfl (mt_X7_between hp1 A T hA x1) rfl kl_L_303 kn_X7_between ke_X7_between ki_X7 kc_X7_between kd_X7_between rfl (by decide) (by decide) (Nat.le_of_ble_eq_true rfl) (fun v hp2 hv _ _ => ?_) (fun E hp2 zx _ _ => zx.elim)
  obtain ⟨rfl, hA2, f2⟩ := hv
  have h2 := LI_m h1 hA hA2 f2 (im_o hI (tu_between _ _))
  show qq_Go mL_law hp2 (bc + 0) (bs + 0) 1778 [(0, .ref 0), (1, .ref 80), (2, .ref 84), (3, .ref 419), (4, .int i), (5, .int k0)] [.int ((r_X7_between x1 T).1)] P PX
  refine qq_istore (loc' := [(0, .ref 0), (1, .ref 80), (2, .ref 84), (3, .ref 419), (4, .int i), (5, .int k0), (6, .int ((r_X7_between x1 T).1))]) dL_law_1778 [1, 2, 3, 4, 5, 6, 0] (Nat.le_of_ble_eq_true rfl) rfl ?_
  refine qq_goto (tgt := 1990) dL_law_1780 (by decide) ?_
  refine qq_loc [0, 1, 2, 3, 4] rfl ?_
  exact qq_less (bc' := bc) (bs' := bs) (by omega) (by omega) (KK hp2 S1 (r_X7_between x1 T).2 h2 (rk_between hI hR D))
set_option maxRecDepth 4000 in
theorem lc_40 {n : Nat} {f : Nat → Int32} {P : Option Value → qq_H → Prop} {PX : String → qq_H → Prop} {S : sX} {T : sM} {hp : qq_H} (h : LI n f S T hp) (hR : RelL S T) {i x1 x2 x3 : Int32} (e1 : f (i + 1).toNatClampNeg = x1) (e2 : f (i + 2).toNatClampNeg = x2) (e3 : f (i + 3).toNatClampNeg = x3) (hi1 : vp_in (i + 1) n) (hi2 : vp_in (i + 2) n) (hi3 : vp_in (i + 3) n) (bc bs : Nat) (KK : ∀ (hp' : qq_H) (S' : sX) (T' : sM), LI n f S' T' hp' → RelL S' T' → qq_Go mL_law hp' bc bs 1990 [(0, .ref 0), (1, .ref 80), (2, .ref 84), (3, .ref 419), (4, .int i)] [] P PX) : qq_Go mL_law hp (bc + 5) (bs + 50) 1783 [(0, .ref 0), (1, .ref 80), (2, .ref 84), (3, .ref 419), (4, .int i)] [] P PX := by
  refine qq_aload_n dL_law_1783 rfl 1 rfl ?_
  refine qq_aload_n dL_law_1784 rfl 0 rfl ?_
  refine qq_iload dL_law_1785 4 rfl ?_
  refine qq_iconst (v := 1) dL_law_1787 (by decide) ?_
  refine qq_iadd dL_law_1788 ?_
  refine qq_iald dL_law_1789 h.2.2.2.2.2 hi1 ?_
  rw [e1]
  refine qq_aload_n dL_law_1790 rfl 3 rfl ?_
  refine qq_less (bc' := bc + 4 + 1) (bs' := bs + 44 + 6) (by omega) (by omega) ?_
  obtain ⟨y0, sv0, ho0⟩ := h.2.2.1
  refine qq_callSX (bc := bc + 4) (bs := bs + 44) (mc := 1) (ms := 6) (as := [.ref 80, .int x1, .ref 419]) (rest := []) dL_law_1791 (mt_L_lies hp S h.1 419 y0 sv0 ho0 (by decide) x1) rfl kl_L_304 ks_L_lies ki_L kc_L_lies kd_L_lies rfl (by decide) (by decide) (Nat.le_of_ble_eq_true rfl) (fun v hp1 hv _ _ => ?_) (fun E hp1 zx _ _ => zx.elim)
  obtain ⟨k0, n0, S1, rfl, c1, c2, c3, D⟩ := hv
  have h1 := LI_c h c1 c2 c3
  show qq_Go mL_law hp1 (bc + 4) (bs + 44) 1794 [(0, .ref 0), (1, .ref 80), (2, .ref 84), (3, .ref 419), (4, .int i)] [.int k0] P PX
  refine qq_istore (loc' := [(0, .ref 0), (1, .ref 80), (2, .ref 84), (3, .ref 419), (4, .int i), (5, .int k0)]) dL_law_1794 [1, 2, 3, 4, 5, 0] (Nat.le_of_ble_eq_true rfl) rfl ?_
  refine qq_aload_n dL_law_1796 rfl 2 rfl ?_
  refine qq_aload_n dL_law_1797 rfl 0 rfl ?_
  refine qq_iload dL_law_1798 4 rfl ?_
  refine qq_iconst (v := 1) dL_law_1800 (by decide) ?_
  refine qq_iadd dL_law_1801 ?_
  refine qq_iald dL_law_1802 h1.2.2.2.2.2 hi1 ?_
  rw [e1]
  refine qq_less (bc' := bc + 0 + 4) (bs' := bs + 0 + 44) (by omega) (by omega) ?_
  have hI := h1.2.2.2.2.1
  obtain ⟨A, hA⟩ := h1.2.1
  refine qq_callV (bc := bc + 0) (bs := bs + 0) (mc := 4) (ms := 44) (o := 84) (ci := 4) (N := 11) (T := TX7) (as := [.int x1]) (rest := []) dL_law_1803 hA.2.2.1 (by decide) rfl (mt_X7_lies hp1 A T hA x1) rfl kl_L_306 kn_X7_lies ke_X7_lies ki_X7 kc_X7_lies kd_X7_lies rfl (by decide) (by decide) (Nat.le_of_ble_eq_true rfl) (fun v hp2 hv _ _ => ?_) (fun E hp2 zx _ _ => zx.elim)
  obtain ⟨rfl, hA2, f2⟩ := hv
  have h2 := LI_m h1 hA hA2 f2 (im_o hI (tu_lies _ _))
  show qq_Go mL_law hp2 (bc + 0) (bs + 0) 1806 [(0, .ref 0), (1, .ref 80), (2, .ref 84), (3, .ref 419), (4, .int i), (5, .int k0)] [.int ((r_X7_lies x1 T).1)] P PX
  refine qq_istore (loc' := [(0, .ref 0), (1, .ref 80), (2, .ref 84), (3, .ref 419), (4, .int i), (5, .int k0), (6, .int ((r_X7_lies x1 T).1))]) dL_law_1806 [1, 2, 3, 4, 5, 6, 0] (Nat.le_of_ble_eq_true rfl) rfl ?_
  refine qq_goto (tgt := 1990) dL_law_1808 (by decide) ?_
  refine qq_loc [0, 1, 2, 3, 4] rfl ?_
  exact qq_less (bc' := bc) (bs' := bs) (by omega) (by omega) (KK hp2 S1 (r_X7_lies x1 T).2 h2 (rk_lies hI hR D))
set_option maxRecDepth 4000 in
theorem lc_41 {n : Nat} {f : Nat → Int32} {P : Option Value → qq_H → Prop} {PX : String → qq_H → Prop} {S : sX} {T : sM} {hp : qq_H} (h : LI n f S T hp) (hR : RelL S T) {i x1 x2 x3 : Int32} (e1 : f (i + 1).toNatClampNeg = x1) (e2 : f (i + 2).toNatClampNeg = x2) (e3 : f (i + 3).toNatClampNeg = x3) (hi1 : vp_in (i + 1) n) (hi2 : vp_in (i + 2) n) (hi3 : vp_in (i + 3) n) (bc bs : Nat) (KK : ∀ (hp' : qq_H) (S' : sX) (T' : sM), LI n f S' T' hp' → RelL S' T' → qq_Go mL_law hp' bc bs 1990 [(0, .ref 0), (1, .ref 80), (2, .ref 84), (3, .ref 419), (4, .int i)] [] P PX) : qq_Go mL_law hp (bc + 1) (bs + 6) 1811 [(0, .ref 0), (1, .ref 80), (2, .ref 84), (3, .ref 419), (4, .int i)] [] P PX := by
  refine qq_aload_n dL_law_1811 rfl 1 rfl ?_
  refine qq_aload_n dL_law_1812 rfl 0 rfl ?_
  refine qq_iload dL_law_1813 4 rfl ?_
  refine qq_iconst (v := 1) dL_law_1815 (by decide) ?_
  refine qq_iadd dL_law_1816 ?_
  refine qq_iald dL_law_1817 h.2.2.2.2.2 hi1 ?_
  rw [e1]
  refine qq_aload_n dL_law_1818 rfl 3 rfl ?_
  refine qq_less (bc' := bc + 0 + 1) (bs' := bs + 0 + 6) (by omega) (by omega) ?_
  obtain ⟨y0, sv0, ho0⟩ := h.2.2.1
  refine qq_callSX (bc := bc + 0) (bs := bs + 0) (mc := 1) (ms := 6) (as := [.ref 80, .int x1, .ref 419]) (rest := []) dL_law_1819 (mt_L_undone hp S h.1 419 y0 sv0 ho0 (by decide) x1) rfl kl_L_307 ks_L_undone ki_L kc_L_undone kd_L_undone rfl (by decide) (by decide) (Nat.le_of_ble_eq_true rfl) (fun v hp1 hv _ _ => ?_) (fun E hp1 zx _ _ => zx.elim)
  obtain ⟨k0, n0, S1, rfl, c1, c2, c3, D⟩ := hv
  have h1 := LI_c h c1 c2 c3
  show qq_Go mL_law hp1 (bc + 0) (bs + 0) 1822 [(0, .ref 0), (1, .ref 80), (2, .ref 84), (3, .ref 419), (4, .int i)] [.int k0] P PX
  refine qq_istore (loc' := [(0, .ref 0), (1, .ref 80), (2, .ref 84), (3, .ref 419), (4, .int i), (5, .int k0)]) dL_law_1822 [1, 2, 3, 4, 5, 0] (Nat.le_of_ble_eq_true rfl) rfl ?_
  refine qq_aload_n dL_law_1824 rfl 2 rfl ?_
  refine qq_aload_n dL_law_1825 rfl 0 rfl ?_
  refine qq_iload dL_law_1826 4 rfl ?_
  refine qq_iconst (v := 1) dL_law_1828 (by decide) ?_
  refine qq_iadd dL_law_1829 ?_
  refine qq_iald dL_law_1830 h1.2.2.2.2.2 hi1 ?_
  rw [e1]
  refine qq_less (bc' := bc + 0 + 0) (bs' := bs + 0 + 0) (by omega) (by omega) ?_
  have hI := h1.2.2.2.2.1
  obtain ⟨A, hA⟩ := h1.2.1
  refine qq_callV (bc := bc + 0) (bs := bs + 0) (mc := 0) (ms := 0) (o := 84) (ci := 4) (N := 11) (T := TX7) (as := [.int x1]) (rest := []) dL_law_1831 hA.2.2.1 (by decide) rfl (mt_X7_undone hp1 A T hA x1) rfl kl_L_309 kn_X7_undone ke_X7_undone ki_X7 kc_X7_undone kd_X7_undone rfl (by decide) (by decide) (Nat.le_of_ble_eq_true rfl) (fun v hp2 hv _ _ => ?_) (fun E hp2 zx _ _ => zx.elim)
  obtain ⟨rfl, hA2, f2⟩ := hv
  have h2 := LI_m h1 hA hA2 f2 (im_o hI (tu_undone _ _))
  show qq_Go mL_law hp2 (bc + 0) (bs + 0) 1834 [(0, .ref 0), (1, .ref 80), (2, .ref 84), (3, .ref 419), (4, .int i), (5, .int k0)] [.int ((r_X7_undone x1 T).1)] P PX
  refine qq_istore (loc' := [(0, .ref 0), (1, .ref 80), (2, .ref 84), (3, .ref 419), (4, .int i), (5, .int k0), (6, .int ((r_X7_undone x1 T).1))]) dL_law_1834 [1, 2, 3, 4, 5, 6, 0] (Nat.le_of_ble_eq_true rfl) rfl ?_
  refine qq_goto (tgt := 1990) dL_law_1836 (by decide) ?_
  refine qq_loc [0, 1, 2, 3, 4] rfl ?_
  exact qq_less (bc' := bc) (bs' := bs) (by omega) (by omega) (KK hp2 S1 (r_X7_undone x1 T).2 h2 (rk_undone hI hR D))
set_option maxRecDepth 4000 in
theorem lc_42 {n : Nat} {f : Nat → Int32} {P : Option Value → qq_H → Prop} {PX : String → qq_H → Prop} {S : sX} {T : sM} {hp : qq_H} (h : LI n f S T hp) (hR : RelL S T) {i x1 x2 x3 : Int32} (e1 : f (i + 1).toNatClampNeg = x1) (e2 : f (i + 2).toNatClampNeg = x2) (e3 : f (i + 3).toNatClampNeg = x3) (hi1 : vp_in (i + 1) n) (hi2 : vp_in (i + 2) n) (hi3 : vp_in (i + 3) n) (bc bs : Nat) (KK : ∀ (hp' : qq_H) (S' : sX) (T' : sM), LI n f S' T' hp' → RelL S' T' → qq_Go mL_law hp' bc bs 1990 [(0, .ref 0), (1, .ref 80), (2, .ref 84), (3, .ref 419), (4, .int i)] [] P PX) : qq_Go mL_law hp (bc + 1) (bs + 6) 1839 [(0, .ref 0), (1, .ref 80), (2, .ref 84), (3, .ref 419), (4, .int i)] [] P PX := by
  refine qq_aload_n dL_law_1839 rfl 1 rfl ?_
  refine qq_aload_n dL_law_1840 rfl 0 rfl ?_
  refine qq_iload dL_law_1841 4 rfl ?_
  refine qq_iconst (v := 1) dL_law_1843 (by decide) ?_
  refine qq_iadd dL_law_1844 ?_
  refine qq_iald dL_law_1845 h.2.2.2.2.2 hi1 ?_
  rw [e1]
  refine qq_aload_n dL_law_1846 rfl 3 rfl ?_
  refine qq_less (bc' := bc + 0 + 1) (bs' := bs + 0 + 6) (by omega) (by omega) ?_
  obtain ⟨y0, sv0, ho0⟩ := h.2.2.1
  refine qq_callSX (bc := bc + 0) (bs := bs + 0) (mc := 1) (ms := 6) (as := [.ref 80, .int x1, .ref 419]) (rest := []) dL_law_1847 (mt_L_comesBack hp S h.1 419 y0 sv0 ho0 (by decide) x1) rfl kl_L_310 ks_L_comesBack ki_L kc_L_comesBack kd_L_comesBack rfl (by decide) (by decide) (Nat.le_of_ble_eq_true rfl) (fun v hp1 hv _ _ => ?_) (fun E hp1 zx _ _ => zx.elim)
  obtain ⟨k0, n0, S1, rfl, c1, c2, c3, D⟩ := hv
  have h1 := LI_c h c1 c2 c3
  show qq_Go mL_law hp1 (bc + 0) (bs + 0) 1850 [(0, .ref 0), (1, .ref 80), (2, .ref 84), (3, .ref 419), (4, .int i)] [.int k0] P PX
  refine qq_istore (loc' := [(0, .ref 0), (1, .ref 80), (2, .ref 84), (3, .ref 419), (4, .int i), (5, .int k0)]) dL_law_1850 [1, 2, 3, 4, 5, 0] (Nat.le_of_ble_eq_true rfl) rfl ?_
  refine qq_aload_n dL_law_1852 rfl 2 rfl ?_
  refine qq_aload_n dL_law_1853 rfl 0 rfl ?_
  refine qq_iload dL_law_1854 4 rfl ?_
  refine qq_iconst (v := 1) dL_law_1856 (by decide) ?_
  refine qq_iadd dL_law_1857 ?_
  refine qq_iald dL_law_1858 h1.2.2.2.2.2 hi1 ?_
  rw [e1]
  refine qq_less (bc' := bc + 0 + 0) (bs' := bs + 0 + 0) (by omega) (by omega) ?_
  have hI := h1.2.2.2.2.1
  obtain ⟨A, hA⟩ := h1.2.1
  refine qq_callV (bc := bc + 0) (bs := bs + 0) (mc := 0) (ms := 0) (o := 84) (ci := 4) (N := 11) (T := TX7) (as := [.int x1]) (rest := []) dL_law_1859 hA.2.2.1 (by decide) rfl (mt_X7_comesBack hp1 A T hA x1) rfl kl_L_312 kn_X7_comesBack ke_X7_comesBack ki_X7 kc_X7_comesBack kd_X7_comesBack rfl (by decide) (by decide) (Nat.le_of_ble_eq_true rfl) (fun v hp2 hv _ _ => ?_) (fun E hp2 zx _ _ => zx.elim)
  obtain ⟨rfl, hA2, f2⟩ := hv
  have h2 := LI_m h1 hA hA2 f2 (im_o hI (tu_comesBack _ _))
  show qq_Go mL_law hp2 (bc + 0) (bs + 0) 1862 [(0, .ref 0), (1, .ref 80), (2, .ref 84), (3, .ref 419), (4, .int i), (5, .int k0)] [.int ((r_X7_comesBack x1 T).1)] P PX
  refine qq_istore (loc' := [(0, .ref 0), (1, .ref 80), (2, .ref 84), (3, .ref 419), (4, .int i), (5, .int k0), (6, .int ((r_X7_comesBack x1 T).1))]) dL_law_1862 [1, 2, 3, 4, 5, 6, 0] (Nat.le_of_ble_eq_true rfl) rfl ?_
  refine qq_goto (tgt := 1990) dL_law_1864 (by decide) ?_
  refine qq_loc [0, 1, 2, 3, 4] rfl ?_
  exact qq_less (bc' := bc) (bs' := bs) (by omega) (by omega) (KK hp2 S1 (r_X7_comesBack x1 T).2 h2 (rk_comesBack hI hR D))
set_option maxRecDepth 4000 in
theorem lc_43 {n : Nat} {f : Nat → Int32} {P : Option Value → qq_H → Prop} {PX : String → qq_H → Prop} {S : sX} {T : sM} {hp : qq_H} (h : LI n f S T hp) (hR : RelL S T) {i x1 x2 x3 : Int32} (e1 : f (i + 1).toNatClampNeg = x1) (e2 : f (i + 2).toNatClampNeg = x2) (e3 : f (i + 3).toNatClampNeg = x3) (hi1 : vp_in (i + 1) n) (hi2 : vp_in (i + 2) n) (hi3 : vp_in (i + 3) n) (bc bs : Nat) (KK : ∀ (hp' : qq_H) (S' : sX) (T' : sM), LI n f S' T' hp' → RelL S' T' → qq_Go mL_law hp' bc bs 1990 [(0, .ref 0), (1, .ref 80), (2, .ref 84), (3, .ref 419), (4, .int i)] [] P PX) : qq_Go mL_law hp (bc + 1) (bs + 6) 1867 [(0, .ref 0), (1, .ref 80), (2, .ref 84), (3, .ref 419), (4, .int i)] [] P PX := by
  refine qq_aload_n dL_law_1867 rfl 1 rfl ?_
  refine qq_aload_n dL_law_1868 rfl 0 rfl ?_
  refine qq_iload dL_law_1869 4 rfl ?_
  refine qq_iconst (v := 1) dL_law_1871 (by decide) ?_
  refine qq_iadd dL_law_1872 ?_
  refine qq_iald dL_law_1873 h.2.2.2.2.2 hi1 ?_
  rw [e1]
  refine qq_aload_n dL_law_1874 rfl 3 rfl ?_
  refine qq_less (bc' := bc + 0 + 1) (bs' := bs + 0 + 6) (by omega) (by omega) ?_
  obtain ⟨y0, sv0, ho0⟩ := h.2.2.1
  refine qq_callSX (bc := bc + 0) (bs := bs + 0) (mc := 1) (ms := 6) (as := [.ref 80, .int x1, .ref 419]) (rest := []) dL_law_1875 (mt_L_comesForth hp S h.1 419 y0 sv0 ho0 (by decide) x1) rfl kl_L_313 ks_L_comesForth ki_L kc_L_comesForth kd_L_comesForth rfl (by decide) (by decide) (Nat.le_of_ble_eq_true rfl) (fun v hp1 hv _ _ => ?_) (fun E hp1 zx _ _ => zx.elim)
  obtain ⟨k0, n0, S1, rfl, c1, c2, c3, D⟩ := hv
  have h1 := LI_c h c1 c2 c3
  show qq_Go mL_law hp1 (bc + 0) (bs + 0) 1878 [(0, .ref 0), (1, .ref 80), (2, .ref 84), (3, .ref 419), (4, .int i)] [.int k0] P PX
  refine qq_istore (loc' := [(0, .ref 0), (1, .ref 80), (2, .ref 84), (3, .ref 419), (4, .int i), (5, .int k0)]) dL_law_1878 [1, 2, 3, 4, 5, 0] (Nat.le_of_ble_eq_true rfl) rfl ?_
  refine qq_aload_n dL_law_1880 rfl 2 rfl ?_
  refine qq_aload_n dL_law_1881 rfl 0 rfl ?_
  refine qq_iload dL_law_1882 4 rfl ?_
  refine qq_iconst (v := 1) dL_law_1884 (by decide) ?_
  refine qq_iadd dL_law_1885 ?_
  refine qq_iald dL_law_1886 h1.2.2.2.2.2 hi1 ?_
  rw [e1]
  refine qq_less (bc' := bc + 0 + 0) (bs' := bs + 0 + 0) (by omega) (by omega) ?_
  have hI := h1.2.2.2.2.1
  obtain ⟨A, hA⟩ := h1.2.1
  refine qq_callV (bc := bc + 0) (bs := bs + 0) (mc := 0) (ms := 0) (o := 84) (ci := 4) (N := 11) (T := TX7) (as := [.int x1]) (rest := []) dL_law_1887 hA.2.2.1 (by decide) rfl (mt_X7_comesForth hp1 A T hA x1) rfl kl_L_315 kn_X7_comesForth ke_X7_comesForth ki_X7 kc_X7_comesForth kd_X7_comesForth rfl (by decide) (by decide) (Nat.le_of_ble_eq_true rfl) (fun v hp2 hv _ _ => ?_) (fun E hp2 zx _ _ => zx.elim)
  obtain ⟨rfl, hA2, f2⟩ := hv
  have h2 := LI_m h1 hA hA2 f2 (im_o hI (tu_comesForth _ _))
  show qq_Go mL_law hp2 (bc + 0) (bs + 0) 1890 [(0, .ref 0), (1, .ref 80), (2, .ref 84), (3, .ref 419), (4, .int i), (5, .int k0)] [.int ((r_X7_comesForth x1 T).1)] P PX
  refine qq_istore (loc' := [(0, .ref 0), (1, .ref 80), (2, .ref 84), (3, .ref 419), (4, .int i), (5, .int k0), (6, .int ((r_X7_comesForth x1 T).1))]) dL_law_1890 [1, 2, 3, 4, 5, 6, 0] (Nat.le_of_ble_eq_true rfl) rfl ?_
  refine qq_goto (tgt := 1990) dL_law_1892 (by decide) ?_
  refine qq_loc [0, 1, 2, 3, 4] rfl ?_
  exact qq_less (bc' := bc) (bs' := bs) (by omega) (by omega) (KK hp2 S1 (r_X7_comesForth x1 T).2 h2 (rk_comesForth hI hR D))
set_option maxRecDepth 4000 in
theorem lc_44 {n : Nat} {f : Nat → Int32} {P : Option Value → qq_H → Prop} {PX : String → qq_H → Prop} {S : sX} {T : sM} {hp : qq_H} (h : LI n f S T hp) (hR : RelL S T) {i x1 x2 x3 : Int32} (e1 : f (i + 1).toNatClampNeg = x1) (e2 : f (i + 2).toNatClampNeg = x2) (e3 : f (i + 3).toNatClampNeg = x3) (hi1 : vp_in (i + 1) n) (hi2 : vp_in (i + 2) n) (hi3 : vp_in (i + 3) n) (bc bs : Nat) (KK : ∀ (hp' : qq_H) (S' : sX) (T' : sM), LI n f S' T' hp' → RelL S' T' → qq_Go mL_law hp' bc bs 1990 [(0, .ref 0), (1, .ref 80), (2, .ref 84), (3, .ref 419), (4, .int i)] [] P PX) : qq_Go mL_law hp (bc + 1) (bs + 6) 1895 [(0, .ref 0), (1, .ref 80), (2, .ref 84), (3, .ref 419), (4, .int i)] [] P PX := by
  refine qq_aload_n dL_law_1895 rfl 1 rfl ?_
  refine qq_aload_n dL_law_1896 rfl 0 rfl ?_
  refine qq_iload dL_law_1897 4 rfl ?_
  refine qq_iconst (v := 1) dL_law_1899 (by decide) ?_
  refine qq_iadd dL_law_1900 ?_
  refine qq_iald dL_law_1901 h.2.2.2.2.2 hi1 ?_
  rw [e1]
  refine qq_aload_n dL_law_1902 rfl 3 rfl ?_
  refine qq_less (bc' := bc + 0 + 1) (bs' := bs + 0 + 6) (by omega) (by omega) ?_
  obtain ⟨y0, sv0, ho0⟩ := h.2.2.1
  refine qq_callSX (bc := bc + 0) (bs := bs + 0) (mc := 1) (ms := 6) (as := [.ref 80, .int x1, .ref 419]) (rest := []) dL_law_1903 (mt_L_opposite hp S h.1 419 y0 sv0 ho0 (by decide) x1) rfl kl_L_316 ks_L_opposite ki_L kc_L_opposite kd_L_opposite rfl (by decide) (by decide) (Nat.le_of_ble_eq_true rfl) (fun v hp1 hv _ _ => ?_) (fun E hp1 zx _ _ => zx.elim)
  obtain ⟨k0, n0, S1, rfl, c1, c2, c3, D⟩ := hv
  have h1 := LI_c h c1 c2 c3
  show qq_Go mL_law hp1 (bc + 0) (bs + 0) 1906 [(0, .ref 0), (1, .ref 80), (2, .ref 84), (3, .ref 419), (4, .int i)] [.int k0] P PX
  refine qq_istore (loc' := [(0, .ref 0), (1, .ref 80), (2, .ref 84), (3, .ref 419), (4, .int i), (5, .int k0)]) dL_law_1906 [1, 2, 3, 4, 5, 0] (Nat.le_of_ble_eq_true rfl) rfl ?_
  refine qq_aload_n dL_law_1908 rfl 2 rfl ?_
  refine qq_aload_n dL_law_1909 rfl 0 rfl ?_
  refine qq_iload dL_law_1910 4 rfl ?_
  refine qq_iconst (v := 1) dL_law_1912 (by decide) ?_
  refine qq_iadd dL_law_1913 ?_
  refine qq_iald dL_law_1914 h1.2.2.2.2.2 hi1 ?_
  rw [e1]
  refine qq_less (bc' := bc + 0 + 0) (bs' := bs + 0 + 0) (by omega) (by omega) ?_
  have hI := h1.2.2.2.2.1
  obtain ⟨A, hA⟩ := h1.2.1
  refine qq_callV (bc := bc + 0) (bs := bs + 0) (mc := 0) (ms := 0) (o := 84) (ci := 4) (N := 11) (T := TX7) (as := [.int x1]) (rest := []) dL_law_1915 hA.2.2.1 (by decide) rfl (mt_X7_opposite hp1 A T hA x1) rfl kl_L_318 kn_X7_opposite ke_X7_opposite ki_X7 kc_X7_opposite kd_X7_opposite rfl (by decide) (by decide) (Nat.le_of_ble_eq_true rfl) (fun v hp2 hv _ _ => ?_) (fun E hp2 zx _ _ => zx.elim)
  obtain ⟨rfl, hA2, f2⟩ := hv
  have h2 := LI_m h1 hA hA2 f2 (im_o hI (tu_opposite _ _))
  show qq_Go mL_law hp2 (bc + 0) (bs + 0) 1918 [(0, .ref 0), (1, .ref 80), (2, .ref 84), (3, .ref 419), (4, .int i), (5, .int k0)] [.int ((r_X7_opposite x1 T).1)] P PX
  refine qq_istore (loc' := [(0, .ref 0), (1, .ref 80), (2, .ref 84), (3, .ref 419), (4, .int i), (5, .int k0), (6, .int ((r_X7_opposite x1 T).1))]) dL_law_1918 [1, 2, 3, 4, 5, 6, 0] (Nat.le_of_ble_eq_true rfl) rfl ?_
  refine qq_goto (tgt := 1990) dL_law_1920 (by decide) ?_
  refine qq_loc [0, 1, 2, 3, 4] rfl ?_
  exact qq_less (bc' := bc) (bs' := bs) (by omega) (by omega) (KK hp2 S1 (r_X7_opposite x1 T).2 h2 (rk_opposite hI hR D))
set_option maxRecDepth 4000 in
theorem lc_45 {n : Nat} {f : Nat → Int32} {P : Option Value → qq_H → Prop} {PX : String → qq_H → Prop} {S : sX} {T : sM} {hp : qq_H} (h : LI n f S T hp) (hR : RelL S T) {i x1 x2 x3 : Int32} (e1 : f (i + 1).toNatClampNeg = x1) (e2 : f (i + 2).toNatClampNeg = x2) (e3 : f (i + 3).toNatClampNeg = x3) (hi1 : vp_in (i + 1) n) (hi2 : vp_in (i + 2) n) (hi3 : vp_in (i + 3) n) (bc bs : Nat) (KK : ∀ (hp' : qq_H) (S' : sX) (T' : sM), LI n f S' T' hp' → RelL S' T' → qq_Go mL_law hp' bc bs 1990 [(0, .ref 0), (1, .ref 80), (2, .ref 84), (3, .ref 419), (4, .int i)] [] P PX) : qq_Go mL_law hp (bc + 1) (bs + 6) 1923 [(0, .ref 0), (1, .ref 80), (2, .ref 84), (3, .ref 419), (4, .int i)] [] P PX := by
  refine qq_aload_n dL_law_1923 rfl 1 rfl ?_
  refine qq_aload_n dL_law_1924 rfl 0 rfl ?_
  refine qq_iload dL_law_1925 4 rfl ?_
  refine qq_iconst (v := 1) dL_law_1927 (by decide) ?_
  refine qq_iadd dL_law_1928 ?_
  refine qq_iald dL_law_1929 h.2.2.2.2.2 hi1 ?_
  rw [e1]
  refine qq_aload_n dL_law_1930 rfl 3 rfl ?_
  refine qq_less (bc' := bc + 0 + 1) (bs' := bs + 0 + 6) (by omega) (by omega) ?_
  obtain ⟨y0, sv0, ho0⟩ := h.2.2.1
  refine qq_callSX (bc := bc + 0) (bs := bs + 0) (mc := 1) (ms := 6) (as := [.ref 80, .int x1, .ref 419]) (rest := []) dL_law_1931 (mt_L_house hp S h.1 419 y0 sv0 ho0 (by decide) x1) rfl kl_L_319 ks_L_house ki_L kc_L_house kd_L_house rfl (by decide) (by decide) (Nat.le_of_ble_eq_true rfl) (fun v hp1 hv _ _ => ?_) (fun E hp1 zx _ _ => zx.elim)
  obtain ⟨k0, n0, S1, rfl, c1, c2, c3, D⟩ := hv
  have h1 := LI_c h c1 c2 c3
  show qq_Go mL_law hp1 (bc + 0) (bs + 0) 1934 [(0, .ref 0), (1, .ref 80), (2, .ref 84), (3, .ref 419), (4, .int i)] [.int k0] P PX
  refine qq_istore (loc' := [(0, .ref 0), (1, .ref 80), (2, .ref 84), (3, .ref 419), (4, .int i), (5, .int k0)]) dL_law_1934 [1, 2, 3, 4, 5, 0] (Nat.le_of_ble_eq_true rfl) rfl ?_
  refine qq_aload_n dL_law_1936 rfl 2 rfl ?_
  refine qq_aload_n dL_law_1937 rfl 0 rfl ?_
  refine qq_iload dL_law_1938 4 rfl ?_
  refine qq_iconst (v := 1) dL_law_1940 (by decide) ?_
  refine qq_iadd dL_law_1941 ?_
  refine qq_iald dL_law_1942 h1.2.2.2.2.2 hi1 ?_
  rw [e1]
  refine qq_less (bc' := bc + 0 + 0) (bs' := bs + 0 + 0) (by omega) (by omega) ?_
  have hI := h1.2.2.2.2.1
  obtain ⟨A, hA⟩ := h1.2.1
  refine qq_callV (bc := bc + 0) (bs := bs + 0) (mc := 0) (ms := 0) (o := 84) (ci := 4) (N := 11) (T := TX7) (as := [.int x1]) (rest := []) dL_law_1943 hA.2.2.1 (by decide) rfl (mt_X7_house hp1 A T hA x1) rfl kl_L_321 kn_X7_house ke_X7_house ki_X7 kc_X7_house kd_X7_house rfl (by decide) (by decide) (Nat.le_of_ble_eq_true rfl) (fun v hp2 hv _ _ => ?_) (fun E hp2 zx _ _ => zx.elim)
  obtain ⟨rfl, hA2, f2⟩ := hv
  have h2 := LI_m h1 hA hA2 f2 (im_o hI (tu_house _ _))
  show qq_Go mL_law hp2 (bc + 0) (bs + 0) 1946 [(0, .ref 0), (1, .ref 80), (2, .ref 84), (3, .ref 419), (4, .int i), (5, .int k0)] [.int ((r_X7_house x1 T).1)] P PX
  refine qq_istore (loc' := [(0, .ref 0), (1, .ref 80), (2, .ref 84), (3, .ref 419), (4, .int i), (5, .int k0), (6, .int ((r_X7_house x1 T).1))]) dL_law_1946 [1, 2, 3, 4, 5, 6, 0] (Nat.le_of_ble_eq_true rfl) rfl ?_
  refine qq_goto (tgt := 1990) dL_law_1948 (by decide) ?_
  refine qq_loc [0, 1, 2, 3, 4] rfl ?_
  exact qq_less (bc' := bc) (bs' := bs) (by omega) (by omega) (KK hp2 S1 (r_X7_house x1 T).2 h2 (rk_house hI hR D))
set_option maxRecDepth 4000 in
theorem lc_46 {n : Nat} {f : Nat → Int32} {P : Option Value → qq_H → Prop} {PX : String → qq_H → Prop} {S : sX} {T : sM} {hp : qq_H} (h : LI n f S T hp) (hR : RelL S T) {i x1 x2 x3 : Int32} (e1 : f (i + 1).toNatClampNeg = x1) (e2 : f (i + 2).toNatClampNeg = x2) (e3 : f (i + 3).toNatClampNeg = x3) (hi1 : vp_in (i + 1) n) (hi2 : vp_in (i + 2) n) (hi3 : vp_in (i + 3) n) (bc bs : Nat) (KK : ∀ (hp' : qq_H) (S' : sX) (T' : sM), LI n f S' T' hp' → RelL S' T' → qq_Go mL_law hp' bc bs 1990 [(0, .ref 0), (1, .ref 80), (2, .ref 84), (3, .ref 419), (4, .int i)] [] P PX) : qq_Go mL_law hp (bc + 0) (bs + 0) 1951 [(0, .ref 0), (1, .ref 80), (2, .ref 84), (3, .ref 419), (4, .int i)] [] P PX := by
  refine qq_aload_n dL_law_1951 rfl 1 rfl ?_
  refine qq_less (bc' := bc + 0 + 0) (bs' := bs + 0 + 0) (by omega) (by omega) ?_
  refine qq_callV (bc := bc + 0) (bs := bs + 0) (mc := 0) (ms := 0) (o := 80) (ci := 2) (N := 6) (T := TX5) (as := []) (rest := []) dL_law_1952 h.1.2.2.1 (by decide) rfl (mt_X5_knock hp S h.1) rfl kl_L_322 kn_X5_knock ke_X5_knock ki_X5 kc_X5_knock kd_X5_knock rfl (by decide) (by decide) (Nat.le_of_ble_eq_true rfl) (fun v hp1 hv _ _ => ?_) (fun E hp1 zx _ _ => zx.elim)
  obtain ⟨rfl, c1, c2⟩ := hv
  have h1 := LI_x h c1 c2
  show qq_Go mL_law hp1 (bc + 0) (bs + 0) 1955 [(0, .ref 0), (1, .ref 80), (2, .ref 84), (3, .ref 419), (4, .int i)] [.int ((r_X5_knock S).1)] P PX
  refine qq_pop dL_law_1955 rfl ?_
  refine qq_aload_n dL_law_1956 rfl 2 rfl ?_
  refine qq_less (bc' := bc + 0 + 0) (bs' := bs + 0 + 0) (by omega) (by omega) ?_
  have hI := h1.2.2.2.2.1
  obtain ⟨A, hA⟩ := h1.2.1
  refine qq_callV (bc := bc + 0) (bs := bs + 0) (mc := 0) (ms := 0) (o := 84) (ci := 4) (N := 11) (T := TX7) (as := []) (rest := []) dL_law_1957 hA.2.2.1 (by decide) rfl (mt_X7_knock hp1 A T hA ) rfl kl_L_325 kn_X7_knock ke_X7_knock ki_X7 kc_X7_knock kd_X7_knock rfl (by decide) (by decide) (Nat.le_of_ble_eq_true rfl) (fun v hp2 hv _ _ => ?_) (fun E hp2 zx _ _ => zx.elim)
  obtain ⟨rfl, hA2, f2⟩ := hv
  have h2 := LI_m h1 hA hA2 f2 (im_kind0 hI rfl rfl rfl)
  show qq_Go mL_law hp2 (bc + 0) (bs + 0) 1960 [(0, .ref 0), (1, .ref 80), (2, .ref 84), (3, .ref 419), (4, .int i)] [.int ((r_X7_knock T).1)] P PX
  refine qq_pop dL_law_1960 rfl ?_
  refine qq_goto (tgt := 1990) dL_law_1961 (by decide) ?_
  exact qq_less (bc' := bc) (bs' := bs) (by omega) (by omega) (KK hp2 (r_X5_knock S).2 (r_X7_knock T).2 h2 (rk_knock hI hR))
set_option maxRecDepth 4000 in
theorem lc_47 {n : Nat} {f : Nat → Int32} {P : Option Value → qq_H → Prop} {PX : String → qq_H → Prop} {S : sX} {T : sM} {hp : qq_H} (h : LI n f S T hp) (hR : RelL S T) {i x1 x2 x3 : Int32} (e1 : f (i + 1).toNatClampNeg = x1) (e2 : f (i + 2).toNatClampNeg = x2) (e3 : f (i + 3).toNatClampNeg = x3) (hi1 : vp_in (i + 1) n) (hi2 : vp_in (i + 2) n) (hi3 : vp_in (i + 3) n) (bc bs : Nat) (KK : ∀ (hp' : qq_H) (S' : sX) (T' : sM), LI n f S' T' hp' → RelL S' T' → qq_Go mL_law hp' bc bs 1990 [(0, .ref 0), (1, .ref 80), (2, .ref 84), (3, .ref 419), (4, .int i)] [] P PX) : qq_Go mL_law hp (bc + 0) (bs + 0) 1964 [(0, .ref 0), (1, .ref 80), (2, .ref 84), (3, .ref 419), (4, .int i)] [] P PX := by
  refine qq_aload_n dL_law_1964 rfl 1 rfl ?_
  refine qq_less (bc' := bc + 0 + 0) (bs' := bs + 0 + 0) (by omega) (by omega) ?_
  refine qq_callV (bc := bc + 0) (bs := bs + 0) (mc := 0) (ms := 0) (o := 80) (ci := 2) (N := 6) (T := TX5) (as := []) (rest := []) dL_law_1965 h.1.2.2.1 (by decide) rfl (mt_X5_isSound hp S h.1) rfl kl_L_326 kn_X5_isSound ke_X5_isSound ki_X5 kc_X5_isSound kd_X5_isSound rfl (by decide) (by decide) (Nat.le_of_ble_eq_true rfl) (fun v hp1 hv _ _ => ?_) (fun E hp1 zx _ _ => zx.elim)
  obtain ⟨rfl, rfl⟩ := hv
  show qq_Go mL_law hp (bc + 0) (bs + 0) 1968 [(0, .ref 0), (1, .ref 80), (2, .ref 84), (3, .ref 419), (4, .int i)] [.int (r_X5_isSound S)] P PX
  refine qq_pop dL_law_1968 rfl ?_
  refine qq_aload_n dL_law_1969 rfl 2 rfl ?_
  refine qq_less (bc' := bc + 0 + 0) (bs' := bs + 0 + 0) (by omega) (by omega) ?_
  have hI := h.2.2.2.2.1
  obtain ⟨A, hA⟩ := h.2.1
  refine qq_callV (bc := bc + 0) (bs := bs + 0) (mc := 0) (ms := 0) (o := 84) (ci := 4) (N := 11) (T := TX7) (as := []) (rest := []) dL_law_1970 hA.2.2.1 (by decide) rfl (mt_X7_isSound hp A T hA ) rfl kl_L_330 kn_X7_isSound ke_X7_isSound ki_X7 kc_X7_isSound kd_X7_isSound rfl (by decide) (by decide) (Nat.le_of_ble_eq_true rfl) (fun v hp2 hv _ _ => ?_) (fun E hp2 zx _ _ => zx.elim)
  obtain ⟨rfl, hA2, f2⟩ := hv
  have h2 := LI_m h hA hA2 f2 (im_o hI (tu_isSound _))
  show qq_Go mL_law hp2 (bc + 0) (bs + 0) 1973 [(0, .ref 0), (1, .ref 80), (2, .ref 84), (3, .ref 419), (4, .int i)] [.int ((r_X7_isSound T).1)] P PX
  refine qq_pop dL_law_1973 rfl ?_
  refine qq_goto (tgt := 1990) dL_law_1974 (by decide) ?_
  exact qq_less (bc' := bc) (bs' := bs) (by omega) (by omega) (KK hp2 S (r_X7_isSound T).2 h2 (rk_isSound hI hR))
set_option maxRecDepth 4000 in
theorem lc_48 {n : Nat} {f : Nat → Int32} {P : Option Value → qq_H → Prop} {PX : String → qq_H → Prop} {S : sX} {T : sM} {hp : qq_H} (h : LI n f S T hp) (hR : RelL S T) {i x1 x2 x3 : Int32} (e1 : f (i + 1).toNatClampNeg = x1) (e2 : f (i + 2).toNatClampNeg = x2) (e3 : f (i + 3).toNatClampNeg = x3) (hi1 : vp_in (i + 1) n) (hi2 : vp_in (i + 2) n) (hi3 : vp_in (i + 3) n) (bc bs : Nat) (KK : ∀ (hp' : qq_H) (S' : sX) (T' : sM), LI n f S' T' hp' → RelL S' T' → qq_Go mL_law hp' bc bs 1990 [(0, .ref 0), (1, .ref 80), (2, .ref 84), (3, .ref 419), (4, .int i)] [] P PX) : qq_Go mL_law hp (bc + 3000) (bs + 33000) 1977 [(0, .ref 0), (1, .ref 80), (2, .ref 84), (3, .ref 419), (4, .int i)] [] P PX := by
  refine qq_aload_n dL_law_1977 rfl 1 rfl ?_
  refine qq_less (bc' := bc + 3000 + 0) (bs' := bs + 33000 + 0) (by omega) (by omega) ?_
  refine qq_callV (bc := bc + 3000) (bs := bs + 33000) (mc := 0) (ms := 0) (o := 80) (ci := 2) (N := 6) (T := TX5) (as := []) (rest := []) dL_law_1978 h.1.2.2.1 (by decide) rfl (mt_X5_digest hp S h.1) rfl kl_L_331 kn_X5_digest ke_X5_digest ki_X5 kc_X5_digest kd_X5_digest rfl (by decide) (by decide) (Nat.le_of_ble_eq_true rfl) (fun v hp1 hv _ _ => ?_) (fun E hp1 zx _ _ => zx.elim)
  obtain ⟨rfl, rfl⟩ := hv
  show qq_Go mL_law hp (bc + 3000) (bs + 33000) 1981 [(0, .ref 0), (1, .ref 80), (2, .ref 84), (3, .ref 419), (4, .int i)] [.long (r_X5_digest S)] P PX
  refine qq_pop2 dL_law_1981 rfl ?_
  refine qq_aload_n dL_law_1982 rfl 2 rfl ?_
  refine qq_less (bc' := bc + 0 + 3000) (bs' := bs + 0 + 33000) (by omega) (by omega) ?_
  have hI := h.2.2.2.2.1
  obtain ⟨A, hA⟩ := h.2.1
  refine qq_callV (bc := bc + 0) (bs := bs + 0) (mc := 3000) (ms := 33000) (o := 84) (ci := 4) (N := 11) (T := TX7) (as := []) (rest := []) dL_law_1983 hA.2.2.1 (by decide) rfl (mt_X7_digest hp A T hA  hI (IH_of hI)) rfl kl_L_335 kn_X7_digest ke_X7_digest ki_X7 kc_X7_digest kd_X7_digest rfl (by decide) (by decide) (Nat.le_of_ble_eq_true rfl) (fun v hp2 hv _ _ => ?_) (fun E hp2 zx _ _ => zx.elim)
  obtain ⟨rfl, hA2, f2⟩ := hv
  have h2 := LI_m h hA hA2 f2 (im_o hI (tu_digest _))
  show qq_Go mL_law hp2 (bc + 0) (bs + 0) 1986 [(0, .ref 0), (1, .ref 80), (2, .ref 84), (3, .ref 419), (4, .int i)] [.long ((r_X7_digest T).1)] P PX
  refine qq_pop2 dL_law_1986 rfl ?_
  refine qq_goto (tgt := 1990) dL_law_1987 (by decide) ?_
  exact qq_less (bc' := bc) (bs' := bs) (by omega) (by omega) (KK hp2 S (r_X7_digest T).2 h2 (rk_digest hI hR))
