set_option maxHeartbeats 4000000 in
set_option maxRecDepth 100000 in
theorem K_append {p : Program} {l : Launch} {e : Env} {s : State} {m : MethodId} {below : List Frame} {meth : Method} {c : Code} {D : va_G} {cI cB cL cO : ClassId} {pf : Nat → Nat} {Q : State → Prop} {k n b L : Nat} {xs : Nat → Int32} {N : Nat} {A : Nat → Nat → Nat} {am : Nat → Nat} {ao : Nat} {i : Int32} {Rl : Nat → T_PL → T_MO → Prop} {st : T_PL} {mo : T_MO} {f : Nat → Int64} {kk : Nat} (C : jC p s m #[Value.ref b] meth c code 7 R_lawN D [(cI, .int), (cB, .byte), (cL, .long), (cO, .object RX0)] pf (fun q => s.heap.size ≤ q)) (hl : l.stackTraces = false) (hX : va_X b L xs s s.heap) (hbl : b < s.heap.size) (hbA : ¬ (fun q : Nat => s.heap.size ≤ q) b) (h1 : vp_in (i + (1 : Int32)) L) (h2 : vp_in (i + (2 : Int32)) L) (h3 : vp_in (i + (3 : Int32)) L) (h4 : vp_in (i + (4 : Int32)) L) (h5 : vp_in (i + (5 : Int32)) L) (hSt : (∀ x1 : Int32, ∀ x2 : Int32, ∀ x3 : Int32, ∀ x4 : Int32, ∀ x5 : Int32, StA Rl (fun s f => W_append N s f x1 x2 x3 x4 x5) (fun m => F_M_append N m x1 x2 x3 x4 x5))) (hk : kk < 512) (hR : Rl kk st mo) (hkn : k + 4 ≤ room_1.cells ∧ n + 24 ≤ room_1.slots) (kx : ∀ st2 mo2 f2, Rl (kk + 1) st2 mo2 → J p l e room_1 s m #[Value.ref b] below meth c 7 D (fun q => s.heap.size ≤ q) Q (k + 4) (n + 24) 3187 [(4, .int i), (3, .ref ao), (2, .ref (am 0)), (1, .ref (A 0 0)), (0, .ref b)] [] (List.flatten [wPL cI cB cO A st2, wMO cI cB am mo2, [(ao, .inl (cL, 1, .inr (.inl f2)))]])) : J p l e room_1 s m #[Value.ref b] below meth c 7 D (fun q => s.heap.size ≤ q) Q (k) (n) 268 [(4, .int i), (3, .ref ao), (2, .ref (am 0)), (1, .ref (A 0 0)), (0, .ref b)] [] (List.flatten [wPL cI cB cO A st, wMO cI cB am mo, [(ao, .inl (cL, 1, .inr (.inl f)))]]) := by
  refine J_aload_n (pc := 268) C dlw_268 3 rfl ?_
  refine J_aload_n (pc := 269) C dlw_269 4 rfl ?_
  refine J_iload (pc := 270) C dlw_270 0 rfl ?_
  refine J_iconst (v := (1 : Int32)) (pc := 272) C dlw_272 (by decide) ?_
  refine J_iadd (pc := 273) C dlw_273 ?_
  refine J_sld C hX hbl hbA (pc := 274) dlw_274 h1 ?_
  refine J_aload_n (pc := 275) C dlw_275 4 rfl ?_
  refine J_iload (pc := 276) C dlw_276 0 rfl ?_
  refine J_iconst (v := (2 : Int32)) (pc := 278) C dlw_278 (by decide) ?_
  refine J_iadd (pc := 279) C dlw_279 ?_
  refine J_sld C hX hbl hbA (pc := 280) dlw_280 h2 ?_
  refine J_aload_n (pc := 281) C dlw_281 4 rfl ?_
  refine J_iload (pc := 282) C dlw_282 0 rfl ?_
  refine J_iconst (v := (3 : Int32)) (pc := 284) C dlw_284 (by decide) ?_
  refine J_iadd (pc := 285) C dlw_285 ?_
  refine J_sld C hX hbl hbA (pc := 286) dlw_286 h3 ?_
  refine J_aload_n (pc := 287) C dlw_287 4 rfl ?_
  refine J_iload (pc := 288) C dlw_288 0 rfl ?_
  refine J_iconst (v := (4 : Int32)) (pc := 290) C dlw_290 (by decide) ?_
  refine J_iadd (pc := 291) C dlw_291 ?_
  refine J_sld C hX hbl hbA (pc := 292) dlw_292 h4 ?_
  refine J_aload_n (pc := 293) C dlw_293 4 rfl ?_
  refine J_iload (pc := 294) C dlw_294 0 rfl ?_
  refine J_iconst (v := (5 : Int32)) (pc := 296) C dlw_296 (by decide) ?_
  refine J_iadd (pc := 297) C dlw_297 ?_
  refine J_sld C hX hbl hbA (pc := 298) dlw_298 h5 ?_
  refine J_aload_n (pc := 299) C dlw_299 1 rfl ?_
  obtain ⟨o1, o2, e1, e2, hth, hval, hRn⟩ := hSt (xs (i + (1 : Int32)).toNatClampNeg) (xs (i + (2 : Int32)).toNatClampNeg) (xs (i + (3 : Int32)).toNatClampNeg) (xs (i + (4 : Int32)).toNatClampNeg) (xs (i + (5 : Int32)).toNatClampNeg) kk st mo f hk hR
  refine J_csH (pc := 300) (As := [.ref (A 0 0), .int (xs (i + (1 : Int32)).toNatClampNeg), .int (xs (i + (2 : Int32)).toNatClampNeg), .int (xs (i + (3 : Int32)).toNatClampNeg), .int (xs (i + (4 : Int32)).toNatClampNeg), .int (xs (i + (5 : Int32)).toNatClampNeg), .ref ao]) (st := []) C dlw_300 ml_L_164 wh_append (V_append l hl D cI cB cL cO pf N A ao st f (xs (i + (1 : Int32)).toNatClampNeg) (xs (i + (2 : Int32)).toNatClampNeg) (xs (i + (3 : Int32)).toNatClampNeg) (xs (i + (4 : Int32)).toNatClampNeg) (xs (i + (5 : Int32)).toNatClampNeg) o1 e1) (List.flatten [wMO cI cB am mo]) (seg_split (segs := [wPL cI cB cO A st, wMO cI cB am mo, [(ao, .inl (cL, 1, .inr (.inl f)))]]) (Wc := [wPL cI cB cO A st, [(ao, .inl (cL, 1, .inr (.inl f)))]]) (Wr := [wMO cI cB am mo]) [0, 2] [1] rfl rfl 3 rfl (by decide)) rfl ⟨(Nat.le_of_ble_eq_true rfl), (Nat.le_of_ble_eq_true rfl)⟩ ⟨Nat.le_trans (Nat.add_le_add_left (Nat.le_of_ble_eq_true rfl) _) hkn.1, Nat.le_trans (Nat.add_le_add_left (Nat.le_of_ble_eq_true rfl) _) hkn.2⟩ (Nat.le_of_ble_eq_true rfl) ?_
  rintro v w1 ⟨rfl, rfl⟩
  refine J_perm (ws2 := (List.flatten [wPL cI cB cO A o1.2.1, wMO cI cB am mo, [(ao, .inl (cL, 1, .inr (.inl o1.2.2)))]])) (seg_split (segs := [wPL cI cB cO A o1.2.1, wMO cI cB am mo, [(ao, .inl (cL, 1, .inr (.inl o1.2.2)))]]) (Wc := [wPL cI cB cO A o1.2.1, [(ao, .inl (cL, 1, .inr (.inl o1.2.2)))]]) (Wr := [wMO cI cB am mo]) [0, 2] [1] rfl rfl 3 rfl (by decide)).symm ?_
  refine J_widen (k2 := k + 4) (n2 := n + 24) (Nat.add_le_add_left (Nat.le_of_ble_eq_true rfl) _) (Nat.add_le_add_left (Nat.le_of_ble_eq_true rfl) _) ?_
  refine J_istore (lv2 := [(5, .int o1.1), (4, .int i), (3, .ref ao), (2, .ref (am 0)), (1, .ref (A 0 0)), (0, .ref b)]) (pc := 303) C dlw_303 (by decide) rfl ?_
  refine J_aload_n (pc := 305) C dlw_305 3 rfl ?_
  refine J_aload_n (pc := 306) C dlw_306 5 rfl ?_
  refine J_iload (pc := 307) C dlw_307 1 rfl ?_
  refine J_iconst (v := (1 : Int32)) (pc := 309) C dlw_309 (by decide) ?_
  refine J_iadd (pc := 310) C dlw_310 ?_
  refine J_sld C hX hbl hbA (pc := 311) dlw_311 h1 ?_
  refine J_aload_n (pc := 312) C dlw_312 5 rfl ?_
  refine J_iload (pc := 313) C dlw_313 1 rfl ?_
  refine J_iconst (v := (2 : Int32)) (pc := 315) C dlw_315 (by decide) ?_
  refine J_iadd (pc := 316) C dlw_316 ?_
  refine J_sld C hX hbl hbA (pc := 317) dlw_317 h2 ?_
  refine J_aload_n (pc := 318) C dlw_318 5 rfl ?_
  refine J_iload (pc := 319) C dlw_319 1 rfl ?_
  refine J_iconst (v := (3 : Int32)) (pc := 321) C dlw_321 (by decide) ?_
  refine J_iadd (pc := 322) C dlw_322 ?_
  refine J_sld C hX hbl hbA (pc := 323) dlw_323 h3 ?_
  refine J_aload_n (pc := 324) C dlw_324 5 rfl ?_
  refine J_iload (pc := 325) C dlw_325 1 rfl ?_
  refine J_iconst (v := (4 : Int32)) (pc := 327) C dlw_327 (by decide) ?_
  refine J_iadd (pc := 328) C dlw_328 ?_
  refine J_sld C hX hbl hbA (pc := 329) dlw_329 h4 ?_
  refine J_aload_n (pc := 330) C dlw_330 5 rfl ?_
  refine J_iload (pc := 331) C dlw_331 1 rfl ?_
  refine J_iconst (v := (5 : Int32)) (pc := 333) C dlw_333 (by decide) ?_
  refine J_iadd (pc := 334) C dlw_334 ?_
  refine J_sld C hX hbl hbA (pc := 335) dlw_335 h5 ?_
  refine J_cvF (pc := 336) (As := [.int (xs (i + (1 : Int32)).toNatClampNeg), .int (xs (i + (2 : Int32)).toNatClampNeg), .int (xs (i + (3 : Int32)).toNatClampNeg), .int (xs (i + (4 : Int32)).toNatClampNeg), .int (xs (i + (5 : Int32)).toNatClampNeg)]) (st := []) C dlw_336 ml_L_169 mi_yX11_append (C_M_append l D cI cB cL cO pf N am mo (xs (i + (1 : Int32)).toNatClampNeg) (xs (i + (2 : Int32)).toNatClampNeg) (xs (i + (3 : Int32)).toNatClampNeg) (xs (i + (4 : Int32)).toNatClampNeg) (xs (i + (5 : Int32)).toNatClampNeg) o2 e2) (List.flatten [wPL cI cB cO A o1.2.1, [(ao, .inl (cL, 1, .inr (.inl o1.2.2)))]]) (seg_split (segs := [wPL cI cB cO A o1.2.1, wMO cI cB am mo, [(ao, .inl (cL, 1, .inr (.inl o1.2.2)))]]) (Wc := [wMO cI cB am mo]) (Wr := [wPL cI cB cO A o1.2.1, [(ao, .inl (cL, 1, .inr (.inl o1.2.2)))]]) [1] [0, 2] rfl rfl 3 rfl (by decide)) (q0 := 0) rfl rfl rfl ⟨(Nat.le_of_ble_eq_true rfl), (Nat.le_of_ble_eq_true rfl)⟩ hkn (Nat.le_of_ble_eq_true rfl) ?_
  rintro v w1 ⟨rfl, rfl⟩
  refine J_perm (ws2 := (List.flatten [wPL cI cB cO A o1.2.1, wMO cI cB am o2.2, [(ao, .inl (cL, 1, .inr (.inl o1.2.2)))]])) (seg_split (segs := [wPL cI cB cO A o1.2.1, wMO cI cB am o2.2, [(ao, .inl (cL, 1, .inr (.inl o1.2.2)))]]) (Wc := [wMO cI cB am o2.2]) (Wr := [wPL cI cB cO A o1.2.1, [(ao, .inl (cL, 1, .inr (.inl o1.2.2)))]]) [1] [0, 2] rfl rfl 3 rfl (by decide)).symm ?_
  refine J_istore (lv2 := [(6, .int o2.1), (5, .int o1.1), (4, .int i), (3, .ref ao), (2, .ref (am 0)), (1, .ref (A 0 0)), (0, .ref b)]) (pc := 339) C dlw_339 (by decide) rfl ?_
  refine J_aload_n (pc := 341) C dlw_341 4 rfl ?_
  refine J_cvF (pc := 342) (As := []) (st := []) C dlw_342 ml_L_170 mi_yX11_thrown (C_M_thrown l D cI cB cL cO pf N am o2.2 o2.2.1 rfl) (List.flatten [wPL cI cB cO A o1.2.1, [(ao, .inl (cL, 1, .inr (.inl o1.2.2)))]]) (seg_split (segs := [wPL cI cB cO A o1.2.1, wMO cI cB am o2.2, [(ao, .inl (cL, 1, .inr (.inl o1.2.2)))]]) (Wc := [wMO cI cB am o2.2]) (Wr := [wPL cI cB cO A o1.2.1, [(ao, .inl (cL, 1, .inr (.inl o1.2.2)))]]) [1] [0, 2] rfl rfl 3 rfl (by decide)) (q0 := 0) rfl rfl rfl ⟨(Nat.le_of_ble_eq_true rfl), (Nat.le_of_ble_eq_true rfl)⟩ hkn (Nat.le_of_ble_eq_true rfl) ?_
  rintro v w1 ⟨rfl, rfl⟩
  refine J_perm (ws2 := (List.flatten [wPL cI cB cO A o1.2.1, wMO cI cB am o2.2, [(ao, .inl (cL, 1, .inr (.inl o1.2.2)))]])) (seg_split (segs := [wPL cI cB cO A o1.2.1, wMO cI cB am o2.2, [(ao, .inl (cL, 1, .inr (.inl o1.2.2)))]]) (Wc := [wMO cI cB am o2.2]) (Wr := [wPL cI cB cO A o1.2.1, [(ao, .inl (cL, 1, .inr (.inl o1.2.2)))]]) [1] [0, 2] rfl rfl 3 rfl (by decide)).symm ?_
  refine J_iload (pc := 345) C dlw_345 1 rfl ?_
  refine J_ic_eq (α := Unit) (o := ()) (X := some ()) (Y := none) (pc := 347) (tgt := 352) C dlw_347 (by decide) (if_pos hth) (fun _ => ?_) (fun h => by cases h)
  refine J_iload (pc := 352) C dlw_352 1 rfl ?_
  by_cases h0 : o1.1 = 0
  · refine J_if_ne (α := Unit) (o := ()) (X := some ()) (Y := none) (pc := 354) (tgt := 369) C dlw_354 (by decide) (if_pos h0) (fun h => by cases h) (fun _ => ?_)
    refine J_aload_n (pc := 357) C dlw_357 3 rfl ?_
    refine J_iconst (v := (0 : Int32)) (pc := 358) C dlw_358 (by decide) ?_
    refine J_perm (ws2 := [(ao, .inl (cL, 1, .inr (.inl o1.2.2)))] ++ List.flatten [wPL cI cB cO A o1.2.1, wMO cI cB am o2.2]) (by simpa using seg_split (segs := [wPL cI cB cO A o1.2.1, wMO cI cB am o2.2, [(ao, .inl (cL, 1, .inr (.inl o1.2.2)))]]) (Wc := [[(ao, .inl (cL, 1, .inr (.inl o1.2.2)))]]) (Wr := [wPL cI cB cO A o1.2.1, wMO cI cB am o2.2]) [2] [0, 1] rfl rfl 3 rfl (by decide)) ?_
    refine J_lald (pc := 359) C dlw_359 0 2 (rfl : ([(ao, .inl (cL, 1, .inr (.inl o1.2.2)))] ++ List.flatten [wPL cI cB cO A o1.2.1, wMO cI cB am o2.2] : va_W)[0]? = some (ao, .inl (cL, 1, .inr (.inl o1.2.2)))) rfl (by unfold vp_in; decide) ?_
    refine J_perm (ws2 := (List.flatten [wPL cI cB cO A o1.2.1, wMO cI cB am o2.2, [(ao, .inl (cL, 1, .inr (.inl o1.2.2)))]])) (by simpa using (seg_split (segs := [wPL cI cB cO A o1.2.1, wMO cI cB am o2.2, [(ao, .inl (cL, 1, .inr (.inl o1.2.2)))]]) (Wc := [[(ao, .inl (cL, 1, .inr (.inl o1.2.2)))]]) (Wr := [wPL cI cB cO A o1.2.1, wMO cI cB am o2.2]) [2] [0, 1] rfl rfl 3 rfl (by decide)).symm) ?_
    refine J_iload (pc := 360) C dlw_360 0 rfl ?_
    refine J_i2l (pc := 362) C dlw_362 ?_
    refine J_lcmp (pc := 363) C dlw_363 ?_
    refine J_if_eq (α := Unit) (o := ()) (X := some ()) (Y := none) (pc := 364) (tgt := 369) C dlw_364 (by decide) (if_pos (by have hv := hval h0; rw [show (0 : Int32).toNatClampNeg = 0 from rfl, hv]; exact lg_cmp_self _)) (fun _ => ?_) (fun h => by cases h)
    refine J_goto (tgt := 3187) (pc := 369) C dlw_369 (by decide) ?_
    refine J_sub (lv2 := [(4, .int i), (3, .ref ao), (2, .ref (am 0)), (1, .ref (A 0 0)), (0, .ref b)]) [2, 3, 4, 5, 6] rfl ?_
    exact kx _ _ _ hRn
  · refine J_if_ne (α := Unit) (o := ()) (X := none) (Y := some ()) (pc := 354) (tgt := 369) C dlw_354 (by decide) (if_neg h0) (fun _ => ?_) (fun h => by cases h)
    refine J_goto (tgt := 3187) (pc := 369) C dlw_369 (by decide) ?_
    refine J_sub (lv2 := [(4, .int i), (3, .ref ao), (2, .ref (am 0)), (1, .ref (A 0 0)), (0, .ref b)]) [2, 3, 4, 5, 6] rfl ?_
    exact kx _ _ _ hRn
set_option maxHeartbeats 4000000 in
set_option maxRecDepth 100000 in
theorem K_truncate {p : Program} {l : Launch} {e : Env} {s : State} {m : MethodId} {below : List Frame} {meth : Method} {c : Code} {D : va_G} {cI cB cL cO : ClassId} {pf : Nat → Nat} {Q : State → Prop} {k n b L : Nat} {xs : Nat → Int32} {N : Nat} {A : Nat → Nat → Nat} {am : Nat → Nat} {ao : Nat} {i : Int32} {Rl : Nat → T_PL → T_MO → Prop} {st : T_PL} {mo : T_MO} {f : Nat → Int64} {kk : Nat} (C : jC p s m #[Value.ref b] meth c code 7 R_lawN D [(cI, .int), (cB, .byte), (cL, .long), (cO, .object RX0)] pf (fun q => s.heap.size ≤ q)) (hl : l.stackTraces = false) (hX : va_X b L xs s s.heap) (hbl : b < s.heap.size) (hbA : ¬ (fun q : Nat => s.heap.size ≤ q) b) (h1 : vp_in (i + (1 : Int32)) L) (h2 : vp_in (i + (2 : Int32)) L) (h3 : vp_in (i + (3 : Int32)) L) (h4 : vp_in (i + (4 : Int32)) L) (h5 : vp_in (i + (5 : Int32)) L) (hSt : (∀ x1 : Int32, StA Rl (fun s f => W_truncate N s f x1) (fun m => F_M_truncate N m x1))) (hk : kk < 512) (hR : Rl kk st mo) (hkn : k + 4 ≤ room_1.cells ∧ n + 24 ≤ room_1.slots) (kx : ∀ st2 mo2 f2, Rl (kk + 1) st2 mo2 → J p l e room_1 s m #[Value.ref b] below meth c 7 D (fun q => s.heap.size ≤ q) Q (k + 4) (n + 24) 3187 [(4, .int i), (3, .ref ao), (2, .ref (am 0)), (1, .ref (A 0 0)), (0, .ref b)] [] (List.flatten [wPL cI cB cO A st2, wMO cI cB am mo2, [(ao, .inl (cL, 1, .inr (.inl f2)))]])) : J p l e room_1 s m #[Value.ref b] below meth c 7 D (fun q => s.heap.size ≤ q) Q (k) (n) 372 [(4, .int i), (3, .ref ao), (2, .ref (am 0)), (1, .ref (A 0 0)), (0, .ref b)] [] (List.flatten [wPL cI cB cO A st, wMO cI cB am mo, [(ao, .inl (cL, 1, .inr (.inl f)))]]) := by
  refine J_aload_n (pc := 372) C dlw_372 3 rfl ?_
  refine J_aload_n (pc := 373) C dlw_373 4 rfl ?_
  refine J_iload (pc := 374) C dlw_374 0 rfl ?_
  refine J_iconst (v := (1 : Int32)) (pc := 376) C dlw_376 (by decide) ?_
  refine J_iadd (pc := 377) C dlw_377 ?_
  refine J_sld C hX hbl hbA (pc := 378) dlw_378 h1 ?_
  refine J_aload_n (pc := 379) C dlw_379 1 rfl ?_
  obtain ⟨o1, o2, e1, e2, hth, hval, hRn⟩ := hSt (xs (i + (1 : Int32)).toNatClampNeg) kk st mo f hk hR
  refine J_csH (pc := 380) (As := [.ref (A 0 0), .int (xs (i + (1 : Int32)).toNatClampNeg), .ref ao]) (st := []) C dlw_380 ml_L_173 wh_truncate (V_truncate l hl D cI cB cL cO pf N A ao st f (xs (i + (1 : Int32)).toNatClampNeg) o1 e1) (List.flatten [wMO cI cB am mo]) (seg_split (segs := [wPL cI cB cO A st, wMO cI cB am mo, [(ao, .inl (cL, 1, .inr (.inl f)))]]) (Wc := [wPL cI cB cO A st, [(ao, .inl (cL, 1, .inr (.inl f)))]]) (Wr := [wMO cI cB am mo]) [0, 2] [1] rfl rfl 3 rfl (by decide)) rfl ⟨(Nat.le_of_ble_eq_true rfl), (Nat.le_of_ble_eq_true rfl)⟩ ⟨Nat.le_trans (Nat.add_le_add_left (Nat.le_of_ble_eq_true rfl) _) hkn.1, Nat.le_trans (Nat.add_le_add_left (Nat.le_of_ble_eq_true rfl) _) hkn.2⟩ (Nat.le_of_ble_eq_true rfl) ?_
  rintro v w1 ⟨rfl, rfl⟩
  refine J_perm (ws2 := (List.flatten [wPL cI cB cO A o1.2.1, wMO cI cB am mo, [(ao, .inl (cL, 1, .inr (.inl o1.2.2)))]])) (seg_split (segs := [wPL cI cB cO A o1.2.1, wMO cI cB am mo, [(ao, .inl (cL, 1, .inr (.inl o1.2.2)))]]) (Wc := [wPL cI cB cO A o1.2.1, [(ao, .inl (cL, 1, .inr (.inl o1.2.2)))]]) (Wr := [wMO cI cB am mo]) [0, 2] [1] rfl rfl 3 rfl (by decide)).symm ?_
  refine J_widen (k2 := k + 4) (n2 := n + 24) (Nat.add_le_add_left (Nat.le_of_ble_eq_true rfl) _) (Nat.add_le_add_left (Nat.le_of_ble_eq_true rfl) _) ?_
  refine J_istore (lv2 := [(5, .int o1.1), (4, .int i), (3, .ref ao), (2, .ref (am 0)), (1, .ref (A 0 0)), (0, .ref b)]) (pc := 383) C dlw_383 (by decide) rfl ?_
  refine J_aload_n (pc := 385) C dlw_385 3 rfl ?_
  refine J_aload_n (pc := 386) C dlw_386 5 rfl ?_
  refine J_iload (pc := 387) C dlw_387 1 rfl ?_
  refine J_iconst (v := (1 : Int32)) (pc := 389) C dlw_389 (by decide) ?_
  refine J_iadd (pc := 390) C dlw_390 ?_
  refine J_sld C hX hbl hbA (pc := 391) dlw_391 h1 ?_
  refine J_cvF (pc := 392) (As := [.int (xs (i + (1 : Int32)).toNatClampNeg)]) (st := []) C dlw_392 ml_L_176 mi_yX11_truncate (C_M_truncate l D cI cB cL cO pf N am mo (xs (i + (1 : Int32)).toNatClampNeg) o2 e2) (List.flatten [wPL cI cB cO A o1.2.1, [(ao, .inl (cL, 1, .inr (.inl o1.2.2)))]]) (seg_split (segs := [wPL cI cB cO A o1.2.1, wMO cI cB am mo, [(ao, .inl (cL, 1, .inr (.inl o1.2.2)))]]) (Wc := [wMO cI cB am mo]) (Wr := [wPL cI cB cO A o1.2.1, [(ao, .inl (cL, 1, .inr (.inl o1.2.2)))]]) [1] [0, 2] rfl rfl 3 rfl (by decide)) (q0 := 0) rfl rfl rfl ⟨(Nat.le_of_ble_eq_true rfl), (Nat.le_of_ble_eq_true rfl)⟩ hkn (Nat.le_of_ble_eq_true rfl) ?_
  rintro v w1 ⟨rfl, rfl⟩
  refine J_perm (ws2 := (List.flatten [wPL cI cB cO A o1.2.1, wMO cI cB am o2.2, [(ao, .inl (cL, 1, .inr (.inl o1.2.2)))]])) (seg_split (segs := [wPL cI cB cO A o1.2.1, wMO cI cB am o2.2, [(ao, .inl (cL, 1, .inr (.inl o1.2.2)))]]) (Wc := [wMO cI cB am o2.2]) (Wr := [wPL cI cB cO A o1.2.1, [(ao, .inl (cL, 1, .inr (.inl o1.2.2)))]]) [1] [0, 2] rfl rfl 3 rfl (by decide)).symm ?_
  refine J_istore (lv2 := [(6, .int o2.1), (5, .int o1.1), (4, .int i), (3, .ref ao), (2, .ref (am 0)), (1, .ref (A 0 0)), (0, .ref b)]) (pc := 395) C dlw_395 (by decide) rfl ?_
  refine J_aload_n (pc := 397) C dlw_397 4 rfl ?_
  refine J_cvF (pc := 398) (As := []) (st := []) C dlw_398 ml_L_170 mi_yX11_thrown (C_M_thrown l D cI cB cL cO pf N am o2.2 o2.2.1 rfl) (List.flatten [wPL cI cB cO A o1.2.1, [(ao, .inl (cL, 1, .inr (.inl o1.2.2)))]]) (seg_split (segs := [wPL cI cB cO A o1.2.1, wMO cI cB am o2.2, [(ao, .inl (cL, 1, .inr (.inl o1.2.2)))]]) (Wc := [wMO cI cB am o2.2]) (Wr := [wPL cI cB cO A o1.2.1, [(ao, .inl (cL, 1, .inr (.inl o1.2.2)))]]) [1] [0, 2] rfl rfl 3 rfl (by decide)) (q0 := 0) rfl rfl rfl ⟨(Nat.le_of_ble_eq_true rfl), (Nat.le_of_ble_eq_true rfl)⟩ hkn (Nat.le_of_ble_eq_true rfl) ?_
  rintro v w1 ⟨rfl, rfl⟩
  refine J_perm (ws2 := (List.flatten [wPL cI cB cO A o1.2.1, wMO cI cB am o2.2, [(ao, .inl (cL, 1, .inr (.inl o1.2.2)))]])) (seg_split (segs := [wPL cI cB cO A o1.2.1, wMO cI cB am o2.2, [(ao, .inl (cL, 1, .inr (.inl o1.2.2)))]]) (Wc := [wMO cI cB am o2.2]) (Wr := [wPL cI cB cO A o1.2.1, [(ao, .inl (cL, 1, .inr (.inl o1.2.2)))]]) [1] [0, 2] rfl rfl 3 rfl (by decide)).symm ?_
  refine J_iload (pc := 401) C dlw_401 1 rfl ?_
  refine J_ic_eq (α := Unit) (o := ()) (X := some ()) (Y := none) (pc := 403) (tgt := 408) C dlw_403 (by decide) (if_pos hth) (fun _ => ?_) (fun h => by cases h)
  refine J_iload (pc := 408) C dlw_408 1 rfl ?_
  by_cases h0 : o1.1 = 0
  · refine J_if_ne (α := Unit) (o := ()) (X := some ()) (Y := none) (pc := 410) (tgt := 425) C dlw_410 (by decide) (if_pos h0) (fun h => by cases h) (fun _ => ?_)
    refine J_aload_n (pc := 413) C dlw_413 3 rfl ?_
    refine J_iconst (v := (0 : Int32)) (pc := 414) C dlw_414 (by decide) ?_
    refine J_perm (ws2 := [(ao, .inl (cL, 1, .inr (.inl o1.2.2)))] ++ List.flatten [wPL cI cB cO A o1.2.1, wMO cI cB am o2.2]) (by simpa using seg_split (segs := [wPL cI cB cO A o1.2.1, wMO cI cB am o2.2, [(ao, .inl (cL, 1, .inr (.inl o1.2.2)))]]) (Wc := [[(ao, .inl (cL, 1, .inr (.inl o1.2.2)))]]) (Wr := [wPL cI cB cO A o1.2.1, wMO cI cB am o2.2]) [2] [0, 1] rfl rfl 3 rfl (by decide)) ?_
    refine J_lald (pc := 415) C dlw_415 0 2 (rfl : ([(ao, .inl (cL, 1, .inr (.inl o1.2.2)))] ++ List.flatten [wPL cI cB cO A o1.2.1, wMO cI cB am o2.2] : va_W)[0]? = some (ao, .inl (cL, 1, .inr (.inl o1.2.2)))) rfl (by unfold vp_in; decide) ?_
    refine J_perm (ws2 := (List.flatten [wPL cI cB cO A o1.2.1, wMO cI cB am o2.2, [(ao, .inl (cL, 1, .inr (.inl o1.2.2)))]])) (by simpa using (seg_split (segs := [wPL cI cB cO A o1.2.1, wMO cI cB am o2.2, [(ao, .inl (cL, 1, .inr (.inl o1.2.2)))]]) (Wc := [[(ao, .inl (cL, 1, .inr (.inl o1.2.2)))]]) (Wr := [wPL cI cB cO A o1.2.1, wMO cI cB am o2.2]) [2] [0, 1] rfl rfl 3 rfl (by decide)).symm) ?_
    refine J_iload (pc := 416) C dlw_416 0 rfl ?_
    refine J_i2l (pc := 418) C dlw_418 ?_
    refine J_lcmp (pc := 419) C dlw_419 ?_
    refine J_if_eq (α := Unit) (o := ()) (X := some ()) (Y := none) (pc := 420) (tgt := 425) C dlw_420 (by decide) (if_pos (by have hv := hval h0; rw [show (0 : Int32).toNatClampNeg = 0 from rfl, hv]; exact lg_cmp_self _)) (fun _ => ?_) (fun h => by cases h)
    refine J_goto (tgt := 3187) (pc := 425) C dlw_425 (by decide) ?_
    refine J_sub (lv2 := [(4, .int i), (3, .ref ao), (2, .ref (am 0)), (1, .ref (A 0 0)), (0, .ref b)]) [2, 3, 4, 5, 6] rfl ?_
    exact kx _ _ _ hRn
  · refine J_if_ne (α := Unit) (o := ()) (X := none) (Y := some ()) (pc := 410) (tgt := 425) C dlw_410 (by decide) (if_neg h0) (fun _ => ?_) (fun h => by cases h)
    refine J_goto (tgt := 3187) (pc := 425) C dlw_425 (by decide) ?_
    refine J_sub (lv2 := [(4, .int i), (3, .ref ao), (2, .ref (am 0)), (1, .ref (A 0 0)), (0, .ref b)]) [2, 3, 4, 5, 6] rfl ?_
    exact kx _ _ _ hRn
set_option maxHeartbeats 4000000 in
set_option maxRecDepth 100000 in
theorem K_errorPosition {p : Program} {l : Launch} {e : Env} {s : State} {m : MethodId} {below : List Frame} {meth : Method} {c : Code} {D : va_G} {cI cB cL cO : ClassId} {pf : Nat → Nat} {Q : State → Prop} {k n b L : Nat} {xs : Nat → Int32} {N : Nat} {A : Nat → Nat → Nat} {am : Nat → Nat} {ao : Nat} {i : Int32} {Rl : Nat → T_PL → T_MO → Prop} {st : T_PL} {mo : T_MO} {f : Nat → Int64} {kk : Nat} (C : jC p s m #[Value.ref b] meth c code 7 R_lawN D [(cI, .int), (cB, .byte), (cL, .long), (cO, .object RX0)] pf (fun q => s.heap.size ≤ q)) (hl : l.stackTraces = false) (hX : va_X b L xs s s.heap) (hbl : b < s.heap.size) (hbA : ¬ (fun q : Nat => s.heap.size ≤ q) b) (h1 : vp_in (i + (1 : Int32)) L) (h2 : vp_in (i + (2 : Int32)) L) (h3 : vp_in (i + (3 : Int32)) L) (h4 : vp_in (i + (4 : Int32)) L) (h5 : vp_in (i + (5 : Int32)) L) (hSt : (StB Rl (fun s => P_errorPosition N s) (fun m => F_M_errorPosition N m))) (hk : kk < 512) (hR : Rl kk st mo) (hkn : k + 4 ≤ room_1.cells ∧ n + 24 ≤ room_1.slots) (kx : ∀ st2 mo2 f2, Rl (kk + 1) st2 mo2 → J p l e room_1 s m #[Value.ref b] below meth c 7 D (fun q => s.heap.size ≤ q) Q (k + 4) (n + 24) 3187 [(4, .int i), (3, .ref ao), (2, .ref (am 0)), (1, .ref (A 0 0)), (0, .ref b)] [] (List.flatten [wPL cI cB cO A st2, wMO cI cB am mo2, [(ao, .inl (cL, 1, .inr (.inl f2)))]])) : J p l e room_1 s m #[Value.ref b] below meth c 7 D (fun q => s.heap.size ≤ q) Q (k) (n) 428 [(4, .int i), (3, .ref ao), (2, .ref (am 0)), (1, .ref (A 0 0)), (0, .ref b)] [] (List.flatten [wPL cI cB cO A st, wMO cI cB am mo, [(ao, .inl (cL, 1, .inr (.inl f)))]]) := by
  refine J_aload_n (pc := 428) C dlw_428 3 rfl ?_
  obtain ⟨o1, o2, e1, e2, hth, hRn⟩ := hSt kk st mo hk hR
  refine J_cvF (pc := 429) (As := []) (st := []) C dlw_429 ml_L_177 mi_yX10_errorPosition (Q_errorPosition l D cI cB cL cO pf N A st o1 e1) (List.flatten [wMO cI cB am mo, [(ao, .inl (cL, 1, .inr (.inl f)))]]) (List.Perm.refl _) at_this rfl rfl ⟨(Nat.le_of_ble_eq_true rfl), (Nat.le_of_ble_eq_true rfl)⟩ ⟨Nat.le_trans (Nat.le_add_right _ 4) hkn.1, Nat.le_trans (Nat.le_add_right _ 24) hkn.2⟩ (Nat.le_of_ble_eq_true rfl) ?_
  rintro v w1 ⟨rfl, rfl⟩
  refine J_ws (ws2 := (List.flatten [wPL cI cB cO A o1.2, wMO cI cB am mo, [(ao, .inl (cL, 1, .inr (.inl f)))]])) rfl ?_
  refine J_widen (k2 := k + 4) (n2 := n + 24) (Nat.le_add_right _ 4) (Nat.le_add_right _ 24) ?_
  refine J_aload_n (pc := 432) C dlw_432 2 rfl ?_
  refine J_cvF (pc := 433) (As := []) (st := [.int o1.1]) C dlw_433 ml_L_180 mi_yX11_errorPosition (C_M_errorPosition l D cI cB cL cO pf N am mo o2 e2) (List.flatten [wPL cI cB cO A o1.2, [(ao, .inl (cL, 1, .inr (.inl f)))]]) (seg_split (segs := [wPL cI cB cO A o1.2, wMO cI cB am mo, [(ao, .inl (cL, 1, .inr (.inl f)))]]) (Wc := [wMO cI cB am mo]) (Wr := [wPL cI cB cO A o1.2, [(ao, .inl (cL, 1, .inr (.inl f)))]]) [1] [0, 2] rfl rfl 3 rfl (by decide)) (q0 := 0) rfl rfl rfl ⟨(Nat.le_of_ble_eq_true rfl), (Nat.le_of_ble_eq_true rfl)⟩ hkn (Nat.le_of_ble_eq_true rfl) ?_
  rintro v w1 ⟨rfl, rfl⟩
  refine J_perm (ws2 := (List.flatten [wPL cI cB cO A o1.2, wMO cI cB am o2.2, [(ao, .inl (cL, 1, .inr (.inl f)))]])) (seg_split (segs := [wPL cI cB cO A o1.2, wMO cI cB am o2.2, [(ao, .inl (cL, 1, .inr (.inl f)))]]) (Wc := [wMO cI cB am o2.2]) (Wr := [wPL cI cB cO A o1.2, [(ao, .inl (cL, 1, .inr (.inl f)))]]) [1] [0, 2] rfl rfl 3 rfl (by decide)).symm ?_
  refine J_ic_eq (α := Unit) (o := ()) (X := some ()) (Y := none) (pc := 436) (tgt := 3187) C dlw_436 (by decide) (if_pos hth) (fun _ => ?_) (fun h => by cases h)
  exact kx _ _ _ hRn
set_option maxHeartbeats 4000000 in
set_option maxRecDepth 100000 in
theorem K_load {p : Program} {l : Launch} {e : Env} {s : State} {m : MethodId} {below : List Frame} {meth : Method} {c : Code} {D : va_G} {cI cB cL cO : ClassId} {pf : Nat → Nat} {Q : State → Prop} {k n b L : Nat} {xs : Nat → Int32} {N : Nat} {A : Nat → Nat → Nat} {am : Nat → Nat} {ao : Nat} {i : Int32} {Rl : Nat → T_PL → T_MO → Prop} {st : T_PL} {mo : T_MO} {f : Nat → Int64} {kk : Nat} (C : jC p s m #[Value.ref b] meth c code 7 R_lawN D [(cI, .int), (cB, .byte), (cL, .long), (cO, .object RX0)] pf (fun q => s.heap.size ≤ q)) (hl : l.stackTraces = false) (hX : va_X b L xs s s.heap) (hbl : b < s.heap.size) (hbA : ¬ (fun q : Nat => s.heap.size ≤ q) b) (h1 : vp_in (i + (1 : Int32)) L) (h2 : vp_in (i + (2 : Int32)) L) (h3 : vp_in (i + (3 : Int32)) L) (h4 : vp_in (i + (4 : Int32)) L) (h5 : vp_in (i + (5 : Int32)) L) (hSt : (StA Rl (fun s f => W_load N s f) (fun m => F_M_load N m))) (hk : kk < 512) (hR : Rl kk st mo) (hkn : k + 4 ≤ room_1.cells ∧ n + 24 ≤ room_1.slots) (kx : ∀ st2 mo2 f2, Rl (kk + 1) st2 mo2 → J p l e room_1 s m #[Value.ref b] below meth c 7 D (fun q => s.heap.size ≤ q) Q (k + 4) (n + 24) 3187 [(4, .int i), (3, .ref ao), (2, .ref (am 0)), (1, .ref (A 0 0)), (0, .ref b)] [] (List.flatten [wPL cI cB cO A st2, wMO cI cB am mo2, [(ao, .inl (cL, 1, .inr (.inl f2)))]])) : J p l e room_1 s m #[Value.ref b] below meth c 7 D (fun q => s.heap.size ≤ q) Q (k) (n) 441 [(4, .int i), (3, .ref ao), (2, .ref (am 0)), (1, .ref (A 0 0)), (0, .ref b)] [] (List.flatten [wPL cI cB cO A st, wMO cI cB am mo, [(ao, .inl (cL, 1, .inr (.inl f)))]]) := by
  refine J_aload_n (pc := 441) C dlw_441 3 rfl ?_
  refine J_aload_n (pc := 442) C dlw_442 1 rfl ?_
  obtain ⟨o1, o2, e1, e2, hth, hval, hRn⟩ := hSt kk st mo f hk hR
  refine J_csH (pc := 443) (As := [.ref (A 0 0), .ref ao]) (st := []) C dlw_443 ml_L_181 wh_load (V_load l hl D cI cB cL cO pf N A ao st f o1 e1) (List.flatten [wMO cI cB am mo]) (seg_split (segs := [wPL cI cB cO A st, wMO cI cB am mo, [(ao, .inl (cL, 1, .inr (.inl f)))]]) (Wc := [wPL cI cB cO A st, [(ao, .inl (cL, 1, .inr (.inl f)))]]) (Wr := [wMO cI cB am mo]) [0, 2] [1] rfl rfl 3 rfl (by decide)) rfl ⟨(Nat.le_of_ble_eq_true rfl), (Nat.le_of_ble_eq_true rfl)⟩ ⟨Nat.le_trans (Nat.add_le_add_left (Nat.le_of_ble_eq_true rfl) _) hkn.1, Nat.le_trans (Nat.add_le_add_left (Nat.le_of_ble_eq_true rfl) _) hkn.2⟩ (Nat.le_of_ble_eq_true rfl) ?_
  rintro v w1 ⟨rfl, rfl⟩
  refine J_perm (ws2 := (List.flatten [wPL cI cB cO A o1.2.1, wMO cI cB am mo, [(ao, .inl (cL, 1, .inr (.inl o1.2.2)))]])) (seg_split (segs := [wPL cI cB cO A o1.2.1, wMO cI cB am mo, [(ao, .inl (cL, 1, .inr (.inl o1.2.2)))]]) (Wc := [wPL cI cB cO A o1.2.1, [(ao, .inl (cL, 1, .inr (.inl o1.2.2)))]]) (Wr := [wMO cI cB am mo]) [0, 2] [1] rfl rfl 3 rfl (by decide)).symm ?_
  refine J_widen (k2 := k + 4) (n2 := n + 24) (Nat.add_le_add_left (Nat.le_of_ble_eq_true rfl) _) (Nat.add_le_add_left (Nat.le_of_ble_eq_true rfl) _) ?_
  refine J_istore (lv2 := [(5, .int o1.1), (4, .int i), (3, .ref ao), (2, .ref (am 0)), (1, .ref (A 0 0)), (0, .ref b)]) (pc := 446) C dlw_446 (by decide) rfl ?_
  refine J_aload_n (pc := 448) C dlw_448 3 rfl ?_
  refine J_cvF (pc := 449) (As := []) (st := []) C dlw_449 ml_L_184 mi_yX11_load (C_M_load l D cI cB cL cO pf N am mo o2 e2) (List.flatten [wPL cI cB cO A o1.2.1, [(ao, .inl (cL, 1, .inr (.inl o1.2.2)))]]) (seg_split (segs := [wPL cI cB cO A o1.2.1, wMO cI cB am mo, [(ao, .inl (cL, 1, .inr (.inl o1.2.2)))]]) (Wc := [wMO cI cB am mo]) (Wr := [wPL cI cB cO A o1.2.1, [(ao, .inl (cL, 1, .inr (.inl o1.2.2)))]]) [1] [0, 2] rfl rfl 3 rfl (by decide)) (q0 := 0) rfl rfl rfl ⟨(Nat.le_of_ble_eq_true rfl), (Nat.le_of_ble_eq_true rfl)⟩ hkn (Nat.le_of_ble_eq_true rfl) ?_
  rintro v w1 ⟨rfl, rfl⟩
  refine J_perm (ws2 := (List.flatten [wPL cI cB cO A o1.2.1, wMO cI cB am o2.2, [(ao, .inl (cL, 1, .inr (.inl o1.2.2)))]])) (seg_split (segs := [wPL cI cB cO A o1.2.1, wMO cI cB am o2.2, [(ao, .inl (cL, 1, .inr (.inl o1.2.2)))]]) (Wc := [wMO cI cB am o2.2]) (Wr := [wPL cI cB cO A o1.2.1, [(ao, .inl (cL, 1, .inr (.inl o1.2.2)))]]) [1] [0, 2] rfl rfl 3 rfl (by decide)).symm ?_
  refine J_istore (lv2 := [(6, .int o2.1), (5, .int o1.1), (4, .int i), (3, .ref ao), (2, .ref (am 0)), (1, .ref (A 0 0)), (0, .ref b)]) (pc := 452) C dlw_452 (by decide) rfl ?_
  refine J_aload_n (pc := 454) C dlw_454 4 rfl ?_
  refine J_cvF (pc := 455) (As := []) (st := []) C dlw_455 ml_L_170 mi_yX11_thrown (C_M_thrown l D cI cB cL cO pf N am o2.2 o2.2.1 rfl) (List.flatten [wPL cI cB cO A o1.2.1, [(ao, .inl (cL, 1, .inr (.inl o1.2.2)))]]) (seg_split (segs := [wPL cI cB cO A o1.2.1, wMO cI cB am o2.2, [(ao, .inl (cL, 1, .inr (.inl o1.2.2)))]]) (Wc := [wMO cI cB am o2.2]) (Wr := [wPL cI cB cO A o1.2.1, [(ao, .inl (cL, 1, .inr (.inl o1.2.2)))]]) [1] [0, 2] rfl rfl 3 rfl (by decide)) (q0 := 0) rfl rfl rfl ⟨(Nat.le_of_ble_eq_true rfl), (Nat.le_of_ble_eq_true rfl)⟩ hkn (Nat.le_of_ble_eq_true rfl) ?_
  rintro v w1 ⟨rfl, rfl⟩
  refine J_perm (ws2 := (List.flatten [wPL cI cB cO A o1.2.1, wMO cI cB am o2.2, [(ao, .inl (cL, 1, .inr (.inl o1.2.2)))]])) (seg_split (segs := [wPL cI cB cO A o1.2.1, wMO cI cB am o2.2, [(ao, .inl (cL, 1, .inr (.inl o1.2.2)))]]) (Wc := [wMO cI cB am o2.2]) (Wr := [wPL cI cB cO A o1.2.1, [(ao, .inl (cL, 1, .inr (.inl o1.2.2)))]]) [1] [0, 2] rfl rfl 3 rfl (by decide)).symm ?_
  refine J_iload (pc := 458) C dlw_458 1 rfl ?_
  refine J_ic_eq (α := Unit) (o := ()) (X := some ()) (Y := none) (pc := 460) (tgt := 465) C dlw_460 (by decide) (if_pos hth) (fun _ => ?_) (fun h => by cases h)
  refine J_iload (pc := 465) C dlw_465 1 rfl ?_
  by_cases h0 : o1.1 = 0
  · refine J_if_ne (α := Unit) (o := ()) (X := some ()) (Y := none) (pc := 467) (tgt := 482) C dlw_467 (by decide) (if_pos h0) (fun h => by cases h) (fun _ => ?_)
    refine J_aload_n (pc := 470) C dlw_470 3 rfl ?_
    refine J_iconst (v := (0 : Int32)) (pc := 471) C dlw_471 (by decide) ?_
    refine J_perm (ws2 := [(ao, .inl (cL, 1, .inr (.inl o1.2.2)))] ++ List.flatten [wPL cI cB cO A o1.2.1, wMO cI cB am o2.2]) (by simpa using seg_split (segs := [wPL cI cB cO A o1.2.1, wMO cI cB am o2.2, [(ao, .inl (cL, 1, .inr (.inl o1.2.2)))]]) (Wc := [[(ao, .inl (cL, 1, .inr (.inl o1.2.2)))]]) (Wr := [wPL cI cB cO A o1.2.1, wMO cI cB am o2.2]) [2] [0, 1] rfl rfl 3 rfl (by decide)) ?_
    refine J_lald (pc := 472) C dlw_472 0 2 (rfl : ([(ao, .inl (cL, 1, .inr (.inl o1.2.2)))] ++ List.flatten [wPL cI cB cO A o1.2.1, wMO cI cB am o2.2] : va_W)[0]? = some (ao, .inl (cL, 1, .inr (.inl o1.2.2)))) rfl (by unfold vp_in; decide) ?_
    refine J_perm (ws2 := (List.flatten [wPL cI cB cO A o1.2.1, wMO cI cB am o2.2, [(ao, .inl (cL, 1, .inr (.inl o1.2.2)))]])) (by simpa using (seg_split (segs := [wPL cI cB cO A o1.2.1, wMO cI cB am o2.2, [(ao, .inl (cL, 1, .inr (.inl o1.2.2)))]]) (Wc := [[(ao, .inl (cL, 1, .inr (.inl o1.2.2)))]]) (Wr := [wPL cI cB cO A o1.2.1, wMO cI cB am o2.2]) [2] [0, 1] rfl rfl 3 rfl (by decide)).symm) ?_
    refine J_iload (pc := 473) C dlw_473 0 rfl ?_
    refine J_i2l (pc := 475) C dlw_475 ?_
    refine J_lcmp (pc := 476) C dlw_476 ?_
    refine J_if_eq (α := Unit) (o := ()) (X := some ()) (Y := none) (pc := 477) (tgt := 482) C dlw_477 (by decide) (if_pos (by have hv := hval h0; rw [show (0 : Int32).toNatClampNeg = 0 from rfl, hv]; exact lg_cmp_self _)) (fun _ => ?_) (fun h => by cases h)
    refine J_goto (tgt := 3187) (pc := 482) C dlw_482 (by decide) ?_
    refine J_sub (lv2 := [(4, .int i), (3, .ref ao), (2, .ref (am 0)), (1, .ref (A 0 0)), (0, .ref b)]) [2, 3, 4, 5, 6] rfl ?_
    exact kx _ _ _ hRn
  · refine J_if_ne (α := Unit) (o := ()) (X := none) (Y := some ()) (pc := 467) (tgt := 482) C dlw_467 (by decide) (if_neg h0) (fun _ => ?_) (fun h => by cases h)
    refine J_goto (tgt := 3187) (pc := 482) C dlw_482 (by decide) ?_
    refine J_sub (lv2 := [(4, .int i), (3, .ref ao), (2, .ref (am 0)), (1, .ref (A 0 0)), (0, .ref b)]) [2, 3, 4, 5, 6] rfl ?_
    exact kx _ _ _ hRn
set_option maxHeartbeats 4000000 in
set_option maxRecDepth 100000 in
theorem K_find {p : Program} {l : Launch} {e : Env} {s : State} {m : MethodId} {below : List Frame} {meth : Method} {c : Code} {D : va_G} {cI cB cL cO : ClassId} {pf : Nat → Nat} {Q : State → Prop} {k n b L : Nat} {xs : Nat → Int32} {N : Nat} {A : Nat → Nat → Nat} {am : Nat → Nat} {ao : Nat} {i : Int32} {Rl : Nat → T_PL → T_MO → Prop} {st : T_PL} {mo : T_MO} {f : Nat → Int64} {kk : Nat} (C : jC p s m #[Value.ref b] meth c code 7 R_lawN D [(cI, .int), (cB, .byte), (cL, .long), (cO, .object RX0)] pf (fun q => s.heap.size ≤ q)) (hl : l.stackTraces = false) (hX : va_X b L xs s s.heap) (hbl : b < s.heap.size) (hbA : ¬ (fun q : Nat => s.heap.size ≤ q) b) (h1 : vp_in (i + (1 : Int32)) L) (h2 : vp_in (i + (2 : Int32)) L) (h3 : vp_in (i + (3 : Int32)) L) (h4 : vp_in (i + (4 : Int32)) L) (h5 : vp_in (i + (5 : Int32)) L) (hSt : (StA Rl (fun s f => W_find N s f) (fun m => F_M_find N m))) (hk : kk < 512) (hR : Rl kk st mo) (hkn : k + 4 ≤ room_1.cells ∧ n + 24 ≤ room_1.slots) (kx : ∀ st2 mo2 f2, Rl (kk + 1) st2 mo2 → J p l e room_1 s m #[Value.ref b] below meth c 7 D (fun q => s.heap.size ≤ q) Q (k + 4) (n + 24) 3187 [(4, .int i), (3, .ref ao), (2, .ref (am 0)), (1, .ref (A 0 0)), (0, .ref b)] [] (List.flatten [wPL cI cB cO A st2, wMO cI cB am mo2, [(ao, .inl (cL, 1, .inr (.inl f2)))]])) : J p l e room_1 s m #[Value.ref b] below meth c 7 D (fun q => s.heap.size ≤ q) Q (k) (n) 485 [(4, .int i), (3, .ref ao), (2, .ref (am 0)), (1, .ref (A 0 0)), (0, .ref b)] [] (List.flatten [wPL cI cB cO A st, wMO cI cB am mo, [(ao, .inl (cL, 1, .inr (.inl f)))]]) := by
  refine J_aload_n (pc := 485) C dlw_485 3 rfl ?_
  refine J_aload_n (pc := 486) C dlw_486 1 rfl ?_
  obtain ⟨o1, o2, e1, e2, hth, hval, hRn⟩ := hSt kk st mo f hk hR
  refine J_csH (pc := 487) (As := [.ref (A 0 0), .ref ao]) (st := []) C dlw_487 ml_L_185 wh_find (V_find l hl D cI cB cL cO pf N A ao st f o1 e1) (List.flatten [wMO cI cB am mo]) (seg_split (segs := [wPL cI cB cO A st, wMO cI cB am mo, [(ao, .inl (cL, 1, .inr (.inl f)))]]) (Wc := [wPL cI cB cO A st, [(ao, .inl (cL, 1, .inr (.inl f)))]]) (Wr := [wMO cI cB am mo]) [0, 2] [1] rfl rfl 3 rfl (by decide)) rfl ⟨(Nat.le_of_ble_eq_true rfl), (Nat.le_of_ble_eq_true rfl)⟩ ⟨Nat.le_trans (Nat.add_le_add_left (Nat.le_of_ble_eq_true rfl) _) hkn.1, Nat.le_trans (Nat.add_le_add_left (Nat.le_of_ble_eq_true rfl) _) hkn.2⟩ (Nat.le_of_ble_eq_true rfl) ?_
  rintro v w1 ⟨rfl, rfl⟩
  refine J_perm (ws2 := (List.flatten [wPL cI cB cO A o1.2.1, wMO cI cB am mo, [(ao, .inl (cL, 1, .inr (.inl o1.2.2)))]])) (seg_split (segs := [wPL cI cB cO A o1.2.1, wMO cI cB am mo, [(ao, .inl (cL, 1, .inr (.inl o1.2.2)))]]) (Wc := [wPL cI cB cO A o1.2.1, [(ao, .inl (cL, 1, .inr (.inl o1.2.2)))]]) (Wr := [wMO cI cB am mo]) [0, 2] [1] rfl rfl 3 rfl (by decide)).symm ?_
  refine J_widen (k2 := k + 4) (n2 := n + 24) (Nat.add_le_add_left (Nat.le_of_ble_eq_true rfl) _) (Nat.add_le_add_left (Nat.le_of_ble_eq_true rfl) _) ?_
  refine J_istore (lv2 := [(5, .int o1.1), (4, .int i), (3, .ref ao), (2, .ref (am 0)), (1, .ref (A 0 0)), (0, .ref b)]) (pc := 490) C dlw_490 (by decide) rfl ?_
  refine J_aload_n (pc := 492) C dlw_492 3 rfl ?_
  refine J_cvF (pc := 493) (As := []) (st := []) C dlw_493 ml_L_187 mi_yX11_find (C_M_find l D cI cB cL cO pf N am mo o2 e2) (List.flatten [wPL cI cB cO A o1.2.1, [(ao, .inl (cL, 1, .inr (.inl o1.2.2)))]]) (seg_split (segs := [wPL cI cB cO A o1.2.1, wMO cI cB am mo, [(ao, .inl (cL, 1, .inr (.inl o1.2.2)))]]) (Wc := [wMO cI cB am mo]) (Wr := [wPL cI cB cO A o1.2.1, [(ao, .inl (cL, 1, .inr (.inl o1.2.2)))]]) [1] [0, 2] rfl rfl 3 rfl (by decide)) (q0 := 0) rfl rfl rfl ⟨(Nat.le_of_ble_eq_true rfl), (Nat.le_of_ble_eq_true rfl)⟩ hkn (Nat.le_of_ble_eq_true rfl) ?_
  rintro v w1 ⟨rfl, rfl⟩
  refine J_perm (ws2 := (List.flatten [wPL cI cB cO A o1.2.1, wMO cI cB am o2.2, [(ao, .inl (cL, 1, .inr (.inl o1.2.2)))]])) (seg_split (segs := [wPL cI cB cO A o1.2.1, wMO cI cB am o2.2, [(ao, .inl (cL, 1, .inr (.inl o1.2.2)))]]) (Wc := [wMO cI cB am o2.2]) (Wr := [wPL cI cB cO A o1.2.1, [(ao, .inl (cL, 1, .inr (.inl o1.2.2)))]]) [1] [0, 2] rfl rfl 3 rfl (by decide)).symm ?_
  refine J_istore (lv2 := [(6, .int o2.1), (5, .int o1.1), (4, .int i), (3, .ref ao), (2, .ref (am 0)), (1, .ref (A 0 0)), (0, .ref b)]) (pc := 496) C dlw_496 (by decide) rfl ?_
  refine J_aload_n (pc := 498) C dlw_498 4 rfl ?_
  refine J_cvF (pc := 499) (As := []) (st := []) C dlw_499 ml_L_170 mi_yX11_thrown (C_M_thrown l D cI cB cL cO pf N am o2.2 o2.2.1 rfl) (List.flatten [wPL cI cB cO A o1.2.1, [(ao, .inl (cL, 1, .inr (.inl o1.2.2)))]]) (seg_split (segs := [wPL cI cB cO A o1.2.1, wMO cI cB am o2.2, [(ao, .inl (cL, 1, .inr (.inl o1.2.2)))]]) (Wc := [wMO cI cB am o2.2]) (Wr := [wPL cI cB cO A o1.2.1, [(ao, .inl (cL, 1, .inr (.inl o1.2.2)))]]) [1] [0, 2] rfl rfl 3 rfl (by decide)) (q0 := 0) rfl rfl rfl ⟨(Nat.le_of_ble_eq_true rfl), (Nat.le_of_ble_eq_true rfl)⟩ hkn (Nat.le_of_ble_eq_true rfl) ?_
  rintro v w1 ⟨rfl, rfl⟩
  refine J_perm (ws2 := (List.flatten [wPL cI cB cO A o1.2.1, wMO cI cB am o2.2, [(ao, .inl (cL, 1, .inr (.inl o1.2.2)))]])) (seg_split (segs := [wPL cI cB cO A o1.2.1, wMO cI cB am o2.2, [(ao, .inl (cL, 1, .inr (.inl o1.2.2)))]]) (Wc := [wMO cI cB am o2.2]) (Wr := [wPL cI cB cO A o1.2.1, [(ao, .inl (cL, 1, .inr (.inl o1.2.2)))]]) [1] [0, 2] rfl rfl 3 rfl (by decide)).symm ?_
  refine J_iload (pc := 502) C dlw_502 1 rfl ?_
  refine J_ic_eq (α := Unit) (o := ()) (X := some ()) (Y := none) (pc := 504) (tgt := 509) C dlw_504 (by decide) (if_pos hth) (fun _ => ?_) (fun h => by cases h)
  refine J_iload (pc := 509) C dlw_509 1 rfl ?_
  by_cases h0 : o1.1 = 0
  · refine J_if_ne (α := Unit) (o := ()) (X := some ()) (Y := none) (pc := 511) (tgt := 526) C dlw_511 (by decide) (if_pos h0) (fun h => by cases h) (fun _ => ?_)
    refine J_aload_n (pc := 514) C dlw_514 3 rfl ?_
    refine J_iconst (v := (0 : Int32)) (pc := 515) C dlw_515 (by decide) ?_
    refine J_perm (ws2 := [(ao, .inl (cL, 1, .inr (.inl o1.2.2)))] ++ List.flatten [wPL cI cB cO A o1.2.1, wMO cI cB am o2.2]) (by simpa using seg_split (segs := [wPL cI cB cO A o1.2.1, wMO cI cB am o2.2, [(ao, .inl (cL, 1, .inr (.inl o1.2.2)))]]) (Wc := [[(ao, .inl (cL, 1, .inr (.inl o1.2.2)))]]) (Wr := [wPL cI cB cO A o1.2.1, wMO cI cB am o2.2]) [2] [0, 1] rfl rfl 3 rfl (by decide)) ?_
    refine J_lald (pc := 516) C dlw_516 0 2 (rfl : ([(ao, .inl (cL, 1, .inr (.inl o1.2.2)))] ++ List.flatten [wPL cI cB cO A o1.2.1, wMO cI cB am o2.2] : va_W)[0]? = some (ao, .inl (cL, 1, .inr (.inl o1.2.2)))) rfl (by unfold vp_in; decide) ?_
    refine J_perm (ws2 := (List.flatten [wPL cI cB cO A o1.2.1, wMO cI cB am o2.2, [(ao, .inl (cL, 1, .inr (.inl o1.2.2)))]])) (by simpa using (seg_split (segs := [wPL cI cB cO A o1.2.1, wMO cI cB am o2.2, [(ao, .inl (cL, 1, .inr (.inl o1.2.2)))]]) (Wc := [[(ao, .inl (cL, 1, .inr (.inl o1.2.2)))]]) (Wr := [wPL cI cB cO A o1.2.1, wMO cI cB am o2.2]) [2] [0, 1] rfl rfl 3 rfl (by decide)).symm) ?_
    refine J_iload (pc := 517) C dlw_517 0 rfl ?_
    refine J_i2l (pc := 519) C dlw_519 ?_
    refine J_lcmp (pc := 520) C dlw_520 ?_
    refine J_if_eq (α := Unit) (o := ()) (X := some ()) (Y := none) (pc := 521) (tgt := 526) C dlw_521 (by decide) (if_pos (by have hv := hval h0; rw [show (0 : Int32).toNatClampNeg = 0 from rfl, hv]; exact lg_cmp_self _)) (fun _ => ?_) (fun h => by cases h)
    refine J_goto (tgt := 3187) (pc := 526) C dlw_526 (by decide) ?_
    refine J_sub (lv2 := [(4, .int i), (3, .ref ao), (2, .ref (am 0)), (1, .ref (A 0 0)), (0, .ref b)]) [2, 3, 4, 5, 6] rfl ?_
    exact kx _ _ _ hRn
  · refine J_if_ne (α := Unit) (o := ()) (X := none) (Y := some ()) (pc := 511) (tgt := 526) C dlw_511 (by decide) (if_neg h0) (fun _ => ?_) (fun h => by cases h)
    refine J_goto (tgt := 3187) (pc := 526) C dlw_526 (by decide) ?_
    refine J_sub (lv2 := [(4, .int i), (3, .ref ao), (2, .ref (am 0)), (1, .ref (A 0 0)), (0, .ref b)]) [2, 3, 4, 5, 6] rfl ?_
    exact kx _ _ _ hRn
set_option maxHeartbeats 4000000 in
set_option maxRecDepth 100000 in
theorem K_purchase {p : Program} {l : Launch} {e : Env} {s : State} {m : MethodId} {below : List Frame} {meth : Method} {c : Code} {D : va_G} {cI cB cL cO : ClassId} {pf : Nat → Nat} {Q : State → Prop} {k n b L : Nat} {xs : Nat → Int32} {N : Nat} {A : Nat → Nat → Nat} {am : Nat → Nat} {ao : Nat} {i : Int32} {Rl : Nat → T_PL → T_MO → Prop} {st : T_PL} {mo : T_MO} {f : Nat → Int64} {kk : Nat} (C : jC p s m #[Value.ref b] meth c code 7 R_lawN D [(cI, .int), (cB, .byte), (cL, .long), (cO, .object RX0)] pf (fun q => s.heap.size ≤ q)) (hl : l.stackTraces = false) (hX : va_X b L xs s s.heap) (hbl : b < s.heap.size) (hbA : ¬ (fun q : Nat => s.heap.size ≤ q) b) (h1 : vp_in (i + (1 : Int32)) L) (h2 : vp_in (i + (2 : Int32)) L) (h3 : vp_in (i + (3 : Int32)) L) (h4 : vp_in (i + (4 : Int32)) L) (h5 : vp_in (i + (5 : Int32)) L) (hSt : (∀ x1 : Int32, ∀ x2 : Int32, ∀ x3 : Int32, StA Rl (fun s f => W_purchase N s f x1 x2 x3) (fun m => F_M_purchase N m x1 x2 x3))) (hk : kk < 512) (hR : Rl kk st mo) (hkn : k + 4 ≤ room_1.cells ∧ n + 24 ≤ room_1.slots) (kx : ∀ st2 mo2 f2, Rl (kk + 1) st2 mo2 → J p l e room_1 s m #[Value.ref b] below meth c 7 D (fun q => s.heap.size ≤ q) Q (k + 4) (n + 24) 3187 [(4, .int i), (3, .ref ao), (2, .ref (am 0)), (1, .ref (A 0 0)), (0, .ref b)] [] (List.flatten [wPL cI cB cO A st2, wMO cI cB am mo2, [(ao, .inl (cL, 1, .inr (.inl f2)))]])) : J p l e room_1 s m #[Value.ref b] below meth c 7 D (fun q => s.heap.size ≤ q) Q (k) (n) 529 [(4, .int i), (3, .ref ao), (2, .ref (am 0)), (1, .ref (A 0 0)), (0, .ref b)] [] (List.flatten [wPL cI cB cO A st, wMO cI cB am mo, [(ao, .inl (cL, 1, .inr (.inl f)))]]) := by
  refine J_aload_n (pc := 529) C dlw_529 3 rfl ?_
  refine J_aload_n (pc := 530) C dlw_530 4 rfl ?_
  refine J_iload (pc := 531) C dlw_531 0 rfl ?_
  refine J_iconst (v := (1 : Int32)) (pc := 533) C dlw_533 (by decide) ?_
  refine J_iadd (pc := 534) C dlw_534 ?_
  refine J_sld C hX hbl hbA (pc := 535) dlw_535 h1 ?_
  refine J_aload_n (pc := 536) C dlw_536 4 rfl ?_
  refine J_iload (pc := 537) C dlw_537 0 rfl ?_
  refine J_iconst (v := (2 : Int32)) (pc := 539) C dlw_539 (by decide) ?_
  refine J_iadd (pc := 540) C dlw_540 ?_
  refine J_sld C hX hbl hbA (pc := 541) dlw_541 h2 ?_
  refine J_aload_n (pc := 542) C dlw_542 4 rfl ?_
  refine J_iload (pc := 543) C dlw_543 0 rfl ?_
  refine J_iconst (v := (3 : Int32)) (pc := 545) C dlw_545 (by decide) ?_
  refine J_iadd (pc := 546) C dlw_546 ?_
  refine J_sld C hX hbl hbA (pc := 547) dlw_547 h3 ?_
  refine J_aload_n (pc := 548) C dlw_548 1 rfl ?_
  obtain ⟨o1, o2, e1, e2, hth, hval, hRn⟩ := hSt (xs (i + (1 : Int32)).toNatClampNeg) (xs (i + (2 : Int32)).toNatClampNeg) (xs (i + (3 : Int32)).toNatClampNeg) kk st mo f hk hR
  refine J_csH (pc := 549) (As := [.ref (A 0 0), .int (xs (i + (1 : Int32)).toNatClampNeg), .int (xs (i + (2 : Int32)).toNatClampNeg), .int (xs (i + (3 : Int32)).toNatClampNeg), .ref ao]) (st := []) C dlw_549 ml_L_188 wh_purchase (V_purchase l hl D cI cB cL cO pf N A ao st f (xs (i + (1 : Int32)).toNatClampNeg) (xs (i + (2 : Int32)).toNatClampNeg) (xs (i + (3 : Int32)).toNatClampNeg) o1 e1) (List.flatten [wMO cI cB am mo]) (seg_split (segs := [wPL cI cB cO A st, wMO cI cB am mo, [(ao, .inl (cL, 1, .inr (.inl f)))]]) (Wc := [wPL cI cB cO A st, [(ao, .inl (cL, 1, .inr (.inl f)))]]) (Wr := [wMO cI cB am mo]) [0, 2] [1] rfl rfl 3 rfl (by decide)) rfl ⟨(Nat.le_of_ble_eq_true rfl), (Nat.le_of_ble_eq_true rfl)⟩ ⟨Nat.le_trans (Nat.add_le_add_left (Nat.le_of_ble_eq_true rfl) _) hkn.1, Nat.le_trans (Nat.add_le_add_left (Nat.le_of_ble_eq_true rfl) _) hkn.2⟩ (Nat.le_of_ble_eq_true rfl) ?_
  rintro v w1 ⟨rfl, rfl⟩
  refine J_perm (ws2 := (List.flatten [wPL cI cB cO A o1.2.1, wMO cI cB am mo, [(ao, .inl (cL, 1, .inr (.inl o1.2.2)))]])) (seg_split (segs := [wPL cI cB cO A o1.2.1, wMO cI cB am mo, [(ao, .inl (cL, 1, .inr (.inl o1.2.2)))]]) (Wc := [wPL cI cB cO A o1.2.1, [(ao, .inl (cL, 1, .inr (.inl o1.2.2)))]]) (Wr := [wMO cI cB am mo]) [0, 2] [1] rfl rfl 3 rfl (by decide)).symm ?_
  refine J_widen (k2 := k + 4) (n2 := n + 24) (Nat.add_le_add_left (Nat.le_of_ble_eq_true rfl) _) (Nat.add_le_add_left (Nat.le_of_ble_eq_true rfl) _) ?_
  refine J_istore (lv2 := [(5, .int o1.1), (4, .int i), (3, .ref ao), (2, .ref (am 0)), (1, .ref (A 0 0)), (0, .ref b)]) (pc := 552) C dlw_552 (by decide) rfl ?_
  refine J_aload_n (pc := 554) C dlw_554 3 rfl ?_
  refine J_aload_n (pc := 555) C dlw_555 5 rfl ?_
  refine J_iload (pc := 556) C dlw_556 1 rfl ?_
  refine J_iconst (v := (1 : Int32)) (pc := 558) C dlw_558 (by decide) ?_
  refine J_iadd (pc := 559) C dlw_559 ?_
  refine J_sld C hX hbl hbA (pc := 560) dlw_560 h1 ?_
  refine J_aload_n (pc := 561) C dlw_561 5 rfl ?_
  refine J_iload (pc := 562) C dlw_562 1 rfl ?_
  refine J_iconst (v := (2 : Int32)) (pc := 564) C dlw_564 (by decide) ?_
  refine J_iadd (pc := 565) C dlw_565 ?_
  refine J_sld C hX hbl hbA (pc := 566) dlw_566 h2 ?_
  refine J_aload_n (pc := 567) C dlw_567 5 rfl ?_
  refine J_iload (pc := 568) C dlw_568 1 rfl ?_
  refine J_iconst (v := (3 : Int32)) (pc := 570) C dlw_570 (by decide) ?_
  refine J_iadd (pc := 571) C dlw_571 ?_
  refine J_sld C hX hbl hbA (pc := 572) dlw_572 h3 ?_
  refine J_cvF (pc := 573) (As := [.int (xs (i + (1 : Int32)).toNatClampNeg), .int (xs (i + (2 : Int32)).toNatClampNeg), .int (xs (i + (3 : Int32)).toNatClampNeg)]) (st := []) C dlw_573 ml_L_191 mi_yX11_purchase (C_M_purchase l D cI cB cL cO pf N am mo (xs (i + (1 : Int32)).toNatClampNeg) (xs (i + (2 : Int32)).toNatClampNeg) (xs (i + (3 : Int32)).toNatClampNeg) o2 e2) (List.flatten [wPL cI cB cO A o1.2.1, [(ao, .inl (cL, 1, .inr (.inl o1.2.2)))]]) (seg_split (segs := [wPL cI cB cO A o1.2.1, wMO cI cB am mo, [(ao, .inl (cL, 1, .inr (.inl o1.2.2)))]]) (Wc := [wMO cI cB am mo]) (Wr := [wPL cI cB cO A o1.2.1, [(ao, .inl (cL, 1, .inr (.inl o1.2.2)))]]) [1] [0, 2] rfl rfl 3 rfl (by decide)) (q0 := 0) rfl rfl rfl ⟨(Nat.le_of_ble_eq_true rfl), (Nat.le_of_ble_eq_true rfl)⟩ hkn (Nat.le_of_ble_eq_true rfl) ?_
  rintro v w1 ⟨rfl, rfl⟩
  refine J_perm (ws2 := (List.flatten [wPL cI cB cO A o1.2.1, wMO cI cB am o2.2, [(ao, .inl (cL, 1, .inr (.inl o1.2.2)))]])) (seg_split (segs := [wPL cI cB cO A o1.2.1, wMO cI cB am o2.2, [(ao, .inl (cL, 1, .inr (.inl o1.2.2)))]]) (Wc := [wMO cI cB am o2.2]) (Wr := [wPL cI cB cO A o1.2.1, [(ao, .inl (cL, 1, .inr (.inl o1.2.2)))]]) [1] [0, 2] rfl rfl 3 rfl (by decide)).symm ?_
  refine J_istore (lv2 := [(6, .int o2.1), (5, .int o1.1), (4, .int i), (3, .ref ao), (2, .ref (am 0)), (1, .ref (A 0 0)), (0, .ref b)]) (pc := 576) C dlw_576 (by decide) rfl ?_
  refine J_aload_n (pc := 578) C dlw_578 4 rfl ?_
  refine J_cvF (pc := 579) (As := []) (st := []) C dlw_579 ml_L_170 mi_yX11_thrown (C_M_thrown l D cI cB cL cO pf N am o2.2 o2.2.1 rfl) (List.flatten [wPL cI cB cO A o1.2.1, [(ao, .inl (cL, 1, .inr (.inl o1.2.2)))]]) (seg_split (segs := [wPL cI cB cO A o1.2.1, wMO cI cB am o2.2, [(ao, .inl (cL, 1, .inr (.inl o1.2.2)))]]) (Wc := [wMO cI cB am o2.2]) (Wr := [wPL cI cB cO A o1.2.1, [(ao, .inl (cL, 1, .inr (.inl o1.2.2)))]]) [1] [0, 2] rfl rfl 3 rfl (by decide)) (q0 := 0) rfl rfl rfl ⟨(Nat.le_of_ble_eq_true rfl), (Nat.le_of_ble_eq_true rfl)⟩ hkn (Nat.le_of_ble_eq_true rfl) ?_
  rintro v w1 ⟨rfl, rfl⟩
  refine J_perm (ws2 := (List.flatten [wPL cI cB cO A o1.2.1, wMO cI cB am o2.2, [(ao, .inl (cL, 1, .inr (.inl o1.2.2)))]])) (seg_split (segs := [wPL cI cB cO A o1.2.1, wMO cI cB am o2.2, [(ao, .inl (cL, 1, .inr (.inl o1.2.2)))]]) (Wc := [wMO cI cB am o2.2]) (Wr := [wPL cI cB cO A o1.2.1, [(ao, .inl (cL, 1, .inr (.inl o1.2.2)))]]) [1] [0, 2] rfl rfl 3 rfl (by decide)).symm ?_
  refine J_iload (pc := 582) C dlw_582 1 rfl ?_
  refine J_ic_eq (α := Unit) (o := ()) (X := some ()) (Y := none) (pc := 584) (tgt := 589) C dlw_584 (by decide) (if_pos hth) (fun _ => ?_) (fun h => by cases h)
  refine J_iload (pc := 589) C dlw_589 1 rfl ?_
  by_cases h0 : o1.1 = 0
  · refine J_if_ne (α := Unit) (o := ()) (X := some ()) (Y := none) (pc := 591) (tgt := 606) C dlw_591 (by decide) (if_pos h0) (fun h => by cases h) (fun _ => ?_)
    refine J_aload_n (pc := 594) C dlw_594 3 rfl ?_
    refine J_iconst (v := (0 : Int32)) (pc := 595) C dlw_595 (by decide) ?_
    refine J_perm (ws2 := [(ao, .inl (cL, 1, .inr (.inl o1.2.2)))] ++ List.flatten [wPL cI cB cO A o1.2.1, wMO cI cB am o2.2]) (by simpa using seg_split (segs := [wPL cI cB cO A o1.2.1, wMO cI cB am o2.2, [(ao, .inl (cL, 1, .inr (.inl o1.2.2)))]]) (Wc := [[(ao, .inl (cL, 1, .inr (.inl o1.2.2)))]]) (Wr := [wPL cI cB cO A o1.2.1, wMO cI cB am o2.2]) [2] [0, 1] rfl rfl 3 rfl (by decide)) ?_
    refine J_lald (pc := 596) C dlw_596 0 2 (rfl : ([(ao, .inl (cL, 1, .inr (.inl o1.2.2)))] ++ List.flatten [wPL cI cB cO A o1.2.1, wMO cI cB am o2.2] : va_W)[0]? = some (ao, .inl (cL, 1, .inr (.inl o1.2.2)))) rfl (by unfold vp_in; decide) ?_
    refine J_perm (ws2 := (List.flatten [wPL cI cB cO A o1.2.1, wMO cI cB am o2.2, [(ao, .inl (cL, 1, .inr (.inl o1.2.2)))]])) (by simpa using (seg_split (segs := [wPL cI cB cO A o1.2.1, wMO cI cB am o2.2, [(ao, .inl (cL, 1, .inr (.inl o1.2.2)))]]) (Wc := [[(ao, .inl (cL, 1, .inr (.inl o1.2.2)))]]) (Wr := [wPL cI cB cO A o1.2.1, wMO cI cB am o2.2]) [2] [0, 1] rfl rfl 3 rfl (by decide)).symm) ?_
    refine J_iload (pc := 597) C dlw_597 0 rfl ?_
    refine J_i2l (pc := 599) C dlw_599 ?_
    refine J_lcmp (pc := 600) C dlw_600 ?_
    refine J_if_eq (α := Unit) (o := ()) (X := some ()) (Y := none) (pc := 601) (tgt := 606) C dlw_601 (by decide) (if_pos (by have hv := hval h0; rw [show (0 : Int32).toNatClampNeg = 0 from rfl, hv]; exact lg_cmp_self _)) (fun _ => ?_) (fun h => by cases h)
    refine J_goto (tgt := 3187) (pc := 606) C dlw_606 (by decide) ?_
    refine J_sub (lv2 := [(4, .int i), (3, .ref ao), (2, .ref (am 0)), (1, .ref (A 0 0)), (0, .ref b)]) [2, 3, 4, 5, 6] rfl ?_
    exact kx _ _ _ hRn
  · refine J_if_ne (α := Unit) (o := ()) (X := none) (Y := some ()) (pc := 591) (tgt := 606) C dlw_591 (by decide) (if_neg h0) (fun _ => ?_) (fun h => by cases h)
    refine J_goto (tgt := 3187) (pc := 606) C dlw_606 (by decide) ?_
    refine J_sub (lv2 := [(4, .int i), (3, .ref ao), (2, .ref (am 0)), (1, .ref (A 0 0)), (0, .ref b)]) [2, 3, 4, 5, 6] rfl ?_
    exact kx _ _ _ hRn
set_option maxHeartbeats 4000000 in
set_option maxRecDepth 100000 in
theorem K_refund {p : Program} {l : Launch} {e : Env} {s : State} {m : MethodId} {below : List Frame} {meth : Method} {c : Code} {D : va_G} {cI cB cL cO : ClassId} {pf : Nat → Nat} {Q : State → Prop} {k n b L : Nat} {xs : Nat → Int32} {N : Nat} {A : Nat → Nat → Nat} {am : Nat → Nat} {ao : Nat} {i : Int32} {Rl : Nat → T_PL → T_MO → Prop} {st : T_PL} {mo : T_MO} {f : Nat → Int64} {kk : Nat} (C : jC p s m #[Value.ref b] meth c code 7 R_lawN D [(cI, .int), (cB, .byte), (cL, .long), (cO, .object RX0)] pf (fun q => s.heap.size ≤ q)) (hl : l.stackTraces = false) (hX : va_X b L xs s s.heap) (hbl : b < s.heap.size) (hbA : ¬ (fun q : Nat => s.heap.size ≤ q) b) (h1 : vp_in (i + (1 : Int32)) L) (h2 : vp_in (i + (2 : Int32)) L) (h3 : vp_in (i + (3 : Int32)) L) (h4 : vp_in (i + (4 : Int32)) L) (h5 : vp_in (i + (5 : Int32)) L) (hSt : (∀ x1 : Int32, StA Rl (fun s f => W_refund N s f x1) (fun m => F_M_refund N m x1))) (hk : kk < 512) (hR : Rl kk st mo) (hkn : k + 4 ≤ room_1.cells ∧ n + 24 ≤ room_1.slots) (kx : ∀ st2 mo2 f2, Rl (kk + 1) st2 mo2 → J p l e room_1 s m #[Value.ref b] below meth c 7 D (fun q => s.heap.size ≤ q) Q (k + 4) (n + 24) 3187 [(4, .int i), (3, .ref ao), (2, .ref (am 0)), (1, .ref (A 0 0)), (0, .ref b)] [] (List.flatten [wPL cI cB cO A st2, wMO cI cB am mo2, [(ao, .inl (cL, 1, .inr (.inl f2)))]])) : J p l e room_1 s m #[Value.ref b] below meth c 7 D (fun q => s.heap.size ≤ q) Q (k) (n) 609 [(4, .int i), (3, .ref ao), (2, .ref (am 0)), (1, .ref (A 0 0)), (0, .ref b)] [] (List.flatten [wPL cI cB cO A st, wMO cI cB am mo, [(ao, .inl (cL, 1, .inr (.inl f)))]]) := by
  refine J_aload_n (pc := 609) C dlw_609 3 rfl ?_
  refine J_aload_n (pc := 610) C dlw_610 4 rfl ?_
  refine J_iload (pc := 611) C dlw_611 0 rfl ?_
  refine J_iconst (v := (1 : Int32)) (pc := 613) C dlw_613 (by decide) ?_
  refine J_iadd (pc := 614) C dlw_614 ?_
  refine J_sld C hX hbl hbA (pc := 615) dlw_615 h1 ?_
  refine J_aload_n (pc := 616) C dlw_616 1 rfl ?_
  obtain ⟨o1, o2, e1, e2, hth, hval, hRn⟩ := hSt (xs (i + (1 : Int32)).toNatClampNeg) kk st mo f hk hR
  refine J_csH (pc := 617) (As := [.ref (A 0 0), .int (xs (i + (1 : Int32)).toNatClampNeg), .ref ao]) (st := []) C dlw_617 ml_L_192 wh_refund (V_refund l hl D cI cB cL cO pf N A ao st f (xs (i + (1 : Int32)).toNatClampNeg) o1 e1) (List.flatten [wMO cI cB am mo]) (seg_split (segs := [wPL cI cB cO A st, wMO cI cB am mo, [(ao, .inl (cL, 1, .inr (.inl f)))]]) (Wc := [wPL cI cB cO A st, [(ao, .inl (cL, 1, .inr (.inl f)))]]) (Wr := [wMO cI cB am mo]) [0, 2] [1] rfl rfl 3 rfl (by decide)) rfl ⟨(Nat.le_of_ble_eq_true rfl), (Nat.le_of_ble_eq_true rfl)⟩ ⟨Nat.le_trans (Nat.add_le_add_left (Nat.le_of_ble_eq_true rfl) _) hkn.1, Nat.le_trans (Nat.add_le_add_left (Nat.le_of_ble_eq_true rfl) _) hkn.2⟩ (Nat.le_of_ble_eq_true rfl) ?_
  rintro v w1 ⟨rfl, rfl⟩
  refine J_perm (ws2 := (List.flatten [wPL cI cB cO A o1.2.1, wMO cI cB am mo, [(ao, .inl (cL, 1, .inr (.inl o1.2.2)))]])) (seg_split (segs := [wPL cI cB cO A o1.2.1, wMO cI cB am mo, [(ao, .inl (cL, 1, .inr (.inl o1.2.2)))]]) (Wc := [wPL cI cB cO A o1.2.1, [(ao, .inl (cL, 1, .inr (.inl o1.2.2)))]]) (Wr := [wMO cI cB am mo]) [0, 2] [1] rfl rfl 3 rfl (by decide)).symm ?_
  refine J_widen (k2 := k + 4) (n2 := n + 24) (Nat.add_le_add_left (Nat.le_of_ble_eq_true rfl) _) (Nat.add_le_add_left (Nat.le_of_ble_eq_true rfl) _) ?_
  refine J_istore (lv2 := [(5, .int o1.1), (4, .int i), (3, .ref ao), (2, .ref (am 0)), (1, .ref (A 0 0)), (0, .ref b)]) (pc := 620) C dlw_620 (by decide) rfl ?_
  refine J_aload_n (pc := 622) C dlw_622 3 rfl ?_
  refine J_aload_n (pc := 623) C dlw_623 5 rfl ?_
  refine J_iload (pc := 624) C dlw_624 1 rfl ?_
  refine J_iconst (v := (1 : Int32)) (pc := 626) C dlw_626 (by decide) ?_
  refine J_iadd (pc := 627) C dlw_627 ?_
  refine J_sld C hX hbl hbA (pc := 628) dlw_628 h1 ?_
  refine J_cvF (pc := 629) (As := [.int (xs (i + (1 : Int32)).toNatClampNeg)]) (st := []) C dlw_629 ml_L_194 mi_yX11_refund (C_M_refund l D cI cB cL cO pf N am mo (xs (i + (1 : Int32)).toNatClampNeg) o2 e2) (List.flatten [wPL cI cB cO A o1.2.1, [(ao, .inl (cL, 1, .inr (.inl o1.2.2)))]]) (seg_split (segs := [wPL cI cB cO A o1.2.1, wMO cI cB am mo, [(ao, .inl (cL, 1, .inr (.inl o1.2.2)))]]) (Wc := [wMO cI cB am mo]) (Wr := [wPL cI cB cO A o1.2.1, [(ao, .inl (cL, 1, .inr (.inl o1.2.2)))]]) [1] [0, 2] rfl rfl 3 rfl (by decide)) (q0 := 0) rfl rfl rfl ⟨(Nat.le_of_ble_eq_true rfl), (Nat.le_of_ble_eq_true rfl)⟩ hkn (Nat.le_of_ble_eq_true rfl) ?_
  rintro v w1 ⟨rfl, rfl⟩
  refine J_perm (ws2 := (List.flatten [wPL cI cB cO A o1.2.1, wMO cI cB am o2.2, [(ao, .inl (cL, 1, .inr (.inl o1.2.2)))]])) (seg_split (segs := [wPL cI cB cO A o1.2.1, wMO cI cB am o2.2, [(ao, .inl (cL, 1, .inr (.inl o1.2.2)))]]) (Wc := [wMO cI cB am o2.2]) (Wr := [wPL cI cB cO A o1.2.1, [(ao, .inl (cL, 1, .inr (.inl o1.2.2)))]]) [1] [0, 2] rfl rfl 3 rfl (by decide)).symm ?_
  refine J_istore (lv2 := [(6, .int o2.1), (5, .int o1.1), (4, .int i), (3, .ref ao), (2, .ref (am 0)), (1, .ref (A 0 0)), (0, .ref b)]) (pc := 632) C dlw_632 (by decide) rfl ?_
  refine J_aload_n (pc := 634) C dlw_634 4 rfl ?_
  refine J_cvF (pc := 635) (As := []) (st := []) C dlw_635 ml_L_170 mi_yX11_thrown (C_M_thrown l D cI cB cL cO pf N am o2.2 o2.2.1 rfl) (List.flatten [wPL cI cB cO A o1.2.1, [(ao, .inl (cL, 1, .inr (.inl o1.2.2)))]]) (seg_split (segs := [wPL cI cB cO A o1.2.1, wMO cI cB am o2.2, [(ao, .inl (cL, 1, .inr (.inl o1.2.2)))]]) (Wc := [wMO cI cB am o2.2]) (Wr := [wPL cI cB cO A o1.2.1, [(ao, .inl (cL, 1, .inr (.inl o1.2.2)))]]) [1] [0, 2] rfl rfl 3 rfl (by decide)) (q0 := 0) rfl rfl rfl ⟨(Nat.le_of_ble_eq_true rfl), (Nat.le_of_ble_eq_true rfl)⟩ hkn (Nat.le_of_ble_eq_true rfl) ?_
  rintro v w1 ⟨rfl, rfl⟩
  refine J_perm (ws2 := (List.flatten [wPL cI cB cO A o1.2.1, wMO cI cB am o2.2, [(ao, .inl (cL, 1, .inr (.inl o1.2.2)))]])) (seg_split (segs := [wPL cI cB cO A o1.2.1, wMO cI cB am o2.2, [(ao, .inl (cL, 1, .inr (.inl o1.2.2)))]]) (Wc := [wMO cI cB am o2.2]) (Wr := [wPL cI cB cO A o1.2.1, [(ao, .inl (cL, 1, .inr (.inl o1.2.2)))]]) [1] [0, 2] rfl rfl 3 rfl (by decide)).symm ?_
  refine J_iload (pc := 638) C dlw_638 1 rfl ?_
  refine J_ic_eq (α := Unit) (o := ()) (X := some ()) (Y := none) (pc := 640) (tgt := 645) C dlw_640 (by decide) (if_pos hth) (fun _ => ?_) (fun h => by cases h)
  refine J_iload (pc := 645) C dlw_645 1 rfl ?_
  by_cases h0 : o1.1 = 0
  · refine J_if_ne (α := Unit) (o := ()) (X := some ()) (Y := none) (pc := 647) (tgt := 662) C dlw_647 (by decide) (if_pos h0) (fun h => by cases h) (fun _ => ?_)
    refine J_aload_n (pc := 650) C dlw_650 3 rfl ?_
    refine J_iconst (v := (0 : Int32)) (pc := 651) C dlw_651 (by decide) ?_
    refine J_perm (ws2 := [(ao, .inl (cL, 1, .inr (.inl o1.2.2)))] ++ List.flatten [wPL cI cB cO A o1.2.1, wMO cI cB am o2.2]) (by simpa using seg_split (segs := [wPL cI cB cO A o1.2.1, wMO cI cB am o2.2, [(ao, .inl (cL, 1, .inr (.inl o1.2.2)))]]) (Wc := [[(ao, .inl (cL, 1, .inr (.inl o1.2.2)))]]) (Wr := [wPL cI cB cO A o1.2.1, wMO cI cB am o2.2]) [2] [0, 1] rfl rfl 3 rfl (by decide)) ?_
    refine J_lald (pc := 652) C dlw_652 0 2 (rfl : ([(ao, .inl (cL, 1, .inr (.inl o1.2.2)))] ++ List.flatten [wPL cI cB cO A o1.2.1, wMO cI cB am o2.2] : va_W)[0]? = some (ao, .inl (cL, 1, .inr (.inl o1.2.2)))) rfl (by unfold vp_in; decide) ?_
    refine J_perm (ws2 := (List.flatten [wPL cI cB cO A o1.2.1, wMO cI cB am o2.2, [(ao, .inl (cL, 1, .inr (.inl o1.2.2)))]])) (by simpa using (seg_split (segs := [wPL cI cB cO A o1.2.1, wMO cI cB am o2.2, [(ao, .inl (cL, 1, .inr (.inl o1.2.2)))]]) (Wc := [[(ao, .inl (cL, 1, .inr (.inl o1.2.2)))]]) (Wr := [wPL cI cB cO A o1.2.1, wMO cI cB am o2.2]) [2] [0, 1] rfl rfl 3 rfl (by decide)).symm) ?_
    refine J_iload (pc := 653) C dlw_653 0 rfl ?_
    refine J_i2l (pc := 655) C dlw_655 ?_
    refine J_lcmp (pc := 656) C dlw_656 ?_
    refine J_if_eq (α := Unit) (o := ()) (X := some ()) (Y := none) (pc := 657) (tgt := 662) C dlw_657 (by decide) (if_pos (by have hv := hval h0; rw [show (0 : Int32).toNatClampNeg = 0 from rfl, hv]; exact lg_cmp_self _)) (fun _ => ?_) (fun h => by cases h)
    refine J_goto (tgt := 3187) (pc := 662) C dlw_662 (by decide) ?_
    refine J_sub (lv2 := [(4, .int i), (3, .ref ao), (2, .ref (am 0)), (1, .ref (A 0 0)), (0, .ref b)]) [2, 3, 4, 5, 6] rfl ?_
    exact kx _ _ _ hRn
  · refine J_if_ne (α := Unit) (o := ()) (X := none) (Y := some ()) (pc := 647) (tgt := 662) C dlw_647 (by decide) (if_neg h0) (fun _ => ?_) (fun h => by cases h)
    refine J_goto (tgt := 3187) (pc := 662) C dlw_662 (by decide) ?_
    refine J_sub (lv2 := [(4, .int i), (3, .ref ao), (2, .ref (am 0)), (1, .ref (A 0 0)), (0, .ref b)]) [2, 3, 4, 5, 6] rfl ?_
    exact kx _ _ _ hRn
set_option maxHeartbeats 4000000 in
set_option maxRecDepth 100000 in
theorem K_redeem {p : Program} {l : Launch} {e : Env} {s : State} {m : MethodId} {below : List Frame} {meth : Method} {c : Code} {D : va_G} {cI cB cL cO : ClassId} {pf : Nat → Nat} {Q : State → Prop} {k n b L : Nat} {xs : Nat → Int32} {N : Nat} {A : Nat → Nat → Nat} {am : Nat → Nat} {ao : Nat} {i : Int32} {Rl : Nat → T_PL → T_MO → Prop} {st : T_PL} {mo : T_MO} {f : Nat → Int64} {kk : Nat} (C : jC p s m #[Value.ref b] meth c code 7 R_lawN D [(cI, .int), (cB, .byte), (cL, .long), (cO, .object RX0)] pf (fun q => s.heap.size ≤ q)) (hl : l.stackTraces = false) (hX : va_X b L xs s s.heap) (hbl : b < s.heap.size) (hbA : ¬ (fun q : Nat => s.heap.size ≤ q) b) (h1 : vp_in (i + (1 : Int32)) L) (h2 : vp_in (i + (2 : Int32)) L) (h3 : vp_in (i + (3 : Int32)) L) (h4 : vp_in (i + (4 : Int32)) L) (h5 : vp_in (i + (5 : Int32)) L) (hSt : (∀ x1 : Int32, ∀ x2 : Int32, StA Rl (fun s f => W_redeem N s f x1 x2) (fun m => F_M_redeem N m x1 x2))) (hk : kk < 512) (hR : Rl kk st mo) (hkn : k + 4 ≤ room_1.cells ∧ n + 24 ≤ room_1.slots) (kx : ∀ st2 mo2 f2, Rl (kk + 1) st2 mo2 → J p l e room_1 s m #[Value.ref b] below meth c 7 D (fun q => s.heap.size ≤ q) Q (k + 4) (n + 24) 3187 [(4, .int i), (3, .ref ao), (2, .ref (am 0)), (1, .ref (A 0 0)), (0, .ref b)] [] (List.flatten [wPL cI cB cO A st2, wMO cI cB am mo2, [(ao, .inl (cL, 1, .inr (.inl f2)))]])) : J p l e room_1 s m #[Value.ref b] below meth c 7 D (fun q => s.heap.size ≤ q) Q (k) (n) 665 [(4, .int i), (3, .ref ao), (2, .ref (am 0)), (1, .ref (A 0 0)), (0, .ref b)] [] (List.flatten [wPL cI cB cO A st, wMO cI cB am mo, [(ao, .inl (cL, 1, .inr (.inl f)))]]) := by
  refine J_aload_n (pc := 665) C dlw_665 3 rfl ?_
  refine J_aload_n (pc := 666) C dlw_666 4 rfl ?_
  refine J_iload (pc := 667) C dlw_667 0 rfl ?_
  refine J_iconst (v := (1 : Int32)) (pc := 669) C dlw_669 (by decide) ?_
  refine J_iadd (pc := 670) C dlw_670 ?_
  refine J_sld C hX hbl hbA (pc := 671) dlw_671 h1 ?_
  refine J_aload_n (pc := 672) C dlw_672 4 rfl ?_
  refine J_iload (pc := 673) C dlw_673 0 rfl ?_
  refine J_iconst (v := (2 : Int32)) (pc := 675) C dlw_675 (by decide) ?_
  refine J_iadd (pc := 676) C dlw_676 ?_
  refine J_sld C hX hbl hbA (pc := 677) dlw_677 h2 ?_
  refine J_aload_n (pc := 678) C dlw_678 1 rfl ?_
  obtain ⟨o1, o2, e1, e2, hth, hval, hRn⟩ := hSt (xs (i + (1 : Int32)).toNatClampNeg) (xs (i + (2 : Int32)).toNatClampNeg) kk st mo f hk hR
  refine J_csH (pc := 679) (As := [.ref (A 0 0), .int (xs (i + (1 : Int32)).toNatClampNeg), .int (xs (i + (2 : Int32)).toNatClampNeg), .ref ao]) (st := []) C dlw_679 ml_L_195 wh_redeem (V_redeem l hl D cI cB cL cO pf N A ao st f (xs (i + (1 : Int32)).toNatClampNeg) (xs (i + (2 : Int32)).toNatClampNeg) o1 e1) (List.flatten [wMO cI cB am mo]) (seg_split (segs := [wPL cI cB cO A st, wMO cI cB am mo, [(ao, .inl (cL, 1, .inr (.inl f)))]]) (Wc := [wPL cI cB cO A st, [(ao, .inl (cL, 1, .inr (.inl f)))]]) (Wr := [wMO cI cB am mo]) [0, 2] [1] rfl rfl 3 rfl (by decide)) rfl ⟨(Nat.le_of_ble_eq_true rfl), (Nat.le_of_ble_eq_true rfl)⟩ ⟨Nat.le_trans (Nat.add_le_add_left (Nat.le_of_ble_eq_true rfl) _) hkn.1, Nat.le_trans (Nat.add_le_add_left (Nat.le_of_ble_eq_true rfl) _) hkn.2⟩ (Nat.le_of_ble_eq_true rfl) ?_
  rintro v w1 ⟨rfl, rfl⟩
  refine J_perm (ws2 := (List.flatten [wPL cI cB cO A o1.2.1, wMO cI cB am mo, [(ao, .inl (cL, 1, .inr (.inl o1.2.2)))]])) (seg_split (segs := [wPL cI cB cO A o1.2.1, wMO cI cB am mo, [(ao, .inl (cL, 1, .inr (.inl o1.2.2)))]]) (Wc := [wPL cI cB cO A o1.2.1, [(ao, .inl (cL, 1, .inr (.inl o1.2.2)))]]) (Wr := [wMO cI cB am mo]) [0, 2] [1] rfl rfl 3 rfl (by decide)).symm ?_
  refine J_widen (k2 := k + 4) (n2 := n + 24) (Nat.add_le_add_left (Nat.le_of_ble_eq_true rfl) _) (Nat.add_le_add_left (Nat.le_of_ble_eq_true rfl) _) ?_
  refine J_istore (lv2 := [(5, .int o1.1), (4, .int i), (3, .ref ao), (2, .ref (am 0)), (1, .ref (A 0 0)), (0, .ref b)]) (pc := 682) C dlw_682 (by decide) rfl ?_
  refine J_aload_n (pc := 684) C dlw_684 3 rfl ?_
  refine J_aload_n (pc := 685) C dlw_685 5 rfl ?_
  refine J_iload (pc := 686) C dlw_686 1 rfl ?_
  refine J_iconst (v := (1 : Int32)) (pc := 688) C dlw_688 (by decide) ?_
  refine J_iadd (pc := 689) C dlw_689 ?_
  refine J_sld C hX hbl hbA (pc := 690) dlw_690 h1 ?_
  refine J_aload_n (pc := 691) C dlw_691 5 rfl ?_
  refine J_iload (pc := 692) C dlw_692 1 rfl ?_
  refine J_iconst (v := (2 : Int32)) (pc := 694) C dlw_694 (by decide) ?_
  refine J_iadd (pc := 695) C dlw_695 ?_
  refine J_sld C hX hbl hbA (pc := 696) dlw_696 h2 ?_
  refine J_cvF (pc := 697) (As := [.int (xs (i + (1 : Int32)).toNatClampNeg), .int (xs (i + (2 : Int32)).toNatClampNeg)]) (st := []) C dlw_697 ml_L_198 mi_yX11_redeem (C_M_redeem l D cI cB cL cO pf N am mo (xs (i + (1 : Int32)).toNatClampNeg) (xs (i + (2 : Int32)).toNatClampNeg) o2 e2) (List.flatten [wPL cI cB cO A o1.2.1, [(ao, .inl (cL, 1, .inr (.inl o1.2.2)))]]) (seg_split (segs := [wPL cI cB cO A o1.2.1, wMO cI cB am mo, [(ao, .inl (cL, 1, .inr (.inl o1.2.2)))]]) (Wc := [wMO cI cB am mo]) (Wr := [wPL cI cB cO A o1.2.1, [(ao, .inl (cL, 1, .inr (.inl o1.2.2)))]]) [1] [0, 2] rfl rfl 3 rfl (by decide)) (q0 := 0) rfl rfl rfl ⟨(Nat.le_of_ble_eq_true rfl), (Nat.le_of_ble_eq_true rfl)⟩ hkn (Nat.le_of_ble_eq_true rfl) ?_
  rintro v w1 ⟨rfl, rfl⟩
  refine J_perm (ws2 := (List.flatten [wPL cI cB cO A o1.2.1, wMO cI cB am o2.2, [(ao, .inl (cL, 1, .inr (.inl o1.2.2)))]])) (seg_split (segs := [wPL cI cB cO A o1.2.1, wMO cI cB am o2.2, [(ao, .inl (cL, 1, .inr (.inl o1.2.2)))]]) (Wc := [wMO cI cB am o2.2]) (Wr := [wPL cI cB cO A o1.2.1, [(ao, .inl (cL, 1, .inr (.inl o1.2.2)))]]) [1] [0, 2] rfl rfl 3 rfl (by decide)).symm ?_
  refine J_istore (lv2 := [(6, .int o2.1), (5, .int o1.1), (4, .int i), (3, .ref ao), (2, .ref (am 0)), (1, .ref (A 0 0)), (0, .ref b)]) (pc := 700) C dlw_700 (by decide) rfl ?_
  refine J_aload_n (pc := 702) C dlw_702 4 rfl ?_
  refine J_cvF (pc := 703) (As := []) (st := []) C dlw_703 ml_L_170 mi_yX11_thrown (C_M_thrown l D cI cB cL cO pf N am o2.2 o2.2.1 rfl) (List.flatten [wPL cI cB cO A o1.2.1, [(ao, .inl (cL, 1, .inr (.inl o1.2.2)))]]) (seg_split (segs := [wPL cI cB cO A o1.2.1, wMO cI cB am o2.2, [(ao, .inl (cL, 1, .inr (.inl o1.2.2)))]]) (Wc := [wMO cI cB am o2.2]) (Wr := [wPL cI cB cO A o1.2.1, [(ao, .inl (cL, 1, .inr (.inl o1.2.2)))]]) [1] [0, 2] rfl rfl 3 rfl (by decide)) (q0 := 0) rfl rfl rfl ⟨(Nat.le_of_ble_eq_true rfl), (Nat.le_of_ble_eq_true rfl)⟩ hkn (Nat.le_of_ble_eq_true rfl) ?_
  rintro v w1 ⟨rfl, rfl⟩
  refine J_perm (ws2 := (List.flatten [wPL cI cB cO A o1.2.1, wMO cI cB am o2.2, [(ao, .inl (cL, 1, .inr (.inl o1.2.2)))]])) (seg_split (segs := [wPL cI cB cO A o1.2.1, wMO cI cB am o2.2, [(ao, .inl (cL, 1, .inr (.inl o1.2.2)))]]) (Wc := [wMO cI cB am o2.2]) (Wr := [wPL cI cB cO A o1.2.1, [(ao, .inl (cL, 1, .inr (.inl o1.2.2)))]]) [1] [0, 2] rfl rfl 3 rfl (by decide)).symm ?_
  refine J_iload (pc := 706) C dlw_706 1 rfl ?_
  refine J_ic_eq (α := Unit) (o := ()) (X := some ()) (Y := none) (pc := 708) (tgt := 713) C dlw_708 (by decide) (if_pos hth) (fun _ => ?_) (fun h => by cases h)
  refine J_iload (pc := 713) C dlw_713 1 rfl ?_
  by_cases h0 : o1.1 = 0
  · refine J_if_ne (α := Unit) (o := ()) (X := some ()) (Y := none) (pc := 715) (tgt := 730) C dlw_715 (by decide) (if_pos h0) (fun h => by cases h) (fun _ => ?_)
    refine J_aload_n (pc := 718) C dlw_718 3 rfl ?_
    refine J_iconst (v := (0 : Int32)) (pc := 719) C dlw_719 (by decide) ?_
    refine J_perm (ws2 := [(ao, .inl (cL, 1, .inr (.inl o1.2.2)))] ++ List.flatten [wPL cI cB cO A o1.2.1, wMO cI cB am o2.2]) (by simpa using seg_split (segs := [wPL cI cB cO A o1.2.1, wMO cI cB am o2.2, [(ao, .inl (cL, 1, .inr (.inl o1.2.2)))]]) (Wc := [[(ao, .inl (cL, 1, .inr (.inl o1.2.2)))]]) (Wr := [wPL cI cB cO A o1.2.1, wMO cI cB am o2.2]) [2] [0, 1] rfl rfl 3 rfl (by decide)) ?_
    refine J_lald (pc := 720) C dlw_720 0 2 (rfl : ([(ao, .inl (cL, 1, .inr (.inl o1.2.2)))] ++ List.flatten [wPL cI cB cO A o1.2.1, wMO cI cB am o2.2] : va_W)[0]? = some (ao, .inl (cL, 1, .inr (.inl o1.2.2)))) rfl (by unfold vp_in; decide) ?_
    refine J_perm (ws2 := (List.flatten [wPL cI cB cO A o1.2.1, wMO cI cB am o2.2, [(ao, .inl (cL, 1, .inr (.inl o1.2.2)))]])) (by simpa using (seg_split (segs := [wPL cI cB cO A o1.2.1, wMO cI cB am o2.2, [(ao, .inl (cL, 1, .inr (.inl o1.2.2)))]]) (Wc := [[(ao, .inl (cL, 1, .inr (.inl o1.2.2)))]]) (Wr := [wPL cI cB cO A o1.2.1, wMO cI cB am o2.2]) [2] [0, 1] rfl rfl 3 rfl (by decide)).symm) ?_
    refine J_iload (pc := 721) C dlw_721 0 rfl ?_
    refine J_i2l (pc := 723) C dlw_723 ?_
    refine J_lcmp (pc := 724) C dlw_724 ?_
    refine J_if_eq (α := Unit) (o := ()) (X := some ()) (Y := none) (pc := 725) (tgt := 730) C dlw_725 (by decide) (if_pos (by have hv := hval h0; rw [show (0 : Int32).toNatClampNeg = 0 from rfl, hv]; exact lg_cmp_self _)) (fun _ => ?_) (fun h => by cases h)
    refine J_goto (tgt := 3187) (pc := 730) C dlw_730 (by decide) ?_
    refine J_sub (lv2 := [(4, .int i), (3, .ref ao), (2, .ref (am 0)), (1, .ref (A 0 0)), (0, .ref b)]) [2, 3, 4, 5, 6] rfl ?_
    exact kx _ _ _ hRn
  · refine J_if_ne (α := Unit) (o := ()) (X := none) (Y := some ()) (pc := 715) (tgt := 730) C dlw_715 (by decide) (if_neg h0) (fun _ => ?_) (fun h => by cases h)
    refine J_goto (tgt := 3187) (pc := 730) C dlw_730 (by decide) ?_
    refine J_sub (lv2 := [(4, .int i), (3, .ref ao), (2, .ref (am 0)), (1, .ref (A 0 0)), (0, .ref b)]) [2, 3, 4, 5, 6] rfl ?_
    exact kx _ _ _ hRn
set_option maxHeartbeats 4000000 in
set_option maxRecDepth 100000 in
theorem K_transfer {p : Program} {l : Launch} {e : Env} {s : State} {m : MethodId} {below : List Frame} {meth : Method} {c : Code} {D : va_G} {cI cB cL cO : ClassId} {pf : Nat → Nat} {Q : State → Prop} {k n b L : Nat} {xs : Nat → Int32} {N : Nat} {A : Nat → Nat → Nat} {am : Nat → Nat} {ao : Nat} {i : Int32} {Rl : Nat → T_PL → T_MO → Prop} {st : T_PL} {mo : T_MO} {f : Nat → Int64} {kk : Nat} (C : jC p s m #[Value.ref b] meth c code 7 R_lawN D [(cI, .int), (cB, .byte), (cL, .long), (cO, .object RX0)] pf (fun q => s.heap.size ≤ q)) (hl : l.stackTraces = false) (hX : va_X b L xs s s.heap) (hbl : b < s.heap.size) (hbA : ¬ (fun q : Nat => s.heap.size ≤ q) b) (h1 : vp_in (i + (1 : Int32)) L) (h2 : vp_in (i + (2 : Int32)) L) (h3 : vp_in (i + (3 : Int32)) L) (h4 : vp_in (i + (4 : Int32)) L) (h5 : vp_in (i + (5 : Int32)) L) (hSt : (∀ x1 : Int32, ∀ x2 : Int32, ∀ x3 : Int32, StA Rl (fun s f => W_transfer N s f x1 x2 x3) (fun m => F_M_transfer N m x1 x2 x3))) (hk : kk < 512) (hR : Rl kk st mo) (hkn : k + 4 ≤ room_1.cells ∧ n + 24 ≤ room_1.slots) (kx : ∀ st2 mo2 f2, Rl (kk + 1) st2 mo2 → J p l e room_1 s m #[Value.ref b] below meth c 7 D (fun q => s.heap.size ≤ q) Q (k + 4) (n + 24) 3187 [(4, .int i), (3, .ref ao), (2, .ref (am 0)), (1, .ref (A 0 0)), (0, .ref b)] [] (List.flatten [wPL cI cB cO A st2, wMO cI cB am mo2, [(ao, .inl (cL, 1, .inr (.inl f2)))]])) : J p l e room_1 s m #[Value.ref b] below meth c 7 D (fun q => s.heap.size ≤ q) Q (k) (n) 733 [(4, .int i), (3, .ref ao), (2, .ref (am 0)), (1, .ref (A 0 0)), (0, .ref b)] [] (List.flatten [wPL cI cB cO A st, wMO cI cB am mo, [(ao, .inl (cL, 1, .inr (.inl f)))]]) := by
  refine J_aload_n (pc := 733) C dlw_733 3 rfl ?_
  refine J_aload_n (pc := 734) C dlw_734 4 rfl ?_
  refine J_iload (pc := 735) C dlw_735 0 rfl ?_
  refine J_iconst (v := (1 : Int32)) (pc := 737) C dlw_737 (by decide) ?_
  refine J_iadd (pc := 738) C dlw_738 ?_
  refine J_sld C hX hbl hbA (pc := 739) dlw_739 h1 ?_
  refine J_aload_n (pc := 740) C dlw_740 4 rfl ?_
  refine J_iload (pc := 741) C dlw_741 0 rfl ?_
  refine J_iconst (v := (2 : Int32)) (pc := 743) C dlw_743 (by decide) ?_
  refine J_iadd (pc := 744) C dlw_744 ?_
  refine J_sld C hX hbl hbA (pc := 745) dlw_745 h2 ?_
  refine J_aload_n (pc := 746) C dlw_746 4 rfl ?_
  refine J_iload (pc := 747) C dlw_747 0 rfl ?_
  refine J_iconst (v := (3 : Int32)) (pc := 749) C dlw_749 (by decide) ?_
  refine J_iadd (pc := 750) C dlw_750 ?_
  refine J_sld C hX hbl hbA (pc := 751) dlw_751 h3 ?_
  refine J_aload_n (pc := 752) C dlw_752 1 rfl ?_
  obtain ⟨o1, o2, e1, e2, hth, hval, hRn⟩ := hSt (xs (i + (1 : Int32)).toNatClampNeg) (xs (i + (2 : Int32)).toNatClampNeg) (xs (i + (3 : Int32)).toNatClampNeg) kk st mo f hk hR
  refine J_csH (pc := 753) (As := [.ref (A 0 0), .int (xs (i + (1 : Int32)).toNatClampNeg), .int (xs (i + (2 : Int32)).toNatClampNeg), .int (xs (i + (3 : Int32)).toNatClampNeg), .ref ao]) (st := []) C dlw_753 ml_L_199 wh_transfer (V_transfer l hl D cI cB cL cO pf N A ao st f (xs (i + (1 : Int32)).toNatClampNeg) (xs (i + (2 : Int32)).toNatClampNeg) (xs (i + (3 : Int32)).toNatClampNeg) o1 e1) (List.flatten [wMO cI cB am mo]) (seg_split (segs := [wPL cI cB cO A st, wMO cI cB am mo, [(ao, .inl (cL, 1, .inr (.inl f)))]]) (Wc := [wPL cI cB cO A st, [(ao, .inl (cL, 1, .inr (.inl f)))]]) (Wr := [wMO cI cB am mo]) [0, 2] [1] rfl rfl 3 rfl (by decide)) rfl ⟨(Nat.le_of_ble_eq_true rfl), (Nat.le_of_ble_eq_true rfl)⟩ ⟨Nat.le_trans (Nat.add_le_add_left (Nat.le_of_ble_eq_true rfl) _) hkn.1, Nat.le_trans (Nat.add_le_add_left (Nat.le_of_ble_eq_true rfl) _) hkn.2⟩ (Nat.le_of_ble_eq_true rfl) ?_
  rintro v w1 ⟨rfl, rfl⟩
  refine J_perm (ws2 := (List.flatten [wPL cI cB cO A o1.2.1, wMO cI cB am mo, [(ao, .inl (cL, 1, .inr (.inl o1.2.2)))]])) (seg_split (segs := [wPL cI cB cO A o1.2.1, wMO cI cB am mo, [(ao, .inl (cL, 1, .inr (.inl o1.2.2)))]]) (Wc := [wPL cI cB cO A o1.2.1, [(ao, .inl (cL, 1, .inr (.inl o1.2.2)))]]) (Wr := [wMO cI cB am mo]) [0, 2] [1] rfl rfl 3 rfl (by decide)).symm ?_
  refine J_widen (k2 := k + 4) (n2 := n + 24) (Nat.add_le_add_left (Nat.le_of_ble_eq_true rfl) _) (Nat.add_le_add_left (Nat.le_of_ble_eq_true rfl) _) ?_
  refine J_istore (lv2 := [(5, .int o1.1), (4, .int i), (3, .ref ao), (2, .ref (am 0)), (1, .ref (A 0 0)), (0, .ref b)]) (pc := 756) C dlw_756 (by decide) rfl ?_
  refine J_aload_n (pc := 758) C dlw_758 3 rfl ?_
  refine J_aload_n (pc := 759) C dlw_759 5 rfl ?_
  refine J_iload (pc := 760) C dlw_760 1 rfl ?_
  refine J_iconst (v := (1 : Int32)) (pc := 762) C dlw_762 (by decide) ?_
  refine J_iadd (pc := 763) C dlw_763 ?_
  refine J_sld C hX hbl hbA (pc := 764) dlw_764 h1 ?_
  refine J_aload_n (pc := 765) C dlw_765 5 rfl ?_
  refine J_iload (pc := 766) C dlw_766 1 rfl ?_
  refine J_iconst (v := (2 : Int32)) (pc := 768) C dlw_768 (by decide) ?_
  refine J_iadd (pc := 769) C dlw_769 ?_
  refine J_sld C hX hbl hbA (pc := 770) dlw_770 h2 ?_
  refine J_aload_n (pc := 771) C dlw_771 5 rfl ?_
  refine J_iload (pc := 772) C dlw_772 1 rfl ?_
  refine J_iconst (v := (3 : Int32)) (pc := 774) C dlw_774 (by decide) ?_
  refine J_iadd (pc := 775) C dlw_775 ?_
  refine J_sld C hX hbl hbA (pc := 776) dlw_776 h3 ?_
  refine J_cvF (pc := 777) (As := [.int (xs (i + (1 : Int32)).toNatClampNeg), .int (xs (i + (2 : Int32)).toNatClampNeg), .int (xs (i + (3 : Int32)).toNatClampNeg)]) (st := []) C dlw_777 ml_L_201 mi_yX11_transfer (C_M_transfer l D cI cB cL cO pf N am mo (xs (i + (1 : Int32)).toNatClampNeg) (xs (i + (2 : Int32)).toNatClampNeg) (xs (i + (3 : Int32)).toNatClampNeg) o2 e2) (List.flatten [wPL cI cB cO A o1.2.1, [(ao, .inl (cL, 1, .inr (.inl o1.2.2)))]]) (seg_split (segs := [wPL cI cB cO A o1.2.1, wMO cI cB am mo, [(ao, .inl (cL, 1, .inr (.inl o1.2.2)))]]) (Wc := [wMO cI cB am mo]) (Wr := [wPL cI cB cO A o1.2.1, [(ao, .inl (cL, 1, .inr (.inl o1.2.2)))]]) [1] [0, 2] rfl rfl 3 rfl (by decide)) (q0 := 0) rfl rfl rfl ⟨(Nat.le_of_ble_eq_true rfl), (Nat.le_of_ble_eq_true rfl)⟩ hkn (Nat.le_of_ble_eq_true rfl) ?_
  rintro v w1 ⟨rfl, rfl⟩
  refine J_perm (ws2 := (List.flatten [wPL cI cB cO A o1.2.1, wMO cI cB am o2.2, [(ao, .inl (cL, 1, .inr (.inl o1.2.2)))]])) (seg_split (segs := [wPL cI cB cO A o1.2.1, wMO cI cB am o2.2, [(ao, .inl (cL, 1, .inr (.inl o1.2.2)))]]) (Wc := [wMO cI cB am o2.2]) (Wr := [wPL cI cB cO A o1.2.1, [(ao, .inl (cL, 1, .inr (.inl o1.2.2)))]]) [1] [0, 2] rfl rfl 3 rfl (by decide)).symm ?_
  refine J_istore (lv2 := [(6, .int o2.1), (5, .int o1.1), (4, .int i), (3, .ref ao), (2, .ref (am 0)), (1, .ref (A 0 0)), (0, .ref b)]) (pc := 780) C dlw_780 (by decide) rfl ?_
  refine J_aload_n (pc := 782) C dlw_782 4 rfl ?_
  refine J_cvF (pc := 783) (As := []) (st := []) C dlw_783 ml_L_170 mi_yX11_thrown (C_M_thrown l D cI cB cL cO pf N am o2.2 o2.2.1 rfl) (List.flatten [wPL cI cB cO A o1.2.1, [(ao, .inl (cL, 1, .inr (.inl o1.2.2)))]]) (seg_split (segs := [wPL cI cB cO A o1.2.1, wMO cI cB am o2.2, [(ao, .inl (cL, 1, .inr (.inl o1.2.2)))]]) (Wc := [wMO cI cB am o2.2]) (Wr := [wPL cI cB cO A o1.2.1, [(ao, .inl (cL, 1, .inr (.inl o1.2.2)))]]) [1] [0, 2] rfl rfl 3 rfl (by decide)) (q0 := 0) rfl rfl rfl ⟨(Nat.le_of_ble_eq_true rfl), (Nat.le_of_ble_eq_true rfl)⟩ hkn (Nat.le_of_ble_eq_true rfl) ?_
  rintro v w1 ⟨rfl, rfl⟩
  refine J_perm (ws2 := (List.flatten [wPL cI cB cO A o1.2.1, wMO cI cB am o2.2, [(ao, .inl (cL, 1, .inr (.inl o1.2.2)))]])) (seg_split (segs := [wPL cI cB cO A o1.2.1, wMO cI cB am o2.2, [(ao, .inl (cL, 1, .inr (.inl o1.2.2)))]]) (Wc := [wMO cI cB am o2.2]) (Wr := [wPL cI cB cO A o1.2.1, [(ao, .inl (cL, 1, .inr (.inl o1.2.2)))]]) [1] [0, 2] rfl rfl 3 rfl (by decide)).symm ?_
  refine J_iload (pc := 786) C dlw_786 1 rfl ?_
  refine J_ic_eq (α := Unit) (o := ()) (X := some ()) (Y := none) (pc := 788) (tgt := 793) C dlw_788 (by decide) (if_pos hth) (fun _ => ?_) (fun h => by cases h)
  refine J_iload (pc := 793) C dlw_793 1 rfl ?_
  by_cases h0 : o1.1 = 0
  · refine J_if_ne (α := Unit) (o := ()) (X := some ()) (Y := none) (pc := 795) (tgt := 810) C dlw_795 (by decide) (if_pos h0) (fun h => by cases h) (fun _ => ?_)
    refine J_aload_n (pc := 798) C dlw_798 3 rfl ?_
    refine J_iconst (v := (0 : Int32)) (pc := 799) C dlw_799 (by decide) ?_
    refine J_perm (ws2 := [(ao, .inl (cL, 1, .inr (.inl o1.2.2)))] ++ List.flatten [wPL cI cB cO A o1.2.1, wMO cI cB am o2.2]) (by simpa using seg_split (segs := [wPL cI cB cO A o1.2.1, wMO cI cB am o2.2, [(ao, .inl (cL, 1, .inr (.inl o1.2.2)))]]) (Wc := [[(ao, .inl (cL, 1, .inr (.inl o1.2.2)))]]) (Wr := [wPL cI cB cO A o1.2.1, wMO cI cB am o2.2]) [2] [0, 1] rfl rfl 3 rfl (by decide)) ?_
    refine J_lald (pc := 800) C dlw_800 0 2 (rfl : ([(ao, .inl (cL, 1, .inr (.inl o1.2.2)))] ++ List.flatten [wPL cI cB cO A o1.2.1, wMO cI cB am o2.2] : va_W)[0]? = some (ao, .inl (cL, 1, .inr (.inl o1.2.2)))) rfl (by unfold vp_in; decide) ?_
    refine J_perm (ws2 := (List.flatten [wPL cI cB cO A o1.2.1, wMO cI cB am o2.2, [(ao, .inl (cL, 1, .inr (.inl o1.2.2)))]])) (by simpa using (seg_split (segs := [wPL cI cB cO A o1.2.1, wMO cI cB am o2.2, [(ao, .inl (cL, 1, .inr (.inl o1.2.2)))]]) (Wc := [[(ao, .inl (cL, 1, .inr (.inl o1.2.2)))]]) (Wr := [wPL cI cB cO A o1.2.1, wMO cI cB am o2.2]) [2] [0, 1] rfl rfl 3 rfl (by decide)).symm) ?_
    refine J_iload (pc := 801) C dlw_801 0 rfl ?_
    refine J_i2l (pc := 803) C dlw_803 ?_
    refine J_lcmp (pc := 804) C dlw_804 ?_
    refine J_if_eq (α := Unit) (o := ()) (X := some ()) (Y := none) (pc := 805) (tgt := 810) C dlw_805 (by decide) (if_pos (by have hv := hval h0; rw [show (0 : Int32).toNatClampNeg = 0 from rfl, hv]; exact lg_cmp_self _)) (fun _ => ?_) (fun h => by cases h)
    refine J_goto (tgt := 3187) (pc := 810) C dlw_810 (by decide) ?_
    refine J_sub (lv2 := [(4, .int i), (3, .ref ao), (2, .ref (am 0)), (1, .ref (A 0 0)), (0, .ref b)]) [2, 3, 4, 5, 6] rfl ?_
    exact kx _ _ _ hRn
  · refine J_if_ne (α := Unit) (o := ()) (X := none) (Y := some ()) (pc := 795) (tgt := 810) C dlw_795 (by decide) (if_neg h0) (fun _ => ?_) (fun h => by cases h)
    refine J_goto (tgt := 3187) (pc := 810) C dlw_810 (by decide) ?_
    refine J_sub (lv2 := [(4, .int i), (3, .ref ao), (2, .ref (am 0)), (1, .ref (A 0 0)), (0, .ref b)]) [2, 3, 4, 5, 6] rfl ?_
    exact kx _ _ _ hRn
set_option maxHeartbeats 4000000 in
set_option maxRecDepth 100000 in
theorem K_join {p : Program} {l : Launch} {e : Env} {s : State} {m : MethodId} {below : List Frame} {meth : Method} {c : Code} {D : va_G} {cI cB cL cO : ClassId} {pf : Nat → Nat} {Q : State → Prop} {k n b L : Nat} {xs : Nat → Int32} {N : Nat} {A : Nat → Nat → Nat} {am : Nat → Nat} {ao : Nat} {i : Int32} {Rl : Nat → T_PL → T_MO → Prop} {st : T_PL} {mo : T_MO} {f : Nat → Int64} {kk : Nat} (C : jC p s m #[Value.ref b] meth c code 7 R_lawN D [(cI, .int), (cB, .byte), (cL, .long), (cO, .object RX0)] pf (fun q => s.heap.size ≤ q)) (hl : l.stackTraces = false) (hX : va_X b L xs s s.heap) (hbl : b < s.heap.size) (hbA : ¬ (fun q : Nat => s.heap.size ≤ q) b) (h1 : vp_in (i + (1 : Int32)) L) (h2 : vp_in (i + (2 : Int32)) L) (h3 : vp_in (i + (3 : Int32)) L) (h4 : vp_in (i + (4 : Int32)) L) (h5 : vp_in (i + (5 : Int32)) L) (hSt : (∀ x1 : Int32, ∀ x2 : Int32, StA Rl (fun s f => W_join N s f x1 x2) (fun m => F_M_join N m x1 x2))) (hk : kk < 512) (hR : Rl kk st mo) (hkn : k + 4 ≤ room_1.cells ∧ n + 24 ≤ room_1.slots) (kx : ∀ st2 mo2 f2, Rl (kk + 1) st2 mo2 → J p l e room_1 s m #[Value.ref b] below meth c 7 D (fun q => s.heap.size ≤ q) Q (k + 4) (n + 24) 3187 [(4, .int i), (3, .ref ao), (2, .ref (am 0)), (1, .ref (A 0 0)), (0, .ref b)] [] (List.flatten [wPL cI cB cO A st2, wMO cI cB am mo2, [(ao, .inl (cL, 1, .inr (.inl f2)))]])) : J p l e room_1 s m #[Value.ref b] below meth c 7 D (fun q => s.heap.size ≤ q) Q (k) (n) 813 [(4, .int i), (3, .ref ao), (2, .ref (am 0)), (1, .ref (A 0 0)), (0, .ref b)] [] (List.flatten [wPL cI cB cO A st, wMO cI cB am mo, [(ao, .inl (cL, 1, .inr (.inl f)))]]) := by
  refine J_aload_n (pc := 813) C dlw_813 3 rfl ?_
  refine J_aload_n (pc := 814) C dlw_814 4 rfl ?_
  refine J_iload (pc := 815) C dlw_815 0 rfl ?_
  refine J_iconst (v := (1 : Int32)) (pc := 817) C dlw_817 (by decide) ?_
  refine J_iadd (pc := 818) C dlw_818 ?_
  refine J_sld C hX hbl hbA (pc := 819) dlw_819 h1 ?_
  refine J_aload_n (pc := 820) C dlw_820 4 rfl ?_
  refine J_iload (pc := 821) C dlw_821 0 rfl ?_
  refine J_iconst (v := (2 : Int32)) (pc := 823) C dlw_823 (by decide) ?_
  refine J_iadd (pc := 824) C dlw_824 ?_
  refine J_sld C hX hbl hbA (pc := 825) dlw_825 h2 ?_
  refine J_aload_n (pc := 826) C dlw_826 1 rfl ?_
  obtain ⟨o1, o2, e1, e2, hth, hval, hRn⟩ := hSt (xs (i + (1 : Int32)).toNatClampNeg) (xs (i + (2 : Int32)).toNatClampNeg) kk st mo f hk hR
  refine J_csH (pc := 827) (As := [.ref (A 0 0), .int (xs (i + (1 : Int32)).toNatClampNeg), .int (xs (i + (2 : Int32)).toNatClampNeg), .ref ao]) (st := []) C dlw_827 ml_L_202 wh_join (V_join l hl D cI cB cL cO pf N A ao st f (xs (i + (1 : Int32)).toNatClampNeg) (xs (i + (2 : Int32)).toNatClampNeg) o1 e1) (List.flatten [wMO cI cB am mo]) (seg_split (segs := [wPL cI cB cO A st, wMO cI cB am mo, [(ao, .inl (cL, 1, .inr (.inl f)))]]) (Wc := [wPL cI cB cO A st, [(ao, .inl (cL, 1, .inr (.inl f)))]]) (Wr := [wMO cI cB am mo]) [0, 2] [1] rfl rfl 3 rfl (by decide)) rfl ⟨(Nat.le_of_ble_eq_true rfl), (Nat.le_of_ble_eq_true rfl)⟩ ⟨Nat.le_trans (Nat.add_le_add_left (Nat.le_of_ble_eq_true rfl) _) hkn.1, Nat.le_trans (Nat.add_le_add_left (Nat.le_of_ble_eq_true rfl) _) hkn.2⟩ (Nat.le_of_ble_eq_true rfl) ?_
  rintro v w1 ⟨rfl, rfl⟩
  refine J_perm (ws2 := (List.flatten [wPL cI cB cO A o1.2.1, wMO cI cB am mo, [(ao, .inl (cL, 1, .inr (.inl o1.2.2)))]])) (seg_split (segs := [wPL cI cB cO A o1.2.1, wMO cI cB am mo, [(ao, .inl (cL, 1, .inr (.inl o1.2.2)))]]) (Wc := [wPL cI cB cO A o1.2.1, [(ao, .inl (cL, 1, .inr (.inl o1.2.2)))]]) (Wr := [wMO cI cB am mo]) [0, 2] [1] rfl rfl 3 rfl (by decide)).symm ?_
  refine J_widen (k2 := k + 4) (n2 := n + 24) (Nat.add_le_add_left (Nat.le_of_ble_eq_true rfl) _) (Nat.add_le_add_left (Nat.le_of_ble_eq_true rfl) _) ?_
  refine J_istore (lv2 := [(5, .int o1.1), (4, .int i), (3, .ref ao), (2, .ref (am 0)), (1, .ref (A 0 0)), (0, .ref b)]) (pc := 830) C dlw_830 (by decide) rfl ?_
  refine J_aload_n (pc := 832) C dlw_832 3 rfl ?_
  refine J_aload_n (pc := 833) C dlw_833 5 rfl ?_
  refine J_iload (pc := 834) C dlw_834 1 rfl ?_
  refine J_iconst (v := (1 : Int32)) (pc := 836) C dlw_836 (by decide) ?_
  refine J_iadd (pc := 837) C dlw_837 ?_
  refine J_sld C hX hbl hbA (pc := 838) dlw_838 h1 ?_
  refine J_aload_n (pc := 839) C dlw_839 5 rfl ?_
  refine J_iload (pc := 840) C dlw_840 1 rfl ?_
  refine J_iconst (v := (2 : Int32)) (pc := 842) C dlw_842 (by decide) ?_
  refine J_iadd (pc := 843) C dlw_843 ?_
  refine J_sld C hX hbl hbA (pc := 844) dlw_844 h2 ?_
  refine J_cvF (pc := 845) (As := [.int (xs (i + (1 : Int32)).toNatClampNeg), .int (xs (i + (2 : Int32)).toNatClampNeg)]) (st := []) C dlw_845 ml_L_204 mi_yX11_join (C_M_join l D cI cB cL cO pf N am mo (xs (i + (1 : Int32)).toNatClampNeg) (xs (i + (2 : Int32)).toNatClampNeg) o2 e2) (List.flatten [wPL cI cB cO A o1.2.1, [(ao, .inl (cL, 1, .inr (.inl o1.2.2)))]]) (seg_split (segs := [wPL cI cB cO A o1.2.1, wMO cI cB am mo, [(ao, .inl (cL, 1, .inr (.inl o1.2.2)))]]) (Wc := [wMO cI cB am mo]) (Wr := [wPL cI cB cO A o1.2.1, [(ao, .inl (cL, 1, .inr (.inl o1.2.2)))]]) [1] [0, 2] rfl rfl 3 rfl (by decide)) (q0 := 0) rfl rfl rfl ⟨(Nat.le_of_ble_eq_true rfl), (Nat.le_of_ble_eq_true rfl)⟩ hkn (Nat.le_of_ble_eq_true rfl) ?_
  rintro v w1 ⟨rfl, rfl⟩
  refine J_perm (ws2 := (List.flatten [wPL cI cB cO A o1.2.1, wMO cI cB am o2.2, [(ao, .inl (cL, 1, .inr (.inl o1.2.2)))]])) (seg_split (segs := [wPL cI cB cO A o1.2.1, wMO cI cB am o2.2, [(ao, .inl (cL, 1, .inr (.inl o1.2.2)))]]) (Wc := [wMO cI cB am o2.2]) (Wr := [wPL cI cB cO A o1.2.1, [(ao, .inl (cL, 1, .inr (.inl o1.2.2)))]]) [1] [0, 2] rfl rfl 3 rfl (by decide)).symm ?_
  refine J_istore (lv2 := [(6, .int o2.1), (5, .int o1.1), (4, .int i), (3, .ref ao), (2, .ref (am 0)), (1, .ref (A 0 0)), (0, .ref b)]) (pc := 848) C dlw_848 (by decide) rfl ?_
  refine J_aload_n (pc := 850) C dlw_850 4 rfl ?_
  refine J_cvF (pc := 851) (As := []) (st := []) C dlw_851 ml_L_170 mi_yX11_thrown (C_M_thrown l D cI cB cL cO pf N am o2.2 o2.2.1 rfl) (List.flatten [wPL cI cB cO A o1.2.1, [(ao, .inl (cL, 1, .inr (.inl o1.2.2)))]]) (seg_split (segs := [wPL cI cB cO A o1.2.1, wMO cI cB am o2.2, [(ao, .inl (cL, 1, .inr (.inl o1.2.2)))]]) (Wc := [wMO cI cB am o2.2]) (Wr := [wPL cI cB cO A o1.2.1, [(ao, .inl (cL, 1, .inr (.inl o1.2.2)))]]) [1] [0, 2] rfl rfl 3 rfl (by decide)) (q0 := 0) rfl rfl rfl ⟨(Nat.le_of_ble_eq_true rfl), (Nat.le_of_ble_eq_true rfl)⟩ hkn (Nat.le_of_ble_eq_true rfl) ?_
  rintro v w1 ⟨rfl, rfl⟩
  refine J_perm (ws2 := (List.flatten [wPL cI cB cO A o1.2.1, wMO cI cB am o2.2, [(ao, .inl (cL, 1, .inr (.inl o1.2.2)))]])) (seg_split (segs := [wPL cI cB cO A o1.2.1, wMO cI cB am o2.2, [(ao, .inl (cL, 1, .inr (.inl o1.2.2)))]]) (Wc := [wMO cI cB am o2.2]) (Wr := [wPL cI cB cO A o1.2.1, [(ao, .inl (cL, 1, .inr (.inl o1.2.2)))]]) [1] [0, 2] rfl rfl 3 rfl (by decide)).symm ?_
  refine J_iload (pc := 854) C dlw_854 1 rfl ?_
  refine J_ic_eq (α := Unit) (o := ()) (X := some ()) (Y := none) (pc := 856) (tgt := 861) C dlw_856 (by decide) (if_pos hth) (fun _ => ?_) (fun h => by cases h)
  refine J_iload (pc := 861) C dlw_861 1 rfl ?_
  by_cases h0 : o1.1 = 0
  · refine J_if_ne (α := Unit) (o := ()) (X := some ()) (Y := none) (pc := 863) (tgt := 878) C dlw_863 (by decide) (if_pos h0) (fun h => by cases h) (fun _ => ?_)
    refine J_aload_n (pc := 866) C dlw_866 3 rfl ?_
    refine J_iconst (v := (0 : Int32)) (pc := 867) C dlw_867 (by decide) ?_
    refine J_perm (ws2 := [(ao, .inl (cL, 1, .inr (.inl o1.2.2)))] ++ List.flatten [wPL cI cB cO A o1.2.1, wMO cI cB am o2.2]) (by simpa using seg_split (segs := [wPL cI cB cO A o1.2.1, wMO cI cB am o2.2, [(ao, .inl (cL, 1, .inr (.inl o1.2.2)))]]) (Wc := [[(ao, .inl (cL, 1, .inr (.inl o1.2.2)))]]) (Wr := [wPL cI cB cO A o1.2.1, wMO cI cB am o2.2]) [2] [0, 1] rfl rfl 3 rfl (by decide)) ?_
    refine J_lald (pc := 868) C dlw_868 0 2 (rfl : ([(ao, .inl (cL, 1, .inr (.inl o1.2.2)))] ++ List.flatten [wPL cI cB cO A o1.2.1, wMO cI cB am o2.2] : va_W)[0]? = some (ao, .inl (cL, 1, .inr (.inl o1.2.2)))) rfl (by unfold vp_in; decide) ?_
    refine J_perm (ws2 := (List.flatten [wPL cI cB cO A o1.2.1, wMO cI cB am o2.2, [(ao, .inl (cL, 1, .inr (.inl o1.2.2)))]])) (by simpa using (seg_split (segs := [wPL cI cB cO A o1.2.1, wMO cI cB am o2.2, [(ao, .inl (cL, 1, .inr (.inl o1.2.2)))]]) (Wc := [[(ao, .inl (cL, 1, .inr (.inl o1.2.2)))]]) (Wr := [wPL cI cB cO A o1.2.1, wMO cI cB am o2.2]) [2] [0, 1] rfl rfl 3 rfl (by decide)).symm) ?_
    refine J_iload (pc := 869) C dlw_869 0 rfl ?_
    refine J_i2l (pc := 871) C dlw_871 ?_
    refine J_lcmp (pc := 872) C dlw_872 ?_
    refine J_if_eq (α := Unit) (o := ()) (X := some ()) (Y := none) (pc := 873) (tgt := 878) C dlw_873 (by decide) (if_pos (by have hv := hval h0; rw [show (0 : Int32).toNatClampNeg = 0 from rfl, hv]; exact lg_cmp_self _)) (fun _ => ?_) (fun h => by cases h)
    refine J_goto (tgt := 3187) (pc := 878) C dlw_878 (by decide) ?_
    refine J_sub (lv2 := [(4, .int i), (3, .ref ao), (2, .ref (am 0)), (1, .ref (A 0 0)), (0, .ref b)]) [2, 3, 4, 5, 6] rfl ?_
    exact kx _ _ _ hRn
  · refine J_if_ne (α := Unit) (o := ()) (X := none) (Y := some ()) (pc := 863) (tgt := 878) C dlw_863 (by decide) (if_neg h0) (fun _ => ?_) (fun h => by cases h)
    refine J_goto (tgt := 3187) (pc := 878) C dlw_878 (by decide) ?_
    refine J_sub (lv2 := [(4, .int i), (3, .ref ao), (2, .ref (am 0)), (1, .ref (A 0 0)), (0, .ref b)]) [2, 3, 4, 5, 6] rfl ?_
    exact kx _ _ _ hRn
set_option maxHeartbeats 4000000 in
set_option maxRecDepth 100000 in
theorem K_leave {p : Program} {l : Launch} {e : Env} {s : State} {m : MethodId} {below : List Frame} {meth : Method} {c : Code} {D : va_G} {cI cB cL cO : ClassId} {pf : Nat → Nat} {Q : State → Prop} {k n b L : Nat} {xs : Nat → Int32} {N : Nat} {A : Nat → Nat → Nat} {am : Nat → Nat} {ao : Nat} {i : Int32} {Rl : Nat → T_PL → T_MO → Prop} {st : T_PL} {mo : T_MO} {f : Nat → Int64} {kk : Nat} (C : jC p s m #[Value.ref b] meth c code 7 R_lawN D [(cI, .int), (cB, .byte), (cL, .long), (cO, .object RX0)] pf (fun q => s.heap.size ≤ q)) (hl : l.stackTraces = false) (hX : va_X b L xs s s.heap) (hbl : b < s.heap.size) (hbA : ¬ (fun q : Nat => s.heap.size ≤ q) b) (h1 : vp_in (i + (1 : Int32)) L) (h2 : vp_in (i + (2 : Int32)) L) (h3 : vp_in (i + (3 : Int32)) L) (h4 : vp_in (i + (4 : Int32)) L) (h5 : vp_in (i + (5 : Int32)) L) (hSt : (∀ x1 : Int32, StA Rl (fun s f => W_leave N s f x1) (fun m => F_M_leave N m x1))) (hk : kk < 512) (hR : Rl kk st mo) (hkn : k + 4 ≤ room_1.cells ∧ n + 24 ≤ room_1.slots) (kx : ∀ st2 mo2 f2, Rl (kk + 1) st2 mo2 → J p l e room_1 s m #[Value.ref b] below meth c 7 D (fun q => s.heap.size ≤ q) Q (k + 4) (n + 24) 3187 [(4, .int i), (3, .ref ao), (2, .ref (am 0)), (1, .ref (A 0 0)), (0, .ref b)] [] (List.flatten [wPL cI cB cO A st2, wMO cI cB am mo2, [(ao, .inl (cL, 1, .inr (.inl f2)))]])) : J p l e room_1 s m #[Value.ref b] below meth c 7 D (fun q => s.heap.size ≤ q) Q (k) (n) 881 [(4, .int i), (3, .ref ao), (2, .ref (am 0)), (1, .ref (A 0 0)), (0, .ref b)] [] (List.flatten [wPL cI cB cO A st, wMO cI cB am mo, [(ao, .inl (cL, 1, .inr (.inl f)))]]) := by
  refine J_aload_n (pc := 881) C dlw_881 3 rfl ?_
  refine J_aload_n (pc := 882) C dlw_882 4 rfl ?_
  refine J_iload (pc := 883) C dlw_883 0 rfl ?_
  refine J_iconst (v := (1 : Int32)) (pc := 885) C dlw_885 (by decide) ?_
  refine J_iadd (pc := 886) C dlw_886 ?_
  refine J_sld C hX hbl hbA (pc := 887) dlw_887 h1 ?_
  refine J_aload_n (pc := 888) C dlw_888 1 rfl ?_
  obtain ⟨o1, o2, e1, e2, hth, hval, hRn⟩ := hSt (xs (i + (1 : Int32)).toNatClampNeg) kk st mo f hk hR
  refine J_csH (pc := 889) (As := [.ref (A 0 0), .int (xs (i + (1 : Int32)).toNatClampNeg), .ref ao]) (st := []) C dlw_889 ml_L_205 wh_leave (V_leave l hl D cI cB cL cO pf N A ao st f (xs (i + (1 : Int32)).toNatClampNeg) o1 e1) (List.flatten [wMO cI cB am mo]) (seg_split (segs := [wPL cI cB cO A st, wMO cI cB am mo, [(ao, .inl (cL, 1, .inr (.inl f)))]]) (Wc := [wPL cI cB cO A st, [(ao, .inl (cL, 1, .inr (.inl f)))]]) (Wr := [wMO cI cB am mo]) [0, 2] [1] rfl rfl 3 rfl (by decide)) rfl ⟨(Nat.le_of_ble_eq_true rfl), (Nat.le_of_ble_eq_true rfl)⟩ ⟨Nat.le_trans (Nat.add_le_add_left (Nat.le_of_ble_eq_true rfl) _) hkn.1, Nat.le_trans (Nat.add_le_add_left (Nat.le_of_ble_eq_true rfl) _) hkn.2⟩ (Nat.le_of_ble_eq_true rfl) ?_
  rintro v w1 ⟨rfl, rfl⟩
  refine J_perm (ws2 := (List.flatten [wPL cI cB cO A o1.2.1, wMO cI cB am mo, [(ao, .inl (cL, 1, .inr (.inl o1.2.2)))]])) (seg_split (segs := [wPL cI cB cO A o1.2.1, wMO cI cB am mo, [(ao, .inl (cL, 1, .inr (.inl o1.2.2)))]]) (Wc := [wPL cI cB cO A o1.2.1, [(ao, .inl (cL, 1, .inr (.inl o1.2.2)))]]) (Wr := [wMO cI cB am mo]) [0, 2] [1] rfl rfl 3 rfl (by decide)).symm ?_
  refine J_widen (k2 := k + 4) (n2 := n + 24) (Nat.add_le_add_left (Nat.le_of_ble_eq_true rfl) _) (Nat.add_le_add_left (Nat.le_of_ble_eq_true rfl) _) ?_
  refine J_istore (lv2 := [(5, .int o1.1), (4, .int i), (3, .ref ao), (2, .ref (am 0)), (1, .ref (A 0 0)), (0, .ref b)]) (pc := 892) C dlw_892 (by decide) rfl ?_
  refine J_aload_n (pc := 894) C dlw_894 3 rfl ?_
  refine J_aload_n (pc := 895) C dlw_895 5 rfl ?_
  refine J_iload (pc := 896) C dlw_896 1 rfl ?_
  refine J_iconst (v := (1 : Int32)) (pc := 898) C dlw_898 (by decide) ?_
  refine J_iadd (pc := 899) C dlw_899 ?_
  refine J_sld C hX hbl hbA (pc := 900) dlw_900 h1 ?_
  refine J_cvF (pc := 901) (As := [.int (xs (i + (1 : Int32)).toNatClampNeg)]) (st := []) C dlw_901 ml_L_207 mi_yX11_leave (C_M_leave l D cI cB cL cO pf N am mo (xs (i + (1 : Int32)).toNatClampNeg) o2 e2) (List.flatten [wPL cI cB cO A o1.2.1, [(ao, .inl (cL, 1, .inr (.inl o1.2.2)))]]) (seg_split (segs := [wPL cI cB cO A o1.2.1, wMO cI cB am mo, [(ao, .inl (cL, 1, .inr (.inl o1.2.2)))]]) (Wc := [wMO cI cB am mo]) (Wr := [wPL cI cB cO A o1.2.1, [(ao, .inl (cL, 1, .inr (.inl o1.2.2)))]]) [1] [0, 2] rfl rfl 3 rfl (by decide)) (q0 := 0) rfl rfl rfl ⟨(Nat.le_of_ble_eq_true rfl), (Nat.le_of_ble_eq_true rfl)⟩ hkn (Nat.le_of_ble_eq_true rfl) ?_
  rintro v w1 ⟨rfl, rfl⟩
  refine J_perm (ws2 := (List.flatten [wPL cI cB cO A o1.2.1, wMO cI cB am o2.2, [(ao, .inl (cL, 1, .inr (.inl o1.2.2)))]])) (seg_split (segs := [wPL cI cB cO A o1.2.1, wMO cI cB am o2.2, [(ao, .inl (cL, 1, .inr (.inl o1.2.2)))]]) (Wc := [wMO cI cB am o2.2]) (Wr := [wPL cI cB cO A o1.2.1, [(ao, .inl (cL, 1, .inr (.inl o1.2.2)))]]) [1] [0, 2] rfl rfl 3 rfl (by decide)).symm ?_
  refine J_istore (lv2 := [(6, .int o2.1), (5, .int o1.1), (4, .int i), (3, .ref ao), (2, .ref (am 0)), (1, .ref (A 0 0)), (0, .ref b)]) (pc := 904) C dlw_904 (by decide) rfl ?_
  refine J_aload_n (pc := 906) C dlw_906 4 rfl ?_
  refine J_cvF (pc := 907) (As := []) (st := []) C dlw_907 ml_L_170 mi_yX11_thrown (C_M_thrown l D cI cB cL cO pf N am o2.2 o2.2.1 rfl) (List.flatten [wPL cI cB cO A o1.2.1, [(ao, .inl (cL, 1, .inr (.inl o1.2.2)))]]) (seg_split (segs := [wPL cI cB cO A o1.2.1, wMO cI cB am o2.2, [(ao, .inl (cL, 1, .inr (.inl o1.2.2)))]]) (Wc := [wMO cI cB am o2.2]) (Wr := [wPL cI cB cO A o1.2.1, [(ao, .inl (cL, 1, .inr (.inl o1.2.2)))]]) [1] [0, 2] rfl rfl 3 rfl (by decide)) (q0 := 0) rfl rfl rfl ⟨(Nat.le_of_ble_eq_true rfl), (Nat.le_of_ble_eq_true rfl)⟩ hkn (Nat.le_of_ble_eq_true rfl) ?_
  rintro v w1 ⟨rfl, rfl⟩
  refine J_perm (ws2 := (List.flatten [wPL cI cB cO A o1.2.1, wMO cI cB am o2.2, [(ao, .inl (cL, 1, .inr (.inl o1.2.2)))]])) (seg_split (segs := [wPL cI cB cO A o1.2.1, wMO cI cB am o2.2, [(ao, .inl (cL, 1, .inr (.inl o1.2.2)))]]) (Wc := [wMO cI cB am o2.2]) (Wr := [wPL cI cB cO A o1.2.1, [(ao, .inl (cL, 1, .inr (.inl o1.2.2)))]]) [1] [0, 2] rfl rfl 3 rfl (by decide)).symm ?_
  refine J_iload (pc := 910) C dlw_910 1 rfl ?_
  refine J_ic_eq (α := Unit) (o := ()) (X := some ()) (Y := none) (pc := 912) (tgt := 917) C dlw_912 (by decide) (if_pos hth) (fun _ => ?_) (fun h => by cases h)
  refine J_iload (pc := 917) C dlw_917 1 rfl ?_
  by_cases h0 : o1.1 = 0
  · refine J_if_ne (α := Unit) (o := ()) (X := some ()) (Y := none) (pc := 919) (tgt := 934) C dlw_919 (by decide) (if_pos h0) (fun h => by cases h) (fun _ => ?_)
    refine J_aload_n (pc := 922) C dlw_922 3 rfl ?_
    refine J_iconst (v := (0 : Int32)) (pc := 923) C dlw_923 (by decide) ?_
    refine J_perm (ws2 := [(ao, .inl (cL, 1, .inr (.inl o1.2.2)))] ++ List.flatten [wPL cI cB cO A o1.2.1, wMO cI cB am o2.2]) (by simpa using seg_split (segs := [wPL cI cB cO A o1.2.1, wMO cI cB am o2.2, [(ao, .inl (cL, 1, .inr (.inl o1.2.2)))]]) (Wc := [[(ao, .inl (cL, 1, .inr (.inl o1.2.2)))]]) (Wr := [wPL cI cB cO A o1.2.1, wMO cI cB am o2.2]) [2] [0, 1] rfl rfl 3 rfl (by decide)) ?_
    refine J_lald (pc := 924) C dlw_924 0 2 (rfl : ([(ao, .inl (cL, 1, .inr (.inl o1.2.2)))] ++ List.flatten [wPL cI cB cO A o1.2.1, wMO cI cB am o2.2] : va_W)[0]? = some (ao, .inl (cL, 1, .inr (.inl o1.2.2)))) rfl (by unfold vp_in; decide) ?_
    refine J_perm (ws2 := (List.flatten [wPL cI cB cO A o1.2.1, wMO cI cB am o2.2, [(ao, .inl (cL, 1, .inr (.inl o1.2.2)))]])) (by simpa using (seg_split (segs := [wPL cI cB cO A o1.2.1, wMO cI cB am o2.2, [(ao, .inl (cL, 1, .inr (.inl o1.2.2)))]]) (Wc := [[(ao, .inl (cL, 1, .inr (.inl o1.2.2)))]]) (Wr := [wPL cI cB cO A o1.2.1, wMO cI cB am o2.2]) [2] [0, 1] rfl rfl 3 rfl (by decide)).symm) ?_
    refine J_iload (pc := 925) C dlw_925 0 rfl ?_
    refine J_i2l (pc := 927) C dlw_927 ?_
    refine J_lcmp (pc := 928) C dlw_928 ?_
    refine J_if_eq (α := Unit) (o := ()) (X := some ()) (Y := none) (pc := 929) (tgt := 934) C dlw_929 (by decide) (if_pos (by have hv := hval h0; rw [show (0 : Int32).toNatClampNeg = 0 from rfl, hv]; exact lg_cmp_self _)) (fun _ => ?_) (fun h => by cases h)
    refine J_goto (tgt := 3187) (pc := 934) C dlw_934 (by decide) ?_
    refine J_sub (lv2 := [(4, .int i), (3, .ref ao), (2, .ref (am 0)), (1, .ref (A 0 0)), (0, .ref b)]) [2, 3, 4, 5, 6] rfl ?_
    exact kx _ _ _ hRn
  · refine J_if_ne (α := Unit) (o := ()) (X := none) (Y := some ()) (pc := 919) (tgt := 934) C dlw_919 (by decide) (if_neg h0) (fun _ => ?_) (fun h => by cases h)
    refine J_goto (tgt := 3187) (pc := 934) C dlw_934 (by decide) ?_
    refine J_sub (lv2 := [(4, .int i), (3, .ref ao), (2, .ref (am 0)), (1, .ref (A 0 0)), (0, .ref b)]) [2, 3, 4, 5, 6] rfl ?_
    exact kx _ _ _ hRn
set_option maxHeartbeats 4000000 in
set_option maxRecDepth 100000 in
theorem K_setShare {p : Program} {l : Launch} {e : Env} {s : State} {m : MethodId} {below : List Frame} {meth : Method} {c : Code} {D : va_G} {cI cB cL cO : ClassId} {pf : Nat → Nat} {Q : State → Prop} {k n b L : Nat} {xs : Nat → Int32} {N : Nat} {A : Nat → Nat → Nat} {am : Nat → Nat} {ao : Nat} {i : Int32} {Rl : Nat → T_PL → T_MO → Prop} {st : T_PL} {mo : T_MO} {f : Nat → Int64} {kk : Nat} (C : jC p s m #[Value.ref b] meth c code 7 R_lawN D [(cI, .int), (cB, .byte), (cL, .long), (cO, .object RX0)] pf (fun q => s.heap.size ≤ q)) (hl : l.stackTraces = false) (hX : va_X b L xs s s.heap) (hbl : b < s.heap.size) (hbA : ¬ (fun q : Nat => s.heap.size ≤ q) b) (h1 : vp_in (i + (1 : Int32)) L) (h2 : vp_in (i + (2 : Int32)) L) (h3 : vp_in (i + (3 : Int32)) L) (h4 : vp_in (i + (4 : Int32)) L) (h5 : vp_in (i + (5 : Int32)) L) (hSt : (∀ x1 : Int32, ∀ x2 : Int32, StA Rl (fun s f => W_setShare N s f x1 x2) (fun m => F_M_setShare N m x1 x2))) (hk : kk < 512) (hR : Rl kk st mo) (hkn : k + 4 ≤ room_1.cells ∧ n + 24 ≤ room_1.slots) (kx : ∀ st2 mo2 f2, Rl (kk + 1) st2 mo2 → J p l e room_1 s m #[Value.ref b] below meth c 7 D (fun q => s.heap.size ≤ q) Q (k + 4) (n + 24) 3187 [(4, .int i), (3, .ref ao), (2, .ref (am 0)), (1, .ref (A 0 0)), (0, .ref b)] [] (List.flatten [wPL cI cB cO A st2, wMO cI cB am mo2, [(ao, .inl (cL, 1, .inr (.inl f2)))]])) : J p l e room_1 s m #[Value.ref b] below meth c 7 D (fun q => s.heap.size ≤ q) Q (k) (n) 937 [(4, .int i), (3, .ref ao), (2, .ref (am 0)), (1, .ref (A 0 0)), (0, .ref b)] [] (List.flatten [wPL cI cB cO A st, wMO cI cB am mo, [(ao, .inl (cL, 1, .inr (.inl f)))]]) := by
  refine J_aload_n (pc := 937) C dlw_937 3 rfl ?_
  refine J_aload_n (pc := 938) C dlw_938 4 rfl ?_
  refine J_iload (pc := 939) C dlw_939 0 rfl ?_
  refine J_iconst (v := (1 : Int32)) (pc := 941) C dlw_941 (by decide) ?_
  refine J_iadd (pc := 942) C dlw_942 ?_
  refine J_sld C hX hbl hbA (pc := 943) dlw_943 h1 ?_
  refine J_aload_n (pc := 944) C dlw_944 4 rfl ?_
  refine J_iload (pc := 945) C dlw_945 0 rfl ?_
  refine J_iconst (v := (2 : Int32)) (pc := 947) C dlw_947 (by decide) ?_
  refine J_iadd (pc := 948) C dlw_948 ?_
  refine J_sld C hX hbl hbA (pc := 949) dlw_949 h2 ?_
  refine J_aload_n (pc := 950) C dlw_950 1 rfl ?_
  obtain ⟨o1, o2, e1, e2, hth, hval, hRn⟩ := hSt (xs (i + (1 : Int32)).toNatClampNeg) (xs (i + (2 : Int32)).toNatClampNeg) kk st mo f hk hR
  refine J_csH (pc := 951) (As := [.ref (A 0 0), .int (xs (i + (1 : Int32)).toNatClampNeg), .int (xs (i + (2 : Int32)).toNatClampNeg), .ref ao]) (st := []) C dlw_951 ml_L_208 wh_setShare (V_setShare l hl D cI cB cL cO pf N A ao st f (xs (i + (1 : Int32)).toNatClampNeg) (xs (i + (2 : Int32)).toNatClampNeg) o1 e1) (List.flatten [wMO cI cB am mo]) (seg_split (segs := [wPL cI cB cO A st, wMO cI cB am mo, [(ao, .inl (cL, 1, .inr (.inl f)))]]) (Wc := [wPL cI cB cO A st, [(ao, .inl (cL, 1, .inr (.inl f)))]]) (Wr := [wMO cI cB am mo]) [0, 2] [1] rfl rfl 3 rfl (by decide)) rfl ⟨(Nat.le_of_ble_eq_true rfl), (Nat.le_of_ble_eq_true rfl)⟩ ⟨Nat.le_trans (Nat.add_le_add_left (Nat.le_of_ble_eq_true rfl) _) hkn.1, Nat.le_trans (Nat.add_le_add_left (Nat.le_of_ble_eq_true rfl) _) hkn.2⟩ (Nat.le_of_ble_eq_true rfl) ?_
  rintro v w1 ⟨rfl, rfl⟩
  refine J_perm (ws2 := (List.flatten [wPL cI cB cO A o1.2.1, wMO cI cB am mo, [(ao, .inl (cL, 1, .inr (.inl o1.2.2)))]])) (seg_split (segs := [wPL cI cB cO A o1.2.1, wMO cI cB am mo, [(ao, .inl (cL, 1, .inr (.inl o1.2.2)))]]) (Wc := [wPL cI cB cO A o1.2.1, [(ao, .inl (cL, 1, .inr (.inl o1.2.2)))]]) (Wr := [wMO cI cB am mo]) [0, 2] [1] rfl rfl 3 rfl (by decide)).symm ?_
  refine J_widen (k2 := k + 4) (n2 := n + 24) (Nat.add_le_add_left (Nat.le_of_ble_eq_true rfl) _) (Nat.add_le_add_left (Nat.le_of_ble_eq_true rfl) _) ?_
  refine J_istore (lv2 := [(5, .int o1.1), (4, .int i), (3, .ref ao), (2, .ref (am 0)), (1, .ref (A 0 0)), (0, .ref b)]) (pc := 954) C dlw_954 (by decide) rfl ?_
  refine J_aload_n (pc := 956) C dlw_956 3 rfl ?_
  refine J_aload_n (pc := 957) C dlw_957 5 rfl ?_
  refine J_iload (pc := 958) C dlw_958 1 rfl ?_
  refine J_iconst (v := (1 : Int32)) (pc := 960) C dlw_960 (by decide) ?_
  refine J_iadd (pc := 961) C dlw_961 ?_
  refine J_sld C hX hbl hbA (pc := 962) dlw_962 h1 ?_
  refine J_aload_n (pc := 963) C dlw_963 5 rfl ?_
  refine J_iload (pc := 964) C dlw_964 1 rfl ?_
  refine J_iconst (v := (2 : Int32)) (pc := 966) C dlw_966 (by decide) ?_
  refine J_iadd (pc := 967) C dlw_967 ?_
  refine J_sld C hX hbl hbA (pc := 968) dlw_968 h2 ?_
  refine J_cvF (pc := 969) (As := [.int (xs (i + (1 : Int32)).toNatClampNeg), .int (xs (i + (2 : Int32)).toNatClampNeg)]) (st := []) C dlw_969 ml_L_210 mi_yX11_setShare (C_M_setShare l D cI cB cL cO pf N am mo (xs (i + (1 : Int32)).toNatClampNeg) (xs (i + (2 : Int32)).toNatClampNeg) o2 e2) (List.flatten [wPL cI cB cO A o1.2.1, [(ao, .inl (cL, 1, .inr (.inl o1.2.2)))]]) (seg_split (segs := [wPL cI cB cO A o1.2.1, wMO cI cB am mo, [(ao, .inl (cL, 1, .inr (.inl o1.2.2)))]]) (Wc := [wMO cI cB am mo]) (Wr := [wPL cI cB cO A o1.2.1, [(ao, .inl (cL, 1, .inr (.inl o1.2.2)))]]) [1] [0, 2] rfl rfl 3 rfl (by decide)) (q0 := 0) rfl rfl rfl ⟨(Nat.le_of_ble_eq_true rfl), (Nat.le_of_ble_eq_true rfl)⟩ hkn (Nat.le_of_ble_eq_true rfl) ?_
  rintro v w1 ⟨rfl, rfl⟩
  refine J_perm (ws2 := (List.flatten [wPL cI cB cO A o1.2.1, wMO cI cB am o2.2, [(ao, .inl (cL, 1, .inr (.inl o1.2.2)))]])) (seg_split (segs := [wPL cI cB cO A o1.2.1, wMO cI cB am o2.2, [(ao, .inl (cL, 1, .inr (.inl o1.2.2)))]]) (Wc := [wMO cI cB am o2.2]) (Wr := [wPL cI cB cO A o1.2.1, [(ao, .inl (cL, 1, .inr (.inl o1.2.2)))]]) [1] [0, 2] rfl rfl 3 rfl (by decide)).symm ?_
  refine J_istore (lv2 := [(6, .int o2.1), (5, .int o1.1), (4, .int i), (3, .ref ao), (2, .ref (am 0)), (1, .ref (A 0 0)), (0, .ref b)]) (pc := 972) C dlw_972 (by decide) rfl ?_
  refine J_aload_n (pc := 974) C dlw_974 4 rfl ?_
  refine J_cvF (pc := 975) (As := []) (st := []) C dlw_975 ml_L_170 mi_yX11_thrown (C_M_thrown l D cI cB cL cO pf N am o2.2 o2.2.1 rfl) (List.flatten [wPL cI cB cO A o1.2.1, [(ao, .inl (cL, 1, .inr (.inl o1.2.2)))]]) (seg_split (segs := [wPL cI cB cO A o1.2.1, wMO cI cB am o2.2, [(ao, .inl (cL, 1, .inr (.inl o1.2.2)))]]) (Wc := [wMO cI cB am o2.2]) (Wr := [wPL cI cB cO A o1.2.1, [(ao, .inl (cL, 1, .inr (.inl o1.2.2)))]]) [1] [0, 2] rfl rfl 3 rfl (by decide)) (q0 := 0) rfl rfl rfl ⟨(Nat.le_of_ble_eq_true rfl), (Nat.le_of_ble_eq_true rfl)⟩ hkn (Nat.le_of_ble_eq_true rfl) ?_
  rintro v w1 ⟨rfl, rfl⟩
  refine J_perm (ws2 := (List.flatten [wPL cI cB cO A o1.2.1, wMO cI cB am o2.2, [(ao, .inl (cL, 1, .inr (.inl o1.2.2)))]])) (seg_split (segs := [wPL cI cB cO A o1.2.1, wMO cI cB am o2.2, [(ao, .inl (cL, 1, .inr (.inl o1.2.2)))]]) (Wc := [wMO cI cB am o2.2]) (Wr := [wPL cI cB cO A o1.2.1, [(ao, .inl (cL, 1, .inr (.inl o1.2.2)))]]) [1] [0, 2] rfl rfl 3 rfl (by decide)).symm ?_
  refine J_iload (pc := 978) C dlw_978 1 rfl ?_
  refine J_ic_eq (α := Unit) (o := ()) (X := some ()) (Y := none) (pc := 980) (tgt := 985) C dlw_980 (by decide) (if_pos hth) (fun _ => ?_) (fun h => by cases h)
  refine J_iload (pc := 985) C dlw_985 1 rfl ?_
  by_cases h0 : o1.1 = 0
  · refine J_if_ne (α := Unit) (o := ()) (X := some ()) (Y := none) (pc := 987) (tgt := 1002) C dlw_987 (by decide) (if_pos h0) (fun h => by cases h) (fun _ => ?_)
    refine J_aload_n (pc := 990) C dlw_990 3 rfl ?_
    refine J_iconst (v := (0 : Int32)) (pc := 991) C dlw_991 (by decide) ?_
    refine J_perm (ws2 := [(ao, .inl (cL, 1, .inr (.inl o1.2.2)))] ++ List.flatten [wPL cI cB cO A o1.2.1, wMO cI cB am o2.2]) (by simpa using seg_split (segs := [wPL cI cB cO A o1.2.1, wMO cI cB am o2.2, [(ao, .inl (cL, 1, .inr (.inl o1.2.2)))]]) (Wc := [[(ao, .inl (cL, 1, .inr (.inl o1.2.2)))]]) (Wr := [wPL cI cB cO A o1.2.1, wMO cI cB am o2.2]) [2] [0, 1] rfl rfl 3 rfl (by decide)) ?_
    refine J_lald (pc := 992) C dlw_992 0 2 (rfl : ([(ao, .inl (cL, 1, .inr (.inl o1.2.2)))] ++ List.flatten [wPL cI cB cO A o1.2.1, wMO cI cB am o2.2] : va_W)[0]? = some (ao, .inl (cL, 1, .inr (.inl o1.2.2)))) rfl (by unfold vp_in; decide) ?_
    refine J_perm (ws2 := (List.flatten [wPL cI cB cO A o1.2.1, wMO cI cB am o2.2, [(ao, .inl (cL, 1, .inr (.inl o1.2.2)))]])) (by simpa using (seg_split (segs := [wPL cI cB cO A o1.2.1, wMO cI cB am o2.2, [(ao, .inl (cL, 1, .inr (.inl o1.2.2)))]]) (Wc := [[(ao, .inl (cL, 1, .inr (.inl o1.2.2)))]]) (Wr := [wPL cI cB cO A o1.2.1, wMO cI cB am o2.2]) [2] [0, 1] rfl rfl 3 rfl (by decide)).symm) ?_
    refine J_iload (pc := 993) C dlw_993 0 rfl ?_
    refine J_i2l (pc := 995) C dlw_995 ?_
    refine J_lcmp (pc := 996) C dlw_996 ?_
    refine J_if_eq (α := Unit) (o := ()) (X := some ()) (Y := none) (pc := 997) (tgt := 1002) C dlw_997 (by decide) (if_pos (by have hv := hval h0; rw [show (0 : Int32).toNatClampNeg = 0 from rfl, hv]; exact lg_cmp_self _)) (fun _ => ?_) (fun h => by cases h)
    refine J_goto (tgt := 3187) (pc := 1002) C dlw_1002 (by decide) ?_
    refine J_sub (lv2 := [(4, .int i), (3, .ref ao), (2, .ref (am 0)), (1, .ref (A 0 0)), (0, .ref b)]) [2, 3, 4, 5, 6] rfl ?_
    exact kx _ _ _ hRn
  · refine J_if_ne (α := Unit) (o := ()) (X := none) (Y := some ()) (pc := 987) (tgt := 1002) C dlw_987 (by decide) (if_neg h0) (fun _ => ?_) (fun h => by cases h)
    refine J_goto (tgt := 3187) (pc := 1002) C dlw_1002 (by decide) ?_
    refine J_sub (lv2 := [(4, .int i), (3, .ref ao), (2, .ref (am 0)), (1, .ref (A 0 0)), (0, .ref b)]) [2, 3, 4, 5, 6] rfl ?_
    exact kx _ _ _ hRn
set_option maxHeartbeats 4000000 in
set_option maxRecDepth 100000 in
theorem K_advance {p : Program} {l : Launch} {e : Env} {s : State} {m : MethodId} {below : List Frame} {meth : Method} {c : Code} {D : va_G} {cI cB cL cO : ClassId} {pf : Nat → Nat} {Q : State → Prop} {k n b L : Nat} {xs : Nat → Int32} {N : Nat} {A : Nat → Nat → Nat} {am : Nat → Nat} {ao : Nat} {i : Int32} {Rl : Nat → T_PL → T_MO → Prop} {st : T_PL} {mo : T_MO} {f : Nat → Int64} {kk : Nat} (C : jC p s m #[Value.ref b] meth c code 7 R_lawN D [(cI, .int), (cB, .byte), (cL, .long), (cO, .object RX0)] pf (fun q => s.heap.size ≤ q)) (hl : l.stackTraces = false) (hX : va_X b L xs s s.heap) (hbl : b < s.heap.size) (hbA : ¬ (fun q : Nat => s.heap.size ≤ q) b) (h1 : vp_in (i + (1 : Int32)) L) (h2 : vp_in (i + (2 : Int32)) L) (h3 : vp_in (i + (3 : Int32)) L) (h4 : vp_in (i + (4 : Int32)) L) (h5 : vp_in (i + (5 : Int32)) L) (hSt : (∀ x1 : Int32, StA Rl (fun s f => W_advance N s f x1) (fun m => F_M_advance N m x1))) (hk : kk < 512) (hR : Rl kk st mo) (hkn : k + 4 ≤ room_1.cells ∧ n + 24 ≤ room_1.slots) (kx : ∀ st2 mo2 f2, Rl (kk + 1) st2 mo2 → J p l e room_1 s m #[Value.ref b] below meth c 7 D (fun q => s.heap.size ≤ q) Q (k + 4) (n + 24) 3187 [(4, .int i), (3, .ref ao), (2, .ref (am 0)), (1, .ref (A 0 0)), (0, .ref b)] [] (List.flatten [wPL cI cB cO A st2, wMO cI cB am mo2, [(ao, .inl (cL, 1, .inr (.inl f2)))]])) : J p l e room_1 s m #[Value.ref b] below meth c 7 D (fun q => s.heap.size ≤ q) Q (k) (n) 1005 [(4, .int i), (3, .ref ao), (2, .ref (am 0)), (1, .ref (A 0 0)), (0, .ref b)] [] (List.flatten [wPL cI cB cO A st, wMO cI cB am mo, [(ao, .inl (cL, 1, .inr (.inl f)))]]) := by
  refine J_aload_n (pc := 1005) C dlw_1005 3 rfl ?_
  refine J_aload_n (pc := 1006) C dlw_1006 4 rfl ?_
  refine J_iload (pc := 1007) C dlw_1007 0 rfl ?_
  refine J_iconst (v := (1 : Int32)) (pc := 1009) C dlw_1009 (by decide) ?_
  refine J_iadd (pc := 1010) C dlw_1010 ?_
  refine J_sld C hX hbl hbA (pc := 1011) dlw_1011 h1 ?_
  refine J_aload_n (pc := 1012) C dlw_1012 1 rfl ?_
  obtain ⟨o1, o2, e1, e2, hth, hval, hRn⟩ := hSt (xs (i + (1 : Int32)).toNatClampNeg) kk st mo f hk hR
  refine J_csH (pc := 1013) (As := [.ref (A 0 0), .int (xs (i + (1 : Int32)).toNatClampNeg), .ref ao]) (st := []) C dlw_1013 ml_L_211 wh_advance (V_advance l hl D cI cB cL cO pf N A ao st f (xs (i + (1 : Int32)).toNatClampNeg) o1 e1) (List.flatten [wMO cI cB am mo]) (seg_split (segs := [wPL cI cB cO A st, wMO cI cB am mo, [(ao, .inl (cL, 1, .inr (.inl f)))]]) (Wc := [wPL cI cB cO A st, [(ao, .inl (cL, 1, .inr (.inl f)))]]) (Wr := [wMO cI cB am mo]) [0, 2] [1] rfl rfl 3 rfl (by decide)) rfl ⟨(Nat.le_of_ble_eq_true rfl), (Nat.le_of_ble_eq_true rfl)⟩ ⟨Nat.le_trans (Nat.add_le_add_left (Nat.le_of_ble_eq_true rfl) _) hkn.1, Nat.le_trans (Nat.add_le_add_left (Nat.le_of_ble_eq_true rfl) _) hkn.2⟩ (Nat.le_of_ble_eq_true rfl) ?_
  rintro v w1 ⟨rfl, rfl⟩
  refine J_perm (ws2 := (List.flatten [wPL cI cB cO A o1.2.1, wMO cI cB am mo, [(ao, .inl (cL, 1, .inr (.inl o1.2.2)))]])) (seg_split (segs := [wPL cI cB cO A o1.2.1, wMO cI cB am mo, [(ao, .inl (cL, 1, .inr (.inl o1.2.2)))]]) (Wc := [wPL cI cB cO A o1.2.1, [(ao, .inl (cL, 1, .inr (.inl o1.2.2)))]]) (Wr := [wMO cI cB am mo]) [0, 2] [1] rfl rfl 3 rfl (by decide)).symm ?_
  refine J_widen (k2 := k + 4) (n2 := n + 24) (Nat.add_le_add_left (Nat.le_of_ble_eq_true rfl) _) (Nat.add_le_add_left (Nat.le_of_ble_eq_true rfl) _) ?_
  refine J_istore (lv2 := [(5, .int o1.1), (4, .int i), (3, .ref ao), (2, .ref (am 0)), (1, .ref (A 0 0)), (0, .ref b)]) (pc := 1016) C dlw_1016 (by decide) rfl ?_
  refine J_aload_n (pc := 1018) C dlw_1018 3 rfl ?_
  refine J_aload_n (pc := 1019) C dlw_1019 5 rfl ?_
  refine J_iload (pc := 1020) C dlw_1020 1 rfl ?_
  refine J_iconst (v := (1 : Int32)) (pc := 1022) C dlw_1022 (by decide) ?_
  refine J_iadd (pc := 1023) C dlw_1023 ?_
  refine J_sld C hX hbl hbA (pc := 1024) dlw_1024 h1 ?_
  refine J_cvF (pc := 1025) (As := [.int (xs (i + (1 : Int32)).toNatClampNeg)]) (st := []) C dlw_1025 ml_L_213 mi_yX11_advance (C_M_advance l D cI cB cL cO pf N am mo (xs (i + (1 : Int32)).toNatClampNeg) o2 e2) (List.flatten [wPL cI cB cO A o1.2.1, [(ao, .inl (cL, 1, .inr (.inl o1.2.2)))]]) (seg_split (segs := [wPL cI cB cO A o1.2.1, wMO cI cB am mo, [(ao, .inl (cL, 1, .inr (.inl o1.2.2)))]]) (Wc := [wMO cI cB am mo]) (Wr := [wPL cI cB cO A o1.2.1, [(ao, .inl (cL, 1, .inr (.inl o1.2.2)))]]) [1] [0, 2] rfl rfl 3 rfl (by decide)) (q0 := 0) rfl rfl rfl ⟨(Nat.le_of_ble_eq_true rfl), (Nat.le_of_ble_eq_true rfl)⟩ hkn (Nat.le_of_ble_eq_true rfl) ?_
  rintro v w1 ⟨rfl, rfl⟩
  refine J_perm (ws2 := (List.flatten [wPL cI cB cO A o1.2.1, wMO cI cB am o2.2, [(ao, .inl (cL, 1, .inr (.inl o1.2.2)))]])) (seg_split (segs := [wPL cI cB cO A o1.2.1, wMO cI cB am o2.2, [(ao, .inl (cL, 1, .inr (.inl o1.2.2)))]]) (Wc := [wMO cI cB am o2.2]) (Wr := [wPL cI cB cO A o1.2.1, [(ao, .inl (cL, 1, .inr (.inl o1.2.2)))]]) [1] [0, 2] rfl rfl 3 rfl (by decide)).symm ?_
  refine J_istore (lv2 := [(6, .int o2.1), (5, .int o1.1), (4, .int i), (3, .ref ao), (2, .ref (am 0)), (1, .ref (A 0 0)), (0, .ref b)]) (pc := 1028) C dlw_1028 (by decide) rfl ?_
  refine J_aload_n (pc := 1030) C dlw_1030 4 rfl ?_
  refine J_cvF (pc := 1031) (As := []) (st := []) C dlw_1031 ml_L_170 mi_yX11_thrown (C_M_thrown l D cI cB cL cO pf N am o2.2 o2.2.1 rfl) (List.flatten [wPL cI cB cO A o1.2.1, [(ao, .inl (cL, 1, .inr (.inl o1.2.2)))]]) (seg_split (segs := [wPL cI cB cO A o1.2.1, wMO cI cB am o2.2, [(ao, .inl (cL, 1, .inr (.inl o1.2.2)))]]) (Wc := [wMO cI cB am o2.2]) (Wr := [wPL cI cB cO A o1.2.1, [(ao, .inl (cL, 1, .inr (.inl o1.2.2)))]]) [1] [0, 2] rfl rfl 3 rfl (by decide)) (q0 := 0) rfl rfl rfl ⟨(Nat.le_of_ble_eq_true rfl), (Nat.le_of_ble_eq_true rfl)⟩ hkn (Nat.le_of_ble_eq_true rfl) ?_
  rintro v w1 ⟨rfl, rfl⟩
  refine J_perm (ws2 := (List.flatten [wPL cI cB cO A o1.2.1, wMO cI cB am o2.2, [(ao, .inl (cL, 1, .inr (.inl o1.2.2)))]])) (seg_split (segs := [wPL cI cB cO A o1.2.1, wMO cI cB am o2.2, [(ao, .inl (cL, 1, .inr (.inl o1.2.2)))]]) (Wc := [wMO cI cB am o2.2]) (Wr := [wPL cI cB cO A o1.2.1, [(ao, .inl (cL, 1, .inr (.inl o1.2.2)))]]) [1] [0, 2] rfl rfl 3 rfl (by decide)).symm ?_
  refine J_iload (pc := 1034) C dlw_1034 1 rfl ?_
  refine J_ic_eq (α := Unit) (o := ()) (X := some ()) (Y := none) (pc := 1036) (tgt := 1041) C dlw_1036 (by decide) (if_pos hth) (fun _ => ?_) (fun h => by cases h)
  refine J_iload (pc := 1041) C dlw_1041 1 rfl ?_
  by_cases h0 : o1.1 = 0
  · refine J_if_ne (α := Unit) (o := ()) (X := some ()) (Y := none) (pc := 1043) (tgt := 1058) C dlw_1043 (by decide) (if_pos h0) (fun h => by cases h) (fun _ => ?_)
    refine J_aload_n (pc := 1046) C dlw_1046 3 rfl ?_
    refine J_iconst (v := (0 : Int32)) (pc := 1047) C dlw_1047 (by decide) ?_
    refine J_perm (ws2 := [(ao, .inl (cL, 1, .inr (.inl o1.2.2)))] ++ List.flatten [wPL cI cB cO A o1.2.1, wMO cI cB am o2.2]) (by simpa using seg_split (segs := [wPL cI cB cO A o1.2.1, wMO cI cB am o2.2, [(ao, .inl (cL, 1, .inr (.inl o1.2.2)))]]) (Wc := [[(ao, .inl (cL, 1, .inr (.inl o1.2.2)))]]) (Wr := [wPL cI cB cO A o1.2.1, wMO cI cB am o2.2]) [2] [0, 1] rfl rfl 3 rfl (by decide)) ?_
    refine J_lald (pc := 1048) C dlw_1048 0 2 (rfl : ([(ao, .inl (cL, 1, .inr (.inl o1.2.2)))] ++ List.flatten [wPL cI cB cO A o1.2.1, wMO cI cB am o2.2] : va_W)[0]? = some (ao, .inl (cL, 1, .inr (.inl o1.2.2)))) rfl (by unfold vp_in; decide) ?_
    refine J_perm (ws2 := (List.flatten [wPL cI cB cO A o1.2.1, wMO cI cB am o2.2, [(ao, .inl (cL, 1, .inr (.inl o1.2.2)))]])) (by simpa using (seg_split (segs := [wPL cI cB cO A o1.2.1, wMO cI cB am o2.2, [(ao, .inl (cL, 1, .inr (.inl o1.2.2)))]]) (Wc := [[(ao, .inl (cL, 1, .inr (.inl o1.2.2)))]]) (Wr := [wPL cI cB cO A o1.2.1, wMO cI cB am o2.2]) [2] [0, 1] rfl rfl 3 rfl (by decide)).symm) ?_
    refine J_iload (pc := 1049) C dlw_1049 0 rfl ?_
    refine J_i2l (pc := 1051) C dlw_1051 ?_
    refine J_lcmp (pc := 1052) C dlw_1052 ?_
    refine J_if_eq (α := Unit) (o := ()) (X := some ()) (Y := none) (pc := 1053) (tgt := 1058) C dlw_1053 (by decide) (if_pos (by have hv := hval h0; rw [show (0 : Int32).toNatClampNeg = 0 from rfl, hv]; exact lg_cmp_self _)) (fun _ => ?_) (fun h => by cases h)
    refine J_goto (tgt := 3187) (pc := 1058) C dlw_1058 (by decide) ?_
    refine J_sub (lv2 := [(4, .int i), (3, .ref ao), (2, .ref (am 0)), (1, .ref (A 0 0)), (0, .ref b)]) [2, 3, 4, 5, 6] rfl ?_
    exact kx _ _ _ hRn
  · refine J_if_ne (α := Unit) (o := ()) (X := none) (Y := some ()) (pc := 1043) (tgt := 1058) C dlw_1043 (by decide) (if_neg h0) (fun _ => ?_) (fun h => by cases h)
    refine J_goto (tgt := 3187) (pc := 1058) C dlw_1058 (by decide) ?_
    refine J_sub (lv2 := [(4, .int i), (3, .ref ao), (2, .ref (am 0)), (1, .ref (A 0 0)), (0, .ref b)]) [2, 3, 4, 5, 6] rfl ?_
    exact kx _ _ _ hRn
set_option maxHeartbeats 4000000 in
set_option maxRecDepth 100000 in
theorem K_setup {p : Program} {l : Launch} {e : Env} {s : State} {m : MethodId} {below : List Frame} {meth : Method} {c : Code} {D : va_G} {cI cB cL cO : ClassId} {pf : Nat → Nat} {Q : State → Prop} {k n b L : Nat} {xs : Nat → Int32} {N : Nat} {A : Nat → Nat → Nat} {am : Nat → Nat} {ao : Nat} {i : Int32} {Rl : Nat → T_PL → T_MO → Prop} {st : T_PL} {mo : T_MO} {f : Nat → Int64} {kk : Nat} (C : jC p s m #[Value.ref b] meth c code 7 R_lawN D [(cI, .int), (cB, .byte), (cL, .long), (cO, .object RX0)] pf (fun q => s.heap.size ≤ q)) (hl : l.stackTraces = false) (hX : va_X b L xs s s.heap) (hbl : b < s.heap.size) (hbA : ¬ (fun q : Nat => s.heap.size ≤ q) b) (h1 : vp_in (i + (1 : Int32)) L) (h2 : vp_in (i + (2 : Int32)) L) (h3 : vp_in (i + (3 : Int32)) L) (h4 : vp_in (i + (4 : Int32)) L) (h5 : vp_in (i + (5 : Int32)) L) (hSt : (∀ x1 : Int32, StA Rl (fun s f => W_setup N s f x1) (fun m => F_M_setup N m x1))) (hk : kk < 512) (hR : Rl kk st mo) (hkn : k + 4 ≤ room_1.cells ∧ n + 24 ≤ room_1.slots) (kx : ∀ st2 mo2 f2, Rl (kk + 1) st2 mo2 → J p l e room_1 s m #[Value.ref b] below meth c 7 D (fun q => s.heap.size ≤ q) Q (k + 4) (n + 24) 3187 [(4, .int i), (3, .ref ao), (2, .ref (am 0)), (1, .ref (A 0 0)), (0, .ref b)] [] (List.flatten [wPL cI cB cO A st2, wMO cI cB am mo2, [(ao, .inl (cL, 1, .inr (.inl f2)))]])) : J p l e room_1 s m #[Value.ref b] below meth c 7 D (fun q => s.heap.size ≤ q) Q (k) (n) 1061 [(4, .int i), (3, .ref ao), (2, .ref (am 0)), (1, .ref (A 0 0)), (0, .ref b)] [] (List.flatten [wPL cI cB cO A st, wMO cI cB am mo, [(ao, .inl (cL, 1, .inr (.inl f)))]]) := by
  refine J_aload_n (pc := 1061) C dlw_1061 3 rfl ?_
  refine J_aload_n (pc := 1062) C dlw_1062 4 rfl ?_
  refine J_iload (pc := 1063) C dlw_1063 0 rfl ?_
  refine J_iconst (v := (1 : Int32)) (pc := 1065) C dlw_1065 (by decide) ?_
  refine J_iadd (pc := 1066) C dlw_1066 ?_
  refine J_sld C hX hbl hbA (pc := 1067) dlw_1067 h1 ?_
  refine J_aload_n (pc := 1068) C dlw_1068 1 rfl ?_
  obtain ⟨o1, o2, e1, e2, hth, hval, hRn⟩ := hSt (xs (i + (1 : Int32)).toNatClampNeg) kk st mo f hk hR
  refine J_csH (pc := 1069) (As := [.ref (A 0 0), .int (xs (i + (1 : Int32)).toNatClampNeg), .ref ao]) (st := []) C dlw_1069 ml_L_214 wh_setup (V_setup l hl D cI cB cL cO pf N A ao st f (xs (i + (1 : Int32)).toNatClampNeg) o1 e1) (List.flatten [wMO cI cB am mo]) (seg_split (segs := [wPL cI cB cO A st, wMO cI cB am mo, [(ao, .inl (cL, 1, .inr (.inl f)))]]) (Wc := [wPL cI cB cO A st, [(ao, .inl (cL, 1, .inr (.inl f)))]]) (Wr := [wMO cI cB am mo]) [0, 2] [1] rfl rfl 3 rfl (by decide)) rfl ⟨(Nat.le_of_ble_eq_true rfl), (Nat.le_of_ble_eq_true rfl)⟩ ⟨Nat.le_trans (Nat.add_le_add_left (Nat.le_of_ble_eq_true rfl) _) hkn.1, Nat.le_trans (Nat.add_le_add_left (Nat.le_of_ble_eq_true rfl) _) hkn.2⟩ (Nat.le_of_ble_eq_true rfl) ?_
  rintro v w1 ⟨rfl, rfl⟩
  refine J_perm (ws2 := (List.flatten [wPL cI cB cO A o1.2.1, wMO cI cB am mo, [(ao, .inl (cL, 1, .inr (.inl o1.2.2)))]])) (seg_split (segs := [wPL cI cB cO A o1.2.1, wMO cI cB am mo, [(ao, .inl (cL, 1, .inr (.inl o1.2.2)))]]) (Wc := [wPL cI cB cO A o1.2.1, [(ao, .inl (cL, 1, .inr (.inl o1.2.2)))]]) (Wr := [wMO cI cB am mo]) [0, 2] [1] rfl rfl 3 rfl (by decide)).symm ?_
  refine J_widen (k2 := k + 4) (n2 := n + 24) (Nat.add_le_add_left (Nat.le_of_ble_eq_true rfl) _) (Nat.add_le_add_left (Nat.le_of_ble_eq_true rfl) _) ?_
  refine J_istore (lv2 := [(5, .int o1.1), (4, .int i), (3, .ref ao), (2, .ref (am 0)), (1, .ref (A 0 0)), (0, .ref b)]) (pc := 1072) C dlw_1072 (by decide) rfl ?_
  refine J_aload_n (pc := 1074) C dlw_1074 3 rfl ?_
  refine J_aload_n (pc := 1075) C dlw_1075 5 rfl ?_
  refine J_iload (pc := 1076) C dlw_1076 1 rfl ?_
  refine J_iconst (v := (1 : Int32)) (pc := 1078) C dlw_1078 (by decide) ?_
  refine J_iadd (pc := 1079) C dlw_1079 ?_
  refine J_sld C hX hbl hbA (pc := 1080) dlw_1080 h1 ?_
  refine J_cvF (pc := 1081) (As := [.int (xs (i + (1 : Int32)).toNatClampNeg)]) (st := []) C dlw_1081 ml_L_216 mi_yX11_setup (C_M_setup l D cI cB cL cO pf N am mo (xs (i + (1 : Int32)).toNatClampNeg) o2 e2) (List.flatten [wPL cI cB cO A o1.2.1, [(ao, .inl (cL, 1, .inr (.inl o1.2.2)))]]) (seg_split (segs := [wPL cI cB cO A o1.2.1, wMO cI cB am mo, [(ao, .inl (cL, 1, .inr (.inl o1.2.2)))]]) (Wc := [wMO cI cB am mo]) (Wr := [wPL cI cB cO A o1.2.1, [(ao, .inl (cL, 1, .inr (.inl o1.2.2)))]]) [1] [0, 2] rfl rfl 3 rfl (by decide)) (q0 := 0) rfl rfl rfl ⟨(Nat.le_of_ble_eq_true rfl), (Nat.le_of_ble_eq_true rfl)⟩ hkn (Nat.le_of_ble_eq_true rfl) ?_
  rintro v w1 ⟨rfl, rfl⟩
  refine J_perm (ws2 := (List.flatten [wPL cI cB cO A o1.2.1, wMO cI cB am o2.2, [(ao, .inl (cL, 1, .inr (.inl o1.2.2)))]])) (seg_split (segs := [wPL cI cB cO A o1.2.1, wMO cI cB am o2.2, [(ao, .inl (cL, 1, .inr (.inl o1.2.2)))]]) (Wc := [wMO cI cB am o2.2]) (Wr := [wPL cI cB cO A o1.2.1, [(ao, .inl (cL, 1, .inr (.inl o1.2.2)))]]) [1] [0, 2] rfl rfl 3 rfl (by decide)).symm ?_
  refine J_istore (lv2 := [(6, .int o2.1), (5, .int o1.1), (4, .int i), (3, .ref ao), (2, .ref (am 0)), (1, .ref (A 0 0)), (0, .ref b)]) (pc := 1084) C dlw_1084 (by decide) rfl ?_
  refine J_aload_n (pc := 1086) C dlw_1086 4 rfl ?_
  refine J_cvF (pc := 1087) (As := []) (st := []) C dlw_1087 ml_L_170 mi_yX11_thrown (C_M_thrown l D cI cB cL cO pf N am o2.2 o2.2.1 rfl) (List.flatten [wPL cI cB cO A o1.2.1, [(ao, .inl (cL, 1, .inr (.inl o1.2.2)))]]) (seg_split (segs := [wPL cI cB cO A o1.2.1, wMO cI cB am o2.2, [(ao, .inl (cL, 1, .inr (.inl o1.2.2)))]]) (Wc := [wMO cI cB am o2.2]) (Wr := [wPL cI cB cO A o1.2.1, [(ao, .inl (cL, 1, .inr (.inl o1.2.2)))]]) [1] [0, 2] rfl rfl 3 rfl (by decide)) (q0 := 0) rfl rfl rfl ⟨(Nat.le_of_ble_eq_true rfl), (Nat.le_of_ble_eq_true rfl)⟩ hkn (Nat.le_of_ble_eq_true rfl) ?_
  rintro v w1 ⟨rfl, rfl⟩
  refine J_perm (ws2 := (List.flatten [wPL cI cB cO A o1.2.1, wMO cI cB am o2.2, [(ao, .inl (cL, 1, .inr (.inl o1.2.2)))]])) (seg_split (segs := [wPL cI cB cO A o1.2.1, wMO cI cB am o2.2, [(ao, .inl (cL, 1, .inr (.inl o1.2.2)))]]) (Wc := [wMO cI cB am o2.2]) (Wr := [wPL cI cB cO A o1.2.1, [(ao, .inl (cL, 1, .inr (.inl o1.2.2)))]]) [1] [0, 2] rfl rfl 3 rfl (by decide)).symm ?_
  refine J_iload (pc := 1090) C dlw_1090 1 rfl ?_
  refine J_ic_eq (α := Unit) (o := ()) (X := some ()) (Y := none) (pc := 1092) (tgt := 1097) C dlw_1092 (by decide) (if_pos hth) (fun _ => ?_) (fun h => by cases h)
  refine J_iload (pc := 1097) C dlw_1097 1 rfl ?_
  by_cases h0 : o1.1 = 0
  · refine J_if_ne (α := Unit) (o := ()) (X := some ()) (Y := none) (pc := 1099) (tgt := 1114) C dlw_1099 (by decide) (if_pos h0) (fun h => by cases h) (fun _ => ?_)
    refine J_aload_n (pc := 1102) C dlw_1102 3 rfl ?_
    refine J_iconst (v := (0 : Int32)) (pc := 1103) C dlw_1103 (by decide) ?_
    refine J_perm (ws2 := [(ao, .inl (cL, 1, .inr (.inl o1.2.2)))] ++ List.flatten [wPL cI cB cO A o1.2.1, wMO cI cB am o2.2]) (by simpa using seg_split (segs := [wPL cI cB cO A o1.2.1, wMO cI cB am o2.2, [(ao, .inl (cL, 1, .inr (.inl o1.2.2)))]]) (Wc := [[(ao, .inl (cL, 1, .inr (.inl o1.2.2)))]]) (Wr := [wPL cI cB cO A o1.2.1, wMO cI cB am o2.2]) [2] [0, 1] rfl rfl 3 rfl (by decide)) ?_
    refine J_lald (pc := 1104) C dlw_1104 0 2 (rfl : ([(ao, .inl (cL, 1, .inr (.inl o1.2.2)))] ++ List.flatten [wPL cI cB cO A o1.2.1, wMO cI cB am o2.2] : va_W)[0]? = some (ao, .inl (cL, 1, .inr (.inl o1.2.2)))) rfl (by unfold vp_in; decide) ?_
    refine J_perm (ws2 := (List.flatten [wPL cI cB cO A o1.2.1, wMO cI cB am o2.2, [(ao, .inl (cL, 1, .inr (.inl o1.2.2)))]])) (by simpa using (seg_split (segs := [wPL cI cB cO A o1.2.1, wMO cI cB am o2.2, [(ao, .inl (cL, 1, .inr (.inl o1.2.2)))]]) (Wc := [[(ao, .inl (cL, 1, .inr (.inl o1.2.2)))]]) (Wr := [wPL cI cB cO A o1.2.1, wMO cI cB am o2.2]) [2] [0, 1] rfl rfl 3 rfl (by decide)).symm) ?_
    refine J_iload (pc := 1105) C dlw_1105 0 rfl ?_
    refine J_i2l (pc := 1107) C dlw_1107 ?_
    refine J_lcmp (pc := 1108) C dlw_1108 ?_
    refine J_if_eq (α := Unit) (o := ()) (X := some ()) (Y := none) (pc := 1109) (tgt := 1114) C dlw_1109 (by decide) (if_pos (by have hv := hval h0; rw [show (0 : Int32).toNatClampNeg = 0 from rfl, hv]; exact lg_cmp_self _)) (fun _ => ?_) (fun h => by cases h)
    refine J_goto (tgt := 3187) (pc := 1114) C dlw_1114 (by decide) ?_
    refine J_sub (lv2 := [(4, .int i), (3, .ref ao), (2, .ref (am 0)), (1, .ref (A 0 0)), (0, .ref b)]) [2, 3, 4, 5, 6] rfl ?_
    exact kx _ _ _ hRn
  · refine J_if_ne (α := Unit) (o := ()) (X := none) (Y := some ()) (pc := 1099) (tgt := 1114) C dlw_1099 (by decide) (if_neg h0) (fun _ => ?_) (fun h => by cases h)
    refine J_goto (tgt := 3187) (pc := 1114) C dlw_1114 (by decide) ?_
    refine J_sub (lv2 := [(4, .int i), (3, .ref ao), (2, .ref (am 0)), (1, .ref (A 0 0)), (0, .ref b)]) [2, 3, 4, 5, 6] rfl ?_
    exact kx _ _ _ hRn
