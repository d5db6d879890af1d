/-! THE LAW, 2 -/
section LW2
variable {p : Program} {l : Launch} {e : Env} {s : State} {m : MethodId} {args : Array Value} {below : List Frame} {meth : Method} {c : Code} {H : Heap} {locs : List Loc} {cells slots : Nat} {Q : State → Prop}
variable {x : Jvm.Cond} {B t b q6 : Nat} {cA : Nat → ClassId} {D : va_G} {ls : Array Slot}
variable {T cn : Nat} {g : gM} {K : kr_K} {rd tk im F P fed : Int} {Nn : kn_N} {hh : kz_H} {I : kr_K × Int × Int} {B0 : Nat → Int} {lo h pl mu : Nat}
set_option maxHeartbeats 4000000 in
set_option maxRecDepth 100000 in
theorem zw_2 (Fr : zl_Fr p s m args c x B t cA D) (hW : jn_GW g) (hI : zz_I g zg_1_d) (hR : zz_R g 3 [1 + lo, 2 + lo + h, 0] [pl, mu, 0]) (hlo : lo < 4) (hh4 : h < 4) (hp3 : pl < 3) (hm3 : mu < 3) (hKi : zt_K K [0]) (hcc : cells ≤ 600086) (hss : slots ≤ 7301442) (hst : zl_st s B t cA D ((T, g), (K, rd, tk), Nn, (cn, hh), (I, im), B0, F, P, fed) H locs) (hl : lv_has ls 9 [(6, .ref q6), (5, .int (Int32.ofNat (2 + lo + h))), (4, .int (Int32.ofNat (1 + lo))), (3, .int (Int32.ofNat mu)), (2, .int (Int32.ofNat pl)), (1, .ref B), (0, .ref b)])
    (kk : ∀ H locs ls, zl_st s B t cA D ((T, g), (K, rd, tk), Nn, (cn, hh), (I, im), B0, F, P, fed) H locs → lv_has ls 9 [(6, .ref q6), (5, .int (Int32.ofNat (2 + lo + h))), (4, .int (Int32.ofNat (1 + lo))), (3, .int (Int32.ofNat mu)), (2, .int (Int32.ofNat pl)), (1, .ref B), (0, .ref b)] → W p l e room_1 s m args below meth c H locs cells slots Q (F0 m 369 ls [])) :
    W p l e room_1 s m args below meth c H locs cells slots Q (F0 m 227 ls [.int 9]) := by
  have hx := Fr.1
  have hb := Fr.2.1
  have z1 := zv_2a hW hI hR hlo hh4 hp3 hm3
  have z2 := zv_2b hW hI hR hlo hh4 hp3 hm3
  refine lv_bipush (v := 9) hx hb dL_law_227 (by decide) ?_
  refine lv_icmp_ne (tgt := 367) hx hb dL_law_229 (by decide) (fun c_ => (c_ (rfl)).elim) (fun _ => ?_)
  refine lv_aload_n hx hb dL_law_232 rfl (lv_at hl 5 rfl) ?_
  refine zl_d (As := []) (rest := []) Fr hst hl.1 (kc_z (kc_conflicts  hst.2.1 ) (z1.1)) zl_conflicts rfl rfl ⟨Nat.le_of_ble_eq_true rfl, rfl⟩ (Nat.le_of_ble_eq_true rfl) (by decide) hcc hss dL_law_233 (fun H locs hst hkp => ?_)
  refine zj_top (y := 0) (by decide) ?_
  refine lv_if_ne (tgt := 367) hx hb dL_law_236 (by decide) (fun c_ => (c_ (by decide)).elim) (fun _ => ?_)
  refine lv_aload_n hx hb dL_law_239 rfl (lv_at hl 5 rfl) ?_
  refine lv_iconst (v := 0) hx hb dL_law_240 (by decide) ?_
  refine lv_iconst (v := 0) hx hb dL_law_241 (by decide) ?_
  refine zl_d (As := [.int 0, .int 0]) (rest := []) Fr hst hl.1 (kc_z (kc_tried (x := 0) (y := 0) hst.2.1 (zj_jr rfl) (zj_jr rfl)) (z1.2.1)) zl_tried rfl rfl ⟨Nat.le_of_ble_eq_true rfl, rfl⟩ (Nat.le_of_ble_eq_true rfl) (by decide) hcc hss dL_law_242 (fun H locs hst hkp => ?_)
  refine zj_top (y := 4) (by decide) ?_
  refine lv_iconst (v := 4) hx hb dL_law_245 (by decide) ?_
  refine lv_icmp_ne (tgt := 367) hx hb dL_law_246 (by decide) (fun c_ => (c_ (rfl)).elim) (fun _ => ?_)
  refine lv_aload_n hx hb dL_law_249 rfl (lv_at hl 5 rfl) ?_
  refine lv_iconst (v := 1) hx hb dL_law_250 (by decide) ?_
  refine lv_iconst (v := 0) hx hb dL_law_251 (by decide) ?_
  refine zl_d (As := [.int 1, .int 0]) (rest := []) Fr hst hl.1 (kc_z (kc_tried (x := 1) (y := 0) hst.2.1 (zj_jr rfl) (zj_jr rfl)) (z1.2.2.1)) zl_tried rfl rfl ⟨Nat.le_of_ble_eq_true rfl, rfl⟩ (Nat.le_of_ble_eq_true rfl) (by decide) hcc hss dL_law_252 (fun H locs hst hkp => ?_)
  refine zj_top (y := 0) (by decide) ?_
  refine lv_if_ne (tgt := 367) hx hb dL_law_255 (by decide) (fun c_ => (c_ (by decide)).elim) (fun _ => ?_)
  refine lv_aload_n hx hb dL_law_258 rfl (lv_at hl 5 rfl) ?_
  refine lv_iconst (v := 4) hx hb dL_law_259 (by decide) ?_
  refine lv_iconst (v := 0) hx hb dL_law_260 (by decide) ?_
  refine zl_d (As := [.int 4, .int 0]) (rest := []) Fr hst hl.1 (kc_z (kc_tried (x := 4) (y := 0) hst.2.1 (zj_jr rfl) (zj_jr rfl)) (z1.2.2.2)) zl_tried rfl rfl ⟨Nat.le_of_ble_eq_true rfl, rfl⟩ (Nat.le_of_ble_eq_true rfl) (by decide) hcc hss dL_law_261 (fun H locs hst hkp => ?_)
  refine zj_top (y := 0) (by decide) ?_
  refine lv_if_ne (tgt := 367) hx hb dL_law_264 (by decide) (fun c_ => (c_ (by decide)).elim) (fun _ => ?_)
  refine lv_aload_n hx hb dL_law_267 rfl (lv_at hl 5 rfl) ?_
  refine lv_iconst (v := 5) hx hb dL_law_268 (by decide) ?_
  refine lv_iconst (v := 0) hx hb dL_law_269 (by decide) ?_
  refine zl_d (As := [.int 5, .int 0]) (rest := []) Fr hst hl.1 (kc_z (kc_look (x := 5) (y := 0) hst.2.1 (zj_jr rfl) (zj_jr rfl)) (z2.1.1)) zl_look rfl rfl ⟨Nat.le_of_ble_eq_true rfl, rfl⟩ (Nat.le_of_ble_eq_true rfl) (by decide) hcc hss dL_law_270 (fun H locs hst hkp => ?_)
  refine zj_top (y := 11) (by decide) ?_
  refine lv_bipush (v := 11) hx hb dL_law_273 (by decide) ?_
  refine lv_icmp_ne (tgt := 367) hx hb dL_law_275 (by decide) (fun c_ => (c_ (rfl)).elim) (fun _ => ?_)
  refine lv_aload_n hx hb dL_law_278 rfl (lv_at hl 5 rfl) ?_
  refine lv_iconst (v := 0) hx hb dL_law_279 (by decide) ?_
  refine lv_iconst (v := 2) hx hb dL_law_280 (by decide) ?_
  refine zl_d (As := [.int 0, .int 2]) (rest := []) Fr hst hl.1 (kc_z (kc_kind (x := 0) (y := 2) hst.2.1 (show (0 : Int) ≤ 0 ∧ (0 : Int) < g 0 1 by rw [hI.1.2.1]; decide) (by decide)) (z2.1.2.1)) zl_kind rfl rfl ⟨Nat.le_of_ble_eq_true rfl, rfl⟩ (Nat.le_of_ble_eq_true rfl) (by decide) hcc hss dL_law_281 (fun H locs hst hkp => ?_)
  refine zj_top (y := 11) (by decide) ?_
  refine lv_bipush (v := 11) hx hb dL_law_284 (by decide) ?_
  refine lv_icmp_ne (tgt := 367) hx hb dL_law_286 (by decide) (fun c_ => (c_ (rfl)).elim) (fun _ => ?_)
  refine lv_aload_n hx hb dL_law_289 rfl (lv_at hl 5 rfl) ?_
  refine lv_iconst (v := 0) hx hb dL_law_290 (by decide) ?_
  refine lv_iconst (v := 1) hx hb dL_law_291 (by decide) ?_
  refine zl_d (As := [.int 0, .int 1]) (rest := []) Fr hst hl.1 (kc_z (kc_kind (x := 0) (y := 1) hst.2.1 (show (0 : Int) ≤ 0 ∧ (0 : Int) < g 0 1 by rw [hI.1.2.1]; decide) (by decide)) (z2.1.2.2)) zl_kind rfl rfl ⟨Nat.le_of_ble_eq_true rfl, rfl⟩ (Nat.le_of_ble_eq_true rfl) (by decide) hcc hss dL_law_292 (fun H locs hst hkp => ?_)
  refine zj_top (y := 4) (by decide) ?_
  refine lv_iconst (v := 4) hx hb dL_law_295 (by decide) ?_
  refine lv_icmp_ne (tgt := 367) hx hb dL_law_296 (by decide) (fun c_ => (c_ (rfl)).elim) (fun _ => ?_)
  refine lv_aload_n hx hb dL_law_299 rfl (lv_at hl 5 rfl) ?_
  refine zl_d (As := []) (rest := []) Fr hst hl.1 (kc_z (kc_expected  hst.2.1 ) (z2.2.1 K hKi)) zl_expected rfl rfl ⟨Nat.le_of_ble_eq_true rfl, rfl⟩ (Nat.le_of_ble_eq_true rfl) (by decide) hcc hss dL_law_300 (fun H locs hst hkp => ?_)
  refine zj_top (y := 4) (by decide) ?_
  refine lv_iconst (v := 4) hx hb dL_law_303 (by decide) ?_
  refine lv_icmp_ne (tgt := 367) hx hb dL_law_304 (by decide) (fun c_ => (c_ (rfl)).elim) (fun _ => ?_)
  refine lv_aload_n hx hb dL_law_307 rfl (lv_at hl 5 rfl) ?_
  refine lv_iconst (v := 1) hx hb dL_law_308 (by decide) ?_
  refine zl_d (As := [.int 1]) (rest := []) Fr hst hl.1 (kc_z (kc_sentences (x := 1) hst.2.1 (zj_jr rfl)) (z2.2.2.1.1)) zl_sentences rfl rfl ⟨Nat.le_of_ble_eq_true rfl, rfl⟩ (Nat.le_of_ble_eq_true rfl) (by decide) hcc hss dL_law_309 (fun H locs hst hkp => ?_)
  refine zj_top (y := 1) (by decide) ?_
  refine lv_iconst (v := 1) hx hb dL_law_312 (by decide) ?_
  refine lv_icmp_ne (tgt := 367) hx hb dL_law_313 (by decide) (fun c_ => (c_ (rfl)).elim) (fun _ => ?_)
  refine lv_aload_n hx hb dL_law_316 rfl (lv_at hl 5 rfl) ?_
  refine lv_iconst (v := 2) hx hb dL_law_317 (by decide) ?_
  refine zl_d (As := [.int 2]) (rest := []) Fr hst hl.1 (kc_z (kc_sentences (x := 2) hst.2.1 (zj_jr rfl)) (z2.2.2.1.2.1)) zl_sentences rfl rfl ⟨Nat.le_of_ble_eq_true rfl, rfl⟩ (Nat.le_of_ble_eq_true rfl) (by decide) hcc hss dL_law_318 (fun H locs hst hkp => ?_)
  refine zj_top (y := 0) (by decide) ?_
  refine lv_if_ne (tgt := 367) hx hb dL_law_321 (by decide) (fun c_ => (c_ (by decide)).elim) (fun _ => ?_)
  refine lv_aload_n hx hb dL_law_324 rfl (lv_at hl 5 rfl) ?_
  refine lv_iconst (v := 3) hx hb dL_law_325 (by decide) ?_
  refine zl_d (As := [.int 3]) (rest := []) Fr hst hl.1 (kc_z (kc_sentences (x := 3) hst.2.1 (zj_jr rfl)) (z2.2.2.1.2.2)) zl_sentences rfl rfl ⟨Nat.le_of_ble_eq_true rfl, rfl⟩ (Nat.le_of_ble_eq_true rfl) (by decide) hcc hss dL_law_326 (fun H locs hst hkp => ?_)
  refine zj_top (y := 2) (by decide) ?_
  refine lv_iconst (v := 2) hx hb dL_law_329 (by decide) ?_
  refine lv_icmp_ne (tgt := 367) hx hb dL_law_330 (by decide) (fun c_ => (c_ (rfl)).elim) (fun _ => ?_)
  refine lv_aload_n hx hb dL_law_333 rfl (lv_at hl 5 rfl) ?_
  refine lv_iconst (v := 0) hx hb dL_law_334 (by decide) ?_
  refine lv_bipush (v := 6) hx hb dL_law_335 (by decide) ?_
  refine zl_d (As := [.int 0, .int 6]) (rest := []) Fr hst hl.1 (kc_z (kc_rule (x := 0) (y := 6) hst.2.1 (zj_jr rfl) (zj_jr rfl)) (z2.2.2.2.1)) zl_rule rfl rfl ⟨Nat.le_of_ble_eq_true rfl, rfl⟩ (Nat.le_of_ble_eq_true rfl) (by decide) hcc hss dL_law_337 (fun H locs hst hkp => ?_)
  refine zj_top (y := Int32.ofNat (1 + lo)) rfl ?_
  refine lv_iload hx hb dL_law_340 (lv_at hl 2 rfl) ?_
  refine lv_icmp_ne (tgt := 367) hx hb dL_law_342 (by decide) (fun c_ => (c_ (rfl)).elim) (fun _ => ?_)
  refine lv_aload_n hx hb dL_law_345 rfl (lv_at hl 5 rfl) ?_
  refine lv_iconst (v := 1) hx hb dL_law_346 (by decide) ?_
  refine lv_bipush (v := 6) hx hb dL_law_347 (by decide) ?_
  refine zl_d (As := [.int 1, .int 6]) (rest := []) Fr hst hl.1 (kc_z (kc_rule (x := 1) (y := 6) hst.2.1 (zj_jr rfl) (zj_jr rfl)) (z2.2.2.2.2.1)) zl_rule rfl rfl ⟨Nat.le_of_ble_eq_true rfl, rfl⟩ (Nat.le_of_ble_eq_true rfl) (by decide) hcc hss dL_law_349 (fun H locs hst hkp => ?_)
  refine zj_top (y := Int32.ofNat (2 + lo + h)) rfl ?_
  refine lv_iload hx hb dL_law_352 (lv_at hl 1 rfl) ?_
  refine lv_icmp_ne (tgt := 367) hx hb dL_law_354 (by decide) (fun c_ => (c_ (rfl)).elim) (fun _ => ?_)
  refine lv_aload_n hx hb dL_law_357 rfl (lv_at hl 5 rfl) ?_
  refine lv_iconst (v := 2) hx hb dL_law_358 (by decide) ?_
  refine lv_bipush (v := 6) hx hb dL_law_359 (by decide) ?_
  refine zl_d (As := [.int 2, .int 6]) (rest := []) Fr hst hl.1 (kc_z (kc_rule (x := 2) (y := 6) hst.2.1 (zj_jr rfl) (zj_jr rfl)) (z2.2.2.2.2.2)) zl_rule rfl rfl ⟨Nat.le_of_ble_eq_true rfl, rfl⟩ (Nat.le_of_ble_eq_true rfl) (by decide) hcc hss dL_law_361 (fun H locs hst hkp => ?_)
  refine zj_top (y := 0) (by decide) ?_
  refine lv_if_eq (tgt := 369) hx hb dL_law_364 (by decide) (fun _ => ?_) (fun c_ => (c_ (by decide)).elim)
  exact kk H locs ls hst hl
end LW2
