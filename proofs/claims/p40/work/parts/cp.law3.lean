/-! THE LAW, 3: two arrays, ACTIONS -/
section LW3
variable {p : Program} {l : Launch} {e : Env} {s : State} {m : MethodId} {args : Array Value} {below : List Frame} {meth : Method} {c : Code} {H : Heap} {locs : List Loc} {cells slots : Nat} {Q : State → Prop}
variable {x : Jvm.Cond} {B t b q6 : Nat} {cA : Nat → ClassId} {D : va_G} {ls : Array Slot}
variable {T cn : Nat} {g : gM} {K : kr_K} {rd tk im F P fed : Int} {Nn : kn_N} {hh : kz_H} {I : kr_K × Int × Int} {B0 : Nat → Int} {lo h pl mu : Nat}
set_option maxHeartbeats 4000000 in
set_option maxRecDepth 100000 in
theorem zw_3 (Fr : zl_Fr p s m args c x B t cA D)  (hcc : cells + 1 ≤ 600086) (hss : slots + 3 ≤ 7301442) (hst : zl_st s B t cA D ((T, g), (K, rd, tk), Nn, (cn, hh), (I, im), B0, F, P, fed) H locs) (hl : lv_has ls 9 [(6, .ref q6), (5, .int (Int32.ofNat (2 + lo + h))), (4, .int (Int32.ofNat (1 + lo))), (3, .int (Int32.ofNat mu)), (2, .int (Int32.ofNat pl)), (1, .ref B), (0, .ref b)])
    (kk : ∀ H1 locs ls w cI, zl_st s B t cA D ((T, g), (K, rd, tk), Nn, (cn, hh), (I, im), B0, F, P, fed) H1 locs → zl_kp B H H1 → H.size ≤ w → va_K D [] [(cI, .int)] s → H1[w]? = some (vp_cell cI (3, .inl (upd (upd (upd (fun _ => 0) (0 : Int32).toNatClampNeg 2000) (1 : Int32).toNatClampNeg 1003) (2 : Int32).toNatClampNeg 0))) → w < H1.size → lv_has ls 9 [(7, .ref w), (6, .ref q6), (5, .int (Int32.ofNat (2 + lo + h))), (4, .int (Int32.ofNat (1 + lo))), (3, .int (Int32.ofNat mu)), (2, .int (Int32.ofNat pl)), (1, .ref B), (0, .ref b)] → W p l e room_1 s m args below meth c H1 locs (cells + 1) (slots + 3) Q (F0 m 390 ls [])) :
    W p l e room_1 s m args below meth c H locs cells slots Q (F0 m 369 ls []) := by
  have hx := Fr.1
  have hb := Fr.2.1
  refine lv_iconst (v := 3) hx hb dL_law_369 (by decide) ?_
  refine va_newaK (atype := .int) hx hb (Fr.2.2.2.2.1 _ (zj_t (q := 1073) (by decide +kernel) rfl)) rfl dL_law_370 (n := 3) rfl (by decide) (N := 3) (by decide) (by decide) hcc hss rfl (fun H1 cI e1 z1 o1 hAr hNm => ?_)
  refine W.eq (g2 := F0 m 372 ls [.ref H.size]) rfl ?_
  have hK : va_K D [] [(cI, .int)] s := ⟨fun c q hq => by simp at hq, fun k q hk => by
    match k, hk with
    | 0, hk => cases hk; exact ⟨hAr, hNm⟩⟩
  have hw : H1[H.size]? = some (vp_cell cI (3, .inl (fun _ => 0))) := e1
  obtain ⟨⟨σ, hC, hH⟩, hP, hS⟩ := hst
  have hsz : s.heap.size ≤ H.size := hS.1
  have hS : va_S (zl_A B s) s.heap H1 locs := ⟨Nat.le_trans hS.1 (by omega), fun q h1 h2 => (o1 q (Nat.lt_of_lt_of_le h1 hS.1)).trans (hS.2.1 q h1 h2), hS.2.2⟩
  have ho : ∀ q : Nat, q ≠ H.size → H1[q]? = H1[q]? := fun _ _ => rfl
  have hz : H1.size = H1.size := rfl
  obtain ⟨w, hwe⟩ : ∃ w, H.size = w := ⟨_, rfl⟩
  rw [hwe] at hw ho hsz ⊢
  refine lv_dup hx hb dL_law_372 rfl ?_
  refine lv_iconst (v := 0) hx hb dL_law_373 (by decide) ?_
  refine lv_sipush (v := 2000) hx hb dL_law_374 (by decide) ?_
  refine zl_iast (D := D) hx hb hK hw (Or.inr hsz) hS (show ¬ ((0 : Int32) < 0 ∨ 3 ≤ (0 : Int32).toNatClampNeg) by decide) dL_law_377 (fun H2 locs hw z2 o2 hS => ?_)
  have ho : ∀ q : Nat, q ≠ w → H2[q]? = H1[q]? := fun q hq => (o2 q hq).trans (ho q hq)
  have hz : H2.size = H1.size := z2.trans hz
  refine lv_dup hx hb dL_law_378 rfl ?_
  refine lv_iconst (v := 1) hx hb dL_law_379 (by decide) ?_
  refine lv_sipush (v := 1003) hx hb dL_law_380 (by decide) ?_
  refine zl_iast (D := D) hx hb hK hw (Or.inr hsz) hS (show ¬ ((1 : Int32) < 0 ∨ 3 ≤ (1 : Int32).toNatClampNeg) by decide) dL_law_383 (fun H3 locs hw z2 o2 hS => ?_)
  have ho : ∀ q : Nat, q ≠ w → H3[q]? = H1[q]? := fun q hq => (o2 q hq).trans (ho q hq)
  have hz : H3.size = H1.size := z2.trans hz
  refine lv_dup hx hb dL_law_384 rfl ?_
  refine lv_iconst (v := 2) hx hb dL_law_385 (by decide) ?_
  refine lv_iconst (v := 0) hx hb dL_law_386 (by decide) ?_
  refine zl_iast (D := D) hx hb hK hw (Or.inr hsz) hS (show ¬ ((2 : Int32) < 0 ∨ 3 ≤ (2 : Int32).toNatClampNeg) by decide) dL_law_387 (fun H4 locs hw z2 o2 hS => ?_)
  have ho : ∀ q : Nat, q ≠ w → H4[q]? = H1[q]? := fun q hq => (o2 q hq).trans (ho q hq)
  have hz : H4.size = H1.size := z2.trans hz
  refine lv_astore (lv' := [(7, .ref w), (6, .ref q6), (5, .int (Int32.ofNat (2 + lo + h))), (4, .int (Int32.ofNat (1 + lo))), (3, .int (Int32.ofNat mu)), (2, .int (Int32.ofNat pl)), (1, .ref B), (0, .ref b)]) hx hb dL_law_388 hl (by decide) rfl (fun ls hl => ?_)
  have hk : ∀ q : Nat, q < H.size → H4[q]? = H[q]? := fun q hq => (ho q (by omega)).trans (o1 q hq)
  exact kk H4 locs ls w cI ⟨⟨σ, hC, hH.1.kept (fun k q hq => hk q.1 (hH.1 k q hq).lt), hH.2⟩, hP, hS⟩ ⟨by omega, fun q h1 _ => hk q h1⟩ (by omega) hK hw (by omega) hl
set_option maxHeartbeats 4000000 in
set_option maxRecDepth 100000 in
theorem zw_4 (Fr : zl_Fr p s m args c x B t cA D) {w7 : Nat} (hcc : cells + 1 ≤ 600086) (hss : slots + 3 ≤ 7301442) (hst : zl_st s B t cA D ((T, g), (K, rd, tk), Nn, (cn, hh), (I, im), B0, F, P, fed) H locs) (hl : lv_has ls 9 [(7, .ref w7), (6, .ref q6), (5, .int (Int32.ofNat (2 + lo + h))), (4, .int (Int32.ofNat (1 + lo))), (3, .int (Int32.ofNat mu)), (2, .int (Int32.ofNat pl)), (1, .ref B), (0, .ref b)])
    (kk : ∀ H1 locs ls w cI, zl_st s B t cA D ((T, g), (K, rd, tk), Nn, (cn, hh), (I, im), B0, F, P, fed) H1 locs → zl_kp B H H1 → H.size ≤ w → va_K D [] [(cI, .int)] s → H1[w]? = some (vp_cell cI (3, .inl (upd (upd (upd (fun _ => 0) (0 : Int32).toNatClampNeg 2001) (1 : Int32).toNatClampNeg 1004) (2 : Int32).toNatClampNeg 0))) → w < H1.size → lv_has ls 9 [(8, .ref w), (7, .ref w7), (6, .ref q6), (5, .int (Int32.ofNat (2 + lo + h))), (4, .int (Int32.ofNat (1 + lo))), (3, .int (Int32.ofNat mu)), (2, .int (Int32.ofNat pl)), (1, .ref B), (0, .ref b)] → W p l e room_1 s m args below meth c H1 locs (cells + 1) (slots + 3) Q (F0 m 411 ls [])) :
    W p l e room_1 s m args below meth c H locs cells slots Q (F0 m 390 ls []) := by
  have hx := Fr.1
  have hb := Fr.2.1
  refine lv_iconst (v := 3) hx hb dL_law_390 (by decide) ?_
  refine va_newaK (atype := .int) hx hb (Fr.2.2.2.2.1 _ (zj_t (q := 1073) (by decide +kernel) rfl)) rfl dL_law_391 (n := 3) rfl (by decide) (N := 3) (by decide) (by decide) hcc hss rfl (fun H1 cI e1 z1 o1 hAr hNm => ?_)
  refine W.eq (g2 := F0 m 393 ls [.ref H.size]) rfl ?_
  have hK : va_K D [] [(cI, .int)] s := ⟨fun c q hq => by simp at hq, fun k q hk => by
    match k, hk with
    | 0, hk => cases hk; exact ⟨hAr, hNm⟩⟩
  have hw : H1[H.size]? = some (vp_cell cI (3, .inl (fun _ => 0))) := e1
  obtain ⟨⟨σ, hC, hH⟩, hP, hS⟩ := hst
  have hsz : s.heap.size ≤ H.size := hS.1
  have hS : va_S (zl_A B s) s.heap H1 locs := ⟨Nat.le_trans hS.1 (by omega), fun q h1 h2 => (o1 q (Nat.lt_of_lt_of_le h1 hS.1)).trans (hS.2.1 q h1 h2), hS.2.2⟩
  have ho : ∀ q : Nat, q ≠ H.size → H1[q]? = H1[q]? := fun _ _ => rfl
  have hz : H1.size = H1.size := rfl
  obtain ⟨w, hwe⟩ : ∃ w, H.size = w := ⟨_, rfl⟩
  rw [hwe] at hw ho hsz ⊢
  refine lv_dup hx hb dL_law_393 rfl ?_
  refine lv_iconst (v := 0) hx hb dL_law_394 (by decide) ?_
  refine lv_sipush (v := 2001) hx hb dL_law_395 (by decide) ?_
  refine zl_iast (D := D) hx hb hK hw (Or.inr hsz) hS (show ¬ ((0 : Int32) < 0 ∨ 3 ≤ (0 : Int32).toNatClampNeg) by decide) dL_law_398 (fun H2 locs hw z2 o2 hS => ?_)
  have ho : ∀ q : Nat, q ≠ w → H2[q]? = H1[q]? := fun q hq => (o2 q hq).trans (ho q hq)
  have hz : H2.size = H1.size := z2.trans hz
  refine lv_dup hx hb dL_law_399 rfl ?_
  refine lv_iconst (v := 1) hx hb dL_law_400 (by decide) ?_
  refine lv_sipush (v := 1004) hx hb dL_law_401 (by decide) ?_
  refine zl_iast (D := D) hx hb hK hw (Or.inr hsz) hS (show ¬ ((1 : Int32) < 0 ∨ 3 ≤ (1 : Int32).toNatClampNeg) by decide) dL_law_404 (fun H3 locs hw z2 o2 hS => ?_)
  have ho : ∀ q : Nat, q ≠ w → H3[q]? = H1[q]? := fun q hq => (o2 q hq).trans (ho q hq)
  have hz : H3.size = H1.size := z2.trans hz
  refine lv_dup hx hb dL_law_405 rfl ?_
  refine lv_iconst (v := 2) hx hb dL_law_406 (by decide) ?_
  refine lv_iconst (v := 0) hx hb dL_law_407 (by decide) ?_
  refine zl_iast (D := D) hx hb hK hw (Or.inr hsz) hS (show ¬ ((2 : Int32) < 0 ∨ 3 ≤ (2 : Int32).toNatClampNeg) by decide) dL_law_408 (fun H4 locs hw z2 o2 hS => ?_)
  have ho : ∀ q : Nat, q ≠ w → H4[q]? = H1[q]? := fun q hq => (o2 q hq).trans (ho q hq)
  have hz : H4.size = H1.size := z2.trans hz
  refine lv_astore (lv' := [(8, .ref w), (7, .ref w7), (6, .ref q6), (5, .int (Int32.ofNat (2 + lo + h))), (4, .int (Int32.ofNat (1 + lo))), (3, .int (Int32.ofNat mu)), (2, .int (Int32.ofNat pl)), (1, .ref B), (0, .ref b)]) hx hb dL_law_409 hl (by decide) rfl (fun ls hl => ?_)
  have hk : ∀ q : Nat, q < H.size → H4[q]? = H[q]? := fun q hq => (ho q (by omega)).trans (o1 q hq)
  exact kk H4 locs ls w cI ⟨⟨σ, hC, hH.1.kept (fun k q hq => hk q.1 (hH.1 k q hq).lt), hH.2⟩, hP, hS⟩ ⟨by omega, fun q h1 _ => hk q h1⟩ (by omega) hK hw (by omega) hl
set_option maxHeartbeats 4000000 in
set_option maxRecDepth 100000 in
theorem zw_5 (Fr : zl_Fr p s m args c x B t cA D) (hW : jn_GW g) (hI : zz_I g zg_1_d) (hR : zz_R g 3 [1 + lo, 2 + lo + h, 0] [pl, mu, 0]) (hlo : lo < 4) (hh4 : h < 4) (hp3 : pl < 3) (hm3 : mu < 3) {w7 w8 cIw7 cIw8 : Nat} (hKw7 : va_K D [] [(cIw7, .int)] s) (hKw8 : va_K D [] [(cIw8, .int)] s) (hw7 : H[w7]? = some (vp_cell cIw7 (3, .inl (upd (upd (upd (fun _ => 0) (0 : Int32).toNatClampNeg 2000) (1 : Int32).toNatClampNeg 1003) (2 : Int32).toNatClampNeg 0)))) (hw8 : H[w8]? = some (vp_cell cIw8 (3, .inl (upd (upd (upd (fun _ => 0) (0 : Int32).toNatClampNeg 2001) (1 : Int32).toNatClampNeg 1004) (2 : Int32).toNatClampNeg 0)))) (hltw7 : w7 < H.size) (hltw8 : w8 < H.size) (hnAw7 : ¬ mj_A B w7) (hnAw8 : ¬ mj_A B w8) (hcc : cells ≤ 600086) (hss : slots ≤ 7301442) (hst : zl_st s B t cA D ((T, g), (K, rd, tk), Nn, (cn, hh), (I, im), B0, F, P, fed) H locs) (hl : lv_has ls 9 [(8, .ref w8), (7, .ref w7), (6, .ref q6), (5, .int (Int32.ofNat (2 + lo + h))), (4, .int (Int32.ofNat (1 + lo))), (3, .int (Int32.ofNat mu)), (2, .int (Int32.ofNat pl)), (1, .ref B), (0, .ref b)])
    (kk : ∀ H locs ls, zl_st s B t cA D ((T, g), (K, rd, tk), Nn, (cn, hh), (I, im), B0, F, P, fed) H locs → lv_has ls 9 [(6, .ref q6), (5, .int (Int32.ofNat (2 + lo + h))), (4, .int (Int32.ofNat (1 + lo))), (3, .int (Int32.ofNat mu)), (2, .int (Int32.ofNat pl)), (1, .ref B), (0, .ref b)] → W p l e room_1 s m args below meth c H locs cells slots Q (F0 m 498 ls [])) :
    W p l e room_1 s m args below meth c H locs cells slots Q (F0 m 411 ls []) := by
  have hx := Fr.1
  have hb := Fr.2.1
  have z3 := zv_2c hW hI hR hlo hh4 hp3 hm3
  refine lv_aload_n hx hb dL_law_411 rfl (lv_at hl 7 rfl) ?_
  refine lv_iconst (v := 5) hx hb dL_law_412 (by decide) ?_
  refine lv_iconst (v := 0) hx hb dL_law_413 (by decide) ?_
  refine zl_d (As := [.int 5, .int 0]) (rest := []) Fr hst hl.1 (kc_z (kc_action (x := 5) (y := 0) hst.2.1 (zj_jr rfl) (zj_jr rfl)) (z3.1.1)) zl_action rfl rfl ⟨Nat.le_of_ble_eq_true rfl, rfl⟩ (Nat.le_of_ble_eq_true rfl) (by decide) hcc hss dL_law_414 (fun H locs hst hkp => ?_)
  have hw7 : H[w7]? = some (vp_cell cIw7 (3, .inl (upd (upd (upd (fun _ => 0) (0 : Int32).toNatClampNeg 2000) (1 : Int32).toNatClampNeg 1003) (2 : Int32).toNatClampNeg 0))) := (hkp.2 w7 hltw7 hnAw7).trans hw7
  have hltw7 : w7 < H.size := Nat.lt_of_lt_of_le hltw7 hkp.1
  have hw8 : H[w8]? = some (vp_cell cIw8 (3, .inl (upd (upd (upd (fun _ => 0) (0 : Int32).toNatClampNeg 2001) (1 : Int32).toNatClampNeg 1004) (2 : Int32).toNatClampNeg 0))) := (hkp.2 w8 hltw8 hnAw8).trans hw8
  have hltw8 : w8 < H.size := Nat.lt_of_lt_of_le hltw8 hkp.1
  refine lv_aload hx hb dL_law_417 (lv_at hl 1 rfl) ?_
  refine lv_iload_n hx hb dL_law_419 rfl (lv_at hl 6 rfl) ?_
  refine va_iald hx hb hKw7 (zl_P (D := D) hw7) 0 0 rfl rfl (by rcases (show pl = 0 ∨ pl = 1 ∨ pl = 2 by omega) with rfl | rfl | rfl <;> (unfold vp_in; decide)) dL_law_420 ?_
  refine lv_icmp_ne (tgt := 496) hx hb dL_law_421 (by decide) (fun c_ => (c_ (by rcases (show pl = 0 ∨ pl = 1 ∨ pl = 2 by omega) with rfl | rfl | rfl <;> decide)).elim) (fun _ => ?_)
  refine lv_aload_n hx hb dL_law_424 rfl (lv_at hl 7 rfl) ?_
  refine lv_iconst (v := 5) hx hb dL_law_425 (by decide) ?_
  refine lv_iconst (v := 1) hx hb dL_law_426 (by decide) ?_
  refine zl_d (As := [.int 5, .int 1]) (rest := []) Fr hst hl.1 (kc_z (kc_action (x := 5) (y := 1) hst.2.1 (zj_jr rfl) (zj_jr rfl)) (z3.1.2.1)) zl_action rfl rfl ⟨Nat.le_of_ble_eq_true rfl, rfl⟩ (Nat.le_of_ble_eq_true rfl) (by decide) hcc hss dL_law_427 (fun H locs hst hkp => ?_)
  refine zj_top (y := 1004) (by decide) ?_
  have hw7 : H[w7]? = some (vp_cell cIw7 (3, .inl (upd (upd (upd (fun _ => 0) (0 : Int32).toNatClampNeg 2000) (1 : Int32).toNatClampNeg 1003) (2 : Int32).toNatClampNeg 0))) := (hkp.2 w7 hltw7 hnAw7).trans hw7
  have hltw7 : w7 < H.size := Nat.lt_of_lt_of_le hltw7 hkp.1
  have hw8 : H[w8]? = some (vp_cell cIw8 (3, .inl (upd (upd (upd (fun _ => 0) (0 : Int32).toNatClampNeg 2001) (1 : Int32).toNatClampNeg 1004) (2 : Int32).toNatClampNeg 0))) := (hkp.2 w8 hltw8 hnAw8).trans hw8
  have hltw8 : w8 < H.size := Nat.lt_of_lt_of_le hltw8 hkp.1
  refine lv_sipush (v := 1004) hx hb dL_law_430 (by decide) ?_
  refine lv_icmp_ne (tgt := 496) hx hb dL_law_433 (by decide) (fun c_ => (c_ (rfl)).elim) (fun _ => ?_)
  refine lv_aload_n hx hb dL_law_436 rfl (lv_at hl 7 rfl) ?_
  refine lv_bipush (v := 6) hx hb dL_law_437 (by decide) ?_
  refine lv_iconst (v := 0) hx hb dL_law_439 (by decide) ?_
  refine zl_d (As := [.int 6, .int 0]) (rest := []) Fr hst hl.1 (kc_z (kc_action (x := 6) (y := 0) hst.2.1 (zj_jr rfl) (zj_jr rfl)) (z3.1.2.2.1)) zl_action rfl rfl ⟨Nat.le_of_ble_eq_true rfl, rfl⟩ (Nat.le_of_ble_eq_true rfl) (by decide) hcc hss dL_law_440 (fun H locs hst hkp => ?_)
  refine zj_top (y := 2001) (by decide) ?_
  have hw7 : H[w7]? = some (vp_cell cIw7 (3, .inl (upd (upd (upd (fun _ => 0) (0 : Int32).toNatClampNeg 2000) (1 : Int32).toNatClampNeg 1003) (2 : Int32).toNatClampNeg 0))) := (hkp.2 w7 hltw7 hnAw7).trans hw7
  have hltw7 : w7 < H.size := Nat.lt_of_lt_of_le hltw7 hkp.1
  have hw8 : H[w8]? = some (vp_cell cIw8 (3, .inl (upd (upd (upd (fun _ => 0) (0 : Int32).toNatClampNeg 2001) (1 : Int32).toNatClampNeg 1004) (2 : Int32).toNatClampNeg 0))) := (hkp.2 w8 hltw8 hnAw8).trans hw8
  have hltw8 : w8 < H.size := Nat.lt_of_lt_of_le hltw8 hkp.1
  refine lv_sipush (v := 2001) hx hb dL_law_443 (by decide) ?_
  refine lv_icmp_ne (tgt := 496) hx hb dL_law_446 (by decide) (fun c_ => (c_ (rfl)).elim) (fun _ => ?_)
  refine lv_aload_n hx hb dL_law_449 rfl (lv_at hl 7 rfl) ?_
  refine lv_bipush (v := 6) hx hb dL_law_450 (by decide) ?_
  refine lv_iconst (v := 1) hx hb dL_law_452 (by decide) ?_
  refine zl_d (As := [.int 6, .int 1]) (rest := []) Fr hst hl.1 (kc_z (kc_action (x := 6) (y := 1) hst.2.1 (zj_jr rfl) (zj_jr rfl)) (z3.1.2.2.2)) zl_action rfl rfl ⟨Nat.le_of_ble_eq_true rfl, rfl⟩ (Nat.le_of_ble_eq_true rfl) (by decide) hcc hss dL_law_453 (fun H locs hst hkp => ?_)
  have hw7 : H[w7]? = some (vp_cell cIw7 (3, .inl (upd (upd (upd (fun _ => 0) (0 : Int32).toNatClampNeg 2000) (1 : Int32).toNatClampNeg 1003) (2 : Int32).toNatClampNeg 0))) := (hkp.2 w7 hltw7 hnAw7).trans hw7
  have hltw7 : w7 < H.size := Nat.lt_of_lt_of_le hltw7 hkp.1
  have hw8 : H[w8]? = some (vp_cell cIw8 (3, .inl (upd (upd (upd (fun _ => 0) (0 : Int32).toNatClampNeg 2001) (1 : Int32).toNatClampNeg 1004) (2 : Int32).toNatClampNeg 0))) := (hkp.2 w8 hltw8 hnAw8).trans hw8
  have hltw8 : w8 < H.size := Nat.lt_of_lt_of_le hltw8 hkp.1
  refine lv_aload hx hb dL_law_456 (lv_at hl 0 rfl) ?_
  refine lv_iload_n hx hb dL_law_458 rfl (lv_at hl 5 rfl) ?_
  refine va_iald hx hb hKw8 (zl_P (D := D) hw8) 0 0 rfl rfl (by rcases (show mu = 0 ∨ mu = 1 ∨ mu = 2 by omega) with rfl | rfl | rfl <;> (unfold vp_in; decide)) dL_law_459 ?_
  refine lv_icmp_ne (tgt := 496) hx hb dL_law_460 (by decide) (fun c_ => (c_ (by rcases (show mu = 0 ∨ mu = 1 ∨ mu = 2 by omega) with rfl | rfl | rfl <;> decide)).elim) (fun _ => ?_)
  refine lv_aload_n hx hb dL_law_463 rfl (lv_at hl 7 rfl) ?_
  refine lv_iconst (v := 5) hx hb dL_law_464 (by decide) ?_
  refine lv_iconst (v := 3) hx hb dL_law_465 (by decide) ?_
  refine zl_d (As := [.int 5, .int 3]) (rest := []) Fr hst hl.1 (kc_z (kc_action (x := 5) (y := 3) hst.2.1 (zj_jr rfl) (zj_jr rfl)) (z3.2.1)) zl_action rfl rfl ⟨Nat.le_of_ble_eq_true rfl, rfl⟩ (Nat.le_of_ble_eq_true rfl) (by decide) hcc hss dL_law_466 (fun H locs hst hkp => ?_)
  refine zj_top (y := 2000) (by decide) ?_
  have hw7 : H[w7]? = some (vp_cell cIw7 (3, .inl (upd (upd (upd (fun _ => 0) (0 : Int32).toNatClampNeg 2000) (1 : Int32).toNatClampNeg 1003) (2 : Int32).toNatClampNeg 0))) := (hkp.2 w7 hltw7 hnAw7).trans hw7
  have hltw7 : w7 < H.size := Nat.lt_of_lt_of_le hltw7 hkp.1
  have hw8 : H[w8]? = some (vp_cell cIw8 (3, .inl (upd (upd (upd (fun _ => 0) (0 : Int32).toNatClampNeg 2001) (1 : Int32).toNatClampNeg 1004) (2 : Int32).toNatClampNeg 0))) := (hkp.2 w8 hltw8 hnAw8).trans hw8
  have hltw8 : w8 < H.size := Nat.lt_of_lt_of_le hltw8 hkp.1
  refine lv_sipush (v := 2000) hx hb dL_law_469 (by decide) ?_
  refine lv_icmp_ne (tgt := 496) hx hb dL_law_472 (by decide) (fun c_ => (c_ (rfl)).elim) (fun _ => ?_)
  refine lv_aload_n hx hb dL_law_475 rfl (lv_at hl 7 rfl) ?_
  refine lv_iconst (v := 2) hx hb dL_law_476 (by decide) ?_
  refine lv_iconst (v := 3) hx hb dL_law_477 (by decide) ?_
  refine zl_d (As := [.int 2, .int 3]) (rest := []) Fr hst hl.1 (kc_z (kc_action (x := 2) (y := 3) hst.2.1 (zj_jr rfl) (zj_jr rfl)) (z3.2.2.1)) zl_action rfl rfl ⟨Nat.le_of_ble_eq_true rfl, rfl⟩ (Nat.le_of_ble_eq_true rfl) (by decide) hcc hss dL_law_478 (fun H locs hst hkp => ?_)
  refine zj_top (y := 3000) (by decide) ?_
  have hw7 : H[w7]? = some (vp_cell cIw7 (3, .inl (upd (upd (upd (fun _ => 0) (0 : Int32).toNatClampNeg 2000) (1 : Int32).toNatClampNeg 1003) (2 : Int32).toNatClampNeg 0))) := (hkp.2 w7 hltw7 hnAw7).trans hw7
  have hltw7 : w7 < H.size := Nat.lt_of_lt_of_le hltw7 hkp.1
  have hw8 : H[w8]? = some (vp_cell cIw8 (3, .inl (upd (upd (upd (fun _ => 0) (0 : Int32).toNatClampNeg 2001) (1 : Int32).toNatClampNeg 1004) (2 : Int32).toNatClampNeg 0))) := (hkp.2 w8 hltw8 hnAw8).trans hw8
  have hltw8 : w8 < H.size := Nat.lt_of_lt_of_le hltw8 hkp.1
  refine lv_sipush (v := 3000) hx hb dL_law_481 (by decide) ?_
  refine lv_icmp_ne (tgt := 496) hx hb dL_law_484 (by decide) (fun c_ => (c_ (rfl)).elim) (fun _ => ?_)
  refine lv_aload_n hx hb dL_law_487 rfl (lv_at hl 7 rfl) ?_
  refine lv_iconst (v := 1) hx hb dL_law_488 (by decide) ?_
  refine lv_iconst (v := 2) hx hb dL_law_489 (by decide) ?_
  refine zl_d (As := [.int 1, .int 2]) (rest := []) Fr hst hl.1 (kc_z (kc_action (x := 1) (y := 2) hst.2.1 (zj_jr rfl) (zj_jr rfl)) (z3.2.2.2)) zl_action rfl rfl ⟨Nat.le_of_ble_eq_true rfl, rfl⟩ (Nat.le_of_ble_eq_true rfl) (by decide) hcc hss dL_law_490 (fun H locs hst hkp => ?_)
  refine zj_top (y := 0) (by decide) ?_
  have hw7 : H[w7]? = some (vp_cell cIw7 (3, .inl (upd (upd (upd (fun _ => 0) (0 : Int32).toNatClampNeg 2000) (1 : Int32).toNatClampNeg 1003) (2 : Int32).toNatClampNeg 0))) := (hkp.2 w7 hltw7 hnAw7).trans hw7
  have hltw7 : w7 < H.size := Nat.lt_of_lt_of_le hltw7 hkp.1
  have hw8 : H[w8]? = some (vp_cell cIw8 (3, .inl (upd (upd (upd (fun _ => 0) (0 : Int32).toNatClampNeg 2001) (1 : Int32).toNatClampNeg 1004) (2 : Int32).toNatClampNeg 0))) := (hkp.2 w8 hltw8 hnAw8).trans hw8
  have hltw8 : w8 < H.size := Nat.lt_of_lt_of_le hltw8 hkp.1
  refine lv_if_eq (tgt := 498) hx hb dL_law_493 (by decide) (fun _ => ?_) (fun c_ => (c_ (by decide)).elim)
  exact kk H locs ls hst (lv_sub hl [2, 3, 4, 5, 6, 7, 8] rfl)
end LW3
