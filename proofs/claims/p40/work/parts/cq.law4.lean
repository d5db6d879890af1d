/-! THE LAW, 4: rows are read -/
section LW4
variable {p : Program} {l : Launch} {e : Env} {s : State} {m : MethodId} {args : Array Value} {below : List Frame} {meth : Method} {c : Code} {H : Heap} {locs : List Loc} {cells slots : Nat} {Q : State → Prop}
variable {x : Jvm.Cond} {B t b q6 : Nat} {cA : Nat → ClassId} {D : va_G} {ls : Array Slot}
variable {T cn : Nat} {g : gM} {K : kr_K} {rd tk im F P fed : Int} {Nn : kn_N} {hh : kz_H} {I : kr_K × Int × Int} {B0 : Nat → Int} {lo h pl mu : Nat}
set_option maxHeartbeats 4000000 in
set_option maxRecDepth 100000 in
theorem zw_6 (Fr : zl_Fr p s m args c x B t cA D) (hW : jn_GW g) (hI : zz_I g zg_1_d) (hR : zz_R g 3 [1 + lo, 2 + lo + h, 0] [pl, mu, 0]) (hlo : lo < 4) (hh4 : h < 4) (hp3 : pl < 3) (hm3 : mu < 3) (hK0 : zt_K K [0]) (hcc : cells ≤ 600086) (hss : slots ≤ 7301442) (hst : zl_st s B t cA D ((T, g), (K, rd, tk), Nn, (cn, hh), (I, im), B0, F, P, fed) H locs) (hl : lv_has ls 9 [(6, .ref q6), (5, .int (Int32.ofNat (2 + lo + h))), (4, .int (Int32.ofNat (1 + lo))), (3, .int (Int32.ofNat mu)), (2, .int (Int32.ofNat pl)), (1, .ref B), (0, .ref b)])
    (kk : ∀ (H : Heap) (locs : List Loc) (ls : Array Slot) (K' : kr_K) (rd' tk' : Int) (c' : Nat) (hh' : kz_H), zt_K K' [1, 3, 2, 0] → zl_st s B t cA D ((T, g), (K', rd', tk'), Nn, (c', hh'), ((K', rd', tk'), 1), B0, F, P, fed) H locs → lv_has ls 9 [(6, .ref q6), (5, .int (Int32.ofNat (2 + lo + h))), (4, .int (Int32.ofNat (1 + lo))), (3, .int (Int32.ofNat mu)), (2, .int (Int32.ofNat pl)), (1, .ref B), (0, .ref b)] → W p l e room_1 s m args below meth c H locs cells slots Q (F0 m 541 ls [])) :
    W p l e room_1 s m args below meth c H locs cells slots Q (F0 m 498 ls []) := by
  have hx := Fr.1
  have hb := Fr.2.1
  have hH := zv_2H hW hI hR hlo hh4 hp3 hm3
  have r := zr_rows pl hp3 mu hm3
  refine lv_aload_n hx hb dL_law_498 rfl (lv_at hl 5 rfl) ?_
  refine lv_iconst (v := 2) hx hb dL_law_499 (by decide) ?_
  obtain ⟨K1, hT1, hK1⟩ := zt_some hH (t := 2) (by decide) hK0 (r.1.1.1)
  refine zl_d (As := [.int 2]) (rest := []) Fr hst hl.1 (kc_read hst.2.1 (zj_jr rfl) (zv_may hH (by decide) (t := 2) (by decide)) hT1) zl_read rfl rfl ⟨Nat.le_of_ble_eq_true rfl, rfl⟩ (Nat.le_of_ble_eq_true rfl) (by decide) hcc hss dL_law_500 (fun H locs hst hkp => ?_)
  refine zj_top (y := 0) (by decide) ?_
  refine lv_if_ne (tgt := 716) hx hb dL_law_503 (by decide) (fun c_ => (c_ (by decide)).elim) (fun _ => ?_)
  refine lv_aload_n hx hb dL_law_506 rfl (lv_at hl 5 rfl) ?_
  refine lv_iconst (v := 0) hx hb dL_law_507 (by decide) ?_
  obtain ⟨K2, hT2, hK2⟩ := zt_some hH (t := 0) (by decide) hK1 (r.1.1.2.1)
  refine zl_d (As := [.int 0]) (rest := []) Fr hst hl.1 (kc_read hst.2.1 (zj_jr rfl) (zv_may hH (by decide) (t := 0) (by decide)) hT2) zl_read rfl rfl ⟨Nat.le_of_ble_eq_true rfl, rfl⟩ (Nat.le_of_ble_eq_true rfl) (by decide) hcc hss dL_law_508 (fun H locs hst hkp => ?_)
  refine zj_top (y := 1) (by decide) ?_
  refine lv_iconst (v := 1) hx hb dL_law_511 (by decide) ?_
  refine lv_icmp_ne (tgt := 716) hx hb dL_law_512 (by decide) (fun c_ => (c_ (rfl)).elim) (fun _ => ?_)
  refine lv_aload_n hx hb dL_law_515 rfl (lv_at hl 5 rfl) ?_
  refine lv_iconst (v := 2) hx hb dL_law_516 (by decide) ?_
  obtain ⟨K3, hT3, hK3⟩ := zt_some hH (t := 2) (by decide) hK2 (r.1.1.2.2)
  refine zl_d (As := [.int 2]) (rest := []) Fr hst hl.1 (kc_read hst.2.1 (zj_jr rfl) (zv_may hH (by decide) (t := 2) (by decide)) hT3) zl_read rfl rfl ⟨Nat.le_of_ble_eq_true rfl, rfl⟩ (Nat.le_of_ble_eq_true rfl) (by decide) hcc hss dL_law_517 (fun H locs hst hkp => ?_)
  refine zj_top (y := 0) (by decide) ?_
  refine lv_if_ne (tgt := 716) hx hb dL_law_520 (by decide) (fun c_ => (c_ (by decide)).elim) (fun _ => ?_)
  refine lv_aload_n hx hb dL_law_523 rfl (lv_at hl 5 rfl) ?_
  refine lv_bipush (v := 9) hx hb dL_law_524 (by decide) ?_
  refine zl_d (As := [.int 9]) (rest := []) Fr hst hl.1 (kc_z (kc_count (x := 9) hst.2.1 (zj_jr rfl)) (kv_c9.trans (by rw [hK3.1] <;> rfl))) zl_count rfl rfl ⟨Nat.le_of_ble_eq_true rfl, rfl⟩ (Nat.le_of_ble_eq_true rfl) (by decide) hcc hss dL_law_526 (fun H locs hst hkp => ?_)
  refine zj_top (y := 4) (by decide) ?_
  refine lv_iconst (v := 4) hx hb dL_law_529 (by decide) ?_
  refine lv_icmp_ne (tgt := 716) hx hb dL_law_530 (by decide) (fun c_ => (c_ (rfl)).elim) (fun _ => ?_)
  refine lv_aload_n hx hb dL_law_533 rfl (lv_at hl 5 rfl) ?_
  refine zl_d (As := []) (rest := []) Fr hst hl.1 (kc_z (kc_keep hst.2.1) (by rw [hK3.1] <;> rfl)) zl_keep rfl rfl ⟨Nat.le_of_ble_eq_true rfl, rfl⟩ (Nat.le_of_ble_eq_true rfl) (by decide) hcc hss dL_law_534 (fun H locs hst hkp => ?_)
  refine zj_top (y := 4) (by decide) ?_
  refine lv_iconst (v := 4) hx hb dL_law_537 (by decide) ?_
  refine lv_icmp_ne (tgt := 716) hx hb dL_law_538 (by decide) (fun c_ => (c_ (rfl)).elim) (fun _ => ?_)
  exact kk H locs ls K3 _ _ _ _ hK3 hst hl
set_option maxHeartbeats 4000000 in
set_option maxRecDepth 100000 in
theorem zw_7 (Fr : zl_Fr p s m args c x B t cA D) (hW : jn_GW g) (hI : zz_I g zg_1_d) (hR : zz_R g 3 [1 + lo, 2 + lo + h, 0] [pl, mu, 0]) (hlo : lo < 4) (hh4 : h < 4) (hp3 : pl < 3) (hm3 : mu < 3) (hK0 : zt_K K [1, 3, 2, 0]) (hcc : cells ≤ 600086) (hss : slots ≤ 7301442) (hst : zl_st s B t cA D ((T, g), (K, rd, tk), Nn, (cn, hh), ((K, rd, tk), 1), B0, F, P, fed) H locs) (hl : lv_has ls 9 [(6, .ref q6), (5, .int (Int32.ofNat (2 + lo + h))), (4, .int (Int32.ofNat (1 + lo))), (3, .int (Int32.ofNat mu)), (2, .int (Int32.ofNat pl)), (1, .ref B), (0, .ref b)])
    (kk : ∀ (H : Heap) (locs : List Loc) (ls : Array Slot) (hh' : kz_H), zl_st s B t cA D ((T, g), (K, rd, tk), Nn, (0, hh'), ((K, rd, tk), 1), B0, F, P, fed) H locs → lv_has ls 9 [(6, .ref q6), (5, .int (Int32.ofNat (2 + lo + h))), (4, .int (Int32.ofNat (1 + lo))), (3, .int (Int32.ofNat mu)), (2, .int (Int32.ofNat pl)), (1, .ref B), (0, .ref b)] → W p l e room_1 s m args below meth c H locs cells slots Q (F0 m 603 ls [])) :
    W p l e room_1 s m args below meth c H locs cells slots Q (F0 m 541 ls []) := by
  have hx := Fr.1
  have hb := Fr.2.1
  have hH := zv_2H hW hI hR hlo hh4 hp3 hm3
  have r := zr_rows pl hp3 mu hm3
  rcases (show pl = 0 ∨ pl = 1 ∨ pl = 2 by omega) with rfl | rfl | rfl
  · refine lv_aload_n hx hb dL_law_541 rfl (lv_at hl 5 rfl) ?_
    refine lv_iconst (v := 0) hx hb dL_law_542 (by decide) ?_
    obtain ⟨K1, hT1, hK1⟩ := zt_some hH (t := 0) (by decide) hK0 (r.1.2.1)
    refine zl_d (As := [.int 0]) (rest := []) Fr hst hl.1 (kc_read hst.2.1 (zj_jr rfl) (zv_may hH (by decide) (t := 0) (by decide)) hT1) zl_read rfl rfl ⟨Nat.le_of_ble_eq_true rfl, rfl⟩ (Nat.le_of_ble_eq_true rfl) (by decide) hcc hss dL_law_543 (fun H locs hst hkp => ?_)
    refine zj_top (y := 2) (by decide) ?_
    refine lv_iload_n hx hb dL_law_546 rfl (lv_at hl 4 rfl) ?_
    refine lv_if_ne (tgt := 554) hx hb dL_law_547 (by decide) (fun c_ => (c_ (by decide)).elim) (fun _ => ?_)
    refine lv_iconst (v := 2) hx hb dL_law_550 (by decide) ?_
    refine lv_goto (tgt := 565) hx hb dL_law_551 (by decide) ?_
    refine lv_icmp_ne (tgt := 716) hx hb dL_law_565 (by decide) (fun c_ => (c_ (by decide)).elim) (fun _ => ?_)
    refine lv_aload_n hx hb dL_law_568 rfl (lv_at hl 5 rfl) ?_
    refine lv_bipush (v := 9) hx hb dL_law_569 (by decide) ?_
    refine zl_d (As := [.int 9]) (rest := []) Fr hst hl.1 (kc_z (kc_count (x := 9) hst.2.1 (zj_jr rfl)) (kv_c9.trans (by rw [hK1.1] <;> rfl))) zl_count rfl rfl ⟨Nat.le_of_ble_eq_true rfl, rfl⟩ (Nat.le_of_ble_eq_true rfl) (by decide) hcc hss dL_law_571 (fun H locs hst hkp => ?_)
    refine zj_top (y := 3) (by decide) ?_
    refine lv_iload_n hx hb dL_law_574 rfl (lv_at hl 4 rfl) ?_
    refine lv_if_ne (tgt := 582) hx hb dL_law_575 (by decide) (fun c_ => (c_ (by decide)).elim) (fun _ => ?_)
    refine lv_iconst (v := 3) hx hb dL_law_578 (by decide) ?_
    refine lv_goto (tgt := 592) hx hb dL_law_579 (by decide) ?_
    refine lv_icmp_ne (tgt := 716) hx hb dL_law_592 (by decide) (fun c_ => (c_ (by decide)).elim) (fun _ => ?_)
    refine lv_aload_n hx hb dL_law_595 rfl (lv_at hl 5 rfl) ?_
    refine zl_d (As := []) (rest := []) Fr hst hl.1 (kc_z (kc_back hst.2.1 (by decide)) (by rw [hK0.1] <;> rfl)) zl_back rfl rfl ⟨Nat.le_of_ble_eq_true rfl, rfl⟩ (Nat.le_of_ble_eq_true rfl) (by decide) hcc hss dL_law_596 (fun H locs hst hkp => ?_)
    refine zj_top (y := 4) (by decide) ?_
    refine lv_iconst (v := 4) hx hb dL_law_599 (by decide) ?_
    refine lv_icmp_ne (tgt := 716) hx hb dL_law_600 (by decide) (fun c_ => (c_ (rfl)).elim) (fun _ => ?_)
    exact kk H locs ls _ hst hl
  · refine lv_aload_n hx hb dL_law_541 rfl (lv_at hl 5 rfl) ?_
    refine lv_iconst (v := 0) hx hb dL_law_542 (by decide) ?_
    obtain ⟨K1, hT1, hK1⟩ := zt_some hH (t := 0) (by decide) hK0 (r.1.2.1)
    refine zl_d (As := [.int 0]) (rest := []) Fr hst hl.1 (kc_read hst.2.1 (zj_jr rfl) (zv_may hH (by decide) (t := 0) (by decide)) hT1) zl_read rfl rfl ⟨Nat.le_of_ble_eq_true rfl, rfl⟩ (Nat.le_of_ble_eq_true rfl) (by decide) hcc hss dL_law_543 (fun H locs hst hkp => ?_)
    refine zj_top (y := 1) (by decide) ?_
    refine lv_iload_n hx hb dL_law_546 rfl (lv_at hl 4 rfl) ?_
    refine lv_if_ne (tgt := 554) hx hb dL_law_547 (by decide) (fun _ => ?_) (fun c_ => absurd c_ (by decide))
    refine lv_iload_n hx hb dL_law_554 rfl (lv_at hl 4 rfl) ?_
    refine lv_iconst (v := 1) hx hb dL_law_555 (by decide) ?_
    refine lv_icmp_ne (tgt := 563) hx hb dL_law_556 (by decide) (fun c_ => (c_ (by decide)).elim) (fun _ => ?_)
    refine lv_iconst (v := 1) hx hb dL_law_559 (by decide) ?_
    refine lv_goto (tgt := 565) hx hb dL_law_560 (by decide) ?_
    refine lv_icmp_ne (tgt := 716) hx hb dL_law_565 (by decide) (fun c_ => (c_ (by decide)).elim) (fun _ => ?_)
    refine lv_aload_n hx hb dL_law_568 rfl (lv_at hl 5 rfl) ?_
    refine lv_bipush (v := 9) hx hb dL_law_569 (by decide) ?_
    refine zl_d (As := [.int 9]) (rest := []) Fr hst hl.1 (kc_z (kc_count (x := 9) hst.2.1 (zj_jr rfl)) (kv_c9.trans (by rw [hK1.1] <;> rfl))) zl_count rfl rfl ⟨Nat.le_of_ble_eq_true rfl, rfl⟩ (Nat.le_of_ble_eq_true rfl) (by decide) hcc hss dL_law_571 (fun H locs hst hkp => ?_)
    refine zj_top (y := 5) (by decide) ?_
    refine lv_iload_n hx hb dL_law_574 rfl (lv_at hl 4 rfl) ?_
    refine lv_if_ne (tgt := 582) hx hb dL_law_575 (by decide) (fun _ => ?_) (fun c_ => absurd c_ (by decide))
    refine lv_iload_n hx hb dL_law_582 rfl (lv_at hl 4 rfl) ?_
    refine lv_iconst (v := 1) hx hb dL_law_583 (by decide) ?_
    refine lv_icmp_ne (tgt := 591) hx hb dL_law_584 (by decide) (fun c_ => (c_ (by decide)).elim) (fun _ => ?_)
    refine lv_iconst (v := 5) hx hb dL_law_587 (by decide) ?_
    refine lv_goto (tgt := 592) hx hb dL_law_588 (by decide) ?_
    refine lv_icmp_ne (tgt := 716) hx hb dL_law_592 (by decide) (fun c_ => (c_ (by decide)).elim) (fun _ => ?_)
    refine lv_aload_n hx hb dL_law_595 rfl (lv_at hl 5 rfl) ?_
    refine zl_d (As := []) (rest := []) Fr hst hl.1 (kc_z (kc_back hst.2.1 (by decide)) (by rw [hK0.1] <;> rfl)) zl_back rfl rfl ⟨Nat.le_of_ble_eq_true rfl, rfl⟩ (Nat.le_of_ble_eq_true rfl) (by decide) hcc hss dL_law_596 (fun H locs hst hkp => ?_)
    refine zj_top (y := 4) (by decide) ?_
    refine lv_iconst (v := 4) hx hb dL_law_599 (by decide) ?_
    refine lv_icmp_ne (tgt := 716) hx hb dL_law_600 (by decide) (fun c_ => (c_ (rfl)).elim) (fun _ => ?_)
    exact kk H locs ls _ hst hl
  · refine lv_aload_n hx hb dL_law_541 rfl (lv_at hl 5 rfl) ?_
    refine lv_iconst (v := 0) hx hb dL_law_542 (by decide) ?_
    have hN := zt_none hH (t := 0) (by decide) hK0 (r.1.2.1)
    refine zl_d (As := [.int 0]) (rest := []) Fr hst hl.1 (kc_noread hst.2.1 (zj_jr rfl) (zv_may hH (by decide) (t := 0) (by decide)) hN) zl_read rfl rfl ⟨Nat.le_of_ble_eq_true rfl, rfl⟩ (Nat.le_of_ble_eq_true rfl) (by decide) hcc hss dL_law_543 (fun H locs hst hkp => ?_)
    refine zj_top (y := (-2)) (by decide) ?_
    refine lv_iload_n hx hb dL_law_546 rfl (lv_at hl 4 rfl) ?_
    refine lv_if_ne (tgt := 554) hx hb dL_law_547 (by decide) (fun _ => ?_) (fun c_ => absurd c_ (by decide))
    refine lv_iload_n hx hb dL_law_554 rfl (lv_at hl 4 rfl) ?_
    refine lv_iconst (v := 1) hx hb dL_law_555 (by decide) ?_
    refine lv_icmp_ne (tgt := 563) hx hb dL_law_556 (by decide) (fun _ => ?_) (fun c_ => absurd c_ (by decide))
    refine lv_bipush (v := (-2)) hx hb dL_law_563 (by decide) ?_
    refine lv_icmp_ne (tgt := 716) hx hb dL_law_565 (by decide) (fun c_ => (c_ (by decide)).elim) (fun _ => ?_)
    refine lv_aload_n hx hb dL_law_568 rfl (lv_at hl 5 rfl) ?_
    refine lv_bipush (v := 9) hx hb dL_law_569 (by decide) ?_
    refine zl_d (As := [.int 9]) (rest := []) Fr hst hl.1 (kc_z (kc_count (x := 9) hst.2.1 (zj_jr rfl)) (kv_c9.trans (by rw [hK0.1] <;> rfl))) zl_count rfl rfl ⟨Nat.le_of_ble_eq_true rfl, rfl⟩ (Nat.le_of_ble_eq_true rfl) (by decide) hcc hss dL_law_571 (fun H locs hst hkp => ?_)
    refine zj_top (y := 4) (by decide) ?_
    refine lv_iload_n hx hb dL_law_574 rfl (lv_at hl 4 rfl) ?_
    refine lv_if_ne (tgt := 582) hx hb dL_law_575 (by decide) (fun _ => ?_) (fun c_ => absurd c_ (by decide))
    refine lv_iload_n hx hb dL_law_582 rfl (lv_at hl 4 rfl) ?_
    refine lv_iconst (v := 1) hx hb dL_law_583 (by decide) ?_
    refine lv_icmp_ne (tgt := 591) hx hb dL_law_584 (by decide) (fun _ => ?_) (fun c_ => absurd c_ (by decide))
    refine lv_iconst (v := 4) hx hb dL_law_591 (by decide) ?_
    refine lv_icmp_ne (tgt := 716) hx hb dL_law_592 (by decide) (fun c_ => (c_ (by decide)).elim) (fun _ => ?_)
    refine lv_aload_n hx hb dL_law_595 rfl (lv_at hl 5 rfl) ?_
    refine zl_d (As := []) (rest := []) Fr hst hl.1 (kc_z (kc_back hst.2.1 (by decide)) (by rw [hK0.1] <;> rfl)) zl_back rfl rfl ⟨Nat.le_of_ble_eq_true rfl, rfl⟩ (Nat.le_of_ble_eq_true rfl) (by decide) hcc hss dL_law_596 (fun H locs hst hkp => ?_)
    refine zj_top (y := 4) (by decide) ?_
    refine lv_iconst (v := 4) hx hb dL_law_599 (by decide) ?_
    refine lv_icmp_ne (tgt := 716) hx hb dL_law_600 (by decide) (fun c_ => (c_ (rfl)).elim) (fun _ => ?_)
    exact kk H locs ls _ hst hl
set_option maxHeartbeats 4000000 in
set_option maxRecDepth 100000 in
theorem zw_8 (Fr : zl_Fr p s m args c x B t cA D) (hW : jn_GW g) (hI : zz_I g zg_1_d) (hR : zz_R g 3 [1 + lo, 2 + lo + h, 0] [pl, mu, 0]) (hlo : lo < 4) (hh4 : h < 4) (hp3 : pl < 3) (hm3 : mu < 3) (hK0 : zt_K K [1, 3, 2, 0]) (hcc : cells ≤ 600086) (hss : slots ≤ 7301442) (hst : zl_st s B t cA D ((T, g), (K, rd, tk), Nn, (0, hh), (I, im), B0, F, P, fed) H locs) (hl : lv_has ls 9 [(6, .ref q6), (5, .int (Int32.ofNat (2 + lo + h))), (4, .int (Int32.ofNat (1 + lo))), (3, .int (Int32.ofNat mu)), (2, .int (Int32.ofNat pl)), (1, .ref B), (0, .ref b)])
    (kk : ∀ (H : Heap) (locs : List Loc) (ls : Array Slot) (K' : kr_K) (rd' tk' : Int) (hh' : kz_H), zt_K K' [1, 4, 5, 3, 2, 0] → zl_st s B t cA D ((T, g), (K', rd', tk'), Nn, (2, hh'), (I, im), B0, F, P, fed) H locs → lv_has ls 9 [(6, .ref q6), (5, .int (Int32.ofNat (2 + lo + h))), (4, .int (Int32.ofNat (1 + lo))), (3, .int (Int32.ofNat mu)), (2, .int (Int32.ofNat pl)), (1, .ref B), (0, .ref b)] → W p l e room_1 s m args below meth c H locs cells slots Q (F0 m 638 ls [])) :
    W p l e room_1 s m args below meth c H locs cells slots Q (F0 m 603 ls []) := by
  have hx := Fr.1
  have hb := Fr.2.1
  have hH := zv_2H hW hI hR hlo hh4 hp3 hm3
  have r := zr_rows pl hp3 mu hm3
  refine lv_aload_n hx hb dL_law_603 rfl (lv_at hl 5 rfl) ?_
  refine lv_iconst (v := 1) hx hb dL_law_604 (by decide) ?_
  obtain ⟨K1, hT1, hK1⟩ := zt_some hH (t := 1) (by decide) hK0 (r.1.2.2.1)
  refine zl_d (As := [.int 1]) (rest := []) Fr hst hl.1 (kc_read hst.2.1 (zj_jr rfl) (zv_may hH (by decide) (t := 1) (by decide)) hT1) zl_read rfl rfl ⟨Nat.le_of_ble_eq_true rfl, rfl⟩ (Nat.le_of_ble_eq_true rfl) (by decide) hcc hss dL_law_605 (fun H locs hst hkp => ?_)
  refine zj_top (y := 1) (by decide) ?_
  refine lv_iconst (v := 1) hx hb dL_law_608 (by decide) ?_
  refine lv_icmp_ne (tgt := 716) hx hb dL_law_609 (by decide) (fun c_ => (c_ (rfl)).elim) (fun _ => ?_)
  refine lv_aload_n hx hb dL_law_612 rfl (lv_at hl 5 rfl) ?_
  refine lv_bipush (v := 9) hx hb dL_law_613 (by decide) ?_
  refine zl_d (As := [.int 9]) (rest := []) Fr hst hl.1 (kc_z (kc_count (x := 9) hst.2.1 (zj_jr rfl)) (kv_c9.trans (by rw [hK1.1] <;> rfl))) zl_count rfl rfl ⟨Nat.le_of_ble_eq_true rfl, rfl⟩ (Nat.le_of_ble_eq_true rfl) (by decide) hcc hss dL_law_615 (fun H locs hst hkp => ?_)
  refine zj_top (y := 5) (by decide) ?_
  refine lv_iconst (v := 5) hx hb dL_law_618 (by decide) ?_
  refine lv_icmp_ne (tgt := 716) hx hb dL_law_619 (by decide) (fun c_ => (c_ (rfl)).elim) (fun _ => ?_)
  refine lv_aload_n hx hb dL_law_622 rfl (lv_at hl 5 rfl) ?_
  refine lv_iconst (v := 2) hx hb dL_law_623 (by decide) ?_
  obtain ⟨K2, hT2, hK2⟩ := zt_some hH (t := 2) (by decide) hK1 (r.1.2.2.2)
  refine zl_d (As := [.int 2]) (rest := []) Fr hst hl.1 (kc_read hst.2.1 (zj_jr rfl) (zv_may hH (by decide) (t := 2) (by decide)) hT2) zl_read rfl rfl ⟨Nat.le_of_ble_eq_true rfl, rfl⟩ (Nat.le_of_ble_eq_true rfl) (by decide) hcc hss dL_law_624 (fun H locs hst hkp => ?_)
  refine zj_top (y := 0) (by decide) ?_
  refine lv_if_ne (tgt := 716) hx hb dL_law_627 (by decide) (fun c_ => (c_ (by decide)).elim) (fun _ => ?_)
  refine lv_aload_n hx hb dL_law_630 rfl (lv_at hl 5 rfl) ?_
  refine zl_d (As := []) (rest := []) Fr hst hl.1 (kc_z (kc_whole hst.2.1) (zv_whole hH (by decide) hK2 (b := true) r.2.1)) zl_whole rfl rfl ⟨Nat.le_of_ble_eq_true rfl, rfl⟩ (Nat.le_of_ble_eq_true rfl) (by decide) hcc hss dL_law_631 (fun H locs hst hkp => ?_)
  refine zj_top (y := 1) (by decide) ?_
  refine lv_iconst (v := 1) hx hb dL_law_634 (by decide) ?_
  refine lv_icmp_ne (tgt := 716) hx hb dL_law_635 (by decide) (fun c_ => (c_ (rfl)).elim) (fun _ => ?_)
  exact kk H locs ls K2 _ _ _ hK2 hst hl
set_option maxHeartbeats 4000000 in
set_option maxRecDepth 100000 in
theorem zw_9 (Fr : zl_Fr p s m args c x B t cA D) (hW : jn_GW g) (hI : zz_I g zg_1_d) (hR : zz_R g 3 [1 + lo, 2 + lo + h, 0] [pl, mu, 0]) (hlo : lo < 4) (hh4 : h < 4) (hp3 : pl < 3) (hm3 : mu < 3) (hK0 : zt_K K [1, 4, 5, 3, 2, 0]) (hcc : cells ≤ 600086) (hss : slots ≤ 7301442) (hst : zl_st s B t cA D ((T, g), (K, rd, tk), Nn, (2, hh), (I, im), B0, F, P, fed) H locs) (hl : lv_has ls 9 [(6, .ref q6), (5, .int (Int32.ofNat (2 + lo + h))), (4, .int (Int32.ofNat (1 + lo))), (3, .int (Int32.ofNat mu)), (2, .int (Int32.ofNat pl)), (1, .ref B), (0, .ref b)])
    (kk : ∀ (H : Heap) (locs : List Loc) (ls : Array Slot) (hh' : kz_H), zl_st s B t cA D ((T, g), (K, rd, tk), Nn, (2, hh'), (I, im), B0, F, P, fed) H locs → lv_has ls 9 [(6, .ref q6), (5, .int (Int32.ofNat (2 + lo + h))), (4, .int (Int32.ofNat (1 + lo))), (3, .int (Int32.ofNat mu)), (2, .int (Int32.ofNat pl)), (1, .ref B), (0, .ref b)] → W p l e room_1 s m args below meth c H locs cells slots Q (F0 m 689 ls [])) :
    W p l e room_1 s m args below meth c H locs cells slots Q (F0 m 638 ls []) := by
  have hx := Fr.1
  have hb := Fr.2.1
  have hH := zv_2H hW hI hR hlo hh4 hp3 hm3
  have r := zr_rows pl hp3 mu hm3
  rcases (show mu = 0 ∨ mu = 1 ∨ mu = 2 by omega) with rfl | rfl | rfl
  · refine lv_aload_n hx hb dL_law_638 rfl (lv_at hl 5 rfl) ?_
    refine lv_iconst (v := 1) hx hb dL_law_639 (by decide) ?_
    obtain ⟨K1, hT1, hK1⟩ := zt_some hH (t := 1) (by decide) hK0 (r.2.2.1)
    refine zl_d (As := [.int 1]) (rest := []) Fr hst hl.1 (kc_read hst.2.1 (zj_jr rfl) (zv_may hH (by decide) (t := 1) (by decide)) hT1) zl_read rfl rfl ⟨Nat.le_of_ble_eq_true rfl, rfl⟩ (Nat.le_of_ble_eq_true rfl) (by decide) hcc hss dL_law_640 (fun H locs hst hkp => ?_)
    refine zj_top (y := 2) (by decide) ?_
    refine lv_iload_n hx hb dL_law_643 rfl (lv_at hl 3 rfl) ?_
    refine lv_if_ne (tgt := 651) hx hb dL_law_644 (by decide) (fun c_ => (c_ (by decide)).elim) (fun _ => ?_)
    refine lv_iconst (v := 2) hx hb dL_law_647 (by decide) ?_
    refine lv_goto (tgt := 662) hx hb dL_law_648 (by decide) ?_
    refine lv_icmp_ne (tgt := 716) hx hb dL_law_662 (by decide) (fun c_ => (c_ (by decide)).elim) (fun _ => ?_)
    refine lv_iload_n hx hb dL_law_665 rfl (lv_at hl 3 rfl) ?_
    refine lv_iconst (v := 2) hx hb dL_law_666 (by decide) ?_
    refine lv_icmp_ge (tgt := 689) hx hb dL_law_667 (by decide) (fun c_ => absurd c_ (by decide)) (fun _ => ?_)
    refine lv_aload_n hx hb dL_law_670 rfl (lv_at hl 5 rfl) ?_
    refine zl_d (As := []) (rest := []) Fr hst hl.1 (kc_undo hst.2.1 (by decide)) zl_undo rfl rfl ⟨Nat.le_of_ble_eq_true rfl, rfl⟩ (Nat.le_of_ble_eq_true rfl) (by decide) hcc hss dL_law_671 (fun H locs hst hkp => ?_)
    refine zj_top (y := 2) (by decide) ?_
    have hst : zl_st s B t cA D ((T, g), (K, rd, tk), Nn, (2, kz_ph 2 hh (K, rd, tk)), (I, im), B0, F, P, fed) H locs := hst
    refine lv_iconst (v := 2) hx hb dL_law_674 (by decide) ?_
    refine lv_icmp_ne (tgt := 716) hx hb dL_law_675 (by decide) (fun c_ => (c_ (rfl)).elim) (fun _ => ?_)
    refine lv_aload_n hx hb dL_law_678 rfl (lv_at hl 5 rfl) ?_
    refine lv_bipush (v := 9) hx hb dL_law_679 (by decide) ?_
    refine zl_d (As := [.int 9]) (rest := []) Fr hst hl.1 (kc_z (kc_count (x := 9) hst.2.1 (zj_jr rfl)) (kv_c9.trans (by rw [hK0.1] <;> rfl))) zl_count rfl rfl ⟨Nat.le_of_ble_eq_true rfl, rfl⟩ (Nat.le_of_ble_eq_true rfl) (by decide) hcc hss dL_law_681 (fun H locs hst hkp => ?_)
    refine zj_top (y := 6) (by decide) ?_
    refine lv_bipush (v := 6) hx hb dL_law_684 (by decide) ?_
    refine lv_icmp_ne (tgt := 716) hx hb dL_law_686 (by decide) (fun c_ => (c_ (rfl)).elim) (fun _ => ?_)
    exact kk H locs ls _ hst hl
  · refine lv_aload_n hx hb dL_law_638 rfl (lv_at hl 5 rfl) ?_
    refine lv_iconst (v := 1) hx hb dL_law_639 (by decide) ?_
    obtain ⟨K1, hT1, hK1⟩ := zt_some hH (t := 1) (by decide) hK0 (r.2.2.1)
    refine zl_d (As := [.int 1]) (rest := []) Fr hst hl.1 (kc_read hst.2.1 (zj_jr rfl) (zv_may hH (by decide) (t := 1) (by decide)) hT1) zl_read rfl rfl ⟨Nat.le_of_ble_eq_true rfl, rfl⟩ (Nat.le_of_ble_eq_true rfl) (by decide) hcc hss dL_law_640 (fun H locs hst hkp => ?_)
    refine zj_top (y := 1) (by decide) ?_
    refine lv_iload_n hx hb dL_law_643 rfl (lv_at hl 3 rfl) ?_
    refine lv_if_ne (tgt := 651) hx hb dL_law_644 (by decide) (fun _ => ?_) (fun c_ => absurd c_ (by decide))
    refine lv_iload_n hx hb dL_law_651 rfl (lv_at hl 3 rfl) ?_
    refine lv_iconst (v := 1) hx hb dL_law_652 (by decide) ?_
    refine lv_icmp_ne (tgt := 660) hx hb dL_law_653 (by decide) (fun c_ => (c_ (by decide)).elim) (fun _ => ?_)
    refine lv_iconst (v := 1) hx hb dL_law_656 (by decide) ?_
    refine lv_goto (tgt := 662) hx hb dL_law_657 (by decide) ?_
    refine lv_icmp_ne (tgt := 716) hx hb dL_law_662 (by decide) (fun c_ => (c_ (by decide)).elim) (fun _ => ?_)
    refine lv_iload_n hx hb dL_law_665 rfl (lv_at hl 3 rfl) ?_
    refine lv_iconst (v := 2) hx hb dL_law_666 (by decide) ?_
    refine lv_icmp_ge (tgt := 689) hx hb dL_law_667 (by decide) (fun c_ => absurd c_ (by decide)) (fun _ => ?_)
    refine lv_aload_n hx hb dL_law_670 rfl (lv_at hl 5 rfl) ?_
    refine zl_d (As := []) (rest := []) Fr hst hl.1 (kc_undo hst.2.1 (by decide)) zl_undo rfl rfl ⟨Nat.le_of_ble_eq_true rfl, rfl⟩ (Nat.le_of_ble_eq_true rfl) (by decide) hcc hss dL_law_671 (fun H locs hst hkp => ?_)
    refine zj_top (y := 2) (by decide) ?_
    have hst : zl_st s B t cA D ((T, g), (K, rd, tk), Nn, (2, kz_ph 2 hh (K, rd, tk)), (I, im), B0, F, P, fed) H locs := hst
    refine lv_iconst (v := 2) hx hb dL_law_674 (by decide) ?_
    refine lv_icmp_ne (tgt := 716) hx hb dL_law_675 (by decide) (fun c_ => (c_ (rfl)).elim) (fun _ => ?_)
    refine lv_aload_n hx hb dL_law_678 rfl (lv_at hl 5 rfl) ?_
    refine lv_bipush (v := 9) hx hb dL_law_679 (by decide) ?_
    refine zl_d (As := [.int 9]) (rest := []) Fr hst hl.1 (kc_z (kc_count (x := 9) hst.2.1 (zj_jr rfl)) (kv_c9.trans (by rw [hK0.1] <;> rfl))) zl_count rfl rfl ⟨Nat.le_of_ble_eq_true rfl, rfl⟩ (Nat.le_of_ble_eq_true rfl) (by decide) hcc hss dL_law_681 (fun H locs hst hkp => ?_)
    refine zj_top (y := 6) (by decide) ?_
    refine lv_bipush (v := 6) hx hb dL_law_684 (by decide) ?_
    refine lv_icmp_ne (tgt := 716) hx hb dL_law_686 (by decide) (fun c_ => (c_ (rfl)).elim) (fun _ => ?_)
    exact kk H locs ls _ hst hl
  · refine lv_aload_n hx hb dL_law_638 rfl (lv_at hl 5 rfl) ?_
    refine lv_iconst (v := 1) hx hb dL_law_639 (by decide) ?_
    have hN := zt_none hH (t := 1) (by decide) hK0 (r.2.2.1)
    refine zl_d (As := [.int 1]) (rest := []) Fr hst hl.1 (kc_noread hst.2.1 (zj_jr rfl) (zv_may hH (by decide) (t := 1) (by decide)) hN) zl_read rfl rfl ⟨Nat.le_of_ble_eq_true rfl, rfl⟩ (Nat.le_of_ble_eq_true rfl) (by decide) hcc hss dL_law_640 (fun H locs hst hkp => ?_)
    refine zj_top (y := (-2)) (by decide) ?_
    refine lv_iload_n hx hb dL_law_643 rfl (lv_at hl 3 rfl) ?_
    refine lv_if_ne (tgt := 651) hx hb dL_law_644 (by decide) (fun _ => ?_) (fun c_ => absurd c_ (by decide))
    refine lv_iload_n hx hb dL_law_651 rfl (lv_at hl 3 rfl) ?_
    refine lv_iconst (v := 1) hx hb dL_law_652 (by decide) ?_
    refine lv_icmp_ne (tgt := 660) hx hb dL_law_653 (by decide) (fun _ => ?_) (fun c_ => absurd c_ (by decide))
    refine lv_bipush (v := (-2)) hx hb dL_law_660 (by decide) ?_
    refine lv_icmp_ne (tgt := 716) hx hb dL_law_662 (by decide) (fun c_ => (c_ (by decide)).elim) (fun _ => ?_)
    refine lv_iload_n hx hb dL_law_665 rfl (lv_at hl 3 rfl) ?_
    refine lv_iconst (v := 2) hx hb dL_law_666 (by decide) ?_
    refine lv_icmp_ge (tgt := 689) hx hb dL_law_667 (by decide) (fun _ => ?_) (fun c_ => (c_ (by decide)).elim)
    exact kk H locs ls _ hst hl
set_option maxHeartbeats 4000000 in
set_option maxRecDepth 100000 in
theorem zw_10 (Fr : zl_Fr p s m args c x B t cA D) (hW : jn_GW g) (hI : zz_I g zg_1_d) (hR : zz_R g 3 [1 + lo, 2 + lo + h, 0] [pl, mu, 0]) (hlo : lo < 4) (hh4 : h < 4) (hp3 : pl < 3) (hm3 : mu < 3) (hK0 : zt_K K [1, 4, 5, 3, 2, 0]) (hcc : cells ≤ 600086) (hss : slots ≤ 7301442) (hst : zl_st s B t cA D ((T, g), (K, rd, tk), Nn, (cn, hh), (I, im), B0, F, P, fed) H locs) (hl : lv_has ls 9 [(6, .ref q6), (5, .int (Int32.ofNat (2 + lo + h))), (4, .int (Int32.ofNat (1 + lo))), (3, .int (Int32.ofNat mu)), (2, .int (Int32.ofNat pl)), (1, .ref B), (0, .ref b)])
    (kk : ∀ (H : Heap) (locs : List Loc) (ls : Array Slot) (K' : kr_K) (rd' tk' : Int) (c' : Nat) (hh' : kz_H), zl_st s B t cA D ((T, g), (K', rd', tk'), Nn, (c', hh'), (I, im), B0, F, P, fed) H locs → lv_has ls 9 [(6, .ref q6), (5, .int (Int32.ofNat (2 + lo + h))), (4, .int (Int32.ofNat (1 + lo))), (3, .int (Int32.ofNat mu)), (2, .int (Int32.ofNat pl)), (1, .ref B), (0, .ref b)] → W p l e room_1 s m args below meth c H locs cells slots Q (F0 m 718 ls [])) :
    W p l e room_1 s m args below meth c H locs cells slots Q (F0 m 689 ls []) := by
  have hx := Fr.1
  have hb := Fr.2.1
  have hH := zv_2H hW hI hR hlo hh4 hp3 hm3
  have r := zr_rows pl hp3 mu hm3
  rcases (show pl = 0 ∨ pl = 1 ∨ pl = 2 by omega) with rfl | rfl | rfl
  · refine lv_aload_n hx hb dL_law_689 rfl (lv_at hl 5 rfl) ?_
    refine lv_iconst (v := 0) hx hb dL_law_690 (by decide) ?_
    obtain ⟨K1, hT1, hK1⟩ := zt_some hH (t := 0) (by decide) hK0 (r.2.2.2)
    refine zl_d (As := [.int 0]) (rest := []) Fr hst hl.1 (kc_read hst.2.1 (zj_jr rfl) (zv_may hH (by decide) (t := 0) (by decide)) hT1) zl_read rfl rfl ⟨Nat.le_of_ble_eq_true rfl, rfl⟩ (Nat.le_of_ble_eq_true rfl) (by decide) hcc hss dL_law_691 (fun H locs hst hkp => ?_)
    refine zj_top (y := 3) (by decide) ?_
    refine lv_iload_n hx hb dL_law_694 rfl (lv_at hl 4 rfl) ?_
    refine lv_if_ne (tgt := 702) hx hb dL_law_695 (by decide) (fun c_ => (c_ (by decide)).elim) (fun _ => ?_)
    refine lv_iconst (v := 3) hx hb dL_law_698 (by decide) ?_
    refine lv_goto (tgt := 713) hx hb dL_law_699 (by decide) ?_
    refine lv_icmp_eq (tgt := 718) hx hb dL_law_713 (by decide) (fun _ => ?_) (fun c_ => (c_ (by decide)).elim)
    exact kk H locs ls _ _ _ _ _ hst hl
  · refine lv_aload_n hx hb dL_law_689 rfl (lv_at hl 5 rfl) ?_
    refine lv_iconst (v := 0) hx hb dL_law_690 (by decide) ?_
    obtain ⟨K1, hT1, hK1⟩ := zt_some hH (t := 0) (by decide) hK0 (r.2.2.2)
    refine zl_d (As := [.int 0]) (rest := []) Fr hst hl.1 (kc_read hst.2.1 (zj_jr rfl) (zv_may hH (by decide) (t := 0) (by decide)) hT1) zl_read rfl rfl ⟨Nat.le_of_ble_eq_true rfl, rfl⟩ (Nat.le_of_ble_eq_true rfl) (by decide) hcc hss dL_law_691 (fun H locs hst hkp => ?_)
    refine zj_top (y := 2) (by decide) ?_
    refine lv_iload_n hx hb dL_law_694 rfl (lv_at hl 4 rfl) ?_
    refine lv_if_ne (tgt := 702) hx hb dL_law_695 (by decide) (fun _ => ?_) (fun c_ => absurd c_ (by decide))
    refine lv_iload_n hx hb dL_law_702 rfl (lv_at hl 4 rfl) ?_
    refine lv_iconst (v := 1) hx hb dL_law_703 (by decide) ?_
    refine lv_icmp_ne (tgt := 711) hx hb dL_law_704 (by decide) (fun c_ => (c_ (by decide)).elim) (fun _ => ?_)
    refine lv_iconst (v := 2) hx hb dL_law_707 (by decide) ?_
    refine lv_goto (tgt := 713) hx hb dL_law_708 (by decide) ?_
    refine lv_icmp_eq (tgt := 718) hx hb dL_law_713 (by decide) (fun _ => ?_) (fun c_ => (c_ (by decide)).elim)
    exact kk H locs ls _ _ _ _ _ hst hl
  · refine lv_aload_n hx hb dL_law_689 rfl (lv_at hl 5 rfl) ?_
    refine lv_iconst (v := 0) hx hb dL_law_690 (by decide) ?_
    have hN := zt_none hH (t := 0) (by decide) hK0 (r.2.2.2)
    refine zl_d (As := [.int 0]) (rest := []) Fr hst hl.1 (kc_noread hst.2.1 (zj_jr rfl) (zv_may hH (by decide) (t := 0) (by decide)) hN) zl_read rfl rfl ⟨Nat.le_of_ble_eq_true rfl, rfl⟩ (Nat.le_of_ble_eq_true rfl) (by decide) hcc hss dL_law_691 (fun H locs hst hkp => ?_)
    refine zj_top (y := (-2)) (by decide) ?_
    refine lv_iload_n hx hb dL_law_694 rfl (lv_at hl 4 rfl) ?_
    refine lv_if_ne (tgt := 702) hx hb dL_law_695 (by decide) (fun _ => ?_) (fun c_ => absurd c_ (by decide))
    refine lv_iload_n hx hb dL_law_702 rfl (lv_at hl 4 rfl) ?_
    refine lv_iconst (v := 1) hx hb dL_law_703 (by decide) ?_
    refine lv_icmp_ne (tgt := 711) hx hb dL_law_704 (by decide) (fun _ => ?_) (fun c_ => absurd c_ (by decide))
    refine lv_bipush (v := (-2)) hx hb dL_law_711 (by decide) ?_
    refine lv_icmp_eq (tgt := 718) hx hb dL_law_713 (by decide) (fun _ => ?_) (fun c_ => (c_ (by decide)).elim)
    exact kk H locs ls _ _ _ _ _ hst hl
end LW4
