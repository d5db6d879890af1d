/-! THE LAW'S LOOP -/
theorem lk_63 (x : Int32) : ∃ k : Nat, k < 64 ∧ (x &&& 63).toInt = (k : Int) := by
  have h1 : (x &&& 63).toBitVec.toNat = x.toBitVec.toNat &&& 63 := by
    show (x.toBitVec &&& (63 : Int32).toBitVec).toNat = _
    rw [BitVec.toNat_and]
    rfl
  have h2 : x.toBitVec.toNat &&& 63 ≤ 63 := Nat.and_le_right
  exact ⟨x.toBitVec.toNat &&& 63, by omega, jb_toI h1 (by omega)⟩
theorem lk_lt {L iv : Nat} (hL : L ≤ 3072) (hi : iv ≤ 4000) : Int32.ofNat L - 6 < nI iv ↔ L < iv + 6 := by
  have e1 : Int32.ofNat L - 6 = Int32.ofInt ((L : Int) - 6) := by
    rw [Int32.ofInt_sub]
    rfl
  have e2 : nI iv = Int32.ofInt (iv : Int) := rfl
  rw [e1, e2, jg_lt32, jg_wr_id (by omega), jg_wr_id (by omega)]
  omega
theorem lk_ar {a n : Nat} (h : a + 1000 * (n + 1) ≤ 601024) : a + 1000 ≤ 601024 := by
  rw [Nat.mul_add] at h
  exact Nat.le_trans (Nat.add_le_add_left (Nat.le_add_left _ _) _) h
theorem lk_as2 {a n : Nat} (h : a + 14000 * (n + 1) ≤ 7293034) : a + 14000 ≤ 7293034 := by
  rw [Nat.mul_add] at h
  exact Nat.le_trans (Nat.add_le_add_left (Nat.le_add_left _ _) _) h
section LKD
variable {p : Program} {l : Launch} {e : Env} {s : State} {m : MethodId} {below : List Frame} {meth : Method} {c : Code} {b L t : Nat} {xs : Nat → Int32} {cA : Nat → ClassId} {D : va_G}
set_option maxRecDepth 20000 in
theorem lk_loop (C0 : lw_At p s m meth c b L xs) (hL : L ≤ 3072) (hK : mj_K s.heap.size t cA D s)
    (hKind : ∀ {H : Heap} {locs : List Loc} {cells slots iv : Nat} {ls : Array Slot} {σ : jg_M} {S : kx_S}, cells + 1000 ≤ 601024 → slots + 14000 ≤ 7293034 → iv + 6 ≤ L → lk_st s b iv t cA D S σ H locs ls → (∀ σ1 H1 locs1 ls1 cells1 slots1, cells1 ≤ cells + 1000 → slots1 ≤ slots + 14000 → lk_st s b iv t cA D S σ1 H1 locs1 ls1 → W p l e room_1 s m #[Value.ref b] below meth c H1 locs1 cells1 slots1 (lw_Z below #[Value.ref b] s) (F0 m 1368 ls1 [])) → W p l e room_1 s m #[Value.ref b] below meth c H locs cells slots (lw_Z below #[Value.ref b] s) (F0 m 389 ls [])) :
    ∀ (n iv : Nat), L ≤ iv + 6 * n + 5 → iv + 6 * n ≤ 3072 → ∀ (cells slots : Nat) (S : kx_S) (σ : jg_M) (H : Heap) (locs : List Loc) (ls : Array Slot), cells + 1000 * n ≤ 601024 → slots + 14000 * n ≤ 7293034 → lk_st s b iv t cA D S σ H locs ls → W p l e room_1 s m #[Value.ref b] below meth c H locs cells slots (lw_Z below #[Value.ref b] s) (F0 m 23 ls []) := by
  have hx := C0.1
  have hb := C0.2.1
  have hX := C0.2.2.2.2.2.2.1
  have hbl := C0.2.2.2.2.2.2.2.1
  have hbA : ¬ mj_A s.heap.size b := Nat.not_le.mpr hbl
  have hout : ∀ {cells slots : Nat} {H : Heap} {locs : List Loc} {ls : Array Slot}, cells ≤ 601024 → slots ≤ 7293034 → va_S (mj_A s.heap.size) s.heap H locs → W p l e room_1 s m #[Value.ref b] below meth c H locs cells slots (lw_Z below #[Value.ref b] s) (F0 m 1374 ls []) := fun hc1 hc2 hS => by
    refine lv_iconst (v := 1) hx hb (lk_dec (pc := 1374) (i := .iconst 1) (a := 0) (b := 0) (f := 0) (by decide +kernel)) rfl ?_
    refine va_forget (fun q hq => hS.2.2 q hq) ?_
    refine W.widen (k := 601024) (n := 7293034) hc1 hc2 ?_
    exact lw_ret hx hb C0.2.2.1 C0.2.2.2.2.2.2.2.2.1 (lk_dec (pc := 1375) (i := .ireturn) (a := 0) (b := 0) (f := 0) (by decide +kernel))
  intro n
  induction n with
  | zero =>
    intro iv h1 h2 cells slots S σ H locs ls hc1 hc2 hst
    obtain ⟨hkx, hH, hS, hls⟩ := id hst
    refine lv_iload hx hb (lk_dec (pc := 23) (i := .iload 4) (a := 0) (b := 0) (f := 0) (by decide +kernel)) (lv_at hls 4 rfl) ?_
    refine lv_aload_n hx hb (lk_dec (pc := 25) (i := .aload_n 0) (a := 0) (b := 0) (f := 0) (by decide +kernel)) rfl (lv_at hls 0 rfl) ?_
    refine va_slen hx hb hX hbl hbA hS (lk_dec (pc := 26) (i := .arraylength) (a := 0) (b := 0) (f := 0) (by decide +kernel)) ?_
    refine lv_bipush (v := 6) hx hb (lk_dec (pc := 27) (i := .bipush 6) (a := 0) (b := 0) (f := 0) (by decide +kernel)) (by decide) ?_
    refine lv_isub hx hb (lk_dec (pc := 29) (i := .isub) (a := 0) (b := 0) (f := 0) (by decide +kernel)) ?_
    refine lv_icmp_gt (tgt := 1374) hx hb (lk_dec (pc := 30) (i := .if_icmp .gt 1344) (a := 1374) (b := 0) (f := 0) (by decide +kernel)) (by decide) (fun _ => hout (by omega) (by omega) hS) (fun h => ?_)
    exact absurd ((lk_lt hL (by omega)).mpr (by omega)) h
  | succ n ih =>
    intro iv h1 h2 cells slots S σ H locs ls hc1 hc2 hst
    obtain ⟨hkx, hH, hS, hls⟩ := id hst
    refine lv_iload hx hb (lk_dec (pc := 23) (i := .iload 4) (a := 0) (b := 0) (f := 0) (by decide +kernel)) (lv_at hls 4 rfl) ?_
    refine lv_aload_n hx hb (lk_dec (pc := 25) (i := .aload_n 0) (a := 0) (b := 0) (f := 0) (by decide +kernel)) rfl (lv_at hls 0 rfl) ?_
    refine va_slen hx hb hX hbl hbA hS (lk_dec (pc := 26) (i := .arraylength) (a := 0) (b := 0) (f := 0) (by decide +kernel)) ?_
    refine lv_bipush (v := 6) hx hb (lk_dec (pc := 27) (i := .bipush 6) (a := 0) (b := 0) (f := 0) (by decide +kernel)) (by decide) ?_
    refine lv_isub hx hb (lk_dec (pc := 29) (i := .isub) (a := 0) (b := 0) (f := 0) (by decide +kernel)) ?_
    refine lv_icmp_gt (tgt := 1374) hx hb (lk_dec (pc := 30) (i := .if_icmp .gt 1344) (a := 1374) (b := 0) (f := 0) (by decide +kernel)) (by decide) (fun _ => hout (by omega) (by omega) hS) (fun h => ?_)
    have hiv : iv + 6 ≤ L := by
      rcases Nat.lt_or_ge L (iv + 6) with q | q
      · exact absurd ((lk_lt hL (by omega)).mpr q) h
      · exact q
    -- behind every case
    have nx : ∀ S' σ1 H1 locs1 ls1 cells1 slots1, cells1 ≤ cells + 1000 → slots1 ≤ slots + 14000 → lk_st s b iv t cA D S' σ1 H1 locs1 ls1 → W p l e room_1 s m #[Value.ref b] below meth c H1 locs1 cells1 slots1 (lw_Z below #[Value.ref b] s) (F0 m 1368 ls1 []) := by
      intro S' σ1 H1 locs1 ls1 cells1 slots1 k1 k2 hst1
      obtain ⟨hkx1, hH1, hS1, hls1⟩ := hst1
      refine lv_iinc (v := nI (iv + 6)) (lv' := [(4, .int (nI (iv + 6))), (0, .ref b), (1, .ref s.heap.size), (2, .ref (s.heap.size + 92)), (3, .ref (s.heap.size + 140))]) hx hb (lk_dec (pc := 1368) (i := .iinc 4 6) (a := 0) (b := 0) (f := 0) (by decide +kernel)) hls1 (k := 4) rfl (by rw [← nI_add]; rfl) (by decide) rfl (fun ls2 hl2 => ?_)
      refine lv_goto (tgt := 23) hx hb (lk_dec (pc := 1371) (i := .goto (-1348)) (a := 23) (b := 0) (f := 0) (by decide +kernel)) (by decide) ?_
      exact ih (iv + 6) (by omega) (by omega) cells1 slots1 S' σ1 H1 locs1 ls2 (by omega) (by omega) ⟨hkx1, hH1, hS1, lv_sub hl2 [1, 2, 3, 4, 0] rfl⟩
    have nx1 : ∀ S' σ1 H1 locs1, lk_st s b iv t cA D S' σ1 H1 locs1 ls → W p l e room_1 s m #[Value.ref b] below meth c H1 locs1 cells slots (lw_Z below #[Value.ref b] s) (F0 m 1368 ls []) := fun S' σ1 H1 locs1 h => nx S' σ1 H1 locs1 ls cells slots (by omega) (by omega) h
    refine lv_aload_n hx hb (lk_dec (pc := 33) (i := .aload_n 0) (a := 0) (b := 0) (f := 0) (by decide +kernel)) rfl (lv_at hls 0 rfl) ?_
    refine lv_iload hx hb (lk_dec (pc := 34) (i := .iload 4) (a := 0) (b := 0) (f := 0) (by decide +kernel)) (lv_at hls 4 rfl) ?_
    refine va_sld hx hb hX hbl hbA hS (vp_in_nI (by omega) (by omega)) (lk_dec (pc := 36) (i := .iaload) (a := 0) (b := 0) (f := 0) (by decide +kernel)) ?_
    refine lv_bipush (v := 63) hx hb (lk_dec (pc := 37) (i := .bipush 63) (a := 0) (b := 0) (f := 0) (by decide +kernel)) (by decide) ?_
    refine lv_iand hx hb (lk_dec (pc := 39) (i := .iand) (a := 0) (b := 0) (f := 0) (by decide +kernel)) ?_
    obtain ⟨k, hk, hv⟩ := lk_63 (xs (nI iv).toNatClampNeg)
    generalize xs (nI iv).toNatClampNeg &&& 63 = v at hv ⊢
    have hsw := lk_dec (pc := 40) (i := .tableswitch 1328 0 36 #[164, 237, 262, 287, 312, 349, 417, 454, 491, 528, 565, 602, 639, 676, 701, 714, 751, 788, 825, 850, 887, 912, 937, 950, 963, 988, 1025, 1090, 1115, 1140, 1153, 1190, 1227, 1264, 1277, 1290, 1303]) (a := 0) (b := 164) (f := 0) (by decide +kernel)
    have hc0 : cells ≤ 601024 := by omega
    have hs0 : slots ≤ 7293034 := by omega
    have hc9 : cells + 1000 ≤ 601024 := lk_ar hc1
    have hs9 : slots + 14000 ≤ 7293034 := lk_as2 hc2
    match k, hk, hv with
    | 0, hk, hv => exact lv_tableIn (off := 164) (tgt := 204) hx hb hsw (by rw [hv]; decide) (by rw [hv]; decide) (by rw [hv]; rfl) (by decide) (lk_op0 C0 hL hK hc0 hs0 hiv hst nx1)
    | 1, hk, hv => exact lv_tableIn (off := 237) (tgt := 277) hx hb hsw (by rw [hv]; decide) (by rw [hv]; decide) (by rw [hv]; rfl) (by decide) (lk_op1 C0 hL hK hc0 hs0 hiv hst nx1)
    | 2, hk, hv => exact lv_tableIn (off := 262) (tgt := 302) hx hb hsw (by rw [hv]; decide) (by rw [hv]; decide) (by rw [hv]; rfl) (by decide) (lk_op2 C0 hL hK hc0 hs0 hiv hst nx1)
    | 3, hk, hv => exact lv_tableIn (off := 287) (tgt := 327) hx hb hsw (by rw [hv]; decide) (by rw [hv]; decide) (by rw [hv]; rfl) (by decide) (lk_op3 C0 hL hK hc0 hs0 hiv hst nx1)
    | 4, hk, hv => exact lv_tableIn (off := 312) (tgt := 352) hx hb hsw (by rw [hv]; decide) (by rw [hv]; decide) (by rw [hv]; rfl) (by decide) (lk_op4 C0 hL hK hc0 hs0 hiv hst nx1)
    | 5, hk, hv => exact lv_tableIn (off := 349) (tgt := 389) hx hb hsw (by rw [hv]; decide) (by rw [hv]; decide) (by rw [hv]; rfl) (by decide) (hKind hc9 hs9 hiv hst (fun σ1 H1 locs1 ls1 c1 s1 k1 k2 h => nx S σ1 H1 locs1 ls1 c1 s1 k1 k2 h))
    | 6, hk, hv => exact lv_tableIn (off := 417) (tgt := 457) hx hb hsw (by rw [hv]; decide) (by rw [hv]; decide) (by rw [hv]; rfl) (by decide) (lk_op6 C0 hL hK hc0 hs0 hiv hst nx1)
    | 7, hk, hv => exact lv_tableIn (off := 454) (tgt := 494) hx hb hsw (by rw [hv]; decide) (by rw [hv]; decide) (by rw [hv]; rfl) (by decide) (lk_op7 C0 hL hK hc0 hs0 hiv hst nx1)
    | 8, hk, hv => exact lv_tableIn (off := 491) (tgt := 531) hx hb hsw (by rw [hv]; decide) (by rw [hv]; decide) (by rw [hv]; rfl) (by decide) (lk_op8 C0 hL hK hc0 hs0 hiv hst nx1)
    | 9, hk, hv => exact lv_tableIn (off := 528) (tgt := 568) hx hb hsw (by rw [hv]; decide) (by rw [hv]; decide) (by rw [hv]; rfl) (by decide) (lk_op9 C0 hL hK hc0 hs0 hiv hst nx1)
    | 10, hk, hv => exact lv_tableIn (off := 565) (tgt := 605) hx hb hsw (by rw [hv]; decide) (by rw [hv]; decide) (by rw [hv]; rfl) (by decide) (lk_op10 C0 hL hK hc0 hs0 hiv hst nx1)
    | 11, hk, hv => exact lv_tableIn (off := 602) (tgt := 642) hx hb hsw (by rw [hv]; decide) (by rw [hv]; decide) (by rw [hv]; rfl) (by decide) (lk_op11 C0 hL hK hc0 hs0 hiv hst nx1)
    | 12, hk, hv => exact lv_tableIn (off := 639) (tgt := 679) hx hb hsw (by rw [hv]; decide) (by rw [hv]; decide) (by rw [hv]; rfl) (by decide) (lk_op12 C0 hL hK hc0 hs0 hiv hst nx1)
    | 13, hk, hv => exact lv_tableIn (off := 676) (tgt := 716) hx hb hsw (by rw [hv]; decide) (by rw [hv]; decide) (by rw [hv]; rfl) (by decide) (lk_op13 C0 hL hK hc0 hs0 hiv hst nx1)
    | 14, hk, hv => exact lv_tableIn (off := 701) (tgt := 741) hx hb hsw (by rw [hv]; decide) (by rw [hv]; decide) (by rw [hv]; rfl) (by decide) (lk_op14 C0 hL hK hc0 hs0 hiv hst nx1)
    | 15, hk, hv => exact lv_tableIn (off := 714) (tgt := 754) hx hb hsw (by rw [hv]; decide) (by rw [hv]; decide) (by rw [hv]; rfl) (by decide) (lk_op15 C0 hL hK hc0 hs0 hiv hst nx1)
    | 16, hk, hv => exact lv_tableIn (off := 751) (tgt := 791) hx hb hsw (by rw [hv]; decide) (by rw [hv]; decide) (by rw [hv]; rfl) (by decide) (lk_op16 C0 hL hK hc0 hs0 hiv hst nx1)
    | 17, hk, hv => exact lv_tableIn (off := 788) (tgt := 828) hx hb hsw (by rw [hv]; decide) (by rw [hv]; decide) (by rw [hv]; rfl) (by decide) (lk_op17 C0 hL hK hc0 hs0 hiv hst nx1)
    | 18, hk, hv => exact lv_tableIn (off := 825) (tgt := 865) hx hb hsw (by rw [hv]; decide) (by rw [hv]; decide) (by rw [hv]; rfl) (by decide) (lk_op18 C0 hL hK hc0 hs0 hiv hst nx1)
    | 19, hk, hv => exact lv_tableIn (off := 850) (tgt := 890) hx hb hsw (by rw [hv]; decide) (by rw [hv]; decide) (by rw [hv]; rfl) (by decide) (lk_op19 C0 hL hK hc0 hs0 hiv hst nx1)
    | 20, hk, hv => exact lv_tableIn (off := 887) (tgt := 927) hx hb hsw (by rw [hv]; decide) (by rw [hv]; decide) (by rw [hv]; rfl) (by decide) (lk_op20 C0 hL hK hc0 hs0 hiv hst nx1)
    | 21, hk, hv => exact lv_tableIn (off := 912) (tgt := 952) hx hb hsw (by rw [hv]; decide) (by rw [hv]; decide) (by rw [hv]; rfl) (by decide) (lk_op21 C0 hL hK hc0 hs0 hiv hst nx1)
    | 22, hk, hv => exact lv_tableIn (off := 937) (tgt := 977) hx hb hsw (by rw [hv]; decide) (by rw [hv]; decide) (by rw [hv]; rfl) (by decide) (lk_op22 C0 hL hK hc0 hs0 hiv hst nx1)
    | 23, hk, hv => exact lv_tableIn (off := 950) (tgt := 990) hx hb hsw (by rw [hv]; decide) (by rw [hv]; decide) (by rw [hv]; rfl) (by decide) (lk_op23 C0 hL hK hc0 hs0 hiv hst nx1)
    | 24, hk, hv => exact lv_tableIn (off := 963) (tgt := 1003) hx hb hsw (by rw [hv]; decide) (by rw [hv]; decide) (by rw [hv]; rfl) (by decide) (lk_op24 C0 hL hK hc0 hs0 hiv hst nx1)
    | 25, hk, hv => exact lv_tableIn (off := 988) (tgt := 1028) hx hb hsw (by rw [hv]; decide) (by rw [hv]; decide) (by rw [hv]; rfl) (by decide) (lk_op25 C0 hL hK hc0 hs0 hiv hst nx1)
    | 26, hk, hv => exact lv_tableIn (off := 1025) (tgt := 1065) hx hb hsw (by rw [hv]; decide) (by rw [hv]; decide) (by rw [hv]; rfl) (by decide) (lk_op26 C0 hL hK hc0 hs0 hiv hst nx1)
    | 27, hk, hv => exact lv_tableIn (off := 1090) (tgt := 1130) hx hb hsw (by rw [hv]; decide) (by rw [hv]; decide) (by rw [hv]; rfl) (by decide) (lk_op27 C0 hL hK hc0 hs0 hiv hst nx1)
    | 28, hk, hv => exact lv_tableIn (off := 1115) (tgt := 1155) hx hb hsw (by rw [hv]; decide) (by rw [hv]; decide) (by rw [hv]; rfl) (by decide) (lk_op28 C0 hL hK hc0 hs0 hiv hst nx1)
    | 29, hk, hv => exact lv_tableIn (off := 1140) (tgt := 1180) hx hb hsw (by rw [hv]; decide) (by rw [hv]; decide) (by rw [hv]; rfl) (by decide) (lk_op29 C0 hL hK hc0 hs0 hiv hst nx1)
    | 30, hk, hv => exact lv_tableIn (off := 1153) (tgt := 1193) hx hb hsw (by rw [hv]; decide) (by rw [hv]; decide) (by rw [hv]; rfl) (by decide) (lk_op30 C0 hL hK hc0 hs0 hiv hst nx1)
    | 31, hk, hv => exact lv_tableIn (off := 1190) (tgt := 1230) hx hb hsw (by rw [hv]; decide) (by rw [hv]; decide) (by rw [hv]; rfl) (by decide) (lk_op31 C0 hL hK hc0 hs0 hiv hst nx1)
    | 32, hk, hv => exact lv_tableIn (off := 1227) (tgt := 1267) hx hb hsw (by rw [hv]; decide) (by rw [hv]; decide) (by rw [hv]; rfl) (by decide) (lk_op32 C0 hL hK hc0 hs0 hiv hst nx1)
    | 33, hk, hv => exact lv_tableIn (off := 1264) (tgt := 1304) hx hb hsw (by rw [hv]; decide) (by rw [hv]; decide) (by rw [hv]; rfl) (by decide) (lk_op33 C0 hL hK hc0 hs0 hiv hst nx1)
    | 34, hk, hv => exact lv_tableIn (off := 1277) (tgt := 1317) hx hb hsw (by rw [hv]; decide) (by rw [hv]; decide) (by rw [hv]; rfl) (by decide) (lk_op34 C0 hL hK hc0 hs0 hiv hst nx1)
    | 35, hk, hv => exact lv_tableIn (off := 1290) (tgt := 1330) hx hb hsw (by rw [hv]; decide) (by rw [hv]; decide) (by rw [hv]; rfl) (by decide) (lk_op35 C0 hL hK hc0 hs0 hiv hst nx1)
    | 36, hk, hv => exact lv_tableIn (off := 1303) (tgt := 1343) hx hb hsw (by rw [hv]; decide) (by rw [hv]; decide) (by rw [hv]; rfl) (by decide) (lk_op36 C0 hL hK hc0 hs0 hiv hst nx1)
    | k + 37, hk, hv => exact lv_tableOut (tgt := 1368) hx hb hsw (Or.inr (by rw [hv]; omega)) (by decide) (nx1 S σ H locs hst)
end LKD
