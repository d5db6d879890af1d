/-! THE LAW'S CASE OF KIND, and the whole law -/
theorem lk_nt {l : Launch} (h : l.flags = flags0) : l.stackTraces = false := by
  unfold Launch.stackTraces
  rw [h]
  decide +kernel
theorem lk_wl1 : mj_w 6128 (.stringRef RX11 158 "no such kind") = true := by decide +kernel
theorem lk_wl2 : mj_w 6169 (.stringRef RX11 180 "no such what") = true := by decide +kernel
theorem lk_wl3 : mj_w 6115 (.laysStatic Bundle.tN "UNASSIGNED_STACK" Bundle.steD) = true := by decide +kernel
theorem lk_wl4 : mj_w 6117 (.laysStatic Bundle.tN "SUPPRESSED_SENTINEL" Bundle.listD) = true := by decide +kernel
theorem lk_wl5 : mj_w 1018 (.initialized Bundle.tN) = true := by decide +kernel
section LKF
variable {p : Program} {l : Launch} {e : Env} {s : State} {m : MethodId} {below : List Frame} {meth : Method} {c : Code} {b L t sa sb : Nat} {xs : Nat → Int32} {cA : Nat → ClassId} {D : va_G} {Q : State → Prop}
theorem lk_E (C0 : lw_At p s m meth c b L xs) : ∃ sa sb, lt_E s.heap.size sa sb s := by
  obtain ⟨hx, hb, hr, hml, hown, hts, hX, hbl, hlocks, hgv⟩ := C0
  have hs := flat_of_before _ hgv
  have hA : ∀ a : Nat, a < s.heap.size → ¬ mj_A s.heap.size a := fun a h => Nat.not_le.mpr h
  obtain ⟨sa, _, _, _, h1, -⟩ := Cond.exactly_spec (hs (.exactly (.string RX11 158) "java/lang/String") (by decide +kernel))
  obtain ⟨sb, _, _, _, h2, -⟩ := Cond.exactly_spec (hs (.exactly (.string RX11 180) "java/lang/String") (by decide +kernel))
  refine ⟨sa, sb, ⟨vx_Zqof (hts _ (lk_tbl_of lk_wl3)) (hts _ (lk_tbl_of lk_wl5)) (hs _ (by decide +kernel)) hA, vx_Zqof (hts _ (lk_tbl_of lk_wl4)) (hts _ (lk_tbl_of lk_wl5)) (hs _ (by decide +kernel)) hA⟩, ⟨vk_R.of (hts _ (lk_tbl_of lk_wl1)) h1, vk_R.of (hts _ (lk_tbl_of lk_wl2)) h2⟩, fun w hw => va_Nw.of (lt_bad_on hw) (hts w (lt_bad_tb hw)), va_Nc.of (hs (.not (.castable lt_ns lt_io)) (by decide +kernel))⟩
theorem lk_lcmp {z : Int64} : lg_cmp z z = 0 := by
  unfold lg_cmp
  rw [if_neg (fun q => Int64.lt_irrefl q), if_pos rfl]
set_option maxRecDepth 20000 in
theorem lk_kind (C0 : lw_At p s m meth c b L xs) (hL : L ≤ 3072) (hK : mj_K s.heap.size t cA D s) (hE : lt_E s.heap.size sa sb s) (hnt : l.stackTraces = false) {H : Heap} {locs : List Loc} {cells slots iv : Nat} {ls : Array Slot} {σ : jg_M} {S : kx_S} (hc9 : cells + 1000 ≤ 601024) (hs9 : slots + 14000 ≤ 7293034) (hiv : iv + 6 ≤ L) (hst : lk_st s b iv t cA D S σ H locs ls)
    (kk : ∀ σ1 H1 locs1 ls1 cells1 slots1, cells1 ≤ cells + 1000 → slots1 ≤ slots + 14000 → lk_st s b iv t cA D S σ1 H1 locs1 ls1 → W p l e room_1 s m #[Value.ref b] below meth c H1 locs1 cells1 slots1 Q (F0 m 1368 ls1 [])) : W p l e room_1 s m #[Value.ref b] below meth c H locs cells slots Q (F0 m 389 ls []) := by
  obtain ⟨⟨hP, hC, hM⟩, hH, hS, hls⟩ := hst
  obtain ⟨hx, hb, hr, hml, hown, hts, hX, hbl, hlocks, hgv⟩ := id C0
  have hF := lk_Fr C0
  have htg : ∀ w ∈ mj_gw, w.before #[Value.ref b] s = true := hF.2.2.2.2
  have hc1 : cells + 1 ≤ 601024 := by omega
  have hs1 : slots + 6 ≤ 7293034 := by omega
  obtain ⟨x, hxe⟩ : ∃ x : Int, x = (xs (iv + 1)).toInt := ⟨_, rfl⟩
  obtain ⟨y, hye⟩ : ∃ y : Int, y = (xs (iv + 2)).toInt := ⟨_, rfl⟩
  have hjx : jr x := by rw [hxe]; exact jr_toInt _
  have hjy : jr y := by rw [hye]; exact jr_toInt _
  have e0 : mj_b s.heap.size t 0 = s.heap.size := mj_b_lt (sz := 141) (by decide) (by decide)
  refine lv_aload_n hx hb (lk_dec (pc := 389) (i := .aload_n 1) (a := 0) (b := 0) (f := 0) (by decide +kernel)) rfl (lv_at hls 1 rfl) ?_
  refine lk_args (t := t) C0 hL hS (lv_at hls 0 rfl) (lv_at hls 4 rfl) 2 390 1 [.ref 0] (by decide +kernel) (by omega) ?_
  refine lv_aload_n hx hb (lk_dec (pc := 402) (i := .aload_n 3) (a := 0) (b := 0) (f := 0) (by decide +kernel)) rfl (lv_at hls 3 rfl) ?_
  have hrun := vx_runSW (l := l) (e := e) (R := room_1) (below := below) (meth := meth) (locs := locs) (cells := cells) (slots := slots) (H := H) (As := [.ref s.heap.size, .int (.ofInt x), .int (.ofInt y), .ref (s.heap.size + 140)]) (rest := []) (index := 43) (n := 4) (g := F0 m 403 ls [.ref (s.heap.size + 140), .int (.ofInt y), .int (.ofInt x), .ref s.heap.size]) ⟨hx, hb, hml, hown, htg⟩
    (lt_lkind (B := s.heap.size) (t := t) (sa := sa) (sb := sb) (cA := cA) (D := D) l hnt hC.1 hjx hjy)
    (vx_cwSW (R := room_1) (own := RL) (index := 43) (ws' := mj_gw) (hh := lt_hh) 4 htg (mj_good (fun w hw => by
      unfold va_wsS at hw
      rcases List.mem_append.mp hw with hw | hw
      · simp only [List.mem_cons, List.not_mem_nil, or_false] at hw
        rcases hw with rfl | rfl | rfl
        · exact mj_gw_of lt_k1 rfl
        · exact mj_gw_of lt_k2 rfl
        · exact mj_gw_of lt_k3 rfl
      · exact (List.mem_cons.mp hw).elim (fun e => by rw [e]; exact mj_gw_of lt_k4 rfl) id)) rfl rfl rfl ⟨by decide, by decide, rfl⟩ (by decide)) ⟨lt_blind, lt_pcU hK (Nat.le_refl _) hE hH hS⟩ rfl rfl hls.1 rfl (lv_room (Nat.le_of_ble_eq_true rfl)) (show decode code 403 = .ok (.invokestatic 43, 3) from lk_dec (pc := 403) (i := .invokestatic 43) (a := 0) (b := 99) (f := 0) (by decide +kernel)) ⟨hc1, hs1⟩
  have e1 : lk_pu xs iv 1 2 [.ref 0] = [.int (.ofInt y), .int (.ofInt x), .ref 0] := by rw [hxe, hye]; rfl
  rw [e1]
  refine mj_goOn hrun hS (fun H1 locs1 hH1 hS1 => ?_)
  have hth01 : kv_th S.1.2 x y = 0 ∨ kv_th S.1.2 x y = 1 ∨ kv_th S.1.2 x y = 2 := by
    unfold kv_th
    split
    · split
      · exact Or.inl rfl
      · exact Or.inr (Or.inr rfl)
    · exact Or.inr (Or.inl rfl)
  generalize hthe : kv_th S.1.2 x y = th at hth01 hH1 ⊢
  -- what both know, behind it
  have hf1 : jF (fun c _ => c = 140) σ (lt_s2 σ S.1.2 x y) := by
    unfold lt_s2
    split
    · exact ⟨fun a i _ => rfl, fun a i q => if_neg (fun z => q z.1)⟩
    · exact jF_rf
  have hT := hC.1.1.1
  have hC1 := kx_C_fr hC hf1 (fun c i q1 q2 => by unfold kx_wc at q1; omega)
  have hM1 := kx_M_fr hM hf1 (fun c i q1 q2 => by unfold kx_wm kW_mg kW_m0 at q1; omega)
  refine lv_istore (x := Int32.ofInt th) (lv' := [(5, .int (Int32.ofInt th)), (0, .ref b), (1, .ref s.heap.size), (2, .ref (s.heap.size + 92)), (3, .ref (s.heap.size + 140)), (4, .int (nI iv))]) hx hb (lk_dec (pc := 406) (i := .istore 5) (a := 0) (b := 0) (f := 0) (by decide +kernel)) hls (by decide) rfl (fun ls2 hls2 => ?_)
  refine lv_aload_n hx hb (lk_dec (pc := 408) (i := .aload_n 2) (a := 0) (b := 0) (f := 0) (by decide +kernel)) rfl (lv_at hls2 3 rfl) ?_
  refine lk_args (t := t) C0 hL hS1 (lv_at hls2 1 rfl) (lv_at hls2 5 rfl) 2 409 1 [.ref 92] (by decide +kernel) (by omega) ?_
  have e2 : lk_pu xs iv 1 2 [.ref 92] = [.int (.ofInt y), .int (.ofInt x), .ref 92] := by rw [hxe, hye]; rfl
  rw [e2]
  have hgE := hC.1.2.2.1.1
  refine lk_call (st' := []) (y := 269) (ix := 48) (f := 357) (K := fun z τ => jF kW_kd (lt_s2 σ S.1.2 x y) τ ∧ τ.1 92 2 = th ∧ (th = 0 → z = kv_kind S.1.2 x y)) C0 hK hls2.1 hc1 hs1 (by decide +kernel) jm_X12_kind rfl rfl (by decide) ⟨Nat.le_of_ble_eq_true rfl, rfl⟩ (by decide) (by decide) (jm_kind (w := 141) hM1.1 ⟨hgE.2.2.2.1, hgE.2.2.2.2⟩ hjx hjy (fun z τ q1 q2 q3 => ⟨q1, by rw [← hthe]; exact q2, fun q => q3 (by rw [hthe]; exact q)⟩)) hH1 hS1 (fun z τ hz H2 locs2 hH2 hS2 => ?_)
  obtain ⟨hf2, h922, hzk⟩ := hz
  have hC2 := kx_C_fr hC1 hf2 (fun c i q1 q2 => by unfold kx_wc at q1; unfold kW_kd kW_ge at q2; omega)
  have hM2 := kx_M_fr hM1 hf2 (fun c i q1 q2 => by unfold kx_wm kW_mg kW_m0 at q1; unfold kW_kd kW_ge at q2; omega)
  refine lv_istore (x := Int32.ofInt z) (lv' := [(6, .int (Int32.ofInt z)), (5, .int (Int32.ofInt th)), (0, .ref b), (1, .ref s.heap.size), (2, .ref (s.heap.size + 92)), (3, .ref (s.heap.size + 140)), (4, .int (nI iv))]) hx hb (lk_dec (pc := 424) (i := .istore 6) (a := 0) (b := 0) (f := 0) (by decide +kernel)) hls2 (by decide) rfl (fun ls3 hls3 => ?_)
  have done : ∀ {H3 : Heap} {locs3 : List Loc}, mj_hd s.heap.size t cA D (jg_en 141 τ) 141 H3 → va_S (mj_A s.heap.size) s.heap H3 locs3 → W p l e room_1 s m #[Value.ref b] below meth c H3 locs3 (cells + 1) (slots + 6) Q (F0 m 454 ls3 []) := fun hH3 hS3 => by
    refine lv_goto (tgt := 1368) hx hb (lk_dec (pc := 454) (i := .goto 914) (a := 1368) (b := 0) (f := 0) (by decide +kernel)) (by decide) ?_
    exact kk τ _ _ ls3 (cells + 1) (slots + 6) (by omega) (by omega) ⟨⟨hP, hC2, hM2⟩, hH3, hS3, lv_sub hls3 [2, 3, 4, 5, 6] rfl⟩
  refine lv_aload_n hx hb (lk_dec (pc := 426) (i := .aload_n 2) (a := 0) (b := 0) (f := 0) (by decide +kernel)) rfl (lv_at hls3 4 rfl) ?_
  refine lk_call (st := [.ref 92]) (st' := []) (y := 191) (ix := 49) (f := 358) (d := 0) (K := fun z2 τ2 => z2 = th ∧ τ2 = τ) C0 hK hls3.1 hc1 hs1 (by decide +kernel) jm_X12_thrown rfl rfl (by decide) ⟨Nat.le_of_ble_eq_true rfl, rfl⟩ (by decide) (by decide) (jb_X12_thrown_0 rfl ⟨h922, rfl⟩) hH2 hS2 (fun z2 τ2 hz2 H3 locs3 hH3 hS3 => ?_)
  obtain ⟨rfl, hτ2⟩ := hz2
  rw [hτ2] at hH3
  refine lv_iload hx hb (lk_dec (pc := 430) (i := .iload 5) (a := 0) (b := 0) (f := 0) (by decide +kernel)) (lv_at hls3 1 rfl) ?_
  refine lv_icmp_eq (tgt := 437) hx hb (lk_dec (pc := 432) (i := .if_icmp .eq 5) (a := 437) (b := 0) (f := 0) (by decide +kernel)) (by decide) (fun _ => ?_) (fun h => absurd rfl h)
  refine lv_iload hx hb (lk_dec (pc := 437) (i := .iload 5) (a := 0) (b := 0) (f := 0) (by decide +kernel)) (lv_at hls3 1 rfl) ?_
  refine lv_if_ne (tgt := 454) hx hb (lk_dec (pc := 439) (i := .ifCond .ne 15) (a := 454) (b := 0) (f := 0) (by decide +kernel)) (by decide) (fun _ => done hH3 hS3) (fun hz0 => ?_)
  have hth0 : z2 = 0 := by
    rcases hth01 with q | q | q
    · exact q
    · rw [q] at hz0; exact absurd hz0 (by decide)
    · rw [q] at hz0; exact absurd hz0 (by decide)
  have hval : τ.2 140 0 = jg_wr (kv_kind S.1.2 x y) := by
    rw [hf2.2 140 0 (fun q => by unfold kW_kd kW_ge at q; omega)]
    unfold lt_s2
    rw [if_pos (hthe.trans hth0)]
    show (if (140 : Nat) = 140 ∧ (0 : Int) = 0 then jg_wr (kv_kind S.1.2 x y) else σ.2 140 0) = jg_wr (kv_kind S.1.2 x y)
    exact if_pos ⟨rfl, rfl⟩
  refine lv_aload_n hx hb (lk_dec (pc := 442) (i := .aload_n 3) (a := 0) (b := 0) (f := 0) (by decide +kernel)) rfl (lv_at hls3 5 rfl) ?_
  refine lv_iconst (v := 0) hx hb (lk_dec (pc := 443) (i := .iconst 0) (a := 0) (b := 0) (f := 0) (by decide +kernel)) rfl ?_
  have q444 : lk_q 444 (.laload, 0, 0, 0) = true := by decide +kernel
  refine mj_simD (M := lk_M meth.name) (al := false) (lst := []) (lst' := []) (st := [.int 0, .ref 140]) (st' := [.long (Int64.ofInt (τ.2 140 0))]) (sz := 141) (sz' := 141) (sl := 0) (sl' := 0) (hp := jg_en 141 τ) (hp' := jg_en 141 τ) (pc' := 445) hF rfl hK (Nat.le_refl _) (fun h => by cases h) (lk_dec q444) (lk_rk2 (lk_rk q444 rfl) (fun k => by simp)) hH3 hS3 ⟨hc1, hs1⟩ ?_ (fun H4 locs4 hH4 hS4 _ => ?_)
  · unfold mj_stD
    dsimp only
    rw [mi_en140]
    rfl
  refine lv_iload hx hb (lk_dec (pc := 445) (i := .iload 6) (a := 0) (b := 0) (f := 0) (by decide +kernel)) (lv_at hls3 0 rfl) ?_
  refine lv_i2l (v := Int64.ofInt (τ.2 140 0)) hx hb (lk_dec (pc := 447) (i := .i2l) (a := 0) (b := 0) (f := 0) (by decide +kernel)) (by rw [hval, hzk hth0]; unfold jg_wr; rw [Int64.ofInt_int32ToInt]) ?_
  refine W.lcmp hx hb (lk_dec (pc := 448) (i := .lcmp) (a := 0) (b := 0) (f := 0) (by decide +kernel)) ?_
  rw [lk_lcmp]
  refine lv_if_eq (tgt := 454) hx hb (lk_dec (pc := 449) (i := .ifCond .eq 5) (a := 454) (b := 0) (f := 0) (by decide +kernel)) (by decide) (fun _ => done hH4 hS4) (fun h => absurd rfl h)
/-- THE LAW -/
theorem whole_start {p : Program} {e : Env} {s : State} {m : MethodId} {below : List Frame} {meth : Method} {c : Code} (l : Launch) (hflags : l.flags = flags0) {b L : Nat} {xs : Nat → Int32} (hL : L ≤ 3072) (C0 : lw_At p s m meth c b L xs) : W p l e room_1 s m #[Value.ref b] below meth c s.heap [] 0 0 (lw_Z below #[Value.ref b] s) (entryFrame m ([Value.ref b] : List Value).toArray 7) := by
  obtain ⟨t, cA, D, hK⟩ := lk_K C0
  obtain ⟨sa, sb, hE⟩ := lk_E C0
  refine lk_begin C0 hK (fun σ H locs ls hst => ?_)
  exact lk_loop C0 hL hK (fun q1 q2 q3 q4 q5 => lk_kind C0 hL hK hE (lk_nt hflags) q1 q2 q3 q4 q5) 512 0 (by omega) (by omega) 141 62826 mi_S σ H locs ls (by omega) (by omega) hst
end LKF
