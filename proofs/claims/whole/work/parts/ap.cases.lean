/-! THE LAW'S CASES: one call on each side -/
def lk_b (pc n yC ixC fC yM ixM fM : Nat) (off : Int) : Bool :=
  lk_i pc (.aload_n 1) && lk_as (pc + 1) 1 n && lk_q (pc + 1 + 6 * n) (.invokevirtual ixC, yC, 0, fC) && lk_i (pc + 1 + 6 * n + 3) (.aload_n 2) && lk_as (pc + 1 + 6 * n + 4) 1 n && lk_q (pc + 1 + 6 * n + 4 + 6 * n) (.invokevirtual ixM, yM, 0, fM) && lk_q (pc + 1 + 6 * n + 4 + 6 * n + 3) (.if_icmp .eq off, 1368, 0, 0) && decide (((pc + 1 + 6 * n + 4 + 6 * n + 3 : Nat) : Int) + off = (1368 : Nat))
/-- the locals at the head of the loop -/
def lk_ls (B b iv : Nat) (ls : Array Slot) : Prop := lv_has ls 7 [(0, .ref b), (1, .ref B), (2, .ref (B + 92)), (3, .ref (B + 140)), (4, .int (nI iv))]
theorem jr_toInt (x : Int32) : jr x.toInt := ⟨Int32.le_toInt _, Int32.toInt_lt _⟩
section LKC
variable {p : Program} {l : Launch} {e : Env} {s : State} {m : MethodId} {below : List Frame} {meth : Method} {c : Code} {b L t : Nat} {xs : Nat → Int32} {H : Heap} {locs : List Loc} {cells slots : Nat} {Q : State → Prop} {ls : Array Slot} {cA : Nat → ClassId} {D : va_G} {σ τ : jg_M} {d pc n iv : Nat} {S : kx_S}
/-- all that stays, at a place of the law's body -/
def lk_st (s : State) (b iv t : Nat) (cA : Nat → ClassId) (D : va_G) (S : kx_S) (σ : jg_M) (H : Heap) (locs : List Loc) (ls : Array Slot) : Prop := (kx_P S ∧ kx_C σ S ∧ kx_M σ S) ∧ mj_hd s.heap.size t cA D (jg_en 141 σ) 141 H ∧ va_S (mj_A s.heap.size) s.heap H locs ∧ lk_ls s.heap.size b iv ls
theorem lk_case {yC ixC fC yM ixM fM dc dm : Nat} {off : Int} {MC MM : mj_Inf} {As : List Value} (C0 : lw_At p s m meth c b L xs) (hL : L ≤ 3072) (hK : mj_K s.heap.size t cA D s) (hc1 : cells ≤ 601024) (hc2 : slots ≤ 7293034) (hq : lk_b pc n yC ixC fC yM ixM fM off = true)
    (hMC : mj_ms[yC]? = some MC) (hMM : mj_ms[yM]? = some MM) (hC1 : MC.1 = 11) (hM1 : MM.1 = 12) (hn1 : mj_pop MC.2.2.2.2.2.2.1 [] (lk_pu xs iv 1 n [.ref 0]) = some (As, [.ref 0]))
    (hn3 : ∀ z, mj_pop MM.2.2.2.2.2.2.1 [] (lk_pu xs iv 1 n (.ref 92 :: [.int z])) = some (As, .ref 92 :: [.int z]))
    (hl1 : (mj_flat (.ref 0 :: As)).length ≤ MC.2.2.2.1 ∧ mj_lok MC.2.2.2.2.2.1 0 (mj_flat (.ref 0 :: As)) = true) (hl2 : (mj_flat (.ref 92 :: As)).length ≤ MM.2.2.2.1 ∧ mj_lok MM.2.2.2.2.2.1 0 (mj_flat (.ref 92 :: As)) = true)
    (hdc : dc ≤ 20) (hdm : dm ≤ 20) (hT : kx_T S dc dm MC MM As) (hiv : iv + 6 ≤ L) (hn : n ≤ 5) (hst : lk_st s b iv t cA D S σ H locs ls)
    (kk : ∀ S' τ H1 locs1, lk_st s b iv t cA D S' τ H1 locs1 ls → W p l e room_1 s m #[Value.ref b] below meth c H1 locs1 cells slots Q (F0 m 1368 ls [])) :
    W p l e room_1 s m #[Value.ref b] below meth c H locs cells slots Q (F0 m pc ls []) := by
  obtain ⟨⟨hP, hC, hM⟩, hH, hS, hls⟩ := hst
  unfold lk_b lk_i at hq
  simp only [Bool.and_eq_true] at hq
  obtain ⟨⟨⟨⟨⟨⟨⟨q1, q2⟩, q3⟩, q4⟩, q5⟩, q6⟩, q7⟩, q8⟩ := hq
  have q8 := of_decide_eq_true q8
  obtain ⟨z, S', hP', hTC, hTM⟩ := hT
  have hx := C0.1
  have hb := C0.2.1
  have e0 : mj_v s.heap.size t (.ref 0) = .ref s.heap.size := rfl
  have e92 : mj_v s.heap.size t (.ref 92) = .ref (s.heap.size + 92) := rfl
  refine lv_aload_n hx hb (lk_dec q1) rfl (lv_at hls 1 rfl) ?_
  refine lk_args (t := t) C0 hL hS (lv_at hls 0 rfl) (lv_at hls 4 rfl) n _ 1 [.ref 0] q2 (by omega) ?_
  refine lk_call (st' := []) C0 hK hls.1 hc1 hc2 q3 hMC hn1 (by rw [hC1]; rfl) (by rw [hC1]; decide) hl1 (by decide) hdc (hTC σ hC) hH hS (fun z1 τ1 hz1 H1 locs1 hH1 hS1 => ?_)
  obtain ⟨rfl, hf1, hC2⟩ := hz1
  have hM2 : kx_M τ1 S := kx_M_fr hM hf1 (fun c i q1 q2 => by unfold kx_wm kW_mg kW_m0 at q1; unfold kW_c at q2; omega)
  refine lv_aload_n hx hb (lk_dec q4) rfl (lv_at hls 2 rfl) ?_
  refine lk_args (t := t) C0 hL hS1 (lv_at hls 0 rfl) (lv_at hls 4 rfl) n _ 1 [.ref 92, .int (Int32.ofInt z1)] q5 (by omega) ?_
  refine lk_call (st' := [.int (Int32.ofInt z1)]) C0 hK hls.1 hc1 hc2 q6 hMM (hn3 _) (by rw [hM1]; rfl) (by rw [hM1]; decide) hl2 (Nat.le_of_ble_eq_true rfl) hdm (hTM τ1 hM2) hH1 hS1 (fun z2 τ2 hz2 H2 locs2 hH2 hS2 => ?_)
  obtain ⟨rfl, hf2, hM3⟩ := hz2
  have hC3 : kx_C τ2 S' := kx_C_fr hC2 hf2 (fun c i q1 q2 => by
    have hT := hC2.1.1.1
    unfold kx_wc at q1; unfold kW_m at q2; omega)
  exact lv_icmp_eq hx hb (lk_dec q7) q8 (fun _ => kk S' τ2 H2 locs2 ⟨⟨hP', hC3, hM3⟩, hH2, hS2, hls⟩) (fun h => absurd rfl h)
set_option maxRecDepth 20000 in
theorem lk_op0 (C0 : lw_At p s m meth c b L xs) (hL : L ≤ 3072) (hK : mj_K s.heap.size t cA D s) (hc1 : cells ≤ 601024) (hc2 : slots ≤ 7293034) (hiv : iv + 6 ≤ L) (hst : lk_st s b iv t cA D S σ H locs ls)
    (kk : ∀ S' τ H1 locs1, lk_st s b iv t cA D S' τ H1 locs1 ls → W p l e room_1 s m #[Value.ref b] below meth c H1 locs1 cells slots Q (F0 m 1368 ls [])) : W p l e room_1 s m #[Value.ref b] below meth c H locs cells slots Q (F0 m 204 ls []) :=
  lk_case (n := 5) (yC := 147) (ixC := 21) (fC := 347) (yM := 192) (ixM := 25) (fM := 348) (off := 1096) C0 hL hK hc1 hc2 (by decide +kernel) jm_X11_feed jm_X12_feed rfl rfl rfl (fun _ => rfl) ⟨Nat.le_of_ble_eq_true rfl, rfl⟩ ⟨Nat.le_of_ble_eq_true rfl, rfl⟩ (by decide) (by decide) (kx_feed hst.1.1 ) hiv (by decide) hst kk
set_option maxRecDepth 20000 in
theorem lk_op1 (C0 : lw_At p s m meth c b L xs) (hL : L ≤ 3072) (hK : mj_K s.heap.size t cA D s) (hc1 : cells ≤ 601024) (hc2 : slots ≤ 7293034) (hiv : iv + 6 ≤ L) (hst : lk_st s b iv t cA D S σ H locs ls)
    (kk : ∀ S' τ H1 locs1, lk_st s b iv t cA D S' τ H1 locs1 ls → W p l e room_1 s m #[Value.ref b] below meth c H1 locs1 cells slots Q (F0 m 1368 ls [])) : W p l e room_1 s m #[Value.ref b] below meth c H locs cells slots Q (F0 m 277 ls []) :=
  lk_case (n := 1) (yC := 149) (ixC := 26) (fC := 349) (yM := 214) (ixM := 30) (fM := 350) (off := 1071) C0 hL hK hc1 hc2 (by decide +kernel) jm_X11_text jm_X12_text rfl rfl rfl (fun _ => rfl) ⟨Nat.le_of_ble_eq_true rfl, rfl⟩ ⟨Nat.le_of_ble_eq_true rfl, rfl⟩ (by decide) (by decide) (kx_text hst.1.1 (jr_toInt _)) hiv (by decide) hst kk
set_option maxRecDepth 20000 in
theorem lk_op2 (C0 : lw_At p s m meth c b L xs) (hL : L ≤ 3072) (hK : mj_K s.heap.size t cA D s) (hc1 : cells ≤ 601024) (hc2 : slots ≤ 7293034) (hiv : iv + 6 ≤ L) (hst : lk_st s b iv t cA D S σ H locs ls)
    (kk : ∀ S' τ H1 locs1, lk_st s b iv t cA D S' τ H1 locs1 ls → W p l e room_1 s m #[Value.ref b] below meth c H1 locs1 cells slots Q (F0 m 1368 ls [])) : W p l e room_1 s m #[Value.ref b] below meth c H locs cells slots Q (F0 m 302 ls []) :=
  lk_case (n := 1) (yC := 151) (ixC := 31) (fC := 351) (yM := 215) (ixM := 34) (fM := 352) (off := 1046) C0 hL hK hc1 hc2 (by decide +kernel) jm_X11_fault jm_X12_fault rfl rfl rfl (fun _ => rfl) ⟨Nat.le_of_ble_eq_true rfl, rfl⟩ ⟨Nat.le_of_ble_eq_true rfl, rfl⟩ (by decide) (by decide) (kx_fault hst.1.1 (jr_toInt _)) hiv (by decide) hst kk
set_option maxRecDepth 20000 in
theorem lk_op3 (C0 : lw_At p s m meth c b L xs) (hL : L ≤ 3072) (hK : mj_K s.heap.size t cA D s) (hc1 : cells ≤ 601024) (hc2 : slots ≤ 7293034) (hiv : iv + 6 ≤ L) (hst : lk_st s b iv t cA D S σ H locs ls)
    (kk : ∀ S' τ H1 locs1, lk_st s b iv t cA D S' τ H1 locs1 ls → W p l e room_1 s m #[Value.ref b] below meth c H1 locs1 cells slots Q (F0 m 1368 ls [])) : W p l e room_1 s m #[Value.ref b] below meth c H locs cells slots Q (F0 m 327 ls []) :=
  lk_case (n := 1) (yC := 152) (ixC := 35) (fC := 353) (yM := 216) (ixM := 38) (fM := 354) (off := 1021) C0 hL hK hc1 hc2 (by decide +kernel) jm_X11_named jm_X12_named rfl rfl rfl (fun _ => rfl) ⟨Nat.le_of_ble_eq_true rfl, rfl⟩ ⟨Nat.le_of_ble_eq_true rfl, rfl⟩ (by decide) (by decide) (kx_named hst.1.1 (jr_toInt _)) hiv (by decide) hst kk
set_option maxRecDepth 20000 in
theorem lk_op4 (C0 : lw_At p s m meth c b L xs) (hL : L ≤ 3072) (hK : mj_K s.heap.size t cA D s) (hc1 : cells ≤ 601024) (hc2 : slots ≤ 7293034) (hiv : iv + 6 ≤ L) (hst : lk_st s b iv t cA D S σ H locs ls)
    (kk : ∀ S' τ H1 locs1, lk_st s b iv t cA D S' τ H1 locs1 ls → W p l e room_1 s m #[Value.ref b] below meth c H1 locs1 cells slots Q (F0 m 1368 ls [])) : W p l e room_1 s m #[Value.ref b] below meth c H locs cells slots Q (F0 m 352 ls []) :=
  lk_case (n := 2) (yC := 153) (ixC := 39) (fC := 355) (yM := 268) (ixM := 42) (fM := 356) (off := 984) C0 hL hK hc1 hc2 (by decide +kernel) jm_X11_token jm_X12_token rfl rfl rfl (fun _ => rfl) ⟨Nat.le_of_ble_eq_true rfl, rfl⟩ ⟨Nat.le_of_ble_eq_true rfl, rfl⟩ (by decide) (by decide) (kx_token hst.1.1 (jr_toInt _) (jr_toInt _)) hiv (by decide) hst kk
set_option maxRecDepth 20000 in
theorem lk_op6 (C0 : lw_At p s m meth c b L xs) (hL : L ≤ 3072) (hK : mj_K s.heap.size t cA D s) (hc1 : cells ≤ 601024) (hc2 : slots ≤ 7293034) (hiv : iv + 6 ≤ L) (hst : lk_st s b iv t cA D S σ H locs ls)
    (kk : ∀ S' τ H1 locs1, lk_st s b iv t cA D S' τ H1 locs1 ls → W p l e room_1 s m #[Value.ref b] below meth c H1 locs1 cells slots Q (F0 m 1368 ls [])) : W p l e room_1 s m #[Value.ref b] below meth c H locs cells slots Q (F0 m 457 ls []) :=
  lk_case (n := 2) (yC := 154) (ixC := 53) (fC := 359) (yM := 270) (ixM := 56) (fM := 360) (off := 879) C0 hL hK hc1 hc2 (by decide +kernel) jm_X11_rule jm_X12_rule rfl rfl rfl (fun _ => rfl) ⟨Nat.le_of_ble_eq_true rfl, rfl⟩ ⟨Nat.le_of_ble_eq_true rfl, rfl⟩ (by decide) (by decide) (kx_rule hst.1.1 (jr_toInt _) (jr_toInt _)) hiv (by decide) hst kk
set_option maxRecDepth 20000 in
theorem lk_op7 (C0 : lw_At p s m meth c b L xs) (hL : L ≤ 3072) (hK : mj_K s.heap.size t cA D s) (hc1 : cells ≤ 601024) (hc2 : slots ≤ 7293034) (hiv : iv + 6 ≤ L) (hst : lk_st s b iv t cA D S σ H locs ls)
    (kk : ∀ S' τ H1 locs1, lk_st s b iv t cA D S' τ H1 locs1 ls → W p l e room_1 s m #[Value.ref b] below meth c H1 locs1 cells slots Q (F0 m 1368 ls [])) : W p l e room_1 s m #[Value.ref b] below meth c H locs cells slots Q (F0 m 494 ls []) :=
  lk_case (n := 2) (yC := 155) (ixC := 57) (fC := 361) (yM := 272) (ixM := 60) (fM := 362) (off := 842) C0 hL hK hc1 hc2 (by decide +kernel) jm_X11_state jm_X12_state rfl rfl rfl (fun _ => rfl) ⟨Nat.le_of_ble_eq_true rfl, rfl⟩ ⟨Nat.le_of_ble_eq_true rfl, rfl⟩ (by decide) (by decide) (kx_state hst.1.1 (jr_toInt _) (jr_toInt _)) hiv (by decide) hst kk
set_option maxRecDepth 20000 in
theorem lk_op8 (C0 : lw_At p s m meth c b L xs) (hL : L ≤ 3072) (hK : mj_K s.heap.size t cA D s) (hc1 : cells ≤ 601024) (hc2 : slots ≤ 7293034) (hiv : iv + 6 ≤ L) (hst : lk_st s b iv t cA D S σ H locs ls)
    (kk : ∀ S' τ H1 locs1, lk_st s b iv t cA D S' τ H1 locs1 ls → W p l e room_1 s m #[Value.ref b] below meth c H1 locs1 cells slots Q (F0 m 1368 ls [])) : W p l e room_1 s m #[Value.ref b] below meth c H locs cells slots Q (F0 m 531 ls []) :=
  lk_case (n := 2) (yC := 156) (ixC := 61) (fC := 363) (yM := 273) (ixM := 64) (fM := 364) (off := 805) C0 hL hK hc1 hc2 (by decide +kernel) jm_X11_item jm_X12_item rfl rfl rfl (fun _ => rfl) ⟨Nat.le_of_ble_eq_true rfl, rfl⟩ ⟨Nat.le_of_ble_eq_true rfl, rfl⟩ (by decide) (by decide) (kx_item hst.1.1 (jr_toInt _) (jr_toInt _)) hiv (by decide) hst kk
set_option maxRecDepth 20000 in
theorem lk_op9 (C0 : lw_At p s m meth c b L xs) (hL : L ≤ 3072) (hK : mj_K s.heap.size t cA D s) (hc1 : cells ≤ 601024) (hc2 : slots ≤ 7293034) (hiv : iv + 6 ≤ L) (hst : lk_st s b iv t cA D S σ H locs ls)
    (kk : ∀ S' τ H1 locs1, lk_st s b iv t cA D S' τ H1 locs1 ls → W p l e room_1 s m #[Value.ref b] below meth c H1 locs1 cells slots Q (F0 m 1368 ls [])) : W p l e room_1 s m #[Value.ref b] below meth c H locs cells slots Q (F0 m 568 ls []) :=
  lk_case (n := 2) (yC := 157) (ixC := 65) (fC := 365) (yM := 275) (ixM := 68) (fM := 366) (off := 768) C0 hL hK hc1 hc2 (by decide +kernel) jm_X11_move jm_X12_move rfl rfl rfl (fun _ => rfl) ⟨Nat.le_of_ble_eq_true rfl, rfl⟩ ⟨Nat.le_of_ble_eq_true rfl, rfl⟩ (by decide) (by decide) (kx_move hst.1.1 (jr_toInt _) (jr_toInt _)) hiv (by decide) hst kk
set_option maxRecDepth 20000 in
theorem lk_op10 (C0 : lw_At p s m meth c b L xs) (hL : L ≤ 3072) (hK : mj_K s.heap.size t cA D s) (hc1 : cells ≤ 601024) (hc2 : slots ≤ 7293034) (hiv : iv + 6 ≤ L) (hst : lk_st s b iv t cA D S σ H locs ls)
    (kk : ∀ S' τ H1 locs1, lk_st s b iv t cA D S' τ H1 locs1 ls → W p l e room_1 s m #[Value.ref b] below meth c H1 locs1 cells slots Q (F0 m 1368 ls [])) : W p l e room_1 s m #[Value.ref b] below meth c H locs cells slots Q (F0 m 605 ls []) :=
  lk_case (n := 2) (yC := 158) (ixC := 69) (fC := 367) (yM := 276) (ixM := 72) (fM := 368) (off := 731) C0 hL hK hc1 hc2 (by decide +kernel) jm_X11_action jm_X12_action rfl rfl rfl (fun _ => rfl) ⟨Nat.le_of_ble_eq_true rfl, rfl⟩ ⟨Nat.le_of_ble_eq_true rfl, rfl⟩ (by decide) (by decide) (kx_action hst.1.1 (jr_toInt _) (jr_toInt _)) hiv (by decide) hst kk
set_option maxRecDepth 20000 in
theorem lk_op11 (C0 : lw_At p s m meth c b L xs) (hL : L ≤ 3072) (hK : mj_K s.heap.size t cA D s) (hc1 : cells ≤ 601024) (hc2 : slots ≤ 7293034) (hiv : iv + 6 ≤ L) (hst : lk_st s b iv t cA D S σ H locs ls)
    (kk : ∀ S' τ H1 locs1, lk_st s b iv t cA D S' τ H1 locs1 ls → W p l e room_1 s m #[Value.ref b] below meth c H1 locs1 cells slots Q (F0 m 1368 ls [])) : W p l e room_1 s m #[Value.ref b] below meth c H locs cells slots Q (F0 m 642 ls []) :=
  lk_case (n := 2) (yC := 159) (ixC := 73) (fC := 369) (yM := 277) (ixM := 76) (fM := 370) (off := 694) C0 hL hK hc1 hc2 (by decide +kernel) jm_X11_look jm_X12_look rfl rfl rfl (fun _ => rfl) ⟨Nat.le_of_ble_eq_true rfl, rfl⟩ ⟨Nat.le_of_ble_eq_true rfl, rfl⟩ (by decide) (by decide) (kx_look hst.1.1 (jr_toInt _) (jr_toInt _)) hiv (by decide) hst kk
set_option maxRecDepth 20000 in
theorem lk_op12 (C0 : lw_At p s m meth c b L xs) (hL : L ≤ 3072) (hK : mj_K s.heap.size t cA D s) (hc1 : cells ≤ 601024) (hc2 : slots ≤ 7293034) (hiv : iv + 6 ≤ L) (hst : lk_st s b iv t cA D S σ H locs ls)
    (kk : ∀ S' τ H1 locs1, lk_st s b iv t cA D S' τ H1 locs1 ls → W p l e room_1 s m #[Value.ref b] below meth c H1 locs1 cells slots Q (F0 m 1368 ls [])) : W p l e room_1 s m #[Value.ref b] below meth c H locs cells slots Q (F0 m 679 ls []) :=
  lk_case (n := 2) (yC := 160) (ixC := 77) (fC := 371) (yM := 278) (ixM := 80) (fM := 372) (off := 657) C0 hL hK hc1 hc2 (by decide +kernel) jm_X11_after jm_X12_after rfl rfl rfl (fun _ => rfl) ⟨Nat.le_of_ble_eq_true rfl, rfl⟩ ⟨Nat.le_of_ble_eq_true rfl, rfl⟩ (by decide) (by decide) (kx_after hst.1.1 (jr_toInt _) (jr_toInt _)) hiv (by decide) hst kk
set_option maxRecDepth 20000 in
theorem lk_op13 (C0 : lw_At p s m meth c b L xs) (hL : L ≤ 3072) (hK : mj_K s.heap.size t cA D s) (hc1 : cells ≤ 601024) (hc2 : slots ≤ 7293034) (hiv : iv + 6 ≤ L) (hst : lk_st s b iv t cA D S σ H locs ls)
    (kk : ∀ S' τ H1 locs1, lk_st s b iv t cA D S' τ H1 locs1 ls → W p l e room_1 s m #[Value.ref b] below meth c H1 locs1 cells slots Q (F0 m 1368 ls [])) : W p l e room_1 s m #[Value.ref b] below meth c H locs cells slots Q (F0 m 716 ls []) :=
  lk_case (n := 1) (yC := 161) (ixC := 81) (fC := 373) (yM := 279) (ixM := 84) (fM := 374) (off := 632) C0 hL hK hc1 hc2 (by decide +kernel) jm_X11_relations jm_X12_relations rfl rfl rfl (fun _ => rfl) ⟨Nat.le_of_ble_eq_true rfl, rfl⟩ ⟨Nat.le_of_ble_eq_true rfl, rfl⟩ (by decide) (by decide) (kx_relations hst.1.1 (jr_toInt _)) hiv (by decide) hst kk
set_option maxRecDepth 20000 in
theorem lk_op14 (C0 : lw_At p s m meth c b L xs) (hL : L ≤ 3072) (hK : mj_K s.heap.size t cA D s) (hc1 : cells ≤ 601024) (hc2 : slots ≤ 7293034) (hiv : iv + 6 ≤ L) (hst : lk_st s b iv t cA D S σ H locs ls)
    (kk : ∀ S' τ H1 locs1, lk_st s b iv t cA D S' τ H1 locs1 ls → W p l e room_1 s m #[Value.ref b] below meth c H1 locs1 cells slots Q (F0 m 1368 ls [])) : W p l e room_1 s m #[Value.ref b] below meth c H locs cells slots Q (F0 m 741 ls []) :=
  lk_case (n := 0) (yC := 162) (ixC := 85) (fC := 375) (yM := 280) (ixM := 88) (fM := 376) (off := 619) C0 hL hK hc1 hc2 (by decide +kernel) jm_X11_conflicts jm_X12_conflicts rfl rfl rfl (fun _ => rfl) ⟨Nat.le_of_ble_eq_true rfl, rfl⟩ ⟨Nat.le_of_ble_eq_true rfl, rfl⟩ (by decide) (by decide) (kx_conflicts hst.1.1 ) hiv (by decide) hst kk
set_option maxRecDepth 20000 in
theorem lk_op15 (C0 : lw_At p s m meth c b L xs) (hL : L ≤ 3072) (hK : mj_K s.heap.size t cA D s) (hc1 : cells ≤ 601024) (hc2 : slots ≤ 7293034) (hiv : iv + 6 ≤ L) (hst : lk_st s b iv t cA D S σ H locs ls)
    (kk : ∀ S' τ H1 locs1, lk_st s b iv t cA D S' τ H1 locs1 ls → W p l e room_1 s m #[Value.ref b] below meth c H1 locs1 cells slots Q (F0 m 1368 ls [])) : W p l e room_1 s m #[Value.ref b] below meth c H locs cells slots Q (F0 m 754 ls []) :=
  lk_case (n := 2) (yC := 163) (ixC := 89) (fC := 377) (yM := 281) (ixM := 92) (fM := 378) (off := 582) C0 hL hK hc1 hc2 (by decide +kernel) jm_X11_conflict jm_X12_conflict rfl rfl rfl (fun _ => rfl) ⟨Nat.le_of_ble_eq_true rfl, rfl⟩ ⟨Nat.le_of_ble_eq_true rfl, rfl⟩ (by decide) (by decide) (kx_conflict hst.1.1 (jr_toInt _) (jr_toInt _)) hiv (by decide) hst kk
set_option maxRecDepth 20000 in
theorem lk_op16 (C0 : lw_At p s m meth c b L xs) (hL : L ≤ 3072) (hK : mj_K s.heap.size t cA D s) (hc1 : cells ≤ 601024) (hc2 : slots ≤ 7293034) (hiv : iv + 6 ≤ L) (hst : lk_st s b iv t cA D S σ H locs ls)
    (kk : ∀ S' τ H1 locs1, lk_st s b iv t cA D S' τ H1 locs1 ls → W p l e room_1 s m #[Value.ref b] below meth c H1 locs1 cells slots Q (F0 m 1368 ls [])) : W p l e room_1 s m #[Value.ref b] below meth c H locs cells slots Q (F0 m 791 ls []) :=
  lk_case (n := 2) (yC := 164) (ixC := 93) (fC := 379) (yM := 282) (ixM := 96) (fM := 380) (off := 545) C0 hL hK hc1 hc2 (by decide +kernel) jm_X11_witness jm_X12_witness rfl rfl rfl (fun _ => rfl) ⟨Nat.le_of_ble_eq_true rfl, rfl⟩ ⟨Nat.le_of_ble_eq_true rfl, rfl⟩ (by decide) (by decide) (kx_witness hst.1.1 (jr_toInt _) (jr_toInt _)) hiv (by decide) hst kk
set_option maxRecDepth 20000 in
theorem lk_op17 (C0 : lw_At p s m meth c b L xs) (hL : L ≤ 3072) (hK : mj_K s.heap.size t cA D s) (hc1 : cells ≤ 601024) (hc2 : slots ≤ 7293034) (hiv : iv + 6 ≤ L) (hst : lk_st s b iv t cA D S σ H locs ls)
    (kk : ∀ S' τ H1 locs1, lk_st s b iv t cA D S' τ H1 locs1 ls → W p l e room_1 s m #[Value.ref b] below meth c H1 locs1 cells slots Q (F0 m 1368 ls [])) : W p l e room_1 s m #[Value.ref b] below meth c H locs cells slots Q (F0 m 828 ls []) :=
  lk_case (n := 2) (yC := 165) (ixC := 97) (fC := 381) (yM := 283) (ixM := 100) (fM := 382) (off := 508) C0 hL hK hc1 hc2 (by decide +kernel) jm_X11_shortest jm_X12_shortest rfl rfl rfl (fun _ => rfl) ⟨Nat.le_of_ble_eq_true rfl, rfl⟩ ⟨Nat.le_of_ble_eq_true rfl, rfl⟩ (by decide) (by decide) (kx_shortest hst.1.1 (jr_toInt _) (jr_toInt _)) hiv (by decide) hst kk
set_option maxRecDepth 20000 in
theorem lk_op18 (C0 : lw_At p s m meth c b L xs) (hL : L ≤ 3072) (hK : mj_K s.heap.size t cA D s) (hc1 : cells ≤ 601024) (hc2 : slots ≤ 7293034) (hiv : iv + 6 ≤ L) (hst : lk_st s b iv t cA D S σ H locs ls)
    (kk : ∀ S' τ H1 locs1, lk_st s b iv t cA D S' τ H1 locs1 ls → W p l e room_1 s m #[Value.ref b] below meth c H1 locs1 cells slots Q (F0 m 1368 ls [])) : W p l e room_1 s m #[Value.ref b] below meth c H locs cells slots Q (F0 m 865 ls []) :=
  lk_case (n := 1) (yC := 166) (ixC := 101) (fC := 383) (yM := 284) (ixM := 104) (fM := 384) (off := 483) C0 hL hK hc1 hc2 (by decide +kernel) jm_X11_offset jm_X12_offset rfl rfl rfl (fun _ => rfl) ⟨Nat.le_of_ble_eq_true rfl, rfl⟩ ⟨Nat.le_of_ble_eq_true rfl, rfl⟩ (by decide) (by decide) (kx_offset hst.1.1 (jr_toInt _)) hiv (by decide) hst kk
set_option maxRecDepth 20000 in
theorem lk_op19 (C0 : lw_At p s m meth c b L xs) (hL : L ≤ 3072) (hK : mj_K s.heap.size t cA D s) (hc1 : cells ≤ 601024) (hc2 : slots ≤ 7293034) (hiv : iv + 6 ≤ L) (hst : lk_st s b iv t cA D S σ H locs ls)
    (kk : ∀ S' τ H1 locs1, lk_st s b iv t cA D S' τ H1 locs1 ls → W p l e room_1 s m #[Value.ref b] below meth c H1 locs1 cells slots Q (F0 m 1368 ls [])) : W p l e room_1 s m #[Value.ref b] below meth c H locs cells slots Q (F0 m 890 ls []) :=
  lk_case (n := 2) (yC := 167) (ixC := 105) (fC := 385) (yM := 285) (ixM := 108) (fM := 386) (off := 446) C0 hL hK hc1 hc2 (by decide +kernel) jm_X11_packed jm_X12_packed rfl rfl rfl (fun _ => rfl) ⟨Nat.le_of_ble_eq_true rfl, rfl⟩ ⟨Nat.le_of_ble_eq_true rfl, rfl⟩ (by decide) (by decide) (kx_packed hst.1.1 (jr_toInt _) (jr_toInt _)) hiv (by decide) hst kk
set_option maxRecDepth 20000 in
theorem lk_op20 (C0 : lw_At p s m meth c b L xs) (hL : L ≤ 3072) (hK : mj_K s.heap.size t cA D s) (hc1 : cells ≤ 601024) (hc2 : slots ≤ 7293034) (hiv : iv + 6 ≤ L) (hst : lk_st s b iv t cA D S σ H locs ls)
    (kk : ∀ S' τ H1 locs1, lk_st s b iv t cA D S' τ H1 locs1 ls → W p l e room_1 s m #[Value.ref b] below meth c H1 locs1 cells slots Q (F0 m 1368 ls [])) : W p l e room_1 s m #[Value.ref b] below meth c H locs cells slots Q (F0 m 927 ls []) :=
  lk_case (n := 1) (yC := 168) (ixC := 109) (fC := 387) (yM := 292) (ixM := 112) (fM := 388) (off := 421) C0 hL hK hc1 hc2 (by decide +kernel) jm_X11_sentences jm_X12_sentences rfl rfl rfl (fun _ => rfl) ⟨Nat.le_of_ble_eq_true rfl, rfl⟩ ⟨Nat.le_of_ble_eq_true rfl, rfl⟩ (by decide) (by decide) (kx_sentences hst.1.1 (jr_toInt _)) hiv (by decide) hst kk
set_option maxRecDepth 20000 in
theorem lk_op21 (C0 : lw_At p s m meth c b L xs) (hL : L ≤ 3072) (hK : mj_K s.heap.size t cA D s) (hc1 : cells ≤ 601024) (hc2 : slots ≤ 7293034) (hiv : iv + 6 ≤ L) (hst : lk_st s b iv t cA D S σ H locs ls)
    (kk : ∀ S' τ H1 locs1, lk_st s b iv t cA D S' τ H1 locs1 ls → W p l e room_1 s m #[Value.ref b] below meth c H1 locs1 cells slots Q (F0 m 1368 ls [])) : W p l e room_1 s m #[Value.ref b] below meth c H locs cells slots Q (F0 m 952 ls []) :=
  lk_case (n := 1) (yC := 171) (ixC := 113) (fC := 389) (yM := 293) (ixM := 116) (fM := 390) (off := 396) C0 hL hK hc1 hc2 (by decide +kernel) jm_X11_read jm_X12_read rfl rfl rfl (fun _ => rfl) ⟨Nat.le_of_ble_eq_true rfl, rfl⟩ ⟨Nat.le_of_ble_eq_true rfl, rfl⟩ (by decide) (by decide) (kx_read hst.1.1 (jr_toInt _)) hiv (by decide) hst kk
set_option maxRecDepth 20000 in
theorem lk_op22 (C0 : lw_At p s m meth c b L xs) (hL : L ≤ 3072) (hK : mj_K s.heap.size t cA D s) (hc1 : cells ≤ 601024) (hc2 : slots ≤ 7293034) (hiv : iv + 6 ≤ L) (hst : lk_st s b iv t cA D S σ H locs ls)
    (kk : ∀ S' τ H1 locs1, lk_st s b iv t cA D S' τ H1 locs1 ls → W p l e room_1 s m #[Value.ref b] below meth c H1 locs1 cells slots Q (F0 m 1368 ls [])) : W p l e room_1 s m #[Value.ref b] below meth c H locs cells slots Q (F0 m 977 ls []) :=
  lk_case (n := 0) (yC := 172) (ixC := 117) (fC := 391) (yM := 294) (ixM := 120) (fM := 392) (off := 383) C0 hL hK hc1 hc2 (by decide +kernel) jm_X11_whole jm_X12_whole rfl rfl rfl (fun _ => rfl) ⟨Nat.le_of_ble_eq_true rfl, rfl⟩ ⟨Nat.le_of_ble_eq_true rfl, rfl⟩ (by decide) (by decide) (kx_whole hst.1.1 ) hiv (by decide) hst kk
set_option maxRecDepth 20000 in
theorem lk_op23 (C0 : lw_At p s m meth c b L xs) (hL : L ≤ 3072) (hK : mj_K s.heap.size t cA D s) (hc1 : cells ≤ 601024) (hc2 : slots ≤ 7293034) (hiv : iv + 6 ≤ L) (hst : lk_st s b iv t cA D S σ H locs ls)
    (kk : ∀ S' τ H1 locs1, lk_st s b iv t cA D S' τ H1 locs1 ls → W p l e room_1 s m #[Value.ref b] below meth c H1 locs1 cells slots Q (F0 m 1368 ls [])) : W p l e room_1 s m #[Value.ref b] below meth c H locs cells slots Q (F0 m 990 ls []) :=
  lk_case (n := 0) (yC := 173) (ixC := 121) (fC := 393) (yM := 295) (ixM := 124) (fM := 394) (off := 370) C0 hL hK hc1 hc2 (by decide +kernel) jm_X11_expected jm_X12_expected rfl rfl rfl (fun _ => rfl) ⟨Nat.le_of_ble_eq_true rfl, rfl⟩ ⟨Nat.le_of_ble_eq_true rfl, rfl⟩ (by decide) (by decide) (kx_expected hst.1.1 ) hiv (by decide) hst kk
set_option maxRecDepth 20000 in
theorem lk_op24 (C0 : lw_At p s m meth c b L xs) (hL : L ≤ 3072) (hK : mj_K s.heap.size t cA D s) (hc1 : cells ≤ 601024) (hc2 : slots ≤ 7293034) (hiv : iv + 6 ≤ L) (hst : lk_st s b iv t cA D S σ H locs ls)
    (kk : ∀ S' τ H1 locs1, lk_st s b iv t cA D S' τ H1 locs1 ls → W p l e room_1 s m #[Value.ref b] below meth c H1 locs1 cells slots Q (F0 m 1368 ls [])) : W p l e room_1 s m #[Value.ref b] below meth c H locs cells slots Q (F0 m 1003 ls []) :=
  lk_case (n := 1) (yC := 174) (ixC := 125) (fC := 395) (yM := 296) (ixM := 128) (fM := 396) (off := 345) C0 hL hK hc1 hc2 (by decide +kernel) jm_X11_stack jm_X12_stack rfl rfl rfl (fun _ => rfl) ⟨Nat.le_of_ble_eq_true rfl, rfl⟩ ⟨Nat.le_of_ble_eq_true rfl, rfl⟩ (by decide) (by decide) (kx_stack hst.1.1 (jr_toInt _)) hiv (by decide) hst kk
set_option maxRecDepth 20000 in
theorem lk_op25 (C0 : lw_At p s m meth c b L xs) (hL : L ≤ 3072) (hK : mj_K s.heap.size t cA D s) (hc1 : cells ≤ 601024) (hc2 : slots ≤ 7293034) (hiv : iv + 6 ≤ L) (hst : lk_st s b iv t cA D S σ H locs ls)
    (kk : ∀ S' τ H1 locs1, lk_st s b iv t cA D S' τ H1 locs1 ls → W p l e room_1 s m #[Value.ref b] below meth c H1 locs1 cells slots Q (F0 m 1368 ls [])) : W p l e room_1 s m #[Value.ref b] below meth c H locs cells slots Q (F0 m 1028 ls []) :=
  lk_case (n := 2) (yC := 175) (ixC := 129) (fC := 397) (yM := 298) (ixM := 132) (fM := 398) (off := 308) C0 hL hK hc1 hc2 (by decide +kernel) jm_X11_game jm_X12_game rfl rfl rfl (fun _ => rfl) ⟨Nat.le_of_ble_eq_true rfl, rfl⟩ ⟨Nat.le_of_ble_eq_true rfl, rfl⟩ (by decide) (by decide) (kx_game hst.1.1 (jr_toInt _) (jr_toInt _)) hiv (by decide) hst kk
set_option maxRecDepth 20000 in
theorem lk_op27 (C0 : lw_At p s m meth c b L xs) (hL : L ≤ 3072) (hK : mj_K s.heap.size t cA D s) (hc1 : cells ≤ 601024) (hc2 : slots ≤ 7293034) (hiv : iv + 6 ≤ L) (hst : lk_st s b iv t cA D S σ H locs ls)
    (kk : ∀ S' τ H1 locs1, lk_st s b iv t cA D S' τ H1 locs1 ls → W p l e room_1 s m #[Value.ref b] below meth c H1 locs1 cells slots Q (F0 m 1368 ls [])) : W p l e room_1 s m #[Value.ref b] below meth c H locs cells slots Q (F0 m 1130 ls []) :=
  lk_case (n := 1) (yC := 178) (ixC := 138) (fC := 401) (yM := 301) (ixM := 141) (fM := 402) (off := 218) C0 hL hK hc1 hc2 (by decide +kernel) jm_X11_strike jm_X12_strike rfl rfl rfl (fun _ => rfl) ⟨Nat.le_of_ble_eq_true rfl, rfl⟩ ⟨Nat.le_of_ble_eq_true rfl, rfl⟩ (by decide) (by decide) (kx_strike hst.1.1 (jr_toInt _)) hiv (by decide) hst kk
set_option maxRecDepth 20000 in
theorem lk_op28 (C0 : lw_At p s m meth c b L xs) (hL : L ≤ 3072) (hK : mj_K s.heap.size t cA D s) (hc1 : cells ≤ 601024) (hc2 : slots ≤ 7293034) (hiv : iv + 6 ≤ L) (hst : lk_st s b iv t cA D S σ H locs ls)
    (kk : ∀ S' τ H1 locs1, lk_st s b iv t cA D S' τ H1 locs1 ls → W p l e room_1 s m #[Value.ref b] below meth c H1 locs1 cells slots Q (F0 m 1368 ls [])) : W p l e room_1 s m #[Value.ref b] below meth c H locs cells slots Q (F0 m 1155 ls []) :=
  lk_case (n := 1) (yC := 179) (ixC := 142) (fC := 403) (yM := 302) (ixM := 146) (fM := 404) (off := 193) C0 hL hK hc1 hc2 (by decide +kernel) jm_X11_known jm_X12_known rfl rfl rfl (fun _ => rfl) ⟨Nat.le_of_ble_eq_true rfl, rfl⟩ ⟨Nat.le_of_ble_eq_true rfl, rfl⟩ (by decide) (by decide) (kx_known hst.1.1 (jr_toInt _)) hiv (by decide) hst kk
set_option maxRecDepth 20000 in
theorem lk_op29 (C0 : lw_At p s m meth c b L xs) (hL : L ≤ 3072) (hK : mj_K s.heap.size t cA D s) (hc1 : cells ≤ 601024) (hc2 : slots ≤ 7293034) (hiv : iv + 6 ≤ L) (hst : lk_st s b iv t cA D S σ H locs ls)
    (kk : ∀ S' τ H1 locs1, lk_st s b iv t cA D S' τ H1 locs1 ls → W p l e room_1 s m #[Value.ref b] below meth c H1 locs1 cells slots Q (F0 m 1368 ls [])) : W p l e room_1 s m #[Value.ref b] below meth c H locs cells slots Q (F0 m 1180 ls []) :=
  lk_case (n := 0) (yC := 180) (ixC := 147) (fC := 405) (yM := 306) (ixM := 150) (fM := 406) (off := 180) C0 hL hK hc1 hc2 (by decide +kernel) jm_X11_missing jm_X12_missing rfl rfl rfl (fun _ => rfl) ⟨Nat.le_of_ble_eq_true rfl, rfl⟩ ⟨Nat.le_of_ble_eq_true rfl, rfl⟩ (by decide) (by decide) (kx_missing hst.1.1 ) hiv (by decide) hst kk
set_option maxRecDepth 20000 in
theorem lk_op30 (C0 : lw_At p s m meth c b L xs) (hL : L ≤ 3072) (hK : mj_K s.heap.size t cA D s) (hc1 : cells ≤ 601024) (hc2 : slots ≤ 7293034) (hiv : iv + 6 ≤ L) (hst : lk_st s b iv t cA D S σ H locs ls)
    (kk : ∀ S' τ H1 locs1, lk_st s b iv t cA D S' τ H1 locs1 ls → W p l e room_1 s m #[Value.ref b] below meth c H1 locs1 cells slots Q (F0 m 1368 ls [])) : W p l e room_1 s m #[Value.ref b] below meth c H locs cells slots Q (F0 m 1193 ls []) :=
  lk_case (n := 2) (yC := 181) (ixC := 151) (fC := 407) (yM := 307) (ixM := 154) (fM := 408) (off := 143) C0 hL hK hc1 hc2 (by decide +kernel) jm_X11_ask jm_X12_ask rfl rfl rfl (fun _ => rfl) ⟨Nat.le_of_ble_eq_true rfl, rfl⟩ ⟨Nat.le_of_ble_eq_true rfl, rfl⟩ (by decide) (by decide) (kx_ask hst.1.1 (jr_toInt _) (jr_toInt _)) hiv (by decide) hst kk
set_option maxRecDepth 20000 in
theorem lk_op31 (C0 : lw_At p s m meth c b L xs) (hL : L ≤ 3072) (hK : mj_K s.heap.size t cA D s) (hc1 : cells ≤ 601024) (hc2 : slots ≤ 7293034) (hiv : iv + 6 ≤ L) (hst : lk_st s b iv t cA D S σ H locs ls)
    (kk : ∀ S' τ H1 locs1, lk_st s b iv t cA D S' τ H1 locs1 ls → W p l e room_1 s m #[Value.ref b] below meth c H1 locs1 cells slots Q (F0 m 1368 ls [])) : W p l e room_1 s m #[Value.ref b] below meth c H locs cells slots Q (F0 m 1230 ls []) :=
  lk_case (n := 2) (yC := 182) (ixC := 155) (fC := 409) (yM := 309) (ixM := 158) (fM := 410) (off := 106) C0 hL hK hc1 hc2 (by decide +kernel) jm_X11_chance jm_X12_chance rfl rfl rfl (fun _ => rfl) ⟨Nat.le_of_ble_eq_true rfl, rfl⟩ ⟨Nat.le_of_ble_eq_true rfl, rfl⟩ (by decide) (by decide) (kx_chance hst.1.1 (jr_toInt _) (jr_toInt _)) hiv (by decide) hst kk
set_option maxRecDepth 20000 in
theorem lk_op32 (C0 : lw_At p s m meth c b L xs) (hL : L ≤ 3072) (hK : mj_K s.heap.size t cA D s) (hc1 : cells ≤ 601024) (hc2 : slots ≤ 7293034) (hiv : iv + 6 ≤ L) (hst : lk_st s b iv t cA D S σ H locs ls)
    (kk : ∀ S' τ H1 locs1, lk_st s b iv t cA D S' τ H1 locs1 ls → W p l e room_1 s m #[Value.ref b] below meth c H1 locs1 cells slots Q (F0 m 1368 ls [])) : W p l e room_1 s m #[Value.ref b] below meth c H locs cells slots Q (F0 m 1267 ls []) :=
  lk_case (n := 2) (yC := 183) (ixC := 159) (fC := 411) (yM := 310) (ixM := 162) (fM := 412) (off := 69) C0 hL hK hc1 hc2 (by decide +kernel) jm_X11_tried jm_X12_tried rfl rfl rfl (fun _ => rfl) ⟨Nat.le_of_ble_eq_true rfl, rfl⟩ ⟨Nat.le_of_ble_eq_true rfl, rfl⟩ (by decide) (by decide) (kx_tried hst.1.1 (jr_toInt _) (jr_toInt _)) hiv (by decide) hst kk
set_option maxRecDepth 20000 in
theorem lk_op33 (C0 : lw_At p s m meth c b L xs) (hL : L ≤ 3072) (hK : mj_K s.heap.size t cA D s) (hc1 : cells ≤ 601024) (hc2 : slots ≤ 7293034) (hiv : iv + 6 ≤ L) (hst : lk_st s b iv t cA D S σ H locs ls)
    (kk : ∀ S' τ H1 locs1, lk_st s b iv t cA D S' τ H1 locs1 ls → W p l e room_1 s m #[Value.ref b] below meth c H1 locs1 cells slots Q (F0 m 1368 ls [])) : W p l e room_1 s m #[Value.ref b] below meth c H locs cells slots Q (F0 m 1304 ls []) :=
  lk_case (n := 0) (yC := 185) (ixC := 163) (fC := 413) (yM := 314) (ixM := 166) (fM := 414) (off := 56) C0 hL hK hc1 hc2 (by decide +kernel) jm_X11_undo jm_X12_undo rfl rfl rfl (fun _ => rfl) ⟨Nat.le_of_ble_eq_true rfl, rfl⟩ ⟨Nat.le_of_ble_eq_true rfl, rfl⟩ (by decide) (by decide) (kx_undo hst.1.1 ) hiv (by decide) hst kk
set_option maxRecDepth 20000 in
theorem lk_op34 (C0 : lw_At p s m meth c b L xs) (hL : L ≤ 3072) (hK : mj_K s.heap.size t cA D s) (hc1 : cells ≤ 601024) (hc2 : slots ≤ 7293034) (hiv : iv + 6 ≤ L) (hst : lk_st s b iv t cA D S σ H locs ls)
    (kk : ∀ S' τ H1 locs1, lk_st s b iv t cA D S' τ H1 locs1 ls → W p l e room_1 s m #[Value.ref b] below meth c H1 locs1 cells slots Q (F0 m 1368 ls [])) : W p l e room_1 s m #[Value.ref b] below meth c H locs cells slots Q (F0 m 1317 ls []) :=
  lk_case (n := 0) (yC := 186) (ixC := 167) (fC := 415) (yM := 315) (ixM := 170) (fM := 416) (off := 43) C0 hL hK hc1 hc2 (by decide +kernel) jm_X11_keep jm_X12_keep rfl rfl rfl (fun _ => rfl) ⟨Nat.le_of_ble_eq_true rfl, rfl⟩ ⟨Nat.le_of_ble_eq_true rfl, rfl⟩ (by decide) (by decide) (kx_keep hst.1.1 ) hiv (by decide) hst kk
set_option maxRecDepth 20000 in
theorem lk_op35 (C0 : lw_At p s m meth c b L xs) (hL : L ≤ 3072) (hK : mj_K s.heap.size t cA D s) (hc1 : cells ≤ 601024) (hc2 : slots ≤ 7293034) (hiv : iv + 6 ≤ L) (hst : lk_st s b iv t cA D S σ H locs ls)
    (kk : ∀ S' τ H1 locs1, lk_st s b iv t cA D S' τ H1 locs1 ls → W p l e room_1 s m #[Value.ref b] below meth c H1 locs1 cells slots Q (F0 m 1368 ls [])) : W p l e room_1 s m #[Value.ref b] below meth c H locs cells slots Q (F0 m 1330 ls []) :=
  lk_case (n := 0) (yC := 187) (ixC := 171) (fC := 417) (yM := 316) (ixM := 174) (fM := 418) (off := 30) C0 hL hK hc1 hc2 (by decide +kernel) jm_X11_back jm_X12_back rfl rfl rfl (fun _ => rfl) ⟨Nat.le_of_ble_eq_true rfl, rfl⟩ ⟨Nat.le_of_ble_eq_true rfl, rfl⟩ (by decide) (by decide) (kx_back hst.1.1 ) hiv (by decide) hst kk
set_option maxRecDepth 20000 in
theorem lk_op36 (C0 : lw_At p s m meth c b L xs) (hL : L ≤ 3072) (hK : mj_K s.heap.size t cA D s) (hc1 : cells ≤ 601024) (hc2 : slots ≤ 7293034) (hiv : iv + 6 ≤ L) (hst : lk_st s b iv t cA D S σ H locs ls)
    (kk : ∀ S' τ H1 locs1, lk_st s b iv t cA D S' τ H1 locs1 ls → W p l e room_1 s m #[Value.ref b] below meth c H1 locs1 cells slots Q (F0 m 1368 ls [])) : W p l e room_1 s m #[Value.ref b] below meth c H locs cells slots Q (F0 m 1343 ls []) :=
  lk_case (n := 1) (yC := 188) (ixC := 175) (fC := 419) (yM := 317) (ixM := 178) (fM := 420) (off := 5) C0 hL hK hc1 hc2 (by decide +kernel) jm_X11_count jm_X12_count rfl rfl rfl (fun _ => rfl) ⟨Nat.le_of_ble_eq_true rfl, rfl⟩ ⟨Nat.le_of_ble_eq_true rfl, rfl⟩ (by decide) (by decide) (kx_count hst.1.1 (jr_toInt _)) hiv (by decide) hst kk
/-- an int that is asked for its truth -/
theorem lk_truth {o g : Int} {a1 a2 : Nat} {x : Int32} {st : List Value} (hx : p.tables.exec = Jvm.exec) (hb : c.code = code) (q1 : lk_q pc (.ifCond .eq o, a1, 0, 0) = true) (q2 : lk_i (pc + 3) (.iconst 1) = true) (q3 : lk_q (pc + 3 + 1) (.goto g, a2, 0, 0) = true) (q4 : lk_i a1 (.iconst 0) = true) (e1 : (pc : Int) + o = (a1 : Nat)) (e2 : ((pc + 3 + 1 : Nat) : Int) + g = (a2 : Nat)) (e3 : a2 = a1 + 1)
    (kk : W p l e room_1 s m #[Value.ref b] below meth c H locs cells slots Q (F0 m a2 ls (.int (Int32.ofInt (if x = 0 then 0 else 1)) :: st))) : W p l e room_1 s m #[Value.ref b] below meth c H locs cells slots Q (F0 m pc ls (.int x :: st)) := by
  refine lv_if_eq hx hb (lk_dec q1) e1 (fun h => ?_) (fun h => ?_)
  · rw [if_pos h] at kk
    refine lv_iconst (v := Int32.ofInt 0) hx hb (lk_dec q4) rfl ?_
    rw [← e3]
    exact kk
  · rw [if_neg h] at kk
    refine lv_iconst (v := Int32.ofInt 1) hx hb (lk_dec q2) rfl ?_
    exact lv_goto hx hb (lk_dec q3) e2 kk
set_option maxRecDepth 20000 in
theorem lk_op26 (C0 : lw_At p s m meth c b L xs) (hL : L ≤ 3072) (hK : mj_K s.heap.size t cA D s) (hc1 : cells ≤ 601024) (hc2 : slots ≤ 7293034) (hiv : iv + 6 ≤ L) (hst : lk_st s b iv t cA D S σ H locs ls)
    (kk : ∀ S' τ H1 locs1, lk_st s b iv t cA D S' τ H1 locs1 ls → W p l e room_1 s m #[Value.ref b] below meth c H1 locs1 cells slots Q (F0 m 1368 ls [])) : W p l e room_1 s m #[Value.ref b] below meth c H locs cells slots Q (F0 m 1065 ls []) := by
  obtain ⟨⟨hP, hC, hM⟩, hH, hS, hls⟩ := hst
  have hx := C0.1
  have hb := C0.2.1
  obtain ⟨k, hk⟩ : ∃ k : Int, k = if Int32.ofInt (xs (iv + 3)).toInt = 0 then 0 else 1 := ⟨_, rfl⟩
  have hk01 : k = 0 ∨ k = 1 := by
    by_cases h : Int32.ofInt (xs (iv + 3)).toInt = 0
    · rw [if_pos h] at hk; exact Or.inl hk
    · rw [if_neg h] at hk; exact Or.inr hk
  obtain ⟨z, S', hP', hTC, hTM⟩ := kx_note hP (jr_toInt (xs (iv + 1))) (jr_toInt (xs (iv + 2))) hk01
  refine lv_aload_n hx hb (lk_dec (pc := 1065) (i := .aload_n 1) (a := 0) (b := 0) (f := 0) (by decide +kernel)) rfl (lv_at hls 1 rfl) ?_
  refine lk_args (t := t) C0 hL hS (lv_at hls 0 rfl) (lv_at hls 4 rfl) 3 1066 1 [.ref 0] (by decide +kernel) (by omega) ?_
  refine lk_truth hx hb (a1 := 1091) (a2 := 1092) (o := 7) (g := 4) (by decide +kernel) (by decide +kernel) (by decide +kernel) (by decide +kernel) (by decide) (by decide) rfl ?_
  rw [← hk]
  refine lk_call (st := [.int (Int32.ofInt k), .int (Int32.ofInt (xs (iv + 2)).toInt), .int (Int32.ofInt (xs (iv + 1)).toInt), .ref 0]) (st' := []) (y := 177) (ix := 133) (f := 399) C0 hK hls.1 hc1 hc2 (by decide +kernel) jm_X11_note rfl rfl (by decide) ⟨Nat.le_of_ble_eq_true rfl, rfl⟩ (by decide) (by decide) (hTC σ hC) hH hS (fun z1 τ1 hz1 H1 locs1 hH1 hS1 => ?_)
  obtain ⟨rfl, hf1, hC2⟩ := hz1
  have hM2 : kx_M τ1 S := kx_M_fr hM hf1 (fun c i q1 q2 => by unfold kx_wm kW_mg kW_m0 at q1; unfold kW_c at q2; omega)
  refine lv_aload_n hx hb (lk_dec (pc := 1095) (i := .aload_n 2) (a := 0) (b := 0) (f := 0) (by decide +kernel)) rfl (lv_at hls 2 rfl) ?_
  refine lk_args (t := t) C0 hL hS1 (lv_at hls 0 rfl) (lv_at hls 4 rfl) 3 1096 1 [.ref 92, .int (Int32.ofInt z1)] (by decide +kernel) (by omega) ?_
  refine lk_truth hx hb (a1 := 1121) (a2 := 1122) (o := 7) (g := 4) (by decide +kernel) (by decide +kernel) (by decide +kernel) (by decide +kernel) (by decide) (by decide) rfl ?_
  rw [← hk]
  refine lk_call (st := [.int (Int32.ofInt k), .int (Int32.ofInt (xs (iv + 2)).toInt), .int (Int32.ofInt (xs (iv + 1)).toInt), .ref 92, .int (Int32.ofInt z1)]) (st' := [.int (Int32.ofInt z1)]) (y := 300) (ix := 137) (f := 400) C0 hK hls.1 hc1 hc2 (by decide +kernel) jm_X12_note rfl rfl (by decide) ⟨Nat.le_of_ble_eq_true rfl, rfl⟩ (Nat.le_of_ble_eq_true rfl) (by decide) (hTM τ1 hM2) hH1 hS1 (fun z2 τ2 hz2 H2 locs2 hH2 hS2 => ?_)
  obtain ⟨rfl, hf2, hM3⟩ := hz2
  have hC3 : kx_C τ2 S' := kx_C_fr hC2 hf2 (fun c i q1 q2 => by
    have hT := hC2.1.1.1
    unfold kx_wc at q1; unfold kW_m at q2; omega)
  exact lv_icmp_eq (tgt := 1368) hx hb (lk_dec (pc := 1125) (i := .if_icmp .eq 243) (a := 1368) (b := 0) (f := 0) (by decide +kernel)) (by decide) (fun _ => kk S' τ2 H2 locs2 ⟨⟨hP', hC3, hM3⟩, hH2, hS2, hls⟩) (fun h => absurd rfl h)
end LKC
