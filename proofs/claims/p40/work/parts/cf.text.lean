/-! LalrDeskLaw.text: a text is fed and told -/
theorem zl_feed : zl_ok 18 141 mm_X11_feed := ⟨rfl, rfl, mj_gw_of (q := 5135) (by decide +kernel) rfl, mj_gw_of (q := 5136) (by decide +kernel) rfl, mj_gw_of (q := 5137) (by decide +kernel) rfl⟩
theorem zl_text : zl_ok 24 143 mm_X11_text := ⟨rfl, rfl, mj_gw_of (q := 5143) (by decide +kernel) rfl, mj_gw_of (q := 5144) (by decide +kernel) rfl, mj_gw_of (q := 5145) (by decide +kernel) rfl⟩
theorem zl_count : zl_ok 44 172 mm_X11_count := ⟨rfl, rfl, mj_gw_of (q := 5058) (by decide +kernel) rfl, mj_gw_of (q := 5059) (by decide +kernel) rfl, mj_gw_of (q := 5060) (by decide +kernel) rfl⟩
theorem zl_conflicts : zl_ok 47 151 mm_X11_conflicts := ⟨rfl, rfl, mj_gw_of (q := 3201) (by decide +kernel) rfl, mj_gw_of (q := 3202) (by decide +kernel) rfl, mj_gw_of (q := 3203) (by decide +kernel) rfl⟩
theorem zl_action : zl_ok 50 147 mm_X11_action := ⟨rfl, rfl, mj_gw_of (q := 3137) (by decide +kernel) rfl, mj_gw_of (q := 3138) (by decide +kernel) rfl, mj_gw_of (q := 3139) (by decide +kernel) rfl⟩
theorem zl_conflict : zl_ok 53 152 mm_X11_conflict := ⟨rfl, rfl, mj_gw_of (q := 3215) (by decide +kernel) rfl, mj_gw_of (q := 3216) (by decide +kernel) rfl, mj_gw_of (q := 3217) (by decide +kernel) rfl⟩
theorem zl_tried : zl_ok 78 167 mm_X11_tried := ⟨rfl, rfl, mj_gw_of (q := 5027) (by decide +kernel) rfl, mj_gw_of (q := 5028) (by decide +kernel) rfl, mj_gw_of (q := 5029) (by decide +kernel) rfl⟩
theorem zl_look : zl_ok 81 148 mm_X11_look := ⟨rfl, rfl, mj_gw_of (q := 3146) (by decide +kernel) rfl, mj_gw_of (q := 3147) (by decide +kernel) rfl, mj_gw_of (q := 3148) (by decide +kernel) rfl⟩
theorem zl_kind : zl_ok 84 178 mm_X11_kind := ⟨rfl, rfl, mj_gw_of (q := 2223) (by decide +kernel) rfl, mj_gw_of (q := 2224) (by decide +kernel) rfl, mj_gw_of (q := 2225) (by decide +kernel) rfl⟩
theorem zl_expected : zl_ok 87 159 mm_X11_expected := ⟨rfl, rfl, mj_gw_of (q := 4056) (by decide +kernel) rfl, mj_gw_of (q := 4057) (by decide +kernel) rfl, mj_gw_of (q := 4058) (by decide +kernel) rfl⟩
theorem zl_sentences : zl_ok 90 154 mm_X11_sentences := ⟨rfl, rfl, mj_gw_of (q := 3236) (by decide +kernel) rfl, mj_gw_of (q := 3237) (by decide +kernel) rfl, mj_gw_of (q := 3238) (by decide +kernel) rfl⟩
theorem zl_rule : zl_ok 93 145 mm_X11_rule := ⟨rfl, rfl, mj_gw_of (q := 3090) (by decide +kernel) rfl, mj_gw_of (q := 3091) (by decide +kernel) rfl, mj_gw_of (q := 3092) (by decide +kernel) rfl⟩
theorem zl_read : zl_ok 96 157 mm_X11_read := ⟨rfl, rfl, mj_gw_of (q := 4035) (by decide +kernel) rfl, mj_gw_of (q := 4036) (by decide +kernel) rfl, mj_gw_of (q := 4037) (by decide +kernel) rfl⟩
theorem zl_keep : zl_ok 99 170 mm_X11_keep := ⟨rfl, rfl, mj_gw_of (q := 5046) (by decide +kernel) rfl, mj_gw_of (q := 5047) (by decide +kernel) rfl, mj_gw_of (q := 5048) (by decide +kernel) rfl⟩
theorem zl_back : zl_ok 102 171 mm_X11_back := ⟨rfl, rfl, mj_gw_of (q := 5050) (by decide +kernel) rfl, mj_gw_of (q := 5051) (by decide +kernel) rfl, mj_gw_of (q := 5052) (by decide +kernel) rfl⟩
theorem zl_whole : zl_ok 105 158 mm_X11_whole := ⟨rfl, rfl, mj_gw_of (q := 4052) (by decide +kernel) rfl, mj_gw_of (q := 4053) (by decide +kernel) rfl, mj_gw_of (q := 4054) (by decide +kernel) rfl⟩
theorem zl_undo : zl_ok 108 169 mm_X11_undo := ⟨rfl, rfl, mj_gw_of (q := 5038) (by decide +kernel) rfl, mj_gw_of (q := 5039) (by decide +kernel) rfl, mj_gw_of (q := 5040) (by decide +kernel) rfl⟩
theorem zl_after : zl_ok 113 149 mm_X11_after := ⟨rfl, rfl, mj_gw_of (q := 3166) (by decide +kernel) rfl, mj_gw_of (q := 3167) (by decide +kernel) rfl, mj_gw_of (q := 3168) (by decide +kernel) rfl⟩
theorem zl_relations : zl_ok 116 150 mm_X11_relations := ⟨rfl, rfl, mj_gw_of (q := 3178) (by decide +kernel) rfl, mj_gw_of (q := 3179) (by decide +kernel) rfl, mj_gw_of (q := 3180) (by decide +kernel) rfl⟩
theorem zl_shortest : zl_ok 119 153 mm_X11_shortest := ⟨rfl, rfl, mj_gw_of (q := 3228) (by decide +kernel) rfl, mj_gw_of (q := 3229) (by decide +kernel) rfl, mj_gw_of (q := 3230) (by decide +kernel) rfl⟩
theorem zl_missing : zl_ok 122 166 mm_X11_missing := ⟨rfl, rfl, mj_gw_of (q := 4101) (by decide +kernel) rfl, mj_gw_of (q := 4102) (by decide +kernel) rfl, mj_gw_of (q := 4103) (by decide +kernel) rfl⟩
theorem zl_note : zl_ok 125 163 mm_X11_note := ⟨rfl, rfl, mj_gw_of (q := 4072) (by decide +kernel) rfl, mj_gw_of (q := 4073) (by decide +kernel) rfl, mj_gw_of (q := 4074) (by decide +kernel) rfl⟩
theorem zl_strike : zl_ok 129 164 mm_X11_strike := ⟨rfl, rfl, mj_gw_of (q := 4085) (by decide +kernel) rfl, mj_gw_of (q := 4086) (by decide +kernel) rfl, mj_gw_of (q := 4087) (by decide +kernel) rfl⟩
theorem zl_known : zl_ok 132 165 mm_X11_known := ⟨rfl, rfl, mj_gw_of (q := 4093) (by decide +kernel) rfl, mj_gw_of (q := 4094) (by decide +kernel) rfl, mj_gw_of (q := 4095) (by decide +kernel) rfl⟩
theorem zl_game : zl_ok 136 161 mm_X11_game := ⟨rfl, rfl, mj_gw_of (q := 4065) (by decide +kernel) rfl, mj_gw_of (q := 4066) (by decide +kernel) rfl, mj_gw_of (q := 4067) (by decide +kernel) rfl⟩
theorem zl_state : zl_ok 141 146 mm_X11_state := ⟨rfl, rfl, mj_gw_of (q := 3114) (by decide +kernel) rfl, mj_gw_of (q := 3115) (by decide +kernel) rfl, mj_gw_of (q := 3116) (by decide +kernel) rfl⟩
theorem zl_stack : zl_ok 144 160 mm_X11_stack := ⟨rfl, rfl, mj_gw_of (q := 4060) (by decide +kernel) rfl, mj_gw_of (q := 4061) (by decide +kernel) rfl, mj_gw_of (q := 4062) (by decide +kernel) rfl⟩
theorem zt_lt20 : ∀ i, i < 20 → ¬ (20 : Int32) ≤ Int32.ofNat i := by decide +kernel
theorem zt_div4 : ∀ i, i < 20 → Int32.ofNat i / 4 = Int32.ofNat (i / 4) := by decide +kernel
theorem zt_sh4 : ∀ i, i < 20 → (24 : Int32) - 8 * (Int32.ofNat i - Int32.ofNat i / 4 * 4) = Int32.ofNat (24 - 8 * (i % 4)) := by decide +kernel
theorem zt_in5 : ∀ i, i < 20 → ¬ ((Int32.ofNat (i / 4)) < 0 ∨ 5 ≤ (Int32.ofNat (i / 4)).toNatClampNeg) := by decide +kernel
theorem zt_cl5 : ∀ i, i < 20 → (Int32.ofNat (i / 4)).toNatClampNeg = i / 4 := by decide +kernel
theorem zt_inc : ∀ i, i < 20 → Int32.ofNat i + Int32.ofInt 1 = Int32.ofNat (i + 1) := by decide +kernel
theorem dL_text_17 : decode cL_text 17 = .ok (.iload 4, 2) := by decide +kernel
theorem dL_text_19 : decode cL_text 19 = .ok (.bipush 20, 2) := by decide +kernel
theorem dL_text_21 : decode cL_text 21 = .ok (.if_icmp .ge 53, 3) := by decide +kernel
theorem dL_text_24 : decode cL_text 24 = .ok (.aload_n 3, 1) := by decide +kernel
theorem dL_text_25 : decode cL_text 25 = .ok (.iload 4, 2) := by decide +kernel
theorem dL_text_27 : decode cL_text 27 = .ok (.iconst 4, 1) := by decide +kernel
theorem dL_text_28 : decode cL_text 28 = .ok (.idiv, 1) := by decide +kernel
theorem dL_text_29 : decode cL_text 29 = .ok (.dup2, 1) := by decide +kernel
theorem dL_text_30 : decode cL_text 30 = .ok (.iaload, 1) := by decide +kernel
theorem dL_text_31 : decode cL_text 31 = .ok (.iload_n 2, 1) := by decide +kernel
theorem dL_text_32 : decode cL_text 32 = .ok (.iload 4, 2) := by decide +kernel
theorem dL_text_34 : decode cL_text 34 = .ok (.iadd, 1) := by decide +kernel
theorem dL_text_35 : decode cL_text 35 = .ok (.aload_n 1, 1) := by decide +kernel
theorem dL_text_36 : decode cL_text 36 = .ok (.invokevirtual 8, 3) := by decide +kernel
theorem dL_text_39 : decode cL_text 39 = .ok (.if_icmp .ge 14, 3) := by decide +kernel
theorem dL_text_42 : decode cL_text 42 = .ok (.aload_n 1, 1) := by decide +kernel
theorem dL_text_43 : decode cL_text 43 = .ok (.iload_n 2, 1) := by decide +kernel
theorem dL_text_44 : decode cL_text 44 = .ok (.iload 4, 2) := by decide +kernel
theorem dL_text_46 : decode cL_text 46 = .ok (.iadd, 1) := by decide +kernel
theorem dL_text_47 : decode cL_text 47 = .ok (.invokevirtual 14, 3) := by decide +kernel
theorem dL_text_50 : decode cL_text 50 = .ok (.goto 5, 3) := by decide +kernel
theorem dL_text_53 : decode cL_text 53 = .ok (.bipush 32, 2) := by decide +kernel
theorem dL_text_55 : decode cL_text 55 = .ok (.bipush 24, 2) := by decide +kernel
theorem dL_text_57 : decode cL_text 57 = .ok (.bipush 8, 2) := by decide +kernel
theorem dL_text_59 : decode cL_text 59 = .ok (.iload 4, 2) := by decide +kernel
theorem dL_text_61 : decode cL_text 61 = .ok (.iconst 4, 1) := by decide +kernel
theorem dL_text_62 : decode cL_text 62 = .ok (.irem, 1) := by decide +kernel
theorem dL_text_63 : decode cL_text 63 = .ok (.imul, 1) := by decide +kernel
theorem dL_text_64 : decode cL_text 64 = .ok (.isub, 1) := by decide +kernel
theorem dL_text_65 : decode cL_text 65 = .ok (.ishl, 1) := by decide +kernel
theorem dL_text_66 : decode cL_text 66 = .ok (.ior, 1) := by decide +kernel
theorem dL_text_67 : decode cL_text 67 = .ok (.iastore, 1) := by decide +kernel
theorem dL_text_68 : decode cL_text 68 = .ok (.iinc 4 1, 3) := by decide +kernel
theorem dL_text_71 : decode cL_text 71 = .ok (.goto (-54), 3) := by decide +kernel
section ZTX
variable {p : Program} {l : Launch} {e : Env} {R : Room} {s : State} {m : MethodId} {args : Array Value} {below : List Frame} {meth : Method} {c : Code} {H : Heap} {locs : List Loc} {cells slots : Nat} {Q : State → Prop}
variable {x : Jvm.Cond} {B t k n q v w cI N mt : Nat} {cA : Nat → ClassId} {D : va_G} {ls : Array Slot} {g : Nat → Int32}
set_option maxHeartbeats 2000000 in
set_option maxRecDepth 100000 in
theorem zs_tin (hx : p.tables.exec = Jvm.exec) (hb : c.code = cL_text) (hml : c.maxLocals = 5) (hown : s.vm.findClass RL = some m.cls) (hts : ∀ w ∈ x :: zj_gw, w.before args s = true) (hC : zs_C (zl_A B s) s s.heap) (hQ : zs_Q (zl_A B s) s s.heap) (hF : zs_F (zl_A B s) q v n g s s.heap) (hK0 : va_K D [] [(cI, .int)] s)
    (hn : n < 1000) (hg : ∀ j, j < n → g j = sb_b (zp_b N j)) (hsp : ∀ j, n ≤ j → j < mt → zp_b N j = 32) (hk : k + 20 ≤ mt) (hmt : mt ≤ 700) (hwA : zl_A B s w) (hfr : 4 ≤ R.frames) (hlo : 160 ≤ R.locals) (hcc : cells ≤ R.cells) (hss : slots ≤ R.slots) {H0 : Heap}
    (kk : ∀ H locs ls, H[w]? = some (vp_cell cI (5, .inl (zt_f N k 20))) → H.size = H0.size → (∀ a : Nat, a ≠ w → H[a]? = H0[a]?) → va_S (zl_A B s) s.heap H locs → lv_has ls 5 [(4, .int (Int32.ofNat 20)), (3, .ref w), (2, .int (Int32.ofNat k)), (0, .ref B), (1, .ref q)] → W p l e R s m args below meth c H locs cells slots Q (F0 m 74 ls [])) :
    ∀ (j i : Nat) (H : Heap) (locs : List Loc) (ls : Array Slot), i + j = 20 → H[w]? = some (vp_cell cI (5, .inl (zt_f N k i))) → H.size = H0.size → (∀ a : Nat, a ≠ w → H[a]? = H0[a]?) → va_S (zl_A B s) s.heap H locs → lv_has ls 5 [(4, .int (Int32.ofNat i)), (3, .ref w), (2, .int (Int32.ofNat k)), (0, .ref B), (1, .ref q)] → W p l e R s m args below meth c H locs cells slots Q (F0 m 17 ls []) := by
  intro j
  induction j with
  | zero =>
    intro i H locs ls hj hw hz ho hS hl
    obtain rfl : i = 20 := by omega
    refine lv_iload hx hb dL_text_17 (lv_at hl 0 rfl) ?_
    refine lv_bipush (v := 20) hx hb dL_text_19 (by decide) ?_
    refine lv_icmp_ge (tgt := 74) hx hb dL_text_21 (by decide) (fun _ => ?_) (fun c_ => (c_ (by decide)).elim)
    exact kk H locs ls hw hz ho hS hl
  | succ j ih =>
    intro i H locs ls hj hw hz ho hS hl
    have hi : i < 20 := by omega
    refine lv_iload hx hb dL_text_17 (lv_at hl 0 rfl) ?_
    refine lv_bipush (v := 20) hx hb dL_text_19 (by decide) ?_
    refine lv_icmp_ge (tgt := 74) hx hb dL_text_21 (by decide) (fun c_ => absurd c_ (zt_lt20 i hi)) (fun _ => ?_)
    refine lv_aload_n hx hb dL_text_24 rfl (lv_at hl 1 rfl) ?_
    refine lv_iload hx hb dL_text_25 (lv_at hl 0 rfl) ?_
    refine lv_iconst (v := 4) hx hb dL_text_27 (by decide) ?_
    refine lv_idiv hx hb dL_text_28 (by decide) ?_
    refine zj_top (y := Int32.ofNat (i / 4)) (zt_div4 i hi) ?_
    refine lv_dup2_11 hx hb dL_text_29 rfl rfl ?_
    refine va_iald hx hb hK0 (zl_P (D := D) hw) 0 0 rfl rfl (zt_in5 i hi) dL_text_30 ?_
    rw [zt_cl5 i hi]
    have rest : ∀ locs, va_S (zl_A B s) s.heap H locs → W p l e R s m args below meth c H locs cells slots Q (F0 m 55 ls [.int (nI (zp_b N (k + i))), .int (zt_f N k i (i / 4)), .int (Int32.ofNat (i / 4)), .ref w]) := by
      intro locs hS
      refine lv_bipush (v := 24) hx hb dL_text_55 (by decide) ?_
      refine lv_bipush (v := 8) hx hb dL_text_57 (by decide) ?_
      refine lv_iload hx hb dL_text_59 (lv_at hl 0 rfl) ?_
      refine lv_iconst (v := 4) hx hb dL_text_61 (by decide) ?_
      refine lv_irem hx hb dL_text_62 (by decide) ?_
      refine lv_imul hx hb dL_text_63 ?_
      refine lv_isub hx hb dL_text_64 ?_
      refine zj_top (y := Int32.ofNat (24 - 8 * (i % 4))) (zt_sh4 i hi) ?_
      refine lv_ishl hx hb dL_text_65 ?_
      refine lv_ior hx hb dL_text_66 ?_
      refine zl_iast hx hb hK0 hw hwA hS (zt_in5 i hi) dL_text_67 (fun H1 locs1 hw1 hz1 ho1 hS1 => ?_)
      rw [zt_cl5 i hi] at hw1
      refine lv_iinc (v := Int32.ofNat (i + 1)) (lv' := [(4, .int (Int32.ofNat (i + 1))), (3, .ref w), (2, .int (Int32.ofNat k)), (0, .ref B), (1, .ref q)]) hx hb dL_text_68 hl (k := 0) rfl (zt_inc i hi) (by decide) rfl (fun ls hl => ?_)
      refine lv_goto (tgt := 17) hx hb dL_text_71 (by decide) ?_
      exact ih (i + 1) H1 locs1 ls (by omega) hw1 (hz1.trans hz) (fun a ha => (ho1 a ha).trans (ho a ha)) hS1 hl
    refine lv_iload_n hx hb dL_text_31 rfl (lv_at hl 2 rfl) ?_
    refine lv_iload hx hb dL_text_32 (lv_at hl 0 rfl) ?_
    refine lv_iadd hx hb dL_text_34 ?_
    refine zj_top (y := Int32.ofNat (k + i)) (zj_add k i) ?_
    refine lv_aload_n hx hb dL_text_35 rfl (lv_at hl 4 rfl) ?_
    refine va_calli (va_runV (As := []) (rest := [.int (Int32.ofNat (k + i)), .int (zt_f N k i (i / 4)), .int (Int32.ofNat (i / 4)), .ref w]) ⟨hx, hb, hml, hown, hts⟩ (zs_length l) (cwV (own := RL) (C := RJ0) 0 hts (zj_good (zj_V (zj_m (q := 5087) (by decide +kernel) rfl) (zj_m (q := 5088) (by decide +kernel) rfl) (zj_m (q := 5089) (by decide +kernel) rfl) (zj_m (q := 1013) (by decide +kernel) rfl) (zj_m (q := 5090) (by decide +kernel) rfl))) rfl rfl rfl (by decide +kernel) ⟨Nat.le_trans (Nat.le_of_ble_eq_true (m := 4) rfl) hfr, Nat.le_trans (Nat.le_of_ble_eq_true (m := 160) rfl) hlo⟩) ⟨fun a U g mk q => ⟨q.1, q.2.1, zs_C.moved (u := U) (U := U.calling g mk a) (Vm.Alike.refl U.vm) q.2.2.1, zs_F.moved (u := U) (U := U.calling g mk a) (Vm.Alike.refl U.vm) q.2.2.2⟩, va_Orecv hF.1 hS, fun U hU hW => ⟨rfl, hU, by (try rw [hU]); exact zs_C.moved hW.alike ((hC.kept hS.2.1).narrow (fun _ h => h.elim)), by (try rw [hU]); exact zs_F.moved hW.alike ((hF.kept hS.2.1).narrow (fun _ h => h.elim))⟩⟩ rfl rfl hl.1 rfl (lv_room (Nat.le_of_ble_eq_true rfl)) dL_text_36 ⟨hcc, hss⟩) hS (fun _ _ h => h.elim) (fun _ h => h.elim) (fun r_ u_ t_ H1 locs1 ht hvm hw hB hz1 hk1 hS => ?_)
    obtain rfl : H = H1 := (ht.symm.trans hB).symm
    rw [hw]
    by_cases hlt : k + i < n
    · refine lv_icmp_ge (tgt := 53) hx hb dL_text_39 (by decide) (fun c_ => absurd c_ (nI_ge hlt (by omega))) (fun _ => ?_)
      refine lv_aload_n hx hb dL_text_42 rfl (lv_at hl 4 rfl) ?_
      refine lv_iload_n hx hb dL_text_43 rfl (lv_at hl 2 rfl) ?_
      refine lv_iload hx hb dL_text_44 (lv_at hl 0 rfl) ?_
      refine lv_iadd hx hb dL_text_46 ?_
      refine zj_top (y := Int32.ofNat (k + i)) (zj_add k i) ?_
      refine va_calli (va_runV (As := [.int (Int32.ofNat (k + i))]) (rest := [.int (zt_f N k i (i / 4)), .int (Int32.ofNat (i / 4)), .ref w]) ⟨hx, hb, hml, hown, hts⟩ (zs_charAt l (g := g) (n := n) (i := Int32.ofNat (k + i)) (c0 := zp_b N (k + i)) zp_b_lt (by rw [show (Int32.ofNat (k + i)).toNatClampNeg = k + i from nI_clamp (by omega)]; exact hg _ hlt) (nI_pos (by omega)) (nI_lt hlt (by omega)) (vp_in_nI hlt (by omega))) (cwV (own := RL) (C := RJ0) 1 hts (zj_good (zj_V (zj_m (q := 5097) (by decide +kernel) rfl) (zj_m (q := 5098) (by decide +kernel) rfl) (zj_m (q := 5099) (by decide +kernel) rfl) (zj_m (q := 1013) (by decide +kernel) rfl) (zj_m (q := 5100) (by decide +kernel) rfl))) rfl rfl rfl (by decide +kernel) ⟨Nat.le_trans (Nat.le_of_ble_eq_true (m := 4) rfl) hfr, Nat.le_trans (Nat.le_of_ble_eq_true (m := 160) rfl) hlo⟩) ⟨fun a U g mk q => ⟨q.1, q.2.1, zs_C.moved (u := U) (U := U.calling g mk a) (Vm.Alike.refl U.vm) q.2.2.1, zs_Q.moved (u := U) (U := U.calling g mk a) (Vm.Alike.refl U.vm) q.2.2.2.1, zs_F.moved (u := U) (U := U.calling g mk a) (Vm.Alike.refl U.vm) q.2.2.2.2⟩, va_Orecv hF.1 hS, fun U hU hW => ⟨rfl, hU, by (try rw [hU]); exact zs_C.moved hW.alike ((hC.kept hS.2.1).narrow (fun _ h => h.elim)), by (try rw [hU]); exact zs_Q.moved hW.alike ((hQ.kept hS.2.1).narrow (fun _ h => h.elim)), by (try rw [hU]); exact zs_F.moved hW.alike ((hF.kept hS.2.1).narrow (fun _ h => h.elim))⟩⟩ rfl rfl hl.1 rfl (lv_room (Nat.le_of_ble_eq_true rfl)) dL_text_47 ⟨hcc, hss⟩) hS (fun _ _ h => h.elim) (fun _ h => h.elim) (fun r_ u_ t_ H1 locs1 ht hvm hw hB hz1 hk1 hS => ?_)
      obtain rfl : H = H1 := (ht.symm.trans hB).symm
      rw [hw]
      refine lv_goto (tgt := 55) hx hb dL_text_50 (by decide) ?_
      exact rest _ hS
    · refine lv_icmp_ge (tgt := 53) hx hb dL_text_39 (by decide) (fun _ => ?_) (fun c_ => (c_ (nI_le (by omega) (by omega))).elim)
      refine lv_bipush (v := 32) hx hb dL_text_53 (by decide) ?_
      refine zj_top (y := nI (zp_b N (k + i))) (by rw [hsp (k + i) (by omega) (by omega)]; rfl) ?_
      exact rest _ hS
end ZTX
