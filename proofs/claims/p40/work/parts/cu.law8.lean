/-! THE LAW, 8: its start -/
theorem mi_wf92 {σ : jg_M} : mj_wf (jg_en 92 σ) 92 := by
  refine ⟨by decide, fun k hk => ?_⟩
  have hs : jg_sh k = (99, 0) := by
    unfold jg_sh
    rw [List.getD_eq_getElem?_getD, List.getElem?_eq_none (show jg_T.length ≤ k from hk)]
    rfl
  unfold jg_en
  rw [hs]
  dsimp only
  rw [if_neg (by decide), if_neg (by decide), if_neg (by decide), if_neg (by decide), if_neg (fun q => absurd q.2 (by decide))]
  by_cases h9 : k = 999999
  · rw [if_pos h9]; exact Or.inr ⟨h9, rfl⟩
  · rw [if_neg h9]; exact Or.inl rfl
def zl_M (nm : String) : mj_Inf := (16, ⟨RL, nm, "([I)Z"⟩, code, 9, some .boolean, [], 1, [])
def zl_tm : Jvm.Term := .static RX10 "PLACES_OF_LENGTHS" "[I"
section LW8
variable {p : Program} {l : Launch} {e : Env} {s : State} {m : MethodId} {below : List Frame} {meth : Method} {c : Code} {b L t : Nat} {xs : Nat → Int32} {cA : Nat → ClassId} {D : va_G} {Q : State → Prop}
theorem zl_arr {args : Array Value} {ty : FieldType} (h : (Jvm.Cond.arrayClass ty).before args s = true) : ∃ cA : ClassId, ArrOfT s cA ty ∧ s.vm.findClass ("[" ++ ty.toString) = some cA := by
  obtain ⟨cA, k, comp, h1, h2, h3⟩ := Cond.arrayClass_spec h
  exact ⟨cA, fun N z => ⟨(fun k h => by cases h), k, h2, comp, h3⟩, h1⟩
theorem zl_K (C0 : lw_At p s m meth c b L xs) : ∃ (t : Nat) (cA : Nat → ClassId) (D : va_G), mj_K s.heap.size t cA D s := by
  obtain ⟨hx, hb, hr, hml, hown, hts, hX, hbl, hlocks, hgv⟩ := C0
  have htg : ∀ w ∈ mj_gw, w.before #[Value.ref b] s = true := fun w hw => hts w (List.mem_filter.mp hw).1
  have hs := flat_of_before _ hgv
  have h1 : ∀ ci : Nat, ∃ x : ClassId × (Nat → Nat), ci < 12 → u_Kn s (mj_cn ci) (mj_T ci) (mj_N ci) x.1 x.2 := fun ci => by
    by_cases h : ci < 12
    · obtain ⟨cC, iS, hk⟩ := u_known (n := mj_N ci) htg (mj_cls_lay h) (htg _ (mj_cls_in h))
      exact ⟨(cC, iS), fun _ => hk⟩
    · exact ⟨(0, fun _ => 0), fun q => absurd q h⟩
  obtain ⟨f, hf⟩ := Classical.axiomOfChoice h1
  obtain ⟨c0, a0, b0⟩ := zl_arr (htg _ (mj_gw_of mj_ar_int rfl))
  obtain ⟨c1, a1, b1⟩ := zl_arr (htg _ (mj_gw_of mj_ar_long rfl))
  obtain ⟨c2, a2, b2⟩ := zl_arr (htg _ (mj_gw_of mj_ar_boolean rfl))
  have hA : ∀ a : Nat, a < s.heap.size → ¬ mj_A s.heap.size a := fun a h q => Nat.not_le.mpr h q.1
  obtain ⟨t, ht1, ht2⟩ := va_Tof (tm := zl_tm) (ty := .int) (N := 6) (f := fun j => .int (mj_pl j)) (A := mj_A s.heap.size) (by decide) (hs _ (by decide +kernel)) (va_eqt (hs (.eq (.length zl_tm) (.int 6)) (by decide +kernel))) (fun j hj => by
    rcases (show j = 0 ∨ j = 1 ∨ j = 2 ∨ j = 3 ∨ j = 4 ∨ j = 5 by omega) with rfl | rfl | rfl | rfl | rfl | rfl
    · exact va_eqt (hs (.eq (.elem zl_tm (.int 0)) (.int 0)) (by decide +kernel))
    · exact va_eqt (hs (.eq (.elem zl_tm (.int 1)) (.int 1)) (by decide +kernel))
    · exact va_eqt (hs (.eq (.elem zl_tm (.int 2)) (.int 8)) (by decide +kernel))
    · exact va_eqt (hs (.eq (.elem zl_tm (.int 3)) (.int 57)) (by decide +kernel))
    · exact va_eqt (hs (.eq (.elem zl_tm (.int 4)) (.int 400)) (by decide +kernel))
    · exact va_eqt (hs (.eq (.elem zl_tm (.int 5)) (.int 2801)) (by decide +kernel))) hA
  refine ⟨t, fun k => if k = 0 then c0 else if k = 1 then c1 else c2, (fun k => (f k).1, fun k => (f k).2), ⟨⟨fun k q hq => ?_, fun k q hq => ?_⟩, fun w hw => ?_, ht2, ?_⟩⟩
  · have hk : k < 12 := (List.getElem?_eq_some_iff.mp hq).1
    rw [mj_cls_T hk] at hq
    cases hq
    exact hf k hk
  · match k, hq with
    | 0, hq => cases hq; exact ⟨a0, b0⟩
    | 1, hq => cases hq; exact ⟨a1, b1⟩
    | 2, hq => cases hq; exact ⟨a2, b2⟩
    | k + 3, hq => simp [mj_tys] at hq
  · have h2 := hts w (List.mem_filter.mp hw).1
    obtain ⟨a, i, x, k, rfl⟩ := mj_nw_is hw
    exact va_Nw.of rfl h2
  · exact va_Zof (hts _ (mj_tbl_of (q := 4080) (by decide +kernel))) (hts _ (mj_tbl_of mj_ini10)) ht1 hA
theorem zl_nA : ∀ a : Nat, a < s.heap.size → ¬ zl_A s.heap.size s a := fun a h q => q.elim (fun q => Nat.not_le.mpr h q.1) (Nat.not_le.mpr h)
theorem zl_F (C0 : lw_At p s m meth c b L xs) (hK : mj_K s.heap.size t cA D s) : zl_Fr p s m #[Value.ref b] c (.initialized RL) s.heap.size t cA D := by
  obtain ⟨hx, hb, hr, hml, hown, hts, hX, hbl, hlocks, hgv⟩ := C0
  obtain ⟨h1, h2, -⟩ := zc_stat hgv hts zl_nA
  refine ⟨hx, hb, hml, hown, fun w hw => ?_, hK, Nat.le_refl _, h1, h2⟩
  rcases List.mem_cons.mp hw with rfl | hw
  · exact hts _ (mj_tbl_of (q := 1000) (by decide +kernel))
  · exact zj_all hts w hw
set_option maxHeartbeats 4000000 in
set_option maxRecDepth 100000 in
theorem zw_0 (hL : L ≤ 260) (C0 : lw_At p s m meth c b L xs) (hK : mj_K s.heap.size t cA D s)
    (kk : ∀ (H : Heap) (locs : List Loc) (ls : Array Slot) (pl mu lo h : Nat), pl < 3 → mu < 3 → lo < 4 → h < 4 → zl_st s s.heap.size t cA D mi_S H locs → lv_has ls 9 [(5, .int (Int32.ofNat (2 + lo + h))), (4, .int (Int32.ofNat (1 + lo))), (3, .int (Int32.ofNat mu)), (2, .int (Int32.ofNat pl)), (1, .ref s.heap.size), (0, .ref b)] → W p l e room_1 s m #[Value.ref b] below meth c H locs 92 22258 Q (F0 m 57 ls [])) :
    W p l e room_1 s m #[Value.ref b] below meth c s.heap [] 0 0 Q (entryFrame m ([Value.ref b] : List Value).toArray 9) := by
  have Fr := zl_F C0 hK
  obtain ⟨hx, hb, -, hml, hown, htl, hX, hbl, hlocks, hgv⟩ := C0
  have hts := Fr.2.2.2.2.1
  have htg : ∀ w ∈ mj_gw, w.before #[Value.ref b] s = true := fun w hw => htl w (List.mem_filter.mp hw).1
  have hF : mj_Fr p s m #[Value.ref b] c (zl_M meth.name) := ⟨hx, hb, hml, hown, htg⟩
  have hl := lv_entry ([.ref b]) (n := 9) (Nat.le_of_ble_eq_true rfl)
  rw [lg_entry_eq]
  generalize (lg_sl ([.ref b]) ++ List.replicate (9 - (lg_sl ([.ref b])).length) Slot.unset).toArray = ls at hl ⊢
  have hl : lv_has ls 9 [(0, .ref b)] := hl
  have hH0 : mj_hd s.heap.size t cA D mi_hp0 0 s.heap := ⟨fun k q hq => absurd (mj_ws_no hq).1 (by omega), mi_wf0⟩
  refine mj_simNew (M := zl_M meth.name) (own := RL) (ix := 19) (a := 11) (sz := 0) (st := []) hx hb hown htg hK (Nat.le_refl _) rfl hH0 va_S.rf (by decide) (by decide) (htl _ (mj_tbl_of (q := 1031) (by decide +kernel))) dL_law_0 (Nat.le_of_ble_eq_true rfl) (Nat.le_of_ble_eq_true rfl) (fun H1 hH1 hS1 => ?_)
  refine lv_dup hx hb dL_law_3 rfl ?_
  obtain ⟨hpC, hCr, hCok⟩ := mi_Cok
  unfold mi_C at hCr
  obtain ⟨d', M1, e1, e2, -, -, hMt⟩ := mj_Ca_run (l := l) (al := true) _ _ _ _ _ _ _ _ _ hCr
  obtain rfl : 19 = d' := Nat.succ.inj e1
  obtain rfl : mm_X11_init = M1 := Option.some.inj ((show mj_ms[140]? = some mm_X11_init from rfl).symm.trans e2)
  have hMt := hMt s.heap.size t cA D
  refine mj_sI (M := zl_M meth.name) (M1 := mm_X11_init) (al := true) (a := 0) (As := []) (rest := [.ref 0]) (d' := 19) (sz := 1) (sl := 15) (sz' := 92) (sl' := 22258) (v := none) hF hK (Nat.le_refl _) (fun _ => rfl) hH1 hS1 hl.1 dL_law_4 (Nat.le_of_ble_eq_true rfl) (Nat.le_of_ble_eq_true rfl) (mj_all_ok _ (List.mem_of_getElem? (i := 140) rfl)) hMt (Or.inl (show Jvm.Cond.methodLink RL 28 mm_X11_init.2.1 ∈ mj_gw from mj_gw_of (q := 1033) (by decide +kernel) rfl)) (mj_gw_of (q := 1034) (by decide +kernel) rfl) rfl rfl rfl (by decide) ⟨by exact Nat.le_of_ble_eq_true rfl, by exact Nat.le_of_ble_eq_true rfl⟩ (fun H2 locs2 hH2 hS2 => ?_)
  have hH2 : mj_hd s.heap.size t cA D (jg_en 92 mi_sh) 92 H2 := mi_hd hH2 hCok mi_wf92
  have hst : zl_st s s.heap.size t cA D mi_S H2 locs2 := ⟨⟨mi_sh, mi_Csm, hH2⟩, mi_P, ⟨hS2.1, fun q h1 h2 => hS2.2.1 q h1 (fun h => h2 (Or.inl h)), fun q hq => Or.inl (hS2.2.2 q hq)⟩⟩
  refine lv_astore_n (x := s.heap.size) (lv' := [(1, .ref s.heap.size), (0, .ref b)]) hx hb dL_law_7 rfl hl (by decide) rfl (fun ls hl => ?_)
  have hXk : ∀ {H : Heap} {locs : List Loc}, va_S (zl_A s.heap.size s) s.heap H locs → va_X b L xs s H := fun hS => by
    obtain ⟨scr, h1, h2⟩ := hX
    exact ⟨scr, by rw [hS.2.1 b hbl (zl_nA b hbl)]; exact h1, h2⟩
  obtain ⟨pl, e1⟩ : ∃ z, z = zl_in (zl_ce xs L 0) 3 := ⟨_, rfl⟩
  obtain ⟨mu, e2⟩ : ∃ z, z = zl_in (zl_ce xs L 1) 3 := ⟨_, rfl⟩
  obtain ⟨lo, e3⟩ : ∃ z, z = zl_in (zl_ce xs L 2) 4 := ⟨_, rfl⟩
  obtain ⟨h, e4⟩ : ∃ z, z = zl_in (zl_ce xs L 3) 4 := ⟨_, rfl⟩
  have hS := hst.2.2
  obtain ⟨H, hHe⟩ : ∃ z, z = H2 := ⟨_, rfl⟩
  rw [← hHe] at hS hst ⊢
  refine lv_aload_n hx hb dL_law_8 rfl (lv_at hl 1 rfl) ?_
  refine lv_iconst (v := 0) hx hb dL_law_9 (by decide) ?_
  refine va_calli (va_runS (As := [.ref b, .int 0]) (rest := []) ⟨hx, hb, hml, hown, hts⟩ (zs_cell l (L := L) (xs := xs) (j := 0) hL (by decide)) (va_cwS (own := RL) 2 hts (zj_good (zj_S (zj_m (q := 5077) (by decide +kernel) rfl) (zj_m (q := 5078) (by decide +kernel) rfl) (zj_m (q := 1000) (by decide +kernel) rfl) (zj_m (q := 5079) (by decide +kernel) rfl))) rfl rfl rfl (by decide +kernel) ⟨Nat.le_of_ble_eq_true rfl, Nat.le_of_ble_eq_true rfl⟩) ⟨fun a U g mk q => ⟨q.1, q.2.1, zs_X.moved (u := U) (U := U.calling g mk a) (Vm.Alike.refl U.vm) q.2.2⟩, fun U hU hW => ⟨rfl, hU, by (try rw [hU]); exact zs_X.moved hW.alike (show zs_X b L xs s H from ⟨hXk hS, Nat.lt_of_lt_of_le hbl hS.1⟩)⟩⟩ rfl rfl hl.1 rfl (lv_room (Nat.le_of_ble_eq_true rfl)) dL_law_10 ⟨Nat.le_of_ble_eq_true rfl, Nat.le_of_ble_eq_true rfl⟩) hS (fun _ _ h => h.elim) (fun _ h => h.elim) (fun r_ u_ t_ H1 locs1 ht hvm hw hB hz1 hk1 hS => ?_)
  obtain rfl : H = H1 := (ht.symm.trans hB).symm
  rw [hw]
  refine lv_iconst (v := 3) hx hb dL_law_13 (by decide) ?_
  refine va_calli (va_runS (As := [.int (zl_ce xs L 0), .int 3]) (rest := []) ⟨hx, hb, hml, hown, hts⟩ (zs_in l (y := zl_ce xs L 0) (mo := 3) (by decide) (by decide) (by decide)) (va_cwS (own := RL) 2 hts (zj_good (zj_S (zj_m (q := 5080) (by decide +kernel) rfl) (zj_m (q := 5081) (by decide +kernel) rfl) (zj_m (q := 1000) (by decide +kernel) rfl) (zj_m (q := 5082) (by decide +kernel) rfl))) rfl rfl rfl (by decide +kernel) ⟨Nat.le_of_ble_eq_true rfl, Nat.le_of_ble_eq_true rfl⟩) ⟨fun a U g mk q => ⟨q.1, q.2.1, zs_0.moved (u := U) (U := U.calling g mk a) (Vm.Alike.refl U.vm) q.2.2⟩, fun U hU hW => ⟨rfl, hU, by (try rw [hU]); exact zs_0.moved hW.alike (show zs_0 s from trivial)⟩⟩ rfl rfl hl.1 rfl (lv_room (Nat.le_of_ble_eq_true rfl)) dL_law_14 ⟨Nat.le_of_ble_eq_true rfl, Nat.le_of_ble_eq_true rfl⟩) hS (fun _ _ h => h.elim) (fun _ h => h.elim) (fun r_ u_ t_ H1 locs1 ht hvm hw hB hz1 hk1 hS => ?_)
  obtain rfl : H = H1 := (ht.symm.trans hB).symm
  rw [hw]
  refine zj_top (y := Int32.ofNat pl) (by rw [e1]) ?_
  refine lv_istore_n (lv' := [(2, .int (Int32.ofNat pl)), (1, .ref s.heap.size), (0, .ref b)]) hx hb dL_law_17 rfl hl (by decide) rfl (fun ls hl => ?_)
  refine lv_aload_n hx hb dL_law_18 rfl (lv_at hl 2 rfl) ?_
  refine lv_iconst (v := 1) hx hb dL_law_19 (by decide) ?_
  refine va_calli (va_runS (As := [.ref b, .int 1]) (rest := []) ⟨hx, hb, hml, hown, hts⟩ (zs_cell l (L := L) (xs := xs) (j := 1) hL (by decide)) (va_cwS (own := RL) 2 hts (zj_good (zj_S (zj_m (q := 5077) (by decide +kernel) rfl) (zj_m (q := 5078) (by decide +kernel) rfl) (zj_m (q := 1000) (by decide +kernel) rfl) (zj_m (q := 5079) (by decide +kernel) rfl))) rfl rfl rfl (by decide +kernel) ⟨Nat.le_of_ble_eq_true rfl, Nat.le_of_ble_eq_true rfl⟩) ⟨fun a U g mk q => ⟨q.1, q.2.1, zs_X.moved (u := U) (U := U.calling g mk a) (Vm.Alike.refl U.vm) q.2.2⟩, fun U hU hW => ⟨rfl, hU, by (try rw [hU]); exact zs_X.moved hW.alike (show zs_X b L xs s H from ⟨hXk hS, Nat.lt_of_lt_of_le hbl hS.1⟩)⟩⟩ rfl rfl hl.1 rfl (lv_room (Nat.le_of_ble_eq_true rfl)) dL_law_20 ⟨Nat.le_of_ble_eq_true rfl, Nat.le_of_ble_eq_true rfl⟩) hS (fun _ _ h => h.elim) (fun _ h => h.elim) (fun r_ u_ t_ H1 locs1 ht hvm hw hB hz1 hk1 hS => ?_)
  obtain rfl : H = H1 := (ht.symm.trans hB).symm
  rw [hw]
  refine lv_iconst (v := 3) hx hb dL_law_23 (by decide) ?_
  refine va_calli (va_runS (As := [.int (zl_ce xs L 1), .int 3]) (rest := []) ⟨hx, hb, hml, hown, hts⟩ (zs_in l (y := zl_ce xs L 1) (mo := 3) (by decide) (by decide) (by decide)) (va_cwS (own := RL) 2 hts (zj_good (zj_S (zj_m (q := 5080) (by decide +kernel) rfl) (zj_m (q := 5081) (by decide +kernel) rfl) (zj_m (q := 1000) (by decide +kernel) rfl) (zj_m (q := 5082) (by decide +kernel) rfl))) rfl rfl rfl (by decide +kernel) ⟨Nat.le_of_ble_eq_true rfl, Nat.le_of_ble_eq_true rfl⟩) ⟨fun a U g mk q => ⟨q.1, q.2.1, zs_0.moved (u := U) (U := U.calling g mk a) (Vm.Alike.refl U.vm) q.2.2⟩, fun U hU hW => ⟨rfl, hU, by (try rw [hU]); exact zs_0.moved hW.alike (show zs_0 s from trivial)⟩⟩ rfl rfl hl.1 rfl (lv_room (Nat.le_of_ble_eq_true rfl)) dL_law_24 ⟨Nat.le_of_ble_eq_true rfl, Nat.le_of_ble_eq_true rfl⟩) hS (fun _ _ h => h.elim) (fun _ h => h.elim) (fun r_ u_ t_ H1 locs1 ht hvm hw hB hz1 hk1 hS => ?_)
  obtain rfl : H = H1 := (ht.symm.trans hB).symm
  rw [hw]
  refine zj_top (y := Int32.ofNat mu) (by rw [e2]) ?_
  refine lv_istore_n (lv' := [(3, .int (Int32.ofNat mu)), (2, .int (Int32.ofNat pl)), (1, .ref s.heap.size), (0, .ref b)]) hx hb dL_law_27 rfl hl (by decide) rfl (fun ls hl => ?_)
  refine lv_iconst (v := 1) hx hb dL_law_28 (by decide) ?_
  refine lv_aload_n hx hb dL_law_29 rfl (lv_at hl 3 rfl) ?_
  refine lv_iconst (v := 2) hx hb dL_law_30 (by decide) ?_
  refine va_calli (va_runS (As := [.ref b, .int 2]) (rest := [.int 1]) ⟨hx, hb, hml, hown, hts⟩ (zs_cell l (L := L) (xs := xs) (j := 2) hL (by decide)) (va_cwS (own := RL) 2 hts (zj_good (zj_S (zj_m (q := 5077) (by decide +kernel) rfl) (zj_m (q := 5078) (by decide +kernel) rfl) (zj_m (q := 1000) (by decide +kernel) rfl) (zj_m (q := 5079) (by decide +kernel) rfl))) rfl rfl rfl (by decide +kernel) ⟨Nat.le_of_ble_eq_true rfl, Nat.le_of_ble_eq_true rfl⟩) ⟨fun a U g mk q => ⟨q.1, q.2.1, zs_X.moved (u := U) (U := U.calling g mk a) (Vm.Alike.refl U.vm) q.2.2⟩, fun U hU hW => ⟨rfl, hU, by (try rw [hU]); exact zs_X.moved hW.alike (show zs_X b L xs s H from ⟨hXk hS, Nat.lt_of_lt_of_le hbl hS.1⟩)⟩⟩ rfl rfl hl.1 rfl (lv_room (Nat.le_of_ble_eq_true rfl)) dL_law_31 ⟨Nat.le_of_ble_eq_true rfl, Nat.le_of_ble_eq_true rfl⟩) hS (fun _ _ h => h.elim) (fun _ h => h.elim) (fun r_ u_ t_ H1 locs1 ht hvm hw hB hz1 hk1 hS => ?_)
  obtain rfl : H = H1 := (ht.symm.trans hB).symm
  rw [hw]
  refine lv_iconst (v := 4) hx hb dL_law_34 (by decide) ?_
  refine va_calli (va_runS (As := [.int (zl_ce xs L 2), .int 4]) (rest := [.int 1]) ⟨hx, hb, hml, hown, hts⟩ (zs_in l (y := zl_ce xs L 2) (mo := 4) (by decide) (by decide) (by decide)) (va_cwS (own := RL) 2 hts (zj_good (zj_S (zj_m (q := 5080) (by decide +kernel) rfl) (zj_m (q := 5081) (by decide +kernel) rfl) (zj_m (q := 1000) (by decide +kernel) rfl) (zj_m (q := 5082) (by decide +kernel) rfl))) rfl rfl rfl (by decide +kernel) ⟨Nat.le_of_ble_eq_true rfl, Nat.le_of_ble_eq_true rfl⟩) ⟨fun a U g mk q => ⟨q.1, q.2.1, zs_0.moved (u := U) (U := U.calling g mk a) (Vm.Alike.refl U.vm) q.2.2⟩, fun U hU hW => ⟨rfl, hU, by (try rw [hU]); exact zs_0.moved hW.alike (show zs_0 s from trivial)⟩⟩ rfl rfl hl.1 rfl (lv_room (Nat.le_of_ble_eq_true rfl)) dL_law_35 ⟨Nat.le_of_ble_eq_true rfl, Nat.le_of_ble_eq_true rfl⟩) hS (fun _ _ h => h.elim) (fun _ h => h.elim) (fun r_ u_ t_ H1 locs1 ht hvm hw hB hz1 hk1 hS => ?_)
  obtain rfl : H = H1 := (ht.symm.trans hB).symm
  rw [hw]
  refine zj_top (y := Int32.ofNat lo) (by rw [e3]) ?_
  refine lv_iadd hx hb dL_law_38 ?_
  refine zj_top (y := Int32.ofNat (1 + lo)) (zj_add 1 lo) ?_
  refine lv_istore (lv' := [(4, .int (Int32.ofNat (1 + lo))), (3, .int (Int32.ofNat mu)), (2, .int (Int32.ofNat pl)), (1, .ref s.heap.size), (0, .ref b)]) hx hb dL_law_39 hl (by decide) rfl (fun ls hl => ?_)
  refine lv_iload hx hb dL_law_41 (lv_at hl 0 rfl) ?_
  refine lv_iconst (v := 1) hx hb dL_law_43 (by decide) ?_
  refine lv_iadd hx hb dL_law_44 ?_
  refine zj_top (y := Int32.ofNat (2 + lo)) (by rw [show 2 + lo = (1 + lo) + 1 by omega]; exact zj_add (1 + lo) 1) ?_
  refine lv_aload_n hx hb dL_law_45 rfl (lv_at hl 4 rfl) ?_
  refine lv_iconst (v := 3) hx hb dL_law_46 (by decide) ?_
  refine va_calli (va_runS (As := [.ref b, .int 3]) (rest := [.int (Int32.ofNat (2 + lo))]) ⟨hx, hb, hml, hown, hts⟩ (zs_cell l (L := L) (xs := xs) (j := 3) hL (by decide)) (va_cwS (own := RL) 2 hts (zj_good (zj_S (zj_m (q := 5077) (by decide +kernel) rfl) (zj_m (q := 5078) (by decide +kernel) rfl) (zj_m (q := 1000) (by decide +kernel) rfl) (zj_m (q := 5079) (by decide +kernel) rfl))) rfl rfl rfl (by decide +kernel) ⟨Nat.le_of_ble_eq_true rfl, Nat.le_of_ble_eq_true rfl⟩) ⟨fun a U g mk q => ⟨q.1, q.2.1, zs_X.moved (u := U) (U := U.calling g mk a) (Vm.Alike.refl U.vm) q.2.2⟩, fun U hU hW => ⟨rfl, hU, by (try rw [hU]); exact zs_X.moved hW.alike (show zs_X b L xs s H from ⟨hXk hS, Nat.lt_of_lt_of_le hbl hS.1⟩)⟩⟩ rfl rfl hl.1 rfl (lv_room (Nat.le_of_ble_eq_true rfl)) dL_law_47 ⟨Nat.le_of_ble_eq_true rfl, Nat.le_of_ble_eq_true rfl⟩) hS (fun _ _ h => h.elim) (fun _ h => h.elim) (fun r_ u_ t_ H1 locs1 ht hvm hw hB hz1 hk1 hS => ?_)
  obtain rfl : H = H1 := (ht.symm.trans hB).symm
  rw [hw]
  refine lv_iconst (v := 4) hx hb dL_law_50 (by decide) ?_
  refine va_calli (va_runS (As := [.int (zl_ce xs L 3), .int 4]) (rest := [.int (Int32.ofNat (2 + lo))]) ⟨hx, hb, hml, hown, hts⟩ (zs_in l (y := zl_ce xs L 3) (mo := 4) (by decide) (by decide) (by decide)) (va_cwS (own := RL) 2 hts (zj_good (zj_S (zj_m (q := 5080) (by decide +kernel) rfl) (zj_m (q := 5081) (by decide +kernel) rfl) (zj_m (q := 1000) (by decide +kernel) rfl) (zj_m (q := 5082) (by decide +kernel) rfl))) rfl rfl rfl (by decide +kernel) ⟨Nat.le_of_ble_eq_true rfl, Nat.le_of_ble_eq_true rfl⟩) ⟨fun a U g mk q => ⟨q.1, q.2.1, zs_0.moved (u := U) (U := U.calling g mk a) (Vm.Alike.refl U.vm) q.2.2⟩, fun U hU hW => ⟨rfl, hU, by (try rw [hU]); exact zs_0.moved hW.alike (show zs_0 s from trivial)⟩⟩ rfl rfl hl.1 rfl (lv_room (Nat.le_of_ble_eq_true rfl)) dL_law_51 ⟨Nat.le_of_ble_eq_true rfl, Nat.le_of_ble_eq_true rfl⟩) hS (fun _ _ h => h.elim) (fun _ h => h.elim) (fun r_ u_ t_ H1 locs1 ht hvm hw hB hz1 hk1 hS => ?_)
  obtain rfl : H = H1 := (ht.symm.trans hB).symm
  rw [hw]
  refine zj_top (y := Int32.ofNat h) (by rw [e4]) ?_
  refine lv_iadd hx hb dL_law_54 ?_
  refine zj_top (y := Int32.ofNat (2 + lo + h)) (zj_add (2 + lo) h) ?_
  refine lv_istore (lv' := [(5, .int (Int32.ofNat (2 + lo + h))), (4, .int (Int32.ofNat (1 + lo))), (3, .int (Int32.ofNat mu)), (2, .int (Int32.ofNat pl)), (1, .ref s.heap.size), (0, .ref b)]) hx hb dL_law_55 hl (by decide) rfl (fun ls hl => ?_)
  exact kk H _ ls pl mu lo h (by rw [e1]; exact zl_in_lt (by decide)) (by rw [e2]; exact zl_in_lt (by decide)) (by rw [e3]; exact zl_in_lt (by decide)) (by rw [e4]; exact zl_in_lt (by decide)) ⟨hst.1, hst.2.1, hS⟩ hl
end LW8
