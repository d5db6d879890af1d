/-! THE LAW, 5: the third and the fourth text, NOTES -/
theorem kp_ok0 : kp_ok 3 3 202 := ⟨by decide, by decide, by decide, rfl⟩
theorem kp_ok1 : kp_ok 3 1 2 := ⟨by decide, rfl⟩
section LW5
variable {p : Program} {l : Launch} {e : Env} {s : State} {m : MethodId} {args : Array Value} {below : List Frame} {meth : Method} {c : Code} {H : Heap} {locs : List Loc} {cells slots : Nat} {Q : State → Prop}
variable {x : Jvm.Cond} {B t b q6 : Nat} {cA : Nat → ClassId} {D : va_G} {ls : Array Slot}
variable {T cn : Nat} {g : gM} {K : kr_K} {rd tk im F P fed : Int} {Nn : kn_N} {hh : kz_H} {I : kr_K × Int × Int} {B0 : Nat → Int} {lo h pl mu : Nat}
set_option maxHeartbeats 4000000 in
set_option maxRecDepth 100000 in
theorem zw_11 (Fr : zl_Fr p s m args c x B t cA D) {f : Nat → Int × Int × Int} (hW : jn_GW g) (hI : zz_I g zg_3_d) (hR : zz_R g 3 [0, 0, 0] [0, 0, 0])  (hcc : cells ≤ 600086) (hss : slots ≤ 7301442) (hst : zl_st s B t cA D ((T, g), (K, rd, tk), ((0, -1), f), (cn, hh), (I, im), B0, F, P, fed) H locs) (hl : lv_has ls 9 [(6, .ref q6), (5, .int (Int32.ofNat (2 + lo + h))), (4, .int (Int32.ofNat (1 + lo))), (3, .int (Int32.ofNat mu)), (2, .int (Int32.ofNat pl)), (1, .ref B), (0, .ref b)])
    (kk : ∀ (H : Heap) (locs : List Loc) (ls : Array Slot),  zl_st s B t cA D ((T, g), (K, rd, tk), ((0, -1), f), (cn, hh), (I, im), B0, F, P, fed) H locs → lv_has ls 9 [(6, .ref q6), (5, .int (Int32.ofNat (2 + lo + h))), (4, .int (Int32.ofNat (1 + lo))), (3, .int (Int32.ofNat mu)), (2, .int (Int32.ofNat pl)), (1, .ref B), (0, .ref b)] → W p l e room_1 s m args below meth c H locs cells slots Q (F0 m 863 ls [])) :
    W p l e room_1 s m args below meth c H locs cells slots Q (F0 m 724 ls [.int 11]) := by
  have hx := Fr.1
  have hb := Fr.2.1
  have z1 := zv_3a hW hI hR
  have z2 := zv_3s hW hI hR
  have z3 := zv_3i hW hI
  refine lv_bipush (v := 11) hx hb dL_law_724 (by decide) ?_
  refine lv_icmp_ne (tgt := 861) hx hb dL_law_726 (by decide) (fun c_ => (c_ (rfl)).elim) (fun _ => ?_)
  refine lv_aload_n hx hb dL_law_729 rfl (lv_at hl 5 rfl) ?_
  refine lv_iconst (v := 3) hx hb dL_law_730 (by decide) ?_
  refine zl_d (As := [.int 3]) (rest := []) Fr hst hl.1 (kc_z (kc_count (x := 3) hst.2.1 (zj_jr rfl)) (kv_c3.trans z1.1.1)) zl_count rfl rfl ⟨Nat.le_of_ble_eq_true rfl, rfl⟩ (Nat.le_of_ble_eq_true rfl) (by decide) hcc hss dL_law_731 (fun H locs hst hkp => ?_)
  refine zj_top (y := 10) (by decide) ?_
  refine lv_bipush (v := 10) hx hb dL_law_734 (by decide) ?_
  refine lv_icmp_ne (tgt := 861) hx hb dL_law_736 (by decide) (fun c_ => (c_ (rfl)).elim) (fun _ => ?_)
  refine lv_aload_n hx hb dL_law_739 rfl (lv_at hl 5 rfl) ?_
  refine zl_d (As := []) (rest := []) Fr hst hl.1 (kc_z (kc_conflicts  hst.2.1 ) (z1.1.2.1)) zl_conflicts rfl rfl ⟨Nat.le_of_ble_eq_true rfl, rfl⟩ (Nat.le_of_ble_eq_true rfl) (by decide) hcc hss dL_law_740 (fun H locs hst hkp => ?_)
  refine zj_top (y := 0) (by decide) ?_
  refine lv_if_ne (tgt := 861) hx hb dL_law_743 (by decide) (fun c_ => (c_ (by decide)).elim) (fun _ => ?_)
  refine lv_aload_n hx hb dL_law_746 rfl (lv_at hl 5 rfl) ?_
  refine lv_iconst (v := 4) hx hb dL_law_747 (by decide) ?_
  refine lv_iconst (v := 0) hx hb dL_law_748 (by decide) ?_
  refine zl_d (As := [.int 4, .int 0]) (rest := []) Fr hst hl.1 (kc_z (kc_tried (x := 4) (y := 0) hst.2.1 (zj_jr rfl) (zj_jr rfl)) (z1.1.2.2)) zl_tried rfl rfl ⟨Nat.le_of_ble_eq_true rfl, rfl⟩ (Nat.le_of_ble_eq_true rfl) (by decide) hcc hss dL_law_749 (fun H locs hst hkp => ?_)
  refine zj_top (y := 1) (by decide) ?_
  refine lv_iconst (v := 1) hx hb dL_law_752 (by decide) ?_
  refine lv_icmp_ne (tgt := 861) hx hb dL_law_753 (by decide) (fun c_ => (c_ (rfl)).elim) (fun _ => ?_)
  refine lv_aload_n hx hb dL_law_756 rfl (lv_at hl 5 rfl) ?_
  refine lv_iconst (v := 2) hx hb dL_law_757 (by decide) ?_
  refine lv_iconst (v := 2) hx hb dL_law_758 (by decide) ?_
  refine zl_d (As := [.int 2, .int 2]) (rest := []) Fr hst hl.1 (kc_z (kc_kind (x := 2) (y := 2) hst.2.1 (show (0 : Int) ≤ 2 ∧ (2 : Int) < g 0 1 by rw [hI.1.2.1]; decide) (by decide)) (z1.2.1)) zl_kind rfl rfl ⟨Nat.le_of_ble_eq_true rfl, rfl⟩ (Nat.le_of_ble_eq_true rfl) (by decide) hcc hss dL_law_759 (fun H locs hst hkp => ?_)
  refine zj_top (y := 9) (by decide) ?_
  refine lv_bipush (v := 9) hx hb dL_law_762 (by decide) ?_
  refine lv_icmp_ne (tgt := 861) hx hb dL_law_764 (by decide) (fun c_ => (c_ (rfl)).elim) (fun _ => ?_)
  refine lv_aload_n hx hb dL_law_767 rfl (lv_at hl 5 rfl) ?_
  refine lv_iconst (v := 0) hx hb dL_law_768 (by decide) ?_
  refine lv_iconst (v := 2) hx hb dL_law_769 (by decide) ?_
  refine zl_d (As := [.int 0, .int 2]) (rest := []) Fr hst hl.1 (kc_z (kc_after (x := 0) (y := 2) hst.2.1 (zj_jr rfl) (zj_jr rfl)) (z3.1)) zl_after rfl rfl ⟨Nat.le_of_ble_eq_true rfl, rfl⟩ (Nat.le_of_ble_eq_true rfl) (by decide) hcc hss dL_law_770 (fun H locs hst hkp => ?_)
  refine zj_top (y := 8) (by decide) ?_
  refine lv_bipush (v := 8) hx hb dL_law_773 (by decide) ?_
  refine lv_icmp_ne (tgt := 861) hx hb dL_law_775 (by decide) (fun c_ => (c_ (rfl)).elim) (fun _ => ?_)
  refine lv_aload_n hx hb dL_law_778 rfl (lv_at hl 5 rfl) ?_
  refine lv_iconst (v := 4) hx hb dL_law_779 (by decide) ?_
  refine zl_d (As := [.int 4]) (rest := []) Fr hst hl.1 (kc_z (kc_relations (x := 4) hst.2.1 (zj_jr rfl)) (z3.2)) zl_relations rfl rfl ⟨Nat.le_of_ble_eq_true rfl, rfl⟩ (Nat.le_of_ble_eq_true rfl) (by decide) hcc hss dL_law_780 (fun H locs hst hkp => ?_)
  refine zj_top (y := 1) (by decide) ?_
  refine lv_iconst (v := 1) hx hb dL_law_783 (by decide) ?_
  refine lv_icmp_ne (tgt := 861) hx hb dL_law_784 (by decide) (fun c_ => (c_ (rfl)).elim) (fun _ => ?_)
  refine lv_aload_n hx hb dL_law_787 rfl (lv_at hl 5 rfl) ?_
  refine lv_iconst (v := 1) hx hb dL_law_788 (by decide) ?_
  refine zl_d (As := [.int 1]) (rest := []) Fr hst hl.1 (kc_z (kc_sentences (x := 1) hst.2.1 (zj_jr rfl)) (z2.1.1)) zl_sentences rfl rfl ⟨Nat.le_of_ble_eq_true rfl, rfl⟩ (Nat.le_of_ble_eq_true rfl) (by decide) hcc hss dL_law_789 (fun H locs hst hkp => ?_)
  refine zj_top (y := 1) (by decide) ?_
  refine lv_iconst (v := 1) hx hb dL_law_792 (by decide) ?_
  refine lv_icmp_ne (tgt := 861) hx hb dL_law_793 (by decide) (fun c_ => (c_ (rfl)).elim) (fun _ => ?_)
  refine lv_aload_n hx hb dL_law_796 rfl (lv_at hl 5 rfl) ?_
  refine lv_iconst (v := 2) hx hb dL_law_797 (by decide) ?_
  refine zl_d (As := [.int 2]) (rest := []) Fr hst hl.1 (kc_z (kc_sentences (x := 2) hst.2.1 (zj_jr rfl)) (z2.1.2)) zl_sentences rfl rfl ⟨Nat.le_of_ble_eq_true rfl, rfl⟩ (Nat.le_of_ble_eq_true rfl) (by decide) hcc hss dL_law_798 (fun H locs hst hkp => ?_)
  refine zj_top (y := 1) (by decide) ?_
  refine lv_iconst (v := 1) hx hb dL_law_801 (by decide) ?_
  refine lv_icmp_ne (tgt := 861) hx hb dL_law_802 (by decide) (fun c_ => (c_ (rfl)).elim) (fun _ => ?_)
  refine lv_aload_n hx hb dL_law_805 rfl (lv_at hl 5 rfl) ?_
  refine lv_iconst (v := 3) hx hb dL_law_806 (by decide) ?_
  refine zl_d (As := [.int 3]) (rest := []) Fr hst hl.1 (kc_z (kc_sentences (x := 3) hst.2.1 (zj_jr rfl)) (z2.2.1)) zl_sentences rfl rfl ⟨Nat.le_of_ble_eq_true rfl, rfl⟩ (Nat.le_of_ble_eq_true rfl) (by decide) hcc hss dL_law_807 (fun H locs hst hkp => ?_)
  refine zj_top (y := 2) (by decide) ?_
  refine lv_iconst (v := 2) hx hb dL_law_810 (by decide) ?_
  refine lv_icmp_ne (tgt := 861) hx hb dL_law_811 (by decide) (fun c_ => (c_ (rfl)).elim) (fun _ => ?_)
  refine lv_aload_n hx hb dL_law_814 rfl (lv_at hl 5 rfl) ?_
  refine lv_iconst (v := 4) hx hb dL_law_815 (by decide) ?_
  refine zl_d (As := [.int 4]) (rest := []) Fr hst hl.1 (kc_z (kc_sentences (x := 4) hst.2.1 (zj_jr rfl)) (z2.2.2)) zl_sentences rfl rfl ⟨Nat.le_of_ble_eq_true rfl, rfl⟩ (Nat.le_of_ble_eq_true rfl) (by decide) hcc hss dL_law_816 (fun H locs hst hkp => ?_)
  refine zj_top (y := 3) (by decide) ?_
  refine lv_iconst (v := 3) hx hb dL_law_819 (by decide) ?_
  refine lv_icmp_ne (tgt := 861) hx hb dL_law_820 (by decide) (fun c_ => (c_ (rfl)).elim) (fun _ => ?_)
  refine lv_aload_n hx hb dL_law_823 rfl (lv_at hl 5 rfl) ?_
  refine lv_iconst (v := 0) hx hb dL_law_824 (by decide) ?_
  refine lv_iconst (v := 4) hx hb dL_law_825 (by decide) ?_
  refine zl_d (As := [.int 0, .int 4]) (rest := []) Fr hst hl.1 (kc_z (kc_kind (x := 0) (y := 4) hst.2.1 (show (0 : Int) ≤ 0 ∧ (0 : Int) < g 0 1 by rw [hI.1.2.1]; decide) (by decide)) (z1.2.2.1)) zl_kind rfl rfl ⟨Nat.le_of_ble_eq_true rfl, rfl⟩ (Nat.le_of_ble_eq_true rfl) (by decide) hcc hss dL_law_826 (fun H locs hst hkp => ?_)
  refine zj_top (y := 1) (by decide) ?_
  refine lv_iconst (v := 1) hx hb dL_law_829 (by decide) ?_
  refine lv_icmp_ne (tgt := 861) hx hb dL_law_830 (by decide) (fun c_ => (c_ (rfl)).elim) (fun _ => ?_)
  refine lv_aload_n hx hb dL_law_833 rfl (lv_at hl 5 rfl) ?_
  refine lv_iconst (v := 0) hx hb dL_law_834 (by decide) ?_
  refine lv_iconst (v := 0) hx hb dL_law_835 (by decide) ?_
  refine zl_d (As := [.int 0, .int 0]) (rest := []) Fr hst hl.1 (kc_z (kc_shortest (x := 0) (y := 0) hst.2.1 (zj_jr rfl) (zj_jr rfl)) (z1.2.2.2)) zl_shortest rfl rfl ⟨Nat.le_of_ble_eq_true rfl, rfl⟩ (Nat.le_of_ble_eq_true rfl) (by decide) hcc hss dL_law_836 (fun H locs hst hkp => ?_)
  refine zj_top (y := 2) (by decide) ?_
  refine lv_iconst (v := 2) hx hb dL_law_839 (by decide) ?_
  refine lv_icmp_ne (tgt := 861) hx hb dL_law_840 (by decide) (fun c_ => (c_ (rfl)).elim) (fun _ => ?_)
  refine lv_aload_n hx hb dL_law_843 rfl (lv_at hl 5 rfl) ?_
  refine zl_d (As := []) (rest := []) Fr hst hl.1 (kc_z (kc_missing hst.2.1) (congrArg (fun n : Nat => (n : Int)) (zn_m0 (f := f) hW hI hR))) zl_missing rfl rfl ⟨Nat.le_of_ble_eq_true rfl, rfl⟩ (Nat.le_of_ble_eq_true rfl) (by decide) hcc hss dL_law_844 (fun H locs hst hkp => ?_)
  refine zj_top (y := 31) (by decide) ?_
  refine lv_bipush (v := 31) hx hb dL_law_847 (by decide) ?_
  refine lv_icmp_ne (tgt := 861) hx hb dL_law_849 (by decide) (fun c_ => (c_ (rfl)).elim) (fun _ => ?_)
  refine lv_aload_n hx hb dL_law_852 rfl (lv_at hl 5 rfl) ?_
  refine lv_iconst (v := 2) hx hb dL_law_853 (by decide) ?_
  refine lv_iconst (v := 0) hx hb dL_law_854 (by decide) ?_
  refine zl_d (As := [.int 2, .int 0]) (rest := []) Fr hst hl.1 (kc_z (kc_tried (x := 2) (y := 0) hst.2.1 (zj_jr rfl) (zj_jr rfl)) (zv_3t2 hW hI hR)) zl_tried rfl rfl ⟨Nat.le_of_ble_eq_true rfl, rfl⟩ (Nat.le_of_ble_eq_true rfl) (by decide) hcc hss dL_law_855 (fun H locs hst hkp => ?_)
  refine zj_top (y := 0) (by decide) ?_
  refine lv_if_eq (tgt := 863) hx hb dL_law_858 (by decide) (fun _ => ?_) (fun c_ => (c_ (by decide)).elim)
  exact kk H locs ls hst hl
set_option maxHeartbeats 4000000 in
set_option maxRecDepth 100000 in
theorem zw_12 (Fr : zl_Fr p s m args c x B t cA D) {f : Nat → Int × Int × Int} (hW : jn_GW g) (hI : zz_I g zg_3_d) (hR : zz_R g 3 [0, 0, 0] [0, 0, 0]) (hK0 : zt_K K [0]) (hcc : cells ≤ 600086) (hss : slots ≤ 7301442) (hst : zl_st s B t cA D ((T, g), (K, rd, tk), ((0, -1), f), (0, hh), (I, im), B0, F, P, fed) H locs) (hl : lv_has ls 9 [(6, .ref q6), (5, .int (Int32.ofNat (2 + lo + h))), (4, .int (Int32.ofNat (1 + lo))), (3, .int (Int32.ofNat mu)), (2, .int (Int32.ofNat pl)), (1, .ref B), (0, .ref b)])
    (kk : ∀ (H : Heap) (locs : List Loc) (ls : Array Slot), ∀ (N' : kn_N) (hh' : kz_H), zl_st s B t cA D ((T, g), (K, rd, tk), N', (0, hh'), (I, im), B0, F, P, fed) H locs → lv_has ls 9 [(6, .ref q6), (5, .int (Int32.ofNat (2 + lo + h))), (4, .int (Int32.ofNat (1 + lo))), (3, .int (Int32.ofNat mu)), (2, .int (Int32.ofNat pl)), (1, .ref B), (0, .ref b)] → W p l e room_1 s m args below meth c H locs cells slots Q (F0 m 1060 ls [])) :
    W p l e room_1 s m args below meth c H locs cells slots Q (F0 m 863 ls []) := by
  have hx := Fr.1
  have hb := Fr.2.1
  have hH := zv_3H hW hI hR
  have r := zg_3_rows
  refine lv_aload_n hx hb dL_law_863 rfl (lv_at hl 5 rfl) ?_
  refine lv_iconst (v := 3) hx hb dL_law_864 (by decide) ?_
  refine lv_sipush (v := 202) hx hb dL_law_865 (by decide) ?_
  refine lv_iconst (v := 1) hx hb dL_law_868 (by decide) ?_
  refine zl_d (As := [.int 3, .int 202, .int 1]) (rest := []) Fr hst hl.1 (kc_z (z' := 0) (kc_note (x := 3) (y := 202) (k := 1) hst.2.1 (zj_jr rfl) (zj_jr rfl) (Or.inr rfl) (show kp_new g ((0, -1), f) 3 202 from ⟨⟨⟨by decide, by decide⟩, by decide, by rw [hI.1.1]; exact kp_ok0⟩, (show (0 : Nat) < 24 by decide)⟩)) rfl) zl_note rfl rfl ⟨Nat.le_of_ble_eq_true rfl, rfl⟩ (Nat.le_of_ble_eq_true rfl) (by decide) hcc hss dL_law_869 (fun H locs hst hkp => ?_)
  refine zj_top (y := 0) (by decide) ?_
  have hst : zl_st s B t cA D ((T, g), (K, rd, tk), zn_1 f, (0, hh), (I, im), B0, F, P, fed) H locs := hst
  refine lv_if_ne (tgt := 1058) hx hb dL_law_872 (by decide) (fun c_ => (c_ (by decide)).elim) (fun _ => ?_)
  refine lv_aload_n hx hb dL_law_875 rfl (lv_at hl 5 rfl) ?_
  refine zl_d (As := []) (rest := []) Fr hst hl.1 (kc_z (kc_missing hst.2.1) (congrArg (fun n : Nat => (n : Int)) (zn_m1 (f := f) hW hI hR))) zl_missing rfl rfl ⟨Nat.le_of_ble_eq_true rfl, rfl⟩ (Nat.le_of_ble_eq_true rfl) (by decide) hcc hss dL_law_876 (fun H locs hst hkp => ?_)
  refine zj_top (y := 6) (by decide) ?_
  refine lv_bipush (v := 6) hx hb dL_law_879 (by decide) ?_
  refine lv_icmp_ne (tgt := 1058) hx hb dL_law_881 (by decide) (fun c_ => (c_ (rfl)).elim) (fun _ => ?_)
  refine lv_aload_n hx hb dL_law_884 rfl (lv_at hl 5 rfl) ?_
  refine lv_iconst (v := 1) hx hb dL_law_885 (by decide) ?_
  refine lv_iconst (v := 2) hx hb dL_law_886 (by decide) ?_
  refine lv_iconst (v := 0) hx hb dL_law_887 (by decide) ?_
  refine zl_d (As := [.int 1, .int 2, .int 0]) (rest := []) Fr hst hl.1 (kc_z (z' := 1) (kc_note (x := 1) (y := 2) (k := 0) hst.2.1 (zj_jr rfl) (zj_jr rfl) (Or.inl rfl) (show kp_new g (zn_1 f) 1 2 from ⟨⟨⟨by decide, by decide⟩, by decide, by rw [hI.1.1]; exact kp_ok1⟩, (show (1 : Nat) < 24 by decide)⟩)) rfl) zl_note rfl rfl ⟨Nat.le_of_ble_eq_true rfl, rfl⟩ (Nat.le_of_ble_eq_true rfl) (by decide) hcc hss dL_law_888 (fun H locs hst hkp => ?_)
  refine zj_top (y := 1) (by decide) ?_
  have hst : zl_st s B t cA D ((T, g), (K, rd, tk), zn_2 f, (0, hh), (I, im), B0, F, P, fed) H locs := hst
  refine lv_iconst (v := 1) hx hb dL_law_891 (by decide) ?_
  refine lv_icmp_ne (tgt := 1058) hx hb dL_law_892 (by decide) (fun c_ => (c_ (rfl)).elim) (fun _ => ?_)
  refine lv_aload_n hx hb dL_law_895 rfl (lv_at hl 5 rfl) ?_
  refine zl_d (As := []) (rest := []) Fr hst hl.1 (kc_z (kc_missing hst.2.1) (congrArg (fun n : Nat => (n : Int)) (zn_m2 (f := f) hW hI hR))) zl_missing rfl rfl ⟨Nat.le_of_ble_eq_true rfl, rfl⟩ (Nat.le_of_ble_eq_true rfl) (by decide) hcc hss dL_law_896 (fun H locs hst hkp => ?_)
  refine zj_top (y := 2) (by decide) ?_
  refine lv_iconst (v := 2) hx hb dL_law_899 (by decide) ?_
  refine lv_icmp_ne (tgt := 1058) hx hb dL_law_900 (by decide) (fun c_ => (c_ (rfl)).elim) (fun _ => ?_)
  refine lv_aload_n hx hb dL_law_903 rfl (lv_at hl 5 rfl) ?_
  refine lv_iconst (v := 0) hx hb dL_law_904 (by decide) ?_
  refine zl_d (As := [.int 0]) (rest := []) Fr hst hl.1 (kc_z (z' := 2) (kc_strike (x := 0) hst.2.1 (zj_jr rfl) ⟨⟨by decide, (show (0 : Int) < 2 by decide)⟩, (show (2 : Nat) < 24 by decide)⟩) rfl) zl_strike rfl rfl ⟨Nat.le_of_ble_eq_true rfl, rfl⟩ (Nat.le_of_ble_eq_true rfl) (by decide) hcc hss dL_law_905 (fun H locs hst hkp => ?_)
  refine zj_top (y := 2) (by decide) ?_
  have hst : zl_st s B t cA D ((T, g), (K, rd, tk), zn_3 f, (0, hh), (I, im), B0, F, P, fed) H locs := hst
  refine lv_iconst (v := 2) hx hb dL_law_908 (by decide) ?_
  refine lv_icmp_ne (tgt := 1058) hx hb dL_law_909 (by decide) (fun c_ => (c_ (rfl)).elim) (fun _ => ?_)
  refine lv_aload_n hx hb dL_law_912 rfl (lv_at hl 5 rfl) ?_
  refine zl_d (As := []) (rest := []) Fr hst hl.1 (kc_z (kc_missing hst.2.1) (congrArg (fun n : Nat => (n : Int)) (zn_m3 (f := f) hW hI hR))) zl_missing rfl rfl ⟨Nat.le_of_ble_eq_true rfl, rfl⟩ (Nat.le_of_ble_eq_true rfl) (by decide) hcc hss dL_law_913 (fun H locs hst hkp => ?_)
  refine zj_top (y := 26) (by decide) ?_
  refine lv_bipush (v := 26) hx hb dL_law_916 (by decide) ?_
  refine lv_icmp_ne (tgt := 1058) hx hb dL_law_918 (by decide) (fun c_ => (c_ (rfl)).elim) (fun _ => ?_)
  refine lv_aload_n hx hb dL_law_921 rfl (lv_at hl 5 rfl) ?_
  refine lv_iconst (v := 1) hx hb dL_law_922 (by decide) ?_
  refine zl_d (As := [.int 1]) (rest := []) Fr hst hl.1 (kc_known (x := 1) hst.2.1 (zj_jr rfl) ⟨by decide, (show (1 : Int) ≤ 3 by decide)⟩) zl_known rfl rfl ⟨Nat.le_of_ble_eq_true rfl, rfl⟩ (Nat.le_of_ble_eq_true rfl) (by decide) hcc hss dL_law_923 (fun H locs hst hkp => ?_)
  refine zj_top (y := 1) (by decide) ?_
  refine lv_if_eq (tgt := 1058) hx hb dL_law_926 (by decide) (fun c_ => absurd c_ (by decide)) (fun _ => ?_)
  refine lv_aload_n hx hb dL_law_929 rfl (lv_at hl 5 rfl) ?_
  refine zl_d (As := []) (rest := []) Fr hst hl.1 (kc_z (kc_missing hst.2.1) (congrArg (fun n : Nat => (n : Int)) (zn_m4 (f := f) hW hI hR))) zl_missing rfl rfl ⟨Nat.le_of_ble_eq_true rfl, rfl⟩ (Nat.le_of_ble_eq_true rfl) (by decide) hcc hss dL_law_930 (fun H locs hst hkp => ?_)
  refine zj_top (y := 6) (by decide) ?_
  refine lv_bipush (v := 6) hx hb dL_law_933 (by decide) ?_
  refine lv_icmp_ne (tgt := 1058) hx hb dL_law_935 (by decide) (fun c_ => (c_ (rfl)).elim) (fun _ => ?_)
  refine lv_aload_n hx hb dL_law_938 rfl (lv_at hl 5 rfl) ?_
  refine lv_iconst (v := 0) hx hb dL_law_939 (by decide) ?_
  refine zl_d (As := [.int 0]) (rest := []) Fr hst hl.1 (kc_known (x := 0) hst.2.1 (zj_jr rfl) ⟨by decide, (show (0 : Int) ≤ 3 by decide)⟩) zl_known rfl rfl ⟨Nat.le_of_ble_eq_true rfl, rfl⟩ (Nat.le_of_ble_eq_true rfl) (by decide) hcc hss dL_law_940 (fun H locs hst hkp => ?_)
  refine zj_top (y := 1) (by decide) ?_
  refine lv_if_eq (tgt := 1058) hx hb dL_law_943 (by decide) (fun c_ => absurd c_ (by decide)) (fun _ => ?_)
  refine lv_aload_n hx hb dL_law_946 rfl (lv_at hl 5 rfl) ?_
  refine zl_d (As := []) (rest := []) Fr hst hl.1 (kc_z (kc_missing hst.2.1) (congrArg (fun n : Nat => (n : Int)) (zn_m5 (f := f) hW hI hR))) zl_missing rfl rfl ⟨Nat.le_of_ble_eq_true rfl, rfl⟩ (Nat.le_of_ble_eq_true rfl) (by decide) hcc hss dL_law_947 (fun H locs hst hkp => ?_)
  refine zj_top (y := 31) (by decide) ?_
  refine lv_bipush (v := 31) hx hb dL_law_950 (by decide) ?_
  refine lv_icmp_ne (tgt := 1058) hx hb dL_law_952 (by decide) (fun c_ => (c_ (rfl)).elim) (fun _ => ?_)
  refine lv_aload_n hx hb dL_law_955 rfl (lv_at hl 5 rfl) ?_
  refine lv_iconst (v := 2) hx hb dL_law_956 (by decide) ?_
  obtain ⟨K1, hT1, hK1⟩ := zt_some hH (t := 2) (by decide) hK0 (r.1.1.1)
  refine zl_d (As := [.int 2]) (rest := []) Fr hst hl.1 (kc_read hst.2.1 (zj_jr rfl) (zv_may hH (by decide) (t := 2) (by decide)) hT1) zl_read rfl rfl ⟨Nat.le_of_ble_eq_true rfl, rfl⟩ (Nat.le_of_ble_eq_true rfl) (by decide) hcc hss dL_law_957 (fun H locs hst hkp => ?_)
  refine zj_top (y := 0) (by decide) ?_
  refine lv_if_ne (tgt := 1058) hx hb dL_law_960 (by decide) (fun c_ => (c_ (by decide)).elim) (fun _ => ?_)
  refine lv_aload_n hx hb dL_law_963 rfl (lv_at hl 5 rfl) ?_
  refine zl_d (As := []) (rest := []) Fr hst hl.1 (kc_z (kc_expected hst.2.1) (zv_ex hH hK1 (r.1.1.2.1))) zl_expected rfl rfl ⟨Nat.le_of_ble_eq_true rfl, rfl⟩ (Nat.le_of_ble_eq_true rfl) (by decide) hcc hss dL_law_964 (fun H locs hst hkp => ?_)
  refine zj_top (y := 1) (by decide) ?_
  refine lv_iconst (v := 1) hx hb dL_law_967 (by decide) ?_
  refine lv_icmp_ne (tgt := 1058) hx hb dL_law_968 (by decide) (fun c_ => (c_ (rfl)).elim) (fun _ => ?_)
  refine lv_aload_n hx hb dL_law_971 rfl (lv_at hl 5 rfl) ?_
  refine zl_d (As := []) (rest := []) Fr hst hl.1 (kc_z (kc_whole hst.2.1) (zv_whole hH (by decide) hK1 (b := true) (r.1.1.2.2))) zl_whole rfl rfl ⟨Nat.le_of_ble_eq_true rfl, rfl⟩ (Nat.le_of_ble_eq_true rfl) (by decide) hcc hss dL_law_972 (fun H locs hst hkp => ?_)
  refine zj_top (y := 1) (by decide) ?_
  refine lv_iconst (v := 1) hx hb dL_law_975 (by decide) ?_
  refine lv_icmp_ne (tgt := 1058) hx hb dL_law_976 (by decide) (fun c_ => (c_ (rfl)).elim) (fun _ => ?_)
  refine lv_aload_n hx hb dL_law_979 rfl (lv_at hl 5 rfl) ?_
  refine lv_iconst (v := 0) hx hb dL_law_980 (by decide) ?_
  obtain ⟨K2, hT2, hK2⟩ := zt_some hH (t := 0) (by decide) hK1 (r.1.2.1)
  refine zl_d (As := [.int 0]) (rest := []) Fr hst hl.1 (kc_read hst.2.1 (zj_jr rfl) (zv_may hH (by decide) (t := 0) (by decide)) hT2) zl_read rfl rfl ⟨Nat.le_of_ble_eq_true rfl, rfl⟩ (Nat.le_of_ble_eq_true rfl) (by decide) hcc hss dL_law_981 (fun H locs hst hkp => ?_)
  refine zj_top (y := 1) (by decide) ?_
  refine lv_iconst (v := 1) hx hb dL_law_984 (by decide) ?_
  refine lv_icmp_ne (tgt := 1058) hx hb dL_law_985 (by decide) (fun c_ => (c_ (rfl)).elim) (fun _ => ?_)
  refine lv_aload_n hx hb dL_law_988 rfl (lv_at hl 5 rfl) ?_
  refine zl_d (As := []) (rest := []) Fr hst hl.1 (kc_z (kc_expected hst.2.1) (zv_ex hH hK2 (r.1.2.2.1))) zl_expected rfl rfl ⟨Nat.le_of_ble_eq_true rfl, rfl⟩ (Nat.le_of_ble_eq_true rfl) (by decide) hcc hss dL_law_989 (fun H locs hst hkp => ?_)
  refine zj_top (y := 6) (by decide) ?_
  refine lv_bipush (v := 6) hx hb dL_law_992 (by decide) ?_
  refine lv_icmp_ne (tgt := 1058) hx hb dL_law_994 (by decide) (fun c_ => (c_ (rfl)).elim) (fun _ => ?_)
  refine lv_aload_n hx hb dL_law_997 rfl (lv_at hl 5 rfl) ?_
  refine zl_d (As := []) (rest := []) Fr hst hl.1 (kc_z (kc_whole hst.2.1) (zv_whole hH (by decide) hK2 (b := false) (r.1.2.2.2))) zl_whole rfl rfl ⟨Nat.le_of_ble_eq_true rfl, rfl⟩ (Nat.le_of_ble_eq_true rfl) (by decide) hcc hss dL_law_998 (fun H locs hst hkp => ?_)
  refine zj_top (y := 0) (by decide) ?_
  refine lv_if_ne (tgt := 1058) hx hb dL_law_1001 (by decide) (fun c_ => (c_ (by decide)).elim) (fun _ => ?_)
  refine lv_aload_n hx hb dL_law_1004 rfl (lv_at hl 5 rfl) ?_
  refine lv_iconst (v := 0) hx hb dL_law_1005 (by decide) ?_
  have hN := zt_none hH (t := 0) (by decide) hK2 (r.2.1)
  refine zl_d (As := [.int 0]) (rest := []) Fr hst hl.1 (kc_noread hst.2.1 (zj_jr rfl) (zv_may hH (by decide) (t := 0) (by decide)) hN) zl_read rfl rfl ⟨Nat.le_of_ble_eq_true rfl, rfl⟩ (Nat.le_of_ble_eq_true rfl) (by decide) hcc hss dL_law_1006 (fun H locs hst hkp => ?_)
  refine zj_top (y := (-2)) (by decide) ?_
  refine lv_bipush (v := (-2)) hx hb dL_law_1009 (by decide) ?_
  refine lv_icmp_ne (tgt := 1058) hx hb dL_law_1011 (by decide) (fun c_ => (c_ (rfl)).elim) (fun _ => ?_)
  refine lv_aload_n hx hb dL_law_1014 rfl (lv_at hl 5 rfl) ?_
  refine zl_d (As := []) (rest := []) Fr hst hl.1 (kc_undo hst.2.1 (by decide)) zl_undo rfl rfl ⟨Nat.le_of_ble_eq_true rfl, rfl⟩ (Nat.le_of_ble_eq_true rfl) (by decide) hcc hss dL_law_1015 (fun H locs hst hkp => ?_)
  refine zj_top (y := 1) (by decide) ?_
  refine lv_iconst (v := 1) hx hb dL_law_1018 (by decide) ?_
  refine lv_icmp_ne (tgt := 1058) hx hb dL_law_1019 (by decide) (fun c_ => (c_ (rfl)).elim) (fun _ => ?_)
  refine lv_aload_n hx hb dL_law_1022 rfl (lv_at hl 5 rfl) ?_
  refine zl_d (As := []) (rest := []) Fr hst hl.1 (kc_undo hst.2.1 (by decide)) zl_undo rfl rfl ⟨Nat.le_of_ble_eq_true rfl, rfl⟩ (Nat.le_of_ble_eq_true rfl) (by decide) hcc hss dL_law_1023 (fun H locs hst hkp => ?_)
  refine zj_top (y := 0) (by decide) ?_
  have hst : zl_st s B t cA D ((T, g), (K, rd, tk), kn_lim (kn_lim (zn_3 f) 1) 0, (0, _), (I, im), B0, F, P, fed) H locs := hst
  refine lv_if_ne (tgt := 1058) hx hb dL_law_1026 (by decide) (fun c_ => (c_ (by decide)).elim) (fun _ => ?_)
  have g1 := zv_game0 hH (by decide) hK0 (n := 1) (by decide) r.2.2.1
  have g0 := zv_game0 hH (by decide) hK0 (n := 0) (by decide) r.2.2.2
  refine lv_aload_n hx hb dL_law_1029 rfl (lv_at hl 5 rfl) ?_
  refine lv_iconst (v := 1) hx hb dL_law_1030 (by decide) ?_
  refine lv_iconst (v := 0) hx hb dL_law_1031 (by decide) ?_
  refine zl_d (As := [.int 1, .int 0]) (rest := []) Fr hst hl.1 (kc_z (kc_game (x := 1) (y := 0) hst.2.1 (zj_jr rfl) (zj_jr rfl)) (g1.1)) zl_game rfl rfl ⟨Nat.le_of_ble_eq_true rfl, rfl⟩ (Nat.le_of_ble_eq_true rfl) (by decide) hcc hss dL_law_1032 (fun H locs hst hkp => ?_)
  refine zj_top (y := 0) (by decide) ?_
  refine lv_if_ne (tgt := 1058) hx hb dL_law_1035 (by decide) (fun c_ => (c_ (by decide)).elim) (fun _ => ?_)
  refine lv_aload_n hx hb dL_law_1038 rfl (lv_at hl 5 rfl) ?_
  refine lv_iconst (v := 1) hx hb dL_law_1039 (by decide) ?_
  refine lv_iconst (v := 1) hx hb dL_law_1040 (by decide) ?_
  refine zl_d (As := [.int 1, .int 1]) (rest := []) Fr hst hl.1 (kc_z (kc_game (x := 1) (y := 1) hst.2.1 (zj_jr rfl) (zj_jr rfl)) (g1.2)) zl_game rfl rfl ⟨Nat.le_of_ble_eq_true rfl, rfl⟩ (Nat.le_of_ble_eq_true rfl) (by decide) hcc hss dL_law_1041 (fun H locs hst hkp => ?_)
  refine zj_top (y := 1) (by decide) ?_
  refine lv_iconst (v := 1) hx hb dL_law_1044 (by decide) ?_
  refine lv_icmp_ne (tgt := 1058) hx hb dL_law_1045 (by decide) (fun c_ => (c_ (rfl)).elim) (fun _ => ?_)
  refine lv_aload_n hx hb dL_law_1048 rfl (lv_at hl 5 rfl) ?_
  refine lv_iconst (v := 0) hx hb dL_law_1049 (by decide) ?_
  refine lv_iconst (v := 0) hx hb dL_law_1050 (by decide) ?_
  refine zl_d (As := [.int 0, .int 0]) (rest := []) Fr hst hl.1 (kc_z (kc_game (x := 0) (y := 0) hst.2.1 (zj_jr rfl) (zj_jr rfl)) (g0.1)) zl_game rfl rfl ⟨Nat.le_of_ble_eq_true rfl, rfl⟩ (Nat.le_of_ble_eq_true rfl) (by decide) hcc hss dL_law_1051 (fun H locs hst hkp => ?_)
  refine zj_top (y := 1) (by decide) ?_
  refine lv_iconst (v := 1) hx hb dL_law_1054 (by decide) ?_
  refine lv_icmp_eq (tgt := 1060) hx hb dL_law_1055 (by decide) (fun _ => ?_) (fun c_ => (c_ (rfl)).elim)
  exact kk H locs ls _ _ hst hl
set_option maxHeartbeats 4000000 in
set_option maxRecDepth 100000 in
theorem zw_13 (Fr : zl_Fr p s m args c x B t cA D) {f : Nat → Int × Int × Int} (hW : jn_GW g) (hI : zz_I g zg_4_d) (hR : zz_R g 1 [0] [0]) (hK0 : zt_K K [0]) (hcc : cells ≤ 600086) (hss : slots ≤ 7301442) (hst : zl_st s B t cA D ((T, g), (K, rd, tk), ((0, -1), f), (0, hh), (I, im), B0, F, P, fed) H locs) (hl : lv_has ls 9 [(6, .ref q6), (5, .int (Int32.ofNat (2 + lo + h))), (4, .int (Int32.ofNat (1 + lo))), (3, .int (Int32.ofNat mu)), (2, .int (Int32.ofNat pl)), (1, .ref B), (0, .ref b)])
    (kk : ∀ (H : Heap) (locs : List Loc) (ls : Array Slot), ∀ (K' : kr_K) (rd' tk' : Int) (c' : Nat) (hh' : kz_H), zl_st s B t cA D ((T, g), (K', rd', tk'), ((0, -1), f), (c', hh'), (I, im), B0, F, P, fed) H locs → lv_has ls 9 [(6, .ref q6), (5, .int (Int32.ofNat (2 + lo + h))), (4, .int (Int32.ofNat (1 + lo))), (3, .int (Int32.ofNat mu)), (2, .int (Int32.ofNat pl)), (1, .ref B), (0, .ref b)] → W p l e room_1 s m args below meth c H locs cells slots Q (F0 m 1267 ls [.int 1])) :
    W p l e room_1 s m args below meth c H locs cells slots Q (F0 m 1066 ls [.int 5]) := by
  have hx := Fr.1
  have hb := Fr.2.1
  have z1 := zv_4a hW hI hR
  have hH := zv_4H hW hI hR
  have r := zg_4_rows
  refine lv_iconst (v := 5) hx hb dL_law_1066 (by decide) ?_
  refine lv_icmp_ne (tgt := 1266) hx hb dL_law_1067 (by decide) (fun c_ => (c_ (rfl)).elim) (fun _ => ?_)
  refine lv_aload_n hx hb dL_law_1070 rfl (lv_at hl 5 rfl) ?_
  refine lv_iconst (v := 3) hx hb dL_law_1071 (by decide) ?_
  refine zl_d (As := [.int 3]) (rest := []) Fr hst hl.1 (kc_z (kc_count (x := 3) hst.2.1 (zj_jr rfl)) (kv_c3.trans z1.1.1)) zl_count rfl rfl ⟨Nat.le_of_ble_eq_true rfl, rfl⟩ (Nat.le_of_ble_eq_true rfl) (by decide) hcc hss dL_law_1072 (fun H locs hst hkp => ?_)
  refine zj_top (y := 4) (by decide) ?_
  refine lv_iconst (v := 4) hx hb dL_law_1075 (by decide) ?_
  refine lv_icmp_ne (tgt := 1266) hx hb dL_law_1076 (by decide) (fun c_ => (c_ (rfl)).elim) (fun _ => ?_)
  refine lv_aload_n hx hb dL_law_1079 rfl (lv_at hl 5 rfl) ?_
  refine lv_iconst (v := 1) hx hb dL_law_1080 (by decide) ?_
  refine lv_iconst (v := 0) hx hb dL_law_1081 (by decide) ?_
  refine zl_d (As := [.int 1, .int 0]) (rest := []) Fr hst hl.1 (kc_z (kc_kind (x := 1) (y := 0) hst.2.1 (show (0 : Int) ≤ 1 ∧ (1 : Int) < g 0 1 by rw [hI.1.2.1]; decide) (by decide)) (z1.1.2.1)) zl_kind rfl rfl ⟨Nat.le_of_ble_eq_true rfl, rfl⟩ (Nat.le_of_ble_eq_true rfl) (by decide) hcc hss dL_law_1082 (fun H locs hst hkp => ?_)
  refine zj_top (y := 1) (by decide) ?_
  refine lv_iconst (v := 1) hx hb dL_law_1085 (by decide) ?_
  refine lv_icmp_ne (tgt := 1266) hx hb dL_law_1086 (by decide) (fun c_ => (c_ (rfl)).elim) (fun _ => ?_)
  refine lv_aload_n hx hb dL_law_1089 rfl (lv_at hl 5 rfl) ?_
  refine lv_iconst (v := 0) hx hb dL_law_1090 (by decide) ?_
  refine lv_iconst (v := 0) hx hb dL_law_1091 (by decide) ?_
  refine zl_d (As := [.int 0, .int 0]) (rest := []) Fr hst hl.1 (kc_z (kc_kind (x := 0) (y := 0) hst.2.1 (show (0 : Int) ≤ 0 ∧ (0 : Int) < g 0 1 by rw [hI.1.2.1]; decide) (by decide)) (z1.1.2.2.1)) zl_kind rfl rfl ⟨Nat.le_of_ble_eq_true rfl, rfl⟩ (Nat.le_of_ble_eq_true rfl) (by decide) hcc hss dL_law_1092 (fun H locs hst hkp => ?_)
  refine zj_top (y := 0) (by decide) ?_
  refine lv_if_ne (tgt := 1266) hx hb dL_law_1095 (by decide) (fun c_ => (c_ (by decide)).elim) (fun _ => ?_)
  refine lv_aload_n hx hb dL_law_1098 rfl (lv_at hl 5 rfl) ?_
  refine lv_iconst (v := 0) hx hb dL_law_1099 (by decide) ?_
  refine lv_iconst (v := 1) hx hb dL_law_1100 (by decide) ?_
  refine zl_d (As := [.int 0, .int 1]) (rest := []) Fr hst hl.1 (kc_z (kc_kind (x := 0) (y := 1) hst.2.1 (show (0 : Int) ≤ 0 ∧ (0 : Int) < g 0 1 by rw [hI.1.2.1]; decide) (by decide)) (z1.1.2.2.2)) zl_kind rfl rfl ⟨Nat.le_of_ble_eq_true rfl, rfl⟩ (Nat.le_of_ble_eq_true rfl) (by decide) hcc hss dL_law_1101 (fun H locs hst hkp => ?_)
  refine zj_top (y := 1) (by decide) ?_
  refine lv_iconst (v := 1) hx hb dL_law_1104 (by decide) ?_
  refine lv_icmp_ne (tgt := 1266) hx hb dL_law_1105 (by decide) (fun c_ => (c_ (rfl)).elim) (fun _ => ?_)
  refine lv_aload_n hx hb dL_law_1108 rfl (lv_at hl 5 rfl) ?_
  refine lv_iconst (v := 1) hx hb dL_law_1109 (by decide) ?_
  refine lv_iconst (v := 1) hx hb dL_law_1110 (by decide) ?_
  refine zl_d (As := [.int 1, .int 1]) (rest := []) Fr hst hl.1 (kc_z (kc_kind (x := 1) (y := 1) hst.2.1 (show (0 : Int) ≤ 1 ∧ (1 : Int) < g 0 1 by rw [hI.1.2.1]; decide) (by decide)) (z1.2.1.1)) zl_kind rfl rfl ⟨Nat.le_of_ble_eq_true rfl, rfl⟩ (Nat.le_of_ble_eq_true rfl) (by decide) hcc hss dL_law_1111 (fun H locs hst hkp => ?_)
  refine zj_top (y := 0) (by decide) ?_
  refine lv_if_ne (tgt := 1266) hx hb dL_law_1114 (by decide) (fun c_ => (c_ (by decide)).elim) (fun _ => ?_)
  refine lv_aload_n hx hb dL_law_1117 rfl (lv_at hl 5 rfl) ?_
  refine lv_iconst (v := 1) hx hb dL_law_1118 (by decide) ?_
  refine lv_iconst (v := 2) hx hb dL_law_1119 (by decide) ?_
  refine zl_d (As := [.int 1, .int 2]) (rest := []) Fr hst hl.1 (kc_z (kc_kind (x := 1) (y := 2) hst.2.1 (show (0 : Int) ≤ 1 ∧ (1 : Int) < g 0 1 by rw [hI.1.2.1]; decide) (by decide)) (z1.2.1.2.1)) zl_kind rfl rfl ⟨Nat.le_of_ble_eq_true rfl, rfl⟩ (Nat.le_of_ble_eq_true rfl) (by decide) hcc hss dL_law_1120 (fun H locs hst hkp => ?_)
  refine zj_top (y := 1) (by decide) ?_
  refine lv_iconst (v := 1) hx hb dL_law_1123 (by decide) ?_
  refine lv_icmp_ne (tgt := 1266) hx hb dL_law_1124 (by decide) (fun c_ => (c_ (rfl)).elim) (fun _ => ?_)
  refine lv_aload_n hx hb dL_law_1127 rfl (lv_at hl 5 rfl) ?_
  refine lv_iconst (v := 1) hx hb dL_law_1128 (by decide) ?_
  refine lv_iconst (v := 4) hx hb dL_law_1129 (by decide) ?_
  refine zl_d (As := [.int 1, .int 4]) (rest := []) Fr hst hl.1 (kc_z (kc_kind (x := 1) (y := 4) hst.2.1 (show (0 : Int) ≤ 1 ∧ (1 : Int) < g 0 1 by rw [hI.1.2.1]; decide) (by decide)) (z1.2.1.2.2.1)) zl_kind rfl rfl ⟨Nat.le_of_ble_eq_true rfl, rfl⟩ (Nat.le_of_ble_eq_true rfl) (by decide) hcc hss dL_law_1130 (fun H locs hst hkp => ?_)
  refine zj_top (y := 0) (by decide) ?_
  refine lv_if_ne (tgt := 1266) hx hb dL_law_1133 (by decide) (fun c_ => (c_ (by decide)).elim) (fun _ => ?_)
  refine lv_aload_n hx hb dL_law_1136 rfl (lv_at hl 5 rfl) ?_
  refine lv_iconst (v := 0) hx hb dL_law_1137 (by decide) ?_
  refine lv_iconst (v := 1) hx hb dL_law_1138 (by decide) ?_
  refine zl_d (As := [.int 0, .int 1]) (rest := []) Fr hst hl.1 (kc_z (kc_look (x := 0) (y := 1) hst.2.1 (zj_jr rfl) (zj_jr rfl)) (z1.2.1.2.2.2)) zl_look rfl rfl ⟨Nat.le_of_ble_eq_true rfl, rfl⟩ (Nat.le_of_ble_eq_true rfl) (by decide) hcc hss dL_law_1139 (fun H locs hst hkp => ?_)
  refine zj_top (y := 1) (by decide) ?_
  refine lv_iconst (v := 1) hx hb dL_law_1142 (by decide) ?_
  refine lv_icmp_ne (tgt := 1266) hx hb dL_law_1143 (by decide) (fun c_ => (c_ (rfl)).elim) (fun _ => ?_)
  refine lv_aload_n hx hb dL_law_1146 rfl (lv_at hl 5 rfl) ?_
  refine lv_iconst (v := 0) hx hb dL_law_1147 (by decide) ?_
  refine lv_iconst (v := 1) hx hb dL_law_1148 (by decide) ?_
  refine zl_d (As := [.int 0, .int 1]) (rest := []) Fr hst hl.1 (kc_z (kc_after (x := 0) (y := 1) hst.2.1 (zj_jr rfl) (zj_jr rfl)) (z1.2.2.1.1)) zl_after rfl rfl ⟨Nat.le_of_ble_eq_true rfl, rfl⟩ (Nat.le_of_ble_eq_true rfl) (by decide) hcc hss dL_law_1149 (fun H locs hst hkp => ?_)
  refine zj_top (y := 1) (by decide) ?_
  refine lv_iconst (v := 1) hx hb dL_law_1152 (by decide) ?_
  refine lv_icmp_ne (tgt := 1266) hx hb dL_law_1153 (by decide) (fun c_ => (c_ (rfl)).elim) (fun _ => ?_)
  refine lv_aload_n hx hb dL_law_1156 rfl (lv_at hl 5 rfl) ?_
  refine lv_iconst (v := 0) hx hb dL_law_1157 (by decide) ?_
  refine lv_iconst (v := 0) hx hb dL_law_1158 (by decide) ?_
  refine zl_d (As := [.int 0, .int 0]) (rest := []) Fr hst hl.1 (kc_z (kc_after (x := 0) (y := 0) hst.2.1 (zj_jr rfl) (zj_jr rfl)) (z1.2.2.1.2.1)) zl_after rfl rfl ⟨Nat.le_of_ble_eq_true rfl, rfl⟩ (Nat.le_of_ble_eq_true rfl) (by decide) hcc hss dL_law_1159 (fun H locs hst hkp => ?_)
  refine zj_top (y := 2) (by decide) ?_
  refine lv_iconst (v := 2) hx hb dL_law_1162 (by decide) ?_
  refine lv_icmp_ne (tgt := 1266) hx hb dL_law_1163 (by decide) (fun c_ => (c_ (rfl)).elim) (fun _ => ?_)
  refine lv_aload_n hx hb dL_law_1166 rfl (lv_at hl 5 rfl) ?_
  refine lv_iconst (v := 2) hx hb dL_law_1167 (by decide) ?_
  refine lv_iconst (v := 3) hx hb dL_law_1168 (by decide) ?_
  refine zl_d (As := [.int 2, .int 3]) (rest := []) Fr hst hl.1 (kc_z (kc_state (x := 2) (y := 3) hst.2.1 (zj_jr rfl) (zj_jr rfl)) (z1.2.2.1.2.2.1)) zl_state rfl rfl ⟨Nat.le_of_ble_eq_true rfl, rfl⟩ (Nat.le_of_ble_eq_true rfl) (by decide) hcc hss dL_law_1169 (fun H locs hst hkp => ?_)
  refine zj_top (y := 0) (by decide) ?_
  refine lv_if_ne (tgt := 1266) hx hb dL_law_1172 (by decide) (fun c_ => (c_ (by decide)).elim) (fun _ => ?_)
  refine lv_aload_n hx hb dL_law_1175 rfl (lv_at hl 5 rfl) ?_
  refine lv_iconst (v := 0) hx hb dL_law_1176 (by decide) ?_
  refine lv_iconst (v := 0) hx hb dL_law_1177 (by decide) ?_
  refine zl_d (As := [.int 0, .int 0]) (rest := []) Fr hst hl.1 (kc_z (kc_action (x := 0) (y := 0) hst.2.1 (zj_jr rfl) (zj_jr rfl)) (z1.2.2.1.2.2.2)) zl_action rfl rfl ⟨Nat.le_of_ble_eq_true rfl, rfl⟩ (Nat.le_of_ble_eq_true rfl) (by decide) hcc hss dL_law_1178 (fun H locs hst hkp => ?_)
  refine zj_top (y := 2001) (by decide) ?_
  refine lv_sipush (v := 2001) hx hb dL_law_1181 (by decide) ?_
  refine lv_icmp_ne (tgt := 1266) hx hb dL_law_1184 (by decide) (fun c_ => (c_ (rfl)).elim) (fun _ => ?_)
  refine lv_aload_n hx hb dL_law_1187 rfl (lv_at hl 5 rfl) ?_
  refine lv_iconst (v := 1) hx hb dL_law_1188 (by decide) ?_
  refine zl_d (As := [.int 1]) (rest := []) Fr hst hl.1 (kc_z (kc_sentences (x := 1) hst.2.1 (zj_jr rfl)) (z1.2.2.2.1)) zl_sentences rfl rfl ⟨Nat.le_of_ble_eq_true rfl, rfl⟩ (Nat.le_of_ble_eq_true rfl) (by decide) hcc hss dL_law_1189 (fun H locs hst hkp => ?_)
  refine zj_top (y := 1) (by decide) ?_
  refine lv_iconst (v := 1) hx hb dL_law_1192 (by decide) ?_
  refine lv_icmp_ne (tgt := 1266) hx hb dL_law_1193 (by decide) (fun c_ => (c_ (rfl)).elim) (fun _ => ?_)
  refine lv_aload_n hx hb dL_law_1196 rfl (lv_at hl 5 rfl) ?_
  refine lv_iconst (v := 0) hx hb dL_law_1197 (by decide) ?_
  refine zl_d (As := [.int 0]) (rest := []) Fr hst hl.1 (kc_z (kc_sentences (x := 0) hst.2.1 (zj_jr rfl)) (z1.2.2.2.2)) zl_sentences rfl rfl ⟨Nat.le_of_ble_eq_true rfl, rfl⟩ (Nat.le_of_ble_eq_true rfl) (by decide) hcc hss dL_law_1198 (fun H locs hst hkp => ?_)
  refine zj_top (y := 0) (by decide) ?_
  refine lv_if_ne (tgt := 1266) hx hb dL_law_1201 (by decide) (fun c_ => (c_ (by decide)).elim) (fun _ => ?_)
  refine lv_aload_n hx hb dL_law_1204 rfl (lv_at hl 5 rfl) ?_
  refine lv_iconst (v := 0) hx hb dL_law_1205 (by decide) ?_
  obtain ⟨K1, hT1, hK1⟩ := zt_some hH (t := 0) (by decide) hK0 (r.1.1)
  refine zl_d (As := [.int 0]) (rest := []) Fr hst hl.1 (kc_read hst.2.1 (zj_jr rfl) (zv_may hH (by decide) (t := 0) (by decide)) hT1) zl_read rfl rfl ⟨Nat.le_of_ble_eq_true rfl, rfl⟩ (Nat.le_of_ble_eq_true rfl) (by decide) hcc hss dL_law_1206 (fun H locs hst hkp => ?_)
  refine zj_top (y := 1) (by decide) ?_
  refine lv_iconst (v := 1) hx hb dL_law_1209 (by decide) ?_
  refine lv_icmp_ne (tgt := 1266) hx hb dL_law_1210 (by decide) (fun c_ => (c_ (rfl)).elim) (fun _ => ?_)
  refine lv_aload_n hx hb dL_law_1213 rfl (lv_at hl 5 rfl) ?_
  refine zl_d (As := []) (rest := []) Fr hst hl.1 (kc_z (kc_whole hst.2.1) (zv_whole hH (by decide) hK1 (b := true) r.1.2)) zl_whole rfl rfl ⟨Nat.le_of_ble_eq_true rfl, rfl⟩ (Nat.le_of_ble_eq_true rfl) (by decide) hcc hss dL_law_1214 (fun H locs hst hkp => ?_)
  refine zj_top (y := 1) (by decide) ?_
  refine lv_iconst (v := 1) hx hb dL_law_1217 (by decide) ?_
  refine lv_icmp_ne (tgt := 1266) hx hb dL_law_1218 (by decide) (fun c_ => (c_ (rfl)).elim) (fun _ => ?_)
  refine lv_aload_n hx hb dL_law_1221 rfl (lv_at hl 5 rfl) ?_
  refine lv_iconst (v := 0) hx hb dL_law_1222 (by decide) ?_
  refine zl_d (As := [.int 0]) (rest := []) Fr hst hl.1 (kc_z (kc_stack (x := ((0 : Nat) : Int)) hst.2.1 (zj_jr rfl)) (zv_stk hH (by decide) hK1 (i := 0) (by decide))) zl_stack rfl rfl ⟨Nat.le_of_ble_eq_true rfl, rfl⟩ (Nat.le_of_ble_eq_true rfl) (by decide) hcc hss dL_law_1223 (fun H locs hst hkp => ?_)
  refine zj_top (y := 3) (by decide) ?_
  refine lv_iconst (v := 3) hx hb dL_law_1226 (by decide) ?_
  refine lv_icmp_ne (tgt := 1266) hx hb dL_law_1227 (by decide) (fun c_ => (c_ (rfl)).elim) (fun _ => ?_)
  refine lv_aload_n hx hb dL_law_1230 rfl (lv_at hl 5 rfl) ?_
  refine lv_iconst (v := 1) hx hb dL_law_1231 (by decide) ?_
  refine zl_d (As := [.int 1]) (rest := []) Fr hst hl.1 (kc_z (kc_stack (x := ((1 : Nat) : Int)) hst.2.1 (zj_jr rfl)) (zv_stk hH (by decide) hK1 (i := 1) (by decide))) zl_stack rfl rfl ⟨Nat.le_of_ble_eq_true rfl, rfl⟩ (Nat.le_of_ble_eq_true rfl) (by decide) hcc hss dL_law_1232 (fun H locs hst hkp => ?_)
  refine zj_top (y := 2) (by decide) ?_
  refine lv_iconst (v := 2) hx hb dL_law_1235 (by decide) ?_
  refine lv_icmp_ne (tgt := 1266) hx hb dL_law_1236 (by decide) (fun c_ => (c_ (rfl)).elim) (fun _ => ?_)
  refine lv_aload_n hx hb dL_law_1239 rfl (lv_at hl 5 rfl) ?_
  refine lv_iconst (v := 2) hx hb dL_law_1240 (by decide) ?_
  refine zl_d (As := [.int 2]) (rest := []) Fr hst hl.1 (kc_z (kc_stack (x := ((2 : Nat) : Int)) hst.2.1 (zj_jr rfl)) (zv_stk hH (by decide) hK1 (i := 2) (by decide))) zl_stack rfl rfl ⟨Nat.le_of_ble_eq_true rfl, rfl⟩ (Nat.le_of_ble_eq_true rfl) (by decide) hcc hss dL_law_1241 (fun H locs hst hkp => ?_)
  refine zj_top (y := 0) (by decide) ?_
  refine lv_if_ne (tgt := 1266) hx hb dL_law_1244 (by decide) (fun c_ => (c_ (by decide)).elim) (fun _ => ?_)
  refine lv_aload_n hx hb dL_law_1247 rfl (lv_at hl 5 rfl) ?_
  refine zl_d (As := []) (rest := []) Fr hst hl.1 (kc_z (kc_expected hst.2.1) (zv_ex hH hK1 r.2)) zl_expected rfl rfl ⟨Nat.le_of_ble_eq_true rfl, rfl⟩ (Nat.le_of_ble_eq_true rfl) (by decide) hcc hss dL_law_1248 (fun H locs hst hkp => ?_)
  refine zj_top (y := 0) (by decide) ?_
  refine lv_if_ne (tgt := 1266) hx hb dL_law_1251 (by decide) (fun c_ => (c_ (by decide)).elim) (fun _ => ?_)
  refine lv_aload_n hx hb dL_law_1254 rfl (lv_at hl 5 rfl) ?_
  refine zl_d (As := []) (rest := []) Fr hst hl.1 (kc_z (kc_missing hst.2.1) (congrArg (fun n : Nat => (n : Int)) (zn_m6 (f := f) hI))) zl_missing rfl rfl ⟨Nat.le_of_ble_eq_true rfl, rfl⟩ (Nat.le_of_ble_eq_true rfl) (by decide) hcc hss dL_law_1255 (fun H locs hst hkp => ?_)
  refine zj_top (y := 3) (by decide) ?_
  refine lv_iconst (v := 3) hx hb dL_law_1258 (by decide) ?_
  refine lv_icmp_ne (tgt := 1266) hx hb dL_law_1259 (by decide) (fun c_ => (c_ (rfl)).elim) (fun _ => ?_)
  refine lv_iconst (v := 1) hx hb dL_law_1262 (by decide) ?_
  refine lv_goto (tgt := 1267) hx hb dL_law_1263 (by decide) ?_
  exact kk H locs ls _ _ _ _ _ hst hl
end LW5
