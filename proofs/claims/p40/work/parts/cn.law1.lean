/-! THE LAW, 1: what it asks behind the first text -/
theorem zj_jr {x : Int} (h : (decide (-2147483648 ≤ x) && decide (x ≤ 2147483647)) = true) : jr x := by
  rw [Bool.and_eq_true, decide_eq_true_eq, decide_eq_true_eq] at h
  unfold jr
  omega
theorem kv_c3 {g : gM} {K : kr_K} {rd tk : Int} {N : kn_N} {c : Nat} : kv_count g K rd tk N c 3 = ku_n g := rfl
theorem kv_c9 {g : gM} {K : kr_K} {rd tk : Int} {N : kn_N} {c : Nat} : kv_count g K rd tk N c 9 = ((K.1 : Nat) : Int) := rfl
section LW1
variable {p : Program} {l : Launch} {e : Env} {s : State} {m : MethodId} {args : Array Value} {below : List Frame} {meth : Method} {c : Code} {H : Heap} {locs : List Loc} {cells slots : Nat} {Q : State → Prop}
variable {x : Jvm.Cond} {B t b q6 : Nat} {cA : Nat → ClassId} {D : va_G} {ls : Array Slot}
variable {T cn : Nat} {g : gM} {K : kr_K} {rd tk im F P fed : Int} {Nn : kn_N} {hh : kz_H} {I : kr_K × Int × Int} {B0 : Nat → Int} {lo h pl mu : Nat}
set_option maxHeartbeats 4000000 in
set_option maxRecDepth 100000 in
theorem zw_1 (Fr : zl_Fr p s m args c x B t cA D) (hW : jn_GW g) (hI : zz_I g zg_1_d) (hR : zz_R g 3 [0, 0, 0] [0, 0, 0]) (hcc : cells ≤ 600086) (hss : slots ≤ 7301442) (hst : zl_st s B t cA D ((T, g), (K, rd, tk), Nn, (cn, hh), (I, im), B0, F, P, fed) H locs) (hl : lv_has ls 9 [(6, .ref q6), (5, .int (Int32.ofNat (2 + lo + h))), (4, .int (Int32.ofNat (1 + lo))), (3, .int (Int32.ofNat mu)), (2, .int (Int32.ofNat pl)), (1, .ref B), (0, .ref b)])
    (kk : ∀ H locs ls, zl_st s B t cA D ((T, g), (K, rd, tk), Nn, (cn, hh), (I, im), B0, F, P, fed) H locs → lv_has ls 9 [(6, .ref q6), (5, .int (Int32.ofNat (2 + lo + h))), (4, .int (Int32.ofNat (1 + lo))), (3, .int (Int32.ofNat mu)), (2, .int (Int32.ofNat pl)), (1, .ref B), (0, .ref b)] → W p l e room_1 s m args below meth c H locs cells slots Q (F0 m 165 ls [])) :
    W p l e room_1 s m args below meth c H locs cells slots Q (F0 m 67 ls [.int 7]) := by
  have hx := Fr.1
  have hb := Fr.2.1
  have z1 := zv_1 hW hI hR
  refine lv_bipush (v := 7) hx hb dL_law_67 (by decide) ?_
  refine lv_icmp_ne (tgt := 163) hx hb dL_law_69 (by decide) (fun c_ => (c_ (rfl)).elim) (fun _ => ?_)
  refine lv_aload_n hx hb dL_law_72 rfl (lv_at hl 5 rfl) ?_
  refine lv_iconst (v := 3) hx hb dL_law_73 (by decide) ?_
  refine zl_d (As := [.int 3]) (rest := []) Fr hst hl.1 (kc_z (kc_count (x := 3) hst.2.1 (zj_jr rfl)) (kv_c3.trans z1.1.1)) zl_count rfl rfl ⟨Nat.le_of_ble_eq_true rfl, rfl⟩ (Nat.le_of_ble_eq_true rfl) (by decide) hcc hss dL_law_74 (fun H locs hst hkp => ?_)
  refine zj_top (y := 7) (by decide) ?_
  refine lv_bipush (v := 7) hx hb dL_law_77 (by decide) ?_
  refine lv_icmp_ne (tgt := 163) hx hb dL_law_79 (by decide) (fun c_ => (c_ (rfl)).elim) (fun _ => ?_)
  refine lv_aload_n hx hb dL_law_82 rfl (lv_at hl 5 rfl) ?_
  refine zl_d (As := []) (rest := []) Fr hst hl.1 (kc_z (kc_conflicts  hst.2.1 ) (z1.1.2.1)) zl_conflicts rfl rfl ⟨Nat.le_of_ble_eq_true rfl, rfl⟩ (Nat.le_of_ble_eq_true rfl) (by decide) hcc hss dL_law_83 (fun H locs hst hkp => ?_)
  refine zj_top (y := 4) (by decide) ?_
  refine lv_iconst (v := 4) hx hb dL_law_86 (by decide) ?_
  refine lv_icmp_ne (tgt := 163) hx hb dL_law_87 (by decide) (fun c_ => (c_ (rfl)).elim) (fun _ => ?_)
  refine lv_aload_n hx hb dL_law_90 rfl (lv_at hl 5 rfl) ?_
  refine lv_iconst (v := 5) hx hb dL_law_91 (by decide) ?_
  refine lv_iconst (v := 0) hx hb dL_law_92 (by decide) ?_
  refine zl_d (As := [.int 5, .int 0]) (rest := []) Fr hst hl.1 (kc_z (kc_action (x := 5) (y := 0) hst.2.1 (zj_jr rfl) (zj_jr rfl)) (z1.1.2.2)) zl_action rfl rfl ⟨Nat.le_of_ble_eq_true rfl, rfl⟩ (Nat.le_of_ble_eq_true rfl) (by decide) hcc hss dL_law_93 (fun H locs hst hkp => ?_)
  refine zj_top (y := 1003) (by decide) ?_
  refine lv_sipush (v := 1003) hx hb dL_law_96 (by decide) ?_
  refine lv_icmp_ne (tgt := 163) hx hb dL_law_99 (by decide) (fun c_ => (c_ (rfl)).elim) (fun _ => ?_)
  refine lv_aload_n hx hb dL_law_102 rfl (lv_at hl 5 rfl) ?_
  refine lv_iconst (v := 0) hx hb dL_law_103 (by decide) ?_
  refine lv_iconst (v := 0) hx hb dL_law_104 (by decide) ?_
  refine zl_d (As := [.int 0, .int 0]) (rest := []) Fr hst hl.1 (kc_z (kc_conflict (x := 0) (y := 0) hst.2.1 (zj_jr rfl) (zj_jr rfl)) (z1.2.1.1)) zl_conflict rfl rfl ⟨Nat.le_of_ble_eq_true rfl, rfl⟩ (Nat.le_of_ble_eq_true rfl) (by decide) hcc hss dL_law_105 (fun H locs hst hkp => ?_)
  refine zj_top (y := 5) (by decide) ?_
  refine lv_iconst (v := 5) hx hb dL_law_108 (by decide) ?_
  refine lv_icmp_ne (tgt := 163) hx hb dL_law_109 (by decide) (fun c_ => (c_ (rfl)).elim) (fun _ => ?_)
  refine lv_aload_n hx hb dL_law_112 rfl (lv_at hl 5 rfl) ?_
  refine lv_iconst (v := 0) hx hb dL_law_113 (by decide) ?_
  refine lv_iconst (v := 1) hx hb dL_law_114 (by decide) ?_
  refine zl_d (As := [.int 0, .int 1]) (rest := []) Fr hst hl.1 (kc_z (kc_conflict (x := 0) (y := 1) hst.2.1 (zj_jr rfl) (zj_jr rfl)) (z1.2.1.2.1)) zl_conflict rfl rfl ⟨Nat.le_of_ble_eq_true rfl, rfl⟩ (Nat.le_of_ble_eq_true rfl) (by decide) hcc hss dL_law_115 (fun H locs hst hkp => ?_)
  refine zj_top (y := 0) (by decide) ?_
  refine lv_if_ne (tgt := 163) hx hb dL_law_118 (by decide) (fun c_ => (c_ (by decide)).elim) (fun _ => ?_)
  refine lv_aload_n hx hb dL_law_121 rfl (lv_at hl 5 rfl) ?_
  refine lv_iconst (v := 0) hx hb dL_law_122 (by decide) ?_
  refine lv_iconst (v := 2) hx hb dL_law_123 (by decide) ?_
  refine zl_d (As := [.int 0, .int 2]) (rest := []) Fr hst hl.1 (kc_z (kc_conflict (x := 0) (y := 2) hst.2.1 (zj_jr rfl) (zj_jr rfl)) (z1.2.1.2.2.1)) zl_conflict rfl rfl ⟨Nat.le_of_ble_eq_true rfl, rfl⟩ (Nat.le_of_ble_eq_true rfl) (by decide) hcc hss dL_law_124 (fun H locs hst hkp => ?_)
  refine zj_top (y := 1003) (by decide) ?_
  refine lv_sipush (v := 1003) hx hb dL_law_127 (by decide) ?_
  refine lv_icmp_ne (tgt := 163) hx hb dL_law_130 (by decide) (fun c_ => (c_ (rfl)).elim) (fun _ => ?_)
  refine lv_aload_n hx hb dL_law_133 rfl (lv_at hl 5 rfl) ?_
  refine lv_iconst (v := 0) hx hb dL_law_134 (by decide) ?_
  refine lv_iconst (v := 3) hx hb dL_law_135 (by decide) ?_
  refine zl_d (As := [.int 0, .int 3]) (rest := []) Fr hst hl.1 (kc_z (kc_conflict (x := 0) (y := 3) hst.2.1 (zj_jr rfl) (zj_jr rfl)) (z1.2.1.2.2.2)) zl_conflict rfl rfl ⟨Nat.le_of_ble_eq_true rfl, rfl⟩ (Nat.le_of_ble_eq_true rfl) (by decide) hcc hss dL_law_136 (fun H locs hst hkp => ?_)
  refine zj_top (y := 0) (by decide) ?_
  refine lv_if_ne (tgt := 163) hx hb dL_law_139 (by decide) (fun c_ => (c_ (by decide)).elim) (fun _ => ?_)
  refine lv_aload_n hx hb dL_law_142 rfl (lv_at hl 5 rfl) ?_
  refine lv_iconst (v := 3) hx hb dL_law_143 (by decide) ?_
  refine lv_iconst (v := 0) hx hb dL_law_144 (by decide) ?_
  refine zl_d (As := [.int 3, .int 0]) (rest := []) Fr hst hl.1 (kc_z (kc_conflict (x := 3) (y := 0) hst.2.1 (zj_jr rfl) (zj_jr rfl)) (z1.2.2.1)) zl_conflict rfl rfl ⟨Nat.le_of_ble_eq_true rfl, rfl⟩ (Nat.le_of_ble_eq_true rfl) (by decide) hcc hss dL_law_145 (fun H locs hst hkp => ?_)
  refine zj_top (y := 6) (by decide) ?_
  refine lv_bipush (v := 6) hx hb dL_law_148 (by decide) ?_
  refine lv_icmp_ne (tgt := 163) hx hb dL_law_150 (by decide) (fun c_ => (c_ (rfl)).elim) (fun _ => ?_)
  refine lv_aload_n hx hb dL_law_153 rfl (lv_at hl 5 rfl) ?_
  refine lv_iconst (v := 3) hx hb dL_law_154 (by decide) ?_
  refine lv_iconst (v := 3) hx hb dL_law_155 (by decide) ?_
  refine zl_d (As := [.int 3, .int 3]) (rest := []) Fr hst hl.1 (kc_z (kc_conflict (x := 3) (y := 3) hst.2.1 (zj_jr rfl) (zj_jr rfl)) (z1.2.2.2)) zl_conflict rfl rfl ⟨Nat.le_of_ble_eq_true rfl, rfl⟩ (Nat.le_of_ble_eq_true rfl) (by decide) hcc hss dL_law_156 (fun H locs hst hkp => ?_)
  refine zj_top (y := 1) (by decide) ?_
  refine lv_iconst (v := 1) hx hb dL_law_159 (by decide) ?_
  refine lv_icmp_eq (tgt := 165) hx hb dL_law_160 (by decide) (fun _ => ?_) (fun c_ => (c_ (rfl)).elim)
  exact kk H locs ls hst hl
end LW1
