theorem dJ4_append_bf812_0 : decode cJ4_append_bf812 0 = .ok (.aload_n 0, 1) := by decide +kernel
theorem dJ4_append_bf812_1 : decode cJ4_append_bf812 1 = .ok (.iload_n 1, 1) := by decide +kernel
theorem dJ4_append_bf812_2 : decode cJ4_append_bf812 2 = .ok (.invokespecial 53, 3) := by decide +kernel
theorem dJ4_append_bf812_5 : decode cJ4_append_bf812 5 = .ok (.pop, 1) := by decide +kernel
theorem dJ4_append_bf812_6 : decode cJ4_append_bf812 6 = .ok (.aload_n 0, 1) := by decide +kernel
theorem dJ4_append_bf812_7 : decode cJ4_append_bf812 7 = .ok (.areturn, 1) := by decide +kernel
theorem dJ4_init_da8c8_0 : decode cJ4_init_da8c8 0 = .ok (.aload_n 0, 1) := by decide +kernel
theorem dJ4_init_da8c8_1 : decode cJ4_init_da8c8 1 = .ok (.bipush 16, 2) := by decide +kernel
theorem dJ4_init_da8c8_3 : decode cJ4_init_da8c8 3 = .ok (.invokespecial 1, 3) := by decide +kernel
theorem dJ4_init_da8c8_6 : decode cJ4_init_da8c8 6 = .ok (.return_, 1) := by decide +kernel
theorem dJ5_append_c97b9_0 : decode cJ5_append_c97b9 0 = .ok (.aload_n 0, 1) := by decide +kernel
theorem dJ5_append_c97b9_1 : decode cJ5_append_c97b9 1 = .ok (.getfield 79, 3) := by decide +kernel
theorem dJ5_append_c97b9_4 : decode cJ5_append_c97b9 4 = .ok (.istore_n 2, 1) := by decide +kernel
theorem dJ5_append_c97b9_5 : decode cJ5_append_c97b9 5 = .ok (.iload_n 2, 1) := by decide +kernel
theorem dJ5_append_c97b9_6 : decode cJ5_append_c97b9 6 = .ok (.iload_n 1, 1) := by decide +kernel
theorem dJ5_append_c97b9_7 : decode cJ5_append_c97b9 7 = .ok (.invokestatic 245, 3) := by decide +kernel
theorem dJ5_append_c97b9_10 : decode cJ5_append_c97b9 10 = .ok (.iadd, 1) := by decide +kernel
theorem dJ5_append_c97b9_11 : decode cJ5_append_c97b9 11 = .ok (.istore_n 3, 1) := by decide +kernel
theorem dJ5_append_c97b9_12 : decode cJ5_append_c97b9 12 = .ok (.aload_n 0, 1) := by decide +kernel
theorem dJ5_append_c97b9_13 : decode cJ5_append_c97b9 13 = .ok (.iload_n 3, 1) := by decide +kernel
theorem dJ5_append_c97b9_14 : decode cJ5_append_c97b9 14 = .ok (.invokevirtual 100, 3) := by decide +kernel
theorem dJ5_append_c97b9_17 : decode cJ5_append_c97b9 17 = .ok (.aload_n 0, 1) := by decide +kernel
theorem dJ5_append_c97b9_18 : decode cJ5_append_c97b9 18 = .ok (.invokevirtual 83, 3) := by decide +kernel
theorem dJ5_append_c97b9_21 : decode cJ5_append_c97b9 21 = .ok (.ifCond .eq 16, 3) := by decide +kernel
theorem dJ5_append_c97b9_24 : decode cJ5_append_c97b9 24 = .ok (.iload_n 1, 1) := by decide +kernel
theorem dJ5_append_c97b9_25 : decode cJ5_append_c97b9 25 = .ok (.iload_n 3, 1) := by decide +kernel
theorem dJ5_append_c97b9_26 : decode cJ5_append_c97b9 26 = .ok (.aload_n 0, 1) := by decide +kernel
theorem dJ5_append_c97b9_27 : decode cJ5_append_c97b9 27 = .ok (.getfield 15, 3) := by decide +kernel
theorem dJ5_append_c97b9_30 : decode cJ5_append_c97b9 30 = .ok (.invokestatic 248, 3) := by decide +kernel
theorem dJ5_append_c97b9_33 : decode cJ5_append_c97b9 33 = .ok (.pop, 1) := by decide +kernel
theorem dJ5_append_c97b9_34 : decode cJ5_append_c97b9 34 = .ok (.goto 14, 3) := by decide +kernel
theorem dJ5_append_c97b9_48 : decode cJ5_append_c97b9 48 = .ok (.aload_n 0, 1) := by decide +kernel
theorem dJ5_append_c97b9_49 : decode cJ5_append_c97b9 49 = .ok (.iload_n 3, 1) := by decide +kernel
theorem dJ5_append_c97b9_50 : decode cJ5_append_c97b9 50 = .ok (.putfield 79, 3) := by decide +kernel
theorem dJ5_append_c97b9_53 : decode cJ5_append_c97b9 53 = .ok (.aload_n 0, 1) := by decide +kernel
theorem dJ5_append_c97b9_54 : decode cJ5_append_c97b9 54 = .ok (.areturn, 1) := by decide +kernel
theorem dJ5_init_d00df_0 : decode cJ5_init_d00df 0 = .ok (.aload_n 0, 1) := by decide +kernel
theorem dJ5_init_d00df_1 : decode cJ5_init_d00df 1 = .ok (.invokespecial 3, 3) := by decide +kernel
theorem dJ5_init_d00df_4 : decode cJ5_init_d00df 4 = .ok (.getstatic 18, 3) := by decide +kernel
theorem dJ5_init_d00df_7 : decode cJ5_init_d00df 7 = .ok (.ifCond .eq 18, 3) := by decide +kernel
theorem dJ5_init_d00df_10 : decode cJ5_init_d00df 10 = .ok (.aload_n 0, 1) := by decide +kernel
theorem dJ5_init_d00df_11 : decode cJ5_init_d00df 11 = .ok (.iload_n 1, 1) := by decide +kernel
theorem dJ5_init_d00df_12 : decode cJ5_init_d00df 12 = .ok (.newarray .byte, 2) := by decide +kernel
theorem dJ5_init_d00df_14 : decode cJ5_init_d00df 14 = .ok (.putfield 15, 3) := by decide +kernel
theorem dJ5_init_d00df_17 : decode cJ5_init_d00df 17 = .ok (.aload_n 0, 1) := by decide +kernel
theorem dJ5_init_d00df_18 : decode cJ5_init_d00df 18 = .ok (.iconst 0, 1) := by decide +kernel
theorem dJ5_init_d00df_19 : decode cJ5_init_d00df 19 = .ok (.putfield 22, 3) := by decide +kernel
theorem dJ5_init_d00df_22 : decode cJ5_init_d00df 22 = .ok (.goto 16, 3) := by decide +kernel
theorem dJ5_init_d00df_38 : decode cJ5_init_d00df 38 = .ok (.return_, 1) := by decide +kernel
theorem dJ6_getChars_ba4f3_0 : decode cJ6_getChars_ba4f3 0 = .ok (.iload_n 1, 1) := by decide +kernel
theorem dJ6_getChars_ba4f3_1 : decode cJ6_getChars_ba4f3 1 = .ok (.istore 5, 2) := by decide +kernel
theorem dJ6_getChars_ba4f3_3 : decode cJ6_getChars_ba4f3 3 = .ok (.iload_n 0, 1) := by decide +kernel
theorem dJ6_getChars_ba4f3_4 : decode cJ6_getChars_ba4f3 4 = .ok (.ifCond .ge 7, 3) := by decide +kernel
theorem dJ6_getChars_ba4f3_11 : decode cJ6_getChars_ba4f3 11 = .ok (.iconst 0, 1) := by decide +kernel
theorem dJ6_getChars_ba4f3_12 : decode cJ6_getChars_ba4f3 12 = .ok (.istore 6, 2) := by decide +kernel
theorem dJ6_getChars_ba4f3_14 : decode cJ6_getChars_ba4f3 14 = .ok (.iload 6, 2) := by decide +kernel
theorem dJ6_getChars_ba4f3_16 : decode cJ6_getChars_ba4f3 16 = .ok (.ifCond .ne 6, 3) := by decide +kernel
theorem dJ6_getChars_ba4f3_19 : decode cJ6_getChars_ba4f3 19 = .ok (.iload_n 0, 1) := by decide +kernel
theorem dJ6_getChars_ba4f3_20 : decode cJ6_getChars_ba4f3 20 = .ok (.ineg, 1) := by decide +kernel
theorem dJ6_getChars_ba4f3_21 : decode cJ6_getChars_ba4f3 21 = .ok (.istore_n 0, 1) := by decide +kernel
theorem dJ6_getChars_ba4f3_22 : decode cJ6_getChars_ba4f3 22 = .ok (.iload_n 0, 1) := by decide +kernel
theorem dJ6_getChars_ba4f3_23 : decode cJ6_getChars_ba4f3 23 = .ok (.bipush (-100), 2) := by decide +kernel
theorem dJ6_getChars_ba4f3_25 : decode cJ6_getChars_ba4f3 25 = .ok (.if_icmp .gt 47, 3) := by decide +kernel
theorem dJ6_getChars_ba4f3_72 : decode cJ6_getChars_ba4f3 72 = .ok (.aload_n 2, 1) := by decide +kernel
theorem dJ6_getChars_ba4f3_73 : decode cJ6_getChars_ba4f3 73 = .ok (.iinc 5 (-1), 3) := by decide +kernel
theorem dJ6_getChars_ba4f3_76 : decode cJ6_getChars_ba4f3 76 = .ok (.iload 5, 2) := by decide +kernel
theorem dJ6_getChars_ba4f3_78 : decode cJ6_getChars_ba4f3 78 = .ok (.getstatic 83, 3) := by decide +kernel
theorem dJ6_getChars_ba4f3_81 : decode cJ6_getChars_ba4f3 81 = .ok (.iload_n 0, 1) := by decide +kernel
theorem dJ6_getChars_ba4f3_82 : decode cJ6_getChars_ba4f3 82 = .ok (.ineg, 1) := by decide +kernel
theorem dJ6_getChars_ba4f3_83 : decode cJ6_getChars_ba4f3 83 = .ok (.baload, 1) := by decide +kernel
theorem dJ6_getChars_ba4f3_84 : decode cJ6_getChars_ba4f3 84 = .ok (.bastore, 1) := by decide +kernel
theorem dJ6_getChars_ba4f3_85 : decode cJ6_getChars_ba4f3 85 = .ok (.iload_n 0, 1) := by decide +kernel
theorem dJ6_getChars_ba4f3_86 : decode cJ6_getChars_ba4f3 86 = .ok (.bipush (-9), 2) := by decide +kernel
theorem dJ6_getChars_ba4f3_88 : decode cJ6_getChars_ba4f3 88 = .ok (.if_icmp .ge 16, 3) := by decide +kernel
theorem dJ6_getChars_ba4f3_104 : decode cJ6_getChars_ba4f3 104 = .ok (.iload 6, 2) := by decide +kernel
theorem dJ6_getChars_ba4f3_106 : decode cJ6_getChars_ba4f3 106 = .ok (.ifCond .eq 12, 3) := by decide +kernel
theorem dJ6_getChars_ba4f3_118 : decode cJ6_getChars_ba4f3 118 = .ok (.iload 5, 2) := by decide +kernel
theorem dJ6_getChars_ba4f3_120 : decode cJ6_getChars_ba4f3 120 = .ok (.ireturn, 1) := by decide +kernel
set_option maxHeartbeats 1000000 in
set_option maxRecDepth 100000 in
/-- Integer.getChars of a digit -/
theorem zs_getC (l : Launch) {D : va_G} {sz : Nat} {cB : ClassId} {a cap k d1 : Nat} {f : Nat → Int32} {x : Int32} {t0 : Nat} {dg : Nat → Int32} (hx0 : ¬ x < 0) (hx1 : 0 ≤ x) (hx2 : -100 < -x) (hx3 : -9 ≤ -x) (hx4 : - -x = x) (hx5 : ¬ -x ≤ -10) (hx6 : vp_in x 100) (hdg : dg x.toNatClampNeg = sb_b t0) (hk : k + 1 < 2 ^ 31) (hcap : k < cap) (hc31 : cap < 2 ^ 31)  : Met l yJ6_getChars_ba4f3 (.code yJ6_getChars_ba4f3 cJ6_getChars_ba4f3 7 (some .int) :: zj_gw) (mj_rm 0 (0) (0)) (va_Pc [.int x, .int (Int32.ofNat (k + 1)), .ref a] (fun U => U.heap.size = sz ∧ va_P D zj_cl [(a, .inl (cB, cap, .inl f))] U.heap ∧ va_K D zj_cl [(cB, .byte)] U ∧ va_D (fun _ => True) [(a, .inl (cB, cap, .inl f))] ∧ zs_G (va_A [(a, .inl (cB, cap, .inl f))] sz) d1 U U.heap ∧ zs_T (va_A [(a, .inl (cB, cap, .inl f))] sz) d1 100 dg U U.heap)) (va_Qi (fun (_ : Int32) (_ : Unit) => True) (fun _ t => (va_P D zj_cl [(a, .inl (cB, cap, .inl (upd f k (sb_b t0))))] t.heap ∧ va_K D zj_cl [(cB, .byte)] t) ∧ va_D (va_A [(a, .inl (cB, cap, .inl f))] sz) [(a, .inl (cB, cap, .inl (upd f k (sb_b t0))))]) (va_A [(a, .inl (cB, cap, .inl f))] sz)) (0) (0) ((va_A [(a, .inl (cB, cap, .inl f))] sz)) := by
  refine Met.ofW (cc := cJ6_getChars_ba4f3) (maxL := 7) (ret := some .int) (by decide) rfl ?_
  intro p e s m args below meth c s₁ B hml hv
  obtain ⟨rfl, hsz, hP, hK, hD0, hG, hT⟩ := hv
  have hx := B.exec
  have hb := B.bytes
  have hr := B.returns
  have hts := atoms_spec (ws := .code yJ6_getChars_ba4f3 cJ6_getChars_ba4f3 7 (some .int) :: zj_gw) B.pre
  have hown : s.vm.findClass RJ6 = some m.cls := findClass_of_methodNamed B.named
  have hlocks := B.notSynchronized
  subst hsz
  have hD := hD0.self (sz := s.heap.size)
  generalize hAe : va_A [(a, .inl (cB, cap, .inl f))] s.heap.size = A at hD hG hT ⊢
  have hA : ∀ q : Nat, s.heap.size ≤ q → A q := fun q h => by rw [← hAe]; exact Or.inr h
  have hS : va_S A s.heap s.heap [] := va_S.rf
  have hP : va_P D zj_cl [(a, .inl (cB, cap, .inl f))] s.heap := hP
  have hK : va_K D zj_cl [(cB, .byte)] s := hK
  have hl := lv_entry ([.int x, .int (Int32.ofNat (k + 1)), .ref a]) (n := 7) (Nat.le_of_ble_eq_true rfl)
  rw [lg_entry_eq]
  generalize (lg_sl ([.int x, .int (Int32.ofNat (k + 1)), .ref a]) ++ List.replicate (7 - (lg_sl ([.int x, .int (Int32.ofNat (k + 1)), .ref a])).length) Slot.unset).toArray = ls at hl ⊢
  have hl : lv_has ls 7 [(0, .int x), (1, .int (Int32.ofNat (k + 1))), (2, .ref a)] := hl
  refine lv_iload_n hx hb dJ6_getChars_ba4f3_0 rfl (lv_at hl 1 rfl) ?_
  refine lv_istore (lv' := [(5, .int (Int32.ofNat (k + 1))), (0, .int x), (1, .int (Int32.ofNat (k + 1))), (2, .ref a)]) hx hb dJ6_getChars_ba4f3_1 hl (by decide) rfl (fun ls hl => ?_)
  refine lv_iload_n hx hb dJ6_getChars_ba4f3_3 rfl (lv_at hl 1 rfl) ?_
  refine lv_if_ge (tgt := 11) hx hb dJ6_getChars_ba4f3_4 (by decide) (fun _ => ?_) (fun c_ => (c_ (hx1)).elim)
  refine lv_iconst (v := 0) hx hb dJ6_getChars_ba4f3_11 (by decide) ?_
  refine lv_istore (lv' := [(6, .int 0), (5, .int (Int32.ofNat (k + 1))), (0, .int x), (1, .int (Int32.ofNat (k + 1))), (2, .ref a)]) hx hb dJ6_getChars_ba4f3_12 hl (by decide) rfl (fun ls hl => ?_)
  refine lv_iload hx hb dJ6_getChars_ba4f3_14 (lv_at hl 0 rfl) ?_
  refine lv_if_ne (tgt := 22) hx hb dJ6_getChars_ba4f3_16 (by decide) (fun c_ => (c_ (rfl)).elim) (fun _ => ?_)
  refine lv_iload_n hx hb dJ6_getChars_ba4f3_19 rfl (lv_at hl 2 rfl) ?_
  refine lv_ineg hx hb dJ6_getChars_ba4f3_20 ?_
  refine lv_istore_n (lv' := [(0, .int (-x)), (6, .int 0), (5, .int (Int32.ofNat (k + 1))), (1, .int (Int32.ofNat (k + 1))), (2, .ref a)]) hx hb dJ6_getChars_ba4f3_21 rfl hl (by decide) rfl (fun ls hl => ?_)
  refine lv_iload_n hx hb dJ6_getChars_ba4f3_22 rfl (lv_at hl 0 rfl) ?_
  refine lv_bipush (v := (-100)) hx hb dJ6_getChars_ba4f3_23 (by decide) ?_
  refine lv_icmp_gt (tgt := 72) hx hb dJ6_getChars_ba4f3_25 (by decide) (fun _ => ?_) (fun c_ => (c_ (hx2)).elim)
  refine lv_aload_n hx hb dJ6_getChars_ba4f3_72 rfl (lv_at hl 4 rfl) ?_
  refine lv_iinc (v := (Int32.ofNat k)) (lv' := [(5, .int (Int32.ofNat k)), (0, .int (-x)), (6, .int 0), (1, .int (Int32.ofNat (k + 1))), (2, .ref a)]) hx hb dJ6_getChars_ba4f3_73 hl (k := 2) rfl (zj_dec k) (by decide) rfl (fun ls hl => ?_)
  refine lv_iload hx hb dJ6_getChars_ba4f3_76 (lv_at hl 0 rfl) ?_
  refine va_gets hx hb hG hS hown (hts _ (zj_t (q := 7056) (by decide +kernel) rfl)) (fun _ h9 => h9) dJ6_getChars_ba4f3_78 ?_
  refine lv_iload_n hx hb dJ6_getChars_ba4f3_81 rfl (lv_at hl 1 rfl) ?_
  refine lv_ineg hx hb dJ6_getChars_ba4f3_82 ?_
  refine zj_top (y := x) (hx4) ?_
  refine va_tb hx hb hT hS hx6 (v := .int (sb_b t0)) (by rw [hdg]) dJ6_getChars_ba4f3_83 ?_
  refine va_bast hx hb hK hP hD hS 0 0 rfl rfl (vp_in_nI hcap hc31) dJ6_getChars_ba4f3_84 (fun H locs hP hD hS => ?_)
  rw [show vp_nar .byte (sb_b t0) = sb_b t0 from pk_vb _, show (Int32.ofNat k).toNatClampNeg = k from nI_clamp (by omega)] at hP hD
  have hP : va_P D zj_cl [(a, .inl (cB, cap, .inl (upd f k (sb_b t0))))] H := hP
  have hD : va_D A [(a, .inl (cB, cap, .inl (upd f k (sb_b t0))))] := hD
  refine lv_iload_n hx hb dJ6_getChars_ba4f3_85 rfl (lv_at hl 1 rfl) ?_
  refine lv_bipush (v := (-9)) hx hb dJ6_getChars_ba4f3_86 (by decide) ?_
  refine lv_icmp_ge (tgt := 104) hx hb dJ6_getChars_ba4f3_88 (by decide) (fun _ => ?_) (fun c_ => (c_ (hx3)).elim)
  refine lv_iload hx hb dJ6_getChars_ba4f3_104 (lv_at hl 2 rfl) ?_
  refine lv_if_eq (tgt := 118) hx hb dJ6_getChars_ba4f3_106 (by decide) (fun _ => ?_) (fun c_ => (c_ (rfl)).elim)
  refine lv_iload hx hb dJ6_getChars_ba4f3_118 (lv_at hl 0 rfl) ?_
  exact W.iret (v := Int32.ofNat k) hx hb hr (fun t ht hW => ⟨⟨Int32.ofNat k, (), rfl, trivial, ⟨by rw [ht]; exact hP, va_K.moved hW.alike hK⟩, hD⟩, hS.F ht⟩) hS.2.2 dJ6_getChars_ba4f3_120
set_option maxHeartbeats 1000000 in
set_option maxRecDepth 100000 in
theorem zs_aappI (l : Launch) {D : va_G} {sz : Nat} {cB : ClassId} {b a cap k d1 : Nat} {f : Nat → Int32} {ml : Int32} {x : Int32} {t0 : Nat} {dg : Nat → Int32} (hx0 : ¬ x < 0) (hx1 : 0 ≤ x) (hx2 : -100 < -x) (hx3 : -9 ≤ -x) (hx4 : - -x = x) (hx5 : ¬ -x ≤ -10) (hx6 : vp_in x 100) (hdg : dg x.toNatClampNeg = sb_b t0) (hk : k + 1 < 2 ^ 31) (hcap : k < cap) (hc31 : cap < 2 ^ 31) (hq : Int32.ofNat (k + 1) - Int32.ofNat cap ≤ 0)  : Met l yJ5_append_c97b9 (.code yJ5_append_c97b9 cJ5_append_c97b9 4 (some (.object "java/lang/AbstractStringBuilder")) :: zj_gw) (mj_rm 2 (0) (0)) (va_Pc [.ref b, .int x] (fun U => U.heap.size = sz ∧ va_P D zj_cl [(b, .inr (0, [.ref a, .int 0, .int ml, .int (Int32.ofNat k)])), (a, .inl (cB, cap, .inl f))] U.heap ∧ va_K D zj_cl [(cB, .byte)] U ∧ va_D (fun _ => True) [(b, .inr (0, [.ref a, .int 0, .int ml, .int (Int32.ofNat k)])), (a, .inl (cB, cap, .inl f))] ∧ zs_C (va_A [(b, .inr (0, [.ref a, .int 0, .int ml, .int (Int32.ofNat k)])), (a, .inl (cB, cap, .inl f))] sz) U U.heap ∧ zs_G (va_A [(b, .inr (0, [.ref a, .int 0, .int ml, .int (Int32.ofNat k)])), (a, .inl (cB, cap, .inl f))] sz) d1 U U.heap ∧ zs_T (va_A [(b, .inr (0, [.ref a, .int 0, .int ml, .int (Int32.ofNat k)])), (a, .inl (cB, cap, .inl f))] sz) d1 100 dg U U.heap)) (va_Qr (fun (_ : Unit) => True) (fun _ b2 t => b = b2 ∧ (va_P D zj_cl [(b, .inr (0, [.ref a, .int 0, .int ml, .int (Int32.ofNat (k + 1))])), (a, .inl (cB, cap, .inl (upd f k (sb_b t0))))] t.heap ∧ va_K D zj_cl [(cB, .byte)] t) ∧ va_D (va_A [(b, .inr (0, [.ref a, .int 0, .int ml, .int (Int32.ofNat k)])), (a, .inl (cB, cap, .inl f))] sz) [(b, .inr (0, [.ref a, .int 0, .int ml, .int (Int32.ofNat (k + 1))])), (a, .inl (cB, cap, .inl (upd f k (sb_b t0))))]) (va_A [(b, .inr (0, [.ref a, .int 0, .int ml, .int (Int32.ofNat k)])), (a, .inl (cB, cap, .inl f))] sz)) (0) (0) ((va_A [(b, .inr (0, [.ref a, .int 0, .int ml, .int (Int32.ofNat k)])), (a, .inl (cB, cap, .inl f))] sz)) := by
  refine Met.ofW (cc := cJ5_append_c97b9) (maxL := 4) (ret := some (.object "java/lang/AbstractStringBuilder")) (by decide) rfl ?_
  intro p e s m args below meth c s₁ B hml hv
  obtain ⟨rfl, hsz, hP, hK, hD0, hC, hG, hT⟩ := hv
  have hx := B.exec
  have hb := B.bytes
  have hr := B.returns
  have hts := atoms_spec (ws := .code yJ5_append_c97b9 cJ5_append_c97b9 4 (some (.object "java/lang/AbstractStringBuilder")) :: zj_gw) B.pre
  have hown : s.vm.findClass RJ5 = some m.cls := findClass_of_methodNamed B.named
  have hlocks := B.notSynchronized
  subst hsz
  have hD := hD0.self (sz := s.heap.size)
  generalize hAe : va_A [(b, .inr (0, [.ref a, .int 0, .int ml, .int (Int32.ofNat k)])), (a, .inl (cB, cap, .inl f))] s.heap.size = A at hD hC hG hT ⊢
  have hA : ∀ q : Nat, s.heap.size ≤ q → A q := fun q h => by rw [← hAe]; exact Or.inr h
  have hS : va_S A s.heap s.heap [] := va_S.rf
  have hP : va_P D zj_cl [(b, .inr (0, [.ref a, .int 0, .int ml, .int (Int32.ofNat k)])), (a, .inl (cB, cap, .inl f))] s.heap := hP
  have hK : va_K D zj_cl [(cB, .byte)] s := hK
  have hl := lv_entry ([.ref b, .int x]) (n := 4) (Nat.le_of_ble_eq_true rfl)
  rw [lg_entry_eq]
  generalize (lg_sl ([.ref b, .int x]) ++ List.replicate (4 - (lg_sl ([.ref b, .int x])).length) Slot.unset).toArray = ls at hl ⊢
  have hl : lv_has ls 4 [(0, .ref b), (1, .int x)] := hl
  refine lv_aload_n hx hb dJ5_append_c97b9_0 rfl (lv_at hl 0 rfl) ?_
  refine va_get (D := D) (ci := 0) (v := .int (Int32.ofNat k)) (C := RJ4) (T := TJ4) (N := 4) hx hb hts zj_hb hown hK hP 0 rfl rfl 3 (by decide) (hts _ (zj_t (q := 6178) (by decide +kernel) rfl)) (fun _ h9 => h9) rfl dJ5_append_c97b9_1 ?_
  refine lv_istore_n (lv' := [(2, .int (Int32.ofNat k)), (0, .ref b), (1, .int x)]) hx hb dJ5_append_c97b9_4 rfl hl (by decide) rfl (fun ls hl => ?_)
  refine lv_iload_n hx hb dJ5_append_c97b9_5 rfl (lv_at hl 0 rfl) ?_
  refine lv_iload_n hx hb dJ5_append_c97b9_6 rfl (lv_at hl 2 rfl) ?_
  refine va_calli (va_runS (As := [.int x]) (rest := [.int (Int32.ofNat k)]) ⟨hx, hb, hml, hown, hts⟩ (zs_size l hx0 hx5) (va_cwS (own := RJ5) 1 hts (zj_good (zj_S (zj_m (q := 7050) (by decide +kernel) rfl) (zj_m (q := 7051) (by decide +kernel) rfl) (zj_m (q := 1021) (by decide +kernel) rfl) (zj_m (q := 7052) (by decide +kernel) rfl))) rfl rfl rfl (by decide +kernel) ⟨Nat.le_of_ble_eq_true rfl, Nat.le_of_ble_eq_true rfl⟩) ⟨fun a U g mk q => ⟨q.1, q.2.1, zs_0.moved (u := U) (U := U.calling g mk a) (Vm.Alike.refl U.vm) q.2.2⟩, fun U hU hW => ⟨rfl, hU, by (try rw [hU]); exact zs_0.moved hW.alike (show zs_0 s from trivial)⟩⟩ rfl rfl hl.1 rfl (lv_room (Nat.le_of_ble_eq_true rfl)) dJ5_append_c97b9_7 ⟨Nat.zero_le _, Nat.zero_le _⟩) hS (fun _ _ h => h.elim) (fun _ h => h.elim) (fun r_ u_ t_ H1 locs1 ht hvm hw hB hz1 hk1 hS => ?_)
  obtain rfl : H1 = s.heap := ht.symm.trans hB
  rw [hw]
  refine lv_iadd hx hb dJ5_append_c97b9_10 ?_
  refine zj_top (y := Int32.ofNat (k + 1)) (zj_add k 1) ?_
  refine lv_istore_n (lv' := [(3, .int (Int32.ofNat (k + 1))), (2, .int (Int32.ofNat k)), (0, .ref b), (1, .int x)]) hx hb dJ5_append_c97b9_11 rfl hl (by decide) rfl (fun ls hl => ?_)
  refine lv_aload_n hx hb dJ5_append_c97b9_12 rfl (lv_at hl 2 rfl) ?_
  refine lv_iload_n hx hb dJ5_append_c97b9_13 rfl (lv_at hl 0 rfl) ?_
  refine va_callv (va_runU (As := [.int (Int32.ofNat (k + 1))]) (rest := []) ⟨hx, hb, hml, hown, hts⟩ (zs_ensR l hq) (va_cwU 1 hts (zj_good (zj_U (own := RJ5) (C := RJ4) (owner := RJ5) (x' := yJ5_ensureCapacityInternal_d00df) (zj_m (q := 6199) (by decide +kernel) rfl) (zj_m (q := 7135) (by decide +kernel) rfl) zj_s1 (zj_m (q := 6201) (by decide +kernel) rfl) (zj_m (q := 1023) (by decide +kernel) rfl) (zj_m (q := 6202) (by decide +kernel) rfl))) rfl rfl rfl rfl (by decide +kernel) ⟨Nat.le_of_ble_eq_true rfl, Nat.le_of_ble_eq_true rfl⟩) ⟨fun a U g mk q => ⟨q.1, q.2.1, zs_W.moved (u := U) (U := U.calling g mk a) (Vm.Alike.refl U.vm) q.2.2⟩, va_recv hK hP (ci := 0) (q0 := 0) rfl rfl, fun U hU hW => ⟨rfl, hU, by (try rw [hU]); exact zs_W.moved hW.alike (show zs_W D [(b, .inr (0, [.ref a, .int 0, .int ml, .int (Int32.ofNat k)])), (a, .inl (cB, cap, .inl f))] [(cB, .byte)] s s.heap from ⟨hP, hK⟩)⟩⟩ rfl rfl hl.1 rfl (lv_room (Nat.le_of_ble_eq_true rfl)) dJ5_append_c97b9_14 ⟨Nat.zero_le _, Nat.zero_le _⟩) hS (fun _ _ h => h.elim) (fun _ h => h.elim) (fun u_ t_ H1 locs1 ht hvm hw hB hz1 hk1 hS => ?_)
  obtain rfl : H1 = s.heap := ht.symm.trans hB
  refine lv_aload_n hx hb dJ5_append_c97b9_17 rfl (lv_at hl 2 rfl) ?_
  refine va_calli (va_runU (As := []) (rest := []) ⟨hx, hb, hml, hown, hts⟩ (zs_bLatin l) (va_cwU 0 hts (zj_good (zj_U (own := RJ5) (C := RJ4) (owner := RJ5) (x' := yJ5_isLatin1_aae02) (zj_m (q := 6228) (by decide +kernel) rfl) (zj_m (q := 6230) (by decide +kernel) rfl) (zj_m (q := 6231) (by decide +kernel) rfl) (zj_m (q := 6229) (by decide +kernel) rfl) (zj_m (q := 1023) (by decide +kernel) rfl) (zj_m (q := 6232) (by decide +kernel) rfl))) rfl rfl rfl rfl (by decide +kernel) ⟨Nat.le_of_ble_eq_true rfl, Nat.le_of_ble_eq_true rfl⟩) ⟨fun a U g mk q => ⟨q.1, q.2.1, zs_C.moved (u := U) (U := U.calling g mk a) (Vm.Alike.refl U.vm) q.2.2.1, zs_W.moved (u := U) (U := U.calling g mk a) (Vm.Alike.refl U.vm) q.2.2.2⟩, va_recv hK hP (ci := 0) (q0 := 0) rfl rfl, fun U hU hW => ⟨rfl, hU, by (try rw [hU]); exact zs_C.moved hW.alike (hC.narrow (fun _ h => h.elim)), by (try rw [hU]); exact zs_W.moved hW.alike (show zs_W D [(b, .inr (0, [.ref a, .int 0, .int ml, .int (Int32.ofNat k)])), (a, .inl (cB, cap, .inl f))] [(cB, .byte)] s s.heap from ⟨hP, hK⟩)⟩⟩ rfl rfl hl.1 rfl (lv_room (Nat.le_of_ble_eq_true rfl)) dJ5_append_c97b9_18 ⟨Nat.zero_le _, Nat.zero_le _⟩) hS (fun _ _ h => h.elim) (fun _ h => h.elim) (fun r_ u_ t_ H1 locs1 ht hvm hw hB hz1 hk1 hS => ?_)
  obtain rfl : H1 = s.heap := ht.symm.trans hB
  rw [hw]
  refine lv_if_eq (tgt := 37) hx hb dJ5_append_c97b9_21 (by decide) (fun c_ => absurd c_ (by decide)) (fun _ => ?_)
  refine lv_iload_n hx hb dJ5_append_c97b9_24 rfl (lv_at hl 3 rfl) ?_
  refine lv_iload_n hx hb dJ5_append_c97b9_25 rfl (lv_at hl 0 rfl) ?_
  refine lv_aload_n hx hb dJ5_append_c97b9_26 rfl (lv_at hl 2 rfl) ?_
  refine va_get (D := D) (ci := 0) (v := .ref a) (C := RJ4) (T := TJ4) (N := 4) hx hb hts zj_hb hown hK hP 0 rfl rfl 0 (by decide) (hts _ (zj_t (q := 6175) (by decide +kernel) rfl)) (fun _ h9 => h9) rfl dJ5_append_c97b9_27 ?_
  have hPc := hP.sub (ws' := [(a, .inl (cB, cap, .inl f))]) [1] rfl
  have hDc := hD.sub (ws' := [(a, .inl (cB, cap, .inl f))]) [1] (by decide) rfl
  have hFc := va_free (wc := [(a, .inl (cB, cap, .inl f))]) hD hS hA [1] rfl
  refine va_calli (va_runS (As := [.int x, .int (Int32.ofNat (k + 1)), .ref a]) (rest := []) ⟨hx, hb, hml, hown, hts⟩ (zs_getC l (sz := s.heap.size) (cB := cB) (cap := cap) (k := k) (f := f) hx0 hx1 hx2 hx3 hx4 hx5 hx6 hdg hk hcap hc31) (va_cwS (own := RJ5) 3 hts (zj_good (zj_S (own := RJ5) (zj_m (q := 7053) (by decide +kernel) rfl) (zj_m (q := 7054) (by decide +kernel) rfl) (zj_m (q := 1021) (by decide +kernel) rfl) (zj_m (q := 7055) (by decide +kernel) rfl))) rfl rfl rfl (by decide +kernel) ⟨Nat.le_of_ble_eq_true rfl, Nat.le_of_ble_eq_true rfl⟩) ⟨fun a U g mk q => ⟨q.1, q.2.1, q.2.2.1, va_K.moved (u := U) (U := U.calling g mk a) (Vm.Alike.refl U.vm) q.2.2.2.1, q.2.2.2.2.1, zs_G.moved (u := U) (U := U.calling g mk a) (Vm.Alike.refl U.vm) q.2.2.2.2.2.1, zs_T.moved (u := U) (U := U.calling g mk a) (Vm.Alike.refl U.vm) q.2.2.2.2.2.2⟩, fun U hU hW => ⟨rfl, by rw [hU], by rw [hU]; exact hPc, va_K.moved hW.alike hK, hDc.weaken (fun _ _ _ _ => trivial), by (try rw [hU]); exact zs_G.moved hW.alike ((hG.kept hS.2.1).narrow hFc), by (try rw [hU]); exact zs_T.moved hW.alike ((hT.kept hS.2.1).narrow hFc)⟩⟩ rfl rfl hl.1 rfl (lv_room (Nat.le_of_ble_eq_true rfl)) dJ5_append_c97b9_30 ⟨Nat.zero_le _, Nat.zero_le _⟩) hS (fun q _ h => hFc q h) hFc (fun r_ u_ t_ H1 locs ht hvm hw hB hz1 hk1 hS => ?_)
  obtain ⟨⟨hP1, hK1⟩, hD1⟩ := hB
  rw [ht] at hP1
  obtain ⟨hP, hD⟩ := va_join (wr := [(b, .inr (0, [.ref a, .int 0, .int ml, .int (Int32.ofNat k)]))]) (w1 := [(a, .inl (cB, cap, .inl (upd f k (sb_b t0))))]) hP hD [1] [0] rfl rfl (by decide) (by decide) hk1 hFc hP1 hD1
  generalize H1 = H at hP hS ⊢
  have hP : va_P D zj_cl [(b, .inr (0, [.ref a, .int 0, .int ml, .int (Int32.ofNat k)])), (a, .inl (cB, cap, .inl (upd f k (sb_b t0))))] H := hP
  have hD : va_D A [(b, .inr (0, [.ref a, .int 0, .int ml, .int (Int32.ofNat k)])), (a, .inl (cB, cap, .inl (upd f k (sb_b t0))))] := hD
  refine lv_pop hx hb dJ5_append_c97b9_33 rfl ?_
  refine lv_goto (tgt := 48) hx hb dJ5_append_c97b9_34 (by decide) ?_
  refine lv_aload_n hx hb dJ5_append_c97b9_48 rfl (lv_at hl 2 rfl) ?_
  refine lv_iload_n hx hb dJ5_append_c97b9_49 rfl (lv_at hl 0 rfl) ?_
  refine va_put (D := D) (ci := 0) (v := .int (Int32.ofNat (k + 1))) (ty := .int) (C := RJ4) (T := TJ4) (N := 4) hx hb hts zj_hb tyJ4 tyJ4_ok nmJ4 hown hK hP hD hS 0 rfl rfl 3 (by decide) (hts _ (zj_t (q := 6178) (by decide +kernel) rfl)) (fun _ h9 => h9) rfl  (by decide +kernel) rfl rfl (Nat.le_of_ble_eq_true rfl) dJ5_append_c97b9_50 (fun H locs hP hD hS => ?_)
  have hP : va_P D zj_cl [(b, .inr (0, [.ref a, .int 0, .int ml, .int (Int32.ofNat (k + 1))])), (a, .inl (cB, cap, .inl (upd f k (sb_b t0))))] H := hP
  have hD : va_D A [(b, .inr (0, [.ref a, .int 0, .int ml, .int (Int32.ofNat (k + 1))])), (a, .inl (cB, cap, .inl (upd f k (sb_b t0))))] := hD
  refine lv_aload_n hx hb dJ5_append_c97b9_53 rfl (lv_at hl 2 rfl) ?_
  exact W.aret (v := .ref b) (rt := (.object "java/lang/AbstractStringBuilder")) hx hb hr (Or.inl ⟨_, rfl⟩) (Or.inr ⟨_, rfl⟩) (fun t ht hW => ⟨⟨(), b, rfl, trivial, rfl, ⟨by rw [ht]; exact hP, va_K.moved hW.alike hK⟩, hD⟩, hS.F ht⟩) hS.2.2 dJ5_append_c97b9_54
set_option maxHeartbeats 1000000 in
set_option maxRecDepth 100000 in
/-- StringBuilder.append(int), a digit -/
theorem zs_appI (l : Launch) {D : va_G} {sz : Nat} {cB : ClassId} {b a cap k d1 : Nat} {f : Nat → Int32} {ml : Int32} {x : Int32} {t0 : Nat} {dg : Nat → Int32} (hx0 : ¬ x < 0) (hx1 : 0 ≤ x) (hx2 : -100 < -x) (hx3 : -9 ≤ -x) (hx4 : - -x = x) (hx5 : ¬ -x ≤ -10) (hx6 : vp_in x 100) (hdg : dg x.toNatClampNeg = sb_b t0) (hk : k + 1 < 2 ^ 31) (hcap : k < cap) (hc31 : cap < 2 ^ 31) (hq : Int32.ofNat (k + 1) - Int32.ofNat cap ≤ 0)  : Met l yJ4_append_bf812 (.code yJ4_append_bf812 cJ4_append_bf812 2 (some (.object "java/lang/StringBuilder")) :: zj_gw) (mj_rm 3 (0) (0)) (va_Pc [.ref b, .int x] (fun U => U.heap.size = sz ∧ va_P D zj_cl [(b, .inr (0, [.ref a, .int 0, .int ml, .int (Int32.ofNat k)])), (a, .inl (cB, cap, .inl f))] U.heap ∧ va_K D zj_cl [(cB, .byte)] U ∧ va_D (fun _ => True) [(b, .inr (0, [.ref a, .int 0, .int ml, .int (Int32.ofNat k)])), (a, .inl (cB, cap, .inl f))] ∧ zs_C (va_A [(b, .inr (0, [.ref a, .int 0, .int ml, .int (Int32.ofNat k)])), (a, .inl (cB, cap, .inl f))] sz) U U.heap ∧ zs_G (va_A [(b, .inr (0, [.ref a, .int 0, .int ml, .int (Int32.ofNat k)])), (a, .inl (cB, cap, .inl f))] sz) d1 U U.heap ∧ zs_T (va_A [(b, .inr (0, [.ref a, .int 0, .int ml, .int (Int32.ofNat k)])), (a, .inl (cB, cap, .inl f))] sz) d1 100 dg U U.heap)) (va_Qr (fun (_ : Unit) => True) (fun _ b2 t => b = b2 ∧ (va_P D zj_cl [(b, .inr (0, [.ref a, .int 0, .int ml, .int (Int32.ofNat (k + 1))])), (a, .inl (cB, cap, .inl (upd f k (sb_b t0))))] t.heap ∧ va_K D zj_cl [(cB, .byte)] t) ∧ va_D (va_A [(b, .inr (0, [.ref a, .int 0, .int ml, .int (Int32.ofNat k)])), (a, .inl (cB, cap, .inl f))] sz) [(b, .inr (0, [.ref a, .int 0, .int ml, .int (Int32.ofNat (k + 1))])), (a, .inl (cB, cap, .inl (upd f k (sb_b t0))))]) (va_A [(b, .inr (0, [.ref a, .int 0, .int ml, .int (Int32.ofNat k)])), (a, .inl (cB, cap, .inl f))] sz)) (0) (0) ((va_A [(b, .inr (0, [.ref a, .int 0, .int ml, .int (Int32.ofNat k)])), (a, .inl (cB, cap, .inl f))] sz)) := by
  refine Met.ofW (cc := cJ4_append_bf812) (maxL := 2) (ret := some (.object "java/lang/StringBuilder")) (by decide) rfl ?_
  intro p e s m args below meth c s₁ B hml hv
  obtain ⟨rfl, hsz, hP, hK, hD0, hC, hG, hT⟩ := hv
  have hx := B.exec
  have hb := B.bytes
  have hr := B.returns
  have hts := atoms_spec (ws := .code yJ4_append_bf812 cJ4_append_bf812 2 (some (.object "java/lang/StringBuilder")) :: zj_gw) B.pre
  have hown : s.vm.findClass RJ4 = some m.cls := findClass_of_methodNamed B.named
  have hlocks := B.notSynchronized
  subst hsz
  have hD := hD0.self (sz := s.heap.size)
  generalize hAe : va_A [(b, .inr (0, [.ref a, .int 0, .int ml, .int (Int32.ofNat k)])), (a, .inl (cB, cap, .inl f))] s.heap.size = A at hD hC hG hT ⊢
  have hA : ∀ q : Nat, s.heap.size ≤ q → A q := fun q h => by rw [← hAe]; exact Or.inr h
  have hS : va_S A s.heap s.heap [] := va_S.rf
  have hP : va_P D zj_cl [(b, .inr (0, [.ref a, .int 0, .int ml, .int (Int32.ofNat k)])), (a, .inl (cB, cap, .inl f))] s.heap := hP
  have hK : va_K D zj_cl [(cB, .byte)] s := hK
  have hl := lv_entry ([.ref b, .int x]) (n := 2) (Nat.le_of_ble_eq_true rfl)
  rw [lg_entry_eq]
  generalize (lg_sl ([.ref b, .int x]) ++ List.replicate (2 - (lg_sl ([.ref b, .int x])).length) Slot.unset).toArray = ls at hl ⊢
  have hl : lv_has ls 2 [(0, .ref b), (1, .int x)] := hl
  refine lv_aload_n hx hb dJ4_append_bf812_0 rfl (lv_at hl 0 rfl) ?_
  refine lv_iload_n hx hb dJ4_append_bf812_1 rfl (lv_at hl 1 rfl) ?_
  have hPc := hP.sub (ws' := [(b, .inr (0, [.ref a, .int 0, .int ml, .int (Int32.ofNat k)])), (a, .inl (cB, cap, .inl f))]) [0, 1] rfl
  have hDc := hD.sub (ws' := [(b, .inr (0, [.ref a, .int 0, .int ml, .int (Int32.ofNat k)])), (a, .inl (cB, cap, .inl f))]) [0, 1] (by decide) rfl
  have hFc := va_free (wc := [(b, .inr (0, [.ref a, .int 0, .int ml, .int (Int32.ofNat k)])), (a, .inl (cB, cap, .inl f))]) hD hS hA [0, 1] rfl
  refine va_callr (va_runSU (As := [.int x]) (rest := []) (hK.1 0 _ rfl).2 ⟨hx, hb, hml, hown, hts⟩ (zs_aappI l (sz := s.heap.size) (cB := cB) (a := a) (cap := cap) (f := f) (k := k) hx0 hx1 hx2 hx3 hx4 hx5 hx6 hdg hk hcap hc31 hq) (va_cwSU 1 hts (zj_good (zj_SU (own := RJ4) (y := yJ5_append_c97b9) (zj_m (q := 7047) (by decide +kernel) rfl) (zj_m (q := 7140) (by decide +kernel) rfl) (zj_m (q := 6187) (by decide +kernel) rfl) (zj_m (q := 7048) (by decide +kernel) rfl) (zj_m (q := 1023) (by decide +kernel) rfl) (zj_m (q := 7049) (by decide +kernel) rfl))) rfl rfl rfl (by decide +kernel) ⟨Nat.le_of_ble_eq_true rfl, Nat.le_of_ble_eq_true rfl⟩) ⟨fun a U g mk q => ⟨q.1, q.2.1, q.2.2.1, va_K.moved (u := U) (U := U.calling g mk a) (Vm.Alike.refl U.vm) q.2.2.2.1, q.2.2.2.2.1, zs_C.moved (u := U) (U := U.calling g mk a) (Vm.Alike.refl U.vm) q.2.2.2.2.2.1, zs_G.moved (u := U) (U := U.calling g mk a) (Vm.Alike.refl U.vm) q.2.2.2.2.2.2.1, zs_T.moved (u := U) (U := U.calling g mk a) (Vm.Alike.refl U.vm) q.2.2.2.2.2.2.2⟩, va_recv hK hP (ci := 0) (q0 := 0) rfl rfl, fun U hU hW => ⟨rfl, by rw [hU], by rw [hU]; exact hPc, va_K.moved hW.alike hK, hDc.weaken (fun _ _ _ _ => trivial), by (try rw [hU]); exact zs_C.moved hW.alike (hC.narrow hFc), by (try rw [hU]); exact zs_G.moved hW.alike (hG.narrow hFc), by (try rw [hU]); exact zs_T.moved hW.alike (hT.narrow hFc)⟩⟩ rfl rfl hl.1 rfl (lv_room (Nat.le_of_ble_eq_true rfl)) dJ4_append_bf812_2 ⟨Nat.zero_le _, Nat.zero_le _⟩) hS (fun q _ h => hFc q h) hFc (fun u_ b2 t_ H1 locs ht hvm hw hB hz1 hk1 hS => ?_)
  obtain ⟨rfl, hB⟩ := hB
  obtain ⟨⟨hP1, hK1⟩, hD1⟩ := hB
  rw [ht] at hP1
  obtain ⟨hP, hD⟩ := va_join (wr := []) (w1 := [(b, .inr (0, [.ref a, .int 0, .int ml, .int (Int32.ofNat (k + 1))])), (a, .inl (cB, cap, .inl (upd f k (sb_b t0))))]) hP hD [0, 1] [] rfl rfl (by decide) (by decide) hk1 hFc hP1 hD1
  generalize H1 = H at hP hS ⊢
  have hP : va_P D zj_cl [(b, .inr (0, [.ref a, .int 0, .int ml, .int (Int32.ofNat (k + 1))])), (a, .inl (cB, cap, .inl (upd f k (sb_b t0))))] H := hP
  have hD : va_D A [(b, .inr (0, [.ref a, .int 0, .int ml, .int (Int32.ofNat (k + 1))])), (a, .inl (cB, cap, .inl (upd f k (sb_b t0))))] := hD
  refine lv_pop hx hb dJ4_append_bf812_5 rfl ?_
  refine lv_aload_n hx hb dJ4_append_bf812_6 rfl (lv_at hl 0 rfl) ?_
  exact W.aret (v := .ref b) (rt := (.object "java/lang/StringBuilder")) hx hb hr (Or.inl ⟨_, rfl⟩) (Or.inr ⟨_, rfl⟩) (fun t ht hW => ⟨⟨(), b, rfl, trivial, rfl, ⟨by rw [ht]; exact hP, va_K.moved hW.alike hK⟩, hD⟩, hS.F ht⟩) hS.2.2 dJ4_append_bf812_7
set_option maxHeartbeats 1000000 in
set_option maxRecDepth 100000 in
theorem zs_ainit (l : Launch) {D : va_G} {sz : Nat} {b : Nat}  : Met l yJ5_init_d00df (.code yJ5_init_d00df cJ5_init_d00df 2 none :: zj_gw) (mj_rm 1 (1) (16)) (va_Pc [.ref b, .int 16] (fun U => U.heap.size = sz ∧ va_P D zj_cl [(b, .inr (0, [.null, .int 0, .int 0, .int 0]))] U.heap ∧ va_K D zj_cl [] U ∧ va_D (fun _ => True) [(b, .inr (0, [.null, .int 0, .int 0, .int 0]))] ∧ zs_C (va_A [(b, .inr (0, [.null, .int 0, .int 0, .int 0]))] sz) U U.heap)) (va_Qv (fun (_ : Nat × ClassId) => True) (fun u t => match u with | (ra, cB) => (va_P D zj_cl [(b, .inr (0, [.ref ra, .int 0, .int 0, .int 0])), (ra, .inl (cB, 16, .inl (fun _ => 0)))] t.heap ∧ va_K D zj_cl [(cB, .byte)] t) ∧ va_D (va_A [(b, .inr (0, [.null, .int 0, .int 0, .int 0]))] sz) [(b, .inr (0, [.ref ra, .int 0, .int 0, .int 0])), (ra, .inl (cB, 16, .inl (fun _ => 0)))]) (va_A [(b, .inr (0, [.null, .int 0, .int 0, .int 0]))] sz)) (1) (16) ((va_A [(b, .inr (0, [.null, .int 0, .int 0, .int 0]))] sz)) := by
  refine Met.ofW (cc := cJ5_init_d00df) (maxL := 2) (ret := none) (by decide) rfl ?_
  intro p e s m args below meth c s₁ B hml hv
  obtain ⟨rfl, hsz, hP, hK, hD0, hC⟩ := hv
  have hx := B.exec
  have hb := B.bytes
  have hr := B.returns
  have hts := atoms_spec (ws := .code yJ5_init_d00df cJ5_init_d00df 2 none :: zj_gw) B.pre
  have hown : s.vm.findClass RJ5 = some m.cls := findClass_of_methodNamed B.named
  have hlocks := B.notSynchronized
  have hin : meth.name = "<init>" := (name_of_methodNamed B.named B.method).1
  subst hsz
  have hD := hD0.self (sz := s.heap.size)
  generalize hAe : va_A [(b, .inr (0, [.null, .int 0, .int 0, .int 0]))] s.heap.size = A at hD hC ⊢
  have hA : ∀ q : Nat, s.heap.size ≤ q → A q := fun q h => by rw [← hAe]; exact Or.inr h
  have hS : va_S A s.heap s.heap [] := va_S.rf
  have hP : va_P D zj_cl [(b, .inr (0, [.null, .int 0, .int 0, .int 0]))] s.heap := hP
  have hK : va_K D zj_cl [] s := hK
  have hl := lv_entry ([.ref b, .int 16]) (n := 2) (Nat.le_of_ble_eq_true rfl)
  rw [lg_entry_eq]
  generalize (lg_sl ([.ref b, .int 16]) ++ List.replicate (2 - (lg_sl ([.ref b, .int 16])).length) Slot.unset).toArray = ls at hl ⊢
  have hl : lv_has ls 2 [(0, .ref b), (1, .int 16)] := hl
  refine lv_aload_n hx hb dJ5_init_d00df_0 rfl (lv_at hl 0 rfl) ?_
  refine W.objInit hx hb hown (hts _ (zj_t (q := 6166) (by decide +kernel) rfl)) (hts _ (zj_t (q := 1037) (by decide +kernel) rfl)) (hts _ (zj_t (q := 1038) (by decide +kernel) rfl)) rfl (by rw [hml]; exact hl.1) rfl dJ5_init_d00df_1 (Nat.le_of_ble_eq_true rfl) (Nat.le_of_ble_eq_true rfl) ?_
  refine W.eq (g2 := F0 m 4 ls []) rfl ?_
  refine va_gets hx hb hC hS hown (hts _ (zj_t (q := 6167) (by decide +kernel) rfl)) (fun _ h9 => h9) dJ5_init_d00df_4 ?_
  refine lv_if_eq (tgt := 25) hx hb dJ5_init_d00df_7 (by decide) (fun c_ => absurd c_ (by decide)) (fun _ => ?_)
  refine lv_aload_n hx hb dJ5_init_d00df_10 rfl (lv_at hl 0 rfl) ?_
  refine lv_iload_n hx hb dJ5_init_d00df_11 rfl (lv_at hl 1 rfl) ?_
  refine va_newa (atype := .byte) (a0 := (16, .inl (fun _ => 0))) (N' := 16) hx hb (hts _ (zj_t (q := 3057) (by decide +kernel) rfl)) rfl hK hP hD hS hA (fun _ => rfl) (by decide) (by decide) (by decide) (Nat.le_of_ble_eq_true rfl) (Nat.le_of_ble_eq_true rfl) dJ5_init_d00df_12 (fun ra cB H hK hP hD hS => ?_)
  have hK : va_K D zj_cl [(cB, .byte)] s := hK
  have hP : va_P D zj_cl [(b, .inr (0, [.null, .int 0, .int 0, .int 0])), (ra, .inl (cB, 16, .inl (fun _ => 0)))] H := hP
  have hD : va_D A [(b, .inr (0, [.null, .int 0, .int 0, .int 0])), (ra, .inl (cB, 16, .inl (fun _ => 0)))] := hD
  refine va_put (D := D) (ci := 0) (v := .ref ra) (ty := .array .byte) (C := RJ4) (T := TJ4) (N := 4) hx hb hts zj_hb tyJ4 tyJ4_ok nmJ4 hown hK hP hD hS 0 rfl rfl 0 (by decide) (hts _ (zj_t (q := 6175) (by decide +kernel) rfl)) (fun _ h9 => h9) rfl  (by decide +kernel) rfl rfl (Nat.le_of_ble_eq_true rfl) dJ5_init_d00df_14 (fun H locs hP hD hS => ?_)
  have hP : va_P D zj_cl [(b, .inr (0, [.ref ra, .int 0, .int 0, .int 0])), (ra, .inl (cB, 16, .inl (fun _ => 0)))] H := hP
  have hD : va_D A [(b, .inr (0, [.ref ra, .int 0, .int 0, .int 0])), (ra, .inl (cB, 16, .inl (fun _ => 0)))] := hD
  refine lv_aload_n hx hb dJ5_init_d00df_17 rfl (lv_at hl 0 rfl) ?_
  refine lv_iconst (v := 0) hx hb dJ5_init_d00df_18 (by decide) ?_
  refine va_put (D := D) (ci := 0) (v := .int 0) (ty := .byte) (C := RJ4) (T := TJ4) (N := 4) hx hb hts zj_hb tyJ4 tyJ4_ok nmJ4 hown hK hP hD hS 0 rfl rfl 1 (by decide) (hts _ (zj_t (q := 6176) (by decide +kernel) rfl)) (fun _ h9 => h9) rfl  (by decide +kernel) rfl rfl (Nat.le_of_ble_eq_true rfl) dJ5_init_d00df_19 (fun H locs hP hD hS => ?_)
  have hP : va_P D zj_cl [(b, .inr (0, [.ref ra, .int 0, .int 0, .int 0])), (ra, .inl (cB, 16, .inl (fun _ => 0)))] H := hP
  have hD : va_D A [(b, .inr (0, [.ref ra, .int 0, .int 0, .int 0])), (ra, .inl (cB, 16, .inl (fun _ => 0)))] := hD
  refine lv_goto (tgt := 38) hx hb dJ5_init_d00df_22 (by decide) ?_
  refine W.widen (k := 1) (n := 16) (by omega) (by omega) ?_
  exact W.vret hx hb hr (fun t ht hW => ⟨⟨(ra, cB), rfl, trivial, ⟨by rw [ht]; exact hP, va_K.moved hW.alike hK⟩, hD⟩, hS.F ht⟩) hS.2.2 dJ5_init_d00df_38
set_option maxHeartbeats 1000000 in
set_option maxRecDepth 100000 in
/-- new StringBuilder() -/
theorem zs_init (l : Launch) {D : va_G} {sz : Nat} {b : Nat}  : Met l yJ4_init_da8c8 (.code yJ4_init_da8c8 cJ4_init_da8c8 1 none :: zj_gw) (mj_rm 2 (1) (16)) (va_Pc [.ref b] (fun U => U.heap.size = sz ∧ va_P D zj_cl [(b, .inr (0, [.null, .int 0, .int 0, .int 0]))] U.heap ∧ va_K D zj_cl [] U ∧ va_D (fun _ => True) [(b, .inr (0, [.null, .int 0, .int 0, .int 0]))] ∧ zs_C (va_A [(b, .inr (0, [.null, .int 0, .int 0, .int 0]))] sz) U U.heap)) (va_Qv (fun (_ : Nat × ClassId) => True) (fun u t => match u with | (ra, cB) => (va_P D zj_cl [(b, .inr (0, [.ref ra, .int 0, .int 0, .int 0])), (ra, .inl (cB, 16, .inl (fun _ => 0)))] t.heap ∧ va_K D zj_cl [(cB, .byte)] t) ∧ va_D (va_A [(b, .inr (0, [.null, .int 0, .int 0, .int 0]))] sz) [(b, .inr (0, [.ref ra, .int 0, .int 0, .int 0])), (ra, .inl (cB, 16, .inl (fun _ => 0)))]) (va_A [(b, .inr (0, [.null, .int 0, .int 0, .int 0]))] sz)) (1) (16) ((va_A [(b, .inr (0, [.null, .int 0, .int 0, .int 0]))] sz)) := by
  refine Met.ofW (cc := cJ4_init_da8c8) (maxL := 1) (ret := none) (by decide) rfl ?_
  intro p e s m args below meth c s₁ B hml hv
  obtain ⟨rfl, hsz, hP, hK, hD0, hC⟩ := hv
  have hx := B.exec
  have hb := B.bytes
  have hr := B.returns
  have hts := atoms_spec (ws := .code yJ4_init_da8c8 cJ4_init_da8c8 1 none :: zj_gw) B.pre
  have hown : s.vm.findClass RJ4 = some m.cls := findClass_of_methodNamed B.named
  have hlocks := B.notSynchronized
  have hin : meth.name = "<init>" := (name_of_methodNamed B.named B.method).1
  subst hsz
  have hD := hD0.self (sz := s.heap.size)
  generalize hAe : va_A [(b, .inr (0, [.null, .int 0, .int 0, .int 0]))] s.heap.size = A at hD hC ⊢
  have hA : ∀ q : Nat, s.heap.size ≤ q → A q := fun q h => by rw [← hAe]; exact Or.inr h
  have hS : va_S A s.heap s.heap [] := va_S.rf
  have hP : va_P D zj_cl [(b, .inr (0, [.null, .int 0, .int 0, .int 0]))] s.heap := hP
  have hK : va_K D zj_cl [] s := hK
  have hl := lv_entry ([.ref b]) (n := 1) (Nat.le_of_ble_eq_true rfl)
  rw [lg_entry_eq]
  generalize (lg_sl ([.ref b]) ++ List.replicate (1 - (lg_sl ([.ref b])).length) Slot.unset).toArray = ls at hl ⊢
  have hl : lv_has ls 1 [(0, .ref b)] := hl
  refine lv_aload_n hx hb dJ4_init_da8c8_0 rfl (lv_at hl 0 rfl) ?_
  refine lv_bipush (v := 16) hx hb dJ4_init_da8c8_1 (by decide) ?_
  have hPc := hP.sub (ws' := [(b, .inr (0, [.null, .int 0, .int 0, .int 0]))]) [0] rfl
  have hDc := hD.sub (ws' := [(b, .inr (0, [.null, .int 0, .int 0, .int 0]))]) [0] (by decide) rfl
  have hFc := va_free (wc := [(b, .inr (0, [.null, .int 0, .int 0, .int 0]))]) hD hS hA [0] rfl
  refine va_callv (va_runI (As := [.int 16]) (rest := []) ⟨hx, hb, hml, hown, hts⟩ (zs_ainit l (sz := s.heap.size) (b := b)) (cwI (own := RJ4) 1 hts (zj_good (zj_C (zj_m (q := 6165) (by decide +kernel) rfl))) rfl rfl rfl (hts _ (zj_t (q := 1023) (by decide +kernel) rfl)) (hts _ (zj_t (q := 6163) (by decide +kernel) rfl)) (hts _ (zj_t (q := 6164) (by decide +kernel) rfl)) rfl (by decide +kernel) ⟨Nat.le_of_ble_eq_true rfl, Nat.le_of_ble_eq_true rfl⟩) ⟨fun a U g mk q => ⟨q.1, q.2.1, q.2.2.1, va_K.moved (u := U) (U := U.calling g mk a) (Vm.Alike.refl U.vm) q.2.2.2.1, q.2.2.2.2.1, zs_C.moved (u := U) (U := U.calling g mk a) (Vm.Alike.refl U.vm) q.2.2.2.2.2⟩, fun U hU hW => ⟨rfl, by rw [hU], by rw [hU]; exact hPc, va_K.moved hW.alike hK, hDc.weaken (fun _ _ _ _ => trivial), by (try rw [hU]); exact zs_C.moved hW.alike (hC.narrow hFc)⟩⟩ rfl rfl hl.1 rfl (lv_room (Nat.le_of_ble_eq_true rfl)) dJ4_init_da8c8_3 ⟨Nat.le_of_ble_eq_true rfl, Nat.le_of_ble_eq_true rfl⟩) hS (fun q _ h => hFc q h) hFc (fun ur t_ H1 locs ht hvm hw hB hz1 hk1 hS => ?_)
  obtain ⟨ra, cB⟩ := ur
  try dsimp only at hB
  obtain ⟨⟨hP1, hK1⟩, hD1⟩ := hB
  rw [ht] at hP1
  obtain ⟨hP, hD⟩ := va_join (wr := []) (w1 := [(b, .inr (0, [.ref ra, .int 0, .int 0, .int 0])), (ra, .inl (cB, 16, .inl (fun _ => 0)))]) hP hD [0] [] rfl rfl (by decide) (by decide) hk1 hFc hP1 hD1
  generalize H1 = H at hP hS ⊢
  have hP : va_P D zj_cl [(b, .inr (0, [.ref ra, .int 0, .int 0, .int 0])), (ra, .inl (cB, 16, .inl (fun _ => 0)))] H := hP
  have hD : va_D A [(b, .inr (0, [.ref ra, .int 0, .int 0, .int 0])), (ra, .inl (cB, 16, .inl (fun _ => 0)))] := hD
  have hK : va_K D zj_cl [(cB, .byte)] s := va_K.moved hvm.symm hK1
  refine W.widen (k := 1) (n := 16) (by omega) (by omega) ?_
  exact W.vret hx hb hr (fun t ht hW => ⟨⟨(ra, cB), rfl, trivial, ⟨by rw [ht]; exact hP, va_K.moved hW.alike hK⟩, hD⟩, hS.F ht⟩) hS.2.2 dJ4_init_da8c8_6
