theorem zj_layB : mj_inl (u_ws RJ4 TJ4 4) [6179, 6181, 6183, 6185] = true := by decide +kernel
theorem zj_layS : mj_inl (u_ws RJ0 TJ0 4) [7116, 7118, 7120, 7122] = true := by decide +kernel
theorem zj_hb {x : Jvm.Cond} : ∀ w ∈ u_ws RJ4 TJ4 4, w ∈ x :: zj_gw := fun w hw => List.mem_cons_of_mem _ (List.mem_append_right _ (mj_inl_of zj_layB w hw))
theorem zj_hs {x : Jvm.Cond} : ∀ w ∈ u_ws RJ0 TJ0 4, w ∈ x :: zj_gw := fun w hw => List.mem_cons_of_mem _ (List.mem_append_right _ (mj_inl_of zj_layS w hw))
theorem zj_s1 : Jvm.Cond.selects RJ4 yJ5_ensureCapacityInternal_d00df yJ5_ensureCapacityInternal_d00df ∈ zj_gw := List.mem_append_left _ (by simp [zj_ex])
theorem zj_s2 : Jvm.Cond.selects RJ4 yJ5_newCapacity_0f7a4 yJ5_newCapacity_0f7a4 ∈ zj_gw := List.mem_append_left _ (by simp [zj_ex])
theorem zj_s3 : Jvm.Cond.selects RJ4 yJ5_putStringAt_47b60 yJ5_putStringAt_47b60 ∈ zj_gw := List.mem_append_left _ (by simp [zj_ex])
theorem zj_s4 : Jvm.Cond.selects RJ4 yJ5_inflateIfNeededFor_a7421 yJ5_inflateIfNeededFor_a7421 ∈ zj_gw := List.mem_append_left _ (by simp [zj_ex])
/-- cells of the JDK's classes -/
def zs_W (D : va_G) (ws : va_W) (tys : List (ClassId × FieldType)) (U : State) (h : Heap) : Prop := va_P D zj_cl ws h ∧ va_K D zj_cl tys U
theorem zs_W.moved {D : va_G} {ws : va_W} {tys : List (ClassId × FieldType)} {u U : State} {h : Heap} (hv : u.vm.Alike U.vm) (H : zs_W D ws tys u h) : zs_W D ws tys U h := ⟨H.1, H.2.moved hv⟩
theorem zs_F.apart {A : Nat → Prop} {q v n : Nat} {g : Nat → Int32} {U : State} {h : Heap} (H : zs_F zj_nn q v n g U h) (hq : ¬ A q) (hv : ¬ A v) : zs_F A q v n g U h := by
  obtain ⟨⟨c1, a1, a2, a3, -⟩, ⟨c2, k2, i2, f2, e2, b1, b2, b3, b4, b5, -⟩, ⟨c3, k3, i3, f3, e3, d1, d2, d3, d4, d5, -⟩, ⟨c4, g1, g2, g3, g4, g5, g6, -⟩⟩ := H
  exact ⟨⟨c1, a1, a2, a3, hq⟩, ⟨c2, k2, i2, f2, e2, b1, b2, b3, b4, b5, hq⟩, ⟨c3, k3, i3, f3, e3, d1, d2, d3, d4, d5, hq⟩, ⟨c4, g1, g2, g3, g4, g5, g6, hv⟩⟩
theorem dJ5_getValue_6d5f1_0 : decode cJ5_getValue_6d5f1 0 = .ok (.aload_n 0, 1) := by decide +kernel
theorem dJ5_getValue_6d5f1_1 : decode cJ5_getValue_6d5f1 1 = .ok (.getfield 15, 3) := by decide +kernel
theorem dJ5_getValue_6d5f1_4 : decode cJ5_getValue_6d5f1 4 = .ok (.areturn, 1) := by decide +kernel
theorem dJ5_isLatin1_aae02_0 : decode cJ5_isLatin1_aae02 0 = .ok (.getstatic 18, 3) := by decide +kernel
theorem dJ5_isLatin1_aae02_3 : decode cJ5_isLatin1_aae02 3 = .ok (.ifCond .eq 14, 3) := by decide +kernel
theorem dJ5_isLatin1_aae02_6 : decode cJ5_isLatin1_aae02 6 = .ok (.aload_n 0, 1) := by decide +kernel
theorem dJ5_isLatin1_aae02_7 : decode cJ5_isLatin1_aae02 7 = .ok (.getfield 22, 3) := by decide +kernel
theorem dJ5_isLatin1_aae02_10 : decode cJ5_isLatin1_aae02 10 = .ok (.ifCond .ne 7, 3) := by decide +kernel
theorem dJ5_isLatin1_aae02_13 : decode cJ5_isLatin1_aae02 13 = .ok (.iconst 1, 1) := by decide +kernel
theorem dJ5_isLatin1_aae02_14 : decode cJ5_isLatin1_aae02 14 = .ok (.goto 4, 3) := by decide +kernel
theorem dJ5_isLatin1_aae02_18 : decode cJ5_isLatin1_aae02 18 = .ok (.ireturn, 1) := by decide +kernel
theorem dJ5_length_8abf5_0 : decode cJ5_length_8abf5 0 = .ok (.aload_n 0, 1) := by decide +kernel
theorem dJ5_length_8abf5_1 : decode cJ5_length_8abf5 1 = .ok (.getfield 79, 3) := by decide +kernel
theorem dJ5_length_8abf5_4 : decode cJ5_length_8abf5 4 = .ok (.ireturn, 1) := by decide +kernel
theorem dJ5_newCapacity_0f7a4_0 : decode cJ5_newCapacity_0f7a4 0 = .ok (.aload_n 0, 1) := by decide +kernel
theorem dJ5_newCapacity_0f7a4_1 : decode cJ5_newCapacity_0f7a4 1 = .ok (.getfield 15, 3) := by decide +kernel
theorem dJ5_newCapacity_0f7a4_4 : decode cJ5_newCapacity_0f7a4 4 = .ok (.arraylength, 1) := by decide +kernel
theorem dJ5_newCapacity_0f7a4_5 : decode cJ5_newCapacity_0f7a4 5 = .ok (.istore_n 2, 1) := by decide +kernel
theorem dJ5_newCapacity_0f7a4_6 : decode cJ5_newCapacity_0f7a4 6 = .ok (.iload_n 1, 1) := by decide +kernel
theorem dJ5_newCapacity_0f7a4_7 : decode cJ5_newCapacity_0f7a4 7 = .ok (.aload_n 0, 1) := by decide +kernel
theorem dJ5_newCapacity_0f7a4_8 : decode cJ5_newCapacity_0f7a4 8 = .ok (.getfield 22, 3) := by decide +kernel
theorem dJ5_newCapacity_0f7a4_11 : decode cJ5_newCapacity_0f7a4 11 = .ok (.ishl, 1) := by decide +kernel
theorem dJ5_newCapacity_0f7a4_12 : decode cJ5_newCapacity_0f7a4 12 = .ok (.istore_n 3, 1) := by decide +kernel
theorem dJ5_newCapacity_0f7a4_13 : decode cJ5_newCapacity_0f7a4 13 = .ok (.iload_n 3, 1) := by decide +kernel
theorem dJ5_newCapacity_0f7a4_14 : decode cJ5_newCapacity_0f7a4 14 = .ok (.iload_n 2, 1) := by decide +kernel
theorem dJ5_newCapacity_0f7a4_15 : decode cJ5_newCapacity_0f7a4 15 = .ok (.isub, 1) := by decide +kernel
theorem dJ5_newCapacity_0f7a4_16 : decode cJ5_newCapacity_0f7a4 16 = .ok (.istore 4, 2) := by decide +kernel
theorem dJ5_newCapacity_0f7a4_18 : decode cJ5_newCapacity_0f7a4 18 = .ok (.iload_n 2, 1) := by decide +kernel
theorem dJ5_newCapacity_0f7a4_19 : decode cJ5_newCapacity_0f7a4 19 = .ok (.iload 4, 2) := by decide +kernel
theorem dJ5_newCapacity_0f7a4_21 : decode cJ5_newCapacity_0f7a4 21 = .ok (.iload_n 2, 1) := by decide +kernel
theorem dJ5_newCapacity_0f7a4_22 : decode cJ5_newCapacity_0f7a4 22 = .ok (.iconst 2, 1) := by decide +kernel
theorem dJ5_newCapacity_0f7a4_23 : decode cJ5_newCapacity_0f7a4 23 = .ok (.aload_n 0, 1) := by decide +kernel
theorem dJ5_newCapacity_0f7a4_24 : decode cJ5_newCapacity_0f7a4 24 = .ok (.getfield 22, 3) := by decide +kernel
theorem dJ5_newCapacity_0f7a4_27 : decode cJ5_newCapacity_0f7a4 27 = .ok (.ishl, 1) := by decide +kernel
theorem dJ5_newCapacity_0f7a4_28 : decode cJ5_newCapacity_0f7a4 28 = .ok (.iadd, 1) := by decide +kernel
theorem dJ5_newCapacity_0f7a4_29 : decode cJ5_newCapacity_0f7a4 29 = .ok (.invokestatic 114, 3) := by decide +kernel
theorem dJ5_newCapacity_0f7a4_32 : decode cJ5_newCapacity_0f7a4 32 = .ok (.istore 5, 2) := by decide +kernel
theorem dJ5_newCapacity_0f7a4_34 : decode cJ5_newCapacity_0f7a4 34 = .ok (.iload 5, 2) := by decide +kernel
theorem dJ5_newCapacity_0f7a4_36 : decode cJ5_newCapacity_0f7a4 36 = .ok (.ldc 39, 2) := by decide +kernel
theorem dJ5_newCapacity_0f7a4_38 : decode cJ5_newCapacity_0f7a4 38 = .ok (.if_icmp .ne 13, 3) := by decide +kernel
theorem dJ5_newCapacity_0f7a4_51 : decode cJ5_newCapacity_0f7a4 51 = .ok (.iload 5, 2) := by decide +kernel
theorem dJ5_newCapacity_0f7a4_53 : decode cJ5_newCapacity_0f7a4 53 = .ok (.aload_n 0, 1) := by decide +kernel
theorem dJ5_newCapacity_0f7a4_54 : decode cJ5_newCapacity_0f7a4 54 = .ok (.getfield 22, 3) := by decide +kernel
theorem dJ5_newCapacity_0f7a4_57 : decode cJ5_newCapacity_0f7a4 57 = .ok (.ishr, 1) := by decide +kernel
theorem dJ5_newCapacity_0f7a4_58 : decode cJ5_newCapacity_0f7a4 58 = .ok (.ireturn, 1) := by decide +kernel
theorem dJ6_stringSize_0f7a4_0 : decode cJ6_stringSize_0f7a4 0 = .ok (.iconst 1, 1) := by decide +kernel
theorem dJ6_stringSize_0f7a4_1 : decode cJ6_stringSize_0f7a4 1 = .ok (.istore_n 1, 1) := by decide +kernel
theorem dJ6_stringSize_0f7a4_2 : decode cJ6_stringSize_0f7a4 2 = .ok (.iload_n 0, 1) := by decide +kernel
theorem dJ6_stringSize_0f7a4_3 : decode cJ6_stringSize_0f7a4 3 = .ok (.ifCond .lt 8, 3) := by decide +kernel
theorem dJ6_stringSize_0f7a4_6 : decode cJ6_stringSize_0f7a4 6 = .ok (.iconst 0, 1) := by decide +kernel
theorem dJ6_stringSize_0f7a4_7 : decode cJ6_stringSize_0f7a4 7 = .ok (.istore_n 1, 1) := by decide +kernel
theorem dJ6_stringSize_0f7a4_8 : decode cJ6_stringSize_0f7a4 8 = .ok (.iload_n 0, 1) := by decide +kernel
theorem dJ6_stringSize_0f7a4_9 : decode cJ6_stringSize_0f7a4 9 = .ok (.ineg, 1) := by decide +kernel
theorem dJ6_stringSize_0f7a4_10 : decode cJ6_stringSize_0f7a4 10 = .ok (.istore_n 0, 1) := by decide +kernel
theorem dJ6_stringSize_0f7a4_11 : decode cJ6_stringSize_0f7a4 11 = .ok (.bipush (-10), 2) := by decide +kernel
theorem dJ6_stringSize_0f7a4_13 : decode cJ6_stringSize_0f7a4 13 = .ok (.istore_n 2, 1) := by decide +kernel
theorem dJ6_stringSize_0f7a4_14 : decode cJ6_stringSize_0f7a4 14 = .ok (.iconst 1, 1) := by decide +kernel
theorem dJ6_stringSize_0f7a4_15 : decode cJ6_stringSize_0f7a4 15 = .ok (.istore_n 3, 1) := by decide +kernel
theorem dJ6_stringSize_0f7a4_16 : decode cJ6_stringSize_0f7a4 16 = .ok (.iload_n 3, 1) := by decide +kernel
theorem dJ6_stringSize_0f7a4_17 : decode cJ6_stringSize_0f7a4 17 = .ok (.bipush 10, 2) := by decide +kernel
theorem dJ6_stringSize_0f7a4_19 : decode cJ6_stringSize_0f7a4 19 = .ok (.if_icmp .ge 23, 3) := by decide +kernel
theorem dJ6_stringSize_0f7a4_22 : decode cJ6_stringSize_0f7a4 22 = .ok (.iload_n 0, 1) := by decide +kernel
theorem dJ6_stringSize_0f7a4_23 : decode cJ6_stringSize_0f7a4 23 = .ok (.iload_n 2, 1) := by decide +kernel
theorem dJ6_stringSize_0f7a4_24 : decode cJ6_stringSize_0f7a4 24 = .ok (.if_icmp .le 7, 3) := by decide +kernel
theorem dJ6_stringSize_0f7a4_27 : decode cJ6_stringSize_0f7a4 27 = .ok (.iload_n 3, 1) := by decide +kernel
theorem dJ6_stringSize_0f7a4_28 : decode cJ6_stringSize_0f7a4 28 = .ok (.iload_n 1, 1) := by decide +kernel
theorem dJ6_stringSize_0f7a4_29 : decode cJ6_stringSize_0f7a4 29 = .ok (.iadd, 1) := by decide +kernel
theorem dJ6_stringSize_0f7a4_30 : decode cJ6_stringSize_0f7a4 30 = .ok (.ireturn, 1) := by decide +kernel
theorem dJ8_newLength_cabcc_0 : decode cJ8_newLength_cabcc 0 = .ok (.iload_n 0, 1) := by decide +kernel
theorem dJ8_newLength_cabcc_1 : decode cJ8_newLength_cabcc 1 = .ok (.iload_n 1, 1) := by decide +kernel
theorem dJ8_newLength_cabcc_2 : decode cJ8_newLength_cabcc 2 = .ok (.iload_n 2, 1) := by decide +kernel
theorem dJ8_newLength_cabcc_3 : decode cJ8_newLength_cabcc 3 = .ok (.invokestatic 194, 3) := by decide +kernel
theorem dJ8_newLength_cabcc_6 : decode cJ8_newLength_cabcc 6 = .ok (.iadd, 1) := by decide +kernel
theorem dJ8_newLength_cabcc_7 : decode cJ8_newLength_cabcc 7 = .ok (.istore_n 3, 1) := by decide +kernel
theorem dJ8_newLength_cabcc_8 : decode cJ8_newLength_cabcc 8 = .ok (.iconst 0, 1) := by decide +kernel
theorem dJ8_newLength_cabcc_9 : decode cJ8_newLength_cabcc 9 = .ok (.iload_n 3, 1) := by decide +kernel
theorem dJ8_newLength_cabcc_10 : decode cJ8_newLength_cabcc 10 = .ok (.if_icmp .ge 11, 3) := by decide +kernel
theorem dJ8_newLength_cabcc_13 : decode cJ8_newLength_cabcc 13 = .ok (.iload_n 3, 1) := by decide +kernel
theorem dJ8_newLength_cabcc_14 : decode cJ8_newLength_cabcc 14 = .ok (.ldc 200, 2) := by decide +kernel
theorem dJ8_newLength_cabcc_16 : decode cJ8_newLength_cabcc 16 = .ok (.if_icmp .gt 5, 3) := by decide +kernel
theorem dJ8_newLength_cabcc_19 : decode cJ8_newLength_cabcc 19 = .ok (.iload_n 3, 1) := by decide +kernel
theorem dJ8_newLength_cabcc_20 : decode cJ8_newLength_cabcc 20 = .ok (.ireturn, 1) := by decide +kernel
set_option maxHeartbeats 1000000 in
set_option maxRecDepth 100000 in
theorem zs_bLatin (l : Launch) {D : va_G} {cB : ClassId} {b a cap : Nat} {f : Nat → Int32} {ml cnt : Int32} {h0 : Heap}  : Met l yJ5_isLatin1_aae02 (.code yJ5_isLatin1_aae02 cJ5_isLatin1_aae02 1 (some .boolean) :: zj_gw) (mj_rm 0 (0) (0)) (va_Pc [.ref b] (fun U => U.heap = h0 ∧ zs_C zj_nn U U.heap ∧ zs_W D [(b, .inr (0, [.ref a, .int 0, .int ml, .int cnt])), (a, .inl (cB, cap, .inl f))] [(cB, .byte)] U U.heap)) (va_Qi (fun (r : Int32) (_ : Unit) => r = 1) (fun _ t => t.heap = h0) zj_nn) (0) (0) (zj_nn) := by
  refine Met.ofW (cc := cJ5_isLatin1_aae02) (maxL := 1) (ret := some .boolean) (by decide) rfl ?_
  intro p e s m args below meth c s₁ B hml hv
  obtain ⟨rfl, rfl, hC, hW⟩ := hv
  have hx := B.exec
  have hb := B.bytes
  have hr := B.returns
  have hts := atoms_spec (ws := .code yJ5_isLatin1_aae02 cJ5_isLatin1_aae02 1 (some .boolean) :: zj_gw) B.pre
  have hown : s.vm.findClass RJ5 = some m.cls := findClass_of_methodNamed B.named
  have hlocks := B.notSynchronized
  have hS : va_S zj_nn s.heap s.heap [] := va_S.rf
  have hP : va_P D zj_cl [(b, .inr (0, [.ref a, .int 0, .int ml, .int cnt])), (a, .inl (cB, cap, .inl f))] s.heap := hW.1
  have hK : va_K D zj_cl [(cB, .byte)] s := hW.2
  have hl := lv_entry ([.ref b]) (n := 1) (Nat.le_of_ble_eq_true rfl)
  rw [lg_entry_eq]
  generalize (lg_sl ([.ref b]) ++ List.replicate (1 - (lg_sl ([.ref b])).length) Slot.unset).toArray = ls at hl ⊢
  have hl : lv_has ls 1 [(0, .ref b)] := hl
  refine va_gets hx hb hC hS hown (hts _ (zj_t (q := 6167) (by decide +kernel) rfl)) (fun _ h9 => h9) dJ5_isLatin1_aae02_0 ?_
  refine lv_if_eq (tgt := 17) hx hb dJ5_isLatin1_aae02_3 (by decide) (fun c_ => absurd c_ (by decide)) (fun _ => ?_)
  refine lv_aload_n hx hb dJ5_isLatin1_aae02_6 rfl (lv_at hl 0 rfl) ?_
  refine va_get (D := D) (ci := 0) (v := .int 0) (C := RJ4) (T := TJ4) (N := 4) hx hb hts zj_hb hown hK hP 0 rfl rfl 1 (by decide) (hts _ (zj_t (q := 6176) (by decide +kernel) rfl)) (fun _ h9 => h9) rfl dJ5_isLatin1_aae02_7 ?_
  refine lv_if_ne (tgt := 17) hx hb dJ5_isLatin1_aae02_10 (by decide) (fun c_ => (c_ (rfl)).elim) (fun _ => ?_)
  refine lv_iconst (v := 1) hx hb dJ5_isLatin1_aae02_13 (by decide) ?_
  refine lv_goto (tgt := 18) hx hb dJ5_isLatin1_aae02_14 (by decide) ?_
  exact W.zret (v := 1) hx hb hr (by decide) (fun t ht hW => ⟨⟨1, (), rfl, rfl, ht⟩, hS.F ht⟩) hS.2.2 dJ5_isLatin1_aae02_18
set_option maxHeartbeats 1000000 in
set_option maxRecDepth 100000 in
theorem zs_newLength (l : Launch) {x y z N : Int32} {h0 : Heap} (hN : x + (if y < z then z else y) = N) (h0N : ¬ N ≤ 0) (h1N : ¬ 2147483639 < N) : Met l yJ8_newLength_cabcc (.code yJ8_newLength_cabcc cJ8_newLength_cabcc 4 (some .int) :: zj_gw) (mj_rm 1 (0) (0)) (va_Pc [.int x, .int y, .int z] (fun U => U.heap = h0 ∧ zs_0 U)) (va_Qi (fun (r : Int32) (_ : Unit) => r = N) (fun _ t => t.heap = h0) zj_nn) (0) (0) (zj_nn) := by
  refine Met.ofW (cc := cJ8_newLength_cabcc) (maxL := 4) (ret := some .int) (by decide) rfl ?_
  intro p e s m args below meth c s₁ B hml hv
  obtain ⟨rfl, rfl, -⟩ := hv
  have hx := B.exec
  have hb := B.bytes
  have hr := B.returns
  have hts := atoms_spec (ws := .code yJ8_newLength_cabcc cJ8_newLength_cabcc 4 (some .int) :: zj_gw) B.pre
  have hown : s.vm.findClass RJ8 = some m.cls := findClass_of_methodNamed B.named
  have hlocks := B.notSynchronized
  have hS : va_S zj_nn s.heap s.heap [] := va_S.rf
  have hl := lv_entry ([.int x, .int y, .int z]) (n := 4) (Nat.le_of_ble_eq_true rfl)
  rw [lg_entry_eq]
  generalize (lg_sl ([.int x, .int y, .int z]) ++ List.replicate (4 - (lg_sl ([.int x, .int y, .int z])).length) Slot.unset).toArray = ls at hl ⊢
  have hl : lv_has ls 4 [(0, .int x), (1, .int y), (2, .int z)] := hl
  refine lv_iload_n hx hb dJ8_newLength_cabcc_0 rfl (lv_at hl 0 rfl) ?_
  refine lv_iload_n hx hb dJ8_newLength_cabcc_1 rfl (lv_at hl 1 rfl) ?_
  refine lv_iload_n hx hb dJ8_newLength_cabcc_2 rfl (lv_at hl 2 rfl) ?_
  refine va_mmax hx hb (hml.trans hl.1.symm) hown (hts _ (zj_t (q := 6210) (by decide +kernel) rfl)) (hts _ (List.mem_cons_of_mem _ (List.mem_append_right _ (mj_gw_of mj_x_smax rfl)))) (hts _ (List.mem_cons_of_mem _ (List.mem_append_right _ (mj_gw_of mj_x_math rfl)))) (hts _ (List.mem_cons_of_mem _ (List.mem_append_right _ (mj_gw_of mj_x_cmax rfl)))) (Nat.le_of_ble_eq_true rfl) (Nat.le_of_ble_eq_true rfl) (Nat.zero_le _) (Nat.zero_le _) dJ8_newLength_cabcc_3 ?_
  refine lv_iadd hx hb dJ8_newLength_cabcc_6 ?_
  refine zj_top (y := N) (hN) ?_
  refine lv_istore_n (lv' := [(3, .int N), (0, .int x), (1, .int y), (2, .int z)]) hx hb dJ8_newLength_cabcc_7 rfl hl (by decide) rfl (fun ls hl => ?_)
  refine lv_iconst (v := 0) hx hb dJ8_newLength_cabcc_8 (by decide) ?_
  refine lv_iload_n hx hb dJ8_newLength_cabcc_9 rfl (lv_at hl 0 rfl) ?_
  refine lv_icmp_ge (tgt := 21) hx hb dJ8_newLength_cabcc_10 (by decide) (fun c_ => absurd c_ (h0N)) (fun _ => ?_)
  refine lv_iload_n hx hb dJ8_newLength_cabcc_13 rfl (lv_at hl 0 rfl) ?_
  refine lv_ldc (v := 2147483639) hx hb hown (hts _ (zj_t (q := 6211) (by decide +kernel) rfl)) dJ8_newLength_cabcc_14 ?_
  refine lv_icmp_gt (tgt := 21) hx hb dJ8_newLength_cabcc_16 (by decide) (fun c_ => absurd c_ (h1N)) (fun _ => ?_)
  refine lv_iload_n hx hb dJ8_newLength_cabcc_19 rfl (lv_at hl 0 rfl) ?_
  exact W.iret (v := N) hx hb hr (fun t ht hW => ⟨⟨N, (), rfl, rfl, ht⟩, hS.F ht⟩) hS.2.2 dJ8_newLength_cabcc_20
set_option maxHeartbeats 1000000 in
set_option maxRecDepth 100000 in
theorem zs_newCap (l : Launch) {D : va_G} {cB : ClassId} {b a cap : Nat} {f : Nat → Int32} {ml cnt : Int32} {h0 : Heap} {q N : Int32} (hN : Int32.ofNat cap + (if q - Int32.ofNat cap < Int32.ofNat cap + 2 then Int32.ofNat cap + 2 else q - Int32.ofNat cap) = N) (h0N : ¬ N ≤ 0) (h1N : ¬ 2147483639 < N) (h2N : ¬ N = 2147483647)  : Met l yJ5_newCapacity_0f7a4 (.code yJ5_newCapacity_0f7a4 cJ5_newCapacity_0f7a4 6 (some .int) :: zj_gw) (mj_rm 2 (0) (0)) (va_Pc [.ref b, .int q] (fun U => U.heap = h0 ∧ zs_W D [(b, .inr (0, [.ref a, .int 0, .int ml, .int cnt])), (a, .inl (cB, cap, .inl f))] [(cB, .byte)] U U.heap)) (va_Qi (fun (r : Int32) (_ : Unit) => r = N) (fun _ t => t.heap = h0) zj_nn) (0) (0) (zj_nn) := by
  refine Met.ofW (cc := cJ5_newCapacity_0f7a4) (maxL := 6) (ret := some .int) (by decide) rfl ?_
  intro p e s m args below meth c s₁ B hml hv
  obtain ⟨rfl, rfl, hW⟩ := hv
  have hx := B.exec
  have hb := B.bytes
  have hr := B.returns
  have hts := atoms_spec (ws := .code yJ5_newCapacity_0f7a4 cJ5_newCapacity_0f7a4 6 (some .int) :: zj_gw) B.pre
  have hown : s.vm.findClass RJ5 = some m.cls := findClass_of_methodNamed B.named
  have hlocks := B.notSynchronized
  have hS : va_S zj_nn s.heap s.heap [] := va_S.rf
  have hP : va_P D zj_cl [(b, .inr (0, [.ref a, .int 0, .int ml, .int cnt])), (a, .inl (cB, cap, .inl f))] s.heap := hW.1
  have hK : va_K D zj_cl [(cB, .byte)] s := hW.2
  have hl := lv_entry ([.ref b, .int q]) (n := 6) (Nat.le_of_ble_eq_true rfl)
  rw [lg_entry_eq]
  generalize (lg_sl ([.ref b, .int q]) ++ List.replicate (6 - (lg_sl ([.ref b, .int q])).length) Slot.unset).toArray = ls at hl ⊢
  have hl : lv_has ls 6 [(0, .ref b), (1, .int q)] := hl
  refine lv_aload_n hx hb dJ5_newCapacity_0f7a4_0 rfl (lv_at hl 0 rfl) ?_
  refine va_get (D := D) (ci := 0) (v := .ref a) (C := RJ4) (T := TJ4) (N := 4) hx hb hts zj_hb hown hK hP 0 rfl rfl 0 (by decide) (hts _ (zj_t (q := 6175) (by decide +kernel) rfl)) (fun _ h9 => h9) rfl dJ5_newCapacity_0f7a4_1 ?_
  refine va_alen hx hb hK hP 1 0 rfl (ty := .byte) rfl (v := Int32.ofNat cap) rfl dJ5_newCapacity_0f7a4_4 ?_
  refine lv_istore_n (lv' := [(2, .int (Int32.ofNat cap)), (0, .ref b), (1, .int q)]) hx hb dJ5_newCapacity_0f7a4_5 rfl hl (by decide) rfl (fun ls hl => ?_)
  refine lv_iload_n hx hb dJ5_newCapacity_0f7a4_6 rfl (lv_at hl 2 rfl) ?_
  refine lv_aload_n hx hb dJ5_newCapacity_0f7a4_7 rfl (lv_at hl 1 rfl) ?_
  refine va_get (D := D) (ci := 0) (v := .int 0) (C := RJ4) (T := TJ4) (N := 4) hx hb hts zj_hb hown hK hP 0 rfl rfl 1 (by decide) (hts _ (zj_t (q := 6176) (by decide +kernel) rfl)) (fun _ h9 => h9) rfl dJ5_newCapacity_0f7a4_8 ?_
  refine lv_ishl hx hb dJ5_newCapacity_0f7a4_11 ?_
  refine zj_top (y := q) (sb_shl0 _) ?_
  refine lv_istore_n (lv' := [(3, .int q), (2, .int (Int32.ofNat cap)), (0, .ref b), (1, .int q)]) hx hb dJ5_newCapacity_0f7a4_12 rfl hl (by decide) rfl (fun ls hl => ?_)
  refine lv_iload_n hx hb dJ5_newCapacity_0f7a4_13 rfl (lv_at hl 0 rfl) ?_
  refine lv_iload_n hx hb dJ5_newCapacity_0f7a4_14 rfl (lv_at hl 1 rfl) ?_
  refine lv_isub hx hb dJ5_newCapacity_0f7a4_15 ?_
  refine lv_istore (lv' := [(4, .int (q - (Int32.ofNat cap))), (3, .int q), (2, .int (Int32.ofNat cap)), (0, .ref b), (1, .int q)]) hx hb dJ5_newCapacity_0f7a4_16 hl (by decide) rfl (fun ls hl => ?_)
  refine lv_iload_n hx hb dJ5_newCapacity_0f7a4_18 rfl (lv_at hl 2 rfl) ?_
  refine lv_iload hx hb dJ5_newCapacity_0f7a4_19 (lv_at hl 0 rfl) ?_
  refine lv_iload_n hx hb dJ5_newCapacity_0f7a4_21 rfl (lv_at hl 2 rfl) ?_
  refine lv_iconst (v := 2) hx hb dJ5_newCapacity_0f7a4_22 (by decide) ?_
  refine lv_aload_n hx hb dJ5_newCapacity_0f7a4_23 rfl (lv_at hl 3 rfl) ?_
  refine va_get (D := D) (ci := 0) (v := .int 0) (C := RJ4) (T := TJ4) (N := 4) hx hb hts zj_hb hown hK hP 0 rfl rfl 1 (by decide) (hts _ (zj_t (q := 6176) (by decide +kernel) rfl)) (fun _ h9 => h9) rfl dJ5_newCapacity_0f7a4_24 ?_
  refine lv_ishl hx hb dJ5_newCapacity_0f7a4_27 ?_
  refine zj_top (y := 2) (sb_shl0 2) ?_
  refine lv_iadd hx hb dJ5_newCapacity_0f7a4_28 ?_
  refine va_calli (va_runS (As := [.int (Int32.ofNat cap), .int (q - (Int32.ofNat cap)), .int ((Int32.ofNat cap) + 2)]) (rest := []) ⟨hx, hb, hml, hown, hts⟩ (zs_newLength l hN h0N h1N) (va_cwS (own := RJ5) 3 hts (zj_good (zj_S (zj_m (q := 6207) (by decide +kernel) rfl) (zj_m (q := 6208) (by decide +kernel) rfl) (zj_m (q := 1025) (by decide +kernel) rfl) (zj_m (q := 6209) (by decide +kernel) rfl))) rfl rfl rfl (by decide +kernel) ⟨Nat.le_of_ble_eq_true rfl, Nat.le_of_ble_eq_true rfl⟩) ⟨fun a U g mk q => ⟨q.1, q.2.1, zs_0.moved (u := U) (U := U.calling g mk a) (Vm.Alike.refl U.vm) q.2.2⟩, fun U hU hW => ⟨rfl, hU, by (try rw [hU]); exact zs_0.moved hW.alike (show zs_0 s from trivial)⟩⟩ rfl rfl hl.1 rfl (lv_room (Nat.le_of_ble_eq_true rfl)) dJ5_newCapacity_0f7a4_29 ⟨Nat.zero_le _, Nat.zero_le _⟩) hS (fun _ _ h => h.elim) (fun _ h => h.elim) (fun r_ u_ t_ H1 locs1 ht hvm hw hB hz1 hk1 hS => ?_)
  obtain rfl : H1 = s.heap := ht.symm.trans hB
  rw [hw]
  refine lv_istore (lv' := [(5, .int N), (4, .int (q - (Int32.ofNat cap))), (3, .int q), (2, .int (Int32.ofNat cap)), (0, .ref b), (1, .int q)]) hx hb dJ5_newCapacity_0f7a4_32 hl (by decide) rfl (fun ls hl => ?_)
  refine lv_iload hx hb dJ5_newCapacity_0f7a4_34 (lv_at hl 0 rfl) ?_
  refine lv_ldc (v := 2147483647) hx hb hown (hts _ (zj_t (q := 6215) (by decide +kernel) rfl)) dJ5_newCapacity_0f7a4_36 ?_
  refine lv_icmp_ne (tgt := 51) hx hb dJ5_newCapacity_0f7a4_38 (by decide) (fun _ => ?_) (fun c_ => absurd c_ (h2N))
  refine lv_iload hx hb dJ5_newCapacity_0f7a4_51 (lv_at hl 0 rfl) ?_
  refine lv_aload_n hx hb dJ5_newCapacity_0f7a4_53 rfl (lv_at hl 4 rfl) ?_
  refine va_get (D := D) (ci := 0) (v := .int 0) (C := RJ4) (T := TJ4) (N := 4) hx hb hts zj_hb hown hK hP 0 rfl rfl 1 (by decide) (hts _ (zj_t (q := 6176) (by decide +kernel) rfl)) (fun _ h9 => h9) rfl dJ5_newCapacity_0f7a4_54 ?_
  refine lv_ishr hx hb dJ5_newCapacity_0f7a4_57 ?_
  refine zj_top (y := N) (sb_shr0 _) ?_
  exact W.iret (v := N) hx hb hr (fun t ht hW => ⟨⟨N, (), rfl, rfl, ht⟩, hS.F ht⟩) hS.2.2 dJ5_newCapacity_0f7a4_58
set_option maxHeartbeats 1000000 in
set_option maxRecDepth 100000 in
theorem zs_size (l : Launch) {x : Int32} {h0 : Heap} (hx0 : ¬ x < 0) (hx1 : ¬ -x ≤ -10) : Met l yJ6_stringSize_0f7a4 (.code yJ6_stringSize_0f7a4 cJ6_stringSize_0f7a4 4 (some .int) :: zj_gw) (mj_rm 0 (0) (0)) (va_Pc [.int x] (fun U => U.heap = h0 ∧ zs_0 U)) (va_Qi (fun (r : Int32) (_ : Unit) => r = 1) (fun _ t => t.heap = h0) zj_nn) (0) (0) (zj_nn) := by
  refine Met.ofW (cc := cJ6_stringSize_0f7a4) (maxL := 4) (ret := some .int) (by decide) rfl ?_
  intro p e s m args below meth c s₁ B hml hv
  obtain ⟨rfl, rfl, -⟩ := hv
  have hx := B.exec
  have hb := B.bytes
  have hr := B.returns
  have hts := atoms_spec (ws := .code yJ6_stringSize_0f7a4 cJ6_stringSize_0f7a4 4 (some .int) :: zj_gw) B.pre
  have hown : s.vm.findClass RJ6 = some m.cls := findClass_of_methodNamed B.named
  have hlocks := B.notSynchronized
  have hS : va_S zj_nn s.heap s.heap [] := va_S.rf
  have hl := lv_entry ([.int x]) (n := 4) (Nat.le_of_ble_eq_true rfl)
  rw [lg_entry_eq]
  generalize (lg_sl ([.int x]) ++ List.replicate (4 - (lg_sl ([.int x])).length) Slot.unset).toArray = ls at hl ⊢
  have hl : lv_has ls 4 [(0, .int x)] := hl
  refine lv_iconst (v := 1) hx hb dJ6_stringSize_0f7a4_0 (by decide) ?_
  refine lv_istore_n (lv' := [(1, .int 1), (0, .int x)]) hx hb dJ6_stringSize_0f7a4_1 rfl hl (by decide) rfl (fun ls hl => ?_)
  refine lv_iload_n hx hb dJ6_stringSize_0f7a4_2 rfl (lv_at hl 1 rfl) ?_
  refine lv_if_lt (tgt := 11) hx hb dJ6_stringSize_0f7a4_3 (by decide) (fun c_ => absurd c_ (hx0)) (fun _ => ?_)
  refine lv_iconst (v := 0) hx hb dJ6_stringSize_0f7a4_6 (by decide) ?_
  refine lv_istore_n (lv' := [(1, .int 0), (0, .int x)]) hx hb dJ6_stringSize_0f7a4_7 rfl hl (by decide) rfl (fun ls hl => ?_)
  refine lv_iload_n hx hb dJ6_stringSize_0f7a4_8 rfl (lv_at hl 1 rfl) ?_
  refine lv_ineg hx hb dJ6_stringSize_0f7a4_9 ?_
  refine lv_istore_n (lv' := [(0, .int (-x)), (1, .int 0)]) hx hb dJ6_stringSize_0f7a4_10 rfl hl (by decide) rfl (fun ls hl => ?_)
  refine lv_bipush (v := (-10)) hx hb dJ6_stringSize_0f7a4_11 (by decide) ?_
  refine lv_istore_n (lv' := [(2, .int (-10)), (0, .int (-x)), (1, .int 0)]) hx hb dJ6_stringSize_0f7a4_13 rfl hl (by decide) rfl (fun ls hl => ?_)
  refine lv_iconst (v := 1) hx hb dJ6_stringSize_0f7a4_14 (by decide) ?_
  refine lv_istore_n (lv' := [(3, .int 1), (2, .int (-10)), (0, .int (-x)), (1, .int 0)]) hx hb dJ6_stringSize_0f7a4_15 rfl hl (by decide) rfl (fun ls hl => ?_)
  refine lv_iload_n hx hb dJ6_stringSize_0f7a4_16 rfl (lv_at hl 0 rfl) ?_
  refine lv_bipush (v := 10) hx hb dJ6_stringSize_0f7a4_17 (by decide) ?_
  refine lv_icmp_ge (tgt := 42) hx hb dJ6_stringSize_0f7a4_19 (by decide) (fun c_ => absurd c_ (by decide)) (fun _ => ?_)
  refine lv_iload_n hx hb dJ6_stringSize_0f7a4_22 rfl (lv_at hl 2 rfl) ?_
  refine lv_iload_n hx hb dJ6_stringSize_0f7a4_23 rfl (lv_at hl 1 rfl) ?_
  refine lv_icmp_le (tgt := 31) hx hb dJ6_stringSize_0f7a4_24 (by decide) (fun c_ => absurd c_ (hx1)) (fun _ => ?_)
  refine lv_iload_n hx hb dJ6_stringSize_0f7a4_27 rfl (lv_at hl 0 rfl) ?_
  refine lv_iload_n hx hb dJ6_stringSize_0f7a4_28 rfl (lv_at hl 3 rfl) ?_
  refine lv_iadd hx hb dJ6_stringSize_0f7a4_29 ?_
  refine zj_top (y := 1) (by decide) ?_
  exact W.iret (v := 1) hx hb hr (fun t ht hW => ⟨⟨1, (), rfl, rfl, ht⟩, hS.F ht⟩) hS.2.2 dJ6_stringSize_0f7a4_30
set_option maxHeartbeats 1000000 in
set_option maxRecDepth 100000 in
theorem zs_value (l : Launch) {D : va_G} {cB : ClassId} {b a cap : Nat} {f : Nat → Int32} {ml cnt : Int32} {h0 : Heap}  : Met l yJ5_getValue_6d5f1 (.code yJ5_getValue_6d5f1 cJ5_getValue_6d5f1 1 (some (.array .byte)) :: zj_gw) (mj_rm 0 (0) (0)) (va_Pc [.ref b] (fun U => U.heap = h0 ∧ zs_W D [(b, .inr (0, [.ref a, .int 0, .int ml, .int cnt])), (a, .inl (cB, cap, .inl f))] [(cB, .byte)] U U.heap)) (va_Qr (fun (_ : Unit) => True) (fun _ ra t => a = ra ∧ t.heap = h0) zj_nn) (0) (0) (zj_nn) := by
  refine Met.ofW (cc := cJ5_getValue_6d5f1) (maxL := 1) (ret := some (.array .byte)) (by decide) rfl ?_
  intro p e s m args below meth c s₁ B hml hv
  obtain ⟨rfl, rfl, hW⟩ := hv
  have hx := B.exec
  have hb := B.bytes
  have hr := B.returns
  have hts := atoms_spec (ws := .code yJ5_getValue_6d5f1 cJ5_getValue_6d5f1 1 (some (.array .byte)) :: zj_gw) B.pre
  have hown : s.vm.findClass RJ5 = some m.cls := findClass_of_methodNamed B.named
  have hlocks := B.notSynchronized
  have hS : va_S zj_nn s.heap s.heap [] := va_S.rf
  have hP : va_P D zj_cl [(b, .inr (0, [.ref a, .int 0, .int ml, .int cnt])), (a, .inl (cB, cap, .inl f))] s.heap := hW.1
  have hK : va_K D zj_cl [(cB, .byte)] s := hW.2
  have hl := lv_entry ([.ref b]) (n := 1) (Nat.le_of_ble_eq_true rfl)
  rw [lg_entry_eq]
  generalize (lg_sl ([.ref b]) ++ List.replicate (1 - (lg_sl ([.ref b])).length) Slot.unset).toArray = ls at hl ⊢
  have hl : lv_has ls 1 [(0, .ref b)] := hl
  refine lv_aload_n hx hb dJ5_getValue_6d5f1_0 rfl (lv_at hl 0 rfl) ?_
  refine va_get (D := D) (ci := 0) (v := .ref a) (C := RJ4) (T := TJ4) (N := 4) hx hb hts zj_hb hown hK hP 0 rfl rfl 0 (by decide) (hts _ (zj_t (q := 6175) (by decide +kernel) rfl)) (fun _ h9 => h9) rfl dJ5_getValue_6d5f1_1 ?_
  exact W.aret (v := .ref a) (rt := .array .byte) hx hb hr (Or.inr ⟨_, rfl⟩) (Or.inr ⟨_, rfl⟩) (fun t ht hW => ⟨⟨(), a, rfl, trivial, rfl, ht⟩, hS.F ht⟩) hS.2.2 dJ5_getValue_6d5f1_4
set_option maxHeartbeats 1000000 in
set_option maxRecDepth 100000 in
theorem zs_aLen (l : Launch) {D : va_G} {cB : ClassId} {b a cap : Nat} {f : Nat → Int32} {ml cnt : Int32} {h0 : Heap}  : Met l yJ5_length_8abf5 (.code yJ5_length_8abf5 cJ5_length_8abf5 1 (some .int) :: zj_gw) (mj_rm 0 (0) (0)) (va_Pc [.ref b] (fun U => U.heap = h0 ∧ zs_W D [(b, .inr (0, [.ref a, .int 0, .int ml, .int cnt])), (a, .inl (cB, cap, .inl f))] [(cB, .byte)] U U.heap)) (va_Qi (fun (r : Int32) (_ : Unit) => r = cnt) (fun _ t => t.heap = h0) zj_nn) (0) (0) (zj_nn) := by
  refine Met.ofW (cc := cJ5_length_8abf5) (maxL := 1) (ret := some .int) (by decide) rfl ?_
  intro p e s m args below meth c s₁ B hml hv
  obtain ⟨rfl, rfl, hW⟩ := hv
  have hx := B.exec
  have hb := B.bytes
  have hr := B.returns
  have hts := atoms_spec (ws := .code yJ5_length_8abf5 cJ5_length_8abf5 1 (some .int) :: zj_gw) B.pre
  have hown : s.vm.findClass RJ5 = some m.cls := findClass_of_methodNamed B.named
  have hlocks := B.notSynchronized
  have hS : va_S zj_nn s.heap s.heap [] := va_S.rf
  have hP : va_P D zj_cl [(b, .inr (0, [.ref a, .int 0, .int ml, .int cnt])), (a, .inl (cB, cap, .inl f))] s.heap := hW.1
  have hK : va_K D zj_cl [(cB, .byte)] s := hW.2
  have hl := lv_entry ([.ref b]) (n := 1) (Nat.le_of_ble_eq_true rfl)
  rw [lg_entry_eq]
  generalize (lg_sl ([.ref b]) ++ List.replicate (1 - (lg_sl ([.ref b])).length) Slot.unset).toArray = ls at hl ⊢
  have hl : lv_has ls 1 [(0, .ref b)] := hl
  refine lv_aload_n hx hb dJ5_length_8abf5_0 rfl (lv_at hl 0 rfl) ?_
  refine va_get (D := D) (ci := 0) (v := .int cnt) (C := RJ4) (T := TJ4) (N := 4) hx hb hts zj_hb hown hK hP 0 rfl rfl 3 (by decide) (hts _ (zj_t (q := 6178) (by decide +kernel) rfl)) (fun _ h9 => h9) rfl dJ5_length_8abf5_1 ?_
  exact W.iret (v := cnt) hx hb hr (fun t ht hW => ⟨⟨cnt, (), rfl, rfl, ht⟩, hS.F ht⟩) hS.2.2 dJ5_length_8abf5_4
