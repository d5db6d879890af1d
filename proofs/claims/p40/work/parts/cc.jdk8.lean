theorem zj_O {own C owner : String} {ix n : Nat} {x' y : MethodName} {b : ByteArray} {ret : Option FieldType} (h1 : Jvm.Cond.methodLink own ix x' ∈ zj_gw) (h2 : Jvm.Cond.sameMethod x'.cls owner x'.name x'.desc ∈ zj_gw) (h7 : Jvm.Cond.instanceMethod ⟨owner, x'.name, x'.desc⟩ ∈ zj_gw) (h3 : Jvm.Cond.selects C x' y ∈ zj_gw) (h4 : Jvm.Cond.instanceMethod y ∈ zj_gw) (h6 : Jvm.Cond.initialized y.cls ∈ zj_gw) (h5 : Jvm.Cond.code y b n ret ∈ zj_gw) : ∀ w ∈ va_wsO own ix C owner x' y (Jvm.Cond.code y b n ret :: zj_gw), w ∈ zj_gw := by
  intro w hw
  unfold va_wsO at hw
  simp only [List.mem_append, List.mem_cons, List.not_mem_nil, or_false] at hw
  rcases hw with (rfl | rfl | rfl | rfl | rfl | rfl) | rfl | hw
  · exact h1
  · exact h2
  · exact h7
  · exact h3
  · exact h4
  · exact h6
  · exact h5
  · exact hw
theorem dJ0_init_81219_0 : decode cJ0_init_81219 0 = .ok (.aload_n 0, 1) := by decide +kernel
theorem dJ0_init_81219_1 : decode cJ0_init_81219 1 = .ok (.aload_n 1, 1) := by decide +kernel
theorem dJ0_init_81219_2 : decode cJ0_init_81219 2 = .ok (.aconst_null, 1) := by decide +kernel
theorem dJ0_init_81219_3 : decode cJ0_init_81219 3 = .ok (.invokespecial 489, 3) := by decide +kernel
theorem dJ0_init_81219_6 : decode cJ0_init_81219 6 = .ok (.return_, 1) := by decide +kernel
theorem dJ0_init_db425_0 : decode cJ0_init_db425 0 = .ok (.aload_n 0, 1) := by decide +kernel
theorem dJ0_init_db425_1 : decode cJ0_init_db425 1 = .ok (.invokespecial 1, 3) := by decide +kernel
theorem dJ0_init_db425_4 : decode cJ0_init_db425 4 = .ok (.aload_n 1, 1) := by decide +kernel
theorem dJ0_init_db425_5 : decode cJ0_init_db425 5 = .ok (.invokevirtual 552, 3) := by decide +kernel
theorem dJ0_init_db425_8 : decode cJ0_init_db425 8 = .ok (.astore_n 3, 1) := by decide +kernel
theorem dJ0_init_db425_9 : decode cJ0_init_db425 9 = .ok (.aload_n 1, 1) := by decide +kernel
theorem dJ0_init_db425_10 : decode cJ0_init_db425 10 = .ok (.invokevirtual 549, 3) := by decide +kernel
theorem dJ0_init_db425_13 : decode cJ0_init_db425 13 = .ok (.istore 4, 2) := by decide +kernel
theorem dJ0_init_db425_15 : decode cJ0_init_db425 15 = .ok (.aload_n 1, 1) := by decide +kernel
theorem dJ0_init_db425_16 : decode cJ0_init_db425 16 = .ok (.invokevirtual 1047, 3) := by decide +kernel
theorem dJ0_init_db425_19 : decode cJ0_init_db425 19 = .ok (.ifCond .eq 22, 3) := by decide +kernel
theorem dJ0_init_db425_22 : decode cJ0_init_db425 22 = .ok (.aload_n 0, 1) := by decide +kernel
theorem dJ0_init_db425_23 : decode cJ0_init_db425 23 = .ok (.iconst 0, 1) := by decide +kernel
theorem dJ0_init_db425_24 : decode cJ0_init_db425 24 = .ok (.putfield 15, 3) := by decide +kernel
theorem dJ0_init_db425_27 : decode cJ0_init_db425 27 = .ok (.aload_n 0, 1) := by decide +kernel
theorem dJ0_init_db425_28 : decode cJ0_init_db425 28 = .ok (.aload_n 3, 1) := by decide +kernel
theorem dJ0_init_db425_29 : decode cJ0_init_db425 29 = .ok (.iconst 0, 1) := by decide +kernel
theorem dJ0_init_db425_30 : decode cJ0_init_db425 30 = .ok (.iload 4, 2) := by decide +kernel
theorem dJ0_init_db425_32 : decode cJ0_init_db425 32 = .ok (.invokestatic 54, 3) := by decide +kernel
theorem dJ0_init_db425_35 : decode cJ0_init_db425 35 = .ok (.putfield 9, 3) := by decide +kernel
theorem dJ0_init_db425_38 : decode cJ0_init_db425 38 = .ok (.goto 59, 3) := by decide +kernel
theorem dJ0_init_db425_97 : decode cJ0_init_db425 97 = .ok (.return_, 1) := by decide +kernel
theorem dJ4_length_8abf5_0 : decode cJ4_length_8abf5 0 = .ok (.aload_n 0, 1) := by decide +kernel
theorem dJ4_length_8abf5_1 : decode cJ4_length_8abf5 1 = .ok (.invokespecial 343, 3) := by decide +kernel
theorem dJ4_length_8abf5_4 : decode cJ4_length_8abf5 4 = .ok (.ireturn, 1) := by decide +kernel
theorem dJ4_toString_0e30d_0 : decode cJ4_toString_0e30d 0 = .ok (.new 18, 3) := by decide +kernel
theorem dJ4_toString_0e30d_3 : decode cJ4_toString_0e30d 3 = .ok (.dup, 1) := by decide +kernel
theorem dJ4_toString_0e30d_4 : decode cJ4_toString_0e30d 4 = .ok (.aload_n 0, 1) := by decide +kernel
theorem dJ4_toString_0e30d_5 : decode cJ4_toString_0e30d 5 = .ok (.invokespecial 137, 3) := by decide +kernel
theorem dJ4_toString_0e30d_8 : decode cJ4_toString_0e30d 8 = .ok (.areturn, 1) := by decide +kernel
theorem dJ7_checkLength_df160_0 : decode cJ7_checkLength_df160 0 = .ok (.iload_n 1, 1) := by decide +kernel
theorem dJ7_checkLength_df160_1 : decode cJ7_checkLength_df160 1 = .ok (.iload_n 0, 1) := by decide +kernel
theorem dJ7_checkLength_df160_2 : decode cJ7_checkLength_df160 2 = .ok (.if_icmp .ge 35, 3) := by decide +kernel
theorem dJ7_checkLength_df160_37 : decode cJ7_checkLength_df160 37 = .ok (.return_, 1) := by decide +kernel
theorem dJ7_copyOfRangeByte_39247_0 : decode cJ7_copyOfRangeByte_39247 0 = .ok (.iload_n 1, 1) := by decide +kernel
theorem dJ7_copyOfRangeByte_39247_1 : decode cJ7_copyOfRangeByte_39247 1 = .ok (.iload_n 2, 1) := by decide +kernel
theorem dJ7_copyOfRangeByte_39247_2 : decode cJ7_copyOfRangeByte_39247 2 = .ok (.invokestatic 343, 3) := by decide +kernel
theorem dJ7_copyOfRangeByte_39247_5 : decode cJ7_copyOfRangeByte_39247 5 = .ok (.iload_n 2, 1) := by decide +kernel
theorem dJ7_copyOfRangeByte_39247_6 : decode cJ7_copyOfRangeByte_39247 6 = .ok (.iload_n 1, 1) := by decide +kernel
theorem dJ7_copyOfRangeByte_39247_7 : decode cJ7_copyOfRangeByte_39247 7 = .ok (.isub, 1) := by decide +kernel
theorem dJ7_copyOfRangeByte_39247_8 : decode cJ7_copyOfRangeByte_39247 8 = .ok (.istore_n 3, 1) := by decide +kernel
theorem dJ7_copyOfRangeByte_39247_9 : decode cJ7_copyOfRangeByte_39247 9 = .ok (.iload_n 3, 1) := by decide +kernel
theorem dJ7_copyOfRangeByte_39247_10 : decode cJ7_copyOfRangeByte_39247 10 = .ok (.newarray .byte, 2) := by decide +kernel
theorem dJ7_copyOfRangeByte_39247_12 : decode cJ7_copyOfRangeByte_39247 12 = .ok (.astore 4, 2) := by decide +kernel
theorem dJ7_copyOfRangeByte_39247_14 : decode cJ7_copyOfRangeByte_39247 14 = .ok (.aload_n 0, 1) := by decide +kernel
theorem dJ7_copyOfRangeByte_39247_15 : decode cJ7_copyOfRangeByte_39247 15 = .ok (.iload_n 1, 1) := by decide +kernel
theorem dJ7_copyOfRangeByte_39247_16 : decode cJ7_copyOfRangeByte_39247 16 = .ok (.aload 4, 2) := by decide +kernel
theorem dJ7_copyOfRangeByte_39247_18 : decode cJ7_copyOfRangeByte_39247 18 = .ok (.iconst 0, 1) := by decide +kernel
theorem dJ7_copyOfRangeByte_39247_19 : decode cJ7_copyOfRangeByte_39247 19 = .ok (.aload_n 0, 1) := by decide +kernel
theorem dJ7_copyOfRangeByte_39247_20 : decode cJ7_copyOfRangeByte_39247 20 = .ok (.arraylength, 1) := by decide +kernel
theorem dJ7_copyOfRangeByte_39247_21 : decode cJ7_copyOfRangeByte_39247 21 = .ok (.iload_n 1, 1) := by decide +kernel
theorem dJ7_copyOfRangeByte_39247_22 : decode cJ7_copyOfRangeByte_39247 22 = .ok (.isub, 1) := by decide +kernel
theorem dJ7_copyOfRangeByte_39247_23 : decode cJ7_copyOfRangeByte_39247 23 = .ok (.iload_n 3, 1) := by decide +kernel
theorem dJ7_copyOfRangeByte_39247_24 : decode cJ7_copyOfRangeByte_39247 24 = .ok (.invokestatic 304, 3) := by decide +kernel
theorem dJ7_copyOfRangeByte_39247_27 : decode cJ7_copyOfRangeByte_39247 27 = .ok (.invokestatic 150, 3) := by decide +kernel
theorem dJ7_copyOfRangeByte_39247_30 : decode cJ7_copyOfRangeByte_39247 30 = .ok (.aload 4, 2) := by decide +kernel
theorem dJ7_copyOfRangeByte_39247_32 : decode cJ7_copyOfRangeByte_39247 32 = .ok (.areturn, 1) := by decide +kernel
theorem dJ7_copyOfRange_39247_0 : decode cJ7_copyOfRange_39247 0 = .ok (.iload_n 1, 1) := by decide +kernel
theorem dJ7_copyOfRange_39247_1 : decode cJ7_copyOfRange_39247 1 = .ok (.ifCond .ne 9, 3) := by decide +kernel
theorem dJ7_copyOfRange_39247_4 : decode cJ7_copyOfRange_39247 4 = .ok (.iload_n 2, 1) := by decide +kernel
theorem dJ7_copyOfRange_39247_5 : decode cJ7_copyOfRange_39247 5 = .ok (.aload_n 0, 1) := by decide +kernel
theorem dJ7_copyOfRange_39247_6 : decode cJ7_copyOfRange_39247 6 = .ok (.arraylength, 1) := by decide +kernel
theorem dJ7_copyOfRange_39247_7 : decode cJ7_copyOfRange_39247 7 = .ok (.if_icmp .eq 10, 3) := by decide +kernel
theorem dJ7_copyOfRange_39247_10 : decode cJ7_copyOfRange_39247 10 = .ok (.aload_n 0, 1) := by decide +kernel
theorem dJ7_copyOfRange_39247_11 : decode cJ7_copyOfRange_39247 11 = .ok (.iload_n 1, 1) := by decide +kernel
theorem dJ7_copyOfRange_39247_12 : decode cJ7_copyOfRange_39247 12 = .ok (.iload_n 2, 1) := by decide +kernel
theorem dJ7_copyOfRange_39247_13 : decode cJ7_copyOfRange_39247 13 = .ok (.invokestatic 339, 3) := by decide +kernel
theorem dJ7_copyOfRange_39247_16 : decode cJ7_copyOfRange_39247 16 = .ok (.areturn, 1) := by decide +kernel
set_option maxHeartbeats 1000000 in
set_option maxRecDepth 100000 in
theorem zs_ckLen (l : Launch) {y : Int32} {h0 : Heap} (hy : 0 ≤ y) : Met l yJ7_checkLength_df160 (.code yJ7_checkLength_df160 cJ7_checkLength_df160 2 none :: zj_gw) (mj_rm 0 (0) (0)) (va_Pc [.int 0, .int y] (fun U => U.heap = h0 ∧ zs_0 U)) (va_Qv (fun (_ : Unit) => True) (fun _ t => t.heap = h0) zj_nn) (0) (0) (zj_nn) := by
  refine Met.ofW (cc := cJ7_checkLength_df160) (maxL := 2) (ret := none) (by decide) rfl ?_
  intro p e s m args below meth c s₁ B hml hv
  obtain ⟨rfl, rfl, -⟩ := hv
  have hx := B.exec
  have hb := B.bytes
  have hr := B.returns
  have hts := atoms_spec (ws := .code yJ7_checkLength_df160 cJ7_checkLength_df160 2 none :: zj_gw) B.pre
  have hown : s.vm.findClass RJ7 = some m.cls := findClass_of_methodNamed B.named
  have hlocks := B.notSynchronized
  have hS : va_S zj_nn s.heap s.heap [] := va_S.rf
  have hl := lv_entry ([.int 0, .int y]) (n := 2) (Nat.le_of_ble_eq_true rfl)
  rw [lg_entry_eq]
  generalize (lg_sl ([.int 0, .int y]) ++ List.replicate (2 - (lg_sl ([.int 0, .int y])).length) Slot.unset).toArray = ls at hl ⊢
  have hl : lv_has ls 2 [(0, .int 0), (1, .int y)] := hl
  refine lv_iload_n hx hb dJ7_checkLength_df160_0 rfl (lv_at hl 1 rfl) ?_
  refine lv_iload_n hx hb dJ7_checkLength_df160_1 rfl (lv_at hl 0 rfl) ?_
  refine lv_icmp_ge (tgt := 37) hx hb dJ7_checkLength_df160_2 (by decide) (fun _ => ?_) (fun c_ => (c_ (hy)).elim)
  exact W.vret hx hb hr (fun t ht hW => ⟨⟨(), rfl, trivial, ht⟩, hS.F ht⟩) hS.2.2 dJ7_checkLength_df160_37
set_option maxHeartbeats 1000000 in
set_option maxRecDepth 100000 in
/-- Arrays.copyOfRangeByte -/
theorem zs_corb (l : Launch) {D : va_G} {sz : Nat} {cB : ClassId} {a cap k : Nat} {f : Nat → Int32} (hf : sb_Fit f) (hk31 : k < 2 ^ 31) (hc31 : cap < 2 ^ 31) (hlt : Int32.ofNat k < Int32.ofNat cap) (hle : k ≤ cap) (hb9 : k * 1 ≤ 536870912)  : Met l yJ7_copyOfRangeByte_39247 (.code yJ7_copyOfRangeByte_39247 cJ7_copyOfRangeByte_39247 5 (some (.array .byte)) :: zj_gw) (mj_rm 1 (1) (k)) (va_Pc [.ref a, .int 0, .int (Int32.ofNat k)] (fun U => U.heap.size = sz ∧ va_P D zj_cl [(a, .inl (cB, cap, .inl f))] U.heap ∧ va_K D zj_cl [(cB, .byte)] U ∧ va_D (fun _ => True) [(a, .inl (cB, cap, .inl f))])) (va_Qr (fun (_ : Unit) => True) (fun _ ra t => (va_P D zj_cl [(a, .inl (cB, cap, .inl f)), (ra, .inl (cB, k, .inl (va_cpy f (fun _ => 0) 0 0 k)))] t.heap ∧ va_K D zj_cl [(cB, .byte)] t) ∧ va_D (va_A [(a, .inl (cB, cap, .inl f))] sz) [(a, .inl (cB, cap, .inl f)), (ra, .inl (cB, k, .inl (va_cpy f (fun _ => 0) 0 0 k)))]) (va_A [(a, .inl (cB, cap, .inl f))] sz)) (1) (k) ((va_A [(a, .inl (cB, cap, .inl f))] sz)) := by
  refine Met.ofW (cc := cJ7_copyOfRangeByte_39247) (maxL := 5) (ret := some (.array .byte)) (by decide) rfl ?_
  intro p e s m args below meth c s₁ B hml hv
  obtain ⟨rfl, hsz, hP, hK, hD0⟩ := hv
  have hx := B.exec
  have hb := B.bytes
  have hr := B.returns
  have hts := atoms_spec (ws := .code yJ7_copyOfRangeByte_39247 cJ7_copyOfRangeByte_39247 5 (some (.array .byte)) :: zj_gw) B.pre
  have hown : s.vm.findClass RJ7 = some m.cls := findClass_of_methodNamed B.named
  have hlocks := B.notSynchronized
  subst hsz
  have hD := hD0.self (sz := s.heap.size)
  generalize hAe : va_A [(a, .inl (cB, cap, .inl f))] s.heap.size = A at hD  ⊢
  have hA : ∀ q : Nat, s.heap.size ≤ q → A q := fun q h => by rw [← hAe]; exact Or.inr h
  have hS : va_S A s.heap s.heap [] := va_S.rf
  have hP : va_P D zj_cl [(a, .inl (cB, cap, .inl f))] s.heap := hP
  have hK : va_K D zj_cl [(cB, .byte)] s := hK
  have hl := lv_entry ([.ref a, .int 0, .int (Int32.ofNat k)]) (n := 5) (Nat.le_of_ble_eq_true rfl)
  rw [lg_entry_eq]
  generalize (lg_sl ([.ref a, .int 0, .int (Int32.ofNat k)]) ++ List.replicate (5 - (lg_sl ([.ref a, .int 0, .int (Int32.ofNat k)])).length) Slot.unset).toArray = ls at hl ⊢
  have hl : lv_has ls 5 [(0, .ref a), (1, .int 0), (2, .int (Int32.ofNat k))] := hl
  refine lv_iload_n hx hb dJ7_copyOfRangeByte_39247_0 rfl (lv_at hl 1 rfl) ?_
  refine lv_iload_n hx hb dJ7_copyOfRangeByte_39247_1 rfl (lv_at hl 2 rfl) ?_
  refine va_callv (va_runS (As := [.int 0, .int (Int32.ofNat k)]) (rest := []) ⟨hx, hb, hml, hown, hts⟩ (zs_ckLen l (Int32.not_lt.mp (nI_pos hk31))) (va_cwS (own := RJ7) 2 hts (zj_good (zj_S (zj_m (q := 7101) (by decide +kernel) rfl) (zj_m (q := 7102) (by decide +kernel) rfl) (zj_m (q := 1019) (by decide +kernel) rfl) (zj_m (q := 7103) (by decide +kernel) rfl))) rfl rfl rfl (by decide +kernel) ⟨Nat.le_of_ble_eq_true rfl, Nat.le_of_ble_eq_true rfl⟩) ⟨fun a U g mk q => ⟨q.1, q.2.1, zs_0.moved (u := U) (U := U.calling g mk a) (Vm.Alike.refl U.vm) q.2.2⟩, fun U hU hW => ⟨rfl, hU, by (try rw [hU]); exact zs_0.moved hW.alike (show zs_0 s from trivial)⟩⟩ rfl rfl hl.1 rfl (lv_room (Nat.le_of_ble_eq_true rfl)) dJ7_copyOfRangeByte_39247_2 ⟨Nat.zero_le _, Nat.zero_le _⟩) hS (fun _ _ h => h.elim) (fun _ h => h.elim) (fun u_ t_ H1 locs1 ht hvm hw hB hz1 hk1 hS => ?_)
  obtain rfl : H1 = s.heap := ht.symm.trans hB
  refine lv_iload_n hx hb dJ7_copyOfRangeByte_39247_5 rfl (lv_at hl 2 rfl) ?_
  refine lv_iload_n hx hb dJ7_copyOfRangeByte_39247_6 rfl (lv_at hl 1 rfl) ?_
  refine lv_isub hx hb dJ7_copyOfRangeByte_39247_7 ?_
  refine zj_top (y := Int32.ofNat k) (Int32.sub_zero _) ?_
  refine lv_istore_n (lv' := [(3, .int (Int32.ofNat k)), (0, .ref a), (1, .int 0), (2, .int (Int32.ofNat k))]) hx hb dJ7_copyOfRangeByte_39247_8 rfl hl (by decide) rfl (fun ls hl => ?_)
  refine lv_iload_n hx hb dJ7_copyOfRangeByte_39247_9 rfl (lv_at hl 0 rfl) ?_
  refine va_newa (atype := .byte) (a0 := (k, .inl (fun _ => 0))) (N' := k) hx hb (hts _ (zj_t (q := 3057) (by decide +kernel) rfl)) rfl hK hP hD hS hA (fun _ => rfl) (nI_pos hk31) (nI_clamp hk31) (hb9) (Nat.le_of_ble_eq_true rfl) (by exact Nat.le_of_eq (Nat.zero_add _)) dJ7_copyOfRangeByte_39247_10 (fun ra cB2 H hK hP hD hS => ?_)
  obtain rfl : cB = cB2 := zj_same hK
  have hK : va_K D zj_cl [(cB, .byte)] s := hK.sub (tys' := [(cB, .byte)]) [0] rfl
  have hP : va_P D zj_cl [(a, .inl (cB, cap, .inl f)), (ra, .inl (cB, k, .inl (fun _ => 0)))] H := hP
  have hD : va_D A [(a, .inl (cB, cap, .inl f)), (ra, .inl (cB, k, .inl (fun _ => 0)))] := hD
  refine lv_astore (lv' := [(4, .ref ra), (3, .int (Int32.ofNat k)), (0, .ref a), (1, .int 0), (2, .int (Int32.ofNat k))]) hx hb dJ7_copyOfRangeByte_39247_12 hl (by decide) rfl (fun ls hl => ?_)
  refine lv_aload_n hx hb dJ7_copyOfRangeByte_39247_14 rfl (lv_at hl 2 rfl) ?_
  refine lv_iload_n hx hb dJ7_copyOfRangeByte_39247_15 rfl (lv_at hl 3 rfl) ?_
  refine lv_aload hx hb dJ7_copyOfRangeByte_39247_16 (lv_at hl 0 rfl) ?_
  refine lv_iconst (v := 0) hx hb dJ7_copyOfRangeByte_39247_18 (by decide) ?_
  refine lv_aload_n hx hb dJ7_copyOfRangeByte_39247_19 rfl (lv_at hl 2 rfl) ?_
  refine va_alen hx hb hK hP 0 0 rfl (ty := .byte) rfl (v := Int32.ofNat cap) rfl dJ7_copyOfRangeByte_39247_20 ?_
  refine lv_iload_n hx hb dJ7_copyOfRangeByte_39247_21 rfl (lv_at hl 3 rfl) ?_
  refine lv_isub hx hb dJ7_copyOfRangeByte_39247_22 ?_
  refine zj_top (y := Int32.ofNat cap) (Int32.sub_zero _) ?_
  refine lv_iload_n hx hb dJ7_copyOfRangeByte_39247_23 rfl (lv_at hl 1 rfl) ?_
  refine va_mmin hx hb (hml.trans hl.1.symm) hown (hts _ (zj_t (q := 6226) (by decide +kernel) rfl)) (hts _ (List.mem_cons_of_mem _ (List.mem_append_right _ (mj_gw_of mj_x_smin rfl)))) (hts _ (List.mem_cons_of_mem _ (List.mem_append_right _ (mj_gw_of mj_x_math rfl)))) (hts _ (List.mem_cons_of_mem _ (List.mem_append_right _ (mj_gw_of mj_x_cmin rfl)))) (Nat.le_of_ble_eq_true rfl) (Nat.le_of_ble_eq_true rfl) (Nat.le_of_ble_eq_true rfl) (by exact Nat.le_of_eq (Nat.zero_add _)) dJ7_copyOfRangeByte_39247_24 ?_
  refine zj_top (y := Int32.ofNat k) (if_pos hlt) ?_
  have hcl : (Int32.ofNat k).toNatClampNeg = k := nI_clamp hk31
  refine va_copyi hx hb (hml.trans hl.1.symm) hown (hts _ (zj_t (q := 6227) (by decide +kernel) rfl)) (hts _ (zj_t (q := 3192) (by decide +kernel) rfl)) (hts _ (zj_t (q := 3191) (by decide +kernel) rfl)) (hts _ (zj_t (q := 1018) (by decide +kernel) rfl)) hK hP hD hS 0 1 0 0 rfl rfl rfl rfl rfl (by decide) (by decide) (nI_pos hk31) (by rw [hcl, sb_cl0, Nat.zero_add]; exact hle) (by rw [hcl, sb_cl0, Nat.zero_add]; exact Nat.le_refl _) (fun i _ => hf _) (Nat.le_of_ble_eq_true rfl) (Nat.le_of_ble_eq_true rfl) dJ7_copyOfRangeByte_39247_27 (fun H locs hP hD hS => ?_)
  rw [hcl, sb_cl0] at hP hD
  have hP : va_P D zj_cl [(a, .inl (cB, cap, .inl f)), (ra, .inl (cB, k, .inl (va_cpy f (fun _ => 0) 0 0 k)))] H := hP
  have hD : va_D A [(a, .inl (cB, cap, .inl f)), (ra, .inl (cB, k, .inl (va_cpy f (fun _ => 0) 0 0 k)))] := hD
  refine lv_aload hx hb dJ7_copyOfRangeByte_39247_30 (lv_at hl 0 rfl) ?_
  refine W.widen (k := 1) (n := k) (by omega) (by omega) ?_
  exact W.aret (v := .ref ra) (rt := .array .byte) hx hb hr (Or.inr ⟨_, rfl⟩) (Or.inr ⟨_, rfl⟩) (fun t ht hW => ⟨⟨(), ra, rfl, trivial, ⟨by rw [ht]; exact hP, va_K.moved hW.alike hK⟩, hD⟩, hS.F ht⟩) hS.2.2 dJ7_copyOfRangeByte_39247_32
set_option maxHeartbeats 1000000 in
set_option maxRecDepth 100000 in
/-- Arrays.copyOfRange -/
theorem zs_cor (l : Launch) {D : va_G} {sz : Nat} {cB : ClassId} {a cap k : Nat} {f : Nat → Int32} (hf : sb_Fit f) (hk31 : k < 2 ^ 31) (hc31 : cap < 2 ^ 31) (hlt : Int32.ofNat k < Int32.ofNat cap) (hle : k ≤ cap) (hb9 : k * 1 ≤ 536870912) (hne : ¬ Int32.ofNat k = Int32.ofNat cap) : Met l yJ7_copyOfRange_39247 (.code yJ7_copyOfRange_39247 cJ7_copyOfRange_39247 3 (some (.array .byte)) :: zj_gw) (mj_rm 2 (1) (k)) (va_Pc [.ref a, .int 0, .int (Int32.ofNat k)] (fun U => U.heap.size = sz ∧ va_P D zj_cl [(a, .inl (cB, cap, .inl f))] U.heap ∧ va_K D zj_cl [(cB, .byte)] U ∧ va_D (fun _ => True) [(a, .inl (cB, cap, .inl f))])) (va_Qr (fun (_ : Unit) => True) (fun _ ra t => (va_P D zj_cl [(a, .inl (cB, cap, .inl f)), (ra, .inl (cB, k, .inl (va_cpy f (fun _ => 0) 0 0 k)))] t.heap ∧ va_K D zj_cl [(cB, .byte)] t) ∧ va_D (va_A [(a, .inl (cB, cap, .inl f))] sz) [(a, .inl (cB, cap, .inl f)), (ra, .inl (cB, k, .inl (va_cpy f (fun _ => 0) 0 0 k)))]) (va_A [(a, .inl (cB, cap, .inl f))] sz)) (1) (k) ((va_A [(a, .inl (cB, cap, .inl f))] sz)) := by
  refine Met.ofW (cc := cJ7_copyOfRange_39247) (maxL := 3) (ret := some (.array .byte)) (by decide) rfl ?_
  intro p e s m args below meth c s₁ B hml hv
  obtain ⟨rfl, hsz, hP, hK, hD0⟩ := hv
  have hx := B.exec
  have hb := B.bytes
  have hr := B.returns
  have hts := atoms_spec (ws := .code yJ7_copyOfRange_39247 cJ7_copyOfRange_39247 3 (some (.array .byte)) :: zj_gw) B.pre
  have hown : s.vm.findClass RJ7 = some m.cls := findClass_of_methodNamed B.named
  have hlocks := B.notSynchronized
  subst hsz
  have hD := hD0.self (sz := s.heap.size)
  generalize hAe : va_A [(a, .inl (cB, cap, .inl f))] s.heap.size = A at hD  ⊢
  have hA : ∀ q : Nat, s.heap.size ≤ q → A q := fun q h => by rw [← hAe]; exact Or.inr h
  have hS : va_S A s.heap s.heap [] := va_S.rf
  have hP : va_P D zj_cl [(a, .inl (cB, cap, .inl f))] s.heap := hP
  have hK : va_K D zj_cl [(cB, .byte)] s := hK
  have hl := lv_entry ([.ref a, .int 0, .int (Int32.ofNat k)]) (n := 3) (Nat.le_of_ble_eq_true rfl)
  rw [lg_entry_eq]
  generalize (lg_sl ([.ref a, .int 0, .int (Int32.ofNat k)]) ++ List.replicate (3 - (lg_sl ([.ref a, .int 0, .int (Int32.ofNat k)])).length) Slot.unset).toArray = ls at hl ⊢
  have hl : lv_has ls 3 [(0, .ref a), (1, .int 0), (2, .int (Int32.ofNat k))] := hl
  refine lv_iload_n hx hb dJ7_copyOfRange_39247_0 rfl (lv_at hl 1 rfl) ?_
  refine lv_if_ne (tgt := 10) hx hb dJ7_copyOfRange_39247_1 (by decide) (fun c_ => (c_ (rfl)).elim) (fun _ => ?_)
  refine lv_iload_n hx hb dJ7_copyOfRange_39247_4 rfl (lv_at hl 2 rfl) ?_
  refine lv_aload_n hx hb dJ7_copyOfRange_39247_5 rfl (lv_at hl 0 rfl) ?_
  refine va_alen hx hb hK hP 0 0 rfl (ty := .byte) rfl (v := Int32.ofNat cap) rfl dJ7_copyOfRange_39247_6 ?_
  refine lv_icmp_eq (tgt := 17) hx hb dJ7_copyOfRange_39247_7 (by decide) (fun c_ => absurd c_ (hne)) (fun _ => ?_)
  refine lv_aload_n hx hb dJ7_copyOfRange_39247_10 rfl (lv_at hl 0 rfl) ?_
  refine lv_iload_n hx hb dJ7_copyOfRange_39247_11 rfl (lv_at hl 1 rfl) ?_
  refine lv_iload_n hx hb dJ7_copyOfRange_39247_12 rfl (lv_at hl 2 rfl) ?_
  have hPc := hP.sub (ws' := [(a, .inl (cB, cap, .inl f))]) [0] rfl
  have hDc := hD.sub (ws' := [(a, .inl (cB, cap, .inl f))]) [0] (by decide) rfl
  have hFc := va_free (wc := [(a, .inl (cB, cap, .inl f))]) hD hS hA [0] rfl
  refine va_callr (va_runS (As := [.ref a, .int 0, .int (Int32.ofNat k)]) (rest := []) ⟨hx, hb, hml, hown, hts⟩ (zs_corb l (sz := s.heap.size) (cB := cB) (cap := cap) (k := k) (f := f) hf hk31 hc31 hlt hle hb9) (va_cwS (own := RJ7) 3 hts (zj_good (zj_S (own := RJ7) (zj_m (q := 7098) (by decide +kernel) rfl) (zj_m (q := 7099) (by decide +kernel) rfl) (zj_m (q := 1019) (by decide +kernel) rfl) (zj_m (q := 7100) (by decide +kernel) rfl))) rfl rfl rfl (by decide +kernel) ⟨Nat.le_of_ble_eq_true rfl, Nat.le_of_ble_eq_true rfl⟩) ⟨fun a U g mk q => ⟨q.1, q.2.1, q.2.2.1, va_K.moved (u := U) (U := U.calling g mk a) (Vm.Alike.refl U.vm) q.2.2.2.1, q.2.2.2.2⟩, fun U hU hW => ⟨rfl, by rw [hU], by rw [hU]; exact hPc, va_K.moved hW.alike hK, hDc.weaken (fun _ _ _ _ => trivial)⟩⟩ rfl rfl hl.1 rfl (lv_room (Nat.le_of_ble_eq_true rfl)) dJ7_copyOfRange_39247_13 ⟨Nat.le_of_ble_eq_true rfl, by exact Nat.le_of_eq (Nat.zero_add _)⟩) hS (fun q _ h => hFc q h) hFc (fun u_ ra t_ H1 locs ht hvm hw hB hz1 hk1 hS => ?_)
  obtain ⟨⟨hP1, hK1⟩, hD1⟩ := hB
  rw [ht] at hP1
  obtain ⟨hP, hD⟩ := va_join (wr := []) (w1 := [(a, .inl (cB, cap, .inl f)), (ra, .inl (cB, k, .inl (va_cpy f (fun _ => 0) 0 0 k)))]) hP hD [0] [] rfl rfl (by decide) (by decide) hk1 hFc hP1 hD1
  generalize H1 = H at hP hS ⊢
  have hP : va_P D zj_cl [(a, .inl (cB, cap, .inl f)), (ra, .inl (cB, k, .inl (va_cpy f (fun _ => 0) 0 0 k)))] H := hP
  have hD : va_D A [(a, .inl (cB, cap, .inl f)), (ra, .inl (cB, k, .inl (va_cpy f (fun _ => 0) 0 0 k)))] := hD
  refine W.widen (k := 1) (n := k) (by omega) (by omega) ?_
  exact W.aret (v := .ref ra) (rt := .array .byte) hx hb hr (Or.inr ⟨_, rfl⟩) (Or.inr ⟨_, rfl⟩) (fun t ht hW => ⟨⟨(), ra, rfl, trivial, ⟨by rw [ht]; exact hP, va_K.moved hW.alike hK⟩, hD⟩, hS.F ht⟩) hS.2.2 dJ7_copyOfRange_39247_16
set_option maxHeartbeats 1000000 in
set_option maxRecDepth 100000 in
theorem zs_bLen (l : Launch) {D : va_G} {cB : ClassId} {b a cap : Nat} {f : Nat → Int32} {ml cnt : Int32} {h0 : Heap}  : Met l yJ4_length_8abf5 (.code yJ4_length_8abf5 cJ4_length_8abf5 1 (some .int) :: zj_gw) (mj_rm 1 (0) (0)) (va_Pc [.ref b] (fun U => U.heap = h0 ∧ zs_W D [(b, .inr (0, [.ref a, .int 0, .int ml, .int cnt])), (a, .inl (cB, cap, .inl f))] [(cB, .byte)] U U.heap)) (va_Qi (fun (r : Int32) (_ : Unit) => r = cnt) (fun _ t => t.heap = h0) zj_nn) (0) (0) (zj_nn) := by
  refine Met.ofW (cc := cJ4_length_8abf5) (maxL := 1) (ret := some .int) (by decide) rfl ?_
  intro p e s m args below meth c s₁ B hml hv
  obtain ⟨rfl, rfl, hW⟩ := hv
  have hx := B.exec
  have hb := B.bytes
  have hr := B.returns
  have hts := atoms_spec (ws := .code yJ4_length_8abf5 cJ4_length_8abf5 1 (some .int) :: zj_gw) B.pre
  have hown : s.vm.findClass RJ4 = some m.cls := findClass_of_methodNamed B.named
  have hlocks := B.notSynchronized
  have hS : va_S zj_nn s.heap s.heap [] := va_S.rf
  have hP : va_P D zj_cl [(b, .inr (0, [.ref a, .int 0, .int ml, .int cnt])), (a, .inl (cB, cap, .inl f))] s.heap := hW.1
  have hK : va_K D zj_cl [(cB, .byte)] s := hW.2
  have hl := lv_entry ([.ref b]) (n := 1) (Nat.le_of_ble_eq_true rfl)
  rw [lg_entry_eq]
  generalize (lg_sl ([.ref b]) ++ List.replicate (1 - (lg_sl ([.ref b])).length) Slot.unset).toArray = ls at hl ⊢
  have hl : lv_has ls 1 [(0, .ref b)] := hl
  refine lv_aload_n hx hb dJ4_length_8abf5_0 rfl (lv_at hl 0 rfl) ?_
  refine va_calli (va_runSU (As := []) (rest := []) (hK.1 0 _ rfl).2 ⟨hx, hb, hml, hown, hts⟩ (zs_aLen l) (va_cwSU 0 hts (zj_good (zj_SU (own := RJ4) (y := yJ5_length_8abf5) (zj_m (q := 7092) (by decide +kernel) rfl) (zj_m (q := 7088) (by decide +kernel) rfl) (zj_m (q := 6187) (by decide +kernel) rfl) (zj_m (q := 7087) (by decide +kernel) rfl) (zj_m (q := 1023) (by decide +kernel) rfl) (zj_m (q := 7093) (by decide +kernel) rfl))) rfl rfl rfl (by decide +kernel) ⟨Nat.le_of_ble_eq_true rfl, Nat.le_of_ble_eq_true rfl⟩) ⟨fun a U g mk q => ⟨q.1, q.2.1, zs_W.moved (u := U) (U := U.calling g mk a) (Vm.Alike.refl U.vm) q.2.2⟩, va_recv hK hP (ci := 0) (q0 := 0) rfl rfl, fun U hU hW => ⟨rfl, hU, by (try rw [hU]); exact zs_W.moved hW.alike (show zs_W D [(b, .inr (0, [.ref a, .int 0, .int ml, .int cnt])), (a, .inl (cB, cap, .inl f))] [(cB, .byte)] s s.heap from ⟨hP, hK⟩)⟩⟩ rfl rfl hl.1 rfl (lv_room (Nat.le_of_ble_eq_true rfl)) dJ4_length_8abf5_1 ⟨Nat.zero_le _, Nat.zero_le _⟩) hS (fun _ _ h => h.elim) (fun _ h => h.elim) (fun r_ u_ t_ H1 locs1 ht hvm hw hB hz1 hk1 hS => ?_)
  obtain rfl : H1 = s.heap := ht.symm.trans hB
  rw [hw]
  exact W.iret (v := cnt) hx hb hr (fun t ht hW => ⟨⟨cnt, (), rfl, rfl, ht⟩, hS.F ht⟩) hS.2.2 dJ4_length_8abf5_4
set_option maxHeartbeats 1000000 in
set_option maxRecDepth 100000 in
theorem zs_sinit2 (l : Launch) {D : va_G} {sz : Nat} {cB : ClassId} {b a cap k q : Nat} {f : Nat → Int32} {ml : Int32} (hf : sb_Fit f) (hk31 : k < 2 ^ 31) (hc31 : cap < 2 ^ 31) (hlt : Int32.ofNat k < Int32.ofNat cap) (hle : k ≤ cap) (hb9 : k * 1 ≤ 536870912) (hne : ¬ Int32.ofNat k = Int32.ofNat cap)  : Met l yJ0_init_db425 (.code yJ0_init_db425 cJ0_init_db425 5 none :: zj_gw) (mj_rm 3 (1) (k)) (va_Pc [.ref q, .ref b, .null] (fun U => U.heap.size = sz ∧ va_P D zj_cl [(b, .inr (0, [.ref a, .int 0, .int ml, .int (Int32.ofNat k)])), (a, .inl (cB, cap, .inl f)), (q, .inr (1, [.null, .int 0, .int 0, .int 0]))] U.heap ∧ va_K D zj_cl [(cB, .byte)] U ∧ va_D (fun _ => True) [(b, .inr (0, [.ref a, .int 0, .int ml, .int (Int32.ofNat k)])), (a, .inl (cB, cap, .inl f)), (q, .inr (1, [.null, .int 0, .int 0, .int 0]))] ∧ zs_C (va_A [(b, .inr (0, [.ref a, .int 0, .int ml, .int (Int32.ofNat k)])), (a, .inl (cB, cap, .inl f)), (q, .inr (1, [.null, .int 0, .int 0, .int 0]))] sz) U U.heap)) (va_Qv (fun (_ : Nat) => True) (fun ra t => (va_P D zj_cl [(b, .inr (0, [.ref a, .int 0, .int ml, .int (Int32.ofNat k)])), (a, .inl (cB, cap, .inl f)), (q, .inr (1, [.ref ra, .int 0, .int 0, .int 0])), (ra, .inl (cB, k, .inl (va_cpy f (fun _ => 0) 0 0 k)))] t.heap ∧ va_K D zj_cl [(cB, .byte)] t) ∧ va_D (va_A [(b, .inr (0, [.ref a, .int 0, .int ml, .int (Int32.ofNat k)])), (a, .inl (cB, cap, .inl f)), (q, .inr (1, [.null, .int 0, .int 0, .int 0]))] sz) [(b, .inr (0, [.ref a, .int 0, .int ml, .int (Int32.ofNat k)])), (a, .inl (cB, cap, .inl f)), (q, .inr (1, [.ref ra, .int 0, .int 0, .int 0])), (ra, .inl (cB, k, .inl (va_cpy f (fun _ => 0) 0 0 k)))]) (va_A [(b, .inr (0, [.ref a, .int 0, .int ml, .int (Int32.ofNat k)])), (a, .inl (cB, cap, .inl f)), (q, .inr (1, [.null, .int 0, .int 0, .int 0]))] sz)) (1) (k) ((va_A [(b, .inr (0, [.ref a, .int 0, .int ml, .int (Int32.ofNat k)])), (a, .inl (cB, cap, .inl f)), (q, .inr (1, [.null, .int 0, .int 0, .int 0]))] sz)) := by
  refine Met.ofW (cc := cJ0_init_db425) (maxL := 5) (ret := none) (by decide) rfl ?_
  intro p e s m args below meth c s₁ B hml hv
  obtain ⟨rfl, hsz, hP, hK, hD0, hC⟩ := hv
  have hx := B.exec
  have hb := B.bytes
  have hr := B.returns
  have hts := atoms_spec (ws := .code yJ0_init_db425 cJ0_init_db425 5 none :: zj_gw) B.pre
  have hown : s.vm.findClass RJ0 = some m.cls := findClass_of_methodNamed B.named
  have hlocks := B.notSynchronized
  have hin : meth.name = "<init>" := (name_of_methodNamed B.named B.method).1
  subst hsz
  have hD := hD0.self (sz := s.heap.size)
  generalize hAe : va_A [(b, .inr (0, [.ref a, .int 0, .int ml, .int (Int32.ofNat k)])), (a, .inl (cB, cap, .inl f)), (q, .inr (1, [.null, .int 0, .int 0, .int 0]))] s.heap.size = A at hD hC ⊢
  have hA : ∀ q : Nat, s.heap.size ≤ q → A q := fun q h => by rw [← hAe]; exact Or.inr h
  have hS : va_S A s.heap s.heap [] := va_S.rf
  have hP : va_P D zj_cl [(b, .inr (0, [.ref a, .int 0, .int ml, .int (Int32.ofNat k)])), (a, .inl (cB, cap, .inl f)), (q, .inr (1, [.null, .int 0, .int 0, .int 0]))] s.heap := hP
  have hK : va_K D zj_cl [(cB, .byte)] s := hK
  have hl := lv_entry ([.ref q, .ref b, .null]) (n := 5) (Nat.le_of_ble_eq_true rfl)
  rw [lg_entry_eq]
  generalize (lg_sl ([.ref q, .ref b, .null]) ++ List.replicate (5 - (lg_sl ([.ref q, .ref b, .null])).length) Slot.unset).toArray = ls at hl ⊢
  have hl : lv_has ls 5 [(0, .ref q), (1, .ref b), (2, .null)] := hl
  refine lv_aload_n hx hb dJ0_init_db425_0 rfl (lv_at hl 0 rfl) ?_
  refine W.objInit hx hb hown (hts _ (zj_t (q := 7080) (by decide +kernel) rfl)) (hts _ (zj_t (q := 1037) (by decide +kernel) rfl)) (hts _ (zj_t (q := 1038) (by decide +kernel) rfl)) rfl (by rw [hml]; exact hl.1) rfl dJ0_init_db425_1 (Nat.le_of_ble_eq_true rfl) (Nat.le_of_ble_eq_true rfl) ?_
  refine W.eq (g2 := F0 m 4 ls []) rfl ?_
  refine lv_aload_n hx hb dJ0_init_db425_4 rfl (lv_at hl 1 rfl) ?_
  refine va_callr (va_runU (As := []) (rest := []) ⟨hx, hb, hml, hown, hts⟩ (zs_value l) (va_cwU 0 hts (zj_good (zj_U (own := RJ0) (C := RJ4) (owner := RJ5) (x' := yJ5_getValue_6d5f1) (zj_m (q := 7081) (by decide +kernel) rfl) (zj_m (q := 7083) (by decide +kernel) rfl) (zj_m (q := 7084) (by decide +kernel) rfl) (zj_m (q := 7082) (by decide +kernel) rfl) (zj_m (q := 1023) (by decide +kernel) rfl) (zj_m (q := 7085) (by decide +kernel) rfl))) rfl rfl rfl rfl (by decide +kernel) ⟨Nat.le_of_ble_eq_true rfl, Nat.le_of_ble_eq_true rfl⟩) ⟨fun a U g mk q => ⟨q.1, q.2.1, zs_W.moved (u := U) (U := U.calling g mk a) (Vm.Alike.refl U.vm) q.2.2⟩, va_recv hK hP (ci := 0) (q0 := 0) rfl rfl, fun U hU hW => ⟨rfl, hU, by (try rw [hU]); exact zs_W.moved hW.alike (show zs_W D [(b, .inr (0, [.ref a, .int 0, .int ml, .int (Int32.ofNat k)])), (a, .inl (cB, cap, .inl f))] [(cB, .byte)] s s.heap from ⟨hP.sub (ws' := [(b, .inr (0, [.ref a, .int 0, .int ml, .int (Int32.ofNat k)])), (a, .inl (cB, cap, .inl f))]) [0, 1] rfl, hK⟩)⟩⟩ rfl rfl hl.1 rfl (lv_room (Nat.le_of_ble_eq_true rfl)) dJ0_init_db425_5 ⟨Nat.zero_le _, Nat.zero_le _⟩) hS (fun _ _ h => h.elim) (fun _ h => h.elim) (fun u_ ra t_ H1 locs1 ht hvm hw hB hz1 hk1 hS => ?_)
  obtain ⟨rfl, hB⟩ := hB
  obtain rfl : H1 = s.heap := ht.symm.trans hB
  refine lv_astore_n (lv' := [(3, .ref a), (0, .ref q), (1, .ref b), (2, .null)]) hx hb dJ0_init_db425_8 rfl hl (by decide) rfl (fun ls hl => ?_)
  refine lv_aload_n hx hb dJ0_init_db425_9 rfl (lv_at hl 2 rfl) ?_
  refine va_calli (va_runU (As := []) (rest := []) ⟨hx, hb, hml, hown, hts⟩ (zs_bLen l) (va_cwO 0 hts (zj_good (zj_O (own := RJ0) (C := RJ4) (owner := RJ5) (x' := yJ5_length_8abf5) (y := yJ4_length_8abf5) (zj_m (q := 7086) (by decide +kernel) rfl) (zj_m (q := 7088) (by decide +kernel) rfl) (zj_m (q := 7087) (by decide +kernel) rfl) (zj_m (q := 7089) (by decide +kernel) rfl) (zj_m (q := 7090) (by decide +kernel) rfl) (zj_m (q := 1024) (by decide +kernel) rfl) (zj_m (q := 7091) (by decide +kernel) rfl))) rfl rfl rfl (b0 := cJ5_length_8abf5) (m0 := 1) (r0 := some .int) (List.mem_cons_of_mem _ (zj_m (q := 7093) (by decide +kernel) rfl)) (by decide +kernel) ⟨Nat.le_of_ble_eq_true rfl, Nat.le_of_ble_eq_true rfl⟩) ⟨fun a U g mk q => ⟨q.1, q.2.1, zs_W.moved (u := U) (U := U.calling g mk a) (Vm.Alike.refl U.vm) q.2.2⟩, va_recv hK hP (ci := 0) (q0 := 0) rfl rfl, fun U hU hW => ⟨rfl, hU, by (try rw [hU]); exact zs_W.moved hW.alike (show zs_W D [(b, .inr (0, [.ref a, .int 0, .int ml, .int (Int32.ofNat k)])), (a, .inl (cB, cap, .inl f))] [(cB, .byte)] s s.heap from ⟨hP.sub (ws' := [(b, .inr (0, [.ref a, .int 0, .int ml, .int (Int32.ofNat k)])), (a, .inl (cB, cap, .inl f))]) [0, 1] rfl, hK⟩)⟩⟩ rfl rfl hl.1 rfl (lv_room (Nat.le_of_ble_eq_true rfl)) dJ0_init_db425_10 ⟨Nat.zero_le _, Nat.zero_le _⟩) hS (fun _ _ h => h.elim) (fun _ h => h.elim) (fun r_ u_ t_ H1 locs1 ht hvm hw hB hz1 hk1 hS => ?_)
  obtain rfl : H1 = s.heap := ht.symm.trans hB
  rw [hw]
  refine lv_istore (lv' := [(4, .int (Int32.ofNat k)), (3, .ref a), (0, .ref q), (1, .ref b), (2, .null)]) hx hb dJ0_init_db425_13 hl (by decide) rfl (fun ls hl => ?_)
  refine lv_aload_n hx hb dJ0_init_db425_15 rfl (lv_at hl 3 rfl) ?_
  refine va_calli (va_runU (As := []) (rest := []) ⟨hx, hb, hml, hown, hts⟩ (zs_bLatin l) (va_cwU 0 hts (zj_good (zj_U (own := RJ0) (C := RJ4) (owner := RJ5) (x' := yJ5_isLatin1_aae02) (zj_m (q := 7094) (by decide +kernel) rfl) (zj_m (q := 6230) (by decide +kernel) rfl) (zj_m (q := 6231) (by decide +kernel) rfl) (zj_m (q := 6229) (by decide +kernel) rfl) (zj_m (q := 1023) (by decide +kernel) rfl) (zj_m (q := 6232) (by decide +kernel) rfl))) rfl rfl rfl rfl (by decide +kernel) ⟨Nat.le_of_ble_eq_true rfl, Nat.le_of_ble_eq_true rfl⟩) ⟨fun a U g mk q => ⟨q.1, q.2.1, zs_C.moved (u := U) (U := U.calling g mk a) (Vm.Alike.refl U.vm) q.2.2.1, zs_W.moved (u := U) (U := U.calling g mk a) (Vm.Alike.refl U.vm) q.2.2.2⟩, va_recv hK hP (ci := 0) (q0 := 0) rfl rfl, fun U hU hW => ⟨rfl, hU, by (try rw [hU]); exact zs_C.moved hW.alike (hC.narrow (fun _ h => h.elim)), by (try rw [hU]); exact zs_W.moved hW.alike (show zs_W D [(b, .inr (0, [.ref a, .int 0, .int ml, .int (Int32.ofNat k)])), (a, .inl (cB, cap, .inl f))] [(cB, .byte)] s s.heap from ⟨hP.sub (ws' := [(b, .inr (0, [.ref a, .int 0, .int ml, .int (Int32.ofNat k)])), (a, .inl (cB, cap, .inl f))]) [0, 1] rfl, hK⟩)⟩⟩ rfl rfl hl.1 rfl (lv_room (Nat.le_of_ble_eq_true rfl)) dJ0_init_db425_16 ⟨Nat.zero_le _, Nat.zero_le _⟩) hS (fun _ _ h => h.elim) (fun _ h => h.elim) (fun r_ u_ t_ H1 locs1 ht hvm hw hB hz1 hk1 hS => ?_)
  obtain rfl : H1 = s.heap := ht.symm.trans hB
  rw [hw]
  refine lv_if_eq (tgt := 41) hx hb dJ0_init_db425_19 (by decide) (fun c_ => absurd c_ (by decide)) (fun _ => ?_)
  refine lv_aload_n hx hb dJ0_init_db425_22 rfl (lv_at hl 2 rfl) ?_
  refine lv_iconst (v := 0) hx hb dJ0_init_db425_23 (by decide) ?_
  refine va_putF (D := D) (ci := 1) (v := .int 0) (ty := .byte) (C := RJ0) (T := TJ0) (N := 4) hx hb hts zj_hs tyJ0 tyJ0_ok nmJ0 hown hK hP hD hS 2 rfl rfl 1 (by decide) (hts _ (zj_t (q := 7115) (by decide +kernel) rfl)) (fun _ h9 => h9) rfl hin rfl (by decide +kernel) rfl rfl (Nat.le_of_ble_eq_true rfl) dJ0_init_db425_24 (fun H locs hP hD hS => ?_)
  have hP : va_P D zj_cl [(b, .inr (0, [.ref a, .int 0, .int ml, .int (Int32.ofNat k)])), (a, .inl (cB, cap, .inl f)), (q, .inr (1, [.null, .int 0, .int 0, .int 0]))] H := hP
  have hD : va_D A [(b, .inr (0, [.ref a, .int 0, .int ml, .int (Int32.ofNat k)])), (a, .inl (cB, cap, .inl f)), (q, .inr (1, [.null, .int 0, .int 0, .int 0]))] := hD
  refine lv_aload_n hx hb dJ0_init_db425_27 rfl (lv_at hl 2 rfl) ?_
  refine lv_aload_n hx hb dJ0_init_db425_28 rfl (lv_at hl 1 rfl) ?_
  refine lv_iconst (v := 0) hx hb dJ0_init_db425_29 (by decide) ?_
  refine lv_iload hx hb dJ0_init_db425_30 (lv_at hl 0 rfl) ?_
  have hPc := hP.sub (ws' := [(a, .inl (cB, cap, .inl f))]) [1] rfl
  have hDc := hD.sub (ws' := [(a, .inl (cB, cap, .inl f))]) [1] (by decide) rfl
  have hFc := va_free (wc := [(a, .inl (cB, cap, .inl f))]) hD hS hA [1] rfl
  refine va_callr (va_runS (As := [.ref a, .int 0, .int (Int32.ofNat k)]) (rest := [.ref q]) ⟨hx, hb, hml, hown, hts⟩ (zs_cor l (sz := H.size) (cB := cB) (cap := cap) (k := k) (f := f) hf hk31 hc31 hlt hle hb9 hne) (va_cwS (own := RJ0) 3 hts (zj_good (zj_S (own := RJ0) (zj_m (q := 7095) (by decide +kernel) rfl) (zj_m (q := 7096) (by decide +kernel) rfl) (zj_m (q := 1019) (by decide +kernel) rfl) (zj_m (q := 7097) (by decide +kernel) rfl))) rfl rfl rfl (by decide +kernel) ⟨Nat.le_of_ble_eq_true rfl, Nat.le_of_ble_eq_true rfl⟩) ⟨fun a U g mk q => ⟨q.1, q.2.1, q.2.2.1, va_K.moved (u := U) (U := U.calling g mk a) (Vm.Alike.refl U.vm) q.2.2.2.1, q.2.2.2.2⟩, fun U hU hW => ⟨rfl, by rw [hU], by rw [hU]; exact hPc, va_K.moved hW.alike hK, hDc.weaken (fun _ _ _ _ => trivial)⟩⟩ rfl rfl hl.1 rfl (lv_room (Nat.le_of_ble_eq_true rfl)) dJ0_init_db425_32 ⟨Nat.le_of_ble_eq_true rfl, by exact Nat.le_of_eq (Nat.zero_add _)⟩) hS (fun q _ h => hFc q h) hFc (fun u_ ra t_ H1 locs ht hvm hw hB hz1 hk1 hS => ?_)
  obtain ⟨⟨hP1, hK1⟩, hD1⟩ := hB
  rw [ht] at hP1
  obtain ⟨hP, hD⟩ := va_join (wr := [(b, .inr (0, [.ref a, .int 0, .int ml, .int (Int32.ofNat k)])), (q, .inr (1, [.null, .int 0, .int 0, .int 0]))]) (w1 := [(a, .inl (cB, cap, .inl f)), (ra, .inl (cB, k, .inl (va_cpy f (fun _ => 0) 0 0 k)))]) hP hD [1] [0, 2] rfl rfl (by decide) (by decide) hk1 hFc hP1 hD1
  generalize H1 = H at hP hS ⊢
  have hP : va_P D zj_cl [(b, .inr (0, [.ref a, .int 0, .int ml, .int (Int32.ofNat k)])), (q, .inr (1, [.null, .int 0, .int 0, .int 0])), (a, .inl (cB, cap, .inl f)), (ra, .inl (cB, k, .inl (va_cpy f (fun _ => 0) 0 0 k)))] H := hP
  have hD : va_D A [(b, .inr (0, [.ref a, .int 0, .int ml, .int (Int32.ofNat k)])), (q, .inr (1, [.null, .int 0, .int 0, .int 0])), (a, .inl (cB, cap, .inl f)), (ra, .inl (cB, k, .inl (va_cpy f (fun _ => 0) 0 0 k)))] := hD
  refine va_putF (D := D) (ci := 1) (v := .ref ra) (ty := .array .byte) (C := RJ0) (T := TJ0) (N := 4) hx hb hts zj_hs tyJ0 tyJ0_ok nmJ0 hown hK hP hD hS 1 rfl rfl 0 (by decide) (hts _ (zj_t (q := 7114) (by decide +kernel) rfl)) (fun _ h9 => h9) rfl hin rfl (by decide +kernel) rfl rfl (Nat.le_of_ble_eq_true rfl) dJ0_init_db425_35 (fun H locs hP hD hS => ?_)
  have hP : va_P D zj_cl [(b, .inr (0, [.ref a, .int 0, .int ml, .int (Int32.ofNat k)])), (q, .inr (1, [.ref ra, .int 0, .int 0, .int 0])), (a, .inl (cB, cap, .inl f)), (ra, .inl (cB, k, .inl (va_cpy f (fun _ => 0) 0 0 k)))] H := hP
  have hD : va_D A [(b, .inr (0, [.ref a, .int 0, .int ml, .int (Int32.ofNat k)])), (q, .inr (1, [.ref ra, .int 0, .int 0, .int 0])), (a, .inl (cB, cap, .inl f)), (ra, .inl (cB, k, .inl (va_cpy f (fun _ => 0) 0 0 k)))] := hD
  refine lv_goto (tgt := 97) hx hb dJ0_init_db425_38 (by decide) ?_
  have hP9 := hP.sub (ws' := [(b, .inr (0, [.ref a, .int 0, .int ml, .int (Int32.ofNat k)])), (a, .inl (cB, cap, .inl f)), (q, .inr (1, [.ref ra, .int 0, .int 0, .int 0])), (ra, .inl (cB, k, .inl (va_cpy f (fun _ => 0) 0 0 k)))]) [0, 2, 1, 3] rfl
  have hD9 := hD.sub (ws' := [(b, .inr (0, [.ref a, .int 0, .int ml, .int (Int32.ofNat k)])), (a, .inl (cB, cap, .inl f)), (q, .inr (1, [.ref ra, .int 0, .int 0, .int 0])), (ra, .inl (cB, k, .inl (va_cpy f (fun _ => 0) 0 0 k)))]) [0, 2, 1, 3] (by decide) rfl
  refine W.widen (k := 1) (n := k) (by omega) (by omega) ?_
  exact W.vret hx hb hr (fun t ht hW => ⟨⟨ra, rfl, trivial, ⟨by rw [ht]; exact hP9, va_K.moved hW.alike hK⟩, hD9⟩, hS.F ht⟩) hS.2.2 dJ0_init_db425_97
set_option maxHeartbeats 1000000 in
set_option maxRecDepth 100000 in
theorem zs_sinit1 (l : Launch) {D : va_G} {sz : Nat} {cB : ClassId} {b a cap k q : Nat} {f : Nat → Int32} {ml : Int32} (hf : sb_Fit f) (hk31 : k < 2 ^ 31) (hc31 : cap < 2 ^ 31) (hlt : Int32.ofNat k < Int32.ofNat cap) (hle : k ≤ cap) (hb9 : k * 1 ≤ 536870912) (hne : ¬ Int32.ofNat k = Int32.ofNat cap)  : Met l yJ0_init_81219 (.code yJ0_init_81219 cJ0_init_81219 2 none :: zj_gw) (mj_rm 4 (1) (k)) (va_Pc [.ref q, .ref b] (fun U => U.heap.size = sz ∧ va_P D zj_cl [(b, .inr (0, [.ref a, .int 0, .int ml, .int (Int32.ofNat k)])), (a, .inl (cB, cap, .inl f)), (q, .inr (1, [.null, .int 0, .int 0, .int 0]))] U.heap ∧ va_K D zj_cl [(cB, .byte)] U ∧ va_D (fun _ => True) [(b, .inr (0, [.ref a, .int 0, .int ml, .int (Int32.ofNat k)])), (a, .inl (cB, cap, .inl f)), (q, .inr (1, [.null, .int 0, .int 0, .int 0]))] ∧ zs_C (va_A [(b, .inr (0, [.ref a, .int 0, .int ml, .int (Int32.ofNat k)])), (a, .inl (cB, cap, .inl f)), (q, .inr (1, [.null, .int 0, .int 0, .int 0]))] sz) U U.heap)) (va_Qv (fun (_ : Nat) => True) (fun ra t => (va_P D zj_cl [(b, .inr (0, [.ref a, .int 0, .int ml, .int (Int32.ofNat k)])), (a, .inl (cB, cap, .inl f)), (q, .inr (1, [.ref ra, .int 0, .int 0, .int 0])), (ra, .inl (cB, k, .inl (va_cpy f (fun _ => 0) 0 0 k)))] t.heap ∧ va_K D zj_cl [(cB, .byte)] t) ∧ va_D (va_A [(b, .inr (0, [.ref a, .int 0, .int ml, .int (Int32.ofNat k)])), (a, .inl (cB, cap, .inl f)), (q, .inr (1, [.null, .int 0, .int 0, .int 0]))] sz) [(b, .inr (0, [.ref a, .int 0, .int ml, .int (Int32.ofNat k)])), (a, .inl (cB, cap, .inl f)), (q, .inr (1, [.ref ra, .int 0, .int 0, .int 0])), (ra, .inl (cB, k, .inl (va_cpy f (fun _ => 0) 0 0 k)))]) (va_A [(b, .inr (0, [.ref a, .int 0, .int ml, .int (Int32.ofNat k)])), (a, .inl (cB, cap, .inl f)), (q, .inr (1, [.null, .int 0, .int 0, .int 0]))] sz)) (1) (k) ((va_A [(b, .inr (0, [.ref a, .int 0, .int ml, .int (Int32.ofNat k)])), (a, .inl (cB, cap, .inl f)), (q, .inr (1, [.null, .int 0, .int 0, .int 0]))] sz)) := by
  refine Met.ofW (cc := cJ0_init_81219) (maxL := 2) (ret := none) (by decide) rfl ?_
  intro p e s m args below meth c s₁ B hml hv
  obtain ⟨rfl, hsz, hP, hK, hD0, hC⟩ := hv
  have hx := B.exec
  have hb := B.bytes
  have hr := B.returns
  have hts := atoms_spec (ws := .code yJ0_init_81219 cJ0_init_81219 2 none :: zj_gw) B.pre
  have hown : s.vm.findClass RJ0 = some m.cls := findClass_of_methodNamed B.named
  have hlocks := B.notSynchronized
  have hin : meth.name = "<init>" := (name_of_methodNamed B.named B.method).1
  subst hsz
  have hD := hD0.self (sz := s.heap.size)
  generalize hAe : va_A [(b, .inr (0, [.ref a, .int 0, .int ml, .int (Int32.ofNat k)])), (a, .inl (cB, cap, .inl f)), (q, .inr (1, [.null, .int 0, .int 0, .int 0]))] s.heap.size = A at hD hC ⊢
  have hA : ∀ q : Nat, s.heap.size ≤ q → A q := fun q h => by rw [← hAe]; exact Or.inr h
  have hS : va_S A s.heap s.heap [] := va_S.rf
  have hP : va_P D zj_cl [(b, .inr (0, [.ref a, .int 0, .int ml, .int (Int32.ofNat k)])), (a, .inl (cB, cap, .inl f)), (q, .inr (1, [.null, .int 0, .int 0, .int 0]))] s.heap := hP
  have hK : va_K D zj_cl [(cB, .byte)] s := hK
  have hl := lv_entry ([.ref q, .ref b]) (n := 2) (Nat.le_of_ble_eq_true rfl)
  rw [lg_entry_eq]
  generalize (lg_sl ([.ref q, .ref b]) ++ List.replicate (2 - (lg_sl ([.ref q, .ref b])).length) Slot.unset).toArray = ls at hl ⊢
  have hl : lv_has ls 2 [(0, .ref q), (1, .ref b)] := hl
  refine lv_aload_n hx hb dJ0_init_81219_0 rfl (lv_at hl 0 rfl) ?_
  refine lv_aload_n hx hb dJ0_init_81219_1 rfl (lv_at hl 1 rfl) ?_
  refine lv_null hx hb dJ0_init_81219_2 ?_
  have hPc := hP.sub (ws' := [(b, .inr (0, [.ref a, .int 0, .int ml, .int (Int32.ofNat k)])), (a, .inl (cB, cap, .inl f)), (q, .inr (1, [.null, .int 0, .int 0, .int 0]))]) [0, 1, 2] rfl
  have hDc := hD.sub (ws' := [(b, .inr (0, [.ref a, .int 0, .int ml, .int (Int32.ofNat k)])), (a, .inl (cB, cap, .inl f)), (q, .inr (1, [.null, .int 0, .int 0, .int 0]))]) [0, 1, 2] (by decide) rfl
  have hFc := va_free (wc := [(b, .inr (0, [.ref a, .int 0, .int ml, .int (Int32.ofNat k)])), (a, .inl (cB, cap, .inl f)), (q, .inr (1, [.null, .int 0, .int 0, .int 0]))]) hD hS hA [0, 1, 2] rfl
  refine va_callv (va_runI (As := [.ref b, .null]) (rest := []) ⟨hx, hb, hml, hown, hts⟩ (zs_sinit2 l (sz := s.heap.size) (cB := cB) (cap := cap) (k := k) (f := f) hf hk31 hc31 hlt hle hb9 hne) (cwI (own := RJ0) 2 hts (zj_good (zj_C (zj_m (q := 7079) (by decide +kernel) rfl))) rfl rfl rfl (hts _ (zj_t (q := 1013) (by decide +kernel) rfl)) (hts _ (zj_t (q := 7077) (by decide +kernel) rfl)) (hts _ (zj_t (q := 7078) (by decide +kernel) rfl)) rfl (by decide +kernel) ⟨Nat.le_of_ble_eq_true rfl, Nat.le_of_ble_eq_true rfl⟩) ⟨fun a U g mk q => ⟨q.1, q.2.1, q.2.2.1, va_K.moved (u := U) (U := U.calling g mk a) (Vm.Alike.refl U.vm) q.2.2.2.1, q.2.2.2.2.1, zs_C.moved (u := U) (U := U.calling g mk a) (Vm.Alike.refl U.vm) q.2.2.2.2.2⟩, fun U hU hW => ⟨rfl, by rw [hU], by rw [hU]; exact hPc, va_K.moved hW.alike hK, hDc.weaken (fun _ _ _ _ => trivial), by (try rw [hU]); exact zs_C.moved hW.alike (hC.narrow hFc)⟩⟩ rfl rfl hl.1 rfl (lv_room (Nat.le_of_ble_eq_true rfl)) dJ0_init_81219_3 ⟨Nat.le_of_ble_eq_true rfl, by exact Nat.le_of_eq (Nat.zero_add _)⟩) hS (fun q _ h => hFc q h) hFc (fun ra t_ H1 locs ht hvm hw hB hz1 hk1 hS => ?_)
  obtain ⟨⟨hP1, hK1⟩, hD1⟩ := hB
  rw [ht] at hP1
  obtain ⟨hP, hD⟩ := va_join (wr := []) (w1 := [(b, .inr (0, [.ref a, .int 0, .int ml, .int (Int32.ofNat k)])), (a, .inl (cB, cap, .inl f)), (q, .inr (1, [.ref ra, .int 0, .int 0, .int 0])), (ra, .inl (cB, k, .inl (va_cpy f (fun _ => 0) 0 0 k)))]) hP hD [0, 1, 2] [] rfl rfl (by decide) (by decide) hk1 hFc hP1 hD1
  generalize H1 = H at hP hS ⊢
  have hP : va_P D zj_cl [(b, .inr (0, [.ref a, .int 0, .int ml, .int (Int32.ofNat k)])), (a, .inl (cB, cap, .inl f)), (q, .inr (1, [.ref ra, .int 0, .int 0, .int 0])), (ra, .inl (cB, k, .inl (va_cpy f (fun _ => 0) 0 0 k)))] H := hP
  have hD : va_D A [(b, .inr (0, [.ref a, .int 0, .int ml, .int (Int32.ofNat k)])), (a, .inl (cB, cap, .inl f)), (q, .inr (1, [.ref ra, .int 0, .int 0, .int 0])), (ra, .inl (cB, k, .inl (va_cpy f (fun _ => 0) 0 0 k)))] := hD
  have hP9 := hP
  have hD9 := hD
  refine W.widen (k := 1) (n := k) (by omega) (by omega) ?_
  exact W.vret hx hb hr (fun t ht hW => ⟨⟨ra, rfl, trivial, ⟨by rw [ht]; exact hP9, va_K.moved hW.alike hK⟩, hD9⟩, hS.F ht⟩) hS.2.2 dJ0_init_81219_6
set_option maxHeartbeats 1000000 in
set_option maxRecDepth 100000 in
/-- StringBuilder.toString -/
theorem zs_toStr (l : Launch) {D : va_G} {sz : Nat} {cB : ClassId} {b a cap k : Nat} {f : Nat → Int32} {ml : Int32} (hf : sb_Fit f) (hk31 : k < 2 ^ 31) (hc31 : cap < 2 ^ 31) (hlt : Int32.ofNat k < Int32.ofNat cap) (hle : k ≤ cap) (hb9 : k * 1 ≤ 536870912) (hne : ¬ Int32.ofNat k = Int32.ofNat cap)  : Met l yJ4_toString_0e30d (.code yJ4_toString_0e30d cJ4_toString_0e30d 1 (some (.object "java/lang/String")) :: zj_gw) (mj_rm 5 (2) (4 + k)) (va_Pc [.ref b] (fun U => U.heap.size = sz ∧ va_P D zj_cl [(b, .inr (0, [.ref a, .int 0, .int ml, .int (Int32.ofNat k)])), (a, .inl (cB, cap, .inl f))] U.heap ∧ va_K D zj_cl [(cB, .byte)] U ∧ va_D (fun _ => True) [(b, .inr (0, [.ref a, .int 0, .int ml, .int (Int32.ofNat k)])), (a, .inl (cB, cap, .inl f))] ∧ zs_C (va_A [(b, .inr (0, [.ref a, .int 0, .int ml, .int (Int32.ofNat k)])), (a, .inl (cB, cap, .inl f))] sz) U U.heap)) (va_Qr (fun (_ : Nat) => True) (fun ra q t => (va_P D zj_cl [(b, .inr (0, [.ref a, .int 0, .int ml, .int (Int32.ofNat k)])), (a, .inl (cB, cap, .inl f)), (q, .inr (1, [.ref ra, .int 0, .int 0, .int 0])), (ra, .inl (cB, k, .inl (va_cpy f (fun _ => 0) 0 0 k)))] t.heap ∧ va_K D zj_cl [(cB, .byte)] t) ∧ va_D (va_A [(b, .inr (0, [.ref a, .int 0, .int ml, .int (Int32.ofNat k)])), (a, .inl (cB, cap, .inl f))] sz) [(b, .inr (0, [.ref a, .int 0, .int ml, .int (Int32.ofNat k)])), (a, .inl (cB, cap, .inl f)), (q, .inr (1, [.ref ra, .int 0, .int 0, .int 0])), (ra, .inl (cB, k, .inl (va_cpy f (fun _ => 0) 0 0 k)))]) (va_A [(b, .inr (0, [.ref a, .int 0, .int ml, .int (Int32.ofNat k)])), (a, .inl (cB, cap, .inl f))] sz)) (2) (4 + k) ((va_A [(b, .inr (0, [.ref a, .int 0, .int ml, .int (Int32.ofNat k)])), (a, .inl (cB, cap, .inl f))] sz)) := by
  refine Met.ofW (cc := cJ4_toString_0e30d) (maxL := 1) (ret := some (.object "java/lang/String")) (by decide) rfl ?_
  intro p e s m args below meth c s₁ B hml hv
  obtain ⟨rfl, hsz, hP, hK, hD0, hC⟩ := hv
  have hx := B.exec
  have hb := B.bytes
  have hr := B.returns
  have hts := atoms_spec (ws := .code yJ4_toString_0e30d cJ4_toString_0e30d 1 (some (.object "java/lang/String")) :: zj_gw) B.pre
  have hown : s.vm.findClass RJ4 = some m.cls := findClass_of_methodNamed B.named
  have hlocks := B.notSynchronized
  subst hsz
  have hD := hD0.self (sz := s.heap.size)
  generalize hAe : va_A [(b, .inr (0, [.ref a, .int 0, .int ml, .int (Int32.ofNat k)])), (a, .inl (cB, cap, .inl f))] s.heap.size = A at hD hC ⊢
  have hA : ∀ q : Nat, s.heap.size ≤ q → A q := fun q h => by rw [← hAe]; exact Or.inr h
  have hS : va_S A s.heap s.heap [] := va_S.rf
  have hP : va_P D zj_cl [(b, .inr (0, [.ref a, .int 0, .int ml, .int (Int32.ofNat k)])), (a, .inl (cB, cap, .inl f))] s.heap := hP
  have hK : va_K D zj_cl [(cB, .byte)] s := hK
  have hl := lv_entry ([.ref b]) (n := 1) (Nat.le_of_ble_eq_true rfl)
  rw [lg_entry_eq]
  generalize (lg_sl ([.ref b]) ++ List.replicate (1 - (lg_sl ([.ref b])).length) Slot.unset).toArray = ls at hl ⊢
  have hl : lv_has ls 1 [(0, .ref b)] := hl
  refine va_new (ci := 1) (fs := [.null, .int 0, .int 0, .int 0]) (C := RJ0) (T := TJ0) (N := 4) hx hb hts zj_hs tyJ0 tyJ0_ok hown (hts _ (zj_t (q := 7072) (by decide +kernel) rfl)) (hts _ (zj_t (q := 7073) (by decide +kernel) rfl)) (hts _ (zj_t (q := 1013) (by decide +kernel) rfl)) hK hP hD hS hA rfl (fun j hj => by rcases (show j = 0 ∨ j = 1 ∨ j = 2 ∨ j = 3 by omega) with rfl | rfl | rfl | rfl <;> rfl) (Nat.le_of_ble_eq_true rfl) (by show 0 + 4 ≤ 4 + k; omega) dJ4_toString_0e30d_0 (fun q H hP hD hS => ?_)
  have hP : va_P D zj_cl [(b, .inr (0, [.ref a, .int 0, .int ml, .int (Int32.ofNat k)])), (a, .inl (cB, cap, .inl f)), (q, .inr (1, [.null, .int 0, .int 0, .int 0]))] H := hP
  have hD : va_D A [(b, .inr (0, [.ref a, .int 0, .int ml, .int (Int32.ofNat k)])), (a, .inl (cB, cap, .inl f)), (q, .inr (1, [.null, .int 0, .int 0, .int 0]))] := hD
  refine lv_dup hx hb dJ4_toString_0e30d_3 rfl ?_
  refine lv_aload_n hx hb dJ4_toString_0e30d_4 rfl (lv_at hl 0 rfl) ?_
  have hPc := hP.sub (ws' := [(b, .inr (0, [.ref a, .int 0, .int ml, .int (Int32.ofNat k)])), (a, .inl (cB, cap, .inl f)), (q, .inr (1, [.null, .int 0, .int 0, .int 0]))]) [0, 1, 2] rfl
  have hDc := hD.sub (ws' := [(b, .inr (0, [.ref a, .int 0, .int ml, .int (Int32.ofNat k)])), (a, .inl (cB, cap, .inl f)), (q, .inr (1, [.null, .int 0, .int 0, .int 0]))]) [0, 1, 2] (by decide) rfl
  have hFc := va_free (wc := [(b, .inr (0, [.ref a, .int 0, .int ml, .int (Int32.ofNat k)])), (a, .inl (cB, cap, .inl f)), (q, .inr (1, [.null, .int 0, .int 0, .int 0]))]) hD hS hA [0, 1, 2] rfl
  refine va_callv (va_runI (As := [.ref b]) (rest := [.ref q]) ⟨hx, hb, hml, hown, hts⟩ (zs_sinit1 l (sz := H.size) (cB := cB) (cap := cap) (k := k) (f := f) hf hk31 hc31 hlt hle hb9 hne) (cwI (own := RJ4) 1 hts (zj_good (zj_C (zj_m (q := 7076) (by decide +kernel) rfl))) rfl rfl rfl (hts _ (zj_t (q := 1013) (by decide +kernel) rfl)) (hts _ (zj_t (q := 7074) (by decide +kernel) rfl)) (hts _ (zj_t (q := 7075) (by decide +kernel) rfl)) rfl (by decide +kernel) ⟨Nat.le_of_ble_eq_true rfl, Nat.le_of_ble_eq_true rfl⟩) ⟨fun a U g mk q => ⟨q.1, q.2.1, q.2.2.1, va_K.moved (u := U) (U := U.calling g mk a) (Vm.Alike.refl U.vm) q.2.2.2.1, q.2.2.2.2.1, zs_C.moved (u := U) (U := U.calling g mk a) (Vm.Alike.refl U.vm) q.2.2.2.2.2⟩, fun U hU hW => ⟨rfl, by rw [hU], by rw [hU]; exact hPc, va_K.moved hW.alike hK, hDc.weaken (fun _ _ _ _ => trivial), by (try rw [hU]); exact zs_C.moved hW.alike ((hC.kept hS.2.1).narrow hFc)⟩⟩ rfl rfl hl.1 rfl (lv_room (Nat.le_of_ble_eq_true rfl)) dJ4_toString_0e30d_5 ⟨Nat.le_of_ble_eq_true rfl, by show 0 + 4 + k ≤ 4 + k; omega⟩) hS (fun q _ h => hFc q h) hFc (fun ra t_ H1 locs ht hvm hw hB hz1 hk1 hS => ?_)
  obtain ⟨⟨hP1, hK1⟩, hD1⟩ := hB
  rw [ht] at hP1
  obtain ⟨hP, hD⟩ := va_join (wr := []) (w1 := [(b, .inr (0, [.ref a, .int 0, .int ml, .int (Int32.ofNat k)])), (a, .inl (cB, cap, .inl f)), (q, .inr (1, [.ref ra, .int 0, .int 0, .int 0])), (ra, .inl (cB, k, .inl (va_cpy f (fun _ => 0) 0 0 k)))]) hP hD [0, 1, 2] [] rfl rfl (by decide) (by decide) hk1 hFc hP1 hD1
  generalize H1 = H at hP hS ⊢
  have hP : va_P D zj_cl [(b, .inr (0, [.ref a, .int 0, .int ml, .int (Int32.ofNat k)])), (a, .inl (cB, cap, .inl f)), (q, .inr (1, [.ref ra, .int 0, .int 0, .int 0])), (ra, .inl (cB, k, .inl (va_cpy f (fun _ => 0) 0 0 k)))] H := hP
  have hD : va_D A [(b, .inr (0, [.ref a, .int 0, .int ml, .int (Int32.ofNat k)])), (a, .inl (cB, cap, .inl f)), (q, .inr (1, [.ref ra, .int 0, .int 0, .int 0])), (ra, .inl (cB, k, .inl (va_cpy f (fun _ => 0) 0 0 k)))] := hD
  refine W.widen (k := 2) (n := 4 + k) (by omega) (by omega) ?_
  exact W.aret (v := .ref q) (rt := .object "java/lang/String") hx hb hr (Or.inl ⟨_, rfl⟩) (Or.inr ⟨_, rfl⟩) (fun t ht hW => ⟨⟨ra, q, rfl, trivial, ⟨by rw [ht]; exact hP, va_K.moved hW.alike hK⟩, hD⟩, hS.F ht⟩) hS.2.2 dJ4_toString_0e30d_8
