theorem dJ0_getBytes_840e7_0 : decode cJ0_getBytes_840e7 0 = .ok (.aload_n 0, 1) := by decide +kernel
theorem dJ0_getBytes_840e7_1 : decode cJ0_getBytes_840e7 1 = .ok (.invokevirtual 335, 3) := by decide +kernel
theorem dJ0_getBytes_840e7_4 : decode cJ0_getBytes_840e7 4 = .ok (.iload_n 3, 1) := by decide +kernel
theorem dJ0_getBytes_840e7_5 : decode cJ0_getBytes_840e7 5 = .ok (.if_icmp .ne 23, 3) := by decide +kernel
theorem dJ0_getBytes_840e7_8 : decode cJ0_getBytes_840e7 8 = .ok (.aload_n 0, 1) := by decide +kernel
theorem dJ0_getBytes_840e7_9 : decode cJ0_getBytes_840e7 9 = .ok (.getfield 9, 3) := by decide +kernel
theorem dJ0_getBytes_840e7_12 : decode cJ0_getBytes_840e7 12 = .ok (.iconst 0, 1) := by decide +kernel
theorem dJ0_getBytes_840e7_13 : decode cJ0_getBytes_840e7 13 = .ok (.aload_n 1, 1) := by decide +kernel
theorem dJ0_getBytes_840e7_14 : decode cJ0_getBytes_840e7 14 = .ok (.iload_n 2, 1) := by decide +kernel
theorem dJ0_getBytes_840e7_15 : decode cJ0_getBytes_840e7 15 = .ok (.iload_n 3, 1) := by decide +kernel
theorem dJ0_getBytes_840e7_16 : decode cJ0_getBytes_840e7 16 = .ok (.ishl, 1) := by decide +kernel
theorem dJ0_getBytes_840e7_17 : decode cJ0_getBytes_840e7 17 = .ok (.aload_n 0, 1) := by decide +kernel
theorem dJ0_getBytes_840e7_18 : decode cJ0_getBytes_840e7 18 = .ok (.getfield 9, 3) := by decide +kernel
theorem dJ0_getBytes_840e7_21 : decode cJ0_getBytes_840e7 21 = .ok (.arraylength, 1) := by decide +kernel
theorem dJ0_getBytes_840e7_22 : decode cJ0_getBytes_840e7 22 = .ok (.invokestatic 212, 3) := by decide +kernel
theorem dJ0_getBytes_840e7_25 : decode cJ0_getBytes_840e7 25 = .ok (.goto 18, 3) := by decide +kernel
theorem dJ0_getBytes_840e7_43 : decode cJ0_getBytes_840e7 43 = .ok (.return_, 1) := by decide +kernel
theorem dJ5_ensureCapacityInternal_d00df_0 : decode cJ5_ensureCapacityInternal_d00df 0 = .ok (.aload_n 0, 1) := by decide +kernel
theorem dJ5_ensureCapacityInternal_d00df_1 : decode cJ5_ensureCapacityInternal_d00df 1 = .ok (.getfield 15, 3) := by decide +kernel
theorem dJ5_ensureCapacityInternal_d00df_4 : decode cJ5_ensureCapacityInternal_d00df 4 = .ok (.arraylength, 1) := by decide +kernel
theorem dJ5_ensureCapacityInternal_d00df_5 : decode cJ5_ensureCapacityInternal_d00df 5 = .ok (.aload_n 0, 1) := by decide +kernel
theorem dJ5_ensureCapacityInternal_d00df_6 : decode cJ5_ensureCapacityInternal_d00df 6 = .ok (.getfield 22, 3) := by decide +kernel
theorem dJ5_ensureCapacityInternal_d00df_9 : decode cJ5_ensureCapacityInternal_d00df 9 = .ok (.ishr, 1) := by decide +kernel
theorem dJ5_ensureCapacityInternal_d00df_10 : decode cJ5_ensureCapacityInternal_d00df 10 = .ok (.istore_n 2, 1) := by decide +kernel
theorem dJ5_ensureCapacityInternal_d00df_11 : decode cJ5_ensureCapacityInternal_d00df 11 = .ok (.iload_n 1, 1) := by decide +kernel
theorem dJ5_ensureCapacityInternal_d00df_12 : decode cJ5_ensureCapacityInternal_d00df 12 = .ok (.iload_n 2, 1) := by decide +kernel
theorem dJ5_ensureCapacityInternal_d00df_13 : decode cJ5_ensureCapacityInternal_d00df 13 = .ok (.isub, 1) := by decide +kernel
theorem dJ5_ensureCapacityInternal_d00df_14 : decode cJ5_ensureCapacityInternal_d00df 14 = .ok (.ifCond .le 24, 3) := by decide +kernel
theorem dJ5_ensureCapacityInternal_d00df_17 : decode cJ5_ensureCapacityInternal_d00df 17 = .ok (.aload_n 0, 1) := by decide +kernel
theorem dJ5_ensureCapacityInternal_d00df_18 : decode cJ5_ensureCapacityInternal_d00df 18 = .ok (.aload_n 0, 1) := by decide +kernel
theorem dJ5_ensureCapacityInternal_d00df_19 : decode cJ5_ensureCapacityInternal_d00df 19 = .ok (.getfield 15, 3) := by decide +kernel
theorem dJ5_ensureCapacityInternal_d00df_22 : decode cJ5_ensureCapacityInternal_d00df 22 = .ok (.aload_n 0, 1) := by decide +kernel
theorem dJ5_ensureCapacityInternal_d00df_23 : decode cJ5_ensureCapacityInternal_d00df 23 = .ok (.iload_n 1, 1) := by decide +kernel
theorem dJ5_ensureCapacityInternal_d00df_24 : decode cJ5_ensureCapacityInternal_d00df 24 = .ok (.invokevirtual 104, 3) := by decide +kernel
theorem dJ5_ensureCapacityInternal_d00df_27 : decode cJ5_ensureCapacityInternal_d00df 27 = .ok (.aload_n 0, 1) := by decide +kernel
theorem dJ5_ensureCapacityInternal_d00df_28 : decode cJ5_ensureCapacityInternal_d00df 28 = .ok (.getfield 22, 3) := by decide +kernel
theorem dJ5_ensureCapacityInternal_d00df_31 : decode cJ5_ensureCapacityInternal_d00df 31 = .ok (.ishl, 1) := by decide +kernel
theorem dJ5_ensureCapacityInternal_d00df_32 : decode cJ5_ensureCapacityInternal_d00df 32 = .ok (.invokestatic 108, 3) := by decide +kernel
theorem dJ5_ensureCapacityInternal_d00df_35 : decode cJ5_ensureCapacityInternal_d00df 35 = .ok (.putfield 15, 3) := by decide +kernel
theorem dJ5_ensureCapacityInternal_d00df_38 : decode cJ5_ensureCapacityInternal_d00df 38 = .ok (.return_, 1) := by decide +kernel
theorem dJ5_inflateIfNeededFor_a7421_0 : decode cJ5_inflateIfNeededFor_a7421 0 = .ok (.getstatic 18, 3) := by decide +kernel
theorem dJ5_inflateIfNeededFor_a7421_3 : decode cJ5_inflateIfNeededFor_a7421 3 = .ok (.ifCond .eq 18, 3) := by decide +kernel
theorem dJ5_inflateIfNeededFor_a7421_6 : decode cJ5_inflateIfNeededFor_a7421 6 = .ok (.aload_n 0, 1) := by decide +kernel
theorem dJ5_inflateIfNeededFor_a7421_7 : decode cJ5_inflateIfNeededFor_a7421 7 = .ok (.getfield 22, 3) := by decide +kernel
theorem dJ5_inflateIfNeededFor_a7421_10 : decode cJ5_inflateIfNeededFor_a7421 10 = .ok (.aload_n 1, 1) := by decide +kernel
theorem dJ5_inflateIfNeededFor_a7421_11 : decode cJ5_inflateIfNeededFor_a7421 11 = .ok (.invokevirtual 40, 3) := by decide +kernel
theorem dJ5_inflateIfNeededFor_a7421_14 : decode cJ5_inflateIfNeededFor_a7421 14 = .ok (.if_icmp .eq 7, 3) := by decide +kernel
theorem dJ5_inflateIfNeededFor_a7421_21 : decode cJ5_inflateIfNeededFor_a7421 21 = .ok (.return_, 1) := by decide +kernel
theorem dJ5_putStringAt_47b60_0 : decode cJ5_putStringAt_47b60 0 = .ok (.aload_n 0, 1) := by decide +kernel
theorem dJ5_putStringAt_47b60_1 : decode cJ5_putStringAt_47b60 1 = .ok (.aload_n 2, 1) := by decide +kernel
theorem dJ5_putStringAt_47b60_2 : decode cJ5_putStringAt_47b60 2 = .ok (.invokevirtual 397, 3) := by decide +kernel
theorem dJ5_putStringAt_47b60_5 : decode cJ5_putStringAt_47b60 5 = .ok (.aload_n 2, 1) := by decide +kernel
theorem dJ5_putStringAt_47b60_6 : decode cJ5_putStringAt_47b60 6 = .ok (.aload_n 0, 1) := by decide +kernel
theorem dJ5_putStringAt_47b60_7 : decode cJ5_putStringAt_47b60 7 = .ok (.getfield 15, 3) := by decide +kernel
theorem dJ5_putStringAt_47b60_10 : decode cJ5_putStringAt_47b60 10 = .ok (.iload_n 1, 1) := by decide +kernel
theorem dJ5_putStringAt_47b60_11 : decode cJ5_putStringAt_47b60 11 = .ok (.aload_n 0, 1) := by decide +kernel
theorem dJ5_putStringAt_47b60_12 : decode cJ5_putStringAt_47b60 12 = .ok (.getfield 22, 3) := by decide +kernel
theorem dJ5_putStringAt_47b60_15 : decode cJ5_putStringAt_47b60 15 = .ok (.invokevirtual 399, 3) := by decide +kernel
theorem dJ5_putStringAt_47b60_18 : decode cJ5_putStringAt_47b60 18 = .ok (.return_, 1) := by decide +kernel
set_option maxHeartbeats 1000000 in
set_option maxRecDepth 100000 in
/-- room enough -/
theorem zs_ensR (l : Launch) {D : va_G} {cB : ClassId} {b a cap : Nat} {f : Nat → Int32} {ml cnt : Int32} {h0 : Heap} {q : Int32} (hq : q - Int32.ofNat cap ≤ 0) : Met l yJ5_ensureCapacityInternal_d00df (.code yJ5_ensureCapacityInternal_d00df cJ5_ensureCapacityInternal_d00df 3 none :: zj_gw) (mj_rm 0 (0) (0)) (va_Pc [.ref b, .int q] (fun U => U.heap = h0 ∧ zs_W D [(b, .inr (0, [.ref a, .int 0, .int ml, .int cnt])), (a, .inl (cB, cap, .inl f))] [(cB, .byte)] U U.heap)) (va_Qv (fun (_ : Unit) => True) (fun _ t => t.heap = h0) zj_nn) (0) (0) (zj_nn) := by
  refine Met.ofW (cc := cJ5_ensureCapacityInternal_d00df) (maxL := 3) (ret := none) (by decide) rfl ?_
  intro p e s m args below meth c s₁ B hml hv
  obtain ⟨rfl, rfl, hW⟩ := hv
  have hx := B.exec
  have hb := B.bytes
  have hr := B.returns
  have hts := atoms_spec (ws := .code yJ5_ensureCapacityInternal_d00df cJ5_ensureCapacityInternal_d00df 3 none :: zj_gw) B.pre
  have hown : s.vm.findClass RJ5 = some m.cls := findClass_of_methodNamed B.named
  have hlocks := B.notSynchronized
  have hS : va_S zj_nn s.heap s.heap [] := va_S.rf
  have hP : va_P D zj_cl [(b, .inr (0, [.ref a, .int 0, .int ml, .int cnt])), (a, .inl (cB, cap, .inl f))] s.heap := hW.1
  have hK : va_K D zj_cl [(cB, .byte)] s := hW.2
  have hl := lv_entry ([.ref b, .int q]) (n := 3) (Nat.le_of_ble_eq_true rfl)
  rw [lg_entry_eq]
  generalize (lg_sl ([.ref b, .int q]) ++ List.replicate (3 - (lg_sl ([.ref b, .int q])).length) Slot.unset).toArray = ls at hl ⊢
  have hl : lv_has ls 3 [(0, .ref b), (1, .int q)] := hl
  refine lv_aload_n hx hb dJ5_ensureCapacityInternal_d00df_0 rfl (lv_at hl 0 rfl) ?_
  refine va_get (D := D) (ci := 0) (v := .ref a) (C := RJ4) (T := TJ4) (N := 4) hx hb hts zj_hb hown hK hP 0 rfl rfl 0 (by decide) (hts _ (zj_t (q := 6175) (by decide +kernel) rfl)) (fun _ h9 => h9) rfl dJ5_ensureCapacityInternal_d00df_1 ?_
  refine va_alen hx hb hK hP 1 0 rfl (ty := .byte) rfl (v := Int32.ofNat cap) rfl dJ5_ensureCapacityInternal_d00df_4 ?_
  refine lv_aload_n hx hb dJ5_ensureCapacityInternal_d00df_5 rfl (lv_at hl 0 rfl) ?_
  refine va_get (D := D) (ci := 0) (v := .int 0) (C := RJ4) (T := TJ4) (N := 4) hx hb hts zj_hb hown hK hP 0 rfl rfl 1 (by decide) (hts _ (zj_t (q := 6176) (by decide +kernel) rfl)) (fun _ h9 => h9) rfl dJ5_ensureCapacityInternal_d00df_6 ?_
  refine lv_ishr hx hb dJ5_ensureCapacityInternal_d00df_9 ?_
  refine zj_top (y := Int32.ofNat cap) (sb_shr0 _) ?_
  refine lv_istore_n (lv' := [(2, .int (Int32.ofNat cap)), (0, .ref b), (1, .int q)]) hx hb dJ5_ensureCapacityInternal_d00df_10 rfl hl (by decide) rfl (fun ls hl => ?_)
  refine lv_iload_n hx hb dJ5_ensureCapacityInternal_d00df_11 rfl (lv_at hl 2 rfl) ?_
  refine lv_iload_n hx hb dJ5_ensureCapacityInternal_d00df_12 rfl (lv_at hl 0 rfl) ?_
  refine lv_isub hx hb dJ5_ensureCapacityInternal_d00df_13 ?_
  refine lv_if_le (tgt := 38) hx hb dJ5_ensureCapacityInternal_d00df_14 (by decide) (fun _ => ?_) (fun c_ => (c_ (hq)).elim)
  exact W.vret hx hb hr (fun t ht hW => ⟨⟨(), rfl, trivial, ht⟩, hS.F ht⟩) hS.2.2 dJ5_ensureCapacityInternal_d00df_38
set_option maxHeartbeats 1000000 in
set_option maxRecDepth 100000 in
/-- more room -/
theorem zs_ensG (l : Launch) {D : va_G} {sz : Nat} {cB : ClassId} {b a cap : Nat} {f : Nat → Int32} {ml cnt : Int32} {q N : Int32} {N' : Nat} (hq : ¬ q - Int32.ofNat cap ≤ 0) (hN : Int32.ofNat cap + (if q - Int32.ofNat cap < Int32.ofNat cap + 2 then Int32.ofNat cap + 2 else q - Int32.ofNat cap) = N) (h0N : ¬ N ≤ 0) (h1N : ¬ 2147483639 < N) (h2N : ¬ N = 2147483647) (hf : sb_Fit f) (hne : ¬ N = Int32.ofNat cap) (hn0 : ¬ N < 0) (hN' : N.toNatClampNeg = N') (hc31 : cap < 2 ^ 31) (hlt : ¬ N < Int32.ofNat cap) (hle : cap ≤ N') (hb9 : N' * 1 ≤ 536870912) : Met l yJ5_ensureCapacityInternal_d00df (.code yJ5_ensureCapacityInternal_d00df cJ5_ensureCapacityInternal_d00df 3 none :: zj_gw) (mj_rm 3 (1) (N')) (va_Pc [.ref b, .int q] (fun U => U.heap.size = sz ∧ va_P D zj_cl [(b, .inr (0, [.ref a, .int 0, .int ml, .int cnt])), (a, .inl (cB, cap, .inl f))] U.heap ∧ va_K D zj_cl [(cB, .byte)] U ∧ va_D (fun _ => True) [(b, .inr (0, [.ref a, .int 0, .int ml, .int cnt])), (a, .inl (cB, cap, .inl f))])) (va_Qv (fun (_ : Nat) => True) (fun ra t => (va_P D zj_cl [(b, .inr (0, [.ref ra, .int 0, .int ml, .int cnt])), (ra, .inl (cB, N', .inl (va_cpy f (fun _ => 0) 0 0 cap)))] t.heap ∧ va_K D zj_cl [(cB, .byte)] t) ∧ va_D (va_A [(b, .inr (0, [.ref a, .int 0, .int ml, .int cnt])), (a, .inl (cB, cap, .inl f))] sz) [(b, .inr (0, [.ref ra, .int 0, .int ml, .int cnt])), (ra, .inl (cB, N', .inl (va_cpy f (fun _ => 0) 0 0 cap)))]) (va_A [(b, .inr (0, [.ref a, .int 0, .int ml, .int cnt])), (a, .inl (cB, cap, .inl f))] sz)) (1) (N') ((va_A [(b, .inr (0, [.ref a, .int 0, .int ml, .int cnt])), (a, .inl (cB, cap, .inl f))] sz)) := by
  refine Met.ofW (cc := cJ5_ensureCapacityInternal_d00df) (maxL := 3) (ret := none) (by decide) rfl ?_
  intro p e s m args below meth c s₁ B hml hv
  obtain ⟨rfl, hsz, hP, hK, hD0⟩ := hv
  have hx := B.exec
  have hb := B.bytes
  have hr := B.returns
  have hts := atoms_spec (ws := .code yJ5_ensureCapacityInternal_d00df cJ5_ensureCapacityInternal_d00df 3 none :: zj_gw) B.pre
  have hown : s.vm.findClass RJ5 = some m.cls := findClass_of_methodNamed B.named
  have hlocks := B.notSynchronized
  subst hsz
  have hD := hD0.self (sz := s.heap.size)
  generalize hAe : va_A [(b, .inr (0, [.ref a, .int 0, .int ml, .int cnt])), (a, .inl (cB, cap, .inl f))] s.heap.size = A at hD  ⊢
  have hA : ∀ q : Nat, s.heap.size ≤ q → A q := fun q h => by rw [← hAe]; exact Or.inr h
  have hS : va_S A s.heap s.heap [] := va_S.rf
  have hP : va_P D zj_cl [(b, .inr (0, [.ref a, .int 0, .int ml, .int cnt])), (a, .inl (cB, cap, .inl f))] s.heap := hP
  have hK : va_K D zj_cl [(cB, .byte)] s := hK
  have hl := lv_entry ([.ref b, .int q]) (n := 3) (Nat.le_of_ble_eq_true rfl)
  rw [lg_entry_eq]
  generalize (lg_sl ([.ref b, .int q]) ++ List.replicate (3 - (lg_sl ([.ref b, .int q])).length) Slot.unset).toArray = ls at hl ⊢
  have hl : lv_has ls 3 [(0, .ref b), (1, .int q)] := hl
  refine lv_aload_n hx hb dJ5_ensureCapacityInternal_d00df_0 rfl (lv_at hl 0 rfl) ?_
  refine va_get (D := D) (ci := 0) (v := .ref a) (C := RJ4) (T := TJ4) (N := 4) hx hb hts zj_hb hown hK hP 0 rfl rfl 0 (by decide) (hts _ (zj_t (q := 6175) (by decide +kernel) rfl)) (fun _ h9 => h9) rfl dJ5_ensureCapacityInternal_d00df_1 ?_
  refine va_alen hx hb hK hP 1 0 rfl (ty := .byte) rfl (v := Int32.ofNat cap) rfl dJ5_ensureCapacityInternal_d00df_4 ?_
  refine lv_aload_n hx hb dJ5_ensureCapacityInternal_d00df_5 rfl (lv_at hl 0 rfl) ?_
  refine va_get (D := D) (ci := 0) (v := .int 0) (C := RJ4) (T := TJ4) (N := 4) hx hb hts zj_hb hown hK hP 0 rfl rfl 1 (by decide) (hts _ (zj_t (q := 6176) (by decide +kernel) rfl)) (fun _ h9 => h9) rfl dJ5_ensureCapacityInternal_d00df_6 ?_
  refine lv_ishr hx hb dJ5_ensureCapacityInternal_d00df_9 ?_
  refine zj_top (y := Int32.ofNat cap) (sb_shr0 _) ?_
  refine lv_istore_n (lv' := [(2, .int (Int32.ofNat cap)), (0, .ref b), (1, .int q)]) hx hb dJ5_ensureCapacityInternal_d00df_10 rfl hl (by decide) rfl (fun ls hl => ?_)
  refine lv_iload_n hx hb dJ5_ensureCapacityInternal_d00df_11 rfl (lv_at hl 2 rfl) ?_
  refine lv_iload_n hx hb dJ5_ensureCapacityInternal_d00df_12 rfl (lv_at hl 0 rfl) ?_
  refine lv_isub hx hb dJ5_ensureCapacityInternal_d00df_13 ?_
  refine lv_if_le (tgt := 38) hx hb dJ5_ensureCapacityInternal_d00df_14 (by decide) (fun c_ => absurd c_ (hq)) (fun _ => ?_)
  refine lv_aload_n hx hb dJ5_ensureCapacityInternal_d00df_17 rfl (lv_at hl 1 rfl) ?_
  refine lv_aload_n hx hb dJ5_ensureCapacityInternal_d00df_18 rfl (lv_at hl 1 rfl) ?_
  refine va_get (D := D) (ci := 0) (v := .ref a) (C := RJ4) (T := TJ4) (N := 4) hx hb hts zj_hb hown hK hP 0 rfl rfl 0 (by decide) (hts _ (zj_t (q := 6175) (by decide +kernel) rfl)) (fun _ h9 => h9) rfl dJ5_ensureCapacityInternal_d00df_19 ?_
  refine lv_aload_n hx hb dJ5_ensureCapacityInternal_d00df_22 rfl (lv_at hl 1 rfl) ?_
  refine lv_iload_n hx hb dJ5_ensureCapacityInternal_d00df_23 rfl (lv_at hl 2 rfl) ?_
  refine va_calli (va_runU (As := [.int q]) (rest := [.ref a, .ref b]) ⟨hx, hb, hml, hown, hts⟩ (zs_newCap l hN h0N h1N h2N) (va_cwU 1 hts (zj_good (zj_U (own := RJ5) (C := RJ4) (owner := RJ5) (x' := yJ5_newCapacity_0f7a4) (zj_m (q := 6203) (by decide +kernel) rfl) (zj_m (q := 7136) (by decide +kernel) rfl) zj_s2 (zj_m (q := 6205) (by decide +kernel) rfl) (zj_m (q := 1023) (by decide +kernel) rfl) (zj_m (q := 6206) (by decide +kernel) rfl))) rfl rfl rfl rfl (by decide +kernel) ⟨Nat.le_of_ble_eq_true rfl, Nat.le_of_ble_eq_true rfl⟩) ⟨fun a U g mk q => ⟨q.1, q.2.1, zs_W.moved (u := U) (U := U.calling g mk a) (Vm.Alike.refl U.vm) q.2.2⟩, va_recv hK hP (ci := 0) (q0 := 0) rfl rfl, fun U hU hW => ⟨rfl, hU, by (try rw [hU]); exact zs_W.moved hW.alike (show zs_W D [(b, .inr (0, [.ref a, .int 0, .int ml, .int cnt])), (a, .inl (cB, cap, .inl f))] [(cB, .byte)] s s.heap from ⟨hP, hK⟩)⟩⟩ rfl rfl hl.1 rfl (lv_room (Nat.le_of_ble_eq_true rfl)) dJ5_ensureCapacityInternal_d00df_24 ⟨Nat.zero_le _, Nat.zero_le _⟩) hS (fun _ _ h => h.elim) (fun _ h => h.elim) (fun r_ u_ t_ H1 locs1 ht hvm hw hB hz1 hk1 hS => ?_)
  obtain rfl : H1 = s.heap := ht.symm.trans hB
  rw [hw]
  refine lv_aload_n hx hb dJ5_ensureCapacityInternal_d00df_27 rfl (lv_at hl 1 rfl) ?_
  refine va_get (D := D) (ci := 0) (v := .int 0) (C := RJ4) (T := TJ4) (N := 4) hx hb hts zj_hb hown hK hP 0 rfl rfl 1 (by decide) (hts _ (zj_t (q := 6176) (by decide +kernel) rfl)) (fun _ h9 => h9) rfl dJ5_ensureCapacityInternal_d00df_28 ?_
  refine lv_ishl hx hb dJ5_ensureCapacityInternal_d00df_31 ?_
  refine zj_top (y := N) (sb_shl0 _) ?_
  have hPc := hP.sub (ws' := [(a, .inl (cB, cap, .inl f))]) [1] rfl
  have hDc := hD.sub (ws' := [(a, .inl (cB, cap, .inl f))]) [1] (by decide) rfl
  have hFc := va_free (wc := [(a, .inl (cB, cap, .inl f))]) hD hS hA [1] rfl
  refine va_callr (va_runS (As := [.ref a, .int N]) (rest := [.ref b]) ⟨hx, hb, hml, hown, hts⟩ (zs_copyOf l (sz := s.heap.size) (cB := cB) (cap := cap) (f := f) (N' := N') hf hne hn0 hN' hc31 hlt hle hb9) (va_cwS (own := RJ5) 2 hts (zj_good (zj_S (own := RJ5) (zj_m (q := 6216) (by decide +kernel) rfl) (zj_m (q := 6217) (by decide +kernel) rfl) (zj_m (q := 1019) (by decide +kernel) rfl) (zj_m (q := 6218) (by decide +kernel) rfl))) rfl rfl rfl (by decide +kernel) ⟨Nat.le_of_ble_eq_true rfl, Nat.le_of_ble_eq_true rfl⟩) ⟨fun a U g mk q => ⟨q.1, q.2.1, q.2.2.1, va_K.moved (u := U) (U := U.calling g mk a) (Vm.Alike.refl U.vm) q.2.2.2.1, q.2.2.2.2⟩, fun U hU hW => ⟨rfl, by rw [hU], by rw [hU]; exact hPc, va_K.moved hW.alike hK, hDc.weaken (fun _ _ _ _ => trivial)⟩⟩ rfl rfl hl.1 rfl (lv_room (Nat.le_of_ble_eq_true rfl)) dJ5_ensureCapacityInternal_d00df_32 ⟨Nat.le_of_ble_eq_true rfl, by exact Nat.le_of_eq (Nat.zero_add _)⟩) hS (fun q _ h => hFc q h) hFc (fun u_ ra t_ H1 locs ht hvm hw hB hz1 hk1 hS => ?_)
  obtain ⟨⟨hP1, hK1⟩, hD1⟩ := hB
  rw [ht] at hP1
  obtain ⟨hP, hD⟩ := va_join (wr := [(b, .inr (0, [.ref a, .int 0, .int ml, .int cnt]))]) (w1 := [(a, .inl (cB, cap, .inl f)), (ra, .inl (cB, N', .inl (va_cpy f (fun _ => 0) 0 0 cap)))]) hP hD [1] [0] rfl rfl (by decide) (by decide) hk1 hFc hP1 hD1
  generalize H1 = H at hP hS ⊢
  have hP : va_P D zj_cl [(b, .inr (0, [.ref a, .int 0, .int ml, .int cnt])), (a, .inl (cB, cap, .inl f)), (ra, .inl (cB, N', .inl (va_cpy f (fun _ => 0) 0 0 cap)))] H := hP
  have hD : va_D A [(b, .inr (0, [.ref a, .int 0, .int ml, .int cnt])), (a, .inl (cB, cap, .inl f)), (ra, .inl (cB, N', .inl (va_cpy f (fun _ => 0) 0 0 cap)))] := hD
  refine va_put (D := D) (ci := 0) (v := .ref ra) (ty := .array .byte) (C := RJ4) (T := TJ4) (N := 4) hx hb hts zj_hb tyJ4 tyJ4_ok nmJ4 hown hK hP hD hS 0 rfl rfl 0 (by decide) (hts _ (zj_t (q := 6175) (by decide +kernel) rfl)) (fun _ h9 => h9) rfl  (by decide +kernel) rfl rfl (Nat.le_of_ble_eq_true rfl) dJ5_ensureCapacityInternal_d00df_35 (fun H locs hP hD hS => ?_)
  have hP : va_P D zj_cl [(b, .inr (0, [.ref ra, .int 0, .int ml, .int cnt])), (a, .inl (cB, cap, .inl f)), (ra, .inl (cB, N', .inl (va_cpy f (fun _ => 0) 0 0 cap)))] H := hP
  have hD : va_D A [(b, .inr (0, [.ref ra, .int 0, .int ml, .int cnt])), (a, .inl (cB, cap, .inl f)), (ra, .inl (cB, N', .inl (va_cpy f (fun _ => 0) 0 0 cap)))] := hD
  have hP9 := hP.sub (ws' := [(b, .inr (0, [.ref ra, .int 0, .int ml, .int cnt])), (ra, .inl (cB, N', .inl (va_cpy f (fun _ => 0) 0 0 cap)))]) [0, 2] rfl
  have hD9 := hD.sub (ws' := [(b, .inr (0, [.ref ra, .int 0, .int ml, .int cnt])), (ra, .inl (cB, N', .inl (va_cpy f (fun _ => 0) 0 0 cap)))]) [0, 2] (by decide) rfl
  refine W.widen (k := 1) (n := N') (by omega) (by omega) ?_
  exact W.vret hx hb hr (fun t ht hW => ⟨⟨ra, rfl, trivial, ⟨by rw [ht]; exact hP9, va_K.moved hW.alike hK⟩, hD9⟩, hS.F ht⟩) hS.2.2 dJ5_ensureCapacityInternal_d00df_38
set_option maxHeartbeats 1000000 in
set_option maxRecDepth 100000 in
theorem zs_infl (l : Launch) {D : va_G} {cB : ClassId} {b a cap : Nat} {f : Nat → Int32} {ml cnt : Int32} {h0 : Heap} {q v n : Nat} {g : Nat → Int32}  : Met l yJ5_inflateIfNeededFor_a7421 (.code yJ5_inflateIfNeededFor_a7421 cJ5_inflateIfNeededFor_a7421 2 none :: zj_gw) (mj_rm 1 (0) (0)) (va_Pc [.ref b, .ref q] (fun U => U.heap = h0 ∧ zs_C zj_nn U U.heap ∧ zs_F zj_nn q v n g U U.heap ∧ zs_W D [(b, .inr (0, [.ref a, .int 0, .int ml, .int cnt])), (a, .inl (cB, cap, .inl f))] [(cB, .byte)] U U.heap)) (va_Qv (fun (_ : Unit) => True) (fun _ t => t.heap = h0) zj_nn) (0) (0) (zj_nn) := by
  refine Met.ofW (cc := cJ5_inflateIfNeededFor_a7421) (maxL := 2) (ret := none) (by decide) rfl ?_
  intro p e s m args below meth c s₁ B hml hv
  obtain ⟨rfl, rfl, hC, hF, hW⟩ := hv
  have hx := B.exec
  have hb := B.bytes
  have hr := B.returns
  have hts := atoms_spec (ws := .code yJ5_inflateIfNeededFor_a7421 cJ5_inflateIfNeededFor_a7421 2 none :: zj_gw) B.pre
  have hown : s.vm.findClass RJ5 = some m.cls := findClass_of_methodNamed B.named
  have hlocks := B.notSynchronized
  have hS : va_S zj_nn s.heap s.heap [] := va_S.rf
  have hP : va_P D zj_cl [(b, .inr (0, [.ref a, .int 0, .int ml, .int cnt])), (a, .inl (cB, cap, .inl f))] s.heap := hW.1
  have hK : va_K D zj_cl [(cB, .byte)] s := hW.2
  have hl := lv_entry ([.ref b, .ref q]) (n := 2) (Nat.le_of_ble_eq_true rfl)
  rw [lg_entry_eq]
  generalize (lg_sl ([.ref b, .ref q]) ++ List.replicate (2 - (lg_sl ([.ref b, .ref q])).length) Slot.unset).toArray = ls at hl ⊢
  have hl : lv_has ls 2 [(0, .ref b), (1, .ref q)] := hl
  refine va_gets hx hb hC hS hown (hts _ (zj_t (q := 6167) (by decide +kernel) rfl)) (fun _ h9 => h9) dJ5_inflateIfNeededFor_a7421_0 ?_
  refine lv_if_eq (tgt := 21) hx hb dJ5_inflateIfNeededFor_a7421_3 (by decide) (fun c_ => absurd c_ (by decide)) (fun _ => ?_)
  refine lv_aload_n hx hb dJ5_inflateIfNeededFor_a7421_6 rfl (lv_at hl 0 rfl) ?_
  refine va_get (D := D) (ci := 0) (v := .int 0) (C := RJ4) (T := TJ4) (N := 4) hx hb hts zj_hb hown hK hP 0 rfl rfl 1 (by decide) (hts _ (zj_t (q := 6176) (by decide +kernel) rfl)) (fun _ h9 => h9) rfl dJ5_inflateIfNeededFor_a7421_7 ?_
  refine lv_aload_n hx hb dJ5_inflateIfNeededFor_a7421_10 rfl (lv_at hl 1 rfl) ?_
  refine va_calli (va_runV (As := []) (rest := [.int 0]) ⟨hx, hb, hml, hown, hts⟩ (zs_coder l) (cwV (own := RJ5) (C := RJ0) 0 hts (zj_good (zj_V (zj_m (q := 7017) (by decide +kernel) rfl) (zj_m (q := 5092) (by decide +kernel) rfl) (zj_m (q := 5093) (by decide +kernel) rfl) (zj_m (q := 1013) (by decide +kernel) rfl) (zj_m (q := 5094) (by decide +kernel) rfl))) rfl rfl rfl (by decide +kernel) ⟨Nat.le_of_ble_eq_true rfl, Nat.le_of_ble_eq_true rfl⟩) ⟨fun a U g mk q => ⟨q.1, q.2.1, zs_C.moved (u := U) (U := U.calling g mk a) (Vm.Alike.refl U.vm) q.2.2.1, zs_F.moved (u := U) (U := U.calling g mk a) (Vm.Alike.refl U.vm) q.2.2.2⟩, va_Orecv hF.1 hS, fun U hU hW => ⟨rfl, hU, by (try rw [hU]); exact zs_C.moved hW.alike hC, by (try rw [hU]); exact zs_F.moved hW.alike hF⟩⟩ rfl rfl hl.1 rfl (lv_room (Nat.le_of_ble_eq_true rfl)) dJ5_inflateIfNeededFor_a7421_11 ⟨Nat.zero_le _, Nat.zero_le _⟩) hS (fun _ _ h => h.elim) (fun _ h => h.elim) (fun r_ u_ t_ H1 locs1 ht hvm hw hB hz1 hk1 hS => ?_)
  obtain rfl : H1 = s.heap := ht.symm.trans hB
  rw [hw]
  refine lv_icmp_eq (tgt := 21) hx hb dJ5_inflateIfNeededFor_a7421_14 (by decide) (fun _ => ?_) (fun c_ => (c_ (rfl)).elim)
  exact W.vret hx hb hr (fun t ht hW => ⟨⟨(), rfl, trivial, ht⟩, hS.F ht⟩) hS.2.2 dJ5_inflateIfNeededFor_a7421_21
set_option maxHeartbeats 1000000 in
set_option maxRecDepth 100000 in
/-- String.getBytes -/
theorem zs_getB (l : Launch) {D : va_G} {sz : Nat} {cB : ClassId} {a cap k : Nat} {f : Nat → Int32} {q v n : Nat} {g : Nat → Int32} (hg : sb_Fit g) (hk : k < 2 ^ 31) (hn31 : n < 2 ^ 31) (hfit : k + n ≤ cap) : Met l yJ0_getBytes_840e7 (.code yJ0_getBytes_840e7 cJ0_getBytes_840e7 4 none :: zj_gw) (mj_rm 1 (0) (0)) (va_Pc [.ref q, .ref a, .int (Int32.ofNat k), .int 0] (fun U => U.heap.size = sz ∧ va_P D zj_cl [(a, .inl (cB, cap, .inl f))] U.heap ∧ va_K D zj_cl [(cB, .byte)] U ∧ va_D (fun _ => True) [(a, .inl (cB, cap, .inl f))] ∧ zs_C (va_A [(a, .inl (cB, cap, .inl f))] sz) U U.heap ∧ zs_F (va_A [(a, .inl (cB, cap, .inl f))] sz) q v n g U U.heap)) (va_Qv (fun (_ : Unit) => True) (fun _ t => (va_P D zj_cl [(a, .inl (cB, cap, .inl (va_cpy g f 0 k n)))] t.heap ∧ va_K D zj_cl [(cB, .byte)] t) ∧ va_D (va_A [(a, .inl (cB, cap, .inl f))] sz) [(a, .inl (cB, cap, .inl (va_cpy g f 0 k n)))]) (va_A [(a, .inl (cB, cap, .inl f))] sz)) (0) (0) ((va_A [(a, .inl (cB, cap, .inl f))] sz)) := by
  refine Met.ofW (cc := cJ0_getBytes_840e7) (maxL := 4) (ret := none) (by decide) rfl ?_
  intro p e s m args below meth c s₁ B hml hv
  obtain ⟨rfl, hsz, hP, hK, hD0, hC, hF⟩ := hv
  have hx := B.exec
  have hb := B.bytes
  have hr := B.returns
  have hts := atoms_spec (ws := .code yJ0_getBytes_840e7 cJ0_getBytes_840e7 4 none :: zj_gw) B.pre
  have hown : s.vm.findClass RJ0 = some m.cls := findClass_of_methodNamed B.named
  have hlocks := B.notSynchronized
  subst hsz
  have hD := hD0.self (sz := s.heap.size)
  generalize hAe : va_A [(a, .inl (cB, cap, .inl f))] s.heap.size = A at hD hC hF ⊢
  have hA : ∀ q : Nat, s.heap.size ≤ q → A q := fun q h => by rw [← hAe]; exact Or.inr h
  have hS : va_S A s.heap s.heap [] := va_S.rf
  have hP : va_P D zj_cl [(a, .inl (cB, cap, .inl f))] s.heap := hP
  have hK : va_K D zj_cl [(cB, .byte)] s := hK
  have hl := lv_entry ([.ref q, .ref a, .int (Int32.ofNat k), .int 0]) (n := 4) (Nat.le_of_ble_eq_true rfl)
  rw [lg_entry_eq]
  generalize (lg_sl ([.ref q, .ref a, .int (Int32.ofNat k), .int 0]) ++ List.replicate (4 - (lg_sl ([.ref q, .ref a, .int (Int32.ofNat k), .int 0])).length) Slot.unset).toArray = ls at hl ⊢
  have hl : lv_has ls 4 [(0, .ref q), (1, .ref a), (2, .int (Int32.ofNat k)), (3, .int 0)] := hl
  refine lv_aload_n hx hb dJ0_getBytes_840e7_0 rfl (lv_at hl 0 rfl) ?_
  refine va_calli (va_runV (As := []) (rest := []) ⟨hx, hb, hml, hown, hts⟩ (zs_coder l) (cwV (own := RJ0) (C := RJ0) 0 hts (zj_good (zj_V (zj_m (q := 5091) (by decide +kernel) rfl) (zj_m (q := 5092) (by decide +kernel) rfl) (zj_m (q := 5093) (by decide +kernel) rfl) (zj_m (q := 1013) (by decide +kernel) rfl) (zj_m (q := 5094) (by decide +kernel) rfl))) rfl rfl rfl (by decide +kernel) ⟨Nat.le_of_ble_eq_true rfl, Nat.le_of_ble_eq_true rfl⟩) ⟨fun a U g mk q => ⟨q.1, q.2.1, zs_C.moved (u := U) (U := U.calling g mk a) (Vm.Alike.refl U.vm) q.2.2.1, zs_F.moved (u := U) (U := U.calling g mk a) (Vm.Alike.refl U.vm) q.2.2.2⟩, va_Orecv hF.1 hS, fun U hU hW => ⟨rfl, hU, by (try rw [hU]); exact zs_C.moved hW.alike (hC.narrow (fun _ h => h.elim)), by (try rw [hU]); exact zs_F.moved hW.alike (hF.narrow (fun _ h => h.elim))⟩⟩ rfl rfl hl.1 rfl (lv_room (Nat.le_of_ble_eq_true rfl)) dJ0_getBytes_840e7_1 ⟨Nat.zero_le _, Nat.zero_le _⟩) hS (fun _ _ h => h.elim) (fun _ h => h.elim) (fun r_ u_ t_ H1 locs1 ht hvm hw hB hz1 hk1 hS => ?_)
  obtain rfl : H1 = s.heap := ht.symm.trans hB
  rw [hw]
  refine lv_iload_n hx hb dJ0_getBytes_840e7_4 rfl (lv_at hl 3 rfl) ?_
  refine lv_icmp_ne (tgt := 28) hx hb dJ0_getBytes_840e7_5 (by decide) (fun c_ => (c_ (rfl)).elim) (fun _ => ?_)
  refine lv_aload_n hx hb dJ0_getBytes_840e7_8 rfl (lv_at hl 0 rfl) ?_
  refine vk_getf hx hb hF.2.2.1 hS hown (hts _ (zj_t (q := 7114) (by decide +kernel) rfl)) (fun _ h9 => h9) dJ0_getBytes_840e7_9 ?_
  refine lv_iconst (v := 0) hx hb dJ0_getBytes_840e7_12 (by decide) ?_
  refine lv_aload_n hx hb dJ0_getBytes_840e7_13 rfl (lv_at hl 1 rfl) ?_
  refine lv_iload_n hx hb dJ0_getBytes_840e7_14 rfl (lv_at hl 2 rfl) ?_
  refine lv_iload_n hx hb dJ0_getBytes_840e7_15 rfl (lv_at hl 3 rfl) ?_
  refine lv_ishl hx hb dJ0_getBytes_840e7_16 ?_
  refine zj_top (y := Int32.ofNat k) (sb_shl0 _) ?_
  refine lv_aload_n hx hb dJ0_getBytes_840e7_17 rfl (lv_at hl 0 rfl) ?_
  refine vk_getf hx hb hF.2.2.1 hS hown (hts _ (zj_t (q := 7114) (by decide +kernel) rfl)) (fun _ h9 => h9) dJ0_getBytes_840e7_18 ?_
  refine va_tlen hx hb hF.2.2.2 hS (v := Int32.ofNat n) rfl dJ0_getBytes_840e7_21 ?_
  have hcn : (Int32.ofNat n).toNatClampNeg = n := nI_clamp hn31
  have hck : (Int32.ofNat k).toNatClampNeg = k := nI_clamp hk
  refine vk_copyt hx hb (hml.trans hl.1.symm) hown (hts _ (zj_t (q := 7041) (by decide +kernel) rfl)) (hts _ (zj_t (q := 3192) (by decide +kernel) rfl)) (hts _ (zj_t (q := 3191) (by decide +kernel) rfl)) (hts _ (zj_t (q := 1018) (by decide +kernel) rfl)) hK hP hD hS hF.2.2.2 0 0 rfl rfl (by decide) (nI_pos hk) (nI_pos hn31) (by rw [hcn, sb_cl0, Nat.zero_add]; exact Nat.le_refl _) (by rw [hcn, hck]; exact hfit) (fun i _ => hg _) (Nat.le_of_ble_eq_true rfl) (Nat.le_of_ble_eq_true rfl) dJ0_getBytes_840e7_22 (fun H locs hP hD hS => ?_)
  rw [hcn, hck, sb_cl0] at hP hD
  have hP : va_P D zj_cl [(a, .inl (cB, cap, .inl (va_cpy g f 0 k n)))] H := hP
  have hD : va_D A [(a, .inl (cB, cap, .inl (va_cpy g f 0 k n)))] := hD
  refine lv_goto (tgt := 43) hx hb dJ0_getBytes_840e7_25 (by decide) ?_
  exact W.vret hx hb hr (fun t ht hW => ⟨⟨(), rfl, trivial, ⟨by rw [ht]; exact hP, va_K.moved hW.alike hK⟩, hD⟩, hS.F ht⟩) hS.2.2 dJ0_getBytes_840e7_43
set_option maxHeartbeats 1000000 in
set_option maxRecDepth 100000 in
theorem zs_putS (l : Launch) {D : va_G} {sz : Nat} {cB : ClassId} {b a cap k : Nat} {f : Nat → Int32} {ml cnt : Int32} {q v n : Nat} {g : Nat → Int32} (hg : sb_Fit g) (hk : k < 2 ^ 31) (hn31 : n < 2 ^ 31) (hfit : k + n ≤ cap) : Met l yJ5_putStringAt_47b60 (.code yJ5_putStringAt_47b60 cJ5_putStringAt_47b60 3 none :: zj_gw) (mj_rm 2 (0) (0)) (va_Pc [.ref b, .int (Int32.ofNat k), .ref q] (fun U => U.heap.size = sz ∧ va_P D zj_cl [(b, .inr (0, [.ref a, .int 0, .int ml, .int cnt])), (a, .inl (cB, cap, .inl f))] U.heap ∧ va_K D zj_cl [(cB, .byte)] U ∧ va_D (fun _ => True) [(b, .inr (0, [.ref a, .int 0, .int ml, .int cnt])), (a, .inl (cB, cap, .inl f))] ∧ zs_C (va_A [(b, .inr (0, [.ref a, .int 0, .int ml, .int cnt])), (a, .inl (cB, cap, .inl f))] sz) U U.heap ∧ zs_F (va_A [(b, .inr (0, [.ref a, .int 0, .int ml, .int cnt])), (a, .inl (cB, cap, .inl f))] sz) q v n g U U.heap)) (va_Qv (fun (_ : Unit) => True) (fun _ t => (va_P D zj_cl [(b, .inr (0, [.ref a, .int 0, .int ml, .int cnt])), (a, .inl (cB, cap, .inl (va_cpy g f 0 k n)))] t.heap ∧ va_K D zj_cl [(cB, .byte)] t) ∧ va_D (va_A [(b, .inr (0, [.ref a, .int 0, .int ml, .int cnt])), (a, .inl (cB, cap, .inl f))] sz) [(b, .inr (0, [.ref a, .int 0, .int ml, .int cnt])), (a, .inl (cB, cap, .inl (va_cpy g f 0 k n)))]) (va_A [(b, .inr (0, [.ref a, .int 0, .int ml, .int cnt])), (a, .inl (cB, cap, .inl f))] sz)) (0) (0) ((va_A [(b, .inr (0, [.ref a, .int 0, .int ml, .int cnt])), (a, .inl (cB, cap, .inl f))] sz)) := by
  refine Met.ofW (cc := cJ5_putStringAt_47b60) (maxL := 3) (ret := none) (by decide) rfl ?_
  intro p e s m args below meth c s₁ B hml hv
  obtain ⟨rfl, hsz, hP, hK, hD0, hC, hF⟩ := hv
  have hx := B.exec
  have hb := B.bytes
  have hr := B.returns
  have hts := atoms_spec (ws := .code yJ5_putStringAt_47b60 cJ5_putStringAt_47b60 3 none :: zj_gw) B.pre
  have hown : s.vm.findClass RJ5 = some m.cls := findClass_of_methodNamed B.named
  have hlocks := B.notSynchronized
  subst hsz
  have hD := hD0.self (sz := s.heap.size)
  generalize hAe : va_A [(b, .inr (0, [.ref a, .int 0, .int ml, .int cnt])), (a, .inl (cB, cap, .inl f))] s.heap.size = A at hD hC hF ⊢
  have hA : ∀ q : Nat, s.heap.size ≤ q → A q := fun q h => by rw [← hAe]; exact Or.inr h
  have hS : va_S A s.heap s.heap [] := va_S.rf
  have hP : va_P D zj_cl [(b, .inr (0, [.ref a, .int 0, .int ml, .int cnt])), (a, .inl (cB, cap, .inl f))] s.heap := hP
  have hK : va_K D zj_cl [(cB, .byte)] s := hK
  have hl := lv_entry ([.ref b, .int (Int32.ofNat k), .ref q]) (n := 3) (Nat.le_of_ble_eq_true rfl)
  rw [lg_entry_eq]
  generalize (lg_sl ([.ref b, .int (Int32.ofNat k), .ref q]) ++ List.replicate (3 - (lg_sl ([.ref b, .int (Int32.ofNat k), .ref q])).length) Slot.unset).toArray = ls at hl ⊢
  have hl : lv_has ls 3 [(0, .ref b), (1, .int (Int32.ofNat k)), (2, .ref q)] := hl
  refine lv_aload_n hx hb dJ5_putStringAt_47b60_0 rfl (lv_at hl 0 rfl) ?_
  refine lv_aload_n hx hb dJ5_putStringAt_47b60_1 rfl (lv_at hl 2 rfl) ?_
  refine va_callv (va_runU (As := [.ref q]) (rest := []) ⟨hx, hb, hml, hown, hts⟩ (zs_infl l) (va_cwU 1 hts (zj_good (zj_U (own := RJ5) (C := RJ4) (owner := RJ5) (x' := yJ5_inflateIfNeededFor_a7421) (zj_m (q := 7013) (by decide +kernel) rfl) (zj_m (q := 7138) (by decide +kernel) rfl) zj_s4 (zj_m (q := 7015) (by decide +kernel) rfl) (zj_m (q := 1023) (by decide +kernel) rfl) (zj_m (q := 7016) (by decide +kernel) rfl))) rfl rfl rfl rfl (by decide +kernel) ⟨Nat.le_of_ble_eq_true rfl, Nat.le_of_ble_eq_true rfl⟩) ⟨fun a U g mk q => ⟨q.1, q.2.1, zs_C.moved (u := U) (U := U.calling g mk a) (Vm.Alike.refl U.vm) q.2.2.1, zs_F.moved (u := U) (U := U.calling g mk a) (Vm.Alike.refl U.vm) q.2.2.2.1, zs_W.moved (u := U) (U := U.calling g mk a) (Vm.Alike.refl U.vm) q.2.2.2.2⟩, va_recv hK hP (ci := 0) (q0 := 0) rfl rfl, fun U hU hW => ⟨rfl, hU, by (try rw [hU]); exact zs_C.moved hW.alike (hC.narrow (fun _ h => h.elim)), by (try rw [hU]); exact zs_F.moved hW.alike (hF.narrow (fun _ h => h.elim)), by (try rw [hU]); exact zs_W.moved hW.alike (show zs_W D [(b, .inr (0, [.ref a, .int 0, .int ml, .int cnt])), (a, .inl (cB, cap, .inl f))] [(cB, .byte)] s s.heap from ⟨hP, hK⟩)⟩⟩ rfl rfl hl.1 rfl (lv_room (Nat.le_of_ble_eq_true rfl)) dJ5_putStringAt_47b60_2 ⟨Nat.zero_le _, Nat.zero_le _⟩) hS (fun _ _ h => h.elim) (fun _ h => h.elim) (fun u_ t_ H1 locs1 ht hvm hw hB hz1 hk1 hS => ?_)
  obtain rfl : H1 = s.heap := ht.symm.trans hB
  refine lv_aload_n hx hb dJ5_putStringAt_47b60_5 rfl (lv_at hl 2 rfl) ?_
  refine lv_aload_n hx hb dJ5_putStringAt_47b60_6 rfl (lv_at hl 0 rfl) ?_
  refine va_get (D := D) (ci := 0) (v := .ref a) (C := RJ4) (T := TJ4) (N := 4) hx hb hts zj_hb hown hK hP 0 rfl rfl 0 (by decide) (hts _ (zj_t (q := 6175) (by decide +kernel) rfl)) (fun _ h9 => h9) rfl dJ5_putStringAt_47b60_7 ?_
  refine lv_iload_n hx hb dJ5_putStringAt_47b60_10 rfl (lv_at hl 1 rfl) ?_
  refine lv_aload_n hx hb dJ5_putStringAt_47b60_11 rfl (lv_at hl 0 rfl) ?_
  refine va_get (D := D) (ci := 0) (v := .int 0) (C := RJ4) (T := TJ4) (N := 4) hx hb hts zj_hb hown hK hP 0 rfl rfl 1 (by decide) (hts _ (zj_t (q := 6176) (by decide +kernel) rfl)) (fun _ h9 => h9) rfl dJ5_putStringAt_47b60_12 ?_
  have hPc := hP.sub (ws' := [(a, .inl (cB, cap, .inl f))]) [1] rfl
  have hDc := hD.sub (ws' := [(a, .inl (cB, cap, .inl f))]) [1] (by decide) rfl
  have hFc := va_free (wc := [(a, .inl (cB, cap, .inl f))]) hD hS hA [1] rfl
  refine va_callv (va_runV (As := [.ref a, .int (Int32.ofNat k), .int 0]) (rest := []) ⟨hx, hb, hml, hown, hts⟩ (zs_getB l (sz := s.heap.size) (cB := cB) (cap := cap) (f := f) hg hk hn31 hfit) (cwV (own := RJ5) (C := RJ0) 3 hts (zj_good (zj_V (own := RJ5) (C := RJ0) (zj_m (q := 7037) (by decide +kernel) rfl) (zj_m (q := 7038) (by decide +kernel) rfl) (zj_m (q := 7039) (by decide +kernel) rfl) (zj_m (q := 1013) (by decide +kernel) rfl) (zj_m (q := 7040) (by decide +kernel) rfl))) rfl rfl rfl (by decide +kernel) ⟨Nat.le_of_ble_eq_true rfl, Nat.le_of_ble_eq_true rfl⟩) ⟨fun a U g mk q => ⟨q.1, q.2.1, q.2.2.1, va_K.moved (u := U) (U := U.calling g mk a) (Vm.Alike.refl U.vm) q.2.2.2.1, q.2.2.2.2.1, zs_C.moved (u := U) (U := U.calling g mk a) (Vm.Alike.refl U.vm) q.2.2.2.2.2.1, zs_F.moved (u := U) (U := U.calling g mk a) (Vm.Alike.refl U.vm) q.2.2.2.2.2.2⟩, va_Orecv hF.1 hS, fun U hU hW => ⟨rfl, by rw [hU], by rw [hU]; exact hPc, va_K.moved hW.alike hK, hDc.weaken (fun _ _ _ _ => trivial), by (try rw [hU]); exact zs_C.moved hW.alike ((hC.narrow hFc)), by (try rw [hU]); exact zs_F.moved hW.alike ((hF.narrow hFc))⟩⟩ rfl rfl hl.1 rfl (lv_room (Nat.le_of_ble_eq_true rfl)) dJ5_putStringAt_47b60_15 ⟨Nat.zero_le _, Nat.zero_le _⟩) hS (fun q _ h => hFc q h) hFc (fun u_ t_ H1 locs ht hvm hw hB hz1 hk1 hS => ?_)
  obtain ⟨⟨hP1, hK1⟩, hD1⟩ := hB
  rw [ht] at hP1
  obtain ⟨hP, hD⟩ := va_join (wr := [(b, .inr (0, [.ref a, .int 0, .int ml, .int cnt]))]) (w1 := [(a, .inl (cB, cap, .inl (va_cpy g f 0 k n)))]) hP hD [1] [0] rfl rfl (by decide) (by decide) hk1 hFc hP1 hD1
  generalize H1 = H at hP hS ⊢
  have hP : va_P D zj_cl [(b, .inr (0, [.ref a, .int 0, .int ml, .int cnt])), (a, .inl (cB, cap, .inl (va_cpy g f 0 k n)))] H := hP
  have hD : va_D A [(b, .inr (0, [.ref a, .int 0, .int ml, .int cnt])), (a, .inl (cB, cap, .inl (va_cpy g f 0 k n)))] := hD
  exact W.vret hx hb hr (fun t ht hW => ⟨⟨(), rfl, trivial, ⟨by rw [ht]; exact hP, va_K.moved hW.alike hK⟩, hD⟩, hS.F ht⟩) hS.2.2 dJ5_putStringAt_47b60_18
