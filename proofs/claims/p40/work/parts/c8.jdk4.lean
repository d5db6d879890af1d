theorem zj_same {D : va_G} {cl : List vw_C} {s : State} {cB cB2 : ClassId} (hK : va_K D cl [(cB, .byte), (cB2, .byte)] s) : cB = cB2 := Option.some.inj ((hK.2 0 _ rfl).2.symm.trans (hK.2 1 _ rfl).2)
theorem dJ7_copyOf_9075b_0 : decode cJ7_copyOf_9075b 0 = .ok (.iload_n 1, 1) := by decide +kernel
theorem dJ7_copyOf_9075b_1 : decode cJ7_copyOf_9075b 1 = .ok (.aload_n 0, 1) := by decide +kernel
theorem dJ7_copyOf_9075b_2 : decode cJ7_copyOf_9075b 2 = .ok (.arraylength, 1) := by decide +kernel
theorem dJ7_copyOf_9075b_3 : decode cJ7_copyOf_9075b 3 = .ok (.if_icmp .ne 11, 3) := by decide +kernel
theorem dJ7_copyOf_9075b_14 : decode cJ7_copyOf_9075b 14 = .ok (.iload_n 1, 1) := by decide +kernel
theorem dJ7_copyOf_9075b_15 : decode cJ7_copyOf_9075b 15 = .ok (.newarray .byte, 2) := by decide +kernel
theorem dJ7_copyOf_9075b_17 : decode cJ7_copyOf_9075b 17 = .ok (.astore_n 2, 1) := by decide +kernel
theorem dJ7_copyOf_9075b_18 : decode cJ7_copyOf_9075b 18 = .ok (.aload_n 0, 1) := by decide +kernel
theorem dJ7_copyOf_9075b_19 : decode cJ7_copyOf_9075b 19 = .ok (.iconst 0, 1) := by decide +kernel
theorem dJ7_copyOf_9075b_20 : decode cJ7_copyOf_9075b 20 = .ok (.aload_n 2, 1) := by decide +kernel
theorem dJ7_copyOf_9075b_21 : decode cJ7_copyOf_9075b 21 = .ok (.iconst 0, 1) := by decide +kernel
theorem dJ7_copyOf_9075b_22 : decode cJ7_copyOf_9075b 22 = .ok (.aload_n 0, 1) := by decide +kernel
theorem dJ7_copyOf_9075b_23 : decode cJ7_copyOf_9075b 23 = .ok (.arraylength, 1) := by decide +kernel
theorem dJ7_copyOf_9075b_24 : decode cJ7_copyOf_9075b 24 = .ok (.iload_n 1, 1) := by decide +kernel
theorem dJ7_copyOf_9075b_25 : decode cJ7_copyOf_9075b 25 = .ok (.invokestatic 304, 3) := by decide +kernel
theorem dJ7_copyOf_9075b_28 : decode cJ7_copyOf_9075b 28 = .ok (.invokestatic 150, 3) := by decide +kernel
theorem dJ7_copyOf_9075b_31 : decode cJ7_copyOf_9075b 31 = .ok (.aload_n 2, 1) := by decide +kernel
theorem dJ7_copyOf_9075b_32 : decode cJ7_copyOf_9075b 32 = .ok (.areturn, 1) := by decide +kernel
set_option maxHeartbeats 1000000 in
set_option maxRecDepth 100000 in
/-- Arrays.copyOf, more bytes -/
theorem zs_copyOf (l : Launch) {D : va_G} {sz : Nat} {cB : ClassId} {a cap : Nat} {f : Nat → Int32} {N : Int32} {N' : Nat} (hf : sb_Fit f) (hne : ¬ N = Int32.ofNat cap) (hn0 : ¬ N < 0) (hN' : N.toNatClampNeg = N') (hc31 : cap < 2 ^ 31) (hlt : ¬ N < Int32.ofNat cap) (hle : cap ≤ N') (hb9 : N' * 1 ≤ 536870912) : Met l yJ7_copyOf_9075b (.code yJ7_copyOf_9075b cJ7_copyOf_9075b 3 (some (.array .byte)) :: zj_gw) (mj_rm 1 (1) (N')) (va_Pc [.ref a, .int N] (fun U => U.heap.size = sz ∧ va_P D zj_cl [(a, .inl (cB, cap, .inl f))] U.heap ∧ va_K D zj_cl [(cB, .byte)] U ∧ va_D (fun _ => True) [(a, .inl (cB, cap, .inl f))])) (va_Qr (fun (_ : Unit) => True) (fun _ ra t => (va_P D zj_cl [(a, .inl (cB, cap, .inl f)), (ra, .inl (cB, N', .inl (va_cpy f (fun _ => 0) 0 0 cap)))] t.heap ∧ va_K D zj_cl [(cB, .byte)] t) ∧ va_D (va_A [(a, .inl (cB, cap, .inl f))] sz) [(a, .inl (cB, cap, .inl f)), (ra, .inl (cB, N', .inl (va_cpy f (fun _ => 0) 0 0 cap)))]) (va_A [(a, .inl (cB, cap, .inl f))] sz)) (1) (N') ((va_A [(a, .inl (cB, cap, .inl f))] sz)) := by
  refine Met.ofW (cc := cJ7_copyOf_9075b) (maxL := 3) (ret := some (.array .byte)) (by decide) rfl ?_
  intro p e s m args below meth c s₁ B hml hv
  obtain ⟨rfl, hsz, hP, hK, hD0⟩ := hv
  have hx := B.exec
  have hb := B.bytes
  have hr := B.returns
  have hts := atoms_spec (ws := .code yJ7_copyOf_9075b cJ7_copyOf_9075b 3 (some (.array .byte)) :: zj_gw) B.pre
  have hown : s.vm.findClass RJ7 = some m.cls := findClass_of_methodNamed B.named
  have hlocks := B.notSynchronized
  subst hsz
  have hD := hD0.self (sz := s.heap.size)
  generalize hAe : va_A [(a, .inl (cB, cap, .inl f))] s.heap.size = A at hD  ⊢
  have hA : ∀ q : Nat, s.heap.size ≤ q → A q := fun q h => by rw [← hAe]; exact Or.inr h
  have hS : va_S A s.heap s.heap [] := va_S.rf
  have hP : va_P D zj_cl [(a, .inl (cB, cap, .inl f))] s.heap := hP
  have hK : va_K D zj_cl [(cB, .byte)] s := hK
  have hl := lv_entry ([.ref a, .int N]) (n := 3) (Nat.le_of_ble_eq_true rfl)
  rw [lg_entry_eq]
  generalize (lg_sl ([.ref a, .int N]) ++ List.replicate (3 - (lg_sl ([.ref a, .int N])).length) Slot.unset).toArray = ls at hl ⊢
  have hl : lv_has ls 3 [(0, .ref a), (1, .int N)] := hl
  refine lv_iload_n hx hb dJ7_copyOf_9075b_0 rfl (lv_at hl 1 rfl) ?_
  refine lv_aload_n hx hb dJ7_copyOf_9075b_1 rfl (lv_at hl 0 rfl) ?_
  refine va_alen hx hb hK hP 0 0 rfl (ty := .byte) rfl (v := Int32.ofNat cap) rfl dJ7_copyOf_9075b_2 ?_
  refine lv_icmp_ne (tgt := 14) hx hb dJ7_copyOf_9075b_3 (by decide) (fun _ => ?_) (fun c_ => absurd c_ (hne))
  refine lv_iload_n hx hb dJ7_copyOf_9075b_14 rfl (lv_at hl 1 rfl) ?_
  refine va_newa (atype := .byte) (a0 := (N', .inl (fun _ => 0))) (N' := N') hx hb (hts _ (zj_t (q := 3057) (by decide +kernel) rfl)) rfl hK hP hD hS hA (fun _ => rfl) (hn0) (hN') (hb9) (Nat.le_of_ble_eq_true rfl) (by exact Nat.le_of_eq (Nat.zero_add _)) dJ7_copyOf_9075b_15 (fun ra cB2 H hK hP hD hS => ?_)
  obtain rfl : cB = cB2 := zj_same hK
  have hK : va_K D zj_cl [(cB, .byte)] s := hK.sub (tys' := [(cB, .byte)]) [0] rfl
  have hP : va_P D zj_cl [(a, .inl (cB, cap, .inl f)), (ra, .inl (cB, N', .inl (fun _ => 0)))] H := hP
  have hD : va_D A [(a, .inl (cB, cap, .inl f)), (ra, .inl (cB, N', .inl (fun _ => 0)))] := hD
  refine lv_astore_n (lv' := [(2, .ref ra), (0, .ref a), (1, .int N)]) hx hb dJ7_copyOf_9075b_17 rfl hl (by decide) rfl (fun ls hl => ?_)
  refine lv_aload_n hx hb dJ7_copyOf_9075b_18 rfl (lv_at hl 1 rfl) ?_
  refine lv_iconst (v := 0) hx hb dJ7_copyOf_9075b_19 (by decide) ?_
  refine lv_aload_n hx hb dJ7_copyOf_9075b_20 rfl (lv_at hl 0 rfl) ?_
  refine lv_iconst (v := 0) hx hb dJ7_copyOf_9075b_21 (by decide) ?_
  refine lv_aload_n hx hb dJ7_copyOf_9075b_22 rfl (lv_at hl 1 rfl) ?_
  refine va_alen hx hb hK hP 0 0 rfl (ty := .byte) rfl (v := Int32.ofNat cap) rfl dJ7_copyOf_9075b_23 ?_
  refine lv_iload_n hx hb dJ7_copyOf_9075b_24 rfl (lv_at hl 2 rfl) ?_
  refine va_mmin hx hb (hml.trans hl.1.symm) hown (hts _ (zj_t (q := 6226) (by decide +kernel) rfl)) (hts _ (List.mem_cons_of_mem _ (List.mem_append_right _ (mj_gw_of mj_x_smin rfl)))) (hts _ (List.mem_cons_of_mem _ (List.mem_append_right _ (mj_gw_of mj_x_math rfl)))) (hts _ (List.mem_cons_of_mem _ (List.mem_append_right _ (mj_gw_of mj_x_cmin rfl)))) (Nat.le_of_ble_eq_true rfl) (Nat.le_of_ble_eq_true rfl) (Nat.le_of_ble_eq_true rfl) (by exact Nat.le_of_eq (Nat.zero_add _)) dJ7_copyOf_9075b_25 ?_
  refine zj_top (y := Int32.ofNat cap) (if_neg hlt) ?_
  have hcl : (Int32.ofNat cap).toNatClampNeg = cap := nI_clamp hc31
  refine va_copyi hx hb (hml.trans hl.1.symm) hown (hts _ (zj_t (q := 6227) (by decide +kernel) rfl)) (hts _ (zj_t (q := 3192) (by decide +kernel) rfl)) (hts _ (zj_t (q := 3191) (by decide +kernel) rfl)) (hts _ (zj_t (q := 1018) (by decide +kernel) rfl)) hK hP hD hS 0 1 0 0 rfl rfl rfl rfl rfl (by decide) (by decide) (nI_pos hc31) (by rw [hcl, sb_cl0, Nat.zero_add]; exact Nat.le_refl _) (by rw [hcl, sb_cl0, Nat.zero_add]; exact hle) (fun i _ => hf _) (Nat.le_of_ble_eq_true rfl) (Nat.le_of_ble_eq_true rfl) dJ7_copyOf_9075b_28 (fun H locs hP hD hS => ?_)
  rw [hcl, sb_cl0] at hP hD
  have hP : va_P D zj_cl [(a, .inl (cB, cap, .inl f)), (ra, .inl (cB, N', .inl (va_cpy f (fun _ => 0) 0 0 cap)))] H := hP
  have hD : va_D A [(a, .inl (cB, cap, .inl f)), (ra, .inl (cB, N', .inl (va_cpy f (fun _ => 0) 0 0 cap)))] := hD
  refine lv_aload_n hx hb dJ7_copyOf_9075b_31 rfl (lv_at hl 0 rfl) ?_
  refine W.widen (k := 1) (n := N') (by omega) (by omega) ?_
  exact W.aret (v := .ref ra) (rt := .array .byte) hx hb hr (Or.inr ⟨_, rfl⟩) (Or.inr ⟨_, rfl⟩) (fun t ht hW => ⟨⟨(), ra, rfl, trivial, ⟨by rw [ht]; exact hP, va_K.moved hW.alike hK⟩, hD⟩, hS.F ht⟩) hS.2.2 dJ7_copyOf_9075b_32
