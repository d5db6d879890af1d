theorem zj_add (a b : Nat) : Int32.ofNat a + Int32.ofNat b = Int32.ofNat (a + b) := nI_add a b
theorem zj_dec (k : Nat) : Int32.ofNat (k + 1) + Int32.ofInt (-1) = Int32.ofNat k := by
  rw [← zj_add, Int32.add_assoc, show Int32.ofNat 1 + Int32.ofInt (-1) = 0 from by decide, Int32.add_zero]
/-- the digits' table -/
def zs_G (A : Nat → Prop) (d1 : Nat) (U : State) (h : Heap) : Prop := va_Z "java/lang/Integer" "DigitOnes" "[B" (.ref d1) A U h
theorem zs_G.moved {A : Nat → Prop} {d1 : Nat} {u U : State} {h : Heap} (hv : u.vm.Alike U.vm) (H : zs_G A d1 u h) : zs_G A d1 U h := va_Z.moved hv H
theorem zs_G.kept {A : Nat → Prop} {d1 : Nat} {U : State} {h h1 : Heap} (H : zs_G A d1 U h) (hq : ∀ a : Nat, a < h.size → ¬ A a → h1[a]? = h[a]?) : zs_G A d1 U h1 := va_Z.kept H hq
theorem zs_G.narrow {A B : Nat → Prop} {d1 : Nat} {U : State} {h : Heap} (H : zs_G A d1 U h) (hAB : ∀ q, B q → A q) : zs_G B d1 U h := va_Z.narrow H hAB
theorem zs_T.kept {A : Nat → Prop} {v n : Nat} {g : Nat → Int32} {U : State} {h h1 : Heap} (H : zs_T A v n g U h) (hq : ∀ a : Nat, a < h.size → ¬ A a → h1[a]? = h[a]?) : zs_T A v n g U h1 := va_T.kept H hq
theorem zs_T.narrow {A B : Nat → Prop} {v n : Nat} {g : Nat → Int32} {U : State} {h : Heap} (H : zs_T A v n g U h) (hAB : ∀ q, B q → A q) : zs_T B v n g U h := va_T.narrow H hAB
theorem dJ4_append_15ec4_0 : decode cJ4_append_15ec4 0 = .ok (.aload_n 0, 1) := by decide +kernel
theorem dJ4_append_15ec4_1 : decode cJ4_append_15ec4 1 = .ok (.aload_n 1, 1) := by decide +kernel
theorem dJ4_append_15ec4_2 : decode cJ4_append_15ec4 2 = .ok (.invokespecial 29, 3) := by decide +kernel
theorem dJ4_append_15ec4_5 : decode cJ4_append_15ec4 5 = .ok (.pop, 1) := by decide +kernel
theorem dJ4_append_15ec4_6 : decode cJ4_append_15ec4 6 = .ok (.aload_n 0, 1) := by decide +kernel
theorem dJ4_append_15ec4_7 : decode cJ4_append_15ec4 7 = .ok (.areturn, 1) := by decide +kernel
theorem dJ5_append_cf1ce_0 : decode cJ5_append_cf1ce 0 = .ok (.aload_n 1, 1) := by decide +kernel
theorem dJ5_append_cf1ce_1 : decode cJ5_append_cf1ce 1 = .ok (.ifnonnull 8, 3) := by decide +kernel
theorem dJ5_append_cf1ce_9 : decode cJ5_append_cf1ce 9 = .ok (.aload_n 1, 1) := by decide +kernel
theorem dJ5_append_cf1ce_10 : decode cJ5_append_cf1ce 10 = .ok (.invokevirtual 32, 3) := by decide +kernel
theorem dJ5_append_cf1ce_13 : decode cJ5_append_cf1ce 13 = .ok (.istore_n 2, 1) := by decide +kernel
theorem dJ5_append_cf1ce_14 : decode cJ5_append_cf1ce 14 = .ok (.aload_n 0, 1) := by decide +kernel
theorem dJ5_append_cf1ce_15 : decode cJ5_append_cf1ce 15 = .ok (.aload_n 0, 1) := by decide +kernel
theorem dJ5_append_cf1ce_16 : decode cJ5_append_cf1ce 16 = .ok (.getfield 79, 3) := by decide +kernel
theorem dJ5_append_cf1ce_19 : decode cJ5_append_cf1ce 19 = .ok (.iload_n 2, 1) := by decide +kernel
theorem dJ5_append_cf1ce_20 : decode cJ5_append_cf1ce 20 = .ok (.iadd, 1) := by decide +kernel
theorem dJ5_append_cf1ce_21 : decode cJ5_append_cf1ce 21 = .ok (.invokevirtual 100, 3) := by decide +kernel
theorem dJ5_append_cf1ce_24 : decode cJ5_append_cf1ce 24 = .ok (.aload_n 0, 1) := by decide +kernel
theorem dJ5_append_cf1ce_25 : decode cJ5_append_cf1ce 25 = .ok (.aload_n 0, 1) := by decide +kernel
theorem dJ5_append_cf1ce_26 : decode cJ5_append_cf1ce 26 = .ok (.getfield 79, 3) := by decide +kernel
theorem dJ5_append_cf1ce_29 : decode cJ5_append_cf1ce 29 = .ok (.aload_n 1, 1) := by decide +kernel
theorem dJ5_append_cf1ce_30 : decode cJ5_append_cf1ce 30 = .ok (.invokevirtual 208, 3) := by decide +kernel
theorem dJ5_append_cf1ce_33 : decode cJ5_append_cf1ce 33 = .ok (.aload_n 0, 1) := by decide +kernel
theorem dJ5_append_cf1ce_34 : decode cJ5_append_cf1ce 34 = .ok (.dup, 1) := by decide +kernel
theorem dJ5_append_cf1ce_35 : decode cJ5_append_cf1ce 35 = .ok (.getfield 79, 3) := by decide +kernel
theorem dJ5_append_cf1ce_38 : decode cJ5_append_cf1ce 38 = .ok (.iload_n 2, 1) := by decide +kernel
theorem dJ5_append_cf1ce_39 : decode cJ5_append_cf1ce 39 = .ok (.iadd, 1) := by decide +kernel
theorem dJ5_append_cf1ce_40 : decode cJ5_append_cf1ce 40 = .ok (.putfield 79, 3) := by decide +kernel
theorem dJ5_append_cf1ce_43 : decode cJ5_append_cf1ce 43 = .ok (.aload_n 0, 1) := by decide +kernel
theorem dJ5_append_cf1ce_44 : decode cJ5_append_cf1ce 44 = .ok (.areturn, 1) := by decide +kernel
set_option maxHeartbeats 1000000 in
set_option maxRecDepth 100000 in
theorem zs_aappR (l : Launch) {D : va_G} {sz : Nat} {cB : ClassId} {b a cap k : Nat} {f : Nat → Int32} {ml : Int32} {q v n : Nat} {g : Nat → Int32} (hg : sb_Fit g) (hk : k < 2 ^ 31) (hn31 : n < 2 ^ 31) (hq : Int32.ofNat (k + n) - Int32.ofNat cap ≤ 0) (hfit : k + n ≤ cap) : Met l yJ5_append_cf1ce (.code yJ5_append_cf1ce cJ5_append_cf1ce 3 (some (.object "java/lang/AbstractStringBuilder")) :: zj_gw) (mj_rm 4 (0) (0)) (va_Pc [.ref b, .ref q] (fun U => U.heap.size = sz ∧ va_P D zj_cl [(b, .inr (0, [.ref a, .int 0, .int ml, .int (Int32.ofNat k)])), (a, .inl (cB, cap, .inl f))] U.heap ∧ va_K D zj_cl [(cB, .byte)] U ∧ va_D (fun _ => True) [(b, .inr (0, [.ref a, .int 0, .int ml, .int (Int32.ofNat k)])), (a, .inl (cB, cap, .inl f))] ∧ zs_C (va_A [(b, .inr (0, [.ref a, .int 0, .int ml, .int (Int32.ofNat k)])), (a, .inl (cB, cap, .inl f))] sz) U U.heap ∧ zs_F (va_A [(b, .inr (0, [.ref a, .int 0, .int ml, .int (Int32.ofNat k)])), (a, .inl (cB, cap, .inl f))] sz) q v n g U U.heap)) (va_Qr (fun (_ : Unit) => True) (fun _ b2 t => b = b2 ∧ (va_P D zj_cl [(b, .inr (0, [.ref a, .int 0, .int ml, .int (Int32.ofNat (k + n))])), (a, .inl (cB, cap, .inl (va_cpy g f 0 k n)))] t.heap ∧ va_K D zj_cl [(cB, .byte)] t) ∧ va_D (va_A [(b, .inr (0, [.ref a, .int 0, .int ml, .int (Int32.ofNat k)])), (a, .inl (cB, cap, .inl f))] sz) [(b, .inr (0, [.ref a, .int 0, .int ml, .int (Int32.ofNat (k + n))])), (a, .inl (cB, cap, .inl (va_cpy g f 0 k n)))]) (va_A [(b, .inr (0, [.ref a, .int 0, .int ml, .int (Int32.ofNat k)])), (a, .inl (cB, cap, .inl f))] sz)) (0) (0) ((va_A [(b, .inr (0, [.ref a, .int 0, .int ml, .int (Int32.ofNat k)])), (a, .inl (cB, cap, .inl f))] sz)) := by
  refine Met.ofW (cc := cJ5_append_cf1ce) (maxL := 3) (ret := some (.object "java/lang/AbstractStringBuilder")) (by decide) rfl ?_
  intro p e s m args below meth c s₁ B hml hv
  obtain ⟨rfl, hsz, hP, hK, hD0, hC, hF⟩ := hv
  have hx := B.exec
  have hb := B.bytes
  have hr := B.returns
  have hts := atoms_spec (ws := .code yJ5_append_cf1ce cJ5_append_cf1ce 3 (some (.object "java/lang/AbstractStringBuilder")) :: zj_gw) B.pre
  have hown : s.vm.findClass RJ5 = some m.cls := findClass_of_methodNamed B.named
  have hlocks := B.notSynchronized
  subst hsz
  have hD := hD0.self (sz := s.heap.size)
  generalize hAe : va_A [(b, .inr (0, [.ref a, .int 0, .int ml, .int (Int32.ofNat k)])), (a, .inl (cB, cap, .inl f))] s.heap.size = A at hD hC hF ⊢
  have hA : ∀ q : Nat, s.heap.size ≤ q → A q := fun q h => by rw [← hAe]; exact Or.inr h
  have hS : va_S A s.heap s.heap [] := va_S.rf
  have hP : va_P D zj_cl [(b, .inr (0, [.ref a, .int 0, .int ml, .int (Int32.ofNat k)])), (a, .inl (cB, cap, .inl f))] s.heap := hP
  have hK : va_K D zj_cl [(cB, .byte)] s := hK
  have hl := lv_entry ([.ref b, .ref q]) (n := 3) (Nat.le_of_ble_eq_true rfl)
  rw [lg_entry_eq]
  generalize (lg_sl ([.ref b, .ref q]) ++ List.replicate (3 - (lg_sl ([.ref b, .ref q])).length) Slot.unset).toArray = ls at hl ⊢
  have hl : lv_has ls 3 [(0, .ref b), (1, .ref q)] := hl
  refine lv_aload_n hx hb dJ5_append_cf1ce_0 rfl (lv_at hl 1 rfl) ?_
  refine lv_ifnonnull (tgt := 9) hx hb dJ5_append_cf1ce_1 (by decide) ?_
  refine lv_aload_n hx hb dJ5_append_cf1ce_9 rfl (lv_at hl 1 rfl) ?_
  refine va_calli (va_runV (As := []) (rest := []) ⟨hx, hb, hml, hown, hts⟩ (zs_length l) (cwV (own := RJ5) (C := RJ0) 0 hts (zj_good (zj_V (zj_m (q := 7008) (by decide +kernel) rfl) (zj_m (q := 5088) (by decide +kernel) rfl) (zj_m (q := 5089) (by decide +kernel) rfl) (zj_m (q := 1013) (by decide +kernel) rfl) (zj_m (q := 5090) (by decide +kernel) rfl))) rfl rfl rfl (by decide +kernel) ⟨Nat.le_of_ble_eq_true rfl, Nat.le_of_ble_eq_true rfl⟩) ⟨fun a U g mk q => ⟨q.1, q.2.1, zs_C.moved (u := U) (U := U.calling g mk a) (Vm.Alike.refl U.vm) q.2.2.1, zs_F.moved (u := U) (U := U.calling g mk a) (Vm.Alike.refl U.vm) q.2.2.2⟩, va_Orecv hF.1 hS, fun U hU hW => ⟨rfl, hU, by (try rw [hU]); exact zs_C.moved hW.alike (hC.narrow (fun _ h => h.elim)), by (try rw [hU]); exact zs_F.moved hW.alike (hF.narrow (fun _ h => h.elim))⟩⟩ rfl rfl hl.1 rfl (lv_room (Nat.le_of_ble_eq_true rfl)) dJ5_append_cf1ce_10 ⟨Nat.zero_le _, Nat.zero_le _⟩) hS (fun _ _ h => h.elim) (fun _ h => h.elim) (fun r_ u_ t_ H1 locs1 ht hvm hw hB hz1 hk1 hS => ?_)
  obtain rfl : H1 = s.heap := ht.symm.trans hB
  rw [hw]
  refine lv_istore_n (lv' := [(2, .int (Int32.ofNat n)), (0, .ref b), (1, .ref q)]) hx hb dJ5_append_cf1ce_13 rfl hl (by decide) rfl (fun ls hl => ?_)
  refine lv_aload_n hx hb dJ5_append_cf1ce_14 rfl (lv_at hl 1 rfl) ?_
  refine lv_aload_n hx hb dJ5_append_cf1ce_15 rfl (lv_at hl 1 rfl) ?_
  refine va_get (D := D) (ci := 0) (v := .int (Int32.ofNat k)) (C := RJ4) (T := TJ4) (N := 4) hx hb hts zj_hb hown hK hP 0 rfl rfl 3 (by decide) (hts _ (zj_t (q := 6178) (by decide +kernel) rfl)) (fun _ h9 => h9) rfl dJ5_append_cf1ce_16 ?_
  refine lv_iload_n hx hb dJ5_append_cf1ce_19 rfl (lv_at hl 0 rfl) ?_
  refine lv_iadd hx hb dJ5_append_cf1ce_20 ?_
  refine zj_top (y := Int32.ofNat (k + n)) (zj_add k n) ?_
  refine va_callv (va_runU (As := [.int (Int32.ofNat (k + n))]) (rest := []) ⟨hx, hb, hml, hown, hts⟩ (zs_ensR l hq) (va_cwU 1 hts (zj_good (zj_U (own := RJ5) (C := RJ4) (owner := RJ5) (x' := yJ5_ensureCapacityInternal_d00df) (zj_m (q := 6199) (by decide +kernel) rfl) (zj_m (q := 7135) (by decide +kernel) rfl) zj_s1 (zj_m (q := 6201) (by decide +kernel) rfl) (zj_m (q := 1023) (by decide +kernel) rfl) (zj_m (q := 6202) (by decide +kernel) rfl))) rfl rfl rfl rfl (by decide +kernel) ⟨Nat.le_of_ble_eq_true rfl, Nat.le_of_ble_eq_true rfl⟩) ⟨fun a U g mk q => ⟨q.1, q.2.1, zs_W.moved (u := U) (U := U.calling g mk a) (Vm.Alike.refl U.vm) q.2.2⟩, va_recv hK hP (ci := 0) (q0 := 0) rfl rfl, fun U hU hW => ⟨rfl, hU, by (try rw [hU]); exact zs_W.moved hW.alike (show zs_W D [(b, .inr (0, [.ref a, .int 0, .int ml, .int (Int32.ofNat k)])), (a, .inl (cB, cap, .inl f))] [(cB, .byte)] s s.heap from ⟨hP, hK⟩)⟩⟩ rfl rfl hl.1 rfl (lv_room (Nat.le_of_ble_eq_true rfl)) dJ5_append_cf1ce_21 ⟨Nat.zero_le _, Nat.zero_le _⟩) hS (fun _ _ h => h.elim) (fun _ h => h.elim) (fun u_ t_ H1 locs1 ht hvm hw hB hz1 hk1 hS => ?_)
  obtain rfl : H1 = s.heap := ht.symm.trans hB
  refine lv_aload_n hx hb dJ5_append_cf1ce_24 rfl (lv_at hl 1 rfl) ?_
  refine lv_aload_n hx hb dJ5_append_cf1ce_25 rfl (lv_at hl 1 rfl) ?_
  refine va_get (D := D) (ci := 0) (v := .int (Int32.ofNat k)) (C := RJ4) (T := TJ4) (N := 4) hx hb hts zj_hb hown hK hP 0 rfl rfl 3 (by decide) (hts _ (zj_t (q := 6178) (by decide +kernel) rfl)) (fun _ h9 => h9) rfl dJ5_append_cf1ce_26 ?_
  refine lv_aload_n hx hb dJ5_append_cf1ce_29 rfl (lv_at hl 2 rfl) ?_
  have hPc := hP.sub (ws' := [(b, .inr (0, [.ref a, .int 0, .int ml, .int (Int32.ofNat k)])), (a, .inl (cB, cap, .inl f))]) [0, 1] rfl
  have hDc := hD.sub (ws' := [(b, .inr (0, [.ref a, .int 0, .int ml, .int (Int32.ofNat k)])), (a, .inl (cB, cap, .inl f))]) [0, 1] (by decide) rfl
  have hFc := va_free (wc := [(b, .inr (0, [.ref a, .int 0, .int ml, .int (Int32.ofNat k)])), (a, .inl (cB, cap, .inl f))]) hD hS hA [0, 1] rfl
  refine va_callv (va_runU (As := [.int (Int32.ofNat k), .ref q]) (rest := []) ⟨hx, hb, hml, hown, hts⟩ (zs_putS l (sz := s.heap.size) (cB := cB) (a := a) (cap := cap) (f := f) (k := k) hg hk hn31 hfit) (va_cwU 2 hts (zj_good (zj_U (own := RJ5) (C := RJ4) (owner := RJ5) (x' := yJ5_putStringAt_47b60) (zj_m (q := 7009) (by decide +kernel) rfl) (zj_m (q := 7137) (by decide +kernel) rfl) zj_s3 (zj_m (q := 7011) (by decide +kernel) rfl) (zj_m (q := 1023) (by decide +kernel) rfl) (zj_m (q := 7012) (by decide +kernel) rfl))) rfl rfl rfl rfl (by decide +kernel) ⟨Nat.le_of_ble_eq_true rfl, Nat.le_of_ble_eq_true rfl⟩) ⟨fun a U g mk q => ⟨q.1, q.2.1, q.2.2.1, va_K.moved (u := U) (U := U.calling g mk a) (Vm.Alike.refl U.vm) q.2.2.2.1, q.2.2.2.2.1, zs_C.moved (u := U) (U := U.calling g mk a) (Vm.Alike.refl U.vm) q.2.2.2.2.2.1, zs_F.moved (u := U) (U := U.calling g mk a) (Vm.Alike.refl U.vm) q.2.2.2.2.2.2⟩, va_recv hK hP (ci := 0) (q0 := 0) rfl rfl, fun U hU hW => ⟨rfl, by rw [hU], by rw [hU]; exact hPc, va_K.moved hW.alike hK, hDc.weaken (fun _ _ _ _ => trivial), by (try rw [hU]); exact zs_C.moved hW.alike (((hC.kept hS.2.1).narrow hFc)), by (try rw [hU]); exact zs_F.moved hW.alike (((hF.kept hS.2.1).narrow hFc))⟩⟩ rfl rfl hl.1 rfl (lv_room (Nat.le_of_ble_eq_true rfl)) dJ5_append_cf1ce_30 ⟨Nat.zero_le _, Nat.zero_le _⟩) hS (fun q _ h => hFc q h) hFc (fun u_ t_ H1 locs ht hvm hw hB hz1 hk1 hS => ?_)
  obtain ⟨⟨hP1, hK1⟩, hD1⟩ := hB
  rw [ht] at hP1
  obtain ⟨hP, hD⟩ := va_join (wr := []) (w1 := [(b, .inr (0, [.ref a, .int 0, .int ml, .int (Int32.ofNat k)])), (a, .inl (cB, cap, .inl (va_cpy g f 0 k n)))]) hP hD [0, 1] [] rfl rfl (by decide) (by decide) hk1 hFc hP1 hD1
  generalize H1 = H at hP hS ⊢
  have hP : va_P D zj_cl [(b, .inr (0, [.ref a, .int 0, .int ml, .int (Int32.ofNat k)])), (a, .inl (cB, cap, .inl (va_cpy g f 0 k n)))] H := hP
  have hD : va_D A [(b, .inr (0, [.ref a, .int 0, .int ml, .int (Int32.ofNat k)])), (a, .inl (cB, cap, .inl (va_cpy g f 0 k n)))] := hD
  refine lv_aload_n hx hb dJ5_append_cf1ce_33 rfl (lv_at hl 1 rfl) ?_
  refine lv_dup hx hb dJ5_append_cf1ce_34 rfl ?_
  refine va_get (D := D) (ci := 0) (v := .int (Int32.ofNat k)) (C := RJ4) (T := TJ4) (N := 4) hx hb hts zj_hb hown hK hP 0 rfl rfl 3 (by decide) (hts _ (zj_t (q := 6178) (by decide +kernel) rfl)) (fun _ h9 => h9) rfl dJ5_append_cf1ce_35 ?_
  refine lv_iload_n hx hb dJ5_append_cf1ce_38 rfl (lv_at hl 0 rfl) ?_
  refine lv_iadd hx hb dJ5_append_cf1ce_39 ?_
  refine zj_top (y := Int32.ofNat (k + n)) (zj_add k n) ?_
  refine va_put (D := D) (ci := 0) (v := .int (Int32.ofNat (k + n))) (ty := .int) (C := RJ4) (T := TJ4) (N := 4) hx hb hts zj_hb tyJ4 tyJ4_ok nmJ4 hown hK hP hD hS 0 rfl rfl 3 (by decide) (hts _ (zj_t (q := 6178) (by decide +kernel) rfl)) (fun _ h9 => h9) rfl  (by decide +kernel) rfl rfl (Nat.le_of_ble_eq_true rfl) dJ5_append_cf1ce_40 (fun H locs hP hD hS => ?_)
  have hP : va_P D zj_cl [(b, .inr (0, [.ref a, .int 0, .int ml, .int (Int32.ofNat (k + n))])), (a, .inl (cB, cap, .inl (va_cpy g f 0 k n)))] H := hP
  have hD : va_D A [(b, .inr (0, [.ref a, .int 0, .int ml, .int (Int32.ofNat (k + n))])), (a, .inl (cB, cap, .inl (va_cpy g f 0 k n)))] := hD
  refine lv_aload_n hx hb dJ5_append_cf1ce_43 rfl (lv_at hl 1 rfl) ?_
  exact W.aret (v := .ref b) (rt := (.object "java/lang/AbstractStringBuilder")) hx hb hr (Or.inl ⟨_, rfl⟩) (Or.inr ⟨_, rfl⟩) (fun t ht hW => ⟨⟨(), b, rfl, trivial, rfl, ⟨by rw [ht]; exact hP, va_K.moved hW.alike hK⟩, hD⟩, hS.F ht⟩) hS.2.2 dJ5_append_cf1ce_44
set_option maxHeartbeats 1000000 in
set_option maxRecDepth 100000 in
/-- StringBuilder.append(String) -/
theorem zs_appR (l : Launch) {D : va_G} {sz : Nat} {cB : ClassId} {b a cap k : Nat} {f : Nat → Int32} {ml : Int32} {q v n : Nat} {g : Nat → Int32} (hg : sb_Fit g) (hk : k < 2 ^ 31) (hn31 : n < 2 ^ 31) (hq : Int32.ofNat (k + n) - Int32.ofNat cap ≤ 0) (hfit : k + n ≤ cap) : Met l yJ4_append_15ec4 (.code yJ4_append_15ec4 cJ4_append_15ec4 2 (some (.object "java/lang/StringBuilder")) :: zj_gw) (mj_rm 5 (0) (0)) (va_Pc [.ref b, .ref q] (fun U => U.heap.size = sz ∧ va_P D zj_cl [(b, .inr (0, [.ref a, .int 0, .int ml, .int (Int32.ofNat k)])), (a, .inl (cB, cap, .inl f))] U.heap ∧ va_K D zj_cl [(cB, .byte)] U ∧ va_D (fun _ => True) [(b, .inr (0, [.ref a, .int 0, .int ml, .int (Int32.ofNat k)])), (a, .inl (cB, cap, .inl f))] ∧ zs_C (va_A [(b, .inr (0, [.ref a, .int 0, .int ml, .int (Int32.ofNat k)])), (a, .inl (cB, cap, .inl f))] sz) U U.heap ∧ zs_F (va_A [(b, .inr (0, [.ref a, .int 0, .int ml, .int (Int32.ofNat k)])), (a, .inl (cB, cap, .inl f))] sz) q v n g U U.heap)) (va_Qr (fun (_ : Unit) => True) (fun _ b2 t => b = b2 ∧ (va_P D zj_cl [(b, .inr (0, [.ref a, .int 0, .int ml, .int (Int32.ofNat (k + n))])), (a, .inl (cB, cap, .inl (va_cpy g f 0 k n)))] t.heap ∧ va_K D zj_cl [(cB, .byte)] t) ∧ va_D (va_A [(b, .inr (0, [.ref a, .int 0, .int ml, .int (Int32.ofNat k)])), (a, .inl (cB, cap, .inl f))] sz) [(b, .inr (0, [.ref a, .int 0, .int ml, .int (Int32.ofNat (k + n))])), (a, .inl (cB, cap, .inl (va_cpy g f 0 k n)))]) (va_A [(b, .inr (0, [.ref a, .int 0, .int ml, .int (Int32.ofNat k)])), (a, .inl (cB, cap, .inl f))] sz)) (0) (0) ((va_A [(b, .inr (0, [.ref a, .int 0, .int ml, .int (Int32.ofNat k)])), (a, .inl (cB, cap, .inl f))] sz)) := by
  refine Met.ofW (cc := cJ4_append_15ec4) (maxL := 2) (ret := some (.object "java/lang/StringBuilder")) (by decide) rfl ?_
  intro p e s m args below meth c s₁ B hml hv
  obtain ⟨rfl, hsz, hP, hK, hD0, hC, hF⟩ := hv
  have hx := B.exec
  have hb := B.bytes
  have hr := B.returns
  have hts := atoms_spec (ws := .code yJ4_append_15ec4 cJ4_append_15ec4 2 (some (.object "java/lang/StringBuilder")) :: zj_gw) B.pre
  have hown : s.vm.findClass RJ4 = some m.cls := findClass_of_methodNamed B.named
  have hlocks := B.notSynchronized
  subst hsz
  have hD := hD0.self (sz := s.heap.size)
  generalize hAe : va_A [(b, .inr (0, [.ref a, .int 0, .int ml, .int (Int32.ofNat k)])), (a, .inl (cB, cap, .inl f))] s.heap.size = A at hD hC hF ⊢
  have hA : ∀ q : Nat, s.heap.size ≤ q → A q := fun q h => by rw [← hAe]; exact Or.inr h
  have hS : va_S A s.heap s.heap [] := va_S.rf
  have hP : va_P D zj_cl [(b, .inr (0, [.ref a, .int 0, .int ml, .int (Int32.ofNat k)])), (a, .inl (cB, cap, .inl f))] s.heap := hP
  have hK : va_K D zj_cl [(cB, .byte)] s := hK
  have hl := lv_entry ([.ref b, .ref q]) (n := 2) (Nat.le_of_ble_eq_true rfl)
  rw [lg_entry_eq]
  generalize (lg_sl ([.ref b, .ref q]) ++ List.replicate (2 - (lg_sl ([.ref b, .ref q])).length) Slot.unset).toArray = ls at hl ⊢
  have hl : lv_has ls 2 [(0, .ref b), (1, .ref q)] := hl
  refine lv_aload_n hx hb dJ4_append_15ec4_0 rfl (lv_at hl 0 rfl) ?_
  refine lv_aload_n hx hb dJ4_append_15ec4_1 rfl (lv_at hl 1 rfl) ?_
  have hPc := hP.sub (ws' := [(b, .inr (0, [.ref a, .int 0, .int ml, .int (Int32.ofNat k)])), (a, .inl (cB, cap, .inl f))]) [0, 1] rfl
  have hDc := hD.sub (ws' := [(b, .inr (0, [.ref a, .int 0, .int ml, .int (Int32.ofNat k)])), (a, .inl (cB, cap, .inl f))]) [0, 1] (by decide) rfl
  have hFc := va_free (wc := [(b, .inr (0, [.ref a, .int 0, .int ml, .int (Int32.ofNat k)])), (a, .inl (cB, cap, .inl f))]) hD hS hA [0, 1] rfl
  refine va_callr (va_runSU (As := [.ref q]) (rest := []) (hK.1 0 _ rfl).2 ⟨hx, hb, hml, hown, hts⟩ (zs_aappR l (sz := s.heap.size) (cB := cB) (a := a) (cap := cap) (f := f) (k := k) hg hk hn31 hq hfit) (va_cwSU 1 hts (zj_good (zj_SU (own := RJ4) (y := yJ5_append_cf1ce) (zj_m (q := 6192) (by decide +kernel) rfl) (zj_m (q := 7133) (by decide +kernel) rfl) (zj_m (q := 6187) (by decide +kernel) rfl) (zj_m (q := 6193) (by decide +kernel) rfl) (zj_m (q := 1023) (by decide +kernel) rfl) (zj_m (q := 6194) (by decide +kernel) rfl))) rfl rfl rfl (by decide +kernel) ⟨Nat.le_of_ble_eq_true rfl, Nat.le_of_ble_eq_true rfl⟩) ⟨fun a U g mk q => ⟨q.1, q.2.1, q.2.2.1, va_K.moved (u := U) (U := U.calling g mk a) (Vm.Alike.refl U.vm) q.2.2.2.1, q.2.2.2.2.1, zs_C.moved (u := U) (U := U.calling g mk a) (Vm.Alike.refl U.vm) q.2.2.2.2.2.1, zs_F.moved (u := U) (U := U.calling g mk a) (Vm.Alike.refl U.vm) q.2.2.2.2.2.2⟩, va_recv hK hP (ci := 0) (q0 := 0) rfl rfl, fun U hU hW => ⟨rfl, by rw [hU], by rw [hU]; exact hPc, va_K.moved hW.alike hK, hDc.weaken (fun _ _ _ _ => trivial), by (try rw [hU]); exact zs_C.moved hW.alike ((hC.narrow hFc)), by (try rw [hU]); exact zs_F.moved hW.alike ((hF.narrow hFc))⟩⟩ rfl rfl hl.1 rfl (lv_room (Nat.le_of_ble_eq_true rfl)) dJ4_append_15ec4_2 ⟨Nat.zero_le _, Nat.zero_le _⟩) hS (fun q _ h => hFc q h) hFc (fun u_ b2 t_ H1 locs ht hvm hw hB hz1 hk1 hS => ?_)
  obtain ⟨rfl, hB⟩ := hB
  obtain ⟨⟨hP1, hK1⟩, hD1⟩ := hB
  rw [ht] at hP1
  obtain ⟨hP, hD⟩ := va_join (wr := []) (w1 := [(b, .inr (0, [.ref a, .int 0, .int ml, .int (Int32.ofNat (k + n))])), (a, .inl (cB, cap, .inl (va_cpy g f 0 k n)))]) hP hD [0, 1] [] rfl rfl (by decide) (by decide) hk1 hFc hP1 hD1
  generalize H1 = H at hP hS ⊢
  have hP : va_P D zj_cl [(b, .inr (0, [.ref a, .int 0, .int ml, .int (Int32.ofNat (k + n))])), (a, .inl (cB, cap, .inl (va_cpy g f 0 k n)))] H := hP
  have hD : va_D A [(b, .inr (0, [.ref a, .int 0, .int ml, .int (Int32.ofNat (k + n))])), (a, .inl (cB, cap, .inl (va_cpy g f 0 k n)))] := hD
  refine lv_pop hx hb dJ4_append_15ec4_5 rfl ?_
  refine lv_aload_n hx hb dJ4_append_15ec4_6 rfl (lv_at hl 0 rfl) ?_
  exact W.aret (v := .ref b) (rt := (.object "java/lang/StringBuilder")) hx hb hr (Or.inl ⟨_, rfl⟩) (Or.inr ⟨_, rfl⟩) (fun t ht hW => ⟨⟨(), b, rfl, trivial, rfl, ⟨by rw [ht]; exact hP, va_K.moved hW.alike hK⟩, hD⟩, hS.F ht⟩) hS.2.2 dJ4_append_15ec4_7
set_option maxHeartbeats 1000000 in
set_option maxRecDepth 100000 in
theorem zs_aappG (l : Launch) {D : va_G} {sz : Nat} {cB : ClassId} {b a cap k : Nat} {f : Nat → Int32} {ml : Int32} {q v n : Nat} {g : Nat → Int32} (hg : sb_Fit g) (hk : k < 2 ^ 31) (hn31 : n < 2 ^ 31) {N : Int32} {N' : Nat} (hq : ¬ Int32.ofNat (k + n) - Int32.ofNat cap ≤ 0) (hN : Int32.ofNat cap + (if Int32.ofNat (k + n) - Int32.ofNat cap < Int32.ofNat cap + 2 then Int32.ofNat cap + 2 else Int32.ofNat (k + n) - Int32.ofNat cap) = N) (h0N : ¬ N ≤ 0) (h1N : ¬ 2147483639 < N) (h2N : ¬ N = 2147483647) (hf : sb_Fit f) (hne : ¬ N = Int32.ofNat cap) (hn0 : ¬ N < 0) (hN' : N.toNatClampNeg = N') (hc31 : cap < 2 ^ 31) (hlt : ¬ N < Int32.ofNat cap) (hle : cap ≤ N') (hb9 : N' * 1 ≤ 536870912) (hfit : k + n ≤ N') : Met l yJ5_append_cf1ce (.code yJ5_append_cf1ce cJ5_append_cf1ce 3 (some (.object "java/lang/AbstractStringBuilder")) :: zj_gw) (mj_rm 4 (1) (N')) (va_Pc [.ref b, .ref q] (fun U => U.heap.size = sz ∧ va_P D zj_cl [(b, .inr (0, [.ref a, .int 0, .int ml, .int (Int32.ofNat k)])), (a, .inl (cB, cap, .inl f))] U.heap ∧ va_K D zj_cl [(cB, .byte)] U ∧ va_D (fun _ => True) [(b, .inr (0, [.ref a, .int 0, .int ml, .int (Int32.ofNat k)])), (a, .inl (cB, cap, .inl f))] ∧ zs_C (va_A [(b, .inr (0, [.ref a, .int 0, .int ml, .int (Int32.ofNat k)])), (a, .inl (cB, cap, .inl f))] sz) U U.heap ∧ zs_F (va_A [(b, .inr (0, [.ref a, .int 0, .int ml, .int (Int32.ofNat k)])), (a, .inl (cB, cap, .inl f))] sz) q v n g U U.heap)) (va_Qr (fun (_ : Nat) => True) (fun ra b2 t => b = b2 ∧ (va_P D zj_cl [(b, .inr (0, [.ref ra, .int 0, .int ml, .int (Int32.ofNat (k + n))])), (ra, .inl (cB, N', .inl (va_cpy g (va_cpy f (fun _ => 0) 0 0 cap) 0 k n)))] t.heap ∧ va_K D zj_cl [(cB, .byte)] t) ∧ va_D (va_A [(b, .inr (0, [.ref a, .int 0, .int ml, .int (Int32.ofNat k)])), (a, .inl (cB, cap, .inl f))] sz) [(b, .inr (0, [.ref ra, .int 0, .int ml, .int (Int32.ofNat (k + n))])), (ra, .inl (cB, N', .inl (va_cpy g (va_cpy f (fun _ => 0) 0 0 cap) 0 k n)))]) (va_A [(b, .inr (0, [.ref a, .int 0, .int ml, .int (Int32.ofNat k)])), (a, .inl (cB, cap, .inl f))] sz)) (1) (N') ((va_A [(b, .inr (0, [.ref a, .int 0, .int ml, .int (Int32.ofNat k)])), (a, .inl (cB, cap, .inl f))] sz)) := by
  refine Met.ofW (cc := cJ5_append_cf1ce) (maxL := 3) (ret := some (.object "java/lang/AbstractStringBuilder")) (by decide) rfl ?_
  intro p e s m args below meth c s₁ B hml hv
  obtain ⟨rfl, hsz, hP, hK, hD0, hC, hF⟩ := hv
  have hx := B.exec
  have hb := B.bytes
  have hr := B.returns
  have hts := atoms_spec (ws := .code yJ5_append_cf1ce cJ5_append_cf1ce 3 (some (.object "java/lang/AbstractStringBuilder")) :: zj_gw) B.pre
  have hown : s.vm.findClass RJ5 = some m.cls := findClass_of_methodNamed B.named
  have hlocks := B.notSynchronized
  subst hsz
  have hD := hD0.self (sz := s.heap.size)
  generalize hAe : va_A [(b, .inr (0, [.ref a, .int 0, .int ml, .int (Int32.ofNat k)])), (a, .inl (cB, cap, .inl f))] s.heap.size = A at hD hC hF ⊢
  have hA : ∀ q : Nat, s.heap.size ≤ q → A q := fun q h => by rw [← hAe]; exact Or.inr h
  have hS : va_S A s.heap s.heap [] := va_S.rf
  have hP : va_P D zj_cl [(b, .inr (0, [.ref a, .int 0, .int ml, .int (Int32.ofNat k)])), (a, .inl (cB, cap, .inl f))] s.heap := hP
  have hK : va_K D zj_cl [(cB, .byte)] s := hK
  have hl := lv_entry ([.ref b, .ref q]) (n := 3) (Nat.le_of_ble_eq_true rfl)
  rw [lg_entry_eq]
  generalize (lg_sl ([.ref b, .ref q]) ++ List.replicate (3 - (lg_sl ([.ref b, .ref q])).length) Slot.unset).toArray = ls at hl ⊢
  have hl : lv_has ls 3 [(0, .ref b), (1, .ref q)] := hl
  refine lv_aload_n hx hb dJ5_append_cf1ce_0 rfl (lv_at hl 1 rfl) ?_
  refine lv_ifnonnull (tgt := 9) hx hb dJ5_append_cf1ce_1 (by decide) ?_
  refine lv_aload_n hx hb dJ5_append_cf1ce_9 rfl (lv_at hl 1 rfl) ?_
  refine va_calli (va_runV (As := []) (rest := []) ⟨hx, hb, hml, hown, hts⟩ (zs_length l) (cwV (own := RJ5) (C := RJ0) 0 hts (zj_good (zj_V (zj_m (q := 7008) (by decide +kernel) rfl) (zj_m (q := 5088) (by decide +kernel) rfl) (zj_m (q := 5089) (by decide +kernel) rfl) (zj_m (q := 1013) (by decide +kernel) rfl) (zj_m (q := 5090) (by decide +kernel) rfl))) rfl rfl rfl (by decide +kernel) ⟨Nat.le_of_ble_eq_true rfl, Nat.le_of_ble_eq_true rfl⟩) ⟨fun a U g mk q => ⟨q.1, q.2.1, zs_C.moved (u := U) (U := U.calling g mk a) (Vm.Alike.refl U.vm) q.2.2.1, zs_F.moved (u := U) (U := U.calling g mk a) (Vm.Alike.refl U.vm) q.2.2.2⟩, va_Orecv hF.1 hS, fun U hU hW => ⟨rfl, hU, by (try rw [hU]); exact zs_C.moved hW.alike (hC.narrow (fun _ h => h.elim)), by (try rw [hU]); exact zs_F.moved hW.alike (hF.narrow (fun _ h => h.elim))⟩⟩ rfl rfl hl.1 rfl (lv_room (Nat.le_of_ble_eq_true rfl)) dJ5_append_cf1ce_10 ⟨Nat.zero_le _, Nat.zero_le _⟩) hS (fun _ _ h => h.elim) (fun _ h => h.elim) (fun r_ u_ t_ H1 locs1 ht hvm hw hB hz1 hk1 hS => ?_)
  obtain rfl : H1 = s.heap := ht.symm.trans hB
  rw [hw]
  refine lv_istore_n (lv' := [(2, .int (Int32.ofNat n)), (0, .ref b), (1, .ref q)]) hx hb dJ5_append_cf1ce_13 rfl hl (by decide) rfl (fun ls hl => ?_)
  refine lv_aload_n hx hb dJ5_append_cf1ce_14 rfl (lv_at hl 1 rfl) ?_
  refine lv_aload_n hx hb dJ5_append_cf1ce_15 rfl (lv_at hl 1 rfl) ?_
  refine va_get (D := D) (ci := 0) (v := .int (Int32.ofNat k)) (C := RJ4) (T := TJ4) (N := 4) hx hb hts zj_hb hown hK hP 0 rfl rfl 3 (by decide) (hts _ (zj_t (q := 6178) (by decide +kernel) rfl)) (fun _ h9 => h9) rfl dJ5_append_cf1ce_16 ?_
  refine lv_iload_n hx hb dJ5_append_cf1ce_19 rfl (lv_at hl 0 rfl) ?_
  refine lv_iadd hx hb dJ5_append_cf1ce_20 ?_
  refine zj_top (y := Int32.ofNat (k + n)) (zj_add k n) ?_
  have hPc := hP.sub (ws' := [(b, .inr (0, [.ref a, .int 0, .int ml, .int (Int32.ofNat k)])), (a, .inl (cB, cap, .inl f))]) [0, 1] rfl
  have hDc := hD.sub (ws' := [(b, .inr (0, [.ref a, .int 0, .int ml, .int (Int32.ofNat k)])), (a, .inl (cB, cap, .inl f))]) [0, 1] (by decide) rfl
  have hFc := va_free (wc := [(b, .inr (0, [.ref a, .int 0, .int ml, .int (Int32.ofNat k)])), (a, .inl (cB, cap, .inl f))]) hD hS hA [0, 1] rfl
  refine va_callv (va_runU (As := [.int (Int32.ofNat (k + n))]) (rest := []) ⟨hx, hb, hml, hown, hts⟩ (zs_ensG l (sz := s.heap.size) (cB := cB) (a := a) (cap := cap) (f := f) (N' := N') hq hN h0N h1N h2N hf hne hn0 hN' hc31 hlt hle hb9) (va_cwU 1 hts (zj_good (zj_U (own := RJ5) (C := RJ4) (owner := RJ5) (x' := yJ5_ensureCapacityInternal_d00df) (zj_m (q := 6199) (by decide +kernel) rfl) (zj_m (q := 7135) (by decide +kernel) rfl) zj_s1 (zj_m (q := 6201) (by decide +kernel) rfl) (zj_m (q := 1023) (by decide +kernel) rfl) (zj_m (q := 6202) (by decide +kernel) rfl))) rfl rfl rfl rfl (by decide +kernel) ⟨Nat.le_of_ble_eq_true rfl, Nat.le_of_ble_eq_true rfl⟩) ⟨fun a U g mk q => ⟨q.1, q.2.1, q.2.2.1, va_K.moved (u := U) (U := U.calling g mk a) (Vm.Alike.refl U.vm) q.2.2.2.1, q.2.2.2.2⟩, va_recv hK hP (ci := 0) (q0 := 0) rfl rfl, fun U hU hW => ⟨rfl, by rw [hU], by rw [hU]; exact hPc, va_K.moved hW.alike hK, hDc.weaken (fun _ _ _ _ => trivial)⟩⟩ rfl rfl hl.1 rfl (lv_room (Nat.le_of_ble_eq_true rfl)) dJ5_append_cf1ce_21 ⟨Nat.le_of_ble_eq_true rfl, by exact Nat.le_of_eq (Nat.zero_add _)⟩) hS (fun q _ h => hFc q h) hFc (fun ra t_ H1 locs ht hvm hw hB hz1 hk1 hS => ?_)
  obtain ⟨⟨hP1, hK1⟩, hD1⟩ := hB
  rw [ht] at hP1
  obtain ⟨hP, hD⟩ := va_join (wr := []) (w1 := [(b, .inr (0, [.ref ra, .int 0, .int ml, .int (Int32.ofNat k)])), (ra, .inl (cB, N', .inl (va_cpy f (fun _ => 0) 0 0 cap)))]) hP hD [0, 1] [] rfl rfl (by decide) (by decide) hk1 hFc hP1 hD1
  generalize H1 = H at hP hS ⊢
  have hP : va_P D zj_cl [(b, .inr (0, [.ref ra, .int 0, .int ml, .int (Int32.ofNat k)])), (ra, .inl (cB, N', .inl (va_cpy f (fun _ => 0) 0 0 cap)))] H := hP
  have hD : va_D A [(b, .inr (0, [.ref ra, .int 0, .int ml, .int (Int32.ofNat k)])), (ra, .inl (cB, N', .inl (va_cpy f (fun _ => 0) 0 0 cap)))] := hD
  refine lv_aload_n hx hb dJ5_append_cf1ce_24 rfl (lv_at hl 1 rfl) ?_
  refine lv_aload_n hx hb dJ5_append_cf1ce_25 rfl (lv_at hl 1 rfl) ?_
  refine va_get (D := D) (ci := 0) (v := .int (Int32.ofNat k)) (C := RJ4) (T := TJ4) (N := 4) hx hb hts zj_hb hown hK hP 0 rfl rfl 3 (by decide) (hts _ (zj_t (q := 6178) (by decide +kernel) rfl)) (fun _ h9 => h9) rfl dJ5_append_cf1ce_26 ?_
  refine lv_aload_n hx hb dJ5_append_cf1ce_29 rfl (lv_at hl 2 rfl) ?_
  have hPc := hP.sub (ws' := [(b, .inr (0, [.ref ra, .int 0, .int ml, .int (Int32.ofNat k)])), (ra, .inl (cB, N', .inl (va_cpy f (fun _ => 0) 0 0 cap)))]) [0, 1] rfl
  have hDc := hD.sub (ws' := [(b, .inr (0, [.ref ra, .int 0, .int ml, .int (Int32.ofNat k)])), (ra, .inl (cB, N', .inl (va_cpy f (fun _ => 0) 0 0 cap)))]) [0, 1] (by decide) rfl
  have hFc := va_free (wc := [(b, .inr (0, [.ref ra, .int 0, .int ml, .int (Int32.ofNat k)])), (ra, .inl (cB, N', .inl (va_cpy f (fun _ => 0) 0 0 cap)))]) hD hS hA [0, 1] rfl
  refine va_callv (va_runU (As := [.int (Int32.ofNat k), .ref q]) (rest := []) ⟨hx, hb, hml, hown, hts⟩ (zs_putS l (sz := H.size) (cB := cB) (a := ra) (cap := N') (f := (va_cpy f (fun _ => 0) 0 0 cap)) (k := k) hg hk hn31 hfit) (va_cwU 2 hts (zj_good (zj_U (own := RJ5) (C := RJ4) (owner := RJ5) (x' := yJ5_putStringAt_47b60) (zj_m (q := 7009) (by decide +kernel) rfl) (zj_m (q := 7137) (by decide +kernel) rfl) zj_s3 (zj_m (q := 7011) (by decide +kernel) rfl) (zj_m (q := 1023) (by decide +kernel) rfl) (zj_m (q := 7012) (by decide +kernel) rfl))) rfl rfl rfl rfl (by decide +kernel) ⟨Nat.le_of_ble_eq_true rfl, Nat.le_of_ble_eq_true rfl⟩) ⟨fun a U g mk q => ⟨q.1, q.2.1, q.2.2.1, va_K.moved (u := U) (U := U.calling g mk a) (Vm.Alike.refl U.vm) q.2.2.2.1, q.2.2.2.2.1, zs_C.moved (u := U) (U := U.calling g mk a) (Vm.Alike.refl U.vm) q.2.2.2.2.2.1, zs_F.moved (u := U) (U := U.calling g mk a) (Vm.Alike.refl U.vm) q.2.2.2.2.2.2⟩, va_recv hK hP (ci := 0) (q0 := 0) rfl rfl, fun U hU hW => ⟨rfl, by rw [hU], by rw [hU]; exact hPc, va_K.moved hW.alike hK, hDc.weaken (fun _ _ _ _ => trivial), by (try rw [hU]); exact zs_C.moved hW.alike (((hC.kept hS.2.1).narrow hFc)), by (try rw [hU]); exact zs_F.moved hW.alike (((hF.kept hS.2.1).narrow hFc))⟩⟩ rfl rfl hl.1 rfl (lv_room (Nat.le_of_ble_eq_true rfl)) dJ5_append_cf1ce_30 ⟨Nat.le_of_ble_eq_true rfl, by show 0 + N' + 0 ≤ N'; omega⟩) hS (fun q _ h => hFc q h) hFc (fun u_ t_ H1 locs ht hvm hw hB hz1 hk1 hS => ?_)
  obtain ⟨⟨hP1, hK1⟩, hD1⟩ := hB
  rw [ht] at hP1
  obtain ⟨hP, hD⟩ := va_join (wr := []) (w1 := [(b, .inr (0, [.ref ra, .int 0, .int ml, .int (Int32.ofNat k)])), (ra, .inl (cB, N', .inl (va_cpy g (va_cpy f (fun _ => 0) 0 0 cap) 0 k n)))]) hP hD [0, 1] [] rfl rfl (by decide) (by decide) hk1 hFc hP1 hD1
  generalize H1 = H at hP hS ⊢
  have hP : va_P D zj_cl [(b, .inr (0, [.ref ra, .int 0, .int ml, .int (Int32.ofNat k)])), (ra, .inl (cB, N', .inl (va_cpy g (va_cpy f (fun _ => 0) 0 0 cap) 0 k n)))] H := hP
  have hD : va_D A [(b, .inr (0, [.ref ra, .int 0, .int ml, .int (Int32.ofNat k)])), (ra, .inl (cB, N', .inl (va_cpy g (va_cpy f (fun _ => 0) 0 0 cap) 0 k n)))] := hD
  refine lv_aload_n hx hb dJ5_append_cf1ce_33 rfl (lv_at hl 1 rfl) ?_
  refine lv_dup hx hb dJ5_append_cf1ce_34 rfl ?_
  refine va_get (D := D) (ci := 0) (v := .int (Int32.ofNat k)) (C := RJ4) (T := TJ4) (N := 4) hx hb hts zj_hb hown hK hP 0 rfl rfl 3 (by decide) (hts _ (zj_t (q := 6178) (by decide +kernel) rfl)) (fun _ h9 => h9) rfl dJ5_append_cf1ce_35 ?_
  refine lv_iload_n hx hb dJ5_append_cf1ce_38 rfl (lv_at hl 0 rfl) ?_
  refine lv_iadd hx hb dJ5_append_cf1ce_39 ?_
  refine zj_top (y := Int32.ofNat (k + n)) (zj_add k n) ?_
  refine va_put (D := D) (ci := 0) (v := .int (Int32.ofNat (k + n))) (ty := .int) (C := RJ4) (T := TJ4) (N := 4) hx hb hts zj_hb tyJ4 tyJ4_ok nmJ4 hown hK hP hD hS 0 rfl rfl 3 (by decide) (hts _ (zj_t (q := 6178) (by decide +kernel) rfl)) (fun _ h9 => h9) rfl  (by decide +kernel) rfl rfl (Nat.le_of_ble_eq_true rfl) dJ5_append_cf1ce_40 (fun H locs hP hD hS => ?_)
  have hP : va_P D zj_cl [(b, .inr (0, [.ref ra, .int 0, .int ml, .int (Int32.ofNat (k + n))])), (ra, .inl (cB, N', .inl (va_cpy g (va_cpy f (fun _ => 0) 0 0 cap) 0 k n)))] H := hP
  have hD : va_D A [(b, .inr (0, [.ref ra, .int 0, .int ml, .int (Int32.ofNat (k + n))])), (ra, .inl (cB, N', .inl (va_cpy g (va_cpy f (fun _ => 0) 0 0 cap) 0 k n)))] := hD
  refine lv_aload_n hx hb dJ5_append_cf1ce_43 rfl (lv_at hl 1 rfl) ?_
  refine W.widen (k := 1) (n := N') (by omega) (by omega) ?_
  exact W.aret (v := .ref b) (rt := (.object "java/lang/AbstractStringBuilder")) hx hb hr (Or.inl ⟨_, rfl⟩) (Or.inr ⟨_, rfl⟩) (fun t ht hW => ⟨⟨ra, b, rfl, trivial, rfl, ⟨by rw [ht]; exact hP, va_K.moved hW.alike hK⟩, hD⟩, hS.F ht⟩) hS.2.2 dJ5_append_cf1ce_44
set_option maxHeartbeats 1000000 in
set_option maxRecDepth 100000 in
/-- StringBuilder.append(String) -/
theorem zs_appG (l : Launch) {D : va_G} {sz : Nat} {cB : ClassId} {b a cap k : Nat} {f : Nat → Int32} {ml : Int32} {q v n : Nat} {g : Nat → Int32} (hg : sb_Fit g) (hk : k < 2 ^ 31) (hn31 : n < 2 ^ 31) {N : Int32} {N' : Nat} (hq : ¬ Int32.ofNat (k + n) - Int32.ofNat cap ≤ 0) (hN : Int32.ofNat cap + (if Int32.ofNat (k + n) - Int32.ofNat cap < Int32.ofNat cap + 2 then Int32.ofNat cap + 2 else Int32.ofNat (k + n) - Int32.ofNat cap) = N) (h0N : ¬ N ≤ 0) (h1N : ¬ 2147483639 < N) (h2N : ¬ N = 2147483647) (hf : sb_Fit f) (hne : ¬ N = Int32.ofNat cap) (hn0 : ¬ N < 0) (hN' : N.toNatClampNeg = N') (hc31 : cap < 2 ^ 31) (hlt : ¬ N < Int32.ofNat cap) (hle : cap ≤ N') (hb9 : N' * 1 ≤ 536870912) (hfit : k + n ≤ N') : Met l yJ4_append_15ec4 (.code yJ4_append_15ec4 cJ4_append_15ec4 2 (some (.object "java/lang/StringBuilder")) :: zj_gw) (mj_rm 5 (1) (N')) (va_Pc [.ref b, .ref q] (fun U => U.heap.size = sz ∧ va_P D zj_cl [(b, .inr (0, [.ref a, .int 0, .int ml, .int (Int32.ofNat k)])), (a, .inl (cB, cap, .inl f))] U.heap ∧ va_K D zj_cl [(cB, .byte)] U ∧ va_D (fun _ => True) [(b, .inr (0, [.ref a, .int 0, .int ml, .int (Int32.ofNat k)])), (a, .inl (cB, cap, .inl f))] ∧ zs_C (va_A [(b, .inr (0, [.ref a, .int 0, .int ml, .int (Int32.ofNat k)])), (a, .inl (cB, cap, .inl f))] sz) U U.heap ∧ zs_F (va_A [(b, .inr (0, [.ref a, .int 0, .int ml, .int (Int32.ofNat k)])), (a, .inl (cB, cap, .inl f))] sz) q v n g U U.heap)) (va_Qr (fun (_ : Nat) => True) (fun ra b2 t => b = b2 ∧ (va_P D zj_cl [(b, .inr (0, [.ref ra, .int 0, .int ml, .int (Int32.ofNat (k + n))])), (ra, .inl (cB, N', .inl (va_cpy g (va_cpy f (fun _ => 0) 0 0 cap) 0 k n)))] t.heap ∧ va_K D zj_cl [(cB, .byte)] t) ∧ va_D (va_A [(b, .inr (0, [.ref a, .int 0, .int ml, .int (Int32.ofNat k)])), (a, .inl (cB, cap, .inl f))] sz) [(b, .inr (0, [.ref ra, .int 0, .int ml, .int (Int32.ofNat (k + n))])), (ra, .inl (cB, N', .inl (va_cpy g (va_cpy f (fun _ => 0) 0 0 cap) 0 k n)))]) (va_A [(b, .inr (0, [.ref a, .int 0, .int ml, .int (Int32.ofNat k)])), (a, .inl (cB, cap, .inl f))] sz)) (1) (N') ((va_A [(b, .inr (0, [.ref a, .int 0, .int ml, .int (Int32.ofNat k)])), (a, .inl (cB, cap, .inl f))] sz)) := by
  refine Met.ofW (cc := cJ4_append_15ec4) (maxL := 2) (ret := some (.object "java/lang/StringBuilder")) (by decide) rfl ?_
  intro p e s m args below meth c s₁ B hml hv
  obtain ⟨rfl, hsz, hP, hK, hD0, hC, hF⟩ := hv
  have hx := B.exec
  have hb := B.bytes
  have hr := B.returns
  have hts := atoms_spec (ws := .code yJ4_append_15ec4 cJ4_append_15ec4 2 (some (.object "java/lang/StringBuilder")) :: zj_gw) B.pre
  have hown : s.vm.findClass RJ4 = some m.cls := findClass_of_methodNamed B.named
  have hlocks := B.notSynchronized
  subst hsz
  have hD := hD0.self (sz := s.heap.size)
  generalize hAe : va_A [(b, .inr (0, [.ref a, .int 0, .int ml, .int (Int32.ofNat k)])), (a, .inl (cB, cap, .inl f))] s.heap.size = A at hD hC hF ⊢
  have hA : ∀ q : Nat, s.heap.size ≤ q → A q := fun q h => by rw [← hAe]; exact Or.inr h
  have hS : va_S A s.heap s.heap [] := va_S.rf
  have hP : va_P D zj_cl [(b, .inr (0, [.ref a, .int 0, .int ml, .int (Int32.ofNat k)])), (a, .inl (cB, cap, .inl f))] s.heap := hP
  have hK : va_K D zj_cl [(cB, .byte)] s := hK
  have hl := lv_entry ([.ref b, .ref q]) (n := 2) (Nat.le_of_ble_eq_true rfl)
  rw [lg_entry_eq]
  generalize (lg_sl ([.ref b, .ref q]) ++ List.replicate (2 - (lg_sl ([.ref b, .ref q])).length) Slot.unset).toArray = ls at hl ⊢
  have hl : lv_has ls 2 [(0, .ref b), (1, .ref q)] := hl
  refine lv_aload_n hx hb dJ4_append_15ec4_0 rfl (lv_at hl 0 rfl) ?_
  refine lv_aload_n hx hb dJ4_append_15ec4_1 rfl (lv_at hl 1 rfl) ?_
  have hPc := hP.sub (ws' := [(b, .inr (0, [.ref a, .int 0, .int ml, .int (Int32.ofNat k)])), (a, .inl (cB, cap, .inl f))]) [0, 1] rfl
  have hDc := hD.sub (ws' := [(b, .inr (0, [.ref a, .int 0, .int ml, .int (Int32.ofNat k)])), (a, .inl (cB, cap, .inl f))]) [0, 1] (by decide) rfl
  have hFc := va_free (wc := [(b, .inr (0, [.ref a, .int 0, .int ml, .int (Int32.ofNat k)])), (a, .inl (cB, cap, .inl f))]) hD hS hA [0, 1] rfl
  refine va_callr (va_runSU (As := [.ref q]) (rest := []) (hK.1 0 _ rfl).2 ⟨hx, hb, hml, hown, hts⟩ (zs_aappG l (sz := s.heap.size) (cB := cB) (a := a) (cap := cap) (f := f) (k := k) (N' := N') hg hk hn31 hq hN h0N h1N h2N hf hne hn0 hN' hc31 hlt hle hb9 hfit) (va_cwSU 1 hts (zj_good (zj_SU (own := RJ4) (y := yJ5_append_cf1ce) (zj_m (q := 6192) (by decide +kernel) rfl) (zj_m (q := 7133) (by decide +kernel) rfl) (zj_m (q := 6187) (by decide +kernel) rfl) (zj_m (q := 6193) (by decide +kernel) rfl) (zj_m (q := 1023) (by decide +kernel) rfl) (zj_m (q := 6194) (by decide +kernel) rfl))) rfl rfl rfl (by decide +kernel) ⟨Nat.le_of_ble_eq_true rfl, Nat.le_of_ble_eq_true rfl⟩) ⟨fun a U g mk q => ⟨q.1, q.2.1, q.2.2.1, va_K.moved (u := U) (U := U.calling g mk a) (Vm.Alike.refl U.vm) q.2.2.2.1, q.2.2.2.2.1, zs_C.moved (u := U) (U := U.calling g mk a) (Vm.Alike.refl U.vm) q.2.2.2.2.2.1, zs_F.moved (u := U) (U := U.calling g mk a) (Vm.Alike.refl U.vm) q.2.2.2.2.2.2⟩, va_recv hK hP (ci := 0) (q0 := 0) rfl rfl, fun U hU hW => ⟨rfl, by rw [hU], by rw [hU]; exact hPc, va_K.moved hW.alike hK, hDc.weaken (fun _ _ _ _ => trivial), by (try rw [hU]); exact zs_C.moved hW.alike ((hC.narrow hFc)), by (try rw [hU]); exact zs_F.moved hW.alike ((hF.narrow hFc))⟩⟩ rfl rfl hl.1 rfl (lv_room (Nat.le_of_ble_eq_true rfl)) dJ4_append_15ec4_2 ⟨Nat.le_of_ble_eq_true rfl, by exact Nat.le_of_eq (Nat.zero_add _)⟩) hS (fun q _ h => hFc q h) hFc (fun ra b2 t_ H1 locs ht hvm hw hB hz1 hk1 hS => ?_)
  obtain ⟨rfl, hB⟩ := hB
  obtain ⟨⟨hP1, hK1⟩, hD1⟩ := hB
  rw [ht] at hP1
  obtain ⟨hP, hD⟩ := va_join (wr := []) (w1 := [(b, .inr (0, [.ref ra, .int 0, .int ml, .int (Int32.ofNat (k + n))])), (ra, .inl (cB, N', .inl (va_cpy g (va_cpy f (fun _ => 0) 0 0 cap) 0 k n)))]) hP hD [0, 1] [] rfl rfl (by decide) (by decide) hk1 hFc hP1 hD1
  generalize H1 = H at hP hS ⊢
  have hP : va_P D zj_cl [(b, .inr (0, [.ref ra, .int 0, .int ml, .int (Int32.ofNat (k + n))])), (ra, .inl (cB, N', .inl (va_cpy g (va_cpy f (fun _ => 0) 0 0 cap) 0 k n)))] H := hP
  have hD : va_D A [(b, .inr (0, [.ref ra, .int 0, .int ml, .int (Int32.ofNat (k + n))])), (ra, .inl (cB, N', .inl (va_cpy g (va_cpy f (fun _ => 0) 0 0 cap) 0 k n)))] := hD
  refine lv_pop hx hb dJ4_append_15ec4_5 rfl ?_
  refine lv_aload_n hx hb dJ4_append_15ec4_6 rfl (lv_at hl 0 rfl) ?_
  refine W.widen (k := 1) (n := N') (by omega) (by omega) ?_
  exact W.aret (v := .ref b) (rt := (.object "java/lang/StringBuilder")) hx hb hr (Or.inl ⟨_, rfl⟩) (Or.inr ⟨_, rfl⟩) (fun t ht hW => ⟨⟨ra, b, rfl, trivial, rfl, ⟨by rw [ht]; exact hP, va_K.moved hW.alike hK⟩, hD⟩, hS.F ht⟩) hS.2.2 dJ4_append_15ec4_7
