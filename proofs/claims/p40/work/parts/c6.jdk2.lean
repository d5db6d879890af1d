/-- Preconditions' maker of errors, never asked -/
def zs_Q (A : Nat → Prop) (U : State) (h : Heap) : Prop := va_Zq "jdk/internal/util/Preconditions" "SIOOBE_FORMATTER" "Ljava/util/function/BiFunction;" A U h
theorem zs_Q.moved {A : Nat → Prop} {u U : State} {h : Heap} (hv : u.vm.Alike U.vm) (H : zs_Q A u h) : zs_Q A U h := by
  rcases H with H | ⟨t, H⟩
  · exact Or.inl (va_Z.moved hv H)
  · exact Or.inr ⟨t, va_Z.moved hv H⟩
theorem zs_Q.kept {A : Nat → Prop} {U : State} {h h1 : Heap} (H : zs_Q A U h) (hq : ∀ a : Nat, a < h.size → ¬ A a → h1[a]? = h[a]?) : zs_Q A U h1 := by
  rcases H with H | ⟨t, H⟩
  · exact Or.inl (va_Z.kept H hq)
  · exact Or.inr ⟨t, va_Z.kept H hq⟩
theorem zs_Q.narrow {A B : Nat → Prop} {U : State} {h : Heap} (H : zs_Q A U h) (hAB : ∀ q, B q → A q) : zs_Q B U h := by
  rcases H with H | ⟨t, H⟩
  · exact Or.inl (va_Z.narrow H hAB)
  · exact Or.inr ⟨t, va_Z.narrow H hAB⟩
def zs_T (A : Nat → Prop) (v n : Nat) (g : Nat → Int32) (U : State) (h : Heap) : Prop := va_T .byte v n (fun j => .int (g j)) A U h
theorem zs_T.moved {A : Nat → Prop} {v n : Nat} {g : Nat → Int32} {u U : State} {h : Heap} (hv : u.vm.Alike U.vm) (H : zs_T A v n g u h) : zs_T A v n g U h := va_T.moved hv H
/-- nothing is asked -/
def zs_0 (_ : State) : Prop := True
theorem zs_0.moved {u U : State} (_ : u.vm.Alike U.vm) (_ : zs_0 u) : zs_0 U := trivial
theorem dJ0_charAt_5068e_0 : decode cJ0_charAt_5068e 0 = .ok (.aload_n 0, 1) := by decide +kernel
theorem dJ0_charAt_5068e_1 : decode cJ0_charAt_5068e 1 = .ok (.invokevirtual 492, 3) := by decide +kernel
theorem dJ0_charAt_5068e_4 : decode cJ0_charAt_5068e 4 = .ok (.ifCond .eq 12, 3) := by decide +kernel
theorem dJ0_charAt_5068e_7 : decode cJ0_charAt_5068e 7 = .ok (.aload_n 0, 1) := by decide +kernel
theorem dJ0_charAt_5068e_8 : decode cJ0_charAt_5068e 8 = .ok (.getfield 9, 3) := by decide +kernel
theorem dJ0_charAt_5068e_11 : decode cJ0_charAt_5068e 11 = .ok (.iload_n 1, 1) := by decide +kernel
theorem dJ0_charAt_5068e_12 : decode cJ0_charAt_5068e 12 = .ok (.invokestatic 495, 3) := by decide +kernel
theorem dJ0_charAt_5068e_15 : decode cJ0_charAt_5068e 15 = .ok (.ireturn, 1) := by decide +kernel
theorem dJ0_checkIndex_df160_0 : decode cJ0_checkIndex_df160 0 = .ok (.iload_n 0, 1) := by decide +kernel
theorem dJ0_checkIndex_df160_1 : decode cJ0_checkIndex_df160 1 = .ok (.iload_n 1, 1) := by decide +kernel
theorem dJ0_checkIndex_df160_2 : decode cJ0_checkIndex_df160 2 = .ok (.getstatic 1053, 3) := by decide +kernel
theorem dJ0_checkIndex_df160_5 : decode cJ0_checkIndex_df160 5 = .ok (.invokestatic 1059, 3) := by decide +kernel
theorem dJ0_checkIndex_df160_8 : decode cJ0_checkIndex_df160 8 = .ok (.pop, 1) := by decide +kernel
theorem dJ0_checkIndex_df160_9 : decode cJ0_checkIndex_df160 9 = .ok (.return_, 1) := by decide +kernel
theorem dJ1_charAt_3b067_0 : decode cJ1_charAt_3b067 0 = .ok (.iload_n 1, 1) := by decide +kernel
theorem dJ1_charAt_3b067_1 : decode cJ1_charAt_3b067 1 = .ok (.aload_n 0, 1) := by decide +kernel
theorem dJ1_charAt_3b067_2 : decode cJ1_charAt_3b067 2 = .ok (.arraylength, 1) := by decide +kernel
theorem dJ1_charAt_3b067_3 : decode cJ1_charAt_3b067 3 = .ok (.invokestatic 9, 3) := by decide +kernel
theorem dJ1_charAt_3b067_6 : decode cJ1_charAt_3b067 6 = .ok (.aload_n 0, 1) := by decide +kernel
theorem dJ1_charAt_3b067_7 : decode cJ1_charAt_3b067 7 = .ok (.iload_n 1, 1) := by decide +kernel
theorem dJ1_charAt_3b067_8 : decode cJ1_charAt_3b067 8 = .ok (.baload, 1) := by decide +kernel
theorem dJ1_charAt_3b067_9 : decode cJ1_charAt_3b067 9 = .ok (.sipush 255, 3) := by decide +kernel
theorem dJ1_charAt_3b067_12 : decode cJ1_charAt_3b067 12 = .ok (.iand, 1) := by decide +kernel
theorem dJ1_charAt_3b067_13 : decode cJ1_charAt_3b067 13 = .ok (.i2c, 1) := by decide +kernel
theorem dJ1_charAt_3b067_14 : decode cJ1_charAt_3b067 14 = .ok (.ireturn, 1) := by decide +kernel
theorem dJ3_checkIndex_8e157_0 : decode cJ3_checkIndex_8e157 0 = .ok (.iload_n 0, 1) := by decide +kernel
theorem dJ3_checkIndex_8e157_1 : decode cJ3_checkIndex_8e157 1 = .ok (.ifCond .lt 8, 3) := by decide +kernel
theorem dJ3_checkIndex_8e157_4 : decode cJ3_checkIndex_8e157 4 = .ok (.iload_n 0, 1) := by decide +kernel
theorem dJ3_checkIndex_8e157_5 : decode cJ3_checkIndex_8e157 5 = .ok (.iload_n 1, 1) := by decide +kernel
theorem dJ3_checkIndex_8e157_6 : decode cJ3_checkIndex_8e157 6 = .ok (.if_icmp .lt 10, 3) := by decide +kernel
theorem dJ3_checkIndex_8e157_16 : decode cJ3_checkIndex_8e157 16 = .ok (.iload_n 0, 1) := by decide +kernel
theorem dJ3_checkIndex_8e157_17 : decode cJ3_checkIndex_8e157 17 = .ok (.ireturn, 1) := by decide +kernel
set_option maxHeartbeats 4000000 in
set_option maxRecDepth 100000 in
/-- Preconditions.checkIndex -/
theorem zs_pIdxN (l : Launch) {i k : Int32} {h0 : Heap} (hi0 : ¬ i < 0) (hi1 : i < k) : Met l yJ3_checkIndex_8e157 (.code yJ3_checkIndex_8e157 cJ3_checkIndex_8e157 3 (some .int) :: zj_gw) (mj_rm 0 (0) (0)) (va_Pc [.int i, .int k, .null] (fun U => U.heap = h0 ∧ zs_0 U)) (va_Qi (fun (r : Int32) (_ : Unit) => r = i) (fun _ t => t.heap = h0) zj_nn) (0) (0) (zj_nn) := by
  refine Met.ofW (cc := cJ3_checkIndex_8e157) (maxL := 3) (ret := some .int) (by decide) rfl ?_
  intro p e s m args below meth c s₁ B hml hv
  obtain ⟨rfl, rfl, -⟩ := hv
  have hx := B.exec
  have hb := B.bytes
  have hr := B.returns
  have hts := atoms_spec (ws := .code yJ3_checkIndex_8e157 cJ3_checkIndex_8e157 3 (some .int) :: zj_gw) B.pre
  have hown : s.vm.findClass RJ3 = some m.cls := findClass_of_methodNamed B.named
  have hlocks := B.notSynchronized
  have hS : va_S zj_nn s.heap s.heap [] := va_S.rf
  have hl := lv_entry ([.int i, .int k, .null]) (n := 3) (Nat.le_of_ble_eq_true rfl)
  rw [lg_entry_eq]
  generalize (lg_sl ([.int i, .int k, .null]) ++ List.replicate (3 - (lg_sl ([.int i, .int k, .null])).length) Slot.unset).toArray = ls at hl ⊢
  have hl : lv_has ls 3 [(0, .int i), (1, .int k), (2, .null)] := hl
  refine lv_iload_n hx hb dJ3_checkIndex_8e157_0 rfl (lv_at hl 0 rfl) ?_
  refine lv_if_lt (tgt := 9) hx hb dJ3_checkIndex_8e157_1 (by decide) (fun c_ => absurd c_ (hi0)) (fun _ => ?_)
  refine lv_iload_n hx hb dJ3_checkIndex_8e157_4 rfl (lv_at hl 0 rfl) ?_
  refine lv_iload_n hx hb dJ3_checkIndex_8e157_5 rfl (lv_at hl 1 rfl) ?_
  refine lv_icmp_lt (tgt := 16) hx hb dJ3_checkIndex_8e157_6 (by decide) (fun _ => ?_) (fun c_ => (c_ (hi1)).elim)
  refine lv_iload_n hx hb dJ3_checkIndex_8e157_16 rfl (lv_at hl 0 rfl) ?_
  exact W.iret (v := i) hx hb hr (fun t ht hW => ⟨⟨i, (), rfl, rfl, ht⟩, hS.F ht⟩) hS.2.2 dJ3_checkIndex_8e157_17
set_option maxHeartbeats 4000000 in
set_option maxRecDepth 100000 in
/-- Preconditions.checkIndex -/
theorem zs_pIdxR (l : Launch) {tq : Nat} {i k : Int32} {h0 : Heap} (hi0 : ¬ i < 0) (hi1 : i < k) : Met l yJ3_checkIndex_8e157 (.code yJ3_checkIndex_8e157 cJ3_checkIndex_8e157 3 (some .int) :: zj_gw) (mj_rm 0 (0) (0)) (va_Pc [.int i, .int k, .ref tq] (fun U => U.heap = h0 ∧ zs_0 U)) (va_Qi (fun (r : Int32) (_ : Unit) => r = i) (fun _ t => t.heap = h0) zj_nn) (0) (0) (zj_nn) := by
  refine Met.ofW (cc := cJ3_checkIndex_8e157) (maxL := 3) (ret := some .int) (by decide) rfl ?_
  intro p e s m args below meth c s₁ B hml hv
  obtain ⟨rfl, rfl, -⟩ := hv
  have hx := B.exec
  have hb := B.bytes
  have hr := B.returns
  have hts := atoms_spec (ws := .code yJ3_checkIndex_8e157 cJ3_checkIndex_8e157 3 (some .int) :: zj_gw) B.pre
  have hown : s.vm.findClass RJ3 = some m.cls := findClass_of_methodNamed B.named
  have hlocks := B.notSynchronized
  have hS : va_S zj_nn s.heap s.heap [] := va_S.rf
  have hl := lv_entry ([.int i, .int k, .ref tq]) (n := 3) (Nat.le_of_ble_eq_true rfl)
  rw [lg_entry_eq]
  generalize (lg_sl ([.int i, .int k, .ref tq]) ++ List.replicate (3 - (lg_sl ([.int i, .int k, .ref tq])).length) Slot.unset).toArray = ls at hl ⊢
  have hl : lv_has ls 3 [(0, .int i), (1, .int k), (2, .ref tq)] := hl
  refine lv_iload_n hx hb dJ3_checkIndex_8e157_0 rfl (lv_at hl 0 rfl) ?_
  refine lv_if_lt (tgt := 9) hx hb dJ3_checkIndex_8e157_1 (by decide) (fun c_ => absurd c_ (hi0)) (fun _ => ?_)
  refine lv_iload_n hx hb dJ3_checkIndex_8e157_4 rfl (lv_at hl 0 rfl) ?_
  refine lv_iload_n hx hb dJ3_checkIndex_8e157_5 rfl (lv_at hl 1 rfl) ?_
  refine lv_icmp_lt (tgt := 16) hx hb dJ3_checkIndex_8e157_6 (by decide) (fun _ => ?_) (fun c_ => (c_ (hi1)).elim)
  refine lv_iload_n hx hb dJ3_checkIndex_8e157_16 rfl (lv_at hl 0 rfl) ?_
  exact W.iret (v := i) hx hb hr (fun t ht hW => ⟨⟨i, (), rfl, rfl, ht⟩, hS.F ht⟩) hS.2.2 dJ3_checkIndex_8e157_17
set_option maxHeartbeats 4000000 in
set_option maxRecDepth 100000 in
/-- String.checkIndex -/
theorem zs_cIdx (l : Launch) {i k : Int32} {h0 : Heap} (hi0 : ¬ i < 0) (hi1 : i < k) : Met l yJ0_checkIndex_df160 (.code yJ0_checkIndex_df160 cJ0_checkIndex_df160 2 none :: zj_gw) (mj_rm 1 (0) (0)) (va_Pc [.int i, .int k] (fun U => U.heap = h0 ∧ zs_Q zj_nn U U.heap)) (va_Qv (fun (_ : Unit) => True) (fun _ t => t.heap = h0) zj_nn) (0) (0) (zj_nn) := by
  refine Met.ofW (cc := cJ0_checkIndex_df160) (maxL := 2) (ret := none) (by decide) rfl ?_
  intro p e s m args below meth c s₁ B hml hv
  obtain ⟨rfl, rfl, hQ⟩ := hv
  have hx := B.exec
  have hb := B.bytes
  have hr := B.returns
  have hts := atoms_spec (ws := .code yJ0_checkIndex_df160 cJ0_checkIndex_df160 2 none :: zj_gw) B.pre
  have hown : s.vm.findClass RJ0 = some m.cls := findClass_of_methodNamed B.named
  have hlocks := B.notSynchronized
  have hS : va_S zj_nn s.heap s.heap [] := va_S.rf
  have hl := lv_entry ([.int i, .int k]) (n := 2) (Nat.le_of_ble_eq_true rfl)
  rw [lg_entry_eq]
  generalize (lg_sl ([.int i, .int k]) ++ List.replicate (2 - (lg_sl ([.int i, .int k])).length) Slot.unset).toArray = ls at hl ⊢
  have hl : lv_has ls 2 [(0, .int i), (1, .int k)] := hl
  refine lv_iload_n hx hb dJ0_checkIndex_df160_0 rfl (lv_at hl 0 rfl) ?_
  refine lv_iload_n hx hb dJ0_checkIndex_df160_1 rfl (lv_at hl 1 rfl) ?_
  rcases hQ with hQ | ⟨tq, hQ⟩
  · refine va_gets hx hb hQ hS hown (hts _ (zj_t (q := 5111) (by decide +kernel) rfl)) (fun _ h9 => h9) dJ0_checkIndex_df160_2 ?_
    refine va_calli (va_runS (As := [.int i, .int k, .null]) (rest := []) ⟨hx, hb, hml, hown, hts⟩ (zs_pIdxN l hi0 hi1) (va_cwS (own := RJ0) 3 hts (zj_good (zj_S (zj_m (q := 5113) (by decide +kernel) rfl) (zj_m (q := 5114) (by decide +kernel) rfl) (zj_m (q := 1015) (by decide +kernel) rfl) (zj_m (q := 5115) (by decide +kernel) rfl))) rfl rfl rfl (by decide +kernel) ⟨Nat.le_of_ble_eq_true rfl, Nat.le_of_ble_eq_true rfl⟩) ⟨fun a U g mk q => ⟨q.1, q.2.1, zs_0.moved (u := U) (U := U.calling g mk a) (Vm.Alike.refl U.vm) q.2.2⟩, fun U hU hW => ⟨rfl, hU, by (try rw [hU]); exact zs_0.moved hW.alike (show zs_0 s from trivial)⟩⟩ rfl rfl hl.1 rfl (lv_room (Nat.le_of_ble_eq_true rfl)) dJ0_checkIndex_df160_5 ⟨Nat.zero_le _, Nat.zero_le _⟩) hS (fun _ _ h => h.elim) (fun _ h => h.elim) (fun r_ u_ t_ H1 locs1 ht hvm hw hB hz1 hk1 hS => ?_)
    obtain rfl : H1 = s.heap := ht.symm.trans hB
    rw [hw]
    refine lv_pop hx hb dJ0_checkIndex_df160_8 rfl ?_
    exact W.vret hx hb hr (fun t ht hW => ⟨⟨(), rfl, trivial, ht⟩, hS.F ht⟩) hS.2.2 dJ0_checkIndex_df160_9
  · refine va_gets hx hb hQ hS hown (hts _ (zj_t (q := 5111) (by decide +kernel) rfl)) (fun _ h9 => h9) dJ0_checkIndex_df160_2 ?_
    refine va_calli (va_runS (As := [.int i, .int k, .ref tq]) (rest := []) ⟨hx, hb, hml, hown, hts⟩ (zs_pIdxR l hi0 hi1) (va_cwS (own := RJ0) 3 hts (zj_good (zj_S (zj_m (q := 5113) (by decide +kernel) rfl) (zj_m (q := 5114) (by decide +kernel) rfl) (zj_m (q := 1015) (by decide +kernel) rfl) (zj_m (q := 5115) (by decide +kernel) rfl))) rfl rfl rfl (by decide +kernel) ⟨Nat.le_of_ble_eq_true rfl, Nat.le_of_ble_eq_true rfl⟩) ⟨fun a U g mk q => ⟨q.1, q.2.1, zs_0.moved (u := U) (U := U.calling g mk a) (Vm.Alike.refl U.vm) q.2.2⟩, fun U hU hW => ⟨rfl, hU, by (try rw [hU]); exact zs_0.moved hW.alike (show zs_0 s from trivial)⟩⟩ rfl rfl hl.1 rfl (lv_room (Nat.le_of_ble_eq_true rfl)) dJ0_checkIndex_df160_5 ⟨Nat.zero_le _, Nat.zero_le _⟩) hS (fun _ _ h => h.elim) (fun _ h => h.elim) (fun r_ u_ t_ H1 locs1 ht hvm hw hB hz1 hk1 hS => ?_)
    obtain rfl : H1 = s.heap := ht.symm.trans hB
    rw [hw]
    refine lv_pop hx hb dJ0_checkIndex_df160_8 rfl ?_
    exact W.vret hx hb hr (fun t ht hW => ⟨⟨(), rfl, trivial, ht⟩, hS.F ht⟩) hS.2.2 dJ0_checkIndex_df160_9
set_option maxHeartbeats 4000000 in
set_option maxRecDepth 100000 in
/-- StringLatin1.charAt -/
theorem zs_lCharAt (l : Launch) {v n : Nat} {g : Nat → Int32} {h0 : Heap} {i : Int32} {c0 : Nat} (hc0 : c0 < 256) (hg : g i.toNatClampNeg = sb_b c0) (hi0 : ¬ i < 0) (hi1 : i < Int32.ofNat n) (hin : vp_in i n) : Met l yJ1_charAt_3b067 (.code yJ1_charAt_3b067 cJ1_charAt_3b067 2 (some .char) :: zj_gw) (mj_rm 2 (0) (0)) (va_Pc [.ref v, .int i] (fun U => U.heap = h0 ∧ zs_Q zj_nn U U.heap ∧ zs_T zj_nn v n g U U.heap)) (va_Qi (fun (r : Int32) (_ : Unit) => r = nI c0) (fun _ t => t.heap = h0) zj_nn) (0) (0) (zj_nn) := by
  refine Met.ofW (cc := cJ1_charAt_3b067) (maxL := 2) (ret := some .char) (by decide) rfl ?_
  intro p e s m args below meth c s₁ B hml hv
  obtain ⟨rfl, rfl, hQ, hT⟩ := hv
  have hx := B.exec
  have hb := B.bytes
  have hr := B.returns
  have hts := atoms_spec (ws := .code yJ1_charAt_3b067 cJ1_charAt_3b067 2 (some .char) :: zj_gw) B.pre
  have hown : s.vm.findClass RJ1 = some m.cls := findClass_of_methodNamed B.named
  have hlocks := B.notSynchronized
  have hS : va_S zj_nn s.heap s.heap [] := va_S.rf
  have hl := lv_entry ([.ref v, .int i]) (n := 2) (Nat.le_of_ble_eq_true rfl)
  rw [lg_entry_eq]
  generalize (lg_sl ([.ref v, .int i]) ++ List.replicate (2 - (lg_sl ([.ref v, .int i])).length) Slot.unset).toArray = ls at hl ⊢
  have hl : lv_has ls 2 [(0, .ref v), (1, .int i)] := hl
  refine lv_iload_n hx hb dJ1_charAt_3b067_0 rfl (lv_at hl 1 rfl) ?_
  refine lv_aload_n hx hb dJ1_charAt_3b067_1 rfl (lv_at hl 0 rfl) ?_
  refine va_tlen hx hb hT hS (v := Int32.ofNat n) rfl dJ1_charAt_3b067_2 ?_
  refine va_callv (va_runS (As := [.int i, .int (Int32.ofNat n)]) (rest := []) ⟨hx, hb, hml, hown, hts⟩ (zs_cIdx l hi0 hi1) (va_cwS (own := RJ1) 2 hts (zj_good (zj_S (zj_m (q := 5108) (by decide +kernel) rfl) (zj_m (q := 5109) (by decide +kernel) rfl) (zj_m (q := 1013) (by decide +kernel) rfl) (zj_m (q := 5110) (by decide +kernel) rfl))) rfl rfl rfl (by decide +kernel) ⟨Nat.le_of_ble_eq_true rfl, Nat.le_of_ble_eq_true rfl⟩) ⟨fun a U g mk q => ⟨q.1, q.2.1, zs_Q.moved (u := U) (U := U.calling g mk a) (Vm.Alike.refl U.vm) q.2.2⟩, fun U hU hW => ⟨rfl, hU, by (try rw [hU]); exact zs_Q.moved hW.alike hQ⟩⟩ rfl rfl hl.1 rfl (lv_room (Nat.le_of_ble_eq_true rfl)) dJ1_charAt_3b067_3 ⟨Nat.zero_le _, Nat.zero_le _⟩) hS (fun _ _ h => h.elim) (fun _ h => h.elim) (fun u_ t_ H1 locs1 ht hvm hw hB hz1 hk1 hS => ?_)
  obtain rfl : H1 = s.heap := ht.symm.trans hB
  refine lv_aload_n hx hb dJ1_charAt_3b067_6 rfl (lv_at hl 0 rfl) ?_
  refine lv_iload_n hx hb dJ1_charAt_3b067_7 rfl (lv_at hl 1 rfl) ?_
  refine va_tb hx hb hT hS hin (v := .int (sb_b c0)) (by rw [hg]) dJ1_charAt_3b067_8 ?_
  refine lv_sipush (v := 255) hx hb dJ1_charAt_3b067_9 (by decide) ?_
  refine lv_iand hx hb dJ1_charAt_3b067_12 ?_
  refine zj_top (y := nI c0) ((sb_byte c0 hc0).1) ?_
  refine lv_i2c hx hb dJ1_charAt_3b067_13 (sb_byte c0 hc0).2.1 ?_
  exact W.zret (v := nI c0) hx hb hr ((pk_charN (by omega)).1) (fun t ht hW => ⟨⟨nI c0, (), rfl, rfl, ht⟩, hS.F ht⟩) hS.2.2 dJ1_charAt_3b067_14
set_option maxHeartbeats 4000000 in
set_option maxRecDepth 100000 in
/-- String.charAt -/
theorem zs_charAt (l : Launch) {q v n : Nat} {g : Nat → Int32} {h0 : Heap} {i : Int32} {c0 : Nat} (hc0 : c0 < 256) (hg : g i.toNatClampNeg = sb_b c0) (hi0 : ¬ i < 0) (hi1 : i < Int32.ofNat n) (hin : vp_in i n) : Met l yJ0_charAt_5068e (.code yJ0_charAt_5068e cJ0_charAt_5068e 2 (some .char) :: zj_gw) (mj_rm 3 (0) (0)) (va_Pc [.ref q, .int i] (fun U => U.heap = h0 ∧ zs_C zj_nn U U.heap ∧ zs_Q zj_nn U U.heap ∧ zs_F zj_nn q v n g U U.heap)) (va_Qi (fun (r : Int32) (_ : Unit) => r = nI c0) (fun _ t => t.heap = h0) zj_nn) (0) (0) (zj_nn) := by
  refine Met.ofW (cc := cJ0_charAt_5068e) (maxL := 2) (ret := some .char) (by decide) rfl ?_
  intro p e s m args below meth c s₁ B hml hv
  obtain ⟨rfl, rfl, hC, hQ, hF⟩ := hv
  have hx := B.exec
  have hb := B.bytes
  have hr := B.returns
  have hts := atoms_spec (ws := .code yJ0_charAt_5068e cJ0_charAt_5068e 2 (some .char) :: zj_gw) B.pre
  have hown : s.vm.findClass RJ0 = some m.cls := findClass_of_methodNamed B.named
  have hlocks := B.notSynchronized
  have hS : va_S zj_nn s.heap s.heap [] := va_S.rf
  have hl := lv_entry ([.ref q, .int i]) (n := 2) (Nat.le_of_ble_eq_true rfl)
  rw [lg_entry_eq]
  generalize (lg_sl ([.ref q, .int i]) ++ List.replicate (2 - (lg_sl ([.ref q, .int i])).length) Slot.unset).toArray = ls at hl ⊢
  have hl : lv_has ls 2 [(0, .ref q), (1, .int i)] := hl
  refine lv_aload_n hx hb dJ0_charAt_5068e_0 rfl (lv_at hl 0 rfl) ?_
  refine va_calli (va_runV (As := []) (rest := []) ⟨hx, hb, hml, hown, hts⟩ (zs_isLatin1 l) (cwV (own := RJ0) (C := RJ0) 0 hts (zj_good (zj_V (zj_m (q := 5101) (by decide +kernel) rfl) (zj_m (q := 5102) (by decide +kernel) rfl) (zj_m (q := 5103) (by decide +kernel) rfl) (zj_m (q := 1013) (by decide +kernel) rfl) (zj_m (q := 5104) (by decide +kernel) rfl))) rfl rfl rfl (by decide +kernel) ⟨Nat.le_of_ble_eq_true rfl, Nat.le_of_ble_eq_true rfl⟩) ⟨fun a U g mk q => ⟨q.1, q.2.1, zs_C.moved (u := U) (U := U.calling g mk a) (Vm.Alike.refl U.vm) q.2.2.1, zs_F.moved (u := U) (U := U.calling g mk a) (Vm.Alike.refl U.vm) q.2.2.2⟩, va_Orecv hF.1 hS, fun U hU hW => ⟨rfl, hU, by (try rw [hU]); exact zs_C.moved hW.alike hC, by (try rw [hU]); exact zs_F.moved hW.alike hF⟩⟩ rfl rfl hl.1 rfl (lv_room (Nat.le_of_ble_eq_true rfl)) dJ0_charAt_5068e_1 ⟨Nat.zero_le _, Nat.zero_le _⟩) hS (fun _ _ h => h.elim) (fun _ h => h.elim) (fun r_ u_ t_ H1 locs1 ht hvm hw hB hz1 hk1 hS => ?_)
  obtain rfl : H1 = s.heap := ht.symm.trans hB
  rw [hw]
  refine lv_if_eq (tgt := 16) hx hb dJ0_charAt_5068e_4 (by decide) (fun c_ => absurd c_ (by decide)) (fun _ => ?_)
  refine lv_aload_n hx hb dJ0_charAt_5068e_7 rfl (lv_at hl 0 rfl) ?_
  refine vk_getf hx hb hF.2.2.1 hS hown (hts _ (zj_t (q := 7114) (by decide +kernel) rfl)) (fun _ h9 => h9) dJ0_charAt_5068e_8 ?_
  refine lv_iload_n hx hb dJ0_charAt_5068e_11 rfl (lv_at hl 1 rfl) ?_
  refine va_calli (va_runS (As := [.ref v, .int i]) (rest := []) ⟨hx, hb, hml, hown, hts⟩ (zs_lCharAt l hc0 hg hi0 hi1 hin) (va_cwS (own := RJ0) 2 hts (zj_good (zj_S (zj_m (q := 5105) (by decide +kernel) rfl) (zj_m (q := 5106) (by decide +kernel) rfl) (zj_m (q := 1014) (by decide +kernel) rfl) (zj_m (q := 5107) (by decide +kernel) rfl))) rfl rfl rfl (by decide +kernel) ⟨Nat.le_of_ble_eq_true rfl, Nat.le_of_ble_eq_true rfl⟩) ⟨fun a U g mk q => ⟨q.1, q.2.1, zs_Q.moved (u := U) (U := U.calling g mk a) (Vm.Alike.refl U.vm) q.2.2.1, zs_T.moved (u := U) (U := U.calling g mk a) (Vm.Alike.refl U.vm) q.2.2.2⟩, fun U hU hW => ⟨rfl, hU, by (try rw [hU]); exact zs_Q.moved hW.alike hQ, by (try rw [hU]); exact zs_T.moved hW.alike (show zs_T zj_nn v n g s s.heap from hF.2.2.2)⟩⟩ rfl rfl hl.1 rfl (lv_room (Nat.le_of_ble_eq_true rfl)) dJ0_charAt_5068e_12 ⟨Nat.zero_le _, Nat.zero_le _⟩) hS (fun _ _ h => h.elim) (fun _ h => h.elim) (fun r_ u_ t_ H1 locs1 ht hvm hw hB hz1 hk1 hS => ?_)
  obtain rfl : H1 = s.heap := ht.symm.trans hB
  rw [hw]
  exact W.zret (v := nI c0) hx hb hr ((pk_charN (by omega)).1) (fun t ht hW => ⟨⟨nI c0, (), rfl, rfl, ht⟩, hS.F ht⟩) hS.2.2 dJ0_charAt_5068e_15
