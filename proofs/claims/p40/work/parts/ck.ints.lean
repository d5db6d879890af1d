/-! The script's ints; a built text -/
def zs_X (b L : Nat) (xs : Nat → Int32) (U : State) (h : Heap) : Prop := va_X b L xs U h ∧ b < h.size
theorem zs_X.moved {b L : Nat} {xs : Nat → Int32} {u U : State} {h : Heap} (hv : u.vm.Alike U.vm) (H : zs_X b L xs u h) : zs_X b L xs U h := ⟨va_X.moved hv H.1, H.2⟩
def zl_in (x : Int32) (mo : Nat) : Nat := (x &&& 2147483647).toNatClampNeg % mo
def zl_ce (xs : Nat → Int32) (L j : Nat) : Int32 := if j < L then xs j else 0
theorem zl_inE {x : Int32} {mo : Nat} (h0 : 0 < mo) (h1 : mo < 2 ^ 31) : (x &&& 2147483647) - (x &&& 2147483647) / Int32.ofNat mo * Int32.ofNat mo = Int32.ofNat (zl_in x mo) := by
  obtain ⟨j, hj, e⟩ := pk_andE x (m := 2147483647) 31 (by decide)
  unfold zl_in
  rw [e, nI_clamp hj]
  exact pk_rem hj h0 h1
theorem zl_in_lt {x : Int32} {mo : Nat} (h0 : 0 < mo) : zl_in x mo < mo := Nat.mod_lt _ h0
theorem zs_ofP {D : va_G} {ws : va_W} {s : State} {args : Array Value} {x : Jvm.Cond} {H : Heap} {i j q ra cB n : Nat} {f : Nat → Int32} {z1 z2 : Value} (hts : ∀ w ∈ x :: zj_gw, w.before args s = true) (hP : va_P D zj_cl ws H) (hK : va_K D zj_cl [(cB, .byte)] s) (hi : ws[i]? = some (q, .inr (1, [.ref ra, .int 0, z1, z2]))) (hj : ws[j]? = some (ra, .inl (cB, n, .inl f))) (hn : n < 2 ^ 31) : zs_F zj_nn q ra n f s H := by
  obtain ⟨r, h1, cell, q1, q2, q3, q4⟩ := hP i _ hi
  cases h1
  obtain ⟨hS, hfc, kC, hkC, hkind⟩ := hK.1 1 _ rfl
  have hcl : s.vm.findClass "java/lang/String" = some cell.cls := by rw [q2]; exact hfc
  have fld : ∀ k, k < 4 → ∃ (cf : ClassId) (kf : Class) (fi : Nat) (fd : Field), s.fieldFound? (TJ0 k).1 (TJ0 k).2.1 (TJ0 k).2.2.1 = some (cf, kf, fi, fd) ∧ fd.isStatic = false ∧ cell.slots[fd.slot]? = some (vp_V [.ref ra, .int 0, z1, z2] k) := by
    intro k hk
    obtain ⟨cf, kf, fi, fd, hfi, hsl⟩ := hS k hk
    refine ⟨cf, kf, fi, fd, hfi, (u_facts hfc hkC (u_lays hts zj_hs hk) hfi).1, ?_⟩
    rw [hsl]
    exact q4 k hk
  have hvm : cell.vm ≠ .unknown := by rw [q3]; exact fun h => by cases h
  obtain ⟨cf, kf, fi, fd, f1, f2, f3⟩ := fld 0 (by decide)
  obtain ⟨cf', kf', fi', fd', g1, g2, g3⟩ := fld 1 (by decide)
  have hc : H[ra]? = some (vp_cell cB (n, .inl f)) := hP j _ hj
  refine ⟨⟨cell, q1, by rw [q3]; rfl, hcl, id⟩, ⟨cf', kf', fi', fd', cell, g1, g2, q1, hvm, g3, id⟩, ⟨cf, kf, fi, fd, cell, f1, f2, q1, hvm, f3, id⟩, ?_⟩
  refine ⟨_, hc, (hK.2 0 _ rfl).1 n (fun j => .int (f j)), (fun h => by cases h), ?_, ?_, fun k hk => ?_, id⟩
  · rw [vp_cell_i, arrV_size]; exact Nat.le_refl _
  · rw [vp_cell_i, arrV_size]
  · rw [vp_cell_i]; exact arrV_read _ _ hk
theorem dL_cell_0 : decode cL_cell 0 = .ok (.iload_n 1, 1) := by decide +kernel
theorem dL_cell_1 : decode cL_cell 1 = .ok (.aload_n 0, 1) := by decide +kernel
theorem dL_cell_2 : decode cL_cell 2 = .ok (.arraylength, 1) := by decide +kernel
theorem dL_cell_3 : decode cL_cell 3 = .ok (.if_icmp .ge 9, 3) := by decide +kernel
theorem dL_cell_6 : decode cL_cell 6 = .ok (.aload_n 0, 1) := by decide +kernel
theorem dL_cell_7 : decode cL_cell 7 = .ok (.iload_n 1, 1) := by decide +kernel
theorem dL_cell_8 : decode cL_cell 8 = .ok (.iaload, 1) := by decide +kernel
theorem dL_cell_9 : decode cL_cell 9 = .ok (.goto 4, 3) := by decide +kernel
theorem dL_cell_12 : decode cL_cell 12 = .ok (.iconst 0, 1) := by decide +kernel
theorem dL_cell_13 : decode cL_cell 13 = .ok (.ireturn, 1) := by decide +kernel
theorem dL_in_0 : decode cL_in 0 = .ok (.iload_n 0, 1) := by decide +kernel
theorem dL_in_1 : decode cL_in 1 = .ok (.ldc 7, 2) := by decide +kernel
theorem dL_in_3 : decode cL_in 3 = .ok (.iand, 1) := by decide +kernel
theorem dL_in_4 : decode cL_in 4 = .ok (.iload_n 1, 1) := by decide +kernel
theorem dL_in_5 : decode cL_in 5 = .ok (.irem, 1) := by decide +kernel
theorem dL_in_6 : decode cL_in 6 = .ok (.ireturn, 1) := by decide +kernel
set_option maxHeartbeats 1000000 in
set_option maxRecDepth 100000 in
/-- LalrDeskLaw.cell -/
theorem zs_cell (l : Launch) {b L j : Nat} {xs : Nat → Int32} {h0 : Heap} (hL : L ≤ 260) (hj : j < 10) : Met l yL_cell (.code yL_cell cL_cell 2 (some .int) :: zj_gw) (mj_rm 0 (0) (0)) (va_Pc [.ref b, .int (Int32.ofNat j)] (fun U => U.heap = h0 ∧ zs_X b L xs U U.heap)) (va_Qi (fun (r : Int32) (_ : Unit) => r = zl_ce xs L j) (fun _ t => t.heap = h0) zj_nn) (0) (0) (zj_nn) := by
  refine Met.ofW (cc := cL_cell) (maxL := 2) (ret := some .int) (by decide) rfl ?_
  intro p e s m args below meth c s₁ B hml hv
  obtain ⟨rfl, rfl, hX⟩ := hv
  have hx := B.exec
  have hb := B.bytes
  have hr := B.returns
  have hts := atoms_spec (ws := .code yL_cell cL_cell 2 (some .int) :: zj_gw) B.pre
  have hown : s.vm.findClass RL = some m.cls := findClass_of_methodNamed B.named
  have hlocks := B.notSynchronized
  have hS : va_S zj_nn s.heap s.heap [] := va_S.rf
  have hl := lv_entry ([.ref b, .int (Int32.ofNat j)]) (n := 2) (Nat.le_of_ble_eq_true rfl)
  rw [lg_entry_eq]
  generalize (lg_sl ([.ref b, .int (Int32.ofNat j)]) ++ List.replicate (2 - (lg_sl ([.ref b, .int (Int32.ofNat j)])).length) Slot.unset).toArray = ls at hl ⊢
  have hl : lv_has ls 2 [(0, .ref b), (1, .int (Int32.ofNat j))] := hl
  refine lv_iload_n hx hb dL_cell_0 rfl (lv_at hl 1 rfl) ?_
  refine lv_aload_n hx hb dL_cell_1 rfl (lv_at hl 0 rfl) ?_
  refine va_slen hx hb hX.1 hX.2 id hS dL_cell_2 ?_
  by_cases hlt : j < L
  · refine lv_icmp_ge (tgt := 12) hx hb dL_cell_3 (by decide) (fun c_ => absurd c_ (nI_ge hlt (by omega))) (fun _ => ?_)
    refine lv_aload_n hx hb dL_cell_6 rfl (lv_at hl 0 rfl) ?_
    refine lv_iload_n hx hb dL_cell_7 rfl (lv_at hl 1 rfl) ?_
    refine va_sld hx hb hX.1 hX.2 id hS (vp_in_nI hlt (by omega)) dL_cell_8 ?_
    rw [show (Int32.ofNat j).toNatClampNeg = j from nI_clamp (by omega)]
    refine lv_goto (tgt := 13) hx hb dL_cell_9 (by decide) ?_
    refine zj_top (y := zl_ce xs L j) (if_pos hlt).symm ?_
    exact W.iret (v := zl_ce xs L j) hx hb hr (fun t ht hW => ⟨⟨zl_ce xs L j, (), rfl, rfl, ht⟩, hS.F ht⟩) hS.2.2 dL_cell_13
  · refine lv_icmp_ge (tgt := 12) hx hb dL_cell_3 (by decide) (fun _ => ?_) (fun c_ => (c_ (nI_le (by omega) (by omega))).elim)
    refine lv_iconst (v := 0) hx hb dL_cell_12 (by decide) ?_
    refine zj_top (y := zl_ce xs L j) (if_neg hlt).symm ?_
    exact W.iret (v := zl_ce xs L j) hx hb hr (fun t ht hW => ⟨⟨zl_ce xs L j, (), rfl, rfl, ht⟩, hS.F ht⟩) hS.2.2 dL_cell_13
set_option maxHeartbeats 1000000 in
set_option maxRecDepth 100000 in
/-- LalrDeskLaw.in -/
theorem zs_in (l : Launch) {y : Int32} {mo : Nat} {h0 : Heap} (h0m : 0 < mo) (h1m : mo < 2 ^ 31) (h2m : ¬ Int32.ofNat mo = 0) : Met l yL_in (.code yL_in cL_in 2 (some .int) :: zj_gw) (mj_rm 0 (0) (0)) (va_Pc [.int y, .int (Int32.ofNat mo)] (fun U => U.heap = h0 ∧ zs_0 U)) (va_Qi (fun (r : Int32) (_ : Unit) => r = Int32.ofNat (zl_in y mo)) (fun _ t => t.heap = h0) zj_nn) (0) (0) (zj_nn) := by
  refine Met.ofW (cc := cL_in) (maxL := 2) (ret := some .int) (by decide) rfl ?_
  intro p e s m args below meth c s₁ B hml hv
  obtain ⟨rfl, rfl, -⟩ := hv
  have hx := B.exec
  have hb := B.bytes
  have hr := B.returns
  have hts := atoms_spec (ws := .code yL_in cL_in 2 (some .int) :: zj_gw) B.pre
  have hown : s.vm.findClass RL = some m.cls := findClass_of_methodNamed B.named
  have hlocks := B.notSynchronized
  have hS : va_S zj_nn s.heap s.heap [] := va_S.rf
  have hl := lv_entry ([.int y, .int (Int32.ofNat mo)]) (n := 2) (Nat.le_of_ble_eq_true rfl)
  rw [lg_entry_eq]
  generalize (lg_sl ([.int y, .int (Int32.ofNat mo)]) ++ List.replicate (2 - (lg_sl ([.int y, .int (Int32.ofNat mo)])).length) Slot.unset).toArray = ls at hl ⊢
  have hl : lv_has ls 2 [(0, .int y), (1, .int (Int32.ofNat mo))] := hl
  refine lv_iload_n hx hb dL_in_0 rfl (lv_at hl 0 rfl) ?_
  refine lv_ldc (v := 2147483647) hx hb hown (hts _ (zj_t (q := 5083) (by decide +kernel) rfl)) dL_in_1 ?_
  refine lv_iand hx hb dL_in_3 ?_
  refine lv_iload_n hx hb dL_in_4 rfl (lv_at hl 1 rfl) ?_
  refine lv_irem hx hb dL_in_5 h2m ?_
  refine zj_top (y := Int32.ofNat (zl_in y mo)) (zl_inE h0m h1m) ?_
  exact W.iret (v := Int32.ofNat (zl_in y mo)) hx hb hr (fun t ht hW => ⟨⟨Int32.ofNat (zl_in y mo), (), rfl, rfl, ht⟩, hS.F ht⟩) hS.2.2 dL_in_6
