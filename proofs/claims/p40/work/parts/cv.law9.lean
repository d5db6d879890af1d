/-! THE LAW, 9: from its entry to its end -/
theorem zl_le {s : State} {B t : Nat} {cA : Nat → ClassId} {D : va_G} {S : kx_S} {H : Heap} {locs : List Loc} (h : zl_st s B t cA D S H locs) : B + 92 ≤ H.size := by
  obtain ⟨⟨σ, -, hH⟩, -⟩ := h
  have := (hH.1 91 _ (mj_ws_get (by decide))).lt
  show B + 91 + 1 ≤ _
  omega
theorem zl_cs {s : State} {B q v n : Nat} {g : Nat → Int32} {t : Nat} {cA : Nat → ClassId} {D : va_G} {S : kx_S} {H : Heap} {locs : List Loc} (h : zl_st s B t cA D S H locs) (hF : zs_F (zl_A B s) q v n g s s.heap) : zs_F (mj_A B) q v n g s H := (hF.kept h.2.2.2.1).narrow (fun _ h => Or.inl h)
set_option maxHeartbeats 8000000 in
set_option maxRecDepth 100000 in
theorem whole_start {p : Program} {e : Env} {s : State} {m : MethodId} {below : List Frame} {meth : Method} {c : Code} (l : Launch) (hflags : l.flags = flags0) {b L : Nat} {xs : Nat → Int32} (hL : L ≤ 260) (C0 : lw_At p s m meth c b L xs) : W p l e room_1 s m #[Value.ref b] below meth c s.heap [] 0 0 (lw_Z below #[Value.ref b] s) (entryFrame m ([Value.ref b] : List Value).toArray 9) := by
  obtain ⟨t, cA, D, hK⟩ := zl_K C0
  have Fr := zl_F C0 hK
  obtain ⟨hx, hb, hr, hml, hown, hts, hX, hbl, hlocks, hgv⟩ := id C0
  obtain ⟨q39, v39, hR39, hF39⟩ := zc_39 (A := zl_A s.heap.size s) hgv (hts _ (mj_tbl_of (q := 7125) (by decide +kernel))) zl_nA
  obtain ⟨q63, v63, hR63, hF63⟩ := zc_63 (A := zl_A s.heap.size s) hgv (hts _ (mj_tbl_of (q := 7126) (by decide +kernel))) zl_nA
  obtain ⟨q68, v68, hR68, hF68⟩ := zc_68 (A := zl_A s.heap.size s) hgv (hts _ (mj_tbl_of (q := 7127) (by decide +kernel))) zl_nA
  obtain ⟨q70, v70, hR70, hF70⟩ := zc_70 (A := zl_A s.heap.size s) hgv (hts _ (mj_tbl_of (q := 7128) (by decide +kernel))) zl_nA
  obtain ⟨q72, v72, hR72, hF72⟩ := zc_72 (A := zl_A s.heap.size s) hgv (hts _ (mj_tbl_of (q := 7129) (by decide +kernel))) zl_nA
  obtain ⟨q111, v111, hR111, hF111⟩ := zc_111 (A := zl_A s.heap.size s) hgv (hts _ (mj_tbl_of (q := 7130) (by decide +kernel))) zl_nA
  obtain ⟨q139, v139, hR139, hF139⟩ := zc_139 (A := zl_A s.heap.size s) hgv (hts _ (mj_tbl_of (q := 7131) (by decide +kernel))) zl_nA
  obtain ⟨-, -, d1, hG, hT9⟩ := zc_stat (A := zl_A s.heap.size s) hgv hts zl_nA
  have hzt := Fr.2.2.2.2.1
  obtain ⟨c4, i4, k4⟩ := u_known (n := 4) hzt zj_hb (hts (.instantiable RJ4 4) (mj_tbl_of (q := 6159) (by decide +kernel)))
  obtain ⟨c0, i0, k0⟩ := u_known (n := 4) hzt zj_hs (hts (.instantiable RJ0 4) (mj_tbl_of (q := 7073) (by decide +kernel)))
  have hKJ : va_K (fun k => if k = 0 then c4 else c0, fun k => if k = 0 then i4 else i0) zj_cl [] s := by
    refine ⟨fun k q hq => ?_, fun k q hq => by simp at hq⟩
    match k, hq with
    | 0, hq => cases hq; exact k4
    | 1, hq => cases hq; exact k0
    | k + 2, hq => simp at hq
  obtain ⟨g1, t1, j1, r1, o1⟩ := zp_ckE zx_c1
  obtain ⟨g3, t3, j3, r3, o3⟩ := zp_ckE zx_c3
  obtain ⟨g4, t4, j4, r4, o4⟩ := zp_ckE zx_c4
  refine zw_0 hL C0 hK (fun H locs ls pl mu lo h hp3 hm3 hlo hh4 hst hl => ?_)
  obtain ⟨g2, t2, j2, r2, o2⟩ := zp_ckE (zx_c2 lo h hlo hh4 hp3 hm3)
  have zb := zb_ok hlo hh4 hp3 hm3
  refine va_ldcS hx hb hown hR39 dL_law_57 ?_
  refine lv_astore (lv' := [(6, .ref q39), (5, .int (Int32.ofNat (2 + lo + h))), (4, .int (Int32.ofNat (1 + lo))), (3, .int (Int32.ofNat mu)), (2, .int (Int32.ofNat pl)), (1, .ref s.heap.size), (0, .ref b)]) hx hb dL_law_59 hl (by decide) rfl (fun ls hl => ?_)
  refine lv_aload_n hx hb dL_law_61 rfl (lv_at hl 5 rfl) ?_
  refine lv_aload hx hb dL_law_62 (lv_at hl 0 rfl) ?_
  refine zl_t (n := 80) (rn := 4) (N := zx_1) (rest := []) Fr hst hl.1 (zl_cs hst hF39) (by decide) zb_t1 (fun j h1 h2 => absurd h2 (by omega)) (by decide) (by decide) (by decide) t1 (by rw [j1.1.2.1]; decide) (zK_1of o1.1.1 j1).2.1 (by decide) (Nat.le_of_ble_eq_true rfl) (Nat.le_of_ble_eq_true rfl) dL_law_64 (fun H locs hst hkp => ?_)
  refine zj_top (y := 7) (by decide) ?_
  refine zw_1 Fr o1.1.1 j1 r1 (Nat.le_of_ble_eq_true rfl) (Nat.le_of_ble_eq_true rfl) hst hl (fun H locs ls hst hl => ?_)
  refine zw_sb Fr hF39 hF63 hF68 hF70 hF72 hR63 hR68 hR70 hR72 hG hT9 hKJ hlo hh4 hp3 hm3 (Nat.le_of_ble_eq_true rfl) (Nat.le_of_ble_eq_true rfl) hst hl (fun H locs ls q9 rb hst hkp hF9 hl => ?_)
  refine zl_t (n := 107) (rn := 6) (N := zx_2 (1 + lo) (2 + lo + h) pl mu) (rest := []) (g := zb_F lo h pl mu) Fr hst hl.1 hF9 (by decide) zb.1 (fun j h1 h2 => by have h9 := zb.2 (j - 107) (by omega); rw [show 107 + (j - 107) = j by omega] at h9; exact h9) (by decide) (by decide) (by decide) t2 (by rw [j2.1.2.1]; decide) (zK_1of o2.1.1 j2).2.1 (by decide) (Nat.le_of_ble_eq_true rfl) (Nat.le_of_ble_eq_true rfl) dL_law_224 (fun H locs hst hkp => ?_)
  refine zj_top (y := 9) (by decide) ?_
  have hH2 := zv_2H o2.1.1 j2 r2 hlo hh4 hp3 hm3
  refine zw_2 Fr o2.1.1 j2 r2 hlo hh4 hp3 hm3 (zt_I hH2) (Nat.le_of_ble_eq_true rfl) (Nat.le_of_ble_eq_true rfl) hst hl (fun H locs ls hst hl => ?_)
  refine zw_3 Fr (Nat.le_of_ble_eq_true rfl) (Nat.le_of_ble_eq_true rfl) hst hl (fun H1 locs ls w7 cI7 hst1 hkp1 hw7 hK7 hc7 hl7 hl => ?_)
  have hn7 : ¬ mj_A s.heap.size w7 := fun h => by have := zl_le hst; have := h.2; omega
  refine zw_4 (w7 := w7) Fr (Nat.le_of_ble_eq_true rfl) (Nat.le_of_ble_eq_true rfl) hst1 hl (fun H2 locs ls w8 cI8 hst2 hkp2 hw8 hK8 hc8 hl8 hl => ?_)
  have hn8 : ¬ mj_A s.heap.size w8 := fun h => by have := zl_le hst1; have := h.2; omega
  refine zw_5 Fr o2.1.1 j2 r2 hlo hh4 hp3 hm3 hK7 hK8 ((hkp2.2 w7 hl7 hn7).trans hc7) hc8 (Nat.lt_of_lt_of_le hl7 hkp2.1) hl8 hn7 hn8 (Nat.le_of_ble_eq_true rfl) (Nat.le_of_ble_eq_true rfl) hst2 hl (fun H locs ls hst hl => ?_)
  refine zw_6 Fr o2.1.1 j2 r2 hlo hh4 hp3 hm3 (zt_I hH2) (Nat.le_of_ble_eq_true rfl) (Nat.le_of_ble_eq_true rfl) hst hl (fun H locs ls K1 rd1 tk1 cn1 hh1 k1 hst hl => ?_)
  refine zw_7 Fr o2.1.1 j2 r2 hlo hh4 hp3 hm3 k1 (Nat.le_of_ble_eq_true rfl) (Nat.le_of_ble_eq_true rfl) hst hl (fun H locs ls hh1 hst hl => ?_)
  refine zw_8 Fr o2.1.1 j2 r2 hlo hh4 hp3 hm3 k1 (Nat.le_of_ble_eq_true rfl) (Nat.le_of_ble_eq_true rfl) hst hl (fun H locs ls K2 rd2 tk2 hh2 k2 hst hl => ?_)
  refine zw_9 Fr o2.1.1 j2 r2 hlo hh4 hp3 hm3 k2 (Nat.le_of_ble_eq_true rfl) (Nat.le_of_ble_eq_true rfl) hst hl (fun H locs ls hh3 hst hl => ?_)
  refine zw_10 Fr o2.1.1 j2 r2 hlo hh4 hp3 hm3 k2 (Nat.le_of_ble_eq_true rfl) (Nat.le_of_ble_eq_true rfl) hst hl (fun H locs ls K3 rd3 tk3 cn3 hh4' hst hl => ?_)
  refine lv_aload_n hx hb dL_law_718 rfl (lv_at hl 5 rfl) ?_
  refine va_ldcS hx hb hown hR111 dL_law_719 ?_
  refine zl_t (n := 106) (rn := 6) (N := zx_3) (rest := []) Fr hst hl.1 (zl_cs hst hF111) (by decide) zb_t3.1 (fun j h1 h2 => by have h9 := zb_t3.2 (j - 106) (by omega); rw [show 106 + (j - 106) = j by omega] at h9; exact h9) (by decide) (by decide) (by decide) t3 (by rw [j3.1.2.1]; decide) (zK_3of o3.1.1 j3).2.1 (by decide) (Nat.le_of_ble_eq_true rfl) (Nat.le_of_ble_eq_true rfl) dL_law_721 (fun H locs hst hkp => ?_)
  refine zj_top (y := 11) (by decide) ?_
  refine zw_11 Fr o3.1.1 j3 r3 (Nat.le_of_ble_eq_true rfl) (Nat.le_of_ble_eq_true rfl) hst hl (fun H locs ls hst hl => ?_)
  refine zw_12 Fr o3.1.1 j3 r3 (zt_I (zv_3H o3.1.1 j3 r3)) (Nat.le_of_ble_eq_true rfl) (Nat.le_of_ble_eq_true rfl) hst hl (fun H locs ls N5 hh5 hst hl => ?_)
  refine lv_aload_n hx hb dL_law_1060 rfl (lv_at hl 5 rfl) ?_
  refine va_ldcS hx hb hown hR139 dL_law_1061 ?_
  refine zl_t (n := 40) (rn := 2) (N := zx_4) (rest := []) Fr hst hl.1 (zl_cs hst hF139) (by decide) zb_t4 (fun j h1 h2 => absurd h2 (by omega)) (by decide) (by decide) (by decide) t4 (by rw [j4.1.2.1]; decide) (zK_4of o4.1.1 j4).2.1 (by decide) (Nat.le_of_ble_eq_true rfl) (Nat.le_of_ble_eq_true rfl) dL_law_1063 (fun H locs hst hkp => ?_)
  refine zj_top (y := 5) (by decide) ?_
  refine zw_13 Fr o4.1.1 j4 r4 (zt_I (zv_4H o4.1.1 j4 r4)) (Nat.le_of_ble_eq_true rfl) (Nat.le_of_ble_eq_true rfl) hst hl (fun H locs ls K6 rd6 tk6 cn6 hh6 hst hl => ?_)
  refine va_forget (fun q hq => (hst.2.2.2.2 q hq).elim (fun h => h.1) id) ?_
  refine W.widen (k := 600086) (n := 7301442) (Nat.le_of_ble_eq_true rfl) (Nat.le_of_ble_eq_true rfl) ?_
  exact lw_ret hx hb hr hlocks dL_law_1267
