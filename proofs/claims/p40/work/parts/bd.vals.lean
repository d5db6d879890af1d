/-! The law's four texts: what is answered behind each -/
theorem zg_1_kk : zz_kk zg_1_d = true := by decide +kernel
theorem zg_3_kk : zz_kk zg_3_d = true := by decide +kernel
theorem zg_4_kk : zz_kk zg_4_d = true := by decide +kernel
theorem zg_1_cf : jn_ls (zz_cf zg_1_T 7 3) (128 * 7) = 4 := by decide +kernel
theorem zg_3_cf : jn_ls (zz_cf zg_3_U 10 3) (128 * 10) = 1 := by decide +kernel
section ZVB
variable {g : gM}
abbrev zK_1 (g : gM) : Prop := zz_K g zg_1_d 0 zg_1_fl zg_1_wl zg_1_al zg_1_ol zg_1_q zg_1_LL
abbrev zK_3 (g : gM) : Prop := zz_K g zg_3_d 0 zg_3_fl zg_3_wl zg_3_al zg_3_ol zg_3_q zg_3_LL
abbrev zK_4 (g : gM) : Prop := zz_K g zg_4_d 2 zg_4_fl zg_4_wl zg_4_al zg_4_ol zg_4_q zg_4_LL
theorem zK_1of (hW : jn_GW g) (hI : zz_I g zg_1_d) : zK_1 g := zz_K_of hW hI zg_1_ck
theorem zK_3of (hW : jn_GW g) (hI : zz_I g zg_3_d) : zK_3 g := zz_K_of hW hI zg_3_ck
theorem zK_4of (hW : jn_GW g) (hI : zz_I g zg_4_d) : zK_4 g := zz_K_of hW hI zg_4_ck
theorem zy0 : ((0 : Int) = 0 ↔ false = false) := ⟨fun _ => rfl, fun _ => rfl⟩
theorem zy1 : ((1 : Int) = 0 ↔ true = false) := ⟨fun h => absurd h (by decide), fun h => absurd h (by decide)⟩
theorem zg_1_t0 {p m : Nat} (hp : p < 3) (hm : m < 3) : zz_tab zg_1_d zg_1_wl zg_1_al zg_1_ol [0, 0, 0] [p, m, 0] zg_1_q zg_1_LL false = zg_1_T := of_decide_eq_true (zx_get (f := fun p m => decide (zz_tab zg_1_d zg_1_wl zg_1_al zg_1_ol [0, 0, 0] [p, m, 0] zg_1_q zg_1_LL false = zg_1_T)) zg_1_tab hp hm)
/-- TEXT 1 -/
theorem zv_1H (hW : jn_GW g) (hI : zz_I g zg_1_d) (hR : zz_R g 3 [0, 0, 0] [0, 0, 0]) : zt_H g zg_1_d zg_1_q zg_1_T := zz_H (zK_1of hW hI) hR zg_1_kk (zg_1_t0 (by decide) (by decide))
theorem zv_1l (hW : jn_GW g) (hI : zz_I g zg_1_d) (hR : zz_R g 3 [0, 0, 0] [0, 0, 0]) : kv_lm g = zz_cf zg_1_T zg_1_q.1 zg_1_d.1 := zz_lvE.trans (zz_ltE (zK_1of hW hI) hR zg_1_kk zy0 (zg_1_t0 (by decide) (by decide)))
theorem zv_1 (hW : jn_GW g) (hI : zz_I g zg_1_d) (hR : zz_R g 3 [0, 0, 0] [0, 0, 0]) : (ku_n g = 7 ∧ kv_confs g = 4 ∧ kv_action g 5 0 = 1003) ∧ (kv_conf g 0 0 = 5 ∧ kv_conf g 0 1 = 0 ∧ kv_conf g 0 2 = 1003 ∧ kv_conf g 0 3 = 0) ∧ kv_conf g 3 0 = 6 ∧ kv_conf g 3 3 = 1 := by
  have hH := zv_1H hW hI hR
  have hl := zv_1l hW hI hR
  have c0 := zz_conf hH hl (i := 0) (j := 640) (by decide +kernel) (by decide +kernel) (by decide +kernel) (by decide +kernel)
  have c3 := zz_conf hH hl (i := 3) (j := 785) (by decide +kernel) (by decide +kernel) (by decide +kernel) (by decide +kernel)
  refine ⟨⟨zv_n hH, zv_confs hl (by decide) zg_1_cf, zz_act hH (s := 5) (t := 0) (by decide) (by decide)⟩, ⟨c0.1, c0.2.1, c0.2.2.1.trans (hH.1 5 0 (by decide) (by decide)), c0.2.2.2⟩, c3.1, c3.2.2.2⟩
/-- TEXT 2 -/
theorem zr_get {lo h p m : Nat} (hl : lo < 4) (hh : h < 4) (hp : p < 3) (hm : m < 3) : zz_tab zg_1_d zg_1_wl zg_1_al zg_1_ol [1 + lo, 2 + lo + h, 0] [p, m, 0] zg_1_q zg_1_LL false = zr_T p m ∧ zz_z (zz_tab zg_1_d zg_1_wl zg_1_al zg_1_ol [1 + lo, 2 + lo + h, 0] [p, m, 0] zg_1_q zg_1_LL true) = true ∧ zz_z (zz_tab zg_1_d zg_1_wl zg_1_al zg_1_ol [1 + lo, 2 + lo + h, 0] [1, 1, 1] zg_1_q zg_1_LL false) = true := by
  have := zr_t lo h hl hh hp hm
  rw [Bool.and_eq_true, Bool.and_eq_true, decide_eq_true_iff] at this
  exact this
theorem zr_z0 : (List.range 3).all (fun p => (List.range 3).all (fun m => zz_z (zr_T p m))) = true := by decide +kernel
section ZVB2
variable {lo h p m : Nat}
theorem zv_2H (hW : jn_GW g) (hI : zz_I g zg_1_d) (hR : zz_R g 3 [1 + lo, 2 + lo + h, 0] [p, m, 0]) (hl : lo < 4) (hh : h < 4) (hp : p < 3) (hm : m < 3) : zt_H g zg_1_d zg_1_q (zr_T p m) := zz_H (zK_1of hW hI) hR zg_1_kk (zr_get hl hh hp hm).1
theorem zv_2a (hW : jn_GW g) (hI : zz_I g zg_1_d) (hR : zz_R g 3 [1 + lo, 2 + lo + h, 0] [p, m, 0]) (hl : lo < 4) (hh : h < 4) (hp : p < 3) (hm : m < 3) : kv_confs g = 0 ∧ kv_tried g 0 0 = 4 ∧ kv_tried g 1 0 = 0 ∧ kv_tried g 4 0 = 0 := by
  have hK := zK_1of hW hI
  obtain ⟨t1, t2, t3⟩ := zr_get hl hh hp hm
  refine ⟨?_, ?_, ?_, ?_⟩
  · exact zv_confs0 (zz_lvE.trans (zz_ltE hK hR zg_1_kk zy0 t1)) (zx_get (f := fun p m => zz_z (zr_T p m)) zr_z0 hp hm)
  · rw [zv_tried (Or.inl ⟨Or.inl rfl, rfl⟩), if_neg (by decide)]
    have hW' : jn_GW (kt_v g 0 0) := kt_v0_GW hW
    have hK' := zK_1of hW' (zz_I_v0 hI)
    have hR' : zz_R (kt_v g 0 0) 3 [0, 0, 0] [p, m, 0] := fun t ht => ⟨by
      match t, ht with
      | 0, _ => rfl
      | 1, _ => rfl
      | 2, _ => rfl, (hR t ht).2⟩
    rw [zz_tend hK', zz_ltE hK' hR' zg_1_kk zy0 (zg_1_t0 hp hm), zz_lsz (by decide)]
    exact congrArg (fun z : Nat => (z : Int)) zg_1_cf
  · rw [zv_tried (Or.inl ⟨Or.inr (Or.inl rfl), rfl⟩), if_neg (by decide)]
    have hW' : jn_GW (kt_v g 1 0) := kt_v1_GW hW
    have hK' := zK_1of hW' (zz_I_v1 hI)
    have hR' : zz_R (kt_v g 1 0) 3 [1 + lo, 2 + lo + h, 0] [1, 1, 1] := fun t ht => ⟨(hR t ht).1, by
      match t, ht with
      | 0, _ => rfl
      | 1, _ => rfl
      | 2, _ => rfl⟩
    rw [zz_tend hK', zz_ltE hK' hR' zg_1_kk zy0 rfl, zz_ls0 t3]
    rfl
  · rw [zv_tried (Or.inl ⟨Or.inr (Or.inr rfl), rfl⟩), if_pos rfl]
    show kt_tend g 1 = 0
    rw [zz_tend hK, zz_ltE hK hR zg_1_kk zy1 rfl, zz_ls0 t2]
    rfl
theorem zr_cn : (List.range 3).all (fun p => (List.range 3).all (fun m => decide (zt_cn zg_1_d zg_1_q (zr_T p m) 1 [0] = some 1) && (decide (zt_cn zg_1_d zg_1_q (zr_T p m) 2 [0] = some 0) && (decide (zt_cn zg_1_d zg_1_q (zr_T p m) 3 [0] = some 2) && decide (zt_ex zg_1_d zg_1_q (zr_T p m) [0] 3 = some 4))))) = true := by decide +kernel
theorem zv_2b (hW : jn_GW g) (hI : zz_I g zg_1_d) (hR : zz_R g 3 [1 + lo, 2 + lo + h, 0] [p, m, 0]) (hl : lo < 4) (hh : h < 4) (hp : p < 3) (hm : m < 3) : (kv_look g 5 0 = 11 ∧ kv_kind g 0 2 = 11 ∧ kv_kind g 0 1 = 4) ∧ (∀ K, zt_K K [0] → ((kv_ex g K (g 0 0).toNat : Nat) : Int) = 4) ∧ (kv_sents g 1 = 1 ∧ kv_sents g 2 = 0 ∧ kv_sents g 3 = 2) ∧ kv_rule g 0 6 = ((1 + lo : Nat) : Int) ∧ kv_rule g 1 6 = ((2 + lo + h : Nat) : Int) ∧ kv_rule g 2 6 = 0 := by
  have hK := zK_1of hW hI
  have hH := zv_2H hW hI hR hl hh hp hm
  have hc := zx_get (f := fun p m => decide (zt_cn zg_1_d zg_1_q (zr_T p m) 1 [0] = some 1) && (decide (zt_cn zg_1_d zg_1_q (zr_T p m) 2 [0] = some 0) && (decide (zt_cn zg_1_d zg_1_q (zr_T p m) 3 [0] = some 2) && decide (zt_ex zg_1_d zg_1_q (zr_T p m) [0] 3 = some 4)))) zr_cn hp hm
  simp only [Bool.and_eq_true, decide_eq_true_iff] at hc
  obtain ⟨c1, c2, c3, c4⟩ := hc
  exact ⟨⟨zv_look hK (s := 5) (r := 0) (by decide) (by decide) (by decide) (by decide +kernel), zv_kind2 hK (x := 0) (by decide), zv_kind1 hK (x := 0) (by decide)⟩, fun K hk => zv_ex hH hk c4, ⟨zv_sents hH (n := 1) (by decide) c1, zv_sents hH (n := 2) (by decide) c2, zv_sents hH (n := 3) (by decide) c3⟩, zv_rank hI hR (r := 0) (by decide), zv_rank hI hR (r := 1) (by decide), zv_rank hI hR (r := 2) (by decide)⟩
theorem zv_2c (hW : jn_GW g) (hI : zz_I g zg_1_d) (hR : zz_R g 3 [1 + lo, 2 + lo + h, 0] [p, m, 0]) (hl : lo < 4) (hh : h < 4) (hp : p < 3) (hm : m < 3) : (kv_action g 5 0 = (if p = 0 then 2000 else if p = 1 then 1003 else 0) ∧ kv_action g 5 1 = 1004 ∧ kv_action g 6 0 = 2001 ∧ kv_action g 6 1 = (if m = 0 then 2001 else if m = 1 then 1004 else 0)) ∧ kv_action g 5 3 = 2000 ∧ kv_action g 2 3 = 3000 ∧ kv_action g 1 2 = 0 := by
  have hH := zv_2H hW hI hR hl hh hp hm
  refine ⟨⟨(zz_act hH (s := 5) (t := 0) (by decide) (by decide)).trans ?_, zz_act hH (s := 5) (t := 1) (by decide) (by decide), zz_act hH (s := 6) (t := 0) (by decide) (by decide), (zz_act hH (s := 6) (t := 1) (by decide) (by decide)).trans ?_⟩, zz_act hH (s := 5) (t := 3) (by decide) (by decide), zz_act hH (s := 2) (t := 3) (by decide) (by decide), zz_act hH (s := 1) (t := 2) (by decide) (by decide)⟩
  · show ((((if p = 0 then (2000, 0) else if p = 1 then (1003, 0) else (0, 0)) : Nat × Nat).1 : Nat) : Int) = _
    match p, hp with
    | 0, _ => rfl
    | 1, _ => rfl
    | 2, _ => rfl
  · show ((((if m = 0 then (2001, 0) else if m = 1 then (1004, 0) else (0, 0)) : Nat × Nat).1 : Nat) : Int) = _
    match m, hm with
    | 0, _ => rfl
    | 1, _ => rfl
    | 2, _ => rfl
end ZVB2
end ZVB
