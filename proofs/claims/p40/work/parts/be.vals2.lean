/-! The law's third and fourth text: what is answered -/
section ZVC
variable {g : gM}
theorem zv_3H (hW : jn_GW g) (hI : zz_I g zg_3_d) (hR : zz_R g 3 [0, 0, 0] [0, 0, 0]) : zt_H g zg_3_d zg_3_q zg_3_T := zz_H (zK_3of hW hI) hR zg_3_kk zg_3_tab
def zg_3_vk : List (Nat × Nat) := [(1, 3), (1, 3), (1, 3)]
def zg_3_vj : List (Nat × Nat) := [ka_no, (1, 3), (1, 3)]
def zg_4_vk : List (Nat × Nat) := [(1, 1), (0, 0)]
def zg_4_vj : List (Nat × Nat) := [ka_no, (0, 0)]
theorem zg_3_v : zk_pr zg_3_d (zz_n zg_3_d) (List.replicate zg_3_d.2.1 ka_no) = zg_3_vj ∧ zk_pr zg_3_d (zz_n zg_3_d) zg_3_vj = zg_3_vk ∧ zk_pr zg_3_d (zz_n zg_3_d) zg_3_vk = zg_3_vk := by decide +kernel
theorem zg_4_v : zk_pr zg_4_d (zz_n zg_4_d) (List.replicate zg_4_d.2.1 ka_no) = zg_4_vj ∧ zk_pr zg_4_d (zz_n zg_4_d) zg_4_vj = zg_4_vk ∧ zk_pr zg_4_d (zz_n zg_4_d) zg_4_vk = zg_4_vk := by decide +kernel
def zg_4_w : List (Nat × Nat) := [(0, 0), (1, 1), (0, 0), (1, 1)]
theorem zg_4_wp : zk_pw zg_4_q.2.2.1 zg_4_vk (15 * zg_4_q.1) ((0, 0) :: List.replicate (zg_4_q.1 - 1) ka_no) = zg_4_w ∧ zk_pw zg_4_q.2.2.1 zg_4_vk (15 * zg_4_q.1) zg_4_w = zg_4_w := by decide +kernel
theorem zv_3V (hI : zz_I g zg_3_d) : ka_VK g = zk_V zg_3_vk := zk_VKE hI zg_3_kk zg_3_v.1 zg_3_v.2.1 zg_3_v.2.2
theorem zv_4V (hI : zz_I g zg_4_d) : ka_VK g = zk_V zg_4_vk := zk_VKE hI zg_4_kk zg_4_v.1 zg_4_v.2.1 zg_4_v.2.2
theorem zv_3a (hW : jn_GW g) (hI : zz_I g zg_3_d) (hR : zz_R g 3 [0, 0, 0] [0, 0, 0]) : (ku_n g = 10 ∧ kv_confs g = 0 ∧ kv_tried g 4 0 = 1) ∧ kv_kind g 2 2 = 9 ∧ kv_kind g 0 4 = 1 ∧ kv_short g 0 0 = 2 := by
  have hK := zK_3of hW hI
  have hH := zv_3H hW hI hR
  refine ⟨⟨zv_n hH, zv_confs0 (zz_lvE.trans (zz_ltE hK hR zg_3_kk zy0 zg_3_tab)) (by decide +kernel), ?_⟩, zv_kind2 hK (x := 2) (by decide), zv_kind4 (zv_3V hI) (x := 0) (by decide), ?_⟩
  · rw [zv_tried (Or.inl ⟨Or.inr (Or.inr rfl), rfl⟩), if_pos rfl]
    show kt_tend g 1 = 1
    rw [zz_tend hK, zz_ltE hK hR zg_3_kk zy1 zg_3_utab, zz_lsz (by decide)]
    exact congrArg (fun z : Nat => (z : Int)) zg_3_cf
  · unfold kv_short
    rw [hI.1.2.1, if_pos ⟨⟨by decide, by decide⟩, by decide⟩, zv_3V hI]
    have h1 : ka_wd (-2) (fun _ => 2) 0 1 (zk_V zg_3_vk 0) := Or.inr ⟨rfl, by decide, rfl, fun i hi => ⟨(by decide : (0 : Int) ≤ 2), (by decide : (2 : Int) < 7)⟩⟩
    exact ((kv_wd_of h1 (by decide)).2.1 (by decide))
theorem zg_3_cn : (zt_cn zg_3_d zg_3_q zg_3_T 1 [0] = some 1 ∧ zt_cn zg_3_d zg_3_q zg_3_T 2 [0] = some 1) ∧ zt_cn zg_3_d zg_3_q zg_3_T 3 [0] = some 2 ∧ zt_cn zg_3_d zg_3_q zg_3_T 4 [0] = some 3 := by decide +kernel
theorem zv_3s (hW : jn_GW g) (hI : zz_I g zg_3_d) (hR : zz_R g 3 [0, 0, 0] [0, 0, 0]) : (kv_sents g 1 = 1 ∧ kv_sents g 2 = 1) ∧ kv_sents g 3 = 2 ∧ kv_sents g 4 = 3 := by
  have hH := zv_3H hW hI hR
  exact ⟨⟨zv_sents hH (n := 1) (by decide) zg_3_cn.1.1, zv_sents hH (n := 2) (by decide) zg_3_cn.1.2⟩, zv_sents hH (n := 3) (by decide) zg_3_cn.2.1, zv_sents hH (n := 4) (by decide) zg_3_cn.2.2⟩
/-- without one RULE -/
abbrev zo_K (g : gM) (r : Nat) (d : zz_d) (e : Nat) (fl wl al ol : List Nat) (q : zz_q) (LL : zz_ll) : Prop := zz_K (kp_o g (r : Int)) d e fl wl al ol q LL
theorem zo_W (hW : jn_GW g) (hI : zz_I g zg_3_d) {r : Nat} (hr : r < 5) : jn_GW (kp_o g (r : Int)) := kp_o_GW hW ⟨by omega, by rw [hI.1.2.2.1]; show (r : Int) < 5; omega⟩
theorem zo_3a (hW : jn_GW g) (hI : zz_I g zg_3_d) : zo_K g 0 zg_3a_d 0 zg_3a_fl zg_3a_wl zg_3a_al zg_3a_ol zg_3a_q zg_3a_LL := zz_K_of (zo_W hW hI (r := 0) (by decide)) (zz_I_o hI) zg_3a_ck
theorem zo_3b (hW : jn_GW g) (hI : zz_I g zg_3_d) : zo_K g 1 zg_3b_d 0 zg_3b_fl zg_3b_wl zg_3b_al zg_3b_ol zg_3b_q zg_3b_LL := zz_K_of (zo_W hW hI (r := 1) (by decide)) (zz_I_o hI) zg_3b_ck
theorem zo_3c (hW : jn_GW g) (hI : zz_I g zg_3_d) : zo_K g 2 zg_3c_d 0 zg_3c_fl zg_3c_wl zg_3c_al zg_3c_ol zg_3c_q zg_3c_LL := zz_K_of (zo_W hW hI (r := 2) (by decide)) (zz_I_o hI) zg_3c_ck
theorem zo_3d (hW : jn_GW g) (hI : zz_I g zg_3_d) : zo_K g 3 zg_3d_d 0 zg_3d_fl zg_3d_wl zg_3d_al zg_3d_ol zg_3d_q zg_3d_LL := zz_K_of (zo_W hW hI (r := 3) (by decide)) (zz_I_o hI) zg_3d_ck
theorem zo_3e (hW : jn_GW g) (hI : zz_I g zg_3_d) : zo_K g 4 zg_3e_d 0 zg_3e_fl zg_3e_wl zg_3e_al zg_3e_ol zg_3e_q zg_3e_LL := zz_K_of (zo_W hW hI (r := 4) (by decide)) (zz_I_o hI) zg_3e_ck
theorem zv_3t2 (hW : jn_GW g) (hI : zz_I g zg_3_d) (hR : zz_R g 3 [0, 0, 0] [0, 0, 0]) : kv_tried g 2 0 = 0 := by
  rw [zv_tried (Or.inr (Or.inl ⟨rfl, by decide, by rw [hI.1.2.2.1]; decide⟩)), if_neg (by decide)]
  show kt_tend (kp_o g ((0 : Nat) : Int)) 0 = 0
  have hK := zo_3a hW hI
  rw [zz_tend hK, zz_ltE hK (zz_R_o hR) (by decide +kernel) zy0 zg_3a_tab, zz_ls0 (by decide +kernel)]
  rfl
/-- AFTER, the ring -/
theorem zv_3i (hW : jn_GW g) (hI : zz_I g zg_3_d) : kv_after g 0 2 = 8 ∧ kv_rel g 4 = 1 := by
  have hK := zK_3of hW hI
  exact ⟨zi_after hK (l := [(6, 9), (41, 8), (7, 9), (6, 1), (1, 9), (42, 8), (7, 1), (2, 8), (1, 1), (0, 8)]) (by decide) (by decide +kernel) (by decide +kernel) (by decide +kernel) (s := 0) (k := 2) (by decide) (by decide) (by decide) (by decide +kernel), zi_ring1 hK (C := [(1, 0), (1, 2), (2, 0), (6, 0), (6, 1), (6, 2), (6, 6), (6, 7), (6, 41), (6, 42), (7, 0), (7, 1), (7, 2), (7, 6), (7, 7), (7, 41), (7, 42), (41, 0), (41, 42), (42, 0)]) (x := 6) (y := 7) (by decide) (by decide) (by decide +kernel) (by decide +kernel) (by decide +kernel) (by decide +kernel) (by decide +kernel)⟩
/-- TEXT 4 -/
theorem zv_4H (hW : jn_GW g) (hI : zz_I g zg_4_d) (hR : zz_R g 1 [0] [0]) : zt_H g zg_4_d zg_4_q zg_4_T := zz_H (zK_4of hW hI) hR zg_4_kk zg_4_tab
theorem zv_4a (hW : jn_GW g) (hI : zz_I g zg_4_d) (hR : zz_R g 1 [0] [0]) : (ku_n g = 4 ∧ kv_kind g 1 0 = 1 ∧ kv_kind g 0 0 = 0 ∧ kv_kind g 0 1 = 1) ∧ (kv_kind g 1 1 = 0 ∧ kv_kind g 1 2 = 1 ∧ kv_kind g 1 4 = 0 ∧ kv_look g 0 1 = 1) ∧ (kv_after g 0 1 = 1 ∧ kv_after g 0 0 = 2 ∧ kv_state g 2 3 = 0 ∧ kv_action g 0 0 = 2001) ∧ kv_sents g 1 = 1 ∧ kv_sents g 0 = 0 := by
  have hK := zK_4of hW hI
  have hH := zv_4H hW hI hR
  have hA : ∀ {s k : Nat}, s < 4 → k < 2 → jn_mv (zz_S (zz_k0 zg_4_d) zg_4_q) (5 * s + k) = true → kv_after g (s : Int) (k : Int) = ((zi_a [(1, 1), (0, 2)] (5 * s + k) : Nat) : Int) := fun {s k} h1 h2 h3 => zi_after hK (by decide) (by decide +kernel) (by decide +kernel) (by decide +kernel) h1 h2 (by omega) h3
  refine ⟨⟨zv_n hH, zv_kind0 hK (x := 1) (by decide) rfl, zv_kind0f hK (x := 0) rfl, zv_kind1 hK (x := 0) (by decide)⟩, ⟨zv_kind1 hK (x := 1) (by decide), zv_kind2 hK (x := 1) (by decide), zv_kind4 (zv_4V hI) (x := 1) (by decide), zv_look hK (s := 0) (r := 1) (by decide) (by decide) (by decide) (by decide +kernel)⟩, ⟨hA (s := 0) (k := 1) (by decide) (by decide) (by decide +kernel), hA (s := 0) (k := 0) (by decide) (by decide) (by decide +kernel), ?_, zz_act hH (s := 0) (t := 0) (by decide) (by decide)⟩, zv_sents hH (n := 1) (by decide) (by decide +kernel), zv_sents hH (n := 0) (by decide) (by decide +kernel)⟩
  unfold kv_state
  rw [zv_n hH, if_pos ⟨by decide, by decide⟩, if_neg (by decide), if_neg (by decide), if_neg (by decide), if_pos rfl, zz_KS hK, zk_VWE (zv_4V hI) (by decide +kernel) (by decide) zg_4_wp.1 zg_4_wp.2]
  rfl
end ZVC
