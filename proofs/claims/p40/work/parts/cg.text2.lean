/-! LalrDeskLaw.text, 2: round by round -/
theorem dL_text_2 : decode cL_text 2 = .ok (.iload_n 2, 1) := by decide +kernel
theorem dL_text_3 : decode cL_text 3 = .ok (.aload_n 1, 1) := by decide +kernel
theorem dL_text_4 : decode cL_text 4 = .ok (.invokevirtual 8, 3) := by decide +kernel
theorem dL_text_7 : decode cL_text 7 = .ok (.if_icmp .ge 98, 3) := by decide +kernel
theorem dL_text_10 : decode cL_text 10 = .ok (.iconst 5, 1) := by decide +kernel
theorem dL_text_11 : decode cL_text 11 = .ok (.newarray .int, 2) := by decide +kernel
theorem dL_text_13 : decode cL_text 13 = .ok (.astore_n 3, 1) := by decide +kernel
theorem dL_text_14 : decode cL_text 14 = .ok (.iconst 0, 1) := by decide +kernel
theorem dL_text_15 : decode cL_text 15 = .ok (.istore 4, 2) := by decide +kernel
theorem dL_text_74 : decode cL_text 74 = .ok (.aload_n 0, 1) := by decide +kernel
theorem dL_text_75 : decode cL_text 75 = .ok (.aload_n 3, 1) := by decide +kernel
theorem dL_text_76 : decode cL_text 76 = .ok (.iconst 0, 1) := by decide +kernel
theorem dL_text_77 : decode cL_text 77 = .ok (.iaload, 1) := by decide +kernel
theorem dL_text_78 : decode cL_text 78 = .ok (.aload_n 3, 1) := by decide +kernel
theorem dL_text_79 : decode cL_text 79 = .ok (.iconst 1, 1) := by decide +kernel
theorem dL_text_80 : decode cL_text 80 = .ok (.iaload, 1) := by decide +kernel
theorem dL_text_81 : decode cL_text 81 = .ok (.aload_n 3, 1) := by decide +kernel
theorem dL_text_82 : decode cL_text 82 = .ok (.iconst 2, 1) := by decide +kernel
theorem dL_text_83 : decode cL_text 83 = .ok (.iaload, 1) := by decide +kernel
theorem dL_text_84 : decode cL_text 84 = .ok (.aload_n 3, 1) := by decide +kernel
theorem dL_text_85 : decode cL_text 85 = .ok (.iconst 3, 1) := by decide +kernel
theorem dL_text_86 : decode cL_text 86 = .ok (.iaload, 1) := by decide +kernel
theorem dL_text_87 : decode cL_text 87 = .ok (.aload_n 3, 1) := by decide +kernel
theorem dL_text_88 : decode cL_text 88 = .ok (.iconst 4, 1) := by decide +kernel
theorem dL_text_89 : decode cL_text 89 = .ok (.iaload, 1) := by decide +kernel
theorem dL_text_90 : decode cL_text 90 = .ok (.invokevirtual 18, 3) := by decide +kernel
theorem dL_text_93 : decode cL_text 93 = .ok (.ifCond .ge 6, 3) := by decide +kernel
theorem dL_text_99 : decode cL_text 99 = .ok (.iinc 2 20, 3) := by decide +kernel
theorem dL_text_102 : decode cL_text 102 = .ok (.goto (-100), 3) := by decide +kernel
section ZTY
variable {p : Program} {l : Launch} {e : Env} {R : Room} {s : State} {m : MethodId} {args : Array Value} {below : List Frame} {meth : Method} {c : Code} {H : Heap} {locs : List Loc} {cells slots : Nat} {Q : State → Prop}
variable {x : Jvm.Cond} {B t k n q v w cI N mt : Nat} {cA : Nat → ClassId} {D : va_G} {ls : Array Slot} {g : Nat → Int32}
variable {T cn rn : Nat} {gg : gM} {K : kr_K} {rd tk im F P : Int} {Nn : kn_N} {hh : kz_H} {I : kr_K × Int × Int}
set_option maxHeartbeats 2000000 in
set_option maxRecDepth 100000 in
theorem zs_tout (hx : p.tables.exec = Jvm.exec) (hb : c.code = cL_text) (hml : c.maxLocals = 5) (hown : s.vm.findClass RL = some m.cls) (hts : ∀ w ∈ x :: zj_gw, w.before args s = true) (hC : zs_C (zl_A B s) s s.heap) (hQ : zs_Q (zl_A B s) s s.heap) (hF : zs_F (zl_A B s) q v n g s s.heap) (hK : mj_K B t cA D s) (hBB : B ≤ s.heap.size)
    (hn : n < 1000) (hg : ∀ j, j < n → g j = sb_b (zp_b N j)) (hsp : ∀ j, n ≤ j → j < 20 * rn → zp_b N j = 32) (hrn : n ≤ 20 * rn ∧ 20 * rn < n + 20) (hmt : 20 * rn ≤ 700) (hfr : 8 ≤ R.frames) (hlo : 320 ≤ R.locals) (hcc : rn ≤ R.cells) (hss : 5 * rn ≤ R.slots)
    (kk : ∀ σ Br H locs ls, kx_C σ ((T, gg), (K, rd, tk), Nn, (cn, hh), (I, im), Br, F, P, ((20 * rn : Nat) : Int)) → kx_P ((T, gg), (K, rd, tk), Nn, (cn, hh), (I, im), Br, F, P, ((20 * rn : Nat) : Int)) → mj_hd B t cA D (jg_en 92 σ) 92 H → (rn = 0 ∨ Br = zp_B N (20 * rn)) → va_S (zl_A B s) s.heap H locs → lv_has ls 5 [(2, .int (Int32.ofNat (20 * rn))), (0, .ref B), (1, .ref q)] → W p l e R s m args below meth c H locs rn (5 * rn) Q (F0 m 105 ls [])) :
    ∀ (j r : Nat) (σ : jg_M) (Br : Nat → Int) (H : Heap) (locs : List Loc) (ls : Array Slot), r + j = rn → kx_C σ ((T, gg), (K, rd, tk), Nn, (cn, hh), (I, im), Br, F, P, ((20 * r : Nat) : Int)) → kx_P ((T, gg), (K, rd, tk), Nn, (cn, hh), (I, im), Br, F, P, ((20 * r : Nat) : Int)) → mj_hd B t cA D (jg_en 92 σ) 92 H → (r = 0 ∨ Br = zp_B N (20 * r)) → va_S (zl_A B s) s.heap H locs → lv_has ls 5 [(2, .int (Int32.ofNat (20 * r))), (0, .ref B), (1, .ref q)] → W p l e R s m args below meth c H locs r (5 * r) Q (F0 m 2 ls []) := by
  intro j
  induction j with
  | zero =>
    intro r σ Br H locs ls hj hC1 hP1 hH hBr hS hl
    obtain rfl : r = rn := by omega
    have hcr : r + 0 ≤ R.cells := hcc
    have hsr : 5 * r + 0 ≤ R.slots := hss
    refine lv_iload_n hx hb dL_text_2 rfl (lv_at hl 0 rfl) ?_
    refine lv_aload_n hx hb dL_text_3 rfl (lv_at hl 2 rfl) ?_
    refine va_calli (va_runV (As := []) (rest := [.int (Int32.ofNat (20 * r))]) ⟨hx, hb, hml, hown, hts⟩ (zs_length l) (cwV (own := RL) (C := RJ0) 0 hts (zj_good (zj_V (zj_m (q := 5087) (by decide +kernel) rfl) (zj_m (q := 5088) (by decide +kernel) rfl) (zj_m (q := 5089) (by decide +kernel) rfl) (zj_m (q := 1013) (by decide +kernel) rfl) (zj_m (q := 5090) (by decide +kernel) rfl))) rfl rfl rfl (by decide +kernel) ⟨Nat.le_trans (Nat.le_of_ble_eq_true (m := 8) rfl) hfr, Nat.le_trans (Nat.le_of_ble_eq_true (m := 320) rfl) hlo⟩) ⟨fun a U g mk q => ⟨q.1, q.2.1, zs_C.moved (u := U) (U := U.calling g mk a) (Vm.Alike.refl U.vm) q.2.2.1, zs_F.moved (u := U) (U := U.calling g mk a) (Vm.Alike.refl U.vm) q.2.2.2⟩, va_Orecv hF.1 hS, fun U hU hW => ⟨rfl, hU, by (try rw [hU]); exact zs_C.moved hW.alike ((hC.kept hS.2.1).narrow (fun _ h => h.elim)), by (try rw [hU]); exact zs_F.moved hW.alike ((hF.kept hS.2.1).narrow (fun _ h => h.elim))⟩⟩ rfl rfl hl.1 rfl (lv_room (Nat.le_of_ble_eq_true rfl)) dL_text_4 ⟨hcr, hsr⟩) hS (fun _ _ h => h.elim) (fun _ h => h.elim) (fun r_ u_ t_ H1 locs1 ht hvm hw hB hz1 hk1 hS => ?_)
    obtain rfl : H = H1 := (ht.symm.trans hB).symm
    rw [hw]
    refine lv_icmp_ge (tgt := 105) hx hb dL_text_7 (by decide) (fun _ => ?_) (fun c_ => (c_ (nI_le (by omega) (by omega))).elim)
    exact kk σ Br H _ ls hC1 hP1 hH hBr hS hl
  | succ j ih =>
    intro r σ Br H locs ls hj hC1 hP1 hH hBr hS hl
    have hcr : r + 0 ≤ R.cells := by omega
    have hsr : 5 * r + 0 ≤ R.slots := by omega
    refine lv_iload_n hx hb dL_text_2 rfl (lv_at hl 0 rfl) ?_
    refine lv_aload_n hx hb dL_text_3 rfl (lv_at hl 2 rfl) ?_
    refine va_calli (va_runV (As := []) (rest := [.int (Int32.ofNat (20 * r))]) ⟨hx, hb, hml, hown, hts⟩ (zs_length l) (cwV (own := RL) (C := RJ0) 0 hts (zj_good (zj_V (zj_m (q := 5087) (by decide +kernel) rfl) (zj_m (q := 5088) (by decide +kernel) rfl) (zj_m (q := 5089) (by decide +kernel) rfl) (zj_m (q := 1013) (by decide +kernel) rfl) (zj_m (q := 5090) (by decide +kernel) rfl))) rfl rfl rfl (by decide +kernel) ⟨Nat.le_trans (Nat.le_of_ble_eq_true (m := 8) rfl) hfr, Nat.le_trans (Nat.le_of_ble_eq_true (m := 320) rfl) hlo⟩) ⟨fun a U g mk q => ⟨q.1, q.2.1, zs_C.moved (u := U) (U := U.calling g mk a) (Vm.Alike.refl U.vm) q.2.2.1, zs_F.moved (u := U) (U := U.calling g mk a) (Vm.Alike.refl U.vm) q.2.2.2⟩, va_Orecv hF.1 hS, fun U hU hW => ⟨rfl, hU, by (try rw [hU]); exact zs_C.moved hW.alike ((hC.kept hS.2.1).narrow (fun _ h => h.elim)), by (try rw [hU]); exact zs_F.moved hW.alike ((hF.kept hS.2.1).narrow (fun _ h => h.elim))⟩⟩ rfl rfl hl.1 rfl (lv_room (Nat.le_of_ble_eq_true rfl)) dL_text_4 ⟨hcr, hsr⟩) hS (fun _ _ h => h.elim) (fun _ h => h.elim) (fun r_ u_ t_ H1 locs1 ht hvm hw hB hz1 hk1 hS => ?_)
    obtain rfl : H = H1 := (ht.symm.trans hB).symm
    rw [hw]
    refine lv_icmp_ge (tgt := 105) hx hb dL_text_7 (by decide) (fun c_ => absurd c_ (nI_ge (by omega) (by omega))) (fun _ => ?_)
    refine lv_iconst (v := 5) hx hb dL_text_10 (by decide) ?_
    refine va_newaK (atype := .int) hx hb (hts _ (zj_t (q := 1073) (by decide +kernel) rfl)) rfl dL_text_11 (n := 5) rfl (by decide) (N := 5) (by decide) (by decide) (by omega) (by omega) rfl (fun H1 cI e1 z1 o1 hAr hNm => ?_)
    refine W.eq (g2 := F0 m 13 ls [.ref H.size]) rfl ?_
    have hK0 : va_K D [] [(cI, .int)] s := ⟨fun c q hq => by simp at hq, fun k q hk => by
      match k, hk with
      | 0, hk => cases hk; exact ⟨hAr, hNm⟩⟩
    have hw0 : H1[H.size]? = some (vp_cell cI (5, .inl (zt_f N (20 * r) 0))) := e1
    have hH1 : mj_hd B t cA D (jg_en 92 σ) 92 H1 := ⟨hH.1.kept (fun k q hq => o1 q.1 (hH.1 k q hq).lt), hH.2⟩
    have hS1 : va_S (zl_A B s) s.heap H1 _ := ⟨Nat.le_trans hS.1 (by omega), fun q h1 h2 => (o1 q (Nat.lt_of_lt_of_le h1 hS.1)).trans (hS.2.1 q h1 h2), hS.2.2⟩
    have hwB : ∀ k, k < 92 → B + k ≠ H.size := fun k hk => Nat.ne_of_lt ((hH.1 k _ (mj_ws_get hk)).lt)
    generalize hwe : H.size = w at hw0 hwB ⊢
    refine lv_astore_n (lv' := [(3, .ref w), (2, .int (Int32.ofNat (20 * r))), (0, .ref B), (1, .ref q)]) hx hb dL_text_13 rfl hl (by decide) rfl (fun ls hl => ?_)
    refine lv_iconst (v := 0) hx hb dL_text_14 (by decide) ?_
    refine lv_istore (lv' := [(4, .int (Int32.ofNat 0)), (3, .ref w), (2, .int (Int32.ofNat (20 * r))), (0, .ref B), (1, .ref q)]) hx hb dL_text_15 hl (by decide) rfl (fun ls hl => ?_)
    refine zs_tin (k := 20 * r) (w := w) (mt := 20 * rn) hx hb hml hown hts hC hQ hF hK0 hn hg hsp (by omega) hmt (Or.inr (by rw [← hwe]; exact hS.1)) (Nat.le_trans (by decide) hfr) (Nat.le_trans (by decide) hlo) (by omega) (by omega) (H0 := H1) ?_ 20 0 H1 _ ls rfl hw0 rfl (fun a _ => rfl) hS1 hl
    intro H2 locs2 ls hw2 hz2 ho2 hS2 hl
    have hH2 : mj_hd B t cA D (jg_en 92 σ) 92 H2 := ⟨hH1.1.kept (fun k q hq => ho2 q.1 (by obtain ⟨hk, rfl⟩ := mj_ws_no hq; exact hwB k hk)), hH1.2⟩
    refine lv_aload_n hx hb dL_text_74 rfl (lv_at hl 3 rfl) ?_
    refine lv_aload_n hx hb dL_text_75 rfl (lv_at hl 1 rfl) ?_
    refine lv_iconst (v := 0) hx hb dL_text_76 (by decide) ?_
    refine va_iald hx hb hK0 (zl_P (D := D) hw2) 0 0 rfl rfl (by show ¬ ((0 : Int32) < 0 ∨ 5 ≤ (0 : Int32).toNatClampNeg); decide) dL_text_77 ?_
    rw [show (0 : Int32).toNatClampNeg = 0 from by decide]
    refine lv_aload_n hx hb dL_text_78 rfl (lv_at hl 1 rfl) ?_
    refine lv_iconst (v := 1) hx hb dL_text_79 (by decide) ?_
    refine va_iald hx hb hK0 (zl_P (D := D) hw2) 0 0 rfl rfl (by show ¬ ((1 : Int32) < 0 ∨ 5 ≤ (1 : Int32).toNatClampNeg); decide) dL_text_80 ?_
    rw [show (1 : Int32).toNatClampNeg = 1 from by decide]
    refine lv_aload_n hx hb dL_text_81 rfl (lv_at hl 1 rfl) ?_
    refine lv_iconst (v := 2) hx hb dL_text_82 (by decide) ?_
    refine va_iald hx hb hK0 (zl_P (D := D) hw2) 0 0 rfl rfl (by show ¬ ((2 : Int32) < 0 ∨ 5 ≤ (2 : Int32).toNatClampNeg); decide) dL_text_83 ?_
    rw [show (2 : Int32).toNatClampNeg = 2 from by decide]
    refine lv_aload_n hx hb dL_text_84 rfl (lv_at hl 1 rfl) ?_
    refine lv_iconst (v := 3) hx hb dL_text_85 (by decide) ?_
    refine va_iald hx hb hK0 (zl_P (D := D) hw2) 0 0 rfl rfl (by show ¬ ((3 : Int32) < 0 ∨ 5 ≤ (3 : Int32).toNatClampNeg); decide) dL_text_86 ?_
    rw [show (3 : Int32).toNatClampNeg = 3 from by decide]
    refine lv_aload_n hx hb dL_text_87 rfl (lv_at hl 1 rfl) ?_
    refine lv_iconst (v := 4) hx hb dL_text_88 (by decide) ?_
    refine va_iald hx hb hK0 (zl_P (D := D) hw2) 0 0 rfl rfl (by show ¬ ((4 : Int32) < 0 ∨ 5 ≤ (4 : Int32).toNatClampNeg); decide) dL_text_89 ?_
    rw [show (4 : Int32).toNatClampNeg = 4 from by decide]
    have hT : kc_T ((T, gg), (K, rd, tk), Nn, (cn, hh), (I, im), Br, F, P, ((20 * r : Nat) : Int)) 1 mm_X11_feed [.int (zt_f N (20 * r) 20 0), .int (zt_f N (20 * r) 20 1), .int (zt_f N (20 * r) 20 2), .int (zt_f N (20 * r) 20 3), .int (zt_f N (20 * r) 20 4)] (((20 * r : Nat) : Int) + 20) ((T, gg), (K, rd, tk), Nn, (cn, hh), (I, im), (zp_B N (20 * (r + 1))), F, P, ((20 * (r + 1) : Nat) : Int)) := by
      have h := kc_feed (x1 := (zt_f N (20 * r) 20 0).toInt) (x2 := (zt_f N (20 * r) 20 1).toInt) (x3 := (zt_f N (20 * r) 20 2).toInt) (x4 := (zt_f N (20 * r) 20 3).toInt) (x5 := (zt_f N (20 * r) 20 4).toInt) hP1 (by omega)
      rw [Int32.ofInt_toInt, Int32.ofInt_toInt, Int32.ofInt_toInt, Int32.ofInt_toInt, Int32.ofInt_toInt] at h
      have e1 : kx_fb Br ((20 * r : Nat) : Int).toNat (zt_f N (20 * r) 20 0).toInt (zt_f N (20 * r) 20 1).toInt (zt_f N (20 * r) 20 2).toInt (zt_f N (20 * r) 20 3).toInt (zt_f N (20 * r) 20 4).toInt = zp_B N (20 * (r + 1)) := by
        funext j
        rw [Int.toNat_natCast]
        unfold kx_fb zp_B
        by_cases h1 : j < 20 * r
        · rw [if_pos h1, if_pos (by omega)]
          rcases hBr with rfl | hBr
          · omega
          · rw [hBr]
            unfold zp_B
            rw [if_pos h1]
        · rw [if_neg h1]
          by_cases h2 : j < 20 * r + 20
          · rw [if_pos h2, if_pos (by omega), zt_fb (by omega), show 20 * r + (j - 20 * r) = j by omega]
          · rw [if_neg h2, if_neg (by omega)]
      have e2 : ((20 * r : Nat) : Int) + 20 = ((20 * (r + 1) : Nat) : Int) := by omega
      rw [e1] at h
      rw [e2] at h ⊢
      exact h
    refine zl_call (As := [.int (zt_f N (20 * r) 20 0), .int (zt_f N (20 * r) 20 1), .int (zt_f N (20 * r) 20 2), .int (zt_f N (20 * r) 20 3), .int (zt_f N (20 * r) 20 4)]) (rest := []) hx hb (hml.trans hl.1.symm) hown hts hK hBB hS2 hH2 hC1 hT zl_feed rfl rfl ⟨Nat.le_of_ble_eq_true rfl, rfl⟩ (by decide) (Nat.le_trans (by decide) hfr) (Nat.le_trans (by decide) hlo) (by omega) (by omega) dL_text_90 (fun τ H3 locs3 hC3 hH3 hS3 hz3 hk3 => ?_)
    have hge : (0 : Int32) ≤ Int32.ofInt (((20 * r : Nat) : Int) + 20) := by
      rw [show ((20 * r : Nat) : Int) + 20 = ((20 * r + 20 : Nat) : Int) by omega]
      exact nI_pos' (n := 20 * r + 20) (by omega)
    refine lv_if_ge (tgt := 99) hx hb dL_text_93 (by decide) (fun _ => ?_) (fun c_ => (c_ (hge)).elim)
    refine lv_iinc (v := Int32.ofNat (20 * (r + 1))) (lv' := [(2, .int (Int32.ofNat (20 * (r + 1)))), (4, .int (Int32.ofNat 20)), (3, .ref w), (0, .ref B), (1, .ref q)]) hx hb dL_text_99 hl (k := 2) rfl (zj_add (20 * r) 20) (by decide) rfl (fun ls hl => ?_)
    refine lv_goto (tgt := 2) hx hb dL_text_102 (by decide) ?_
    exact ih (r + 1) τ _ H3 locs3 ls (by omega) hC3 hT.1 hH3 (Or.inr rfl) hS3 (lv_sub hl [0, 3, 4] rfl)
end ZTY
