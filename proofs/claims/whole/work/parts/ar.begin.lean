/-! THE LAW'S ENTRY: the machine's facts, both constructors, the law's own row -/
theorem lk_tbl_of {w : Jvm.Cond} {q : Nat} (h : mj_w q w = true) : w ∈ lw_tbl := by
  have h1 := of_decide_eq_true h
  have h2 : w ∈ mj_tb (q / 1000) := List.mem_of_getElem? h1
  have h3 : ∀ L : List Jvm.Cond, (∀ x ∈ [k2_sels lw_privs, tables_1_1, tables_1_2, tables_1_3, tables_1_4, tables_1_5, tables_1_6, tables_1_7, tables_1_8, tables_1_9], ∀ w ∈ x, w ∈ L) → mj_tb (q / 1000) ⊆ L := by
    intro L hL w hw
    unfold mj_tb at hw
    rw [List.getD_eq_getElem?_getD] at hw
    cases hq : ([k2_sels lw_privs, tables_1_1, tables_1_2, tables_1_3, tables_1_4, tables_1_5, tables_1_6, tables_1_7, tables_1_8, tables_1_9] : List (List Jvm.Cond))[q / 1000]? with
    | none => rw [hq] at hw; cases hw
    | some x => rw [hq] at hw; exact hL x (List.mem_of_getElem? hq) w hw
  refine h3 lw_tbl ?_ h2
  intro x hx w hw
  unfold lw_tbl tables_1
  simp only [List.mem_cons, List.not_mem_nil, or_false] at hx
  simp only [List.mem_append]
  rcases hx with rfl | rfl | rfl | rfl | rfl | rfl | rfl | rfl | rfl | rfl <;> simp [hw]
theorem lk_lays : mj_w 5186 (.laysStatic RX10 "PLACES_OF_LENGTHS" "[I") = true := by decide +kernel
def lk_tm : Jvm.Term := .static RX10 "PLACES_OF_LENGTHS" "[I"
section LKE
variable {p : Program} {l : Launch} {e : Env} {s : State} {m : MethodId} {below : List Frame} {meth : Method} {c : Code} {b L t : Nat} {xs : Nat → Int32} {cA : Nat → ClassId} {D : va_G} {Q : State → Prop}
theorem lk_arr {args : Array Value} {ty : FieldType} (h : (Jvm.Cond.arrayClass ty).before args s = true) : ∃ cA : ClassId, ArrOfT s cA ty ∧ s.vm.findClass ("[" ++ ty.toString) = some cA := by
  obtain ⟨cA, k, comp, h1, h2, h3⟩ := Cond.arrayClass_spec h
  exact ⟨cA, fun N z => ⟨(fun k h => by cases h), k, h2, comp, h3⟩, h1⟩
theorem lk_K (C0 : lw_At p s m meth c b L xs) : ∃ (t : Nat) (cA : Nat → ClassId) (D : va_G), mj_K s.heap.size t cA D s := by
  obtain ⟨hx, hb, hr, hml, hown, hts, hX, hbl, hlocks, hgv⟩ := C0
  have htg : ∀ w ∈ mj_gw, w.before #[Value.ref b] s = true := fun w hw => hts w (List.mem_filter.mp hw).1
  have hs := flat_of_before _ hgv
  have h1 : ∀ ci : Nat, ∃ x : ClassId × (Nat → Nat), ci < 13 → u_Kn s (mj_cn ci) (mj_T ci) (mj_N ci) x.1 x.2 := fun ci => by
    by_cases h : ci < 13
    · obtain ⟨cC, iS, hk⟩ := u_known (n := mj_N ci) htg (mj_cls_lay h) (htg _ (mj_cls_in h))
      exact ⟨(cC, iS), fun _ => hk⟩
    · exact ⟨(0, fun _ => 0), fun q => absurd q h⟩
  obtain ⟨f, hf⟩ := Classical.axiomOfChoice h1
  obtain ⟨c0, a0, b0⟩ := lk_arr (htg _ (mj_gw_of mj_ar_int rfl))
  obtain ⟨c1, a1, b1⟩ := lk_arr (htg _ (mj_gw_of mj_ar_long rfl))
  obtain ⟨c2, a2, b2⟩ := lk_arr (htg _ (mj_gw_of mj_ar_boolean rfl))
  have hA : ∀ a : Nat, a < s.heap.size → ¬ mj_A s.heap.size a := fun a h => Nat.not_le.mpr h
  obtain ⟨t, ht1, ht2⟩ := va_Tof (tm := lk_tm) (ty := .int) (N := 6) (f := fun j => .int (mj_pl j)) (A := mj_A s.heap.size) (by decide) (hs _ (by decide +kernel)) (va_eqt (hs (.eq (.length lk_tm) (.int 6)) (by decide +kernel))) (fun j hj => by
    rcases (show j = 0 ∨ j = 1 ∨ j = 2 ∨ j = 3 ∨ j = 4 ∨ j = 5 by omega) with rfl | rfl | rfl | rfl | rfl | rfl
    · exact va_eqt (hs (.eq (.elem lk_tm (.int 0)) (.int 0)) (by decide +kernel))
    · exact va_eqt (hs (.eq (.elem lk_tm (.int 1)) (.int 1)) (by decide +kernel))
    · exact va_eqt (hs (.eq (.elem lk_tm (.int 2)) (.int 8)) (by decide +kernel))
    · exact va_eqt (hs (.eq (.elem lk_tm (.int 3)) (.int 57)) (by decide +kernel))
    · exact va_eqt (hs (.eq (.elem lk_tm (.int 4)) (.int 400)) (by decide +kernel))
    · exact va_eqt (hs (.eq (.elem lk_tm (.int 5)) (.int 2801)) (by decide +kernel))) hA
  refine ⟨t, fun k => if k = 0 then c0 else if k = 1 then c1 else c2, (fun k => (f k).1, fun k => (f k).2), ⟨⟨fun k q hq => ?_, fun k q hq => ?_⟩, fun w hw => ?_, ht2, ?_⟩⟩
  · have hk : k < 13 := (List.getElem?_eq_some_iff.mp hq).1
    rw [mj_cls_T hk] at hq
    cases hq
    exact hf k hk
  · match k, hq with
    | 0, hq => cases hq; exact ⟨a0, b0⟩
    | 1, hq => cases hq; exact ⟨a1, b1⟩
    | 2, hq => cases hq; exact ⟨a2, b2⟩
    | k + 3, hq => simp [mj_tys] at hq
  · have h2 := hts w (List.mem_filter.mp hw).1
    obtain ⟨a, i, x, k, rfl⟩ := mj_nw_is hw
    exact va_Nw.of rfl h2
  · exact va_Zof (hts _ (lk_tbl_of lk_lays)) (hts _ (lk_tbl_of mj_ini10)) ht1 hA
theorem mi_ok_en {w : Nat} {σ : jg_M} {k : Nat} : mi_ok (jg_en w σ k) (jg_en w σ k) := by
  unfold jg_en
  split
  · exact rfl
  · split
    · exact ⟨rfl, rfl, fun i _ => rfl⟩
    · split
      · exact ⟨rfl, rfl, fun i _ => rfl⟩
      · split
        · exact ⟨rfl, rfl, fun i _ => rfl⟩
        · split
          · exact ⟨rfl, rfl, fun i _ => rfl⟩
          · split
            · exact ⟨rfl, rfl, fun i _ => rfl⟩
            · exact rfl
theorem mi_en_w {σ : jg_M} {k : Nat} (hk : k ≠ 140) : jg_en 140 σ k = jg_en 141 σ k := by
  unfold jg_en
  simp only [hk, false_and, if_false]
theorem mi_en140 {σ : jg_M} : jg_en 141 σ 140 = .inl (1, 1, .inr (.inl fun i => Int64.ofInt (σ.2 140 i))) := by
  have hs : jg_sh 140 = (99, 0) := rfl
  unfold jg_en
  rw [hs]
  dsimp only
  rw [if_neg (by decide), if_neg (by decide), if_neg (by decide), if_neg (by decide), if_pos ⟨rfl, rfl⟩]
theorem mi_wf141 {σ : jg_M} : mj_wf (jg_en 141 σ) 141 := by
  refine ⟨by decide, fun k hk => ?_⟩
  rw [← mi_en_w (by omega)]
  exact mi_wf140.2 k (by omega)
set_option maxRecDepth 20000 in
theorem lk_begin (C0 : lw_At p s m meth c b L xs) (hK : mj_K s.heap.size t cA D s)
    (kk : ∀ σ H locs ls, lk_st s b 0 t cA D mi_S σ H locs ls → W p l e room_1 s m #[Value.ref b] below meth c H locs 141 62826 Q (F0 m 23 ls [])) :
    W p l e room_1 s m #[Value.ref b] below meth c s.heap [] 0 0 Q (entryFrame m ([Value.ref b] : List Value).toArray 7) := by
  have hF := lk_Fr C0
  have hx := C0.1
  have hb := C0.2.1
  obtain ⟨n, τ, hrun, hMF⟩ := mi_run
  have hl := lv_entry ([.ref b]) (n := 7) (Nat.le_of_ble_eq_true rfl)
  rw [lg_entry_eq]
  generalize (lg_sl ([.ref b]) ++ List.replicate (7 - (lg_sl ([.ref b])).length) Slot.unset).toArray = ls at hl ⊢
  have hl : lv_has ls 7 [(0, .ref b)] := hl
  have hH0 : mj_hd s.heap.size t cA D mi_hp0 0 s.heap := ⟨fun k q hq => absurd (mj_ws_no hq).1 (by omega), mi_wf0⟩
  -- new LalrDesk
  have q0 : lk_q 0 (.new 8, 11, 0, 1024) = true := by decide +kernel
  refine mj_simD (M := lk_M meth.name) (al := true) (lst := []) (st := []) (sz := 0) (sl := 0) (sz' := 1) (sl' := 15) (hp' := mi_h1) (pc' := 3) (st' := [.ref 0]) (lst' := []) hF rfl hK (Nat.le_refl _) (fun _ => rfl) (lk_dec q0) (lk_rk2 (lk_rk q0 rfl) (fun k => by simp)) hH0 va_S.rf ⟨by decide, by decide⟩ rfl (fun H1 locs1 hH1 hS1 _ => ?_)
  refine lv_dup hx hb (lk_dec (pc := 3) (i := .dup) (a := 0) (b := 0) (f := 0) (by decide +kernel)) rfl ?_
  have q4 : lk_q 4 (.invokespecial 17, 146, 3, 345) = true := by decide +kernel
  obtain ⟨hpC, hC, hCok⟩ := mi_Cok
  have hE : mj_stE (mj_cf true mj_ms 5000 20) 20 (mj_Cof 146) (mj_nof 146) 146 3 4 [] [.ref 0, .ref 0] mi_h1 1 15 = some (.inl (7, [], [.ref 0], hpC, 92, 22258)) := by
    rw [mj_stE3, show mj_nof 146 = 0 from rfl]
    show (if _ then (match mi_C with
      | some (v, hp, sz, sl) => mj_nx (4 + 3) [] (v.toList ++ [Value.ref 0]) hp sz sl
      | none => none) else none) = _
    rw [if_pos (by decide), hC]
    rfl
  refine mj_simE (M := lk_M meth.name) (al := true) (lst := []) (st := [.ref 0, .ref 0]) hF hK (Nat.le_refl _) (fun _ => rfl) hH1 hS1 hl.1 rfl (lk_dec q4) (lk_rk2 (lk_rk q4 rfl) (fun k => by simp)) mj_Ca_run (by decide) (by decide) ⟨by decide, by decide⟩ hE (fun H2 locs2 hH2 hS2 _ => ?_)
  have hH2 := mi_hd (hp' := mi_h7) hH2 (fun c hc => by unfold mi_h7; rw [if_pos hc]; exact hCok c hc) mi_wf7
  refine lv_astore_n (x := s.heap.size) (lv' := [(1, .ref s.heap.size), (0, .ref b)]) hx hb (lk_dec (pc := 7) (i := .astore_n 1) (a := 0) (b := 0) (f := 0) (by decide +kernel)) rfl hl (by decide) rfl (fun ls hl => ?_)
  -- new LalrDeskModel
  have q8 : lk_q 8 (.new 18, 12, 0, 6176) = true := by decide +kernel
  refine mj_simD (M := lk_M meth.name) (al := true) (lst := []) (st := []) (sz := 92) (sl := 22258) (sz' := 93) (sl' := 22332) (hp' := mi_h8) (pc' := 11) (st' := [.ref 92]) (lst' := []) hF rfl hK (Nat.le_refl _) (fun _ => rfl) (lk_dec q8) (lk_rk2 (lk_rk q8 rfl) (fun k => by simp)) hH2 hS2 ⟨by decide, by decide⟩ rfl (fun H3 locs3 hH3 hS3 _ => ?_)
  refine lv_dup hx hb (lk_dec (pc := 11) (i := .dup) (a := 0) (b := 0) (f := 0) (by decide +kernel)) rfl ?_
  have q12 : lk_q 12 (.invokespecial 20, 190, 3, 346) = true := by decide +kernel
  have hE2 : mj_stE (mi_cl τ) 20 (mj_Cof 190) (mj_nof 190) 190 3 12 [] [.ref 92, .ref 92] mi_h8 93 22332 = some (.inl (15, [], [.ref 92], jg_en 140 τ, 140, 62825)) := by
    rw [mj_stE3, show mj_nof 190 = 0 from rfl]
    show (if _ then (match mi_cl τ 190 [.ref 92] mi_h8 93 22332 with
      | some (v, hp, sz, sl) => mj_nx (12 + 3) [] (v.toList ++ [Value.ref 92]) hp sz sl
      | none => none) else none) = _
    rw [if_pos (by decide)]
    unfold mi_cl
    rw [if_pos ⟨rfl, rfl, rfl, rfl, rfl⟩]
    rfl
  refine mj_simE (M := lk_M meth.name) (al := true) (lst := []) (st := [.ref 92, .ref 92]) hF hK (Nat.le_refl _) (fun _ => rfl) hH3 hS3 hl.1 rfl (lk_dec q12) (lk_rk2 (lk_rk q12 rfl) (fun k => by simp)) (mi_Ca hrun) (by decide) (by decide) ⟨by decide, by decide⟩ hE2 (fun H4 locs4 hH4 hS4 _ => ?_)
  refine lv_astore_n (x := s.heap.size + 92) (lv' := [(2, .ref (s.heap.size + 92)), (1, .ref s.heap.size), (0, .ref b)]) hx hb (lk_dec (pc := 15) (i := .astore_n 2) (a := 0) (b := 0) (f := 0) (by decide +kernel)) rfl hl (by decide) rfl (fun ls hl => ?_)
  refine lv_iconst (v := 1) hx hb (lk_dec (pc := 16) (i := .iconst 1) (a := 0) (b := 0) (f := 0) (by decide +kernel)) rfl ?_
  have q17 : lk_q 17 (.newarray .long, 1, 0, 0) = true := by decide +kernel
  refine mj_simD (M := lk_M meth.name) (al := true) (lst := []) (st := [.int 1]) (sz := 140) (sl := 62825) (sz' := 141) (sl' := 62826) (hp' := mj_set (jg_en 140 τ) 140 (.inl (1, 1, .inr (.inl fun _ => 0)))) (pc' := 19) (st' := [.ref 140]) (lst' := []) hF rfl hK (Nat.le_refl _) (fun _ => rfl) (lk_dec q17) (lk_rk2 (lk_rk q17 rfl) (fun k => by simp)) hH4 hS4 ⟨by decide, by decide⟩ rfl (fun H5 locs5 hH5 hS5 _ => ?_)
  have hH5 := mi_hd (hp' := jg_en 141 τ) hH5 (fun k hk => by
    unfold mj_set
    by_cases h9 : k = 140
    · rw [if_pos h9, h9, mi_en140]
      refine ⟨rfl, rfl, fun i _ => ?_⟩
      show (0 : Int64) = Int64.ofInt (τ.2 140 i)
      rw [hMF.1.2 140 i (fun q => by unfold kW_kt at q; omega)]
      rfl
    · rw [if_neg h9, mi_en_w h9]
      exact mi_ok_en) mi_wf141
  refine lv_astore_n (x := s.heap.size + 140) (lv' := [(3, .ref (s.heap.size + 140)), (2, .ref (s.heap.size + 92)), (1, .ref s.heap.size), (0, .ref b)]) hx hb (lk_dec (pc := 19) (i := .astore_n 3) (a := 0) (b := 0) (f := 0) (by decide +kernel)) rfl hl (by decide) rfl (fun ls hl => ?_)
  refine lv_iconst (v := 0) hx hb (lk_dec (pc := 20) (i := .iconst 0) (a := 0) (b := 0) (f := 0) (by decide +kernel)) rfl ?_
  refine lv_istore (lv' := [(4, .int 0), (3, .ref (s.heap.size + 140)), (2, .ref (s.heap.size + 92)), (1, .ref s.heap.size), (0, .ref b)]) hx hb (lk_dec (pc := 21) (i := .istore 4) (a := 0) (b := 0) (f := 0) (by decide +kernel)) hl (by decide) rfl (fun ls hl => ?_)
  have hCM := mi_CM hMF
  exact kk τ H5 locs5 ls ⟨⟨mi_P, hCM.1, hCM.2⟩, hH5, hS5, lv_sub hl [4, 3, 2, 1, 0] rfl⟩
end LKE
