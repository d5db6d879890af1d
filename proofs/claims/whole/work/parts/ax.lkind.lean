/-! LalrDeskLaw.kind: it catches -/
theorem lt_ofWM {l : Launch} {y : MethodName} {ws ws' : List Jvm.Cond} {rm : Room} {Pc : Array Value → State → Prop} {Qc : Array Value → State → Outcome → State → Prop} {mc ms : Nat} {free : Addr → Prop} {cc : ByteArray} {maxL : Nat} {ret : Option FieldType} {hh : List (Nat × Nat × Nat × Nat)}
    (hy : plainName y.cls = true) (hw : ws = Jvm.Cond.codeWith y cc maxL ret hh :: ws')
    (body : ∀ p e s m args below meth c s₁, BodyLoose p l y (headSpec ws rm) cc maxL ret e s m args below meth c s₁ → c.maxLocals = maxL → Pc args s →
      W p l e (headSpec ws rm).room s m args below meth c s.heap [] 0 0 (MQ below Qc args s mc ms free) (entryFrame m args maxL)) : Met l y ws rm Pc Qc mc ms free := by
  refine MetFree.of_bodyS (code := cc) (maxLocals := maxL) (ret := ret) hy ?_ ?_
  · intro args s m h hn
    obtain ⟨m9, meth, c, hn9, h1, h2, h3, h4, -, h5, h6, -⟩ := Cond.codeWith_spec (atoms_spec (ws := ws) h _ (by rw [hw]; exact List.mem_cons_self))
    cases hn.symm.trans hn9
    exact ⟨meth, c, h1, h2, h3, h4, h5, h6⟩
  · intro p e s m args below meth c s₁ Bd hml hP _
    have hh0 : s₁.heap = s.heap := by rw [Bd.state]; rfl
    obtain ⟨t, a1, o, b1, b2, b3⟩ := body p e s m args below meth c s₁ Bd hml hP s₁ hh0 (Stand.of_body Bd)
    exact ⟨t, o, a1, b1, b2, ⟨b3.1, b3.2⟩⟩
def lt_M2 : mj_Inf := (16, yL_kind, cL_kind, 5, some .int, [], 4, [])
def lt_rm2 : Room := { frames := 40, cells := 1, slots := 6, locals := 3000 }
def lt_hh : List (Nat × Nat × Nat × Nat) := [(0, 10, 13, 13), (0, 10, 17, 15)]
/-- the memory behind it -/
noncomputable def lt_s2 (σ : jg_M) (g : gM) (x y : Int) : jg_M := if kv_th g x y = 0 then jg_sL σ 140 0 (jg_wr (kv_kind g x y)) else σ
theorem lt_g1 : mj_w 6082 (.classLink RL 13 lt_io) = true := by decide +kernel
theorem lt_g2 : mj_w 6083 (.classLink RL 15 lt_ns) = true := by decide +kernel
theorem lt_g3 : mj_w 6084 (.methodLink RL 7 yX11_kind) = true := by decide +kernel
theorem lt_g4 : mj_w 6085 (.instanceMethod yX11_kind) = true := by decide +kernel
theorem lt_g5 : mj_w 6087 (.code yX11_kind cX11_kind 4 (some .int)) = true := by decide +kernel
theorem lt_g6 : mj_w 6086 (.selects RX11 yX11_kind yX11_kind) = true := by decide +kernel
theorem lt_g7 : mj_w 1001 (.initialized RX11) = true := by decide +kernel
theorem lt_k1 : mj_w 6079 (.methodLink RL 43 yL_kind) = true := by decide +kernel
theorem lt_k2 : mj_w 6080 (.static yL_kind) = true := by decide +kernel
theorem lt_k3 : mj_w 1000 (.initialized RL) = true := by decide +kernel
theorem lt_k4 : mj_w 6081 (.codeWith yL_kind cL_kind 5 (some .int) lt_hh) = true := by decide +kernel
theorem lt_ci : Jvm.Cond.castable lt_io lt_io ∈ lt_bad ∧ Jvm.Cond.castable lt_ns lt_ns ∈ lt_bad := by decide +kernel
section LTF
variable {B t sa sb T : Nat} {cA : Nat → ClassId} {D : va_G} {σ : jg_M} {g : gM} {x y : Int}
theorem lt_blind {av : List Value} : FrameBlind (va_Pc av (lt_kP B t sa sb cA D σ)) := fun a U g mk q => ⟨q.1, q.2.1, mj_K_blind q.2.2.1, q.2.2.2.1, lt_E_blind q.2.2.2.2⟩
theorem lt_pcU {s : State} {H : Heap} {locs : List Loc} {av : List Value} (hK : mj_K B t cA D s) (hB : B ≤ s.heap.size) (hE : lt_E B sa sb s) (hH : mj_hd B t cA D (jg_en 141 σ) 141 H) (hS : va_S (mj_A B) s.heap H locs) : ∀ U : State, U.heap = H → s.WarmedH U.vm → va_Pc av (lt_kP B t sa sb cA D σ) av.toArray U := by
  intro U hU hW
  subst hU
  exact ⟨rfl, hH, mj_K_warm hK hW hS, Nat.le_trans hB hS.1, lt_E_warm hE hW hS⟩
/-- the law's row takes the long -/
theorem lt_out {z : Int} {H : Heap} (h : mj_hd B t cA D (mj_set (jg_en 141 σ) 140 (.inl (1, 1, .inr (.inl (vp_updL (fun i => Int64.ofInt (σ.2 140 i)) 0 (Int64.ofInt z)))))) 141 H) : mj_hd B t cA D (jg_en 141 (jg_sL σ 140 0 z)) 141 H := by
  refine mi_hd h (fun k hk => ?_) mi_wf141
  unfold mj_set
  by_cases h9 : k = 140
  · rw [if_pos h9, h9, mi_en140]
    refine ⟨rfl, rfl, fun i hi => ?_⟩
    have hi0 : i = 0 := by omega
    subst hi0
    show vp_updL _ 0 (Int64.ofInt z) 0 = Int64.ofInt ((jg_sL σ 140 0 z).2 140 0)
    have e1 : (jg_sL σ 140 0 z).2 140 0 = z := by
      show (if (140 : Nat) = 140 ∧ (0 : Int) = 0 then z else σ.2 140 0) = z
      exact if_pos ⟨rfl, rfl⟩
    rw [e1]
    rfl
  · rw [if_neg h9, jg_en_same (σ := σ) (τ := jg_sL σ 140 0 z) k (fun i => rfl) (fun i => if_neg (fun q => h9 q.1))]
    exact mi_ok_en
set_option maxRecDepth 20000 in
theorem lt_lkind (l : Launch) (hl : l.stackTraces = false) (h : ku_CG σ T g) (hx : jr x) (hy : jr y) : Met l yL_kind (Jvm.Cond.codeWith yL_kind cL_kind 5 (some .int) lt_hh :: mj_gw) lt_rm2 (va_Pc [.ref B, .int (.ofInt x), .int (.ofInt y), .ref (B + 140)] (lt_kP B t sa sb cA D σ)) (mj_Post B t cA D (some (.int (.ofInt (kv_th g x y)))) (jg_en 141 (lt_s2 σ g x y)) 141) 1 6 (mj_A B) := by
  refine lt_ofWM (cc := cL_kind) (maxL := 5) (ret := some .int) (hh := lt_hh) (by decide) rfl ?_
  intro p e s m args below meth c s1 Bd hml hv
  obtain ⟨rfl, hH, hK, hB, hE⟩ := hv
  have hts0 := atoms_spec (ws := Jvm.Cond.codeWith yL_kind cL_kind 5 (some .int) lt_hh :: mj_gw) Bd.pre
  have hts : ∀ w ∈ mj_gw, w.before _ s = true := fun w hw => hts0 w (List.mem_cons_of_mem _ hw)
  have hown : s.vm.findClass RL = some m.cls := findClass_of_methodNamed Bd.named
  have hx0 := Bd.exec
  have hb0 := Bd.bytes
  have hF : mj_Fr p s m _ c lt_M2 := ⟨hx0, hb0, hml, hown, hts⟩
  have hnm : meth.name = lt_M2.2.1.name := (name_of_methodNamed Bd.named Bd.method).1
  have hret := Bd.returns
  have hlk := Bd.notSynchronized
  have htab := vx_table (x := yL_kind) Bd (hts0 _ List.mem_cons_self)
  have hl0 := lv_entry ([.ref B, .int (.ofInt x), .int (.ofInt y), .ref (B + 140)]) (n := 5) (Nat.le_of_ble_eq_true rfl)
  rw [lg_entry_eq]
  generalize (lg_sl ([.ref B, .int (.ofInt x), .int (.ofInt y), .ref (B + 140)]) ++ List.replicate (5 - (lg_sl ([.ref B, .int (.ofInt x), .int (.ofInt y), .ref (B + 140)])).length) Slot.unset).toArray = ls at hl0 ⊢
  have hl0 : lv_has ls 5 [(0, .ref B), (1, .int (.ofInt x)), (2, .int (.ofInt y)), (3, .ref (B + 140))] := hl0
  have fin : ∀ {pc : Nat} {H : Heap} {locs : List Loc} {ls : Array Slot} (z : Int), decode cL_kind pc = .ok (.ireturn, 1) → z = kv_th g x y → mj_hd B t cA D (jg_en 141 (lt_s2 σ g x y)) 141 H → va_S (mj_A B) s.heap H locs → W p l e (headSpec (Jvm.Cond.codeWith yL_kind cL_kind 5 (some .int) lt_hh :: mj_gw) lt_rm2).room s m #[.ref B, .int (.ofInt x), .int (.ofInt y), .ref (B + 140)] below meth c H locs 1 6 (MQ below (mj_Post B t cA D (some (.int (.ofInt (kv_th g x y)))) (jg_en 141 (lt_s2 σ g x y)) 141) #[.ref B, .int (.ofInt x), .int (.ofInt y), .ref (B + 140)] s 1 6 (mj_A B)) (F0 m pc ls [.int (.ofInt z)]) := fun z hdg hz hH hS => by
    exact W.iret hx0 hb0 hret (fun u hu hW => ⟨by rw [hz]; rfl, by rw [hu]; exact hH, hS.F hu⟩) hS.2.2 hdg hlk
  refine lv_aload_n (k := 3) hx0 hb0 (by decide +kernel) rfl (lv_at hl0 3 rfl) ?_
  refine lv_iconst (n := 0) (v := 0) hx0 hb0 (by decide +kernel) rfl ?_
  refine lv_aload_n (k := 0) hx0 hb0 (by decide +kernel) rfl (lv_at hl0 0 rfl) ?_
  refine lv_iload_n (k := 1) hx0 hb0 (by decide +kernel) rfl (lv_at hl0 1 rfl) ?_
  refine lv_iload_n (k := 2) hx0 hb0 (by decide +kernel) rfl (lv_at hl0 2 rfl) ?_
  have he : (mj_ws B t cA (jg_en 141 σ) 141)[0]? = some (B + 0, .inr (11, (jg_fs σ 0 11).map (mj_v B t))) := by rw [mj_ws_get (by decide), jg_en_obj (a := 0) (ci := 11) rfl (by decide)]; rfl
  have hrec := va_recv hK.1 hH.1 (mj_cls_T (ci := 11) (by decide)) he
  have cw := cwV (own := RL) (index := 7) (C := RX11) (y := yX11_kind) (bytes := cX11_kind) (maxL := 4) (ret := some .int) (R := (headSpec (Jvm.Cond.codeWith yL_kind cL_kind 5 (some .int) lt_hh :: mj_gw) lt_rm2).room) (mc := 1) (ms := 6) (rm := lt_rm) (ws := Jvm.Cond.code yX11_kind cX11_kind 4 (some .int) :: mj_gw) (ws' := mj_gw) 2 hts (mj_good (fun w hw => by
    unfold wsV at hw
    rcases List.mem_append.mp hw with hw | hw
    · simp only [List.mem_cons, List.not_mem_nil, or_false] at hw
      rcases hw with rfl | rfl | rfl | rfl
      · exact mj_gw_of lt_g3 rfl
      · exact mj_gw_of lt_g4 rfl
      · exact mj_gw_of lt_g6 rfl
      · exact mj_gw_of lt_g7 rfl
    · exact (List.mem_cons.mp hw).elim (fun e => by rw [e]; exact mj_gw_of lt_g5 rfl) id)) rfl rfl rfl ⟨rfl, by decide, by decide, rfl⟩ (by decide)
  refine vx_calli (a := #[.ref B, .int (.ofInt x), .int (.ofInt y)]) (A1 := mj_A B) (AX := mj_A B) (A0 := mj_A B) (H0 := s.heap) (free := mj_A B) (mc := 1) (ms := 6) (rest := [.int 0, .ref (B + 140)]) (vx_runV (As := [.int (.ofInt x), .int (.ofInt y)]) (b := B) (n := 2) (index := 7) (g := F0 m 5 ls [.int (.ofInt y), .int (.ofInt x), .ref B, .int 0, .ref (B + 140)]) ⟨hx0, hb0, hml, hown, hts⟩ (lt_kind (B := B) (t := t) (sa := sa) (sb := sb) (cA := cA) (D := D) l hl h hx hy) cw ⟨lt_blind, hrec, lt_pcU hK hB hE hH va_S.rf⟩ rfl rfl hl0.1 rfl (lv_room (Nat.le_of_ble_eq_true rfl)) (show decode cL_kind 5 = .ok (.invokevirtual 7, 3) by decide +kernel) (by decide)) va_S.rf (fun q _ h => h) (fun q h => h) (fun q _ h => h) (fun E ce q9 u t' H1 locs1 ht' hal _ hbx hz1 hk1 hS1 hcell hvm hcl => ?_) (fun r u t' H1 locs1 ht' hal hpost hbs hz1 hk1 hS1 => ?_)
  · obtain ⟨hth, hH1⟩ := hbx
    rw [ht'] at hH1
    rcases hth with ⟨rfl, hth⟩ | ⟨rfl, hth⟩
    · have hs2 : lt_s2 σ g x y = σ := if_neg (by rw [hth]; decide)
      refine vx_catch (own := RL) (name := lt_io) (E := lt_io) hown [] ⟨0, 10, 13, 13⟩ [⟨0, 10, 17, 15⟩] htab (fun z hz => by cases hz) (by decide) (by decide) (hts _ (mj_gw_of lt_g1 rfl)) (va_Nw.use rfl (hE.2.2.1 _ lt_ci.1)) hcell hvm hcl ?_
      refine lv_astore (i := 4) (lv' := [(4, .ref q9), (0, .ref B), (1, .int (.ofInt x)), (2, .int (.ofInt y)), (3, .ref (B + 140))]) hx0 hb0 (by decide +kernel) hl0 (by decide) rfl (fun ls hl => ?_)
      refine lv_iconst (n := 1) (v := Int32.ofInt 1) hx0 hb0 (by decide +kernel) rfl ?_
      exact fin 1 (by decide +kernel) hth.symm (by rw [hs2]; exact hH1) hS1
    · have hs2 : lt_s2 σ g x y = σ := if_neg (by rw [hth]; decide)
      refine vx_catch (own := RL) (name := lt_ns) (E := lt_ns) hown [⟨0, 10, 13, 13⟩] ⟨0, 10, 17, 15⟩ [] htab (fun z hz => by
        rcases List.mem_singleton.mp hz with rfl
        exact Or.inr ⟨by decide, lt_io, hts _ (mj_gw_of lt_g1 rfl), hE.2.2.2⟩) (by decide) (by decide) (hts _ (mj_gw_of lt_g2 rfl)) (va_Nw.use rfl (hE.2.2.1 _ lt_ci.2)) hcell hvm hcl ?_
      refine lv_astore (i := 4) (lv' := [(4, .ref q9), (0, .ref B), (1, .int (.ofInt x)), (2, .int (.ofInt y)), (3, .ref (B + 140))]) hx0 hb0 (by decide +kernel) hl0 (by decide) rfl (fun ls hl => ?_)
      refine lv_iconst (n := 2) (v := Int32.ofInt 2) hx0 hb0 (by decide +kernel) rfl ?_
      exact fin 2 (by decide +kernel) hth.symm (by rw [hs2]; exact hH1) hS1
  · obtain ⟨rfl, hth⟩ := hpost
    have hH1 : mj_hd B t cA D (jg_en 141 σ) 141 t'.heap := hbs
    rw [ht'] at hH1
    have hs2 : lt_s2 σ g x y = jg_sL σ 140 0 (jg_wr (kv_kind g x y)) := if_pos hth
    refine lv_i2l (v := Int64.ofInt (jg_wr (kv_kind g x y))) hx0 hb0 (by decide +kernel) (by unfold jg_wr; rw [Int64.ofInt_int32ToInt]) ?_
    refine mj_simD (B := B) (t := t) (cA := cA) (D := D) (M := lt_M2) (al := false) (i := .lastore) (a := 0) (b := 0) (f := 0) (lst := []) (lst' := []) (st := [.long (Int64.ofInt (jg_wr (kv_kind g x y))), .int 0, .ref 140]) (st' := []) (sz := 141) (sz' := 141) (sl := 0) (sl' := 0) (pc' := 10) hF hnm hK hB (fun h => by cases h) (by decide +kernel) rfl hH1 hS1 ⟨by decide, by decide⟩ (hp' := mj_set (jg_en 141 σ) 140 (.inl (1, 1, .inr (.inl (vp_updL (fun i => Int64.ofInt (σ.2 140 i)) 0 (Int64.ofInt (jg_wr (kv_kind g x y)))))))) ?_ (fun H2 locs2 hH2 hS2 _ => ?_)
    · unfold mj_stD
      dsimp only
      rw [mi_en140]
      rfl
    · refine lv_goto (off := 11) (tgt := 21) hx0 hb0 (by decide +kernel) (by decide) ?_
      refine lv_iconst (n := 0) (v := Int32.ofInt 0) hx0 hb0 (by decide +kernel) rfl ?_
      exact fin 0 (by decide +kernel) hth.symm (by rw [hs2]; exact lt_out hH2) hS2
end LTF
