/-! LalrDesk.kind: its contract -/
def lt_M : mj_Inf := (11, yX11_kind, cX11_kind, 4, some .int, [], 3, [])
def lt_rm : Room := { frames := 30, cells := 1, slots := 6, locals := 2000 }
def lt_kP (B t sa sb : Nat) (cA : Nat → ClassId) (D : va_G) (σ : jg_M) : State → Prop := fun U => mj_hd B t cA D (jg_en 141 σ) 141 U.heap ∧ mj_K B t cA D U ∧ B ≤ U.heap.size ∧ lt_E B sa sb U
def lt_ps (g : gM) (x y : Int) : Int32 → Unit → Prop := fun r _ => r = Int32.ofInt (kv_kind g x y) ∧ kv_th g x y = 0
def lt_bs (B t : Nat) (cA : Nat → ClassId) (D : va_G) (σ : jg_M) : Unit → State → Prop := fun _ u => mj_hd B t cA D (jg_en 141 σ) 141 u.heap
def lt_bx (B t : Nat) (cA : Nat → ClassId) (D : va_G) (σ : jg_M) (g : gM) (x y : Int) : String → Unit → State → Prop := fun E _ u => ((E = lt_io ∧ kv_th g x y = 1) ∨ (E = lt_ns ∧ kv_th g x y = 2)) ∧ mj_hd B t cA D (jg_en 141 σ) 141 u.heap
theorem lt_f1 : mj_w 2176 (.fieldLink (mj_cn 11) 23 (mj_T 11 3).1 (mj_T 11 3).2.1 (mj_T 11 3).2.2.1) = true := by decide +kernel
theorem lt_f2 : mj_w 1204 (.fieldLink (mj_cn 11) 95 (mj_T 8 0).1 (mj_T 8 0).2.1 (mj_T 8 0).2.2.1) = true := by decide +kernel
theorem lt_f3 : mj_w 1117 (.fieldLink (mj_cn 11) 166 (mj_T 0 12).1 (mj_T 0 12).2.1 (mj_T 0 12).2.2.1) = true := by decide +kernel
theorem lt_f4 : mj_w 1119 (.fieldLink (mj_cn 11) 169 (mj_T 0 13).1 (mj_T 0 13).2.1 (mj_T 0 13).2.2.1) = true := by decide +kernel
theorem lt_f5 : mj_w 2179 (.fieldLink (mj_cn 11) 40 (mj_T 11 6).1 (mj_T 11 6).2.1 (mj_T 11 6).2.2.1) = true := by decide +kernel
theorem lt_f6 : mj_w 2033 (.fieldLink (mj_cn 11) 175 (mj_T 6 0).1 (mj_T 6 0).2.1 (mj_T 6 0).2.2.1) = true := by decide +kernel
theorem lt_m1 : mj_w 5045 (.methodLink (mj_cn 11) 153 yX0_hasKind) = true ∧ mj_w 3073 (.instanceMethod yX0_hasKind) = true ∧ mj_w 3074 (.selects yX0_hasKind.cls yX0_hasKind yX0_hasKind) = true := by decide +kernel
theorem lt_m2 : mj_w 6155 (.methodLink (mj_cn 11) 163 yX0_isEmpty) = true ∧ mj_w 3168 (.instanceMethod yX0_isEmpty) = true ∧ mj_w 3169 (.selects yX0_isEmpty.cls yX0_isEmpty yX0_isEmpty) = true := by decide +kernel
theorem lt_m3 : mj_w 6156 (.methodLink (mj_cn 11) 172 yX0_rulesOf) = true ∧ mj_w 6157 (.instanceMethod yX0_rulesOf) = true ∧ mj_w 6158 (.selects yX0_rulesOf.cls yX0_rulesOf yX0_rulesOf) = true := by decide +kernel
section LTD
variable {B t sa sb T : Nat} {cA : Nat → ClassId} {D : va_G} {σ : jg_M} {g : gM} {x y : Int}
theorem lt_b0 {q : Prop} : Int32.ofInt (jn_b q) = 0 ↔ ¬ q := by
  rw [jg_z32, jn_b_wr]
  exact ⟨fun h q1 => (by rw [jn_b_t q1] at h; cases h), fun h => jn_b_f h⟩
theorem lt_kept {s : State} {H H1 : Heap} {hp : mj_Hp} {sz : Nat} (hH : mj_hd B t cA D hp sz H) (h : ∀ a : Nat, a < H.size → H1[a]? = H[a]?) : mj_hd B t cA D hp sz H1 := ⟨hH.1.kept (fun k z hz => h _ (hH.1 k z hz).lt), hH.2⟩
set_option maxRecDepth 20000 in
theorem lt_kind (l : Launch) (hl : l.stackTraces = false) (h : ku_CG σ T g) (hx : jr x) (hy : jr y) : vx_Met l yX11_kind (Jvm.Cond.code yX11_kind cX11_kind 4 (some .int) :: mj_gw) lt_rm (va_Pc [.ref B, .int (.ofInt x), .int (.ofInt y)] (lt_kP B t sa sb cA D σ)) (va_Qi (lt_ps g x y) (lt_bs B t cA D σ) (mj_A B)) (vx_X (fun _ => True) (lt_bx B t cA D σ g x y) (mj_A B)) 1 6 (mj_A B) := by
  refine vx_ofW (cc := cX11_kind) (maxL := 4) (ret := some .int) (by decide) rfl ?_
  intro p e s m args below meth c s1 Bd hml ht hv
  obtain ⟨rfl, hH, hK, hB, hE⟩ := hv
  have hts0 := atoms_spec (ws := Jvm.Cond.code yX11_kind cX11_kind 4 (some .int) :: mj_gw) Bd.pre
  have hts : ∀ w ∈ mj_gw, w.before _ s = true := fun w hw => hts0 w (List.mem_cons_of_mem _ hw)
  have hown : s.vm.findClass RX11 = some m.cls := findClass_of_methodNamed Bd.named
  have hx0 := Bd.exec
  have hb0 := Bd.bytes
  have hF : mj_Fr p s m _ c lt_M := ⟨hx0, hb0, hml, hown, hts⟩
  have hnm : meth.name = lt_M.2.1.name := (name_of_methodNamed Bd.named Bd.method).1
  have hret := Bd.returns
  have hlk := Bd.notSynchronized
  have hA : ∀ q : Nat, s.heap.size ≤ q → mj_A B q := fun q h => Nat.le_trans hB h
  have sh := ku_sh h.1.1
  have hG := h.2.2.1.1.1
  have hW := h.2.1.1.1.1
  have hw := hW.1
  have hT : T = 4 ∨ T = 26 := h.1.1
  have hmb : ∀ k, k < 141 → mj_b B t k = B + k := fun k hk => mj_b_lt hk (by decide)
  have hl0 := lv_entry ([.ref B, .int (.ofInt x), .int (.ofInt y)]) (n := 4) (Nat.le_of_ble_eq_true rfl)
  rw [lg_entry_eq]
  generalize (lg_sl ([.ref B, .int (.ofInt x), .int (.ofInt y)]) ++ List.replicate (4 - (lg_sl ([.ref B, .int (.ofInt x), .int (.ofInt y)])).length) Slot.unset).toArray = ls at hl0 ⊢
  have hl0 : lv_has ls 4 [(0, .ref B), (1, .int (.ofInt x)), (2, .int (.ofInt y))] := hl0
  -- the ends
  have fin : ∀ {pc : Nat} {H : Heap} {locs : List Loc} {ls : Array Slot} (z : Int), decode cX11_kind pc = .ok (.ireturn, 1) → z = kv_kind g x y → kv_th g x y = 0 → mj_hd B t cA D (jg_en 141 σ) 141 H → va_S (mj_A B) s.heap H locs → W p l e (headSpec (Jvm.Cond.code yX11_kind cX11_kind 4 (some .int) :: mj_gw) lt_rm).room s m #[.ref B, .int (.ofInt x), .int (.ofInt y)] below meth c H locs 0 0 (vx_MQ below (va_Qi (lt_ps g x y) (lt_bs B t cA D σ) (mj_A B)) (vx_X (fun _ => True) (lt_bx B t cA D σ g x y) (mj_A B)) #[.ref B, .int (.ofInt x), .int (.ofInt y)] s 1 6 (mj_A B)) (F0 m pc ls [.int (.ofInt z)]) := fun z hdg hz hth hH hS => by
    refine W.widen (k := 1) (n := 6) (by decide) (by decide) ?_
    refine vx_ret ?_
    exact W.iret hx0 hb0 hret (fun u hu hW => ⟨⟨Int32.ofInt z, (), rfl, ⟨by rw [hz], hth⟩, by show mj_hd B t cA D (jg_en 141 σ) 141 u.heap; rw [hu]; exact hH⟩, hS.F hu⟩) hS.2.2 hdg hlk
  have thr : ∀ {pc ik is ic ij sx : Nat} {E tx : String} {bx : ByteArray} {H : Heap} {locs : List Loc} {ls : Array Slot} {L : List Jvm.Cond}, L = lt_atS RX11 ic E ij bx "java/lang/RuntimeException" ["java/lang/Exception"] → Bundle.fit E = true → (Jvm.Cond.classLink RX11 ik E).before #[.ref B, .int (.ofInt x), .int (.ofInt y)] s = true → (Jvm.Cond.initialized E).before #[.ref B, .int (.ofInt x), .int (.ofInt y)] s = true → vk_R RX11 is tx sx s → (∀ w ∈ L, w ∈ lw_tbl) → (∀ w ∈ L.filter (fun w => !goodWord w), w ∈ lt_bad) → (Jvm.Cond.classLink RX11 ik E :: .initialized E :: L).all vx_ot = true →
      (decode bx 0 = .ok (.aload_n 0, 1) ∧ decode bx 1 = .ok (.aload_n 1, 1) ∧ decode bx 2 = .ok (.invokespecial ij, 3) ∧ decode bx 5 = .ok (.return_, 1)) → (decode cX11_kind pc = .ok (.new ik, 3) ∧ decode cX11_kind (pc + 3) = .ok (.dup, 1) ∧ decode cX11_kind (pc + 4) = .ok (.ldc is, 2) ∧ decode cX11_kind (pc + 6) = .ok (.invokespecial ic, 3) ∧ decode cX11_kind (pc + 9) = .ok (.athrow, 1)) → ((E = lt_io ∧ kv_th g x y = 1) ∨ (E = lt_ns ∧ kv_th g x y = 2)) → mj_hd B t cA D (jg_en 141 σ) 141 H → va_S (mj_A B) s.heap H locs → ls.size = 4 →
      W p l e (headSpec (Jvm.Cond.code yX11_kind cX11_kind 4 (some .int) :: mj_gw) lt_rm).room s m #[.ref B, .int (.ofInt x), .int (.ofInt y)] below meth c H locs 0 0 (vx_MQ below (va_Qi (lt_ps g x y) (lt_bs B t cA D σ) (mj_A B)) (vx_X (fun _ => True) (lt_bx B t cA D σ g x y) (mj_A B)) #[.ref B, .int (.ofInt x), .int (.ofInt y)] s 1 6 (mj_A B)) (F0 m pc ls []) := by
    intro pc ik is ic ij sx E tx bx H locs ls L hLe hfit hk hini hstr hLt hLb hot hbx hdg hth hH hS hsize
    subst hLe
    refine lt_make (A := mj_A B) hx0 hb0 hl (own := RX11) (cls := E) (text := tx) (names := ["java/lang/Exception"]) (nY := "java/lang/RuntimeException") (ij := ij) (bx := bx) hbx.1 hbx.2.1 hbx.2.2.1 hbx.2.2.2 (by decide +kernel) hown hfit (by decide +kernel) hk hini hstr (lt_hat hLt hLb hts hE) (List.all_eq_true.mp hot) hE.1.1 hE.1.2 hS (hsize.trans hml.symm) hdg.1 hdg.2.1 hdg.2.2.1 hdg.2.2.2.1 (by decide) (by decide) (by decide) (by decide) (fun q ce H1 h1 h2 h3 h4 h5 => ?_)
    refine lt_athrow hx0 hb0 hdg.2.2.2.2 ?_
    refine vx_out (fun z hz => (ht z hz).elim) hlk h1 h2 h3 (fun u hu _ => ⟨(), trivial, ⟨hth, by rw [hu]; exact lt_kept (s := s) hH h5⟩, ?_⟩) hS.2.2 (by decide) (by decide)
    rw [← hu] at h4 h5
    exact ⟨Nat.le_trans hS.1 h4, fun q h6 h7 => (h5 q (Nat.lt_of_lt_of_le h6 hS.1)).trans (hS.2.1 q h6 h7)⟩
  have hc0 : (0 : Nat) ≤ (headSpec (Jvm.Cond.code yX11_kind cX11_kind 4 (some .int) :: mj_gw) lt_rm).room.cells := Nat.zero_le _
  have hs0 : (0 : Nat) ≤ (headSpec (Jvm.Cond.code yX11_kind cX11_kind 4 (some .int) :: mj_gw) lt_rm).room.slots := Nat.zero_le _
  have hyi : (Int32.ofInt y).toInt = y := jr_wr hy
  have hxi : jg_wr x = x := jr_wr hx
  refine lv_aload_n (k := 0) hx0 hb0 (by decide +kernel) rfl (lv_at hl0 0 rfl) ?_
  refine lt_get (M := lt_M) (ix := 23) (a := 11) (b := 3) (r := 0) (st := []) (v := .ref T) hF hK hH (by decide +kernel) (by decide) (by decide) (mj_gw_of lt_f1 rfl) (jg_en_obj rfl (by decide)) ?_ ?_
  · rw [jg_fs_get (k := 2) rfl]
    show some (Value.ref (σ.1 0 3).toNat) = _
    rw [h.1.2.1]
    rfl
  refine lt_get (M := lt_M) (ix := 95) (a := 8) (b := 0) (r := T) (st := []) (v := .ref (T + 1)) hF hK hH (by decide +kernel) (by decide) (by decide) (mj_gw_of lt_f2 rfl) (jg_en_obj sh.1 (by decide)) ?_ ?_
  · rw [jg_fs_get (k := 11) rfl]
    rfl
  refine lv_astore_n (k := 3) (x := mj_b B t (T + 1)) (lv' := [(3, .ref (mj_b B t (T + 1))), (0, .ref B), (1, .int (.ofInt x)), (2, .int (.ofInt y))]) hx0 hb0 (by decide +kernel) rfl hl0 (by decide) rfl (fun ls hl => ?_)
  refine lv_aload_n (k := 3) hx0 hb0 (by decide +kernel) rfl (lv_at hl 0 rfl) ?_
  refine lv_iload_n (k := 1) hx0 hb0 (by decide +kernel) rfl (lv_at hl 2 rfl) ?_
  refine lt_call (M := lt_M) (ix := 153) (As := [.int (.ofInt x)]) (st' := []) (r := T + 1) (d := 0) hF hK hB hl.1 hc0 hs0 (by decide) (by decide) (by decide +kernel) jm_X0_hasKind (mj_gw_of lt_m1.1 rfl) (mj_gw_of lt_m1.2.1 rfl) (mj_gw_of lt_m1.2.2 rfl) rfl sh.2.2 (by decide) ⟨Nat.le_of_ble_eq_true rfl, rfl⟩ (by decide) (by decide) (jc_X0_hasKind (K := fun z τ => z = jn_b (0 ≤ x ∧ x < g 0 1) ∧ τ = σ) sh.2.2 hG hW hx ⟨rfl, rfl⟩) hH va_S.rf (fun z τ hz H1 locs1 hH1 hS1 => ?_)
  obtain ⟨rfl, hτ⟩ := hz
  rw [hτ] at hH1
  refine lv_if_ne (off := 13) (tgt := 26) hx0 hb0 (by decide +kernel) (by decide) (fun hne => ?_) (fun heq => ?_)
  · have hk : 0 ≤ x ∧ x < g 0 1 := Classical.byContradiction (fun q => hne (lt_b0.mpr q))
    have hx5 : 0 ≤ x ∧ x < 5 := by omega
    refine lv_iload_n (k := 2) hx0 hb0 (by decide +kernel) rfl (lv_at hl 3 rfl) ?_
    have hsw : decode cX11_kind 27 = .ok (.tableswitch 77 0 4 #[33, 47, 54, 61, 67], 33) := by decide +kernel
    by_cases hy4 : 0 ≤ y ∧ y ≤ 4
    · have hth : kv_th g x y = 0 := by
        unfold kv_th
        rw [if_pos hk, if_pos hy4]
      rcases (show y = 0 ∨ y = 1 ∨ y = 2 ∨ y = 3 ∨ y = 4 by omega) with e0 | e0 | e0 | e0 | e0
      · refine lv_tableIn (off := 33) (tgt := 60) hx0 hb0 hsw (by rw [hyi, e0]; decide) (by rw [hyi, e0]; decide) (by rw [hyi, e0]; rfl) (by decide) ?_
        refine lv_aload_n (k := 3) hx0 hb0 (by decide +kernel) rfl (lv_at hl 0 rfl) ?_
        refine lv_iload_n (k := 1) hx0 hb0 (by decide +kernel) rfl (lv_at hl 2 rfl) ?_
        refine lt_call (M := lt_M) (ix := 163) (As := [.int (.ofInt x)]) (st' := []) (r := T + 1) (d := 0) hF hK hB hl.1 hc0 hs0 (by decide) (by decide) (by decide +kernel) jm_X0_isEmpty (mj_gw_of lt_m2.1 rfl) (mj_gw_of lt_m2.2.1 rfl) (mj_gw_of lt_m2.2.2 rfl) rfl sh.2.2 (by decide) ⟨Nat.le_of_ble_eq_true rfl, rfl⟩ (by decide) (by decide) (jc_X0_isEmpty (K := fun z τ => z = jn_b (jn_E (kg_e g) x) ∧ τ = σ) sh.2.2 h.2.2.1.1.2.1 h.2.2.1.1.2.2.2.1 hx ⟨rfl, rfl⟩) hH1 hS1 (fun z τ hz H2 locs2 hH2 hS2 => ?_)
        obtain ⟨rfl, hτ⟩ := hz
        rw [hτ] at hH2
        have hkv : kv_kind g x y = jn_b (jn_E (kg_e g) x) := if_pos e0
        refine lv_if_eq (off := 7) (tgt := 72) hx0 hb0 (by decide +kernel) (by decide) (fun heq => ?_) (fun hne => ?_)
        · refine lv_iconst (n := 0) (v := Int32.ofInt 0) hx0 hb0 (by decide +kernel) rfl ?_
          exact fin 0 (by decide +kernel) (by rw [hkv, jn_b_f (lt_b0.mp heq)]) hth hH2 hS2
        · refine lv_iconst (n := 1) (v := Int32.ofInt 1) hx0 hb0 (by decide +kernel) rfl ?_
          refine lv_goto (off := 4) (tgt := 73) hx0 hb0 (by decide +kernel) (by decide) ?_
          exact fin 1 (by decide +kernel) (by rw [hkv, jn_b_t (Classical.byContradiction (fun q => hne (lt_b0.mpr q)))]) hth hH2 hS2
      · refine lv_tableIn (off := 47) (tgt := 74) hx0 hb0 hsw (by rw [hyi, e0]; decide) (by rw [hyi, e0]; decide) (by rw [hyi, e0]; rfl) (by decide) ?_
        refine lv_aload_n (k := 3) hx0 hb0 (by decide +kernel) rfl (lv_at hl 0 rfl) ?_
        refine lt_get (M := lt_M) (ix := 166) (a := 0) (b := 12) (r := T + 1) (st := []) (v := .ref (T + 1 + 7)) hF hK hH1 (by decide +kernel) (by decide) (by decide) (mj_gw_of lt_f3 rfl) (jg_en_obj sh.2.2 (by decide)) ?_ ?_
        · rw [jg_fs_get (k := 17) rfl]
          rfl
        refine lv_iload_n (k := 1) hx0 hb0 (by decide +kernel) rfl (lv_at hl 2 rfl) ?_
        refine lt_ial (M := lt_M) (r := T + 1 + 7) (n := 5) (st := []) hF hnm hK hB hc0 hs0 (by decide +kernel) (by rcases hT with rfl | rfl <;> rfl) (by rw [hxi]; omega) hH1 hS1 (fun H2 locs2 hH2 hS2 => ?_)
        rw [hxi]
        exact fin _ (by decide +kernel) (by
          unfold kv_kind
          rw [if_neg (by omega), if_pos e0]
          exact h.2.2.1.1.2.2.1 x hx5.1 hx5.2) hth hH2 hS2
      · refine lv_tableIn (off := 54) (tgt := 81) hx0 hb0 hsw (by rw [hyi, e0]; decide) (by rw [hyi, e0]; decide) (by rw [hyi, e0]; rfl) (by decide) ?_
        refine lv_aload_n (k := 3) hx0 hb0 (by decide +kernel) rfl (lv_at hl 0 rfl) ?_
        refine lt_get (M := lt_M) (ix := 169) (a := 0) (b := 13) (r := T + 1) (st := []) (v := .ref (T + 1 + 8)) hF hK hH1 (by decide +kernel) (by decide) (by decide) (mj_gw_of lt_f4 rfl) (jg_en_obj sh.2.2 (by decide)) ?_ ?_
        · rw [jg_fs_get (k := 18) rfl]
          rfl
        refine lv_iload_n (k := 1) hx0 hb0 (by decide +kernel) rfl (lv_at hl 2 rfl) ?_
        refine lt_ial (M := lt_M) (r := T + 1 + 8) (n := 5) (st := []) hF hnm hK hB hc0 hs0 (by decide +kernel) (by rcases hT with rfl | rfl <;> rfl) (by rw [hxi]; omega) hH1 hS1 (fun H2 locs2 hH2 hS2 => ?_)
        rw [hxi]
        exact fin _ (by decide +kernel) (by
          unfold kv_kind
          rw [if_neg (by omega), if_neg (by omega), if_pos e0]
          exact h.2.2.1.2.1 x hx5.1 hx5.2) hth hH2 hS2
      · refine lv_tableIn (off := 61) (tgt := 88) hx0 hb0 hsw (by rw [hyi, e0]; decide) (by rw [hyi, e0]; decide) (by rw [hyi, e0]; rfl) (by decide) ?_
        refine lv_aload_n (k := 3) hx0 hb0 (by decide +kernel) rfl (lv_at hl 0 rfl) ?_
        refine lv_iload_n (k := 1) hx0 hb0 (by decide +kernel) rfl (lv_at hl 2 rfl) ?_
        refine lt_call (M := lt_M) (ix := 172) (As := [.int (.ofInt x)]) (st' := []) (r := T + 1) (d := 2) hF hK hB hl.1 hc0 hs0 (by decide) (by decide) (by decide +kernel) jm_X0_rulesOf (mj_gw_of lt_m3.1 rfl) (mj_gw_of lt_m3.2.1 rfl) (mj_gw_of lt_m3.2.2 rfl) rfl sh.2.2 (by decide) ⟨Nat.le_of_ble_eq_true rfl, rfl⟩ (by decide) (by decide) (jc_rulesOf (KI := fun z τ => z = kv_rc g x (g 0 2).toNat ∧ τ = σ) sh.2.2 hG hW hx ⟨rfl, rfl⟩) hH1 hS1 (fun z τ hz H2 locs2 hH2 hS2 => ?_)
        obtain ⟨rfl, hτ⟩ := hz
        rw [hτ] at hH2
        exact fin _ (by decide +kernel) (by
          unfold kv_kind
          rw [if_neg (by omega), if_neg (by omega), if_neg (by omega), if_pos e0]) hth hH2 hS2
      · refine lv_tableIn (off := 67) (tgt := 94) hx0 hb0 hsw (by rw [hyi, e0]; decide) (by rw [hyi, e0]; decide) (by rw [hyi, e0]; rfl) (by decide) ?_
        refine lv_aload_n (k := 0) hx0 hb0 (by decide +kernel) rfl (lv_at hl 1 rfl) ?_
        refine lt_get (M := lt_M) (ix := 40) (a := 11) (b := 6) (r := 0) (st := []) (v := .ref 55) hF hK hH1 (by decide +kernel) (by decide) (by decide) (mj_gw_of lt_f5 rfl) (jg_en_obj rfl (by decide)) ?_ ?_
        · rw [jg_fs_get (k := 65) rfl]
          rfl
        refine lt_get (M := lt_M) (ix := 175) (a := 6) (b := 0) (r := 55) (st := []) (v := .ref 56) hF hK hH1 (by decide +kernel) (by decide) (by decide) (mj_gw_of lt_f6 rfl) (jg_en_obj rfl (by decide)) ?_ ?_
        · rw [jg_fs_get (k := 11) rfl]
          rfl
        refine lv_iload_n (k := 1) hx0 hb0 (by decide +kernel) rfl (lv_at hl 2 rfl) ?_
        refine lt_ial (M := lt_M) (r := 56) (n := 5) (st := []) hF hnm hK hB hc0 hs0 (by decide +kernel) rfl (by rw [hxi]; omega) hH1 hS1 (fun H2 locs2 hH2 hS2 => ?_)
        rw [hxi]
        exact fin _ (by decide +kernel) (by
          have hwd := (h.2.2.2.2.1.1 (by omega)) x hx5.1 hx5.2
          unfold kv_kind
          rw [if_neg (by omega), if_neg (by omega), if_neg (by omega), if_neg (by omega)]
          rcases ka_wd_val hwd.1 with ⟨_, q2, _, q4⟩ | ⟨_, _, q3⟩
          · rw [q4]; exact q2
          · rw [q3]) hth hH2 hS2
    · refine lv_tableOut (tgt := 104) hx0 hb0 hsw (by rw [hyi]; omega) (by decide) ?_
      exact thr (pc := 104) (ik := 178) (is := 180) (ic := 182) (ij := 13) (bx := lt_b13) (E := lt_ns) (tx := "no such what") (sx := sb) (L := lt_L2) rfl (by decide +kernel) (hts _ (mj_gw_of lt_p3 rfl)) (hts _ (mj_gw_of lt_p4 rfl)) hE.2.1.2 (lt_inl_of lt_in2) (fun w hw => List.mem_append_right _ hw) lt_ot2 lt_b13d (by decide +kernel) (Or.inr ⟨rfl, by unfold kv_th; rw [if_pos hk, if_neg hy4]⟩) hH1 hS1 hl.1
  · have hk : ¬ (0 ≤ x ∧ x < g 0 1) := lt_b0.mp heq
    exact thr (pc := 16) (ik := 156) (is := 158) (ic := 160) (ij := 7) (bx := Bundle.six) (E := lt_io) (tx := "no such kind") (sx := sa) (L := lt_L1) rfl (by decide +kernel) (hts _ (mj_gw_of lt_p1 rfl)) (hts _ (mj_gw_of lt_p2 rfl)) hE.2.1.1 (lt_inl_of lt_in1) (fun w hw => List.mem_append_left _ hw) lt_ot1 lt_six (by decide +kernel) (Or.inl ⟨rfl, if_neg hk⟩) hH1 hS1 hl.1
end LTD
