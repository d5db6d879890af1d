/-! LalrDesk.kind, which may throw -/
def lt_b13 : ByteArray := ⟨#[0x2a, 0x2b, 0xb7, 0x00, 0x0d, 0xb1]⟩
def lt_io : String := "java/lang/IndexOutOfBoundsException"
def lt_ns : String := "java/util/NoSuchElementException"
def lt_L1 : List Jvm.Cond := lt_atS RX11 160 lt_io 7 Bundle.six "java/lang/RuntimeException" ["java/lang/Exception"]
def lt_L2 : List Jvm.Cond := lt_atS RX11 182 lt_ns 13 lt_b13 "java/lang/RuntimeException" ["java/lang/Exception"]
def lt_inl (ws : List Jvm.Cond) (ps : List Nat) : Bool := decide (ps.length = ws.length) && (ws.zip ps).all (fun q => mj_w q.2 q.1)
theorem lt_inl_of {ws : List Jvm.Cond} {ps : List Nat} (h : lt_inl ws ps = true) : ∀ w ∈ ws, w ∈ lw_tbl := by
  intro w hw
  have h := Bool.and_eq_true_iff.mp h
  have hl := of_decide_eq_true h.1
  obtain ⟨k, hk⟩ := List.getElem?_of_mem hw
  have hk1 : k < ws.length := (List.getElem?_eq_some_iff.mp hk).1
  have hp : ps[k]? = some (ps[k]'(by omega)) := List.getElem?_eq_getElem (by omega)
  have hz : (w, ps[k]'(by omega)) ∈ ws.zip ps := by
    refine List.mem_of_getElem? (i := k) ?_
    rw [List.getElem?_zip_eq_some]
    exact ⟨hk, hp⟩
  exact lk_tbl_of (List.all_eq_true.mp h.2 _ hz)
theorem lt_in1 : lt_inl lt_L1 [1018, 6110, 6119, 6122, 6125, 6127, 6111, 6112, 1030, 1031, 6113, 6118, 6123, 6143, 6100, 6144, 6102, 6145, 6104, 6114, 6116, 6106, 6139, 6140, 6142, 6106, 6130, 6131, 6132, 6133, 6092, 6133, 6134, 6135, 6136, 6094, 6136, 6137, 6138, 6139, 6096, 6129, 6089, 6090, 6097, 6098, 6099, 6101, 6103, 6105, 6109, 6108, 6107] = true := by decide +kernel
theorem lt_in2 : lt_inl lt_L2 [1018, 6110, 6119, 6122, 6125, 6127, 6111, 6112, 1030, 1031, 6113, 6118, 6123, 6143, 6100, 6144, 6102, 6145, 6104, 6114, 6116, 6106, 6139, 6140, 6142, 6106, 6171, 6172, 6173, 6133, 6092, 6133, 6134, 6135, 6136, 6094, 6136, 6137, 6138, 6139, 6096, 6170, 6161, 6162, 6163, 6121, 6164, 6165, 6166, 6167, 6109, 6108, 6168] = true := by decide +kernel
def lt_bad : List Jvm.Cond := lt_L1.filter (fun w => !goodWord w) ++ lt_L2.filter (fun w => !goodWord w)
def lt_badk (w : Jvm.Cond) : Bool := match w with
  | .declares _ => true
  | .castable _ _ => true
  | _ => false
theorem lt_bad_all : lt_bad.all lt_badk = true := by decide +kernel
theorem lt_bad_is {w : Jvm.Cond} (h : w ∈ lt_bad) : (∃ x, w = .declares x) ∨ ∃ a b, w = .castable a b := by
  have h1 := List.all_eq_true.mp lt_bad_all w h
  cases w <;> first | exact Or.inl ⟨_, rfl⟩ | exact Or.inr ⟨_, _, rfl⟩ | (cases h1; done)
theorem lt_bad_tb {w : Jvm.Cond} (h : w ∈ lt_bad) : w ∈ lw_tbl := by
  unfold lt_bad at h
  rcases List.mem_append.mp h with h | h
  · exact lt_inl_of lt_in1 w (List.mem_filter.mp h).1
  · exact lt_inl_of lt_in2 w (List.mem_filter.mp h).1
theorem lt_bad_on {w : Jvm.Cond} (h : w ∈ lt_bad) : w.onTables = true := by
  rcases lt_bad_is h with ⟨x, rfl⟩ | ⟨a, b, rfl⟩ <;> rfl
theorem lt_warmC {a b : String} {s U : State} (hW : s.WarmedH U.vm) (hZ : va_Nw (.castable a b) s) : va_Nw (.castable a b) U := va_tabs rfl (rfl : (s.setVm U.vm).vm = U.vm) (show (Jvm.Cond.castable a b).before #[] (s.setVm U.vm) = true by rw [Cond.castable_setVm hW.alike]; exact hZ)
/-- what a throw needs, beside the words -/
def lt_E (B sa sb : Nat) (U : State) : Prop := (vx_Zq Bundle.tN "UNASSIGNED_STACK" Bundle.steD (mj_A B) U U.heap ∧ vx_Zq Bundle.tN "SUPPRESSED_SENTINEL" Bundle.listD (mj_A B) U U.heap) ∧ (vk_R RX11 158 "no such kind" sa U ∧ vk_R RX11 180 "no such what" sb U) ∧ (∀ w ∈ lt_bad, va_Nw w U) ∧ va_Nc lt_ns lt_io U
theorem lt_E_blind {B sa sb : Nat} {U : State} {g : JFrame} {mk : MethodId} {a : Array Value} (h : lt_E B sa sb U) : lt_E B sa sb (U.calling g mk a) := by
  obtain ⟨⟨h1, h2⟩, ⟨h3, h4⟩, h5, h6⟩ := h
  have hv : U.vm.Alike (U.calling g mk a).vm := Vm.Alike.refl U.vm
  exact ⟨⟨vx_Zq.moved hv h1, vx_Zq.moved hv h2⟩, ⟨vk_R.same rfl h3, vk_R.same rfl h4⟩, fun w hw => va_Nw.same (u := U) (lt_bad_on hw) rfl (h5 w hw), va_Nc.moved hv h6⟩
theorem lt_E_warm {B sa sb : Nat} {s U : State} {locs : List Loc} (h : lt_E B sa sb s) (hW : s.WarmedH U.vm) (hS : va_S (mj_A B) s.heap U.heap locs) : lt_E B sa sb U := by
  obtain ⟨⟨h1, h2⟩, ⟨h3, h4⟩, h5, h6⟩ := h
  refine ⟨⟨vx_Zq.moved hW.alike (h1.kept hS.2.1), vx_Zq.moved hW.alike (h2.kept hS.2.1)⟩, ⟨vk_R.warm hW h3, vk_R.warm hW h4⟩, fun w hw => ?_, va_Nc.moved hW.alike h6⟩
  have h7 := h5 w hw
  rcases lt_bad_is hw with ⟨x, rfl⟩ | ⟨a, b, rfl⟩
  · exact va_Nw.warmD hW h7
  · exact lt_warmC hW h7
theorem lt_six : decode Bundle.six 0 = .ok (.aload_n 0, 1) ∧ decode Bundle.six 1 = .ok (.aload_n 1, 1) ∧ decode Bundle.six 2 = .ok (.invokespecial 7, 3) ∧ decode Bundle.six 5 = .ok (.return_, 1) := ⟨Bundle.six_0, Bundle.six_1, Bundle.six_2, Bundle.six_5⟩
theorem lt_b13d : decode lt_b13 0 = .ok (.aload_n 0, 1) ∧ decode lt_b13 1 = .ok (.aload_n 1, 1) ∧ decode lt_b13 2 = .ok (.invokespecial 13, 3) ∧ decode lt_b13 5 = .ok (.return_, 1) := by decide +kernel
theorem lt_ot1 : (Jvm.Cond.classLink RX11 156 lt_io :: .initialized lt_io :: lt_L1).all vx_ot = true := by decide +kernel
theorem lt_ot2 : (Jvm.Cond.classLink RX11 178 lt_ns :: .initialized lt_ns :: lt_L2).all vx_ot = true := by decide +kernel
theorem lt_p1 : mj_w 6088 (.classLink RX11 156 lt_io) = true := by decide +kernel
theorem lt_p2 : mj_w 1021 (.initialized lt_io) = true := by decide +kernel
theorem lt_p3 : mj_w 6160 (.classLink RX11 178 lt_ns) = true := by decide +kernel
theorem lt_p4 : mj_w 1022 (.initialized lt_ns) = true := by decide +kernel
section LTC
variable {p : Program} {l : Launch} {e : Env} {R : Room} {s : State} {m : MethodId} {args : Array Value} {below : List Frame} {meth : Method} {c : Code} {H : Heap} {locs : List Loc} {cells slots : Nat} {Q : State → Prop}
variable {B t sa sb : Nat} {cA : Nat → ClassId} {D : va_G} {M M1 : mj_Inf} {a b r pc ix d y n : Nat} {ls : Array Slot} {fs st : List Value} {v : Value} {hp : mj_Hp} {sz : Nat} {σ : jg_M}
/-- the words of a throw, where the method's own list is mj_gw -/
theorem lt_hat {L : List Jvm.Cond} (hL : ∀ w ∈ L, w ∈ lw_tbl) (hb : ∀ w ∈ L.filter (fun w => !goodWord w), w ∈ lt_bad) (hts : ∀ w ∈ mj_gw, w.before args s = true) (hE : lt_E B sa sb s) : ∀ w ∈ L, w.before args s = true :=
  vx_hat (B := lt_bad) (fun w hw => hts w (List.mem_filter.mpr ⟨hL w (List.mem_filter.mp hw).1, (List.mem_filter.mp hw).2⟩)) hb (fun w hw => va_Nw.use (lt_bad_on hw) (hE.2.2.1 w hw))
theorem lt_get (F : mj_Fr p s m args c M) (hK : mj_K B t cA D s) (hH : mj_hd B t cA D hp sz H) (hdg : decode M.2.2.1 pc = .ok (.getfield ix, 3)) (ha : a < 13) (hbN : b < mj_N a) (hl : Jvm.Cond.fieldLink (mj_cn M.1) ix (mj_T a b).1 (mj_T a b).2.1 (mj_T a b).2.2.1 ∈ mj_gw) (hr : hp r = .inr (a, fs)) (hv : fs[b]? = some v)
    (kk : W p l e R s m args below meth c H locs cells slots Q (F0 m (pc + 3) ls ((v :: st).map (mj_v B t)))) : W p l e R s m args below meth c H locs cells slots Q (F0 m pc ls ((.ref r :: st).map (mj_v B t))) := by
  obtain ⟨hx, hb, -, hown, hts⟩ := F
  have hr1 := mj_wf_obj hH.2 hr (by omega)
  have he : (mj_ws B t cA hp sz)[r]? = some (B + r, .inr (a, fs.map (mj_v B t))) := by rw [mj_ws_get hr1, hr]; rfl
  have hv2 : (fs.map (mj_v B t))[b]? = some (mj_v B t v) := by rw [List.getElem?_map, hv]; rfl
  show W p l e R s m args below meth c H locs cells slots Q (F0 m pc ls (.ref (mj_b B t r) :: st.map (mj_v B t)))
  rw [mj_b_lt hr1 hH.2.1]
  exact va_get hx hb hts (mj_cls_lay ha) hown hK.1 hH.1 r he (mj_cls_T ha) b hbN (hts _ hl) (fun _ h9 => h9) hv2 hdg kk
theorem lt_call {As : List Value} {st' : List Value} {K : Int → jg_M → Prop} (F : mj_Fr p s m args c M) (hK : mj_K B t cA D s) (hB : B ≤ s.heap.size) (hls : ls.size = M.2.2.2.1) (hc1 : cells ≤ R.cells) (hc2 : slots ≤ R.slots) (hR : 21 ≤ R.frames) (hR2 : 840 ≤ R.locals) (hdg : decode M.2.2.1 pc = .ok (.invokevirtual ix, 3)) (hM : mj_ms[y]? = some M1)
    (hlink : Jvm.Cond.methodLink (mj_cn M.1) ix M1.2.1 ∈ mj_gw) (hinst : Jvm.Cond.instanceMethod M1.2.1 ∈ mj_gw) (hsel : Jvm.Cond.selects M1.2.1.cls M1.2.1 M1.2.1 ∈ mj_gw)
    (hn : As.length = M1.2.2.2.2.2.2.1) (hs : jg_sh r = (M1.1, 0)) (hc : M1.1 < 13) (hl : (mj_flat (.ref r :: As)).length ≤ M1.2.2.2.1 ∧ mj_lok M1.2.2.2.2.2.1 0 (mj_flat (.ref r :: As)) = true) (hct : (st'.map Value.category).sum ≤ 8)
    (hd : d ≤ 20) (h : jg_CI 141 d M1 (.ref r :: As) σ K) (hH : mj_hd B t cA D (jg_en 141 σ) 141 H) (hS : va_S (mj_A B) s.heap H locs)
    (kk : ∀ z τ, K z τ → ∀ H1 locs1, mj_hd B t cA D (jg_en 141 τ) 141 H1 → va_S (mj_A B) s.heap H1 locs1 → W p l e R s m args below meth c H1 locs1 cells slots Q (F0 m (pc + 3) ls ((.int (Int32.ofInt z) :: st').map (mj_v B t)))) :
    W p l e R s m args below meth c H locs cells slots Q (F0 m pc ls ((As.reverse ++ .ref r :: st').map (mj_v B t))) := by
  obtain ⟨k, v, τ, h1, z, rfl, hz⟩ := (jg_CI.mono h hd (fun _ _ q => q) : jg_CI 141 20 M1 (.ref r :: As) σ K)
  have hcall : mj_cf false mj_ms k 21 y (.ref r :: As) (jg_en 141 σ) 141 0 = some (some (.int (Int32.ofInt z)), jg_en 141 τ, 141, 0) := by
    unfold mj_cf
    dsimp only
    rw [hM]
    dsimp only
    rw [if_pos hl]
    exact h1 141 0
  obtain ⟨d', M2, e1, e2, -, -, hMt⟩ := mj_Ca_run (l := l) _ _ _ _ _ _ _ _ _ hcall
  have e3 : d' = 20 := by omega
  subst e3
  rw [hM] at e2
  cases e2
  have hm := mj_all_ok _ (List.mem_of_getElem? hM)
  refine mj_sV (al := false) (sl := 0) (sl' := 0) F hK hB (fun h => by cases h) hH hS hls hdg (by omega) (by omega) hm (hMt B t cA D) hlink hinst hsel hc (jg_en_obj hs hc) hn hct ⟨by rw [Nat.sub_self]; exact hc1, by rw [Nat.sub_self]; exact hc2⟩ (fun H1 locs1 a1 a2 => ?_)
  exact kk z τ hz H1 locs1 a1 a2
theorem lt_ial {x : Int} {st : List Value} (F : mj_Fr p s m args c M) (hin : meth.name = M.2.1.name) (hK : mj_K B t cA D s) (hB : B ≤ s.heap.size) (hc1 : cells ≤ R.cells) (hc2 : slots ≤ R.slots) (hdg : decode M.2.2.1 pc = .ok (.iaload, 1)) (hs : jg_sh r = (20, n)) (hi : 0 ≤ jg_wr x ∧ jg_wr x < (n : Int)) (hH : mj_hd B t cA D (jg_en 141 σ) 141 H) (hS : va_S (mj_A B) s.heap H locs)
    (kk : ∀ H1 locs1, mj_hd B t cA D (jg_en 141 σ) 141 H1 → va_S (mj_A B) s.heap H1 locs1 → W p l e R s m args below meth c H1 locs1 cells slots Q (F0 m (pc + 1) ls ((.int (.ofInt (σ.1 r (jg_wr x))) :: st).map (mj_v B t)))) :
    W p l e R s m args below meth c H locs cells slots Q (F0 m pc ls ((.int (.ofInt x) :: .ref r :: st).map (mj_v B t))) := by
  refine mj_simD (al := false) (i := .iaload) (a := 0) (b := 0) (f := 0) (lst := []) (lst' := []) (sl := 0) (sl' := 0) (sz' := 141) (hp' := jg_en 141 σ) (pc' := pc + 1) (st' := .int (.ofInt (σ.1 r (jg_wr x))) :: st) F hin hK hB (fun h => by cases h) hdg rfl hH hS ⟨by rw [Nat.sub_self]; exact hc1, by rw [Nat.sub_self]; exact hc2⟩ ?_ (fun H1 locs1 a1 a2 _ => ?_)
  · unfold mj_stD
    dsimp only
    rw [jg_en_20 hs]
    dsimp only
    rw [if_pos ⟨Or.inl rfl, (jg_ix hi).1⟩, (jg_ix hi).2]
  · exact kk H1 locs1 a1 a2
end LTC
