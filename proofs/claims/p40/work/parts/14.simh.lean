/-! THE SIMULATION, 7: calls -/
section MJH
variable {p : Program} {l : Launch} {e : Env} {R : Room} {s : State} {m : MethodId} {args : Array Value} {below : List Frame} {meth : Method} {c : Code} {H : Heap} {locs : List Loc} {cells slots : Nat} {Q : State → Prop}
variable {al : Bool} {B t : Nat} {cA : Nat → ClassId} {D : va_G} {M M1 : mj_Inf} {i : Instr} {a b f pc pc' d : Nat} {ls : Array Slot} {lst lst' st st' : List Value} {hp hp' : mj_Hp} {sz sl sz' sl' : Nat}
def mj_Pre (al : Bool) (B t : Nat) (cA : Nat → ClassId) (D : va_G) (hp : mj_Hp) (sz : Nat) : State → Prop := fun U => mj_hd B t cA D hp sz U.heap ∧ mj_K B t cA D U ∧ B ≤ U.heap.size ∧ (al = true → U.heap.size = B + sz)
def mj_Post (B t : Nat) (cA : Nat → ClassId) (D : va_G) (v : Option Value) (hp' : mj_Hp) (sz' : Nat) : Array Value → State → Outcome → State → Prop := fun _ st o u => o = .returned (v.map (mj_v B t)) ∧ mj_hd B t cA D hp' sz' u.heap ∧ va_F (mj_A B) st u
abbrev mj_rm (d mc ms : Nat) : Room := { frames := d, cells := mc, slots := ms, locals := 40 * d }
def mj_Mt (l : Launch) (al : Bool) (B t : Nat) (cA : Nat → ClassId) (D : va_G) (d : Nat) (M : mj_Inf) (As : List Value) (hp : mj_Hp) (sz : Nat) (v : Option Value) (hp' : mj_Hp) (sz' mc ms : Nat) : Prop :=
  Met l M.2.1 (Jvm.Cond.code M.2.1 M.2.2.1 M.2.2.2.1 M.2.2.2.2.1 :: mj_gw) (mj_rm d mc ms) (va_Pc (As.map (mj_v B t)) (mj_Pre al B t cA D hp sz)) (mj_Post B t cA D v hp' sz') mc ms (mj_A B)
theorem mj_blind {av : List Value} : FrameBlind (va_Pc av (mj_Pre al B t cA D hp sz)) := fun a U g mk q => ⟨q.1, q.2.1, mj_K_blind q.2.2.1, q.2.2.2⟩
theorem mj_goOn {v : Option Value} {aa : Array Value} {mc ms : Nat} {st0 rest : List Value} (hr : va_Run p l e R s m args below meth c H locs cells slots mc ms (F0 m pc ls st0) rest (mj_Post B t cA D v hp' sz' aa) (mj_A B)) (hS : va_S (mj_A B) s.heap H locs)
    (kk : ∀ H1 locs1, mj_hd B t cA D hp' sz' H1 → va_S (mj_A B) s.heap H1 locs1 → W p l e R s m args below meth c H1 locs1 (cells + mc) (slots + ms) Q (F0 m (pc + 3) ls ((v.map (mj_v B t)).toList ++ rest))) :
    W p l e R s m args below meth c H locs cells slots Q (F0 m pc ls st0) := by
  intro T hT X
  obtain ⟨v', s0, t', T', L, h0, X', hL, e1, e2, ⟨hv, hb, hz, hk⟩, go⟩ := hr T hT X
  cases hv
  rw [h0] at hz hk
  obtain ⟨t2, a1, b1⟩ := kk T'.heap (locs ++ L) (by rw [e1]; exact hb) ⟨Nat.le_trans hS.1 (by rw [e1]; exact hz), fun q h1 h2 => by rw [e1, hk q (Nat.lt_of_lt_of_le h1 hS.1) h2]; exact hS.2.1 q h1 h2, fun q hq => (List.mem_append.mp hq).elim (hS.2.2 q) (hL q)⟩ T' rfl X'
  exact ⟨t2, go t2 a1, b1⟩
theorem mj_pop_of : ∀ {n : Nat} {acc st As st' : List Value}, mj_pop n acc st = some (As, st') → ∃ Bs, st = Bs ++ st' ∧ As = Bs.reverse ++ acc ∧ Bs.length = n
  | 0, acc, st, As, st', h => by
    unfold mj_pop at h
    cases h
    exact ⟨[], rfl, rfl, rfl⟩
  | n + 1, acc, [], As, st', h => by
    unfold mj_pop at h
    cases h
  | n + 1, acc, v :: st, As, st', h => by
    unfold mj_pop at h
    obtain ⟨Bs, h1, h2, h3⟩ := mj_pop_of h
    exact ⟨v :: Bs, by rw [h1]; rfl, by rw [h2]; simp, by simp [h3]⟩
theorem mj_pop_st {n : Nat} {st As st' : List Value} (h : mj_pop n [] st = some (As, st')) : st = As.reverse ++ st' ∧ As.length = n := by
  obtain ⟨Bs, h1, h2, h3⟩ := mj_pop_of h
  rw [List.append_nil] at h2
  subst h2
  exact ⟨by simpa using h1, by simpa using h3⟩
theorem mj_cats {st : List Value} : ((st.map (mj_v B t)).map Value.category).sum = (st.map Value.category).sum := by
  rw [List.map_map]
  congr 2
  funext v
  exact mj_cat v
/-- what a call must bring -/
def mj_Ca (l : Launch) (al : Bool) (call : Nat → List Value → mj_Hp → Nat → Nat → Option mj_Res) (d : Nat) : Prop := ∀ (y : Nat) (As : List Value) (hp : mj_Hp) (sz sl : Nat) (v : Option Value) (hp' : mj_Hp) (sz' sl' : Nat), call y As hp sz sl = some (v, hp', sz', sl') →
  ∃ (d' : Nat) (M1 : mj_Inf), d = d' + 1 ∧ mj_ms[y]? = some M1 ∧ sz ≤ sz' ∧ sl ≤ sl' ∧ ∀ (B t : Nat) (cA : Nat → ClassId) (D : va_G), mj_Mt l al B t cA D d' M1 As hp sz v hp' sz' (sz' - sz) (sl' - sl)
theorem mj_hR {n : Nat} (h : n ≤ 20) {mc ms d' : Nat} (hd : d' + 1 ≤ R.frames) (hl : 40 * (d' + 1) ≤ R.locals) : (mj_rm d' mc ms).frames + 1 ≤ R.frames ∧ 8 + (n + 11) + (mj_rm d' mc ms).locals ≤ R.locals :=
  ⟨hd, by show 8 + (n + 11) + 40 * d' ≤ R.locals; omega⟩
theorem mj_codeIn (h : mj_MOK M1) : ∀ w ∈ Jvm.Cond.code M1.2.1 M1.2.2.1 M1.2.2.2.1 M1.2.2.2.2.1 :: mj_gw, w ∈ mj_gw := fun w hw => (List.mem_cons.mp hw).elim (fun e => by rw [e]; exact h.1) id
theorem mj_pcU {As : List Value} (hK : mj_K B t cA D s) (hB : B ≤ s.heap.size) (hsz : al = true → H.size = B + sz) (hH : mj_hd B t cA D hp sz H) (hS : va_S (mj_A B) s.heap H locs) : ∀ U : State, U.heap = H → s.WarmedH U.vm → va_Pc (As.map (mj_v B t)) (mj_Pre al B t cA D hp sz) (As.map (mj_v B t)).toArray U := by
  intro U hU hW
  subst hU
  exact ⟨rfl, hH, mj_K_warm hK hW hS, Nat.le_trans hB hS.1, hsz⟩
section KIND
variable {ix n : Nat} {As rest : List Value} {v : Option Value} {d' : Nat}
theorem mj_sV (F : mj_Fr p s m args c M) (hK : mj_K B t cA D s) (hB : B ≤ s.heap.size) (hal : al = true → B + sz = s.heap.size + cells) (hH : mj_hd B t cA D hp sz H) (hS : va_S (mj_A B) s.heap H locs) (hls : ls.size = M.2.2.2.1)
    (hdg : decode M.2.2.1 pc = .ok (.invokevirtual ix, 3)) (hfr : d' + 1 ≤ R.frames) (hlo : 40 * (d' + 1) ≤ R.locals) (hM : mj_MOK M1) (hMt : mj_Mt l al B t cA D d' M1 (.ref a :: As) hp sz v hp' sz' (sz' - sz) (sl' - sl)) (hlink : Jvm.Cond.methodLink (mj_cn M.1) ix M1.2.1 ∈ mj_gw) (hinst : Jvm.Cond.instanceMethod M1.2.1 ∈ mj_gw) (hsel : Jvm.Cond.selects M1.2.1.cls M1.2.1 M1.2.1 ∈ mj_gw) (hcl : M1.1 < 12) {fs : List Value} (hr : hp a = .inr (M1.1, fs)) (hn : As.length = M1.2.2.2.2.2.2.1) (hcat : (rest.map Value.category).sum ≤ 8)
    (hroom : cells + (sz' - sz) ≤ R.cells ∧ slots + (sl' - sl) ≤ R.slots)
    (kk : ∀ H1 locs1, mj_hd B t cA D hp' sz' H1 → va_S (mj_A B) s.heap H1 locs1 → W p l e R s m args below meth c H1 locs1 (cells + (sz' - sz)) (slots + (sl' - sl)) Q (F0 m (pc + 3) ls ((v.toList ++ rest).map (mj_v B t)))) :
    W p l e R s m args below meth c H locs cells slots Q (F0 m pc ls ((As.reverse ++ .ref a :: rest).map (mj_v B t))) := by
  obtain ⟨hx, hb, hml, hown, hts⟩ := F
  have hr1 := mj_wf_obj hH.2 hr (by omega)
  have hc0 := hM
  obtain ⟨hc1, hc2, hc3, hc4, hc5, hc6, hc7, hc8, -⟩ := hM
  intro T hT X
  have hsz : al = true → H.size = B + sz := fun h => mj_size hB (hal h) hH hS hT X
  have he : (mj_ws B t cA hp sz)[a]? = some (B + a, .inr (M1.1, fs.map (mj_v B t))) := by rw [mj_ws_get hr1, hr]; rfl
  have hrec := va_recv hK.1 hH.1 (mj_cls_T hcl) he
  rw [← mj_b_lt (t := t) hr1 hH.2.1] at hrec
  have hC : mj_cn M1.1 = M1.2.1.cls := hc4
  have cw := cwV (own := mj_cn M.1) (index := ix) (C := M1.2.1.cls) (y := M1.2.1) (bytes := M1.2.2.1) (maxL := M1.2.2.2.1) (ret := M1.2.2.2.2.1) (R := R) (mc := sz' - sz) (ms := sl' - sl) (rm := mj_rm d' (sz' - sz) (sl' - sl)) (ws := Jvm.Cond.code M1.2.1 M1.2.2.1 M1.2.2.2.1 M1.2.2.2.2.1 :: mj_gw) (ws' := mj_gw) M1.2.2.2.2.2.2.1 hts (mj_good (fun w hw => by
    unfold wsV at hw
    rcases List.mem_append.mp hw with hw | hw
    · simp only [List.mem_cons, List.not_mem_nil, or_false] at hw
      rcases hw with rfl | rfl | rfl | rfl
      · exact hlink
      · exact hinst
      · exact hsel
      · exact hc2
    · exact mj_codeIn hc0 w hw)) rfl rfl rfl ⟨rfl, hc6, hc7, hc8⟩ (mj_hR hc5 hfr hlo)
  have hrun := va_runV (l := l) (e := e) (below := below) (meth := meth) (locs := locs) (cells := cells) (slots := slots) (H := H) (As := As.map (mj_v B t)) (rest := rest.map (mj_v B t)) (b := mj_b B t a) (g := F0 m pc ls ((As.reverse ++ .ref a :: rest).map (mj_v B t))) ⟨hx, hb, hml, hown, hts⟩ hMt cw ⟨mj_blind, (by rw [hC] at hrec; exact hrec), mj_pcU (As := .ref a :: As) hK hB hsz hH hS⟩ rfl (by rw [List.length_map]; exact hn) hls (by simp [List.map_append, List.map_reverse, mj_v]) (lv_room (by rw [mj_cats]; exact hcat)) hdg hroom
  refine mj_goOn hrun hS (fun H1 locs1 hd1 hS1 => ?_) T hT X
  have k1 := kk H1 locs1 hd1 hS1
  rw [List.map_append] at k1
  cases v <;> exact k1
theorem mj_sS (F : mj_Fr p s m args c M) (hK : mj_K B t cA D s) (hB : B ≤ s.heap.size) (hal : al = true → B + sz = s.heap.size + cells) (hH : mj_hd B t cA D hp sz H) (hS : va_S (mj_A B) s.heap H locs) (hls : ls.size = M.2.2.2.1)
    (hdg : decode M.2.2.1 pc = .ok (.invokestatic ix, 3)) (hfr : d' + 1 ≤ R.frames) (hlo : 40 * (d' + 1) ≤ R.locals) (hM : mj_MOK M1) (hMt : mj_Mt l al B t cA D d' M1 As hp sz v hp' sz' (sz' - sz) (sl' - sl)) (hlink : Jvm.Cond.methodLink (mj_cn M.1) ix M1.2.1 ∈ mj_gw ∨ Jvm.Cond.methodLinkNest (mj_cn M.1) ix M1.2.1 RX11 ∈ mj_nw) (hstat : Jvm.Cond.static M1.2.1 ∈ mj_gw) (hn : As.length = M1.2.2.2.2.2.2.1) (hcat : (rest.map Value.category).sum ≤ 8)
    (hroom : cells + (sz' - sz) ≤ R.cells ∧ slots + (sl' - sl) ≤ R.slots)
    (kk : ∀ H1 locs1, mj_hd B t cA D hp' sz' H1 → va_S (mj_A B) s.heap H1 locs1 → W p l e R s m args below meth c H1 locs1 (cells + (sz' - sz)) (slots + (sl' - sl)) Q (F0 m (pc + 3) ls ((v.toList ++ rest).map (mj_v B t)))) :
    W p l e R s m args below meth c H locs cells slots Q (F0 m pc ls ((As.reverse ++ rest).map (mj_v B t))) := by
  obtain ⟨hx, hb, hml, hown, hts⟩ := F
  have hc0 := hM
  obtain ⟨hc1, hc2, hc3, hc4, hc5, hc6, hc7, hc8, -⟩ := hM
  intro T hT X
  have hsz : al = true → H.size = B + sz := fun h => mj_size hB (hal h) hH hS hT X
  have hrun : va_Run p l e R s m args below meth c H locs cells slots (sz' - sz) (sl' - sl) (F0 m pc ls ((As.reverse ++ rest).map (mj_v B t))) (rest.map (mj_v B t)) (mj_Post B t cA D v hp' sz' (As.map (mj_v B t)).toArray) (mj_A B) := by
    rcases hlink with hlink | hlink
    · have cw := va_cwS (own := mj_cn M.1) (index := ix) (y := M1.2.1) (bytes := M1.2.2.1) (maxL := M1.2.2.2.1) (ret := M1.2.2.2.2.1) (R := R) (mc := sz' - sz) (ms := sl' - sl) (rm := mj_rm d' (sz' - sz) (sl' - sl)) (ws := Jvm.Cond.code M1.2.1 M1.2.2.1 M1.2.2.2.1 M1.2.2.2.2.1 :: mj_gw) (ws' := mj_gw) M1.2.2.2.2.2.2.1 hts (mj_good (fun w hw => by
        unfold va_wsS at hw
        rcases List.mem_append.mp hw with hw | hw
        · simp only [List.mem_cons, List.not_mem_nil, or_false] at hw
          rcases hw with rfl | rfl | rfl
          · exact hlink
          · exact hstat
          · exact hc2
        · exact mj_codeIn hc0 w hw)) rfl rfl rfl ⟨hc6, hc7, hc8⟩ (mj_hR hc5 hfr hlo)
      exact va_runS (As := As.map (mj_v B t)) ⟨hx, hb, hml, hown, hts⟩ hMt cw ⟨mj_blind, mj_pcU (As := As) hK hB hsz hH hS⟩ rfl (by rw [List.length_map]; exact hn) hls (by simp [List.map_append, List.map_reverse]) (lv_room (by rw [mj_cats]; exact hcat)) hdg hroom
    · have cn := va_cnB (own := mj_cn M.1) (host := RX11) (index := ix) (y := M1.2.1) (bytes := M1.2.2.1) (maxL := M1.2.2.2.1) (ret := M1.2.2.2.2.1) (R := R) (mc := sz' - sz) (ms := sl' - sl) (rm := mj_rm d' (sz' - sz) (sl' - sl)) (ws := Jvm.Cond.code M1.2.1 M1.2.2.1 M1.2.2.2.1 M1.2.2.2.2.1 :: mj_gw) (ws' := mj_gw) M1.2.2.2.2.2.2.1 hts (mj_good (mj_codeIn hc0)) rfl rfl rfl (hK.2.1 _ hlink) (hts _ hc2) ⟨hc6, hc7, hc8⟩ (mj_hR hc5 hfr hlo)
      exact va_runSN (As := As.map (mj_v B t)) ⟨hx, hb, hml, hown, hts⟩ hMt ⟨cn, hts _ hstat, trivial⟩ ⟨mj_blind, mj_pcU (As := As) hK hB hsz hH hS⟩ rfl (by rw [List.length_map]; exact hn) hls (by simp [List.map_append, List.map_reverse]) (lv_room (by rw [mj_cats]; exact hcat)) hdg hroom
  refine mj_goOn hrun hS (fun H1 locs1 hd1 hS1 => ?_) T hT X
  have k1 := kk H1 locs1 hd1 hS1
  rw [List.map_append] at k1
  cases v <;> exact k1
theorem mj_sI (F : mj_Fr p s m args c M) (hK : mj_K B t cA D s) (hB : B ≤ s.heap.size) (hal : al = true → B + sz = s.heap.size + cells) (hH : mj_hd B t cA D hp sz H) (hS : va_S (mj_A B) s.heap H locs) (hls : ls.size = M.2.2.2.1)
    (hdg : decode M.2.2.1 pc = .ok (.invokespecial ix, 3)) (hfr : d' + 1 ≤ R.frames) (hlo : 40 * (d' + 1) ≤ R.locals) (hM : mj_MOK M1) (hMt : mj_Mt l al B t cA D d' M1 (.ref a :: As) hp sz v hp' sz' (sz' - sz) (sl' - sl)) (hlink : Jvm.Cond.methodLink (mj_cn M.1) ix M1.2.1 ∈ mj_gw ∨ Jvm.Cond.methodLinkNest (mj_cn M.1) ix M1.2.1 RX11 ∈ mj_nw) (hinst : Jvm.Cond.instanceMethod M1.2.1 ∈ mj_gw) (hini : M1.2.1.name = "<init>") (hret : M1.2.2.2.2.1 = none) (hn : As.length = M1.2.2.2.2.2.2.1) (hcat : (rest.map Value.category).sum ≤ 8)
    (hroom : cells + (sz' - sz) ≤ R.cells ∧ slots + (sl' - sl) ≤ R.slots)
    (kk : ∀ H1 locs1, mj_hd B t cA D hp' sz' H1 → va_S (mj_A B) s.heap H1 locs1 → W p l e R s m args below meth c H1 locs1 (cells + (sz' - sz)) (slots + (sl' - sl)) Q (F0 m (pc + 3) ls ((v.toList ++ rest).map (mj_v B t)))) :
    W p l e R s m args below meth c H locs cells slots Q (F0 m pc ls ((As.reverse ++ .ref a :: rest).map (mj_v B t))) := by
  obtain ⟨hx, hb, hml, hown, hts⟩ := F
  have hc0 := hM
  obtain ⟨hc1, hc2, hc3, hc4, hc5, hc6, hc7, hc8, -⟩ := hM
  intro T hT X
  have hsz : al = true → H.size = B + sz := fun h => mj_size hB (hal h) hH hS hT X
  unfold mj_Mt at hMt
  have hci := mj_codeIn hc0
  rw [hret] at hMt hci
  have hrun : va_Run p l e R s m args below meth c H locs cells slots (sz' - sz) (sl' - sl) (F0 m pc ls ((As.reverse ++ .ref a :: rest).map (mj_v B t))) (rest.map (mj_v B t)) (mj_Post B t cA D v hp' sz' (Value.ref (mj_b B t a) :: As.map (mj_v B t)).toArray) (mj_A B) := by
    rcases hlink with hlink | hlink
    · have cw := cwI (own := mj_cn M.1) (index := ix) (y := M1.2.1) (bytes := M1.2.2.1) (maxL := M1.2.2.2.1) (R := R) (mc := sz' - sz) (ms := sl' - sl) (rm := mj_rm d' (sz' - sz) (sl' - sl)) (ws := Jvm.Cond.code M1.2.1 M1.2.2.1 M1.2.2.2.1 none :: mj_gw) (ws' := mj_gw) M1.2.2.2.2.2.2.1 hts (mj_good hci) rfl rfl rfl (hts _ hc2) (hts _ hlink) (hts _ hinst) hini ⟨hc6, hc7, hc8⟩ (mj_hR hc5 hfr hlo)
      exact va_runI (As := As.map (mj_v B t)) (b := mj_b B t a) ⟨hx, hb, hml, hown, hts⟩ hMt cw ⟨mj_blind, mj_pcU (As := .ref a :: As) hK hB hsz hH hS⟩ rfl (by rw [List.length_map]; exact hn) hls (by simp [List.map_append, List.map_reverse, mj_v]) (lv_room (by rw [mj_cats]; exact hcat)) hdg hroom
    · have cn := va_cnB (own := mj_cn M.1) (host := RX11) (index := ix) (y := M1.2.1) (bytes := M1.2.2.1) (maxL := M1.2.2.2.1) (ret := none) (R := R) (mc := sz' - sz) (ms := sl' - sl) (rm := mj_rm d' (sz' - sz) (sl' - sl)) (ws := Jvm.Cond.code M1.2.1 M1.2.2.1 M1.2.2.2.1 none :: mj_gw) (ws' := mj_gw) M1.2.2.2.2.2.2.1 hts (mj_good hci) rfl rfl rfl (hK.2.1 _ hlink) (hts _ hc2) ⟨hc6, hc7, hc8⟩ (mj_hR hc5 hfr hlo)
      exact va_runIN (As := As.map (mj_v B t)) (b := mj_b B t a) ⟨hx, hb, hml, hown, hts⟩ hMt ⟨cn, hini, hts _ hinst⟩ ⟨mj_blind, mj_pcU (As := .ref a :: As) hK hB hsz hH hS⟩ rfl (by rw [List.length_map]; exact hn) hls (by simp [List.map_append, List.map_reverse, mj_v]) (lv_room (by rw [mj_cats]; exact hcat)) hdg hroom
  refine mj_goOn hrun hS (fun H1 locs1 hd1 hS1 => ?_) T hT X
  have k1 := kk H1 locs1 hd1 hS1
  rw [List.map_append] at k1
  cases v <;> exact k1
end KIND
end MJH
