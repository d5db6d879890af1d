/-! THE LAW's FRAMES: a call on the desk -/
def zl_A (B : Nat) (s : State) : Nat → Prop := fun q => mj_A B q ∨ s.heap.size ≤ q
def zl_ok (ix y : Nat) (M : mj_Inf) : Prop := mj_ms[y]? = some M ∧ M.1 = 11 ∧ Jvm.Cond.methodLink RL ix M.2.1 ∈ mj_gw ∧ Jvm.Cond.instanceMethod M.2.1 ∈ mj_gw ∧ Jvm.Cond.selects M.2.1.cls M.2.1 M.2.1 ∈ mj_gw
theorem zl_S {B : Nat} {s : State} {H : Heap} {locs : List Loc} (hS : va_S (zl_A B s) s.heap H locs) : va_S (mj_A B) s.heap H [] :=
  ⟨hS.1, fun q h1 h2 => hS.2.1 q h1 (fun h => h.elim h2 (fun h => absurd h1 (Nat.not_lt.mpr h))), fun _ h => by cases h⟩
section ZLC
variable {p : Program} {l : Launch} {e : Env} {R : Room} {s : State} {m : MethodId} {args : Array Value} {below : List Frame} {meth : Method} {c : Code} {H : Heap} {locs : List Loc} {cells slots : Nat} {Q : State → Prop}
variable {cc : ByteArray} {x : Jvm.Cond} {B t y ix d pc : Nat} {cA : Nat → ClassId} {D : va_G} {M : mj_Inf} {ls : Array Slot} {As rest : List Value} {σ : jg_M} {S S' : kx_S} {z : Int}
theorem zl_call (hx : p.tables.exec = Jvm.exec) (hb : c.code = cc) (hml : c.maxLocals = ls.size) (hown : s.vm.findClass RL = some m.cls) (hts : ∀ w ∈ x :: zj_gw, w.before args s = true)
    (hK : mj_K B t cA D s) (hB : B ≤ s.heap.size) (hS : va_S (zl_A B s) s.heap H locs) (hH : mj_hd B t cA D (jg_en 92 σ) 92 H) (hC : kx_C σ S) (hT : kc_T S d M As z S')
    (hok : zl_ok ix y M) (hn : As.length = M.2.2.2.2.2.2.1) (hint : As.map (mj_v B t) = As) (hl : (mj_flat (.ref 0 :: As)).length ≤ M.2.2.2.1 ∧ mj_lok M.2.2.2.2.2.1 0 (mj_flat (.ref 0 :: As)) = true) (hcat : (rest.map Value.category).sum ≤ 8)
    (hfr : d + 1 ≤ R.frames) (hlo : 40 * (d + 1) ≤ R.locals) (hcc : cells ≤ R.cells) (hss : slots ≤ R.slots) (hdg : decode cc pc = .ok (.invokevirtual ix, 3))
    (kk : ∀ τ H1 locs1, kx_C τ S' → mj_hd B t cA D (jg_en 92 τ) 92 H1 → va_S (zl_A B s) s.heap H1 locs1 → H.size ≤ H1.size → (∀ q : Nat, q < H.size → ¬ mj_A B q → H1[q]? = H[q]?) → W p l e R s m args below meth c H1 locs1 cells slots Q (F0 m (pc + 3) ls (.int (Int32.ofInt z) :: rest))) :
    W p l e R s m args below meth c H locs cells slots Q (F0 m pc ls (As.reverse ++ .ref B :: rest)) := by
  obtain ⟨hM, h11, hlink, hinst, hsel⟩ := hok
  obtain ⟨k, v, τ, h1, z', rfl, rfl, -, hC'⟩ := hT.2 σ hC
  have hcall : mj_cf false mj_ms k (d + 1) y (.ref 0 :: As) (jg_en 92 σ) 92 0 = some (some (.int (Int32.ofInt z')), jg_en 92 τ, 92, 0) := by
    unfold mj_cf
    dsimp only
    rw [hM]
    dsimp only
    rw [if_pos hl]
    exact h1 92 0
  obtain ⟨d', M1, e1, e2, -, -, hMt⟩ := mj_Ca_run (l := l) (al := false) _ _ _ _ _ _ _ _ _ hcall
  obtain rfl : M = M1 := Option.some.inj (hM.symm.trans e2)
  obtain rfl : d = d' := Nat.succ.inj e1
  have hMt := hMt B t cA D
  unfold mj_Mt at hMt
  have hMok := mj_all_ok M (List.mem_of_getElem? hM)
  obtain ⟨hc1, hc2, hc3, hc4, hc5, hc6, hc7, hc8, -⟩ := hMok
  have he : (mj_ws B t cA (jg_en 92 σ) 92)[0]? = some (B + 0, .inr (11, (jg_fs σ 0 11).map (mj_v B t))) := by
    rw [mj_ws_get (by decide), jg_en_obj (ci := 11) rfl (by decide)]
    rfl
  have hrec := va_recv hK.1 hH.1 (mj_cls_T (show 11 < 12 by decide)) he
  have hC0 : mj_cn 11 = M.2.1.cls := by rw [← h11]; exact hc4
  have up : ∀ {w : Jvm.Cond}, w ∈ mj_gw → w ∈ zj_gw := fun h => List.mem_append_right _ h
  have cw := cwV (own := RL) (index := ix) (C := M.2.1.cls) (y := M.2.1) (bytes := M.2.2.1) (maxL := M.2.2.2.1) (ret := M.2.2.2.2.1) (R := R) (mc := 92 - 92) (ms := 0 - 0) (rm := mj_rm d (92 - 92) (0 - 0)) (ws := Jvm.Cond.code M.2.1 M.2.2.1 M.2.2.2.1 M.2.2.2.2.1 :: mj_gw) (ws' := mj_gw) M.2.2.2.2.2.2.1 hts (zj_good (fun w hw => by
    unfold wsV at hw
    simp only [List.mem_append, List.mem_cons, List.not_mem_nil, or_false] at hw
    rcases hw with (rfl | rfl | rfl | rfl) | rfl | hw
    · exact up hlink
    · exact up hinst
    · exact up hsel
    · exact up hc2
    · exact up hc1
    · exact up hw)) rfl rfl rfl ⟨rfl, hc6, hc7, hc8⟩ (mj_hR hc5 hfr hlo)
  have hpc := mj_pcU (al := false) (sz := 92) (As := .ref 0 :: As) hK hB (fun h => by cases h) hH (zl_S hS)
  have hcat2 : ((rest).map fun v => v.category).sum ≤ 8 := hcat
  have hstk : (F0 m pc ls (As.reverse ++ .ref B :: rest)).stack = (As.map (mj_v B t)).reverse ++ .ref (B + 0) :: rest := by rw [hint]; rfl
  have hrun := va_runV (l := l) (e := e) (below := below) (meth := meth) (locs := locs) (cells := cells) (slots := slots) (H := H) (As := As.map (mj_v B t)) (rest := rest) (b := B + 0) (g := F0 m pc ls (As.reverse ++ .ref B :: rest)) ⟨hx, hb, hml, hown, hts⟩ hMt cw ⟨mj_blind, (by rw [hC0] at hrec; exact hrec), hpc⟩ rfl (by rw [List.length_map]; exact hn) rfl hstk (lv_room hcat2) hdg ⟨hcc, hss⟩
  intro T hT2 X
  obtain ⟨v', s0, t', T', L, h0, X', hL, e3, e4, ⟨hv, hb2, hz, hk⟩, go⟩ := hrun T hT2 X
  cases hv
  rw [h0] at hz hk
  obtain ⟨t2, a1, b1⟩ := kk τ T'.heap (locs ++ L) hC' (by rw [e3]; exact hb2) ⟨Nat.le_trans hS.1 (by rw [e3]; exact hz), fun q h1 h2 => by rw [e3, hk q (Nat.lt_of_lt_of_le h1 hS.1) (fun h => h2 (Or.inl h))]; exact hS.2.1 q h1 h2, fun q hq => (List.mem_append.mp hq).elim (hS.2.2 q) (fun h => Or.inl (hL q h))⟩ (by rw [e3]; exact hz) (fun q h1 h2 => by rw [e3]; exact hk q h1 h2) T' rfl X'
  exact ⟨t2, go t2 a1, b1⟩
/-- an array of ints of the law's own -/
theorem zl_P {w cI n : Nat} {f : Nat → Int32} (hw : H[w]? = some (vp_cell cI (n, .inl f))) : va_P D [] [(w, .inl (cI, n, .inl f))] H := by
  intro k q hk
  match k, hk with
  | 0, hk => cases hk; exact hw
theorem zl_up (f : Nat → Int32) (k : Nat) (v : Int32) : updV (fun j => .int (f j)) k (.int v) = fun j => .int (upd f k v j) :=
  funext fun j => (apply_ite Value.int (j = k) v (f j)).symm
theorem zl_iast {w cI n : Nat} {f : Nat → Int32} {A : Nat → Prop} {H0 : Heap} (hexec : p.tables.exec = Jvm.exec) (hb : c.code = cc) (hK : va_K D [] [(cI, .int)] s) (hw : H[w]? = some (vp_cell cI (n, .inl f))) (hA : A w) (hS : va_S A H0 H locs) {i v : Int32} (hin : vp_in i n) (hdg : decode cc pc = .ok (.iastore, 1))
    (kk : ∀ (H1 : Heap) (locs1 : List Loc), H1[w]? = some (vp_cell cI (n, .inl (upd f i.toNatClampNeg v))) → H1.size = H.size → (∀ q : Nat, q ≠ w → H1[q]? = H[q]?) → va_S A H0 H1 locs1 → W p l e R s m args below meth c H1 locs1 cells slots Q (F0 m (pc + 1) ls rest)) : W p l e R s m args below meth c H locs cells slots Q (F0 m pc ls (.int v :: .int i :: .ref w :: rest)) := by
  refine W.iast hexec hb hw ((hK.2 0 _ rfl).1 n (fun j => .int (f j))) (fun q => by cases q) (by show ¬ (i < 0 ∨ (arrV _ _ _).slots.size ≤ _); rw [arrV_size]; exact hin) rfl rfl hdg fun H1 e z oq => ?_
  refine kk H1 _ ?_ z oq (hS.put z oq hA)
  exact e.trans (congrArg some ((arrV_store cI n _ _ _).trans (congrArg (arrV cI n) (zl_up f _ v))))
end ZLC
