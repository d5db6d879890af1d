/-! THE SIMULATION, 4: the heap's instructions -/
section MJE
variable {p : Program} {l : Launch} {e : Env} {R : Room} {s : State} {m : MethodId} {args : Array Value} {below : List Frame} {meth : Method} {c : Code} {H : Heap} {locs : List Loc} {cells slots : Nat} {Q : State → Prop}
variable {al : Bool} {B t : Nat} {cA : Nat → ClassId} {D : va_G} {M : mj_Inf} {i : Instr} {a b f pc pc' : Nat} {ls : Array Slot} {lst lst' st st' : List Value} {hp hp' : mj_Hp} {sz sl sz' sl' : Nat}
/-- the heap is as large as the pure one, where no exception was made -/
theorem mj_size (hB : B ≤ s.heap.size) (hal : B + sz = s.heap.size + cells) (hH : mj_hd B t cA D hp sz H) (hS : va_S (mj_A B) s.heap H locs) {T : State} (hT : T.heap = H) (X : Stand p l e R s m args below meth c T locs cells slots) : H.size = B + sz := by
  have h1 : T.heap.size ≤ s.heap.size + cells := X.same.2.2.1
  rw [hT] at h1
  have h2 : s.heap.size ≤ H.size := hS.1
  have h3 : B + sz ≤ H.size := by
    rcases Nat.eq_zero_or_pos sz with h0 | h0
    · omega
    · have := (hH.1 (sz - 1) _ (mj_ws_get (by omega))).lt
      dsimp only at this
      omega
  omega
theorem mj_def_v {a k : Nat} : mj_v B t (defaultValue (mj_ty a k)) = defaultValue (mj_ty a k) := by
  cases mj_ty a k <;> rfl
set_option maxHeartbeats 2000000 in
theorem mj_simNew {own : String} {ix : Nat} {st : List Value} (hx : p.tables.exec = Jvm.exec) (hb : c.code = M.2.2.1) (hown : s.vm.findClass own = some m.cls) (hts : ∀ w ∈ mj_gw, w.before args s = true) (hK : mj_K B t cA D s) (hB : B ≤ s.heap.size) (hal : B + sz = s.heap.size + cells)
    (hH : mj_hd B t cA D hp sz H) (hS : va_S (mj_A B) s.heap H locs) (ha : a < 12) (hs9 : sz ≤ 91) (hcl : (Jvm.Cond.classLink own ix (mj_cn a)).before args s = true) (hdg : decode M.2.2.1 pc = .ok (.new ix, 3)) (hr1 : cells + 1 ≤ R.cells) (hr2 : slots + mj_N a ≤ R.slots)
    (kk : ∀ (H' : Heap), mj_hd B t cA D (mj_set hp sz (.inr (a, (List.range (mj_N a)).map (fun k => defaultValue (mj_ty a k))))) (sz + 1) H' → va_S (mj_A B) s.heap H' locs → W p l e R s m args below meth c H' locs (cells + 1) (slots + mj_N a) Q (F0 m (pc + 3) ls ((.ref sz :: st).map (mj_v B t)))) :
    W p l e R s m args below meth c H locs cells slots Q (F0 m pc ls (st.map (mj_v B t))) := by
  have hKn : u_Kn s (mj_cn a) (mj_T a) (mj_N a) (D.1 a) (D.2 a) := hK.1.1 a _ (mj_cls_T ha)
  have hwf := hH.2
  intro T hT X
  have hsz := mj_size hB hal hH hS hT X
  refine W.newcK (C := mj_cn a) (n := mj_N a) (cC := D.1 a) (h := B + sz) hx hb hown hcl (hts (.instantiable (mj_cn a) (mj_N a)) (mj_cls_in ha)) (hts (.initialized (mj_cn a)) (mj_cls_ini ha)) (g := F0 m pc ls (st.map (mj_v B t))) rfl hdg hr1 hr2 hKn.2.1 hsz (fun H1 kC hkC e1 z1 o1 => ?_) T hT X
  have hk : ∀ (k : Nat) (x : Nat × va_E), (mj_ws B t cA hp sz)[k]? = some x → H1[x.1]? = H[x.1]? := fun k x hx => o1 x.1 (by have := (hH.1 k x hx).lt; omega)
  have h5 : t_OB (B + sz) (D.1 a) (mj_N a) (D.2 a) H1 (vp_V (((List.range (mj_N a)).map (fun k => defaultValue (mj_ty a k))).map (mj_v B t))) := by
    refine (u_born (mj_ty a) hts (mj_cls_lay ha) hKn hkC e1 (mj_cls_ty ha)).to (fun j hj => ?_)
    simp [vp_V, List.getD_eq_getElem?_getD, List.getElem?_map, List.getElem?_range hj, mj_def_v]
  have hP1 : va_P D mj_Cl (mj_ws B t cA hp sz ++ [(B + sz, mj_e B t cA (.inr (a, (List.range (mj_N a)).map (fun k => defaultValue (mj_ty a k)))))]) H1 := by
    refine (hH.1.kept hk).app (fun k x hx => ?_)
    have hz : k < 1 := (List.getElem?_eq_some_iff.mp hx).1
    rw [show k = 0 by omega] at hx
    have hx : x = (B + sz, mj_e B t cA (.inr (a, (List.range (mj_N a)).map (fun k => defaultValue (mj_ty a k))))) := (Option.some.inj hx).symm
    rw [hx]
    exact ⟨_, mj_cls_T ha, h5⟩
  rw [mj_ws_push] at hP1
  have k1 := kk H1 ⟨hP1, mj_wf_push hwf hs9⟩ ⟨Nat.le_trans hS.1 (by omega), fun x h1 h2 => (o1 x (by have := hS.1; omega)).trans (hS.2.1 x h1 h2), hS.2.2⟩
  have e5 : mj_v B t (.ref sz) = .ref (B + sz) := by
    show Value.ref (mj_b B t sz) = _
    rw [mj_b_lt (Nat.lt_succ_self sz) (by omega)]
  rw [List.map_cons, e5] at k1
  exact k1
set_option maxHeartbeats 2000000 in
theorem mj_simNewA {ty : ArrayType} {x : Int32} {st : List Value} {ft : FieldType} {tg : Nat} (hx : p.tables.exec = Jvm.exec) (hb : c.code = M.2.2.1) (hts : ∀ w ∈ mj_gw, w.before args s = true) (hK : mj_K B t cA D s) (hB : B ≤ s.heap.size) (hal : B + sz = s.heap.size + cells)
    (hH : mj_hd B t cA D hp sz H) (hS : va_S (mj_A B) s.heap H locs) (hs9 : sz ≤ 91) (h1 : newarray.typeOf ty = ft) (h2 : (mj_tys cA)[tg]? = some (cA tg, ft)) (hRA : ∀ C, va_RA s C ft = (s.vm.findClass ("[" ++ ft.toString) = some C)) (h3 : componentBytes ft ≤ 8)
    (h4 : ∀ C, vp_cell C (x.toNatClampNeg, if tg = 1 then Sum.inr (Sum.inl fun _ => 0) else Sum.inl fun _ => 0) = arrV C x.toNatClampNeg (fun _ => defaultValue ft)) (h5 : Jvm.Cond.arrayClass ft ∈ mj_gw) (hx0 : ¬ x < 0) (hx1 : x.toNatClampNeg ≤ 100000)
    (hdg : decode M.2.2.1 pc = .ok (.newarray ty, 2)) (hr1 : cells + 1 ≤ R.cells) (hr2 : slots + x.toNatClampNeg ≤ R.slots)
    (kk : ∀ (H' : Heap), mj_hd B t cA D (mj_set hp sz (.inl (tg, x.toNatClampNeg, if tg = 1 then .inr (.inl fun _ => 0) else .inl fun _ => 0))) (sz + 1) H' → va_S (mj_A B) s.heap H' locs → W p l e R s m args below meth c H' locs (cells + 1) (slots + x.toNatClampNeg) Q (F0 m (pc + 2) ls ((.ref sz :: st).map (mj_v B t)))) :
    W p l e R s m args below meth c H locs cells slots Q (F0 m pc ls ((.int x :: st).map (mj_v B t))) := by
  have hwf := hH.2
  subst h1
  intro T hT X
  have hsz := mj_size hB hal hH hS hT X
  refine va_newaK (h := B + sz) (N := x.toNatClampNeg) hx hb (hts _ h5) (g := F0 m pc ls (.int x :: st.map (mj_v B t))) rfl hdg rfl hx0 rfl (by
    have := Nat.mul_le_mul hx1 h3
    omega) hr1 hr2 hsz (fun H1 cA1 e1 z1 o1 hAr hNm => ?_) T hT X
  have h8 := (hK.1.2 tg _ h2).2
  dsimp only at h8
  rw [hRA] at h8
  have e9 : cA1 = cA tg := Option.some.inj (hNm.symm.trans h8)
  subst e9
  have hk : ∀ (k : Nat) (x : Nat × va_E), (mj_ws B t cA hp sz)[k]? = some x → H1[x.1]? = H[x.1]? := fun k x hx => o1 x.1 (by have := (hH.1 k x hx).lt; omega)
  have hP1 : va_P D mj_Cl (mj_ws B t cA hp sz ++ [(B + sz, mj_e B t cA (.inl (tg, x.toNatClampNeg, if tg = 1 then .inr (.inl fun _ => 0) else .inl fun _ => 0)))]) H1 := by
    refine (hH.1.kept hk).app (fun k y hy => ?_)
    have hz : k < 1 := (List.getElem?_eq_some_iff.mp hy).1
    rw [show k = 0 by omega] at hy
    have hy : y = (B + sz, mj_e B t cA (.inl (tg, x.toNatClampNeg, if tg = 1 then .inr (.inl fun _ => 0) else .inl fun _ => 0))) := (Option.some.inj hy).symm
    rw [hy]
    show H1[B + sz]? = some (vp_cell (cA tg) (x.toNatClampNeg, if tg = 1 then Sum.inr (Sum.inl fun _ => 0) else Sum.inl fun _ => 0))
    rw [h4]
    exact e1
  rw [mj_ws_push] at hP1
  have k1 := kk H1 ⟨hP1, mj_wf_push hwf hs9⟩ ⟨Nat.le_trans hS.1 (by omega), fun x h1 h2 => (o1 x (by have := hS.1; omega)).trans (hS.2.1 x h1 h2), hS.2.2⟩
  have e5 : mj_v B t (.ref sz) = .ref (B + sz) := by
    show Value.ref (mj_b B t sz) = _
    rw [mj_b_lt (Nat.lt_succ_self sz) (by omega)]
  rw [List.map_cons, e5] at k1
  exact k1
end MJE
