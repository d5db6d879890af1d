/-! THE LAW's STATE; a question, a text -/
def zl_Fr (p : Program) (s : State) (m : MethodId) (args : Array Value) (c : Code) (x : Jvm.Cond) (B t : Nat) (cA : Nat → ClassId) (D : va_G) : Prop := p.tables.exec = Jvm.exec ∧ c.code = code ∧ c.maxLocals = 9 ∧ s.vm.findClass RL = some m.cls ∧ (∀ w ∈ x :: zj_gw, w.before args s = true) ∧ mj_K B t cA D s ∧ B ≤ s.heap.size ∧ zs_C (zl_A B s) s s.heap ∧ zs_Q (zl_A B s) s s.heap
def zl_st (s : State) (B t : Nat) (cA : Nat → ClassId) (D : va_G) (S : kx_S) (H : Heap) (locs : List Loc) : Prop := (∃ σ, kx_C σ S ∧ mj_hd B t cA D (jg_en 92 σ) 92 H) ∧ kx_P S ∧ va_S (zl_A B s) s.heap H locs
def zl_kp (B : Nat) (H H1 : Heap) : Prop := H.size ≤ H1.size ∧ ∀ q : Nat, q < H.size → ¬ mj_A B q → H1[q]? = H[q]?
theorem zl_kp.rf {B : Nat} {H : Heap} : zl_kp B H H := ⟨Nat.le_refl _, fun _ _ _ => rfl⟩
theorem zl_kp.tr {B : Nat} {H H1 H2 : Heap} (h : zl_kp B H H1) (h2 : zl_kp B H1 H2) : zl_kp B H H2 := ⟨Nat.le_trans h.1 h2.1, fun q q1 q2 => (h2.2 q (Nat.lt_of_lt_of_le q1 h.1) q2).trans (h.2 q q1 q2)⟩
theorem kc_z {S S' : kx_S} {d : Nat} {M : mj_Inf} {As : List Value} {z z' : Int} (h : kc_T S d M As z S') (e : z = z') : kc_T S d M As z' S' := e ▸ h
section ZLD
variable {p : Program} {l : Launch} {e : Env} {s : State} {m : MethodId} {args : Array Value} {below : List Frame} {meth : Method} {c : Code} {H : Heap} {locs : List Loc} {cells slots : Nat} {Q : State → Prop}
variable {x : Jvm.Cond} {B t y ix d pc : Nat} {cA : Nat → ClassId} {D : va_G} {M : mj_Inf} {ls : Array Slot} {As rest : List Value} {S S' : kx_S} {z : Int}
theorem zl_d (F : zl_Fr p s m args c x B t cA D) (hst : zl_st s B t cA D S H locs) (hls : ls.size = 9) (hT : kc_T S d M As z S') (hok : zl_ok ix y M) (hn : As.length = M.2.2.2.2.2.2.1) (hint : As.map (mj_v B t) = As) (hl : (mj_flat (.ref 0 :: As)).length ≤ M.2.2.2.1 ∧ mj_lok M.2.2.2.2.2.1 0 (mj_flat (.ref 0 :: As)) = true) (hcat : (rest.map Value.category).sum ≤ 8)
    (hd : d ≤ 20) (hcc : cells ≤ 600086) (hss : slots ≤ 7301442) (hdg : decode code pc = .ok (.invokevirtual ix, 3))
    (kk : ∀ H1 locs1, zl_st s B t cA D S' H1 locs1 → zl_kp B H H1 → W p l e room_1 s m args below meth c H1 locs1 cells slots Q (F0 m (pc + 3) ls (.int (Int32.ofInt z) :: rest))) :
    W p l e room_1 s m args below meth c H locs cells slots Q (F0 m pc ls (As.reverse ++ .ref B :: rest)) := by
  obtain ⟨hx, hb, hml, hown, hts, hK, hB, -, -⟩ := F
  obtain ⟨⟨σ, hC, hH⟩, hP, hS⟩ := hst
  have h20 : 20 + 1 ≤ room_1.frames := Nat.le_of_ble_eq_true rfl
  have h40 : 40 * (20 + 1) ≤ room_1.locals := Nat.le_of_ble_eq_true rfl
  exact zl_call hx hb (hml.trans hls.symm) hown hts hK hB hS hH hC hT hok hn hint hl hcat (by omega) (by omega) hcc hss hdg (fun τ H1 locs1 h1 h2 h3 h4 h5 => kk H1 locs1 ⟨⟨τ, h1, h2⟩, hT.1, h3⟩ ⟨h4, h5⟩)
variable {q v n N rn : Nat} {g : Nat → Int32} {T cn : Nat} {gg : gM} {K : kr_K} {rd tk im F P : Int} {Nn : kn_N} {hh : kz_H} {I : kr_K × Int × Int} {B0 : Nat → Int} {g' : gM} {S9 : jn_Q}
theorem zl_t (Fr : zl_Fr p s m args c x B t cA D) (hst : zl_st s B t cA D ((T, gg), (K, rd, tk), Nn, (cn, hh), (I, im), B0, F, P, 0) H locs) (hls : ls.size = 9) (hF : zs_F (mj_A B) q v n g s H)
    (hn : n < 1000) (hg : ∀ j, j < n → g j = sb_b (zp_b N j)) (hsp : ∀ j, n ≤ j → j < 20 * rn → zp_b N j = 32) (hrn : n ≤ 20 * rn ∧ 20 * rn < n + 20) (h1 : 1 ≤ rn) (hmt : 20 * rn ≤ 700) (ht9 : kt_tx (zp_B N (20 * rn)) n 701 0 kt_g0 0 = .inr (g', z)) (h0 : 0 < g' 0 1) (hS9 : jn_all g' = some S9)
    (hcat : (rest.map Value.category).sum ≤ 8) (hcc : cells + rn ≤ 600086) (hss : slots + 5 * rn ≤ 7301442) (hdg : decode code pc = .ok (.invokestatic 41, 3))
    (kk : ∀ H1 locs1, zl_st s B t cA D ((30 - T, g'), (kr_I g', 0, 0), ((0, -1), Nn.2), (0, hh), (I, 0), zp_B N (20 * rn), 0, -1, 0) H1 locs1 → zl_kp B H H1 → W p l e room_1 s m args below meth c H1 locs1 (cells + rn) (slots + 5 * rn) Q (F0 m (pc + 3) ls (.int (Int32.ofInt z) :: rest))) :
    W p l e room_1 s m args below meth c H locs cells slots Q (F0 m pc ls (.ref q :: .ref B :: rest)) := by
  obtain ⟨hx, hb, hml, hown, hts, hK, hB, hCs, hQs⟩ := Fr
  obtain ⟨⟨σ, hC, hH⟩, hP, hS⟩ := hst
  have hlift : ∀ q, mj_A B q → zl_A B s q := fun q h => Or.inl h
  have hC9 : zs_C (mj_A B) s H := (hCs.kept hS.2.1).narrow hlift
  have hQ9 : zs_Q (mj_A B) s H := (hQs.kept hS.2.1).narrow hlift
  refine va_calli (va_runS (As := [.ref B, .ref q]) (rest := rest) ⟨hx, hb, hml, hown, hts⟩ (zs_text l (sz := H.size) (B0 := B0) (T := T) (gg := gg) (K := K) (rd := rd) (tk := tk) (Nn := Nn) (cn := cn) (hh := hh) (I := I) (im := im) (F := F) (P := P) (t := t) (cA := cA) (D := D) (v := v) hn hg hsp hrn h1 hmt ht9 h0 hS9) (va_cwS (own := RL) 2 hts (zj_good (zj_S (own := RL) (ix := 41) (y := yL_text) (zj_m (q := 5084) (by decide +kernel) rfl) (zj_m (q := 5085) (by decide +kernel) rfl) (zj_m (q := 1000) (by decide +kernel) rfl) (zj_m (q := 5086) (by decide +kernel) rfl))) rfl rfl rfl (by decide +kernel) ⟨Nat.le_of_ble_eq_true rfl, Nat.le_of_ble_eq_true rfl⟩) ⟨fun a U g mk q => ⟨q.1, q.2.1, q.2.2.1, mj_K_blind q.2.2.2.1, q.2.2.2.2.1, zs_C.moved (u := U) (U := U.calling g mk a) (Vm.Alike.refl U.vm) q.2.2.2.2.2.1, zs_Q.moved (u := U) (U := U.calling g mk a) (Vm.Alike.refl U.vm) q.2.2.2.2.2.2.1, zs_F.moved (u := U) (U := U.calling g mk a) (Vm.Alike.refl U.vm) q.2.2.2.2.2.2.2⟩, fun U hU hW => ⟨rfl, by rw [hU], ⟨σ, hC, hP, by rw [hU]; exact hH⟩, mj_K_warm hK hW (by rw [hU]; exact zl_S hS), by rw [hU]; exact Nat.le_trans hB hS.1, by rw [hU]; exact hC9.moved hW.alike, by rw [hU]; exact hQ9.moved hW.alike, by rw [hU]; exact hF.moved hW.alike⟩⟩ rfl rfl hls rfl (lv_room hcat) hdg ⟨hcc, hss⟩) hS (fun q _ h => Or.inl h) (fun q h => h.elim Or.inl (fun h => Or.inr (Nat.le_trans hS.1 h))) (fun r_ u_ t_ H1 locs1 ht hvm hw hB1 hz1 hk1 hS1 => ?_)
  obtain ⟨τ, hC1, hP1, hH1⟩ := hB1
  rw [hw]
  exact kk H1 locs1 ⟨⟨τ, hC1, by rw [← ht]; exact hH1⟩, hP1, hS1⟩ ⟨hz1, hk1⟩
end ZLD
