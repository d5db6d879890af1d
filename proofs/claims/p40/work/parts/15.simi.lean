/-! THE SIMULATION, 8: calls by their kinds; runs -/
section MJI
variable {p : Program} {l : Launch} {e : Env} {R : Room} {s : State} {m : MethodId} {args : Array Value} {below : List Frame} {meth : Method} {c : Code} {H : Heap} {locs : List Loc} {cells slots : Nat} {Q : State → Prop}
variable {al : Bool} {B t : Nat} {cA : Nat → ClassId} {D : va_G} {M M1 : mj_Inf} {i : Instr} {a b f pc pc' d : Nat} {ls : Array Slot} {lst lst' st st' : List Value} {hp hp' : mj_Hp} {sz sl sz' sl' : Nat}
abbrev mj_Cof (a : Nat) : Nat := match mj_ms[a]? with | some M1 => M1.1 | none => 0
abbrev mj_nof (a : Nat) : Nat := match mj_ms[a]? with | some M1 => M1.2.2.2.2.2.2.1 | none => 0
theorem mj_ml_q {q : Nat × Nat × Nat × Nat × Nat} {f own ix a k : Nat} (h : mj_ml[f]? = some q) (h1 : q.1 = own) (h2 : q.2.1 = ix) (h3 : q.2.2.1 = a) (h4 : q.2.2.2.1 = k) : mj_CK own ix a k := by
  obtain ⟨g1, g2⟩ := mj_ml_all q (List.mem_of_getElem? h)
  have := mj_CK_of g1 g2
  rwa [h1, h2, h3, h4] at this
theorem mj_rkV {ix : Nat} (h : mj_rk M (pc, .invokevirtual ix, a, b, f) = true) : b = 0 ∧ mj_CK M.1 ix a 0 := by
  unfold mj_rk at h
  dsimp only at h
  split at h
  · rename_i q hq
    simp only [Bool.and_eq_true, Nat.beq_eq] at h
    obtain ⟨⟨⟨⟨h1, h2⟩, h3⟩, h4⟩, h5⟩ := h
    exact ⟨h5, mj_ml_q hq h1 h2 h3 (h4.trans h5)⟩
  · cases h
theorem mj_rkS {ix : Nat} (h : mj_rk M (pc, .invokestatic ix, a, b, f) = true) : ((b = 1 ∨ b = 2 ∨ b = 8 ∨ b = 9) ∧ mj_CK M.1 ix a b) ∨ ((b = 6 ∨ b = 7) ∧ mj_CK M.1 ix a 6) := by
  unfold mj_rk at h
  dsimp only at h
  split at h
  · rename_i q hq
    simp only [Bool.and_eq_true, Bool.or_eq_true, Nat.beq_eq] at h
    obtain ⟨⟨⟨h1, h2⟩, h3⟩, h4⟩ := h
    rcases h4 with ⟨h4, h5⟩ | ⟨h4, h5⟩
    · exact Or.inl ⟨by rcases h5 with ((h5 | h5) | h5) | h5 <;> simp [h5], mj_ml_q hq h1 h2 h3 h4⟩
    · exact Or.inr ⟨h5, mj_ml_q hq h1 h2 h3 h4⟩
  · cases h
theorem mj_rkI {ix : Nat} (h : mj_rk M (pc, .invokespecial ix, a, b, f) = true) : (b = 3 ∨ b = 4 ∨ b = 5) ∧ mj_CK M.1 ix a b := by
  unfold mj_rk at h
  dsimp only at h
  split at h
  · rename_i q hq
    simp only [Bool.and_eq_true, Bool.or_eq_true, Nat.beq_eq] at h
    obtain ⟨⟨⟨⟨h1, h2⟩, h3⟩, h4⟩, h5⟩ := h
    exact ⟨by rcases h5 with (h5 | h5) | h5 <;> simp [h5], mj_ml_q hq h1 h2 h3 h4⟩
  · cases h
theorem mj_stE0 {call : Nat → List Value → mj_Hp → Nat → Nat → Option mj_Res} {C n : Nat} : mj_stE call d C n a 0 pc lst st hp sz sl = (match mj_pop n [] st with
    | some (As, .ref r :: st) => (match hp r with
      | .inr (ci, _) => if ci = C ∧ (st.map Value.category).sum ≤ 8 then (match call a (.ref r :: As) hp sz sl with
        | some (v, hp, sz, sl) => mj_nx (pc + 3) lst (v.toList ++ st) hp sz sl
        | none => none) else none
      | _ => none)
    | _ => none) := rfl
theorem mj_stE1 {call : Nat → List Value → mj_Hp → Nat → Nat → Option mj_Res} {C n : Nat} : mj_stE call d C n a 1 pc lst st hp sz sl = (match mj_pop n [] st with
    | some (As, st) => if (st.map Value.category).sum ≤ 8 then (match call a As hp sz sl with
      | some (v, hp, sz, sl) => mj_nx (pc + 3) lst (v.toList ++ st) hp sz sl
      | none => none) else none
    | _ => none) := rfl
theorem mj_stE2 {call : Nat → List Value → mj_Hp → Nat → Nat → Option mj_Res} {C n : Nat} : mj_stE call d C n a 2 pc lst st hp sz sl = (match mj_pop n [] st with
    | some (As, st) => if (st.map Value.category).sum ≤ 8 then (match call a As hp sz sl with
      | some (v, hp, sz, sl) => mj_nx (pc + 3) lst (v.toList ++ st) hp sz sl
      | none => none) else none
    | _ => none) := rfl
theorem mj_stE3 {call : Nat → List Value → mj_Hp → Nat → Nat → Option mj_Res} {C n : Nat} : mj_stE call d C n a 3 pc lst st hp sz sl = (match mj_pop n [] st with
    | some (As, .ref r :: st) => if (st.map Value.category).sum ≤ 8 then (match call a (.ref r :: As) hp sz sl with
      | some (v, hp, sz, sl) => mj_nx (pc + 3) lst (v.toList ++ st) hp sz sl
      | none => none) else none
    | _ => none) := rfl
theorem mj_stE4 {call : Nat → List Value → mj_Hp → Nat → Nat → Option mj_Res} {C n : Nat} : mj_stE call d C n a 4 pc lst st hp sz sl = (match mj_pop n [] st with
    | some (As, .ref r :: st) => if (st.map Value.category).sum ≤ 8 then (match call a (.ref r :: As) hp sz sl with
      | some (v, hp, sz, sl) => mj_nx (pc + 3) lst (v.toList ++ st) hp sz sl
      | none => none) else none
    | _ => none) := rfl
theorem mj_stE5 {call : Nat → List Value → mj_Hp → Nat → Nat → Option mj_Res} {C n : Nat} : mj_stE call d C n a 5 pc lst st hp sz sl = (match d, st with
    | _ + 1, .ref _ :: st => if (st.map Value.category).sum ≤ 8 then mj_nx (pc + 3) lst st hp sz sl else none
    | _, _ => none) := rfl
theorem mj_stE6 {call : Nat → List Value → mj_Hp → Nat → Nat → Option mj_Res} {C n : Nat} : mj_stE call d C n a 6 pc lst st hp sz sl = (match d, st with
    | _ + 1, .int m :: .int dp :: .ref r1 :: .int sp :: .ref r0 :: st => (match hp r0, hp r1 with
      | .inl (t0, n0, .inl f), .inl (t1, n1, .inl g) => if t0 = 0 ∧ t1 = 0 ∧ ¬ sp < 0 ∧ ¬ dp < 0 ∧ ¬ m < 0 ∧ sp.toNatClampNeg + m.toNatClampNeg ≤ n0 ∧ dp.toNatClampNeg + m.toNatClampNeg ≤ n1 ∧ (st.map Value.category).sum ≤ 8 then mj_nx (pc + 3) lst st (mj_set hp r1 (.inl (t1, n1, .inl (va_cpy f g sp.toNatClampNeg dp.toNatClampNeg m.toNatClampNeg)))) sz sl else none
      | _, _ => none)
    | _, _ => none) := rfl
theorem mj_stE7 {call : Nat → List Value → mj_Hp → Nat → Nat → Option mj_Res} {C n : Nat} : mj_stE call d C n a 7 pc lst st hp sz sl = (match d, st with
    | _ + 1, .int m :: .int dp :: .ref r1 :: .int sp :: .ref r0 :: st => (match hp r0, hp r1 with
      | .inl (t0, n0, .inr (.inl f)), .inl (t1, n1, .inr (.inl g)) => if t0 = 1 ∧ t1 = 1 ∧ ¬ sp < 0 ∧ ¬ dp < 0 ∧ ¬ m < 0 ∧ sp.toNatClampNeg + m.toNatClampNeg ≤ n0 ∧ dp.toNatClampNeg + m.toNatClampNeg ≤ n1 ∧ (st.map Value.category).sum ≤ 8 then mj_nx (pc + 3) lst st (mj_set hp r1 (.inl (t1, n1, .inr (.inl (va_cpy f g sp.toNatClampNeg dp.toNatClampNeg m.toNatClampNeg))))) sz sl else none
      | _, _ => none)
    | _, _ => none) := rfl
theorem mj_stE8 {call : Nat → List Value → mj_Hp → Nat → Nat → Option mj_Res} {C n : Nat} : mj_stE call d C n a 8 pc lst st hp sz sl = (match d, st with
    | _ + 1, .int y :: .int x :: st => if (st.map Value.category).sum ≤ 8 then mj_nx (pc + 3) lst (.int (if x < y then y else x) :: st) hp sz sl else none
    | _, _ => none) := rfl
theorem mj_stE9 {call : Nat → List Value → mj_Hp → Nat → Nat → Option mj_Res} {C n : Nat} : mj_stE call d C n a 9 pc lst st hp sz sl = (match d, st with
    | _ + 1, .int y :: .int x :: st => if (st.map Value.category).sum ≤ 8 then mj_nx (pc + 3) lst (.int (if y < x then y else x) :: st) hp sz sl else none
    | _, _ => none) := rfl
theorem mj_stE_mono {call : Nat → List Value → mj_Hp → Nat → Nat → Option mj_Res} {C n : Nat} (hc : ∀ (y : Nat) (As : List Value) (hp : mj_Hp) (sz sl : Nat) (v : Option Value) (hp' : mj_Hp) (sz' sl' : Nat), call y As hp sz sl = some (v, hp', sz', sl') → sz ≤ sz' ∧ sl ≤ sl')
    (h : mj_stE call d C n a b pc lst st hp sz sl = some (.inl (pc', lst', st', hp', sz', sl'))) : sz ≤ sz' ∧ sl ≤ sl' := by
  unfold mj_stE at h
  split at h
  · split at h
    · split at h
      · cases h; exact ⟨Nat.le_refl _, Nat.le_refl _⟩
      · cases h
    · cases h
  · split at h
    · split at h
      · split at h
        · cases h; exact ⟨Nat.le_refl _, Nat.le_refl _⟩
        · cases h
      · cases h
    · cases h
  · split at h
    · split at h
      · split at h
        · cases h; exact ⟨Nat.le_refl _, Nat.le_refl _⟩
        · cases h
      · cases h
    · cases h
  · split at h
    · split at h
      · cases h; exact ⟨Nat.le_refl _, Nat.le_refl _⟩
      · cases h
    · cases h
  · split at h
    · split at h
      · cases h; exact ⟨Nat.le_refl _, Nat.le_refl _⟩
      · cases h
    · cases h
  · split at h
    · split at h
      · split at h
        · split at h
          · rename_i hq; cases h; exact hc _ _ _ _ _ _ _ _ _ hq
          · cases h
        · cases h
      · cases h
    · cases h
  · split at h
    · split at h
      · split at h
        · rename_i hq; cases h; exact hc _ _ _ _ _ _ _ _ _ hq
        · cases h
      · cases h
    · cases h
  · split at h
    · split at h
      · split at h
        · rename_i hq; cases h; exact hc _ _ _ _ _ _ _ _ _ hq
        · cases h
      · cases h
    · cases h
  · split at h
    · split at h
      · split at h
        · rename_i hq; cases h; exact hc _ _ _ _ _ _ _ _ _ hq
        · cases h
      · cases h
    · cases h
  · split at h
    · split at h
      · split at h
        · rename_i hq; cases h; exact hc _ _ _ _ _ _ _ _ _ hq
        · cases h
      · cases h
    · cases h
  · cases h
set_option maxHeartbeats 4000000 in
theorem mj_simE {call : Nat → List Value → mj_Hp → Nat → Nat → Option mj_Res} (F : mj_Fr p s m args c M) (hK : mj_K B t cA D s) (hB : B ≤ s.heap.size) (hal : al = true → B + sz = s.heap.size + cells) (hH : mj_hd B t cA D hp sz H) (hS : va_S (mj_A B) s.heap H locs) (hls : ls.size = M.2.2.2.1)
    (hg : mj_grp i = 4) (hdg : decode M.2.2.1 pc = .ok (i, mj_len i b)) (hrk : mj_rk M (pc, i, a, b, f) = true) (hCa : mj_Ca l al call d) (hfr : d ≤ R.frames) (hlo : 40 * d ≤ R.locals) (hroom : cells + (sz' - sz) ≤ R.cells ∧ slots + (sl' - sl) ≤ R.slots)
    (h : mj_stE call d (mj_Cof a) (mj_nof a) a b pc lst st hp sz sl = some (.inl (pc', lst', st', hp', sz', sl')))
    (kk : ∀ H1 locs1, mj_hd B t cA D hp' sz' H1 → va_S (mj_A B) s.heap H1 locs1 → lst' = lst → W p l e R s m args below meth c H1 locs1 (cells + (sz' - sz)) (slots + (sl' - sl)) Q (F0 m pc' ls (st'.map (mj_v B t)))) :
    W p l e R s m args below meth c H locs cells slots Q (F0 m pc ls (st.map (mj_v B t))) := by
  have F0' := F
  obtain ⟨hx, hb, hml, hown, hts⟩ := F
  have hwf := hH.2
  cases i with
  | invokevirtual ix =>
    obtain ⟨rfl, M1, hM1, w1, w2, w3, w4⟩ := mj_rkV hrk
    first | rw [mj_stE0] at h | rw [mj_stE1] at h | rw [mj_stE2] at h | rw [mj_stE3] at h | rw [mj_stE4] at h | rw [mj_stE5] at h | rw [mj_stE6] at h | rw [mj_stE7] at h | rw [mj_stE8] at h | rw [mj_stE9] at h
    split at h
    · rename_i As r st0 hpop
      obtain ⟨e1, e2⟩ := mj_pop_st hpop
      split at h
      · rename_i ci fs hr
        split at h
        · rename_i hc
          split at h
          · rename_i v hp1 sz1 sl1 hcall
            cases h
            obtain ⟨d', M2, hd, hM2, z1, z2, hMt⟩ := hCa _ _ _ _ _ _ _ _ _ hcall
            cases hM1.symm.trans hM2
            subst hd
            rw [e1]
            refine mj_sV F0' hK hB hal hH hS hls hdg hfr hlo (mj_all_ok _ (List.mem_of_getElem? hM1)) (hMt B t cA D) w1 w2 w3 w4 (fs := fs) ?_ ?_ hc.2 hroom (fun H1 locs1 h1 h2 => kk H1 locs1 h1 h2 rfl)
            · rw [hr, hc.1]
              simp only [mj_Cof, hM1]
            · rw [e2]
              simp only [mj_nof, hM1]
          · cases h
        · cases h
      · cases h
    · cases h
  | invokestatic ix =>
    rcases mj_rkS hrk with ⟨hb1, hck⟩ | ⟨hb1, hck⟩
    · rcases hb1 with rfl | rfl | rfl | rfl
      · obtain ⟨M1, hM1, w1, w2⟩ := hck
        first | rw [mj_stE0] at h | rw [mj_stE1] at h | rw [mj_stE2] at h | rw [mj_stE3] at h | rw [mj_stE4] at h | rw [mj_stE5] at h | rw [mj_stE6] at h | rw [mj_stE7] at h | rw [mj_stE8] at h | rw [mj_stE9] at h
        split at h
        · rename_i As st0 hpop
          obtain ⟨e1, e2⟩ := mj_pop_st hpop
          split at h
          · rename_i hc
            split at h
            · rename_i v hp1 sz1 sl1 hcall
              cases h
              obtain ⟨d', M2, hd, hM2, z1, z2, hMt⟩ := hCa _ _ _ _ _ _ _ _ _ hcall
              cases hM1.symm.trans hM2
              subst hd
              rw [e1]
              exact mj_sS F0' hK hB hal hH hS hls hdg hfr hlo (mj_all_ok _ (List.mem_of_getElem? hM1)) (hMt B t cA D) (Or.inl w1) w2 (by rw [e2]; simp only [mj_nof, hM1]) hc hroom (fun H1 locs1 h1 h2 => kk H1 locs1 h1 h2 rfl)
            · cases h
          · cases h
        · cases h
      · obtain ⟨M1, hM1, w1, w2⟩ := hck
        first | rw [mj_stE0] at h | rw [mj_stE1] at h | rw [mj_stE2] at h | rw [mj_stE3] at h | rw [mj_stE4] at h | rw [mj_stE5] at h | rw [mj_stE6] at h | rw [mj_stE7] at h | rw [mj_stE8] at h | rw [mj_stE9] at h
        split at h
        · rename_i As st0 hpop
          obtain ⟨e1, e2⟩ := mj_pop_st hpop
          split at h
          · rename_i hc
            split at h
            · rename_i v hp1 sz1 sl1 hcall
              cases h
              obtain ⟨d', M2, hd, hM2, z1, z2, hMt⟩ := hCa _ _ _ _ _ _ _ _ _ hcall
              cases hM1.symm.trans hM2
              subst hd
              rw [e1]
              exact mj_sS F0' hK hB hal hH hS hls hdg hfr hlo (mj_all_ok _ (List.mem_of_getElem? hM1)) (hMt B t cA D) (Or.inr w1) w2 (by rw [e2]; simp only [mj_nof, hM1]) hc hroom (fun H1 locs1 h1 h2 => kk H1 locs1 h1 h2 rfl)
            · cases h
          · cases h
        · cases h
      · first | rw [mj_stE0] at h | rw [mj_stE1] at h | rw [mj_stE2] at h | rw [mj_stE3] at h | rw [mj_stE4] at h | rw [mj_stE5] at h | rw [mj_stE6] at h | rw [mj_stE7] at h | rw [mj_stE8] at h | rw [mj_stE9] at h
        split at h
        · rename_i d' y x st0
          split at h
          · rename_i hc
            cases h
            have k1 := kk H locs hH hS rfl
            rw [Nat.sub_self, Nat.sub_self] at k1 hroom
            exact va_mmax hx hb (hml.trans hls.symm) hown (hts _ hck) (hts _ (mj_gw_of mj_x_smax rfl)) (hts _ (mj_gw_of mj_x_math rfl)) (hts _ (mj_gw_of mj_x_cmax rfl)) (by omega) (by rw [mj_cats]; omega) hroom.1 hroom.2 hdg k1
          · cases h
        · cases h
      · first | rw [mj_stE0] at h | rw [mj_stE1] at h | rw [mj_stE2] at h | rw [mj_stE3] at h | rw [mj_stE4] at h | rw [mj_stE5] at h | rw [mj_stE6] at h | rw [mj_stE7] at h | rw [mj_stE8] at h | rw [mj_stE9] at h
        split at h
        · rename_i d' y x st0
          split at h
          · rename_i hc
            cases h
            have k1 := kk H locs hH hS rfl
            rw [Nat.sub_self, Nat.sub_self] at k1 hroom
            exact va_mmin hx hb (hml.trans hls.symm) hown (hts _ hck) (hts _ (mj_gw_of mj_x_smin rfl)) (hts _ (mj_gw_of mj_x_math rfl)) (hts _ (mj_gw_of mj_x_cmin rfl)) (by omega) (by rw [mj_cats]; omega) hroom.1 hroom.2 hdg k1
          · cases h
        · cases h
    · have hnf : nativeFrameWords "java/lang/System" "arraycopy" 5 = 7 := by decide +kernel
      rcases hb1 with rfl | rfl
      · first | rw [mj_stE0] at h | rw [mj_stE1] at h | rw [mj_stE2] at h | rw [mj_stE3] at h | rw [mj_stE4] at h | rw [mj_stE5] at h | rw [mj_stE6] at h | rw [mj_stE7] at h | rw [mj_stE8] at h | rw [mj_stE9] at h
        split at h
        · rename_i d' mm dp r1 sp r0 st0
          split at h
          · rename_i t0 n0 f0 t1 n1 g1 hr0 hr1
            split at h
            · rename_i hc
              cases h
              obtain ⟨c1, c2, c3, c4, c5, c6, c7, c8⟩ := hc
              subst c1; subst c2
              have q0 := mj_wf_arr hwf hr0 (by omega)
              have q1 := mj_wf_arr hwf hr1 (by omega)
              have he0 : (mj_ws B t cA hp sz)[r0]? = some (B + r0, .inl (cA 0, n0, .inl f0)) := by rw [mj_ws_get q0, hr0]; rfl
              have he1 : (mj_ws B t cA hp sz)[r1]? = some (B + r1, .inl (cA 0, n1, .inl g1)) := by rw [mj_ws_get q1, hr1]; rfl
              show W p l e R s m args below meth c H locs cells slots Q (F0 m pc ls (.int mm :: .int dp :: .ref (mj_b B t r1) :: .int sp :: .ref (mj_b B t r0) :: st'.map (mj_v B t)))
              rw [mj_b_lt q1 hwf.1, mj_b_lt q0 hwf.1]
              refine va_copyi hx hb (hml.trans hls.symm) hown (hts _ hck) (hts _ (mj_gw_of mj_x_nat rfl)) (hts _ (mj_gw_of mj_x_stat rfl)) (hts _ (mj_gw_of mj_x_sys rfl)) hK.1 hH.1 (mj_D hH.2.1) hS r0 r1 0 0 he0 he1 rfl rfl rfl c3 c4 c5 c6 c7 (fun _ _ => rfl) (by omega) (by rw [mj_cats, hnf]; omega) hdg (fun H1 locs1 hP1 _ hS1 => ?_)
              have e9 : ((B + r1, Sum.inl (cA 0, n1, Sum.inl (va_cpy f0 g1 sp.toNatClampNeg dp.toNatClampNeg mm.toNatClampNeg))) : Nat × va_E) = (B + r1, mj_e B t cA (.inl (0, n1, .inl (va_cpy f0 g1 sp.toNatClampNeg dp.toNatClampNeg mm.toNatClampNeg)))) := rfl
              rw [e9, mj_ws_set _ q1] at hP1
              have k1 := kk H1 locs1 ⟨hP1, mj_wf_set hwf q1⟩ hS1 rfl
              rwa [Nat.sub_self, Nat.sub_self] at k1
            · cases h
          · cases h
        · cases h
      · first | rw [mj_stE0] at h | rw [mj_stE1] at h | rw [mj_stE2] at h | rw [mj_stE3] at h | rw [mj_stE4] at h | rw [mj_stE5] at h | rw [mj_stE6] at h | rw [mj_stE7] at h | rw [mj_stE8] at h | rw [mj_stE9] at h
        split at h
        · rename_i d' mm dp r1 sp r0 st0
          split at h
          · rename_i t0 n0 f0 t1 n1 g1 hr0 hr1
            split at h
            · rename_i hc
              cases h
              obtain ⟨c1, c2, c3, c4, c5, c6, c7, c8⟩ := hc
              subst c1; subst c2
              have q0 := mj_wf_arr hwf hr0 (by omega)
              have q1 := mj_wf_arr hwf hr1 (by omega)
              have he0 : (mj_ws B t cA hp sz)[r0]? = some (B + r0, .inl (cA 1, n0, .inr (.inl f0))) := by rw [mj_ws_get q0, hr0]; rfl
              have he1 : (mj_ws B t cA hp sz)[r1]? = some (B + r1, .inl (cA 1, n1, .inr (.inl g1))) := by rw [mj_ws_get q1, hr1]; rfl
              show W p l e R s m args below meth c H locs cells slots Q (F0 m pc ls (.int mm :: .int dp :: .ref (mj_b B t r1) :: .int sp :: .ref (mj_b B t r0) :: st'.map (mj_v B t)))
              rw [mj_b_lt q1 hwf.1, mj_b_lt q0 hwf.1]
              refine va_copyl hx hb (hml.trans hls.symm) hown (hts _ hck) (hts _ (mj_gw_of mj_x_nat rfl)) (hts _ (mj_gw_of mj_x_stat rfl)) (hts _ (mj_gw_of mj_x_sys rfl)) hK.1 hH.1 (mj_D hH.2.1) hS r0 r1 1 1 he0 he1 rfl rfl rfl c3 c4 c5 c6 c7 (fun _ _ => rfl) (by omega) (by rw [mj_cats, hnf]; omega) hdg (fun H1 locs1 hP1 _ hS1 => ?_)
              have e9 : ((B + r1, Sum.inl (cA 1, n1, Sum.inr (Sum.inl (va_cpy f0 g1 sp.toNatClampNeg dp.toNatClampNeg mm.toNatClampNeg)))) : Nat × va_E) = (B + r1, mj_e B t cA (.inl (1, n1, .inr (.inl (va_cpy f0 g1 sp.toNatClampNeg dp.toNatClampNeg mm.toNatClampNeg))))) := rfl
              rw [e9, mj_ws_set _ q1] at hP1
              have k1 := kk H1 locs1 ⟨hP1, mj_wf_set hwf q1⟩ hS1 rfl
              rwa [Nat.sub_self, Nat.sub_self] at k1
            · cases h
          · cases h
        · cases h
  | invokespecial ix =>
    obtain ⟨hb1, hck⟩ := mj_rkI hrk
    rcases hb1 with rfl | rfl | rfl
    · obtain ⟨M1, hM1, w1, w2, w3, w4⟩ := hck
      first | rw [mj_stE0] at h | rw [mj_stE1] at h | rw [mj_stE2] at h | rw [mj_stE3] at h | rw [mj_stE4] at h | rw [mj_stE5] at h | rw [mj_stE6] at h | rw [mj_stE7] at h | rw [mj_stE8] at h | rw [mj_stE9] at h
      split at h
      · rename_i As r st0 hpop
        obtain ⟨e1, e2⟩ := mj_pop_st hpop
        split at h
        · rename_i hc
          split at h
          · rename_i v hp1 sz1 sl1 hcall
            cases h
            obtain ⟨d', M2, hd, hM2, z1, z2, hMt⟩ := hCa _ _ _ _ _ _ _ _ _ hcall
            cases hM1.symm.trans hM2
            subst hd
            rw [e1]
            exact mj_sI F0' hK hB hal hH hS hls hdg hfr hlo (mj_all_ok _ (List.mem_of_getElem? hM1)) (hMt B t cA D) (Or.inl w1) w2 w3 w4 (by rw [e2]; simp only [mj_nof, hM1]) hc hroom (fun H1 locs1 h1 h2 => kk H1 locs1 h1 h2 rfl)
          · cases h
        · cases h
      · cases h
    · obtain ⟨M1, hM1, w1, w2, w3, w4⟩ := hck
      first | rw [mj_stE0] at h | rw [mj_stE1] at h | rw [mj_stE2] at h | rw [mj_stE3] at h | rw [mj_stE4] at h | rw [mj_stE5] at h | rw [mj_stE6] at h | rw [mj_stE7] at h | rw [mj_stE8] at h | rw [mj_stE9] at h
      split at h
      · rename_i As r st0 hpop
        obtain ⟨e1, e2⟩ := mj_pop_st hpop
        split at h
        · rename_i hc
          split at h
          · rename_i v hp1 sz1 sl1 hcall
            cases h
            obtain ⟨d', M2, hd, hM2, z1, z2, hMt⟩ := hCa _ _ _ _ _ _ _ _ _ hcall
            cases hM1.symm.trans hM2
            subst hd
            rw [e1]
            exact mj_sI F0' hK hB hal hH hS hls hdg hfr hlo (mj_all_ok _ (List.mem_of_getElem? hM1)) (hMt B t cA D) (Or.inr w1) w2 w3 w4 (by rw [e2]; simp only [mj_nof, hM1]) hc hroom (fun H1 locs1 h1 h2 => kk H1 locs1 h1 h2 rfl)
          · cases h
        · cases h
      · cases h
    · first | rw [mj_stE0] at h | rw [mj_stE1] at h | rw [mj_stE2] at h | rw [mj_stE3] at h | rw [mj_stE4] at h | rw [mj_stE5] at h | rw [mj_stE6] at h | rw [mj_stE7] at h | rw [mj_stE8] at h | rw [mj_stE9] at h
      split at h
      · rename_i d' r st0
        split at h
        · rename_i hc
          cases h
          have k1 := kk H locs hH hS rfl
          rw [Nat.sub_self, Nat.sub_self] at k1
          exact W.objInit hx hb hown (hts _ hck) (hts _ (mj_gw_of mj_x_oi rfl)) (hts _ (mj_gw_of mj_x_oc rfl)) rfl (hls.trans hml.symm) rfl hdg (by omega) (by show 2 * 0 + _ + 12 ≤ _; rw [mj_cats]; omega) k1
        · cases h
      · cases h
  | _ => cases hg
end MJI
