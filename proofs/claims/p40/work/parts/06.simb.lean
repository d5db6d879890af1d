/-! THE SIMULATION, 2: constants, locals, numbers, jumps -/
section MJB
variable {p : Program} {l : Launch} {e : Env} {R : Room} {s : State} {m : MethodId} {args : Array Value} {below : List Frame} {meth : Method} {c : Code} {H : Heap} {locs : List Loc} {cells slots : Nat} {Q : State → Prop}
variable {B t : Nat} {M : mj_Inf} {i : Instr} {a b f pc pc' : Nat} {ls : Array Slot} {lst lst' st st' : List Value} {hp hp' : mj_Hp} {sz sl sz' sl' : Nat} {ret : Option FieldType}
theorem mj_gw_of {w : Jvm.Cond} {q : Nat} (h : mj_w q w = true) (hg : goodWord w = true) : w ∈ mj_gw := by
  refine List.mem_filter.mpr ⟨?_, hg⟩
  have h1 := of_decide_eq_true h
  have h2 : w ∈ mj_tb (q / 1000) := List.mem_of_getElem? h1
  have h3 : ∀ L : List Jvm.Cond, (∀ x ∈ [k2_sels lw_privs, tables_1_1, tables_1_2, tables_1_3, tables_1_4, tables_1_5, tables_1_6, tables_1_7], ∀ w ∈ x, w ∈ L) → mj_tb (q / 1000) ⊆ L := by
    intro L hL w hw
    unfold mj_tb at hw
    rw [List.getD_eq_getElem?_getD] at hw
    cases hq : ([k2_sels lw_privs, tables_1_1, tables_1_2, tables_1_3, tables_1_4, tables_1_5, tables_1_6, tables_1_7] : List (List Jvm.Cond))[q / 1000]? with
    | none => rw [hq] at hw; cases hw
    | some x => rw [hq] at hw; exact hL x (List.mem_of_getElem? hq) w hw
  refine h3 lw_tbl ?_ h2
  intro x hx w hw
  unfold lw_tbl tables_1
  simp only [List.mem_cons, List.not_mem_nil, or_false] at hx
  simp only [List.mem_append]
  rcases hx with rfl | rfl | rfl | rfl | rfl | rfl | rfl | rfl <;> simp [hw]
/-- the frame's own facts -/
def mj_Fr (p : Program) (s : State) (m : MethodId) (args : Array Value) (c : Code) (M : mj_Inf) : Prop := p.tables.exec = Jvm.exec ∧ c.code = M.2.2.1 ∧ c.maxLocals = M.2.2.2.1 ∧ s.vm.findClass (mj_cn M.1) = some m.cls ∧ ∀ w ∈ mj_gw, w.before args s = true
theorem mj_simA (F : mj_Fr p s m args c M) (hdg : decode M.2.2.1 pc = .ok (i, mj_len i b)) (hrk : mj_rk M (pc, i, a, b, f) = true) (L : mj_LV B t M ls lst)
    (h : mj_stA i a pc lst st hp sz sl = some (.inl (pc', lst', st', hp', sz', sl')))
    (kk : hp' = hp → sz' = sz → sl' = sl → ∀ ls', mj_LV B t M ls' lst' → W p l e R s m args below meth c H locs cells slots Q (F0 m pc' ls' (st'.map (mj_v B t)))) :
    W p l e R s m args below meth c H locs cells slots Q (F0 m pc ls (st.map (mj_v B t))) := by
  obtain ⟨hx, hb, -, hown, hts⟩ := F
  unfold mj_stA at h
  split at h
  · cases h
    exact lv_iconst hx hb hdg rfl (kk rfl rfl rfl _ L)
  · cases h
    exact lv_bipush hx hb hdg (of_decide_eq_true hrk) (kk rfl rfl rfl _ L)
  · cases h
    exact lv_sipush hx hb hdg (of_decide_eq_true hrk) (kk rfl rfl rfl _ L)
  · cases h
    exact lv_ldc hx hb hown (hts _ (mj_gw_of hrk rfl)) hdg (kk rfl rfl rfl _ L)
  · cases h
    exact lv_ldcw hx hb hown (hts _ (mj_gw_of hrk rfl)) hdg (kk rfl rfl rfl _ L)
  · cases h
    exact lv_ldc2 hx hb hown (hts _ (mj_gw_of hrk rfl)) hdg (kk rfl rfl rfl _ L)
  · cases h
    exact lv_lconst hx hb hdg rfl (kk rfl rfl rfl _ L)
  · cases h
    exact lv_null hx hb hdg (kk rfl rfl rfl _ L)
  · split at h
    · rename_i hk
      cases h
      exact lv_iload_n hx hb hdg rfl (mj_LV_get L hk rfl) (kk rfl rfl rfl _ L)
    · cases h
  · split at h
    · rename_i hk
      cases h
      exact lv_iload hx hb hdg (mj_LV_get L hk rfl) (kk rfl rfl rfl _ L)
    · cases h
  · split at h
    · rename_i hk
      cases h
      exact lv_lload_n hx hb hdg rfl (mj_LV_get L hk rfl) (kk rfl rfl rfl _ L)
    · cases h
  · split at h
    · rename_i hk
      cases h
      exact lv_lload hx hb hdg (mj_LV_get L hk rfl) (kk rfl rfl rfl _ L)
    · cases h
  · split at h
    · rename_i hk
      cases h
      exact lv_aload_n hx hb hdg rfl (mj_LV_get L hk rfl) (kk rfl rfl rfl _ L)
    · rename_i hk
      cases h
      exact lv_aload_nN hx hb hdg rfl (mj_LV_get L hk rfl) (kk rfl rfl rfl _ L)
    · cases h
  · split at h
    · rename_i hk
      cases h
      exact lv_aload hx hb hdg (mj_LV_get L hk rfl) (kk rfl rfl rfl _ L)
    · rename_i hk
      cases h
      exact lv_aloadN hx hb hdg (mj_LV_get L hk rfl) (kk rfl rfl rfl _ L)
    · cases h
  · split at h
    · cases h
      exact lv_istore_n hx hb hdg rfl L.1 (mj_stk_of hrk).1 rfl (fun ls' hl => kk rfl rfl rfl _ (mj_LV_set1 (v := .int _) L hrk rfl hl))
    · cases h
  · split at h
    · cases h
      exact lv_istore hx hb hdg L.1 (mj_stk_of hrk).1 rfl (fun ls' hl => kk rfl rfl rfl _ (mj_LV_set1 (v := .int _) L hrk rfl hl))
    · cases h
  · split at h
    · cases h
      exact lv_lstore_n hx hb hdg rfl L.1 (mj_ltk_of hrk).1 rfl (fun ls' hl => kk rfl rfl rfl _ (mj_LV_set2 (v := .long _) L hrk hl))
    · cases h
  · split at h
    · cases h
      exact lv_lstore hx hb hdg L.1 (mj_ltk_of hrk).1 rfl (fun ls' hl => kk rfl rfl rfl _ (mj_LV_set2 (v := .long _) L hrk hl))
    · cases h
  · split at h
    · cases h
      exact lv_astore_n hx hb hdg rfl L.1 (mj_stk_of hrk).1 rfl (fun ls' hl => kk rfl rfl rfl _ (mj_LV_set1 (v := .ref _) L hrk rfl hl))
    · cases h
      exact lv_astore_nN hx hb hdg rfl L.1 (mj_stk_of hrk).1 rfl (fun ls' hl => kk rfl rfl rfl _ (mj_LV_set1 (v := .null) L hrk rfl hl))
    · cases h
  · split at h
    · cases h
      exact lv_astore hx hb hdg L.1 (mj_stk_of hrk).1 rfl (fun ls' hl => kk rfl rfl rfl _ (mj_LV_set1 (v := .ref _) L hrk rfl hl))
    · cases h
      exact lv_astoreN hx hb hdg L.1 (mj_stk_of hrk).1 rfl (fun ls' hl => kk rfl rfl rfl _ (mj_LV_set1 (v := .null) L hrk rfl hl))
    · cases h
  · split at h
    · rename_i k n x hk
      cases h
      obtain ⟨j, hj⟩ := List.getElem?_of_mem (mj_pr_mem (B := B) (t := t).mpr ⟨_, hk, rfl, rfl⟩)
      exact lv_iinc (k := j) hx hb hdg L.1 hj rfl (mj_stk_of hrk).1 rfl (fun ls' hl => kk rfl rfl rfl _ (mj_LV_set1 (v := .int _) L hrk rfl hl))
    · cases h
  · split at h
    · split at h
      · rename_i hc
        cases h
        exact lv_dup hx hb hdg (by rw [mj_cat]; exact Nat.eq_of_beq_eq_true hc) (kk rfl rfl rfl _ L)
      · cases h
    · cases h
  · split at h
    · split at h
      · rename_i hc
        cases h
        have hc := Bool.and_eq_true_iff.mp hc
        exact lv_dup2_11 hx hb hdg (by rw [mj_cat]; exact Nat.eq_of_beq_eq_true hc.1) (by rw [mj_cat]; exact Nat.eq_of_beq_eq_true hc.2) (kk rfl rfl rfl _ L)
      · cases h
    · cases h
  · split at h
    · split at h
      · rename_i hc
        cases h
        exact lv_pop hx hb hdg (by rw [mj_cat]; exact Nat.eq_of_beq_eq_true hc) (kk rfl rfl rfl _ L)
      · cases h
    · cases h
  · cases h
theorem mj_simB (F : mj_Fr p s m args c M) (hdg : decode M.2.2.1 pc = .ok (i, mj_len i b)) (L : mj_LV B t M ls lst)
    (h : mj_stB i pc lst st hp sz sl = some (.inl (pc', lst', st', hp', sz', sl')))
    (kk : hp' = hp → sz' = sz → sl' = sl → mj_LV B t M ls lst' → W p l e R s m args below meth c H locs cells slots Q (F0 m pc' ls (st'.map (mj_v B t)))) :
    W p l e R s m args below meth c H locs cells slots Q (F0 m pc ls (st.map (mj_v B t))) := by
  obtain ⟨hx, hb, -, hown, hts⟩ := F
  unfold mj_stB at h
  split at h
  · cases h; exact lv_iadd hx hb hdg (kk rfl rfl rfl L)
  · cases h; exact lv_isub hx hb hdg (kk rfl rfl rfl L)
  · cases h; exact lv_imul hx hb hdg (kk rfl rfl rfl L)
  · cases h; exact lv_iand hx hb hdg (kk rfl rfl rfl L)
  · cases h; exact lv_ior hx hb hdg (kk rfl rfl rfl L)
  · cases h; exact lv_ixor hx hb hdg (kk rfl rfl rfl L)
  · split at h
    · cases h
    · rename_i hz; cases h; exact lv_idiv hx hb hdg hz (kk rfl rfl rfl L)
  · split at h
    · cases h
    · rename_i hz; cases h; exact lv_irem hx hb hdg hz (kk rfl rfl rfl L)
  · cases h; exact lv_ineg hx hb hdg (kk rfl rfl rfl L)
  · cases h; exact lv_ishl hx hb hdg (kk rfl rfl rfl L)
  · cases h; exact lv_ishr hx hb hdg (kk rfl rfl rfl L)
  · cases h; exact lv_iushr hx hb hdg rfl (kk rfl rfl rfl L)
  · cases h; exact lv_ladd hx hb hdg (kk rfl rfl rfl L)
  · cases h; exact lv_lsub hx hb hdg (kk rfl rfl rfl L)
  · cases h; exact lv_lmul hx hb hdg (kk rfl rfl rfl L)
  · cases h; exact lv_land hx hb hdg (kk rfl rfl rfl L)
  · cases h; exact lv_lor hx hb hdg (kk rfl rfl rfl L)
  · split at h
    · cases h
    · rename_i hz; cases h; exact lv_ldiv hx hb hdg hz (kk rfl rfl rfl L)
  · split at h
    · cases h
    · rename_i hz; cases h; exact lv_lrem hx hb hdg hz (kk rfl rfl rfl L)
  · cases h; exact lv_lshl hx hb hdg rfl (kk rfl rfl rfl L)
  · cases h; exact lv_lushr hx hb hdg rfl (kk rfl rfl rfl L)
  · cases h; exact W.lcmp hx hb hdg (kk rfl rfl rfl L)
  · cases h; exact lv_i2l hx hb hdg rfl (kk rfl rfl rfl L)
  · cases h; exact lv_l2i hx hb hdg rfl (kk rfl rfl rfl L)
  · cases h
theorem mj_look_pos {pc : Nat} {d k : Int} (hd : 0 ≤ (pc : Int) + d) : ∀ {ps : List (Int × Int)}, (∀ o ∈ ps, 0 ≤ (pc : Int) + o.2) → 0 ≤ (pc : Int) + Op.lookupswitch.offset ps d k := by
  intro ps
  induction ps with
  | nil => intro _; exact hd
  | cons q r ih =>
    intro h
    obtain ⟨a1, o1⟩ := q
    rw [Op.lookupswitch.offset_cons]
    split
    · exact h _ List.mem_cons_self
    · exact ih (fun o ho => h o (List.mem_cons_of_mem _ ho))
theorem mj_simC (F : mj_Fr p s m args c M) (hdg : decode M.2.2.1 pc = .ok (i, mj_len i b)) (hrk : mj_rk M (pc, i, a, b, f) = true) (L : mj_LV B t M ls lst)
    (h : mj_stC i ret a pc lst st hp sz sl = some (.inl (pc', lst', st', hp', sz', sl')))
    (kk : hp' = hp → sz' = sz → sl' = sl → mj_LV B t M ls lst' → W p l e R s m args below meth c H locs cells slots Q (F0 m pc' ls (st'.map (mj_v B t)))) :
    W p l e R s m args below meth c H locs cells slots Q (F0 m pc ls (st.map (mj_v B t))) := by
  obtain ⟨hx, hb, -, hown, hts⟩ := F
  unfold mj_stC at h
  split at h
  · cases h; exact lv_goto hx hb hdg (of_decide_eq_true hrk) (kk rfl rfl rfl L)
  · refine lv_if_eq hx hb hdg (of_decide_eq_true hrk) (fun hc => ?_) (fun hc => ?_)
    · rw [if_pos hc] at h; cases h; exact kk rfl rfl rfl L
    · rw [if_neg hc] at h; cases h; exact kk rfl rfl rfl L
  · refine lv_if_ne hx hb hdg (of_decide_eq_true hrk) (fun hc => ?_) (fun hc => ?_)
    · rw [if_neg hc] at h; cases h; exact kk rfl rfl rfl L
    · rw [if_pos hc] at h; cases h; exact kk rfl rfl rfl L
  · refine lv_if_lt hx hb hdg (of_decide_eq_true hrk) (fun hc => ?_) (fun hc => ?_)
    · rw [if_pos hc] at h; cases h; exact kk rfl rfl rfl L
    · rw [if_neg hc] at h; cases h; exact kk rfl rfl rfl L
  · refine lv_if_ge hx hb hdg (of_decide_eq_true hrk) (fun hc => ?_) (fun hc => ?_)
    · rw [if_pos hc] at h; cases h; exact kk rfl rfl rfl L
    · rw [if_neg hc] at h; cases h; exact kk rfl rfl rfl L
  · refine lv_if_gt hx hb hdg (of_decide_eq_true hrk) (fun hc => ?_) (fun hc => ?_)
    · rw [if_pos hc] at h; cases h; exact kk rfl rfl rfl L
    · rw [if_neg hc] at h; cases h; exact kk rfl rfl rfl L
  · refine lv_if_le hx hb hdg (of_decide_eq_true hrk) (fun hc => ?_) (fun hc => ?_)
    · rw [if_pos hc] at h; cases h; exact kk rfl rfl rfl L
    · rw [if_neg hc] at h; cases h; exact kk rfl rfl rfl L
  · refine lv_icmp_eq hx hb hdg (of_decide_eq_true hrk) (fun hc => ?_) (fun hc => ?_)
    · rw [if_pos hc] at h; cases h; exact kk rfl rfl rfl L
    · rw [if_neg hc] at h; cases h; exact kk rfl rfl rfl L
  · refine lv_icmp_ne hx hb hdg (of_decide_eq_true hrk) (fun hc => ?_) (fun hc => ?_)
    · rw [if_neg hc] at h; cases h; exact kk rfl rfl rfl L
    · rw [if_pos hc] at h; cases h; exact kk rfl rfl rfl L
  · refine lv_icmp_lt hx hb hdg (of_decide_eq_true hrk) (fun hc => ?_) (fun hc => ?_)
    · rw [if_pos hc] at h; cases h; exact kk rfl rfl rfl L
    · rw [if_neg hc] at h; cases h; exact kk rfl rfl rfl L
  · refine lv_icmp_ge hx hb hdg (of_decide_eq_true hrk) (fun hc => ?_) (fun hc => ?_)
    · rw [if_pos hc] at h; cases h; exact kk rfl rfl rfl L
    · rw [if_neg hc] at h; cases h; exact kk rfl rfl rfl L
  · refine lv_icmp_gt hx hb hdg (of_decide_eq_true hrk) (fun hc => ?_) (fun hc => ?_)
    · rw [if_pos hc] at h; cases h; exact kk rfl rfl rfl L
    · rw [if_neg hc] at h; cases h; exact kk rfl rfl rfl L
  · refine lv_icmp_le hx hb hdg (of_decide_eq_true hrk) (fun hc => ?_) (fun hc => ?_)
    · rw [if_pos hc] at h; cases h; exact kk rfl rfl rfl L
    · rw [if_neg hc] at h; cases h; exact kk rfl rfl rfl L
  · cases h; exact lv_ifnullN hx hb hdg (of_decide_eq_true hrk) (kk rfl rfl rfl L)
  · cases h; exact lv_ifnull hx hb hdg (kk rfl rfl rfl L)
  · cases h; exact lv_ifnonnullN hx hb hdg (kk rfl rfl rfl L)
  · cases h; exact lv_ifnonnull hx hb hdg (of_decide_eq_true hrk) (kk rfl rfl rfl L)
  · have hk := Bool.and_eq_true_iff.mp hrk
    split at h
    · rename_i hc
      cases h
      exact lv_tableOut hx hb hdg hc (Int.toNat_of_nonneg (of_decide_eq_true hk.1)).symm (kk rfl rfl rfl L)
    · rename_i hc
      split at h
      · rename_i o ho
        cases h
        have h2 := List.all_eq_true.mp hk.2 o (Array.mem_toList_iff.mpr (Array.mem_of_getElem? ho))
        exact lv_tableIn hx hb hdg (fun q => hc (Or.inl q)) (fun q => hc (Or.inr q)) ho (Int.toNat_of_nonneg (of_decide_eq_true h2)).symm (kk rfl rfl rfl L)
      · cases h
  · have hk := Bool.and_eq_true_iff.mp hrk
    have hk1 := Bool.and_eq_true_iff.mp hk.1
    cases h
    exact lv_lookup hx hb hdg hk.2 rfl (Int.toNat_of_nonneg (mj_look_pos (of_decide_eq_true hk1.1) (fun o ho => of_decide_eq_true (List.all_eq_true.mp hk1.2 o ho)))).symm (kk rfl rfl rfl L)
  · split at h
    · cases h
    · split at h <;> cases h
    · cases h
  · split at h <;> cases h
  · split at h <;> cases h
  · cases h
end MJB
