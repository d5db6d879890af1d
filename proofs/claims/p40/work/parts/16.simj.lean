/-! THE SIMULATION, 9: runs -/
section MJJ
variable {p : Program} {l : Launch} {e : Env} {R : Room} {s : State} {m : MethodId} {args : Array Value} {below : List Frame} {meth : Method} {c : Code} {H : Heap} {locs : List Loc} {cells slots : Nat} {Q : State → Prop}
variable {al : Bool} {B t : Nat} {cA : Nat → ClassId} {D : va_G} {M M1 : mj_Inf} {i : Instr} {a b f pc pc' d : Nat} {ls : Array Slot} {lst lst' st st' : List Value} {hp hp' : mj_Hp} {sz sl sz' sl' : Nat}
def mj_cf (al : Bool) (ms : List mj_Inf) (k d : Nat) : Nat → List Value → mj_Hp → Nat → Nat → Option mj_Res := fun y As hp sz sl => match d with
  | 0 => none
  | d + 1 => match ms[y]? with
    | none => none
    | some M1 => if (mj_flat As).length ≤ M1.2.2.2.1 ∧ mj_lok M1.2.2.2.2.2.1 0 (mj_flat As) = true then mj_run al ms k d M1 (0, mj_lc As M1.2.2.2.1, [], hp, sz, sl) else none
/-- one instruction of a frame -/
def mj_one (al : Bool) (call : Nat → List Value → mj_Hp → Nat → Nat → Option mj_Res) (d : Nat) (M : mj_Inf) (i : Instr) (a b pc : Nat) (ls st : List Value) (hp : mj_Hp) (sz sl : Nat) : Option (mj_Cfg ⊕ mj_Res) := match mj_grp i with
  | 0 => mj_stA i a pc ls st hp sz sl
  | 1 => mj_stB i pc ls st hp sz sl
  | 2 => mj_stC i M.2.2.2.2.1 a pc ls st hp sz sl
  | 3 => mj_stD al i a b pc ls st hp sz sl
  | _ => mj_stE call d (mj_Cof a) (mj_nof a) a b pc ls st hp sz sl
theorem mj_run_eq {k : Nat} : mj_run al mj_ms (k + 1) d M (pc, lst, st, hp, sz, sl) = (match mj_find M.2.2.2.2.2.2.2 pc with
    | none => none
    | some (i, a, b, _) => match mj_one al (mj_cf al mj_ms k d) d M i a b pc lst st hp sz sl with
      | none => none
      | some (.inr r) => some r
      | some (.inl c) => mj_run al mj_ms k d M c) := rfl
theorem mj_find_mem : ∀ {L : List mj_Row} {pc : Nat} {r : Instr × Nat × Nat × Nat}, mj_find L pc = some r → (pc, r) ∈ L
  | [], pc, r, h => by cases h
  | q :: L, pc, r, h => by
    unfold mj_find at h
    split at h
    · rename_i hq
      cases h
      have : q.1 = pc := Nat.eq_of_beq_eq_true hq
      subst this
      exact List.mem_cons_self
    · exact List.mem_cons_of_mem _ (mj_find_mem h)
theorem mj_stA_same (h : mj_stA i a pc lst st hp sz sl = some (.inl (pc', lst', st', hp', sz', sl'))) : hp' = hp ∧ sz' = sz ∧ sl' = sl := by
  unfold mj_stA at h
  split at h <;> first | (cases h; exact ⟨rfl, rfl, rfl⟩) | (cases h; done) | (split at h <;> first | (cases h; exact ⟨rfl, rfl, rfl⟩) | (cases h; done) | (split at h <;> first | (cases h; exact ⟨rfl, rfl, rfl⟩) | (cases h; done)))
theorem mj_stB_same (h : mj_stB i pc lst st hp sz sl = some (.inl (pc', lst', st', hp', sz', sl'))) : hp' = hp ∧ sz' = sz ∧ sl' = sl ∧ lst' = lst := by
  unfold mj_stB at h
  split at h <;> first | (cases h; exact ⟨rfl, rfl, rfl, rfl⟩) | (split at h <;> first | (cases h; exact ⟨rfl, rfl, rfl, rfl⟩) | (cases h; done)) | (cases h; done)
theorem mj_stC_same {ret : Option FieldType} (h : mj_stC i ret a pc lst st hp sz sl = some (.inl (pc', lst', st', hp', sz', sl'))) : hp' = hp ∧ sz' = sz ∧ sl' = sl ∧ lst' = lst := by
  unfold mj_stC at h
  split at h <;> first | (cases h; exact ⟨rfl, rfl, rfl, rfl⟩) | (split at h <;> first | (cases h; exact ⟨rfl, rfl, rfl, rfl⟩) | (cases h; done) | (split at h <;> first | (cases h; exact ⟨rfl, rfl, rfl, rfl⟩) | (cases h; done))) | (cases h; done)
theorem mj_stA_noend {r : mj_Res} (h : mj_stA i a pc lst st hp sz sl = some (.inr r)) : False := by
  unfold mj_stA at h
  split at h <;> first | (cases h; done) | (split at h <;> first | (cases h; done) | (split at h <;> (cases h; done)))
theorem mj_stB_noend {r : mj_Res} (h : mj_stB i pc lst st hp sz sl = some (.inr r)) : False := by
  unfold mj_stB at h
  split at h <;> first | (cases h; done) | (split at h <;> (cases h; done))
theorem mj_stD_noend {r : mj_Res} (h : mj_stD al i a b pc lst st hp sz sl = some (.inr r)) : False := by
  unfold mj_stD at h
  split at h <;> first | (cases h; done) | (split at h <;> first | (cases h; done) | (split at h <;> first | (cases h; done) | (split at h <;> (cases h; done))))
theorem mj_stE_noend {call : Nat → List Value → mj_Hp → Nat → Nat → Option mj_Res} {C n : Nat} {r : mj_Res} (h : mj_stE call d C n a b pc lst st hp sz sl = some (.inr r)) : False := by
  unfold mj_stE at h
  split at h <;> first | (cases h; done) | (split at h <;> first | (cases h; done) | (split at h <;> first | (cases h; done) | (split at h <;> first | (cases h; done) | (split at h <;> (cases h; done)))))
theorem mj_stC_end {ret : Option FieldType} {v : Option Value} (h : mj_stC i ret a pc lst st hp sz sl = some (.inr (v, hp', sz', sl'))) : hp' = hp ∧ sz' = sz ∧ sl' = sl := by
  unfold mj_stC at h
  split at h <;> first | (cases h; done) | (cases h; exact ⟨rfl, rfl, rfl⟩) | (split at h <;> first | (cases h; exact ⟨rfl, rfl, rfl⟩) | (cases h; done) | (split at h <;> first | (cases h; exact ⟨rfl, rfl, rfl⟩) | (cases h; done)))
/-- the end of a method -/
theorem mj_simR {aa : Nat} {v : Option Value} (F : mj_Fr p s m args c M) (hret : meth.sig.returnType = M.2.2.2.2.1) (hlk : meth.locks = false) (hdg : decode M.2.2.1 pc = .ok (i, mj_len i b)) (hH : mj_hd B t cA D hp sz H) (hS : va_S (mj_A B) s.heap H locs)
    (h : mj_stC i M.2.2.2.2.1 aa pc lst st hp sz sl = some (.inr (v, hp', sz', sl'))) : W p l e R s m args below meth c H locs cells slots (MQ below (mj_Post B t cA D v hp' sz') args s cells slots (mj_A B)) (F0 m pc ls (st.map (mj_v B t))) := by
  obtain ⟨hx, hb, hml, hown, hts⟩ := F
  unfold mj_stC at h
  split at h
  all_goals try (cases h; done)
  all_goals try (split at h <;> cases h; done)
  · split at h
    · cases h
    · split at h <;> cases h
  · split at h
    · rename_i hr
      cases h
      exact W.iret hx hb (hret.trans hr) (fun u hu hW => ⟨rfl, by rw [hu]; exact hH, hS.F hu⟩) hS.2.2 hdg hlk
    · rename_i hr
      split at h
      · rename_i hz
        cases h
        exact W.zret hx hb (hret.trans hr) (by rcases hz with rfl | rfl <;> decide) (fun u hu hW => ⟨rfl, by rw [hu]; exact hH, hS.F hu⟩) hS.2.2 hdg hlk
      · cases h
    · cases h
  · split at h
    · rename_i hr
      cases h
      exact W.lret hx hb (hret.trans hr) (fun u hu hW => ⟨rfl, by rw [hu]; exact hH, hS.F hu⟩) hS.2.2 hdg hlk
    · cases h
  · split at h
    · rename_i hr
      cases h
      exact W.vret hx hb (hret.trans hr) (fun u hu hW => ⟨rfl, by rw [hu]; exact hH, hS.F hu⟩) hS.2.2 hdg hlk
    · cases h
theorem mj_run_mono : ∀ (k : Nat) (d : Nat) (M : mj_Inf) (pc : Nat) (lst st : List Value) (hp : mj_Hp) (sz sl : Nat) (v : Option Value) (hp' : mj_Hp) (sz' sl' : Nat), mj_run al mj_ms k d M (pc, lst, st, hp, sz, sl) = some (v, hp', sz', sl') → sz ≤ sz' ∧ sl ≤ sl' := by
  intro k
  induction k with
  | zero => intro d M pc lst st hp sz sl v hp' sz' sl' h; cases h
  | succ k ih =>
    intro d M pc lst st hp sz sl v hp' sz' sl' h
    rw [mj_run_eq] at h
    split at h
    · cases h
    · rename_i i a b f hf
      have hc : ∀ (y : Nat) (As : List Value) (hp : mj_Hp) (sz sl : Nat) (v : Option Value) (hp' : mj_Hp) (sz' sl' : Nat), mj_cf al mj_ms k d y As hp sz sl = some (v, hp', sz', sl') → sz ≤ sz' ∧ sl ≤ sl' := by
        intro y As hp sz sl v hp' sz' sl' h
        unfold mj_cf at h
        split at h
        · cases h
        · split at h
          · cases h
          · split at h
            · exact ih _ _ _ _ _ _ _ _ _ _ _ _ h
            · cases h
      split at h
      · cases h
      · rename_i r hr
        cases h
        unfold mj_one at hr
        split at hr
        · exact (mj_stA_noend hr).elim
        · exact (mj_stB_noend hr).elim
        · obtain ⟨-, e2, e3⟩ := mj_stC_end hr
          exact ⟨by omega, by omega⟩
        · exact (mj_stD_noend hr).elim
        · exact (mj_stE_noend hr).elim
      · rename_i c1 hr
        obtain ⟨pc1, lst1, st1, hp1, sz1, sl1⟩ := c1
        have h1 := ih _ _ _ _ _ _ _ _ _ _ _ _ h
        have h2 : sz ≤ sz1 ∧ sl ≤ sl1 := by
          unfold mj_one at hr
          split at hr
          · obtain ⟨-, e2, e3⟩ := mj_stA_same hr
            exact ⟨by omega, by omega⟩
          · obtain ⟨-, e2, e3, -⟩ := mj_stB_same hr
            exact ⟨by omega, by omega⟩
          · obtain ⟨-, e2, e3, -⟩ := mj_stC_same hr
            exact ⟨by omega, by omega⟩
          · exact mj_stD_mono hr
          · exact mj_stE_mono hc hr
        exact ⟨Nat.le_trans h2.1 h1.1, Nat.le_trans h2.2 h1.2⟩
/-- one instruction that goes on, in the machine -/
theorem mj_sim1 {call : Nat → List Value → mj_Hp → Nat → Nat → Option mj_Res} (F : mj_Fr p s m args c M) (hin : meth.name = M.2.1.name) (hK : mj_K B t cA D s) (hB : B ≤ s.heap.size) (hal : al = true → B + sz = s.heap.size + cells) (hH : mj_hd B t cA D hp sz H) (hS : va_S (mj_A B) s.heap H locs)
    (hdg : decode M.2.2.1 pc = .ok (i, mj_len i b)) (hrk : mj_rk M (pc, i, a, b, f) = true) (L : mj_LV B t M ls lst) (hCa : mj_Ca l al call d) (hfr : d ≤ R.frames) (hlo : 40 * d ≤ R.locals) (hroom : cells + (sz' - sz) ≤ R.cells ∧ slots + (sl' - sl) ≤ R.slots)
    (h : mj_one al call d M i a b pc lst st hp sz sl = some (.inl (pc', lst', st', hp', sz', sl')))
    (kk : sz ≤ sz' → sl ≤ sl' → ∀ H1 locs1 ls1, mj_hd B t cA D hp' sz' H1 → va_S (mj_A B) s.heap H1 locs1 → mj_LV B t M ls1 lst' → W p l e R s m args below meth c H1 locs1 (cells + (sz' - sz)) (slots + (sl' - sl)) Q (F0 m pc' ls1 (st'.map (mj_v B t)))) :
    W p l e R s m args below meth c H locs cells slots Q (F0 m pc ls (st.map (mj_v B t))) := by
  unfold mj_one at h
  split at h
  · refine mj_simA F hdg hrk L h (fun e1 e2 e3 ls1 L1 => ?_)
    subst e1; subst e2; subst e3
    have k1 := kk (Nat.le_refl _) (Nat.le_refl _) H locs ls1 hH hS L1
    rwa [Nat.sub_self, Nat.sub_self] at k1
  · refine mj_simB F hdg L h (fun e1 e2 e3 L1 => ?_)
    subst e1; subst e2; subst e3
    have k1 := kk (Nat.le_refl _) (Nat.le_refl _) H locs ls hH hS L1
    rwa [Nat.sub_self, Nat.sub_self] at k1
  · refine mj_simC F hdg hrk L h (fun e1 e2 e3 L1 => ?_)
    subst e1; subst e2; subst e3
    have k1 := kk (Nat.le_refl _) (Nat.le_refl _) H locs ls hH hS L1
    rwa [Nat.sub_self, Nat.sub_self] at k1
  · obtain ⟨m1, m2⟩ := mj_stD_mono h
    exact mj_simD F hin hK hB hal hdg hrk hH hS hroom h (fun H1 locs1 h1 h2 e1 => kk m1 m2 H1 locs1 ls h1 h2 (by rw [e1]; exact L))
  · rename_i g0 g1 g2 g3
    have hg : mj_grp i = 4 := by
      have h4 : mj_grp i = 0 ∨ mj_grp i = 1 ∨ mj_grp i = 2 ∨ mj_grp i = 3 ∨ mj_grp i = 4 := by cases i <;> simp [mj_grp]
      rcases h4 with h4 | h4 | h4 | h4 | h4
      · exact (g0 h4).elim
      · exact (g1 h4).elim
      · exact (g2 h4).elim
      · exact (g3 h4).elim
      · exact h4
    obtain ⟨m1, m2⟩ := mj_stE_mono (fun y As hp sz sl v hp' sz' sl' hq => by
      obtain ⟨-, -, -, -, z1, z2, -⟩ := hCa _ _ _ _ _ _ _ _ _ hq
      exact ⟨z1, z2⟩) h
    exact mj_simE F hK hB hal hH hS L.1.1 hg hdg hrk hCa hfr hlo hroom h (fun H1 locs1 h1 h2 e1 => kk m1 m2 H1 locs1 ls h1 h2 (by rw [e1]; exact L))
theorem mj_entry_pr : ∀ (As : List Value) (i j : Nat) (v : Value), (mj_flat As)[j]? = some v → mj_isU v = false → (i + j, mj_v B t v) ∈ lv_args i (As.map (mj_v B t))
  | [], i, j, v, h, _ => by simp [mj_flat] at h
  | x :: As, i, j, v, h, hu => by
    have step1 : mj_flat (x :: As) = x :: mj_flat As → (mj_v B t x).category = 1 → (i + j, mj_v B t v) ∈ lv_args i ((x :: As).map (mj_v B t)) := by
      intro e1 hc
      rw [e1] at h
      rw [List.map_cons, lv_args, hc]
      cases j with
      | zero =>
        rw [List.getElem?_cons_zero] at h
        cases h
        exact List.mem_cons_self
      | succ j =>
        rw [List.getElem?_cons_succ] at h
        have := mj_entry_pr As (i + 1) j v h hu
        rw [show i + 1 + j = i + (j + 1) by omega] at this
        exact List.mem_cons_of_mem _ this
    have step2 : mj_flat (x :: As) = x :: mj_U :: mj_flat As → (mj_v B t x).category = 2 → (i + j, mj_v B t v) ∈ lv_args i ((x :: As).map (mj_v B t)) := by
      intro e1 hc
      rw [e1] at h
      rw [List.map_cons, lv_args, hc]
      match j, h with
      | 0, h =>
        rw [List.getElem?_cons_zero] at h
        cases h
        exact List.mem_cons_self
      | 1, h =>
        rw [List.getElem?_cons_succ, List.getElem?_cons_zero] at h
        cases h
        cases hu
      | j + 2, h =>
        rw [List.getElem?_cons_succ, List.getElem?_cons_succ] at h
        have := mj_entry_pr As (i + 2) j v h hu
        rw [show i + 2 + j = i + (j + 2) by omega] at this
        exact List.mem_cons_of_mem _ this
    cases x with
    | long x => exact step2 rfl rfl
    | double x => exact step2 rfl rfl
    | int x => exact step1 rfl rfl
    | float x => exact step1 rfl rfl
    | null => exact step1 rfl rfl
    | ref x => exact step1 rfl rfl
    | retAddr x => exact step1 rfl rfl
theorem mj_entry_len : ∀ (As : List Value), (lg_sl (As.map (mj_v B t))).length = (mj_flat As).length
  | [] => rfl
  | x :: As => by
    have ih := mj_entry_len As
    have h0 : (lg_sl ((x :: As).map (mj_v B t))).length = (if (mj_v B t x).category = 2 then 2 else 1) + (lg_sl (As.map (mj_v B t))).length := by
      unfold lg_sl
      rw [List.map_cons, List.flatMap_cons, List.length_append]
      congr 1
      split <;> rfl
    rw [h0, ih]
    cases x <;> simp [mj_flat, mj_v, Value.category] <;> omega
theorem mj_lok_get {lg : List Nat} : ∀ {l : List Value} {i j : Nat} {v : Value}, mj_lok lg i l = true → l[j]? = some v → (v.category = 1 ∨ lg.contains (i + j) = true) ∧ (mj_isU v = true ∨ lg.any (fun k => Nat.beq (k + 1) (i + j)) = false)
  | [], i, j, v, _, h => by simp at h
  | x :: l, i, j, v, hk, h => by
    unfold mj_lok at hk
    simp only [Bool.and_eq_true, Bool.or_eq_true, Bool.not_eq_true', Nat.beq_eq] at hk
    cases j with
    | zero =>
      rw [List.getElem?_cons_zero] at h
      cases h
      exact hk.1
    | succ j =>
      rw [List.getElem?_cons_succ] at h
      have := mj_lok_get hk.2 h
      rw [show i + 1 + j = i + (j + 1) by omega] at this
      exact this
theorem mj_LV_entry {As : List Value} (h1 : (mj_flat As).length ≤ M.2.2.2.1) (h2 : mj_lok M.2.2.2.2.2.1 0 (mj_flat As) = true) :
    mj_LV B t M (lg_sl (As.map (mj_v B t)) ++ List.replicate (M.2.2.2.1 - (lg_sl (As.map (mj_v B t))).length) Slot.unset).toArray (mj_lc As M.2.2.2.1) := by
  have hl := lv_entry (As.map (mj_v B t)) (n := M.2.2.2.1) (by rw [mj_entry_len]; exact h1)
  have hcase : ∀ (j : Nat) (v : Value), (mj_lc As M.2.2.2.1)[j]? = some v → (mj_flat As)[j]? = some v ∨ v = mj_U := by
    intro j v hj
    unfold mj_lc at hj
    rcases Nat.lt_or_ge j (mj_flat As).length with hq | hq
    · rw [List.getElem?_append_left hq] at hj
      exact Or.inl hj
    · rw [List.getElem?_append_right hq] at hj
      exact Or.inr (List.mem_replicate.mp (List.mem_of_getElem? hj)).2
  refine ⟨⟨hl.1, hl.2.1, fun q hq => ?_⟩, by unfold mj_lc; simp; omega, fun j v hj hc => ?_, fun j v hj hv => ?_⟩
  · obtain ⟨j, w⟩ := q
    obtain ⟨v, hv, hu, rfl⟩ := mj_pr_mem.mp hq
    rcases hcase j v hv with h3 | h3
    · have := mj_entry_pr (B := B) (t := t) As 0 j v h3 hu
      rw [Nat.zero_add] at this
      exact hl.2.2 _ this
    · subst h3; cases hu
  · rcases hcase j v hj with h3 | h3
    · have := (mj_lok_get h2 h3).1
      rw [Nat.zero_add] at this
      rcases this with h4 | h4
      · omega
      · exact h4
    · subst h3; cases hc
  · rcases hcase (j + 1) v hv with h3 | h3
    · have := (mj_lok_get h2 h3).2
      rw [Nat.zero_add] at this
      rcases this with h4 | h4
      · exact h4
      · rw [List.any_eq_false] at h4
        exact absurd (Nat.beq_refl (j + 1)) (h4 j (by simpa using hj))
    · subst h3; rfl
/-- A RUN OF THE PURE MACHINE IS A RUN OF THE MACHINE -/
theorem mj_simRun : ∀ (k : Nat) {p : Program} {l : Launch} {e : Env} {R : Room} {s : State} {m : MethodId} {args : Array Value} {below : List Frame} {meth : Method} {c : Code} {H : Heap} {locs : List Loc} {cells slots : Nat} {al : Bool} {B t : Nat} {cA : Nat → ClassId} {D : va_G} (d : Nat) (M : mj_Inf) (pc : Nat) (lst st : List Value) (hp : mj_Hp) (sz sl : Nat) (v : Option Value) (hp' : mj_Hp) (sz' sl' mc ms : Nat) {ls : Array Slot},
    mj_run al mj_ms k d M (pc, lst, st, hp, sz, sl) = some (v, hp', sz', sl') → mj_MOK M → mj_Fr p s m args c M → meth.name = M.2.1.name → meth.sig.returnType = M.2.2.2.2.1 → meth.locks = false → mj_K B t cA D s → B ≤ s.heap.size → (al = true → B + sz = s.heap.size + cells) → mj_hd B t cA D hp sz H → va_S (mj_A B) s.heap H locs → mj_LV B t M ls lst →
    d ≤ R.frames → 40 * d ≤ R.locals → mc ≤ R.cells → ms ≤ R.slots → cells + (sz' - sz) = mc → slots + (sl' - sl) = ms →
    W p l e R s m args below meth c H locs cells slots (MQ below (mj_Post B t cA D v hp' sz') args s mc ms (mj_A B)) (F0 m pc ls (st.map (mj_v B t))) := by
  intro k
  induction k with
  | zero => intro p l e R s m args below meth c H locs cells slots al B t cA D d M pc lst st hp sz sl v hp' sz' sl' mc ms ls h; cases h
  | succ k ih =>
    intro p l e R s m args below meth c H locs cells slots al B t cA D d M pc lst st hp sz sl v hp' sz' sl' mc ms ls h hMok F hin hret hlk hK hB hal hH hS L hfr hlo hmc hms e1 e2
    have hCa : mj_Ca l al (mj_cf al mj_ms k d) d := by
      intro y As hp sz sl v hp' sz' sl' hq
      have hq0 := hq
      unfold mj_cf at hq
      split at hq
      · cases hq
      · rename_i d'
        split at hq
        · cases hq
        · rename_i M1 hM1
          split at hq
          · rename_i hlen
            obtain ⟨z1, z2⟩ := mj_run_mono _ _ _ _ _ _ _ _ _ _ _ _ _ hq
            refine ⟨d', M1, rfl, hM1, z1, z2, fun B t cA D => ?_⟩
            have hok := mj_all_ok M1 (List.mem_of_getElem? hM1)
            refine Met.ofW (cc := M1.2.2.1) (maxL := M1.2.2.2.1) (ret := M1.2.2.2.2.1) hok.2.2.1 rfl ?_
            intro p e s m args below meth c s1 Bd hml hv
            obtain ⟨rfl, hHd, hKs, hBs, hsz⟩ := hv
            have hts := atoms_spec (ws := Jvm.Cond.code M1.2.1 M1.2.2.1 M1.2.2.2.1 M1.2.2.2.2.1 :: mj_gw) Bd.pre
            have hown : s.vm.findClass M1.2.1.cls = some m.cls := findClass_of_methodNamed Bd.named
            rw [lg_entry_eq]
            have hLV := mj_LV_entry (B := B) (t := t) (M := M1) hlen.1 hlen.2
            exact ih (R := (headSpec (Jvm.Cond.code M1.2.1 M1.2.2.1 M1.2.2.2.1 M1.2.2.2.2.1 :: mj_gw) (mj_rm d' (sz' - sz) (sl' - sl))).room) d' M1 0 _ [] hp sz sl v hp' sz' sl' (sz' - sz) (sl' - sl) hq hok ⟨Bd.exec, Bd.bytes, hml, by rw [hok.2.2.2.1]; exact hown, fun w hw => hts w (List.mem_cons_of_mem _ hw)⟩ (name_of_methodNamed Bd.named Bd.method).1 Bd.returns Bd.notSynchronized hKs hBs (fun h => (hsz h).symm) hHd va_S.rf hLV (Nat.le_refl _) (Nat.le_refl _) (Nat.le_refl _) (Nat.le_refl _) (Nat.zero_add _) (Nat.zero_add _)
          · cases hq
    have hmono := mj_run_mono _ _ _ _ _ _ _ _ _ _ _ _ _ h
    rw [mj_run_eq] at h
    split at h
    · cases h
    · rename_i i a b f hf
      have hrow := mj_find_mem hf
      obtain ⟨hrk, hdk⟩ := hMok.2.2.2.2.2.2.2.2.2 _ hrow
      have hdg : decode M.2.2.1 pc = .ok (i, mj_len i b) := of_decide_eq_true hdk
      split at h
      · cases h
      · rename_i r hr
        cases h
        unfold mj_one at hr
        split at hr
        · exact (mj_stA_noend hr).elim
        · exact (mj_stB_noend hr).elim
        · obtain ⟨-, e3, e4⟩ := mj_stC_end hr
          subst e3; subst e4
          rw [Nat.sub_self, Nat.add_zero] at e1 e2
          subst e1; subst e2
          exact mj_simR F hret hlk hdg hH hS hr
        · exact (mj_stD_noend hr).elim
        · exact (mj_stE_noend hr).elim
      · rename_i c1 hr
        obtain ⟨pc1, lst1, st1, hp1, sz1, sl1⟩ := c1
        have hm2 := mj_run_mono _ _ _ _ _ _ _ _ _ _ _ _ _ h
        have hm1 : sz ≤ sz1 ∧ sl ≤ sl1 := by
          have h9 : mj_run al mj_ms (k + 1) d M (pc, lst, st, hp, sz, sl) = mj_run al mj_ms k d M (pc1, lst1, st1, hp1, sz1, sl1) := by
            rw [mj_run_eq, hf]
            simp only [hr]
          unfold mj_one at hr
          split at hr
          · obtain ⟨-, e2, e3⟩ := mj_stA_same hr
            exact ⟨by omega, by omega⟩
          · obtain ⟨-, e2, e3, -⟩ := mj_stB_same hr
            exact ⟨by omega, by omega⟩
          · obtain ⟨-, e2, e3, -⟩ := mj_stC_same hr
            exact ⟨by omega, by omega⟩
          · exact mj_stD_mono hr
          · exact mj_stE_mono (fun y As hp sz sl v hp' sz' sl' hq => by
              obtain ⟨-, -, -, -, z1, z2, -⟩ := hCa _ _ _ _ _ _ _ _ _ hq
              exact ⟨z1, z2⟩) hr
        refine mj_sim1 F hin hK hB hal hH hS hdg hrk L hCa hfr hlo ⟨by omega, by omega⟩ hr (fun m1 m2 H1 locs1 ls1 hd1 hS1 L1 => ?_)
        exact ih d M pc1 lst1 st1 hp1 sz1 sl1 v hp' sz' sl' mc ms h hMok F hin hret hlk hK hB (fun hh => by have := hal hh; omega) hd1 hS1 L1 hfr hlo hmc hms (by omega) (by omega)
/-- a call of the pure machine gives a contract -/
theorem mj_Ca_run {k d : Nat} : mj_Ca l al (mj_cf al mj_ms k d) d := by
  intro y As hp sz sl v hp' sz' sl' hq
  unfold mj_cf at hq
  split at hq
  · cases hq
  · rename_i d'
    split at hq
    · cases hq
    · rename_i M1 hM1
      split at hq
      · rename_i hlen
        obtain ⟨z1, z2⟩ := mj_run_mono _ _ _ _ _ _ _ _ _ _ _ _ _ hq
        refine ⟨d', M1, rfl, hM1, z1, z2, fun B t cA D => ?_⟩
        have hok := mj_all_ok M1 (List.mem_of_getElem? hM1)
        refine Met.ofW (cc := M1.2.2.1) (maxL := M1.2.2.2.1) (ret := M1.2.2.2.2.1) hok.2.2.1 rfl ?_
        intro p e s m args below meth c s1 Bd hml hv
        obtain ⟨rfl, hHd, hKs, hBs, hsz⟩ := hv
        have hts := atoms_spec (ws := Jvm.Cond.code M1.2.1 M1.2.2.1 M1.2.2.2.1 M1.2.2.2.2.1 :: mj_gw) Bd.pre
        have hown : s.vm.findClass M1.2.1.cls = some m.cls := findClass_of_methodNamed Bd.named
        rw [lg_entry_eq]
        have hLV := mj_LV_entry (B := B) (t := t) (M := M1) hlen.1 hlen.2
        exact mj_simRun k (R := (headSpec (Jvm.Cond.code M1.2.1 M1.2.2.1 M1.2.2.2.1 M1.2.2.2.2.1 :: mj_gw) (mj_rm d' (sz' - sz) (sl' - sl))).room) d' M1 0 _ [] hp sz sl v hp' sz' sl' (sz' - sz) (sl' - sl) hq hok ⟨Bd.exec, Bd.bytes, hml, by rw [hok.2.2.2.1]; exact hown, fun w hw => hts w (List.mem_cons_of_mem _ hw)⟩ (name_of_methodNamed Bd.named Bd.method).1 Bd.returns Bd.notSynchronized hKs hBs (fun h => (hsz h).symm) hHd va_S.rf hLV (Nat.le_refl _) (Nat.le_refl _) (Nat.le_refl _) (Nat.le_refl _) (Nat.zero_add _) (Nat.zero_add _)
      · cases hq
end MJJ
