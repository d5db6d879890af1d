/-! THE LAW'S FRAME: its rows, its script's loads, its calls -/
def lk_M (nm : String) : mj_Inf := (16, ⟨R_law, nm, "([I)Z"⟩, code, 7, some .boolean, [], 1, mr_L_law)
theorem lk_len : mr_L_law.length ≤ 850 := by decide +kernel
theorem lk_dk : ∀ r ∈ mr_L_law, mj_dk mm_L_law r = true := by
  intro r hr
  obtain ⟨k, hk⟩ := List.getElem?_of_mem hr
  have hk1 : k < mr_L_law.length := (List.getElem?_eq_some_iff.mp hk).1
  have hk2 := lk_len
  have h9 : ∀ j, ((mr_L_law.drop j).take 50).all (mj_dk mm_L_law) = true → j ≤ k → k < j + 50 → mj_dk mm_L_law r = true := by
    intro j h h1 h2
    refine List.all_eq_true.mp h r (List.mem_of_getElem? (i := k - j) ?_)
    rw [List.getElem?_take, if_pos (by omega), List.getElem?_drop, show j + (k - j) = k by omega]
    exact hk
  rcases Nat.lt_or_ge k 50 with q | q
  · exact h9 0 mj_dk_law0 (by omega) (by omega)
  rcases Nat.lt_or_ge k 100 with q | q
  · exact h9 50 mj_dk_law1 (by omega) (by omega)
  rcases Nat.lt_or_ge k 150 with q | q
  · exact h9 100 mj_dk_law2 (by omega) (by omega)
  rcases Nat.lt_or_ge k 200 with q | q
  · exact h9 150 mj_dk_law3 (by omega) (by omega)
  rcases Nat.lt_or_ge k 250 with q | q
  · exact h9 200 mj_dk_law4 (by omega) (by omega)
  rcases Nat.lt_or_ge k 300 with q | q
  · exact h9 250 mj_dk_law5 (by omega) (by omega)
  rcases Nat.lt_or_ge k 350 with q | q
  · exact h9 300 mj_dk_law6 (by omega) (by omega)
  rcases Nat.lt_or_ge k 400 with q | q
  · exact h9 350 mj_dk_law7 (by omega) (by omega)
  rcases Nat.lt_or_ge k 450 with q | q
  · exact h9 400 mj_dk_law8 (by omega) (by omega)
  rcases Nat.lt_or_ge k 500 with q | q
  · exact h9 450 mj_dk_law9 (by omega) (by omega)
  rcases Nat.lt_or_ge k 550 with q | q
  · exact h9 500 mj_dk_law10 (by omega) (by omega)
  rcases Nat.lt_or_ge k 600 with q | q
  · exact h9 550 mj_dk_law11 (by omega) (by omega)
  rcases Nat.lt_or_ge k 650 with q | q
  · exact h9 600 mj_dk_law12 (by omega) (by omega)
  rcases Nat.lt_or_ge k 700 with q | q
  · exact h9 650 mj_dk_law13 (by omega) (by omega)
  rcases Nat.lt_or_ge k 750 with q | q
  · exact h9 700 mj_dk_law14 (by omega) (by omega)
  rcases Nat.lt_or_ge k 800 with q | q
  · exact h9 750 mj_dk_law15 (by omega) (by omega)
  · exact h9 800 mj_dk_law16 (by omega) (by omega)
def lk_q (pc : Nat) (r : Instr × Nat × Nat × Nat) : Bool := decide (mj_find mr_L_law pc = some r)
/-- a plain instruction -/
def lk_i (pc : Nat) (i : Instr) : Bool := lk_q pc (i, 0, 0, 0)
section LKA
variable {pc a b f : Nat} {i : Instr} {nm : String}
theorem lk_find (h : lk_q pc (i, a, b, f) = true) : mj_find mr_L_law pc = some (i, a, b, f) := of_decide_eq_true h
theorem lk_dkM {M : mj_Inf} (h : mj_dk M (pc, i, a, b, f) = true) : decode M.2.2.1 pc = .ok (i, mj_len i b) := of_decide_eq_true h
theorem lk_dec (h : lk_q pc (i, a, b, f) = true) : decode code pc = .ok (i, mj_len i b) := lk_dkM (M := mm_L_law) (lk_dk _ (mj_find_mem (lk_find h)))
theorem lk_rk (h : lk_q pc (i, a, b, f) = true) (hb : Nat.beq b 99 = false) : mj_rk mm_L_law (pc, i, a, b, f) = true := by
  have h1 := List.all_eq_true.mp mj_rk_law _ (mj_find_mem (lk_find h))
  dsimp only at h1
  rw [hb] at h1
  exact h1
theorem lk_rk2 (h : mj_rk mm_L_law (pc, i, a, b, f) = true) (hi : ∀ k, i ≠ .putfield k) : mj_rk (lk_M nm) (pc, i, a, b, f) = true := by
  cases i <;> first | exact h | (exact absurd rfl (hi _))
/-- an int of the script is laid on the stack -/
def lk_ab (pc k : Nat) : Bool := lk_i pc (.aload_n 0) && lk_i (pc + 1) (.iload 4) && lk_i (pc + 3) (.iconst k) && lk_i (pc + 4) .iadd && lk_i (pc + 5) .iaload
def lk_as (pc j : Nat) : Nat → Bool
  | 0 => true
  | n + 1 => lk_ab pc j && lk_as (pc + 6) (j + 1) n
/-- the stack behind them -/
def lk_pu (xs : Nat → Int32) (iv j : Nat) : Nat → List Value → List Value
  | 0, st => st
  | n + 1, st => lk_pu xs iv (j + 1) n (.int (Int32.ofInt (xs (iv + j)).toInt) :: st)
end LKA
section LKB
variable {p : Program} {l : Launch} {e : Env} {s : State} {m : MethodId} {below : List Frame} {meth : Method} {c : Code} {b L B t : Nat} {xs : Nat → Int32} {H : Heap} {locs : List Loc} {cells slots : Nat} {Q : State → Prop} {ls : Array Slot} {cA : Nat → ClassId} {D : va_G} {σ τ : jg_M} {r y d pc ix f n iv : Nat}
theorem lk_args (C0 : lw_At p s m meth c b L xs) (hL : L ≤ 3072) (hS : va_S (mj_A s.heap.size) s.heap H locs) (h0 : ls[0]? = some (.val (.ref b))) (h4 : ls[4]? = some (.val (.int (nI iv)))) : ∀ (n pc j : Nat) (st : List Value), lk_as pc j n = true → iv + j + n ≤ L →
    W p l e room_1 s m #[Value.ref b] below meth c H locs cells slots Q (F0 m (pc + 6 * n) ls ((lk_pu xs iv j n st).map (mj_v s.heap.size t))) → W p l e room_1 s m #[Value.ref b] below meth c H locs cells slots Q (F0 m pc ls (st.map (mj_v s.heap.size t))) := by
  obtain ⟨hx, hb, hr, hml, hown, hts, hX, hbl, hlocks, hgv⟩ := C0
  have hbA : ¬ mj_A s.heap.size b := Nat.not_le.mpr hbl
  intro n
  induction n with
  | zero => intro pc j st _ _ h; exact h
  | succ n ih =>
    intro pc j st hq hj kk
    unfold lk_as lk_ab lk_i at hq
    simp only [Bool.and_eq_true] at hq
    obtain ⟨⟨⟨⟨⟨q1, q2⟩, q3⟩, q4⟩, q5⟩, hq⟩ := hq
    refine lv_aload_n hx hb (lk_dec q1) rfl h0 ?_
    refine lv_iload hx hb (lk_dec q2) h4 ?_
    refine lv_iconst (v := nI j) hx hb (lk_dec q3) rfl ?_
    refine lv_iadd hx hb (lk_dec q4) ?_
    rw [nI_add]
    have hin : vp_in (nI (iv + j)) L := vp_in_nI (by omega) (by omega)
    refine va_sld hx hb hX hbl hbA hS hin (lk_dec q5) ?_
    rw [nI_clamp (by omega)]
    have k2 := ih (pc + 6) (j + 1) (.int (Int32.ofInt (xs (iv + j)).toInt) :: st) hq (by omega) (by rw [show pc + 6 + 6 * n = pc + 6 * (n + 1) by omega]; exact kk)
    rw [List.map_cons] at k2
    rw [Int32.ofInt_toInt] at k2
    exact k2
theorem lk_Fr (C0 : lw_At p s m meth c b L xs) : mj_Fr p s m #[Value.ref b] c (lk_M meth.name) := by
  obtain ⟨hx, hb, hr, hml, hown, hts, hX, hbl, hlocks, hgv⟩ := C0
  exact ⟨hx, hb, hml, hown, fun w hw => hts w (List.mem_filter.mp hw).1⟩
/-- a call on the desk or on the reference -/
theorem lk_call {M : mj_Inf} {As : List Value} {st st' : List Value} {K : Int → jg_M → Prop} (C0 : lw_At p s m meth c b L xs) (hK : mj_K s.heap.size t cA D s) (hsz : ls.size = 7) (hc1 : cells ≤ 601024) (hc2 : slots ≤ 7293034) (hq : lk_q pc (.invokevirtual ix, y, 0, f) = true) (hM : mj_ms[y]? = some M)
    (hn : mj_pop M.2.2.2.2.2.2.1 [] st = some (As, .ref r :: st')) (hs : jg_sh r = (M.1, 0)) (hc : M.1 < 13) (hl : (mj_flat (.ref r :: As)).length ≤ M.2.2.2.1 ∧ mj_lok M.2.2.2.2.2.1 0 (mj_flat (.ref r :: As)) = true) (hct : (st'.map Value.category).sum ≤ 8)
    (hd : d ≤ 20) (h : jg_CI 141 d M (.ref r :: As) σ K) (hH : mj_hd s.heap.size t cA D (jg_en 141 σ) 141 H) (hS : va_S (mj_A s.heap.size) s.heap H locs)
    (kk : ∀ z τ, K z τ → ∀ H1 locs1, mj_hd s.heap.size t cA D (jg_en 141 τ) 141 H1 → va_S (mj_A s.heap.size) s.heap H1 locs1 → W p l e room_1 s m #[Value.ref b] below meth c H1 locs1 cells slots Q (F0 m (pc + 3) ls ((.int (Int32.ofInt z) :: st').map (mj_v s.heap.size t)))) :
    W p l e room_1 s m #[Value.ref b] below meth c H locs cells slots Q (F0 m pc ls (st.map (mj_v s.heap.size t))) := by
  obtain ⟨k, v, τ, h1, z, rfl, hz⟩ := (jg_CI.mono h hd (fun _ _ q => q) : jg_CI 141 20 M (.ref r :: As) σ K)
  have e1 : mj_nof y = M.2.2.2.2.2.2.1 := by unfold mj_nof; rw [hM]
  have e2 : mj_Cof y = M.1 := by unfold mj_Cof; rw [hM]
  have hcall : mj_cf false mj_ms k 21 y (.ref r :: As) (jg_en 141 σ) 141 slots = some (some (.int (Int32.ofInt z)), jg_en 141 τ, 141, slots) := by
    unfold mj_cf
    dsimp only
    rw [hM]
    dsimp only
    rw [if_pos hl]
    exact h1 141 slots
  refine mj_simE (M := lk_M meth.name) (al := false) (call := mj_cf false mj_ms k 21) (d := 21) (lst := []) (a := y) (b := 0) (sl := slots) (sl' := slots) (lst' := []) (pc' := pc + 3) (st' := .int (Int32.ofInt z) :: st') (lk_Fr C0) hK (Nat.le_refl _) (fun h => by cases h) hH hS hsz rfl (lk_dec hq) (lk_rk2 (lk_rk hq rfl) (fun k => by simp)) mj_Ca_run (by decide) (by decide) ⟨by rw [Nat.sub_self]; exact hc1, by rw [Nat.sub_self]; exact hc2⟩ (hp' := jg_en 141 τ) (sz' := 141) ?_ (fun H1 locs1 a1 a2 _ => ?_)
  · rw [mj_stE0, e1, e2, hn]
    dsimp only
    rw [jg_en_obj hs hc]
    dsimp only
    rw [if_pos ⟨rfl, hct⟩, hcall]
    rfl
  · rw [Nat.sub_self, Nat.sub_self]
    exact kk z τ hz H1 locs1 a1 a2
end LKB
