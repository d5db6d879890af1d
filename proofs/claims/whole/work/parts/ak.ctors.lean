/-! Both constructors, worked out -/
def mi_hp0 : mj_Hp := fun c => if c = 999999 then .inl (3, 6, .inl mj_pl) else .inr (99, [])
/-- behind 'new LalrDesk' -/
def mi_h1 : mj_Hp := mj_set mi_hp0 0 (.inr (11, (List.range (mj_N 11)).map (fun k => defaultValue (mj_ty 11 k))))
def mi_C : Option mj_Res := mj_cf true mj_ms 5000 20 146 [.ref 0] mi_h1 1 15
/-- a new desk's cells -/
def mi_sh : jg_M := (fun a i => if a = 0 ∧ i = 3 then 4 else if a = 0 ∧ i = 4 then 26 else if a = 0 ∧ i = 9 then 90 else if (a = 5 ∨ a = 27) ∧ i = 4 then -1 else if a = 2 ∧ i = 1 then -1 else if a = 74 ∧ i = 1 then -1 else 0, fun _ _ => 0)
def mi_Cb : Bool := match mi_C with
  | some (v, hp, sz, sl) => decide (v = none) && Nat.beq sz 92 && Nat.beq sl 22258 && (List.range 92).all (fun c => mi_b (hp c) (jg_en 140 mi_sh c))
  | none => false
set_option maxRecDepth 100000 in
theorem mi_Cbt : mi_Cb = true := by decide +kernel
theorem mi_Cok : ∃ hp, mi_C = some (none, hp, 92, 22258) ∧ ∀ c, c < 92 → mi_ok (hp c) (jg_en 140 mi_sh c) := by
  have h := mi_Cbt
  unfold mi_Cb at h
  split at h
  · rename_i v hp sz sl hA
    rw [Bool.and_eq_true, Bool.and_eq_true, Bool.and_eq_true] at h
    obtain ⟨⟨⟨h1, h4⟩, h5⟩, h6⟩ := h
    refine ⟨hp, ?_, mi_all h6⟩
    rw [hA, of_decide_eq_true h1, Nat.eq_of_beq_eq_true h4, Nat.eq_of_beq_eq_true h5]
  · cases h
def mi_h7 : mj_Hp := fun c => if c < 92 then jg_en 140 mi_sh c else mi_hp0 c
/-- behind 'new LalrDeskModel' -/
def mi_h8 : mj_Hp := mj_set mi_h7 92 (.inr (12, (List.range (mj_N 12)).map (fun k => defaultValue (mj_ty 12 k))))
def mi_B : Option mj_Cfg := mi_part true 5000 282 19 mm_X12_init (0, [.ref 92], [], mi_h8, 93, 22332)
/-- the model's cells before its first text -/
def mi_sm : jg_M := (fun a i => if a < 92 then mi_sh.1 a i else if a = 92 ∧ i = 5 then -1 else if a = 92 ∧ i = 66 then -1 else if a = 94 then kt_wl.getD i.toNat 0 else 0, fun _ _ => 0)
def mi_Bb : Bool := match mi_B with
  | some (pc, ls, st, hp, sz, sl) => Nat.beq pc 524 && decide (ls = [.ref 92]) && decide (st = []) && Nat.beq sz 140 && Nat.beq sl 62825 && (List.range 140).all (fun c => mi_b (hp c) (jg_en 140 mi_sm c))
  | none => false
set_option maxRecDepth 100000 in
theorem mi_Bbt : mi_Bb = true := by decide +kernel
theorem mi_Bok : ∃ hp, mi_B = some (524, [.ref 92], [], hp, 140, 62825) ∧ ∀ c, c < 140 → mi_ok (hp c) (jg_en 140 mi_sm c) := by
  have h := mi_Bbt
  unfold mi_Bb at h
  split at h
  · rename_i pc ls st hp sz sl hA
    rw [Bool.and_eq_true, Bool.and_eq_true, Bool.and_eq_true, Bool.and_eq_true, Bool.and_eq_true] at h
    obtain ⟨⟨⟨⟨⟨h1, h2⟩, h3⟩, h4⟩, h5⟩, h6⟩ := h
    refine ⟨hp, ?_, mi_all h6⟩
    rw [hA, Nat.eq_of_beq_eq_true h1, of_decide_eq_true h2, of_decide_eq_true h3, Nat.eq_of_beq_eq_true h4, Nat.eq_of_beq_eq_true h5]
  · cases h
/-- beyond the cells that are there -/
theorem mi_wf140 {σ : jg_M} : mj_wf (jg_en 140 σ) 140 := by
  refine ⟨by decide, fun k hk => ?_⟩
  have hs : jg_sh k = (99, 0) := by
    unfold jg_sh
    rw [List.getD_eq_getElem?_getD, List.getElem?_eq_none (show jg_T.length ≤ k from hk)]
    rfl
  unfold jg_en
  rw [hs]
  dsimp only
  rw [if_neg (by decide), if_neg (by decide), if_neg (by decide), if_neg (by decide), if_neg (fun q => absurd q.2 (by decide))]
  by_cases h9 : k = 999999
  · rw [if_pos h9]; exact Or.inr ⟨h9, rfl⟩
  · rw [if_neg h9]; exact Or.inl rfl
theorem mi_wf7 : mj_wf mi_h7 92 := by
  refine ⟨by decide, fun k hk => ?_⟩
  unfold mi_h7 mi_hp0
  rw [if_neg (by omega)]
  by_cases h9 : k = 999999
  · rw [if_pos h9]; exact Or.inr ⟨h9, rfl⟩
  · rw [if_neg h9]; exact Or.inl rfl
theorem mi_wf0 : mj_wf mi_hp0 0 := by
  refine ⟨by decide, fun k hk => ?_⟩
  unfold mi_hp0
  by_cases h9 : k = 999999
  · rw [if_pos h9]; exact Or.inr ⟨h9, rfl⟩
  · rw [if_neg h9]; exact Or.inl rfl
