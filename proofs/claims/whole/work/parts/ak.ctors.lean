/-! Both constructors, worked out -/
def mi_hp0 : mj_Hp := fun c => if c = 999999 then .inl (3, 6, .inl mj_pl) else .inr (99, [])
def mi_l0 : List Value := [mj_U, mj_U, mj_U, mj_U, mj_U, mj_U, mj_U]
def mi_A : Option mj_Cfg := mi_part true 5000 3 20 mm_L_law (0, mi_l0, [], mi_hp0, 0, 0)
/-- a new desk's cells -/
def mi_sh : jg_M := (fun a i => if a = 0 ∧ i = 3 then 4 else if a = 0 ∧ i = 4 then 26 else if a = 0 ∧ i = 9 then 90 else if (a = 5 ∨ a = 27) ∧ i = 4 then -1 else if a = 2 ∧ i = 1 then -1 else if a = 74 ∧ i = 1 then -1 else 0, fun _ _ => 0)
def mi_Ab : Bool := match mi_A with
  | some (pc, ls, st, hp, sz, sl) => Nat.beq pc 7 && decide (ls = mi_l0) && decide (st = [.ref 0]) && Nat.beq sz 92 && Nat.beq sl 22258 && (List.range 92).all (fun c => mi_b (hp c) (jg_en 140 mi_sh c))
  | none => false
set_option maxRecDepth 100000 in
theorem mi_Abt : mi_Ab = true := by decide +kernel
theorem mi_Aok : ∃ hp, mi_A = some (7, mi_l0, [.ref 0], hp, 92, 22258) ∧ ∀ c, c < 92 → mi_ok (hp c) (jg_en 140 mi_sh c) := by
  have h := mi_Abt
  unfold mi_Ab at h
  split at h
  · rename_i pc ls st hp sz sl hA
    rw [Bool.and_eq_true, Bool.and_eq_true, Bool.and_eq_true, Bool.and_eq_true, Bool.and_eq_true] at h
    obtain ⟨⟨⟨⟨⟨h1, h2⟩, h3⟩, h4⟩, h5⟩, h6⟩ := h
    refine ⟨hp, ?_, mi_all h6⟩
    rw [hA, Nat.eq_of_beq_eq_true h1, of_decide_eq_true h2, of_decide_eq_true h3, Nat.eq_of_beq_eq_true h4, Nat.eq_of_beq_eq_true h5]
  · cases h
def mi_h7 : mj_Hp := fun c => if c < 92 then jg_en 140 mi_sh c else mi_hp0 c
def mi_l1 : List Value := [mj_U, .ref 0, mj_U, mj_U, mj_U, mj_U, mj_U]
def mi_P : Option mj_Cfg := mi_part true 5000 3 20 mm_L_law (7, mi_l0, [.ref 0], mi_h7, 92, 22258)
/-- behind 'new LalrDeskModel' -/
def mi_h8 : mj_Hp := match mi_P with
  | some (_, _, _, hp, _, _) => hp
  | none => mi_h7
def mi_Pb : Bool := match mi_P with
  | some (pc, ls, st, hp, sz, sl) => Nat.beq pc 12 && decide (ls = mi_l1) && decide (st = [.ref 92, .ref 92]) && Nat.beq sz 93 && Nat.beq sl 22332
  | none => false
set_option maxRecDepth 100000 in
theorem mi_Pbt : mi_Pb = true := by decide +kernel
theorem mi_Pok : mi_P = some (12, mi_l1, [.ref 92, .ref 92], mi_h8, 93, 22332) := by
  have h := mi_Pbt
  unfold mi_Pb at h
  split at h
  · rename_i pc ls st hp sz sl hA
    rw [Bool.and_eq_true, Bool.and_eq_true, Bool.and_eq_true, Bool.and_eq_true] at h
    obtain ⟨⟨⟨⟨h1, h2⟩, h3⟩, h4⟩, h5⟩ := h
    have e : mi_h8 = hp := by unfold mi_h8; rw [hA]
    rw [e, hA, Nat.eq_of_beq_eq_true h1, of_decide_eq_true h2, of_decide_eq_true h3, Nat.eq_of_beq_eq_true h4, Nat.eq_of_beq_eq_true h5]
  · cases h
def mi_B : Option mj_Cfg := mi_part true 5000 282 19 mm_X12_init (0, [.ref 92], [], mi_h8, 93, 22332)
/-- the model's cells before its first text -/
def mi_sm : jg_M := (fun a i => if a < 92 then mi_sh.1 a i else if a = 92 ∧ i = 5 then -1 else if a = 92 ∧ i = 66 then -1 else if a = 94 then kt_wl.getD i.toNat 0 else 0, fun _ _ => 0)
def mi_Bb : Bool := match mi_B with
  | some (pc, ls, st, hp, sz, sl) => Nat.beq pc 524 && decide (ls = [.ref 92]) && decide (st = []) && Nat.beq sz 140 && Nat.beq sl 62825 && (List.range 140).all (fun c => mi_b (hp c) (jg_en 140 mi_sm c))
  | none => false
set_option maxRecDepth 100000 in
theorem mi_Bbt : mi_Bb = true := by decide +kernel
theorem mi_Bok : ∃ hp, mi_B = some (524, [.ref 92], [], hp, 140, 62825) ∧ ∀ c, c < 140 → mi_ok (hp c) (jg_en 140 mi_sm c) := by
  have h := mi_Bbt
  unfold mi_Bb at h
  split at h
  · rename_i pc ls st hp sz sl hA
    rw [Bool.and_eq_true, Bool.and_eq_true, Bool.and_eq_true, Bool.and_eq_true, Bool.and_eq_true] at h
    obtain ⟨⟨⟨⟨⟨h1, h2⟩, h3⟩, h4⟩, h5⟩, h6⟩ := h
    refine ⟨hp, ?_, mi_all h6⟩
    rw [hA, Nat.eq_of_beq_eq_true h1, of_decide_eq_true h2, of_decide_eq_true h3, Nat.eq_of_beq_eq_true h4, Nat.eq_of_beq_eq_true h5]
  · cases h
