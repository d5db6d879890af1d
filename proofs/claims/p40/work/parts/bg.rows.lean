/-! The rows that the law reads, TOKEN by TOKEN -/
abbrev zr_tk (p m t : Nat) (st : List Nat) : Option (Option (Bool × Nat × List Nat)) := zt_take zg_1_d zg_1_q (zr_T p m) t st
def zr_p4 (p : Nat) : Option (Bool × Nat × List Nat) := if p = 0 then some (false, 2, [3, 2, 0]) else if p = 1 then some (false, 1, [3, 5, 3, 2, 0]) else none
def zr_m8 (m : Nat) : Option (Bool × Nat × List Nat) := if m = 0 then some (false, 2, [4, 5, 3, 2, 0]) else if m = 1 then some (false, 1, [4, 6, 4, 5, 3, 2, 0]) else none
def zr_p9 (p : Nat) : Option (Bool × Nat × List Nat) := if p = 0 then some (false, 3, [3, 2, 0]) else if p = 1 then some (false, 2, [3, 5, 3, 2, 0]) else none
def zr_q (a b : Option (Bool × Nat × List Nat)) : Bool := match a, b with
  | none, none => true
  | some x, some y => (x.1 == y.1) && (Nat.beq x.2.1 y.2.1 && decide (x.2.2 = y.2.2))
  | _, _ => false
def zr_qq (a : Option (Option (Bool × Nat × List Nat))) (b : Option (Bool × Nat × List Nat)) : Bool := match a with
  | some x => zr_q x b
  | none => false
theorem zr_eq {a : Option (Option (Bool × Nat × List Nat))} {b : Option (Bool × Nat × List Nat)} (h : zr_qq a b = true) : a = some b := by
  unfold zr_qq at h
  split at h
  · rename_i x
    unfold zr_q at h
    split at h
    · rfl
    · rename_i x y
      rw [Bool.and_eq_true, Bool.and_eq_true, Nat.beq_eq, decide_eq_true_iff, beq_iff_eq] at h
      exact congrArg (fun z => some (some z)) (Prod.ext h.1 (Prod.ext h.2.1 h.2.2))
    · cases h
  · cases h
theorem zr_rows : ∀ p, p < 3 → ∀ m, m < 3 → ((zr_tk p m 2 [0] = some (some (false, 0, [1, 0])) ∧ zr_tk p m 0 [1, 0] = some (some (false, 1, [3, 2, 0])) ∧ zr_tk p m 2 [3, 2, 0] = some (some (false, 0, [1, 3, 2, 0]))) ∧
    (zr_tk p m 0 [1, 3, 2, 0] = some (zr_p4 p) ∧ zr_tk p m 1 [1, 3, 2, 0] = some (some (false, 1, [4, 5, 3, 2, 0])) ∧ zr_tk p m 2 [4, 5, 3, 2, 0] = some (some (false, 0, [1, 4, 5, 3, 2, 0])))) ∧
    (zt_en zg_1_d zg_1_q (zr_T p m) 3 [1, 4, 5, 3, 2, 0] = some true ∧ zr_tk p m 1 [1, 4, 5, 3, 2, 0] = some (zr_m8 m) ∧ zr_tk p m 0 [1, 4, 5, 3, 2, 0] = some (zr_p9 p)) := by
  intro p hp m hm
  rcases (show p = 0 ∨ p = 1 ∨ p = 2 by omega) with rfl | rfl | rfl <;> rcases (show m = 0 ∨ m = 1 ∨ m = 2 by omega) with rfl | rfl | rfl <;> exact ⟨⟨⟨by decide +kernel, by decide +kernel, by decide +kernel⟩, ⟨zr_eq (by decide +kernel), by decide +kernel, by decide +kernel⟩⟩, by decide +kernel, zr_eq (by decide +kernel), zr_eq (by decide +kernel)⟩
theorem zg_3_rows : ((zt_take zg_3_d zg_3_q zg_3_T 2 [0] = some (some (false, 0, [2, 0])) ∧ zt_ex zg_3_d zg_3_q zg_3_T [2, 0] 3 = some 1 ∧ zt_en zg_3_d zg_3_q zg_3_T 3 [2, 0] = some true) ∧
    (zt_take zg_3_d zg_3_q zg_3_T 0 [2, 0] = some (some (false, 1, [8, 4, 0])) ∧ zt_ex zg_3_d zg_3_q zg_3_T [8, 4, 0] 3 = some 6 ∧ zt_en zg_3_d zg_3_q zg_3_T 3 [8, 4, 0] = some false)) ∧
    (zt_take zg_3_d zg_3_q zg_3_T 0 [8, 4, 0] = some none ∧ zt_wn zg_3_d zg_3_q zg_3_T 1 [0] = some 1 ∧ zt_wn zg_3_d zg_3_q zg_3_T 0 [0] = some (-2)) := by decide +kernel
theorem zg_4_rows : (zt_take zg_4_d zg_4_q zg_4_T 0 [0] = some (some (false, 1, [3, 2, 0])) ∧ zt_en zg_4_d zg_4_q zg_4_T 1 [3, 2, 0] = some true) ∧ zt_ex zg_4_d zg_4_q zg_4_T [3, 2, 0] 1 = some 0 := by decide +kernel
