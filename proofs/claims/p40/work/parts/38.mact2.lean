/-! The ACTIONS and CONFLICTS in the reference, 2 -/
theorem jn_xlo {m i : Nat} (h : m.testBit (jn_lo m) = true) : (m ^^^ 2 ^ jn_lo m).testBit i = true ↔ m.testBit i = true ∧ i ≠ jn_lo m := by
  rw [Nat.testBit_xor]
  by_cases hi : i = jn_lo m
  · rw [hi, h, Nat.testBit_two_pow_self]
    exact ⟨fun q => (by cases q), fun q => absurd rfl q.2⟩
  · rw [Nat.testBit_two_pow_of_ne (fun q => hi q.symm), Bool.xor_false]
    exact ⟨fun q => ⟨q, hi⟩, fun q => q.1⟩
theorem jn_acs_sub {g : gM} {S : jn_Q} {s t : Int} {m : Nat} (hm : m < 4096) : jn_sub (jn_acs g S s t m).2 m := by
  by_cases ha : t = g 0 0 ∧ (jn_clo g (S.2.1 s)).testBit (g 0 2 * 5 + 1).toNat = true
  · rw [jn_acs_acc ha]; exact jn_sub_rf
  · rw [jn_acs_not ha]
    unfold jn_ac1
    split
    · exact jn_sub_0
    · rename_i h0
      split
      · exact jn_sub_rf
      · intro i hi
        exact ((jn_xlo (jn_lo_all hm h0).2.2.2).mp hi).1
noncomputable def jn_lm (g : gM) (S : jn_Q) (L : Int → Int → Nat) (fo : Int → Nat) (y : Int) (cell : Nat) : Nat :=
  if ((cell / 8 : Nat) : Int) < S.1 ∧ ((cell % 8 : Nat) : Int) ≤ g 0 0 then (jn_AP g S L fo y ((cell / 8 : Nat) : Int) ((cell % 8 : Nat) : Int)).2 else 0
section JMB
variable {w : Nat} {σ : jg_M} {g : gM} {x r k a b s t y : Int} {c : Int} {e m : Nat} {f fo : Int → Nat} {S S' : jn_Q} {L L' : Int → Int → Nat} {lm : Nat → Nat} {K : jg_M → Prop} {KI : Int → jg_M → Prop}
theorem jn_lm_lt {cell : Nat} : jn_lm g S L fo y cell < 4096 := by
  unfold jn_lm
  split
  · exact Nat.lt_of_le_of_lt (jn_sub_le (jn_acs_sub jn_rm_lt)) jn_rm_lt
  · decide
end JMB
