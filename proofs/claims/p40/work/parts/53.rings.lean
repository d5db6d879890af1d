/-! Rings, in the reference -/
def jn_st (R : Nat → Nat → Prop) (k m t : Nat) : Prop := R m t ∨ (R m k ∧ R k t)
def jn_wf (R : Nat → Nat → Prop) : Nat → Nat → Nat → Prop
  | 0 => R
  | k + 1 => jn_st (jn_wf R k) k
def jn_mu (R : Nat → Nat → Prop) (m t : Nat) : Prop := t ≠ m ∧ R m t ∧ R t m
noncomputable def jn_ld (R : Nat → Nat → Prop) (N m : Nat) : Bool := @decide ((∃ t, t < N ∧ jn_mu R m t) ∧ ∀ t, t < N → jn_mu R m t → m < t) (Classical.propDecidable _)
theorem jn_ld_iff {R : Nat → Nat → Prop} {N m : Nat} : jn_ld R N m = true ↔ (∃ t, t < N ∧ jn_mu R m t) ∧ ∀ t, t < N → jn_mu R m t → m < t := @decide_eq_true_iff _ (Classical.propDecidable _)
section JRI
variable {w : Nat} {σ : jg_M} {g : gM} {r s x : Int} {e N m k : Nat} {S : jn_Q} {R : Nat → Nat → Prop} {K : jg_M → Prop}
end JRI
