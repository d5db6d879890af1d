/-! THE STATES in the reference: bank c -/
def jn_sy (x : Int) : Int := if x < 7 then x else x + 3
def jW_ls (c : Int) (a : Nat) (i : Int) : Prop := (a = 92 + 13 ∧ i = c) ∨ ((a = 92 + 14 ∨ a = 92 + 15 ∨ a = 92 + 18) ∧ 3120 * c ≤ i ∧ i < 3120 * c + 3120) ∨ (a = 92 + 16 ∧ 576 * c ≤ i ∧ i < 576 * c + 576) ∨ (a = 92 + 17 ∧ 48 * c ≤ i ∧ i < 48 * c + 48) ∨ a = 92 + 24
section JMS
variable {w : Nat} {σ : jg_M} {g : gM} {x a b c s : Int} {k k' : Nat} {S S' : jn_Q} {K : jg_M → Prop} {KI : Int → jg_M → Prop}
end JMS
