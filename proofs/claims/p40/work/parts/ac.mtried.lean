/-! TRIED, in the model -/
def kW_mt2 (c : Nat) (i : Int) : Prop := jW_lt 1 c i ∨ jW_fo c i ∨ (c = 92 ∧ (i = 2 ∨ (33 ≤ i ∧ i ≤ 38)))
section KTB
variable {w : Nat} {σ τ : jg_M} {T T' G : Nat} {g : gM} {x y i : Int} {KV : jg_M → Prop} {KI : Int → jg_M → Prop}
end KTB
