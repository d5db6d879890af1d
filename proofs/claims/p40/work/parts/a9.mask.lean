/-! ASK, in the model -/
def kW_ak (c : Nat) (i : Int) : Prop := kW_ms c i ∨ c = 92 + 45
section KQC
variable {w : Nat} {σ τ : jg_M} {T a n d : Nat} {g : gM} {N : kn_N} {K : kr_K} {x l i p : Int} {KV : jg_M → Prop} {KI : Int → jg_M → Prop}
end KQC
