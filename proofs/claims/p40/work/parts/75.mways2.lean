/-! SHORTEST, in the reference: all of it -/
section KAX
variable {zN : Int} {w : Nat} {σ τ : jg_M} {g : gM} {S : jn_Q} {V W : ka_Ve} {KV : jg_M → Prop}
/-- what the reference's rows ARE -/
def ka_XM (σ : jg_M) (g : gM) : Prop := ka_KR (-1) (σ.1 (92 + 30)) (σ.1 (92 + 29)) (ka_VK g) ∧ ((g 0 1 = 0 ∧ ∀ s, 0 ≤ s → s < 48 → σ.1 (92 + 31) s = -1) ∨ (0 < g 0 1 ∧ ∃ S, jn_all g = some S ∧ ka_WR (-1) (σ.1 (92 + 32)) (σ.1 (92 + 31)) (ka_VW g S)))
end KAX
