/-! PACKED, in the reference -/
section KBE
def kb_MM (σ : jg_M) (D : Int → Prop) (P : kb_P) : Prop := σ.1 92 52 = P.1 ∧ (∀ s, D s → σ.1 (92 + 34) s = P.2.1 s) ∧ ∀ i, 0 ≤ i → i < 1000 → σ.1 (92 + 35) i = P.2.2.1 i ∧ (P.2.2.1 i ≠ 0 → σ.1 (92 + 36) i = P.2.2.2 i)
variable {w : Nat} {σ τ : jg_M} {n m k c o t : Nat} {g : gM} {S : jn_Q} {L : Int → Int → Nat} {s x : Int} {P : kb_P} {D : Int → Prop} {fo : Int → Nat} {KV : jg_M → Prop} {KI : Int → jg_M → Prop}
end KBE
