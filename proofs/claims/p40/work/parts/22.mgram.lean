/-! THE REFERENCE'S GRAMMAR: b its bank of grammars, c its bank of tables -/
def jn_Mg (σ : jg_M) (b : Int) (g : gM) : Prop := (σ.1 92 35 = b ∧ (0 ≤ b ∧ b ≤ 1) ∧ σ.1 92 33 = g 0 3 ∧ σ.1 92 34 = g 0 4 ∧ σ.1 (92 + 3) b = g 0 0 ∧ σ.1 (92 + 4) b = g 0 1 ∧ σ.1 (92 + 5) b = g 0 2) ∧
  ∀ r, 0 ≤ r → r < g 0 2 → σ.1 (92 + 10) (13 * b + r) = g 3 r ∧ σ.1 (92 + 11) (13 * b + r) = g 4 r ∧ ∀ d, 0 ≤ d → d < g 4 r → σ.1 (92 + 12) (4 * (13 * b + r) + d) = g 5 (r * 4 + d)
def jn_mx (s : Int) : Int := if s < 0 then -1 else if s < 10 then s else s - 3
section JMR
variable {w : Nat} {σ : jg_M} {g : gM} {x y z b c r k : Int} {e : Nat} {f : Int → Nat} {K : Int → jg_M → Prop}
end JMR
