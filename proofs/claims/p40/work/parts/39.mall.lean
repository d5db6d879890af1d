/-! The TABLES in the reference -/
def jn_MC (σ : jg_M) (c : Int) (g : gM) (S : jn_Q) (L : Int → Int → Nat) (fo : Int → Nat) (y : Int) : Prop := (∀ s t, 0 ≤ s → s < S.1 → 0 ≤ t → t ≤ g 0 0 → σ.1 (92 + 19) (8 * (48 * c + s) + t) = (jn_AP g S L fo y s t).1) ∧ jn_CO σ c (jn_lm g S L fo y) 6144
def jW_ac (c : Int) (a : Nat) (i : Int) : Prop := (a = 92 + 22 ∧ i = c) ∨ (a = 92 + 23 ∧ c = 0) ∨ (a = 92 + 19 ∧ 384 * c ≤ i ∧ i < 384 * c + 384)
section JML
variable {w : Nat} {σ : jg_M} {g : gM} {x r k a b s t y : Int} {c : Int} {e m : Nat} {f fo : Int → Nat} {S S' : jn_Q} {L L' : Int → Int → Nat} {lm : Nat → Nat} {K : jg_M → Prop} {KI : Int → jg_M → Prop}
end JML
