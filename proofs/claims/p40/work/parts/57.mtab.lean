/-! The reference's tables, with actions; and AFTER where there are no STATES -/
def jW_lt (c : Int) (a : Nat) (i : Int) : Prop := (a = 92 ∧ ((33 ≤ i ∧ i ≤ 36) ∨ i = 38)) ∨ jW_ef c a i ∨ jW_ls c a i ∨ jW_ac c a i
def jn_MT (σ : jg_M) (a c : Int) (g : gM) : Prop := jn_Mg σ a g ∧ (σ.1 92 36 = c ∧ 0 ≤ c ∧ c ≤ 1) ∧ ∃ e f, jn_lEF g e f ∧ σ.1 (92 + 20) c = ((e : Nat) : Int) ∧ (∀ k, 0 ≤ k → k < 5 → σ.1 (92 + 21) (5 * c + k) = ((f k : Nat) : Int)) ∧
  ((g 0 1 = 0 ∧ σ.1 (92 + 13) c = 0 ∧ σ.1 (92 + 22) c = 0) ∨ (0 < g 0 1 ∧ ∃ S L, jn_all g = some S ∧ jn_lL g e f S L ∧ jn_RK σ c g S ∧ jn_LMm σ c S L ∧ jn_MC σ c g S L (fun _ => 0) 0))
section JMT
variable {w : Nat} {σ : jg_M} {g : gM} {a c : Int} {K : jg_M → Prop} {KI : Int → jg_M → Prop}
end JMT
