/-! MISSING, in the model -/
def kW_im (c : Nat) (i : Int) : Prop := jW_lt 1 c i ∨ kW_co c i ∨ c = 92 + 39
section KPE
variable {w : Nat} {σ τ : jg_M} {G T T' n c a m : Nat} {g : gM} {N : kn_N} {K K' : kr_K} {B : Int → Nat → Prop} {x l i p : Int} {KV : jg_M → Prop} {KI : Int → jg_M → Prop}
theorem kn_M_fr {W : Nat → Int → Prop} (h : kn_M σ N) (hf : jF W σ τ) (h1 : ∀ i, ¬ W (92 + 43) i) (h2 : ¬ W 92 65) (h3 : ¬ W 92 66) : kn_M τ N := by
  obtain ⟨⟨a1, a2⟩, ⟨b1, b2, b3⟩, cc⟩ := h
  exact ⟨⟨(hf.1 _ _ h2).trans a1, a2⟩, ⟨(hf.1 _ _ h3).trans b1, b2, b3⟩, fun i hi => ⟨(hf.1 _ _ (h1 _)).trans (cc i hi).1, (hf.1 _ _ (h1 _)).trans (cc i hi).2.1, (hf.1 _ _ (h1 _)).trans (cc i hi).2.2⟩⟩
theorem kr_MW_of {b : Int} (hW : jn_GW g) (hG : jn_Mg σ 0 g) (hb : 0 ≤ b ∧ b ≤ 1) (h : kg_MT σ b g 0) : kr_MW σ b g := by
  have hw := hW.1
  refine ⟨⟨hW, hb, hG.1.2.2.2.2.1⟩, ?_⟩
  rcases h.2.2 with q | q
  · exact Or.inl ⟨q.1, q.2.1⟩
  · exact Or.inr ⟨q.1, q.2.2.1, q.2.2.2.1.1, kr_MV_of hG hb h q.1⟩
def kW_ms (c : Nat) (i : Int) : Prop := kW_im c i ∨ c = 92 + 44 ∨ (c = 92 ∧ (i = 2 ∨ (33 ≤ i ∧ i ≤ 38)))
end KPE
