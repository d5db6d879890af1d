/-! A TEXT, in the reference: all of it -/
def kW_tq (c : Nat) (i : Int) : Prop := kW_tp c i ∨ jW_lt 1 c i
def kW_mg (c : Nat) (i : Int) : Prop := ((92 + 3 ≤ c ∧ c ≤ 92 + 5 ∧ i = 0) ∨ ((c = 92 + 6 ∨ c = 92 + 8 ∨ c = 92 + 9) ∧ 0 ≤ i ∧ i < 7) ∨ (c = 92 + 7 ∧ 0 ≤ i ∧ i < 5) ∨ ((c = 92 + 10 ∨ c = 92 + 11) ∧ 0 ≤ i ∧ i < 13) ∨ (c = 92 + 12 ∧ 0 ≤ i ∧ i < 52)) ∨ kW_m0 c i ∨ c = 92 + 26 ∨ (92 + 28 ≤ c ∧ c ≤ 92 + 32) ∨ (92 + 34 ≤ c ∧ c ≤ 92 + 36) ∨ (c = 92 ∧ i = 52)
section KUE
variable {w : Nat} {σ σ0 τ : jg_M} {a n0 n p k : Nat} {B : Nat → Int} {g g' : gM} {y : Int} {KV : jg_M → Prop} {KI : Int → jg_M → Prop} {x v e : Int} {W : Nat → Int → Prop}
theorem ku_MG_fr (h : ku_MG σ g) (hf : jF W σ τ) (hn : ∀ c i, kW_mg c i → ¬ W c i) : ku_MG τ g := by
  obtain ⟨⟨h1, h2⟩, h3, h4, h5, h6⟩ := h
  have hw := h1.1.1.1
  refine ⟨⟨h1, kt_GM_fr0 h2 h1 hf (fun c i q => hn c i (Or.inl q))⟩, kg_MT_fr h3 hf ⟨by omega, by omega⟩ (fun c i q => hn c i (Or.inr (Or.inl q))), ku_RM_fr h4 hf (fun i => ⟨hn _ _ (Or.inr (Or.inr (Or.inl rfl))), hn _ _ (Or.inr (Or.inr (Or.inr (Or.inl (by omega)))))⟩), ku_XM_fr h5 hf (fun c i c1 c2 => hn _ _ (Or.inr (Or.inr (Or.inr (Or.inl (by omega)))))), ku_MP_fr h6 hf (hn _ _ (Or.inr (Or.inr (Or.inr (Or.inr (Or.inr ⟨rfl, rfl⟩)))))) (fun c i c1 c2 => hn _ _ (Or.inr (Or.inr (Or.inr (Or.inr (Or.inl (by omega)))))))⟩
end KUE
