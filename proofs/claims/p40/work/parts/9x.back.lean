/-! BACK, in both -/
section KZB
variable {w : Nat} {σ τ : jg_M} {T a n0 : Nat} {g : gM} {K : kr_K} {n x o rd tk : Int} {KV : jg_M → Prop} {KI : Int → jg_M → Prop}
def kW_tw (c : Nat) (i : Int) : Prop := c = 92 + 38 ∨ (c = 92 ∧ 58 ≤ i ∧ i ≤ 60)
theorem jc_back (hv : jr (σ.1 0 11)) (hC : σ.1 0 11 ≠ 0 → kz_C σ 67 K rd tk) (h40 : K.1 ≤ 40) (k0 : σ.1 0 11 = 0 → KI (-1) σ) (k1 : σ.1 0 11 ≠ 0 → ∀ τ, jF (fun c i => kW_ro 65 c i ∨ (c = 69 ∧ i = 0)) σ τ → kz_C τ 65 K rd tk → τ.1 69 0 = 0 → KI (K.1 : Nat) τ) : jg_CI w 2 mm_X11_back [.ref 0] σ KI := by
  refine jb_X11_back_0 rfl ?_
  rw [jr_wr hv]
  refine jn_ite (fun h => k0 h) (fun h => ?_)
  have hc := hC h
  refine jc_copy rfl rfl (Or.inr (by decide)) hc.1 h40 (fun τ hf hRo e3 e4 => ?_)
  refine jb_X3_forget_0 rfl ?_
  intro τ2 h2
  have hf2 : jF (fun c i => c = 69 ∧ i = 0) τ τ2 := by rw [h2]; exact jF_I ⟨rfl, rfl⟩
  have hR2 : kr_Ro τ2 (0 + 65) K := kr_Ro_fr hRo hf2 (fun i => by omega) (fun i => by omega)
  rw [hR2.1]
  refine k1 h τ2 (jF_tr (jF_mono hf (fun c i q => Or.inl q)) (jF_mono hf2 (fun c i q => Or.inr q))) ⟨hR2, ?_, ?_⟩ (by rw [h2]; exact js_Is)
  · rw [hf2.1 _ _ (by omega)]; exact e3.trans hc.2.1
  · rw [hf2.1 _ _ (by omega)]; exact e4.trans hc.2.2
end KZB
