/-! KEEP, in both -/
/-- what is READ with its counts, laid in a row of the model -/
def kz_M (σ : jg_M) (a : Nat) (o : Int) (K : kr_K) (rd tk : Int) : Prop := (∀ i : Nat, i < K.1 → σ.1 a (o + i) = K.2 i) ∧ σ.1 a (o + 40) = (K.1 : Nat) ∧ σ.1 a (o + 41) = tk ∧ σ.1 a (o + 42) = rd
/-- and in the class -/
def kz_C (σ : jg_M) (R : Nat) (K : kr_K) (rd tk : Int) : Prop := kr_Ro σ R K ∧ σ.1 R 3 = rd ∧ σ.1 R 4 = tk
/-- what is READ now in the model -/
def kz_N (σ : jg_M) (K : kr_K) (rd tk : Int) : Prop := kr_No σ K ∧ σ.1 92 60 = rd ∧ σ.1 92 59 = tk
section KZA
variable {w : Nat} {σ τ : jg_M} {T a n0 : Nat} {g : gM} {K : kr_K} {n x o rd tk : Int} {KV : jg_M → Prop} {KI : Int → jg_M → Prop}
theorem jc_keep (hC : kz_C σ 65 K rd tk) (h40 : K.1 ≤ 40) (hk : ∀ τ, jF (fun c i => kW_ro 67 c i ∨ (c = 0 ∧ i = 11)) σ τ → kz_C τ 67 K rd tk → τ.1 0 11 = 1 → KI (K.1 : Nat) τ) : jg_CI w 2 mm_X11_keep [.ref 0] σ KI := by
  refine jb_X11_keep_0 rfl (jc_copy rfl rfl (Or.inl (by decide)) hC.1 h40 (fun τ hf hRo e3 e4 => ?_))
  intro τ2 h2
  have hf2 : jF (fun c i => c = 0 ∧ i = 11) τ τ2 := by rw [h2]; exact jF_I ⟨rfl, rfl⟩
  have e2 : τ2.1 (0 + 65) 2 = (K.1 : Nat) := by rw [hf2.1 _ _ (by omega), hf.1 _ _ (by unfold kW_ro; omega)]; exact hC.1.1
  rw [e2]
  refine hk τ2 (jF_tr (jF_mono hf (fun c i q => Or.inl q)) (jF_mono hf2 (fun c i q => Or.inr q))) ⟨kr_Ro_fr hRo hf2 (fun i => by omega) (fun i => by omega), ?_, ?_⟩ (by rw [h2, js_Is])
  · rw [hf2.1 _ _ (by omega)]; exact e3.trans hC.2.1
  · rw [hf2.1 _ _ (by omega)]; exact e4.trans hC.2.2
end KZA
