/-! KEEP, in both -/
/-- what is READ with its counts, laid in a row of the model -/
def kz_M (σ : jg_M) (a : Nat) (o : Int) (K : kr_K) (rd tk : Int) : Prop := (∀ i : Nat, i < K.1 → σ.1 a (o + i) = K.2 i) ∧ σ.1 a (o + 40) = (K.1 : Nat) ∧ σ.1 a (o + 41) = tk ∧ σ.1 a (o + 42) = rd
/-- and in the class -/
def kz_C (σ : jg_M) (R : Nat) (K : kr_K) (rd tk : Int) : Prop := kr_Ro σ R K ∧ σ.1 R 3 = rd ∧ σ.1 R 4 = tk
/-- what is READ now in the model -/
def kz_N (σ : jg_M) (K : kr_K) (rd tk : Int) : Prop := kr_No σ K ∧ σ.1 92 60 = rd ∧ σ.1 92 59 = tk
section KZA
variable {w : Nat} {σ τ : jg_M} {T a n0 : Nat} {g : gM} {K : kr_K} {n x o rd tk : Int} {KV : jg_M → Prop} {KI : Int → jg_M → Prop}
theorem jm_put (hs : jg_sh a = (20, n0)) (ha : a ≠ 92 + 38 ∧ a ≠ 92) (ho : 0 ≤ o ∧ o + 43 ≤ n0 ∧ n0 ≤ 2000) (hN : kz_N σ K rd tk) (h40 : K.1 ≤ 40) (hk : ∀ τ, jF (fun c i => c = a ∧ o ≤ i ∧ i < o + 43) σ τ → kz_M τ a o K rd tk → KV τ) : jg_CV w 0 mm_X12_put [.ref 92, .ref a, .int (.ofInt o)] σ KV := by
  obtain ⟨⟨hn, hst⟩, h60, h59⟩ := hN
  have hloop : ∀ (m k : Nat) (τ : jg_M), k + m = 40 → jF (fun c i => c = a ∧ o ≤ i ∧ i < o + 43) σ τ → (∀ i : Nat, i < k → τ.1 a (o + i) = σ.1 (92 + 38) i) → jg_GV w 0 mm_X12_put 2 [.ref 92, .ref a, .int (.ofInt o), .int (.ofInt (k : Int))] τ KV := by
    intro m
    induction m with
    | zero =>
      intro k τ hkm hf hz
      refine jb_X12_put_2 rfl hs ?_
      rw [jr_wr (show jr (k : Int) by omega), jr_wr (show jr (o + 40) by omega), jr_wr (show jr (o + 41) by omega), jr_wr (show jr (o + 42) by omega)]
      refine jn_ite (fun _ => ⟨by omega, ?_⟩) (fun h => by omega)
      intro τ1 h1
      refine ⟨by omega, ?_⟩
      intro τ2 h2
      refine ⟨by omega, ?_⟩
      intro τ3 h3
      have e58 : τ.1 92 58 = (K.1 : Nat) := (hf.1 _ _ (by omega)).trans hn
      have e59 : τ1.1 92 59 = tk := by rw [h1, js_In (Or.inl (by omega)), hf.1 _ _ (by omega)]; exact h59
      have e60 : τ2.1 92 60 = rd := by rw [h2, js_In (Or.inl (by omega)), h1, js_In (Or.inl (by omega)), hf.1 _ _ (by omega)]; exact h60
      rw [e58] at h1
      rw [e59] at h2
      rw [e60] at h3
      have hf3 : jF (fun c i => c = a ∧ o + 40 ≤ i ∧ i < o + 43) τ τ3 := by
        rw [h3, h2, h1]
        exact jF_toI (jF_toI (jF_I ⟨rfl, by omega, by omega⟩) ⟨rfl, by omega, by omega⟩) ⟨rfl, by omega, by omega⟩
      refine hk τ3 (jF_tr hf (jF_mono hf3 (fun c i q => by omega))) ⟨fun i hi => ?_, ?_, ?_, ?_⟩
      · rw [hf3.1 _ _ (by omega), hz i (by omega)]; exact hst i hi
      · rw [h3, js_In (Or.inr (by omega)), h2, js_In (Or.inr (by omega)), h1, js_Is]
      · rw [h3, js_In (Or.inr (by omega)), h2, js_Is]
      · rw [h3, js_Is]
    | succ m ih =>
      intro k τ hkm hf hz
      refine jb_X12_put_2 rfl hs ?_
      rw [jr_wr (show jr (k : Int) by omega), jr_wr (show jr (o + (k : Int)) by omega)]
      refine jn_ite (fun h => by omega) (fun _ => ⟨by omega, by omega, ?_⟩)
      intro τ1 h1
      rw [hf.1 _ _ (by omega)] at h1
      have hf1 : jF (fun c i => c = a ∧ i = o + k) τ τ1 := by rw [h1]; exact jF_I ⟨rfl, rfl⟩
      rw [show (k : Int) + 1 = ((k + 1 : Nat) : Int) by omega]
      refine ih (k + 1) τ1 (by omega) (jF_tr hf (jF_mono hf1 (fun c i q => by omega))) (fun i hi => ?_)
      by_cases hik : i = k
      · rw [hik, h1]; exact js_Is
      · rw [hf1.1 _ _ (by omega)]; exact hz i (by omega)
  exact jb_X12_put_0 rfl hs (hloop 40 0 σ rfl jF_rf (fun i hi => by omega))
theorem jc_keep (hC : kz_C σ 65 K rd tk) (h40 : K.1 ≤ 40) (hk : ∀ τ, jF (fun c i => kW_ro 67 c i ∨ (c = 0 ∧ i = 11)) σ τ → kz_C τ 67 K rd tk → τ.1 0 11 = 1 → KI (K.1 : Nat) τ) : jg_CI w 2 mm_X11_keep [.ref 0] σ KI := by
  refine jb_X11_keep_0 rfl (jc_copy rfl rfl (Or.inl (by decide)) hC.1 h40 (fun τ hf hRo e3 e4 => ?_))
  intro τ2 h2
  have hf2 : jF (fun c i => c = 0 ∧ i = 11) τ τ2 := by rw [h2]; exact jF_I ⟨rfl, rfl⟩
  have e2 : τ2.1 (0 + 65) 2 = (K.1 : Nat) := by rw [hf2.1 _ _ (by omega), hf.1 _ _ (by unfold kW_ro; omega)]; exact hC.1.1
  rw [e2]
  refine hk τ2 (jF_tr (jF_mono hf (fun c i q => Or.inl q)) (jF_mono hf2 (fun c i q => Or.inr q))) ⟨kr_Ro_fr hRo hf2 (fun i => by omega) (fun i => by omega), ?_, ?_⟩ (by rw [h2, js_Is])
  · rw [hf2.1 _ _ (by omega)]; exact e3.trans hC.2.1
  · rw [hf2.1 _ _ (by omega)]; exact e4.trans hC.2.2
theorem jm_keep (hN : kz_N σ K rd tk) (h40 : K.1 ≤ 40) (hk : ∀ τ, jF (fun c i => c = 92 + 47 ∨ (c = 92 ∧ (i = 2 ∨ i = 72))) σ τ → τ.1 92 2 = 0 → τ.1 92 72 = 1 → kz_M τ (92 + 47) 0 K rd tk → KI (K.1 : Nat) τ) : jg_CI w 1 mm_X12_keep [.ref 92] σ KI := by
  refine jb_X12_keep_0 rfl ?_
  intro τ1 h1 τ2 h2
  have hf2 : jF (fun c i => c = 92 ∧ (i = 2 ∨ i = 72)) σ τ2 := by rw [h2, h1]; exact jF_toI (jF_I ⟨rfl, by omega⟩) ⟨rfl, by omega⟩
  have hN2 : kz_N τ2 K rd tk := ⟨kr_No_fr hN.1 hf2 (by omega) (fun i => by omega), (hf2.1 _ _ (by omega)).trans hN.2.1, (hf2.1 _ _ (by omega)).trans hN.2.2⟩
  refine jm_put (n0 := 43) rfl ⟨by decide, by decide⟩ (by omega) hN2 h40 (fun τ3 hf3 hM => ?_)
  rw [show τ3.1 92 58 = (K.1 : Nat) from (hf3.1 _ _ (by omega)).trans hN2.1.1]
  refine hk τ3 (jF_tr (jF_mono hf2 (fun c i q => by omega)) (jF_mono hf3 (fun c i q => by omega))) ?_ ?_ hM
  · rw [hf3.1 _ _ (by omega), h2, js_In (Or.inr (by decide)), h1, js_Is]
  · rw [hf3.1 _ _ (by omega), h2, js_Is]
end KZA
