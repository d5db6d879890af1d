/-! BACK, in both -/
section KZB
variable {w : Nat} {σ τ : jg_M} {T a n0 : Nat} {g : gM} {K : kr_K} {n x o rd tk : Int} {KV : jg_M → Prop} {KI : Int → jg_M → Prop}
def kW_tw (c : Nat) (i : Int) : Prop := c = 92 + 38 ∨ (c = 92 ∧ 58 ≤ i ∧ i ≤ 60)
theorem jm_takeRow (hs : jg_sh a = (20, n0)) (ha : a ≠ 92 + 38 ∧ a ≠ 92) (ho : 0 ≤ o ∧ o + 43 ≤ n0 ∧ n0 ≤ 2000) (hM : kz_M σ a o K rd tk) (h40 : K.1 ≤ 40) (hk : ∀ τ, jF kW_tw σ τ → kz_N τ K rd tk → KV τ) : jg_CV w 0 mm_X12_take [.ref 92, .ref a, .int (.ofInt o)] σ KV := by
  obtain ⟨hst, h58, h59, h60⟩ := hM
  have hloop : ∀ (m k : Nat) (τ : jg_M), k + m = 40 → jF (fun c i => c = 92 + 38) σ τ → (∀ i : Nat, i < k → τ.1 (92 + 38) i = σ.1 a (o + i)) → jg_GV w 0 mm_X12_take 2 [.ref 92, .ref a, .int (.ofInt o), .int (.ofInt (k : Int))] τ KV := by
    intro m
    induction m with
    | zero =>
      intro k τ hkm hf hz
      refine jb_X12_take_2 rfl hs ?_
      rw [jr_wr (show jr (k : Int) by omega), jr_wr (show jr (o + 40) by omega), jr_wr (show jr (o + 41) by omega), jr_wr (show jr (o + 42) by omega)]
      refine jn_ite (fun _ => ⟨by omega, ?_⟩) (fun h => by omega)
      rw [(hf.1 _ _ (by omega)).trans h58]
      intro τ1 h1
      have e59 : τ1.1 a (o + 41) = tk := by rw [h1, js_In (Or.inl (by omega)), hf.1 _ _ (by omega)]; exact h59
      rw [e59]
      refine ⟨by omega, ?_⟩
      intro τ2 h2
      have e60 : τ2.1 a (o + 42) = rd := by rw [h2, js_In (Or.inl (by omega)), h1, js_In (Or.inl (by omega)), hf.1 _ _ (by omega)]; exact h60
      rw [e60]
      refine ⟨by omega, ?_⟩
      intro τ3 h3
      have hf3 : jF (fun c i => c = 92 ∧ 58 ≤ i ∧ i ≤ 60) τ τ3 := by
        rw [h3, h2, h1]
        exact jF_toI (jF_toI (jF_I ⟨rfl, by omega, by omega⟩) ⟨rfl, by omega, by omega⟩) ⟨rfl, by omega, by omega⟩
      refine hk τ3 (jF_tr (jF_mono hf (fun c i q => by unfold kW_tw; omega)) (jF_mono hf3 (fun c i q => by unfold kW_tw; omega))) ⟨⟨?_, fun i hi => ?_⟩, ?_, ?_⟩
      · rw [h3, js_In (Or.inr (by decide)), h2, js_In (Or.inr (by decide)), h1, js_Is]
      · rw [hf3.1 _ _ (by omega), hz i (by omega)]; exact hst i hi
      · rw [h3, js_Is]
      · rw [h3, js_In (Or.inr (by decide)), h2, js_Is]
    | succ m ih =>
      intro k τ hkm hf hz
      refine jb_X12_take_2 rfl hs ?_
      rw [jr_wr (show jr (k : Int) by omega), jr_wr (show jr (o + (k : Int)) by omega), hf.1 a (o + (k : Int)) (by omega)]
      refine jn_ite (fun h => by omega) (fun _ => ⟨by omega, by omega, ?_⟩)
      intro τ1 h1
      have hf1 : jF (fun c i => c = 92 + 38 ∧ i = k) τ τ1 := by rw [h1]; exact jF_I ⟨rfl, rfl⟩
      rw [show (k : Int) + 1 = ((k + 1 : Nat) : Int) by omega]
      refine ih (k + 1) τ1 (by omega) (jF_tr hf (jF_mono hf1 (fun c i q => q.1))) (fun i hi => ?_)
      by_cases hik : i = k
      · rw [hik, h1]; exact js_Is
      · rw [hf1.1 _ _ (by omega)]; exact hz i (by omega)
  exact jb_X12_take_0 rfl hs (hloop 40 0 σ rfl jF_rf (fun i hi => by omega))
theorem jc_back (hv : jr (σ.1 0 11)) (hC : σ.1 0 11 ≠ 0 → kz_C σ 67 K rd tk) (h40 : K.1 ≤ 40) (k0 : σ.1 0 11 = 0 → KI (-1) σ) (k1 : σ.1 0 11 ≠ 0 → ∀ τ, jF (fun c i => kW_ro 65 c i ∨ (c = 69 ∧ i = 0)) σ τ → kz_C τ 65 K rd tk → τ.1 69 0 = 0 → KI (K.1 : Nat) τ) : jg_CI w 2 mm_X11_back [.ref 0] σ KI := by
  refine jb_X11_back_0 rfl ?_
  rw [jr_wr hv]
  refine jn_ite (fun h => k0 h) (fun h => ?_)
  have hc := hC h
  refine jc_copy rfl rfl (Or.inr (by decide)) hc.1 h40 (fun τ hf hRo e3 e4 => ?_)
  refine jb_X3_forget_0 rfl ?_
  intro τ2 h2
  have hf2 : jF (fun c i => c = 69 ∧ i = 0) τ τ2 := by rw [h2]; exact jF_I ⟨rfl, rfl⟩
  have hR2 : kr_Ro τ2 (0 + 65) K := kr_Ro_fr hRo hf2 (fun i => by omega) (fun i => by omega)
  rw [hR2.1]
  refine k1 h τ2 (jF_tr (jF_mono hf (fun c i q => Or.inl q)) (jF_mono hf2 (fun c i q => Or.inr q))) ⟨hR2, ?_, ?_⟩ (by rw [h2]; exact js_Is)
  · rw [hf2.1 _ _ (by omega)]; exact e3.trans hc.2.1
  · rw [hf2.1 _ _ (by omega)]; exact e4.trans hc.2.2
theorem jm_back (hv : jr (σ.1 92 72)) (hM : σ.1 92 72 ≠ 0 → kz_M σ (92 + 47) 0 K rd tk) (h40 : K.1 ≤ 40) (k0 : σ.1 92 72 = 0 → ∀ τ, τ = jg_sI σ 92 2 0 → KI (-1) τ) (k1 : σ.1 92 72 ≠ 0 → ∀ τ, jF (fun c i => kW_tw c i ∨ (c = 92 ∧ (i = 2 ∨ i = 70))) σ τ → τ.1 92 2 = 0 → τ.1 92 70 = 0 → kz_N τ K rd tk → KI (K.1 : Nat) τ) : jg_CI w 1 mm_X12_back [.ref 92] σ KI := by
  refine jb_X12_back_0 rfl ?_
  intro τ1 h1
  have e72 : τ1.1 92 72 = σ.1 92 72 := by rw [h1, js_In (Or.inr (by decide))]
  have hf1 : jF (fun c i => c = 92 ∧ i = 2) σ τ1 := by rw [h1]; exact jF_I ⟨rfl, rfl⟩
  rw [e72, jr_wr hv]
  refine jn_ite (fun h => k0 h τ1 h1) (fun h => ?_)
  have hm := hM h
  have hm1 : kz_M τ1 (92 + 47) 0 K rd tk := ⟨fun i hi => (hf1.1 _ _ (by omega)).trans (hm.1 i hi), (hf1.1 _ _ (by omega)).trans hm.2.1, (hf1.1 _ _ (by omega)).trans hm.2.2.1, (hf1.1 _ _ (by omega)).trans hm.2.2.2⟩
  refine jm_takeRow (n0 := 43) rfl ⟨by decide, by decide⟩ (by omega) hm1 h40 (fun τ2 hf2 hN2 => ?_)
  intro τ3 h3
  have hf3 : jF (fun c i => c = 92 ∧ i = 70) τ2 τ3 := by rw [h3]; exact jF_I ⟨rfl, rfl⟩
  have hN3 : kz_N τ3 K rd tk := ⟨kr_No_fr hN2.1 hf3 (by omega) (fun i => by omega), (hf3.1 _ _ (by omega)).trans hN2.2.1, (hf3.1 _ _ (by omega)).trans hN2.2.2⟩
  rw [hN3.1.1]
  refine k1 h τ3 (jF_tr (jF_mono hf1 (fun c i q => Or.inr (by omega))) (jF_tr (jF_mono hf2 (fun c i q => Or.inl q)) (jF_mono hf3 (fun c i q => Or.inr (by omega))))) ?_ (by rw [h3, js_Is]) hN3
  rw [hf3.1 _ _ (by omega), hf2.1 _ _ (by unfold kW_tw; omega), h1, js_Is]
end KZB
