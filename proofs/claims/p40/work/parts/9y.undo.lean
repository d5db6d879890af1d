/-! UNDO, in both -/
abbrev kz_H : Type := Nat → kr_K × Int × Int
/-- what was READ before, the oldest first: the model's rows -/
def kz_RM (σ : jg_M) (c : Nat) (h : kz_H) : Prop := (σ.1 92 70 = (c : Nat) ∧ c ≤ 20) ∧ ∀ i : Nat, i < c → (h i).1.1 ≤ 40 ∧ kz_M σ (92 + 46) (43 * (i : Int)) (h i).1 (h i).2.1 (h i).2.2
/-- one place of the class' ring -/
def kz_sl (σ : jg_M) (s : Int) (K : kr_K) (rd tk : Int) : Prop := (∀ j : Nat, j < K.1 → σ.1 70 (s * 40 + j) = K.2 j) ∧ σ.1 71 s = (K.1 : Nat) ∧ σ.1 72 s = rd ∧ σ.1 73 s = tk
def kz_at (p c i : Nat) : Nat := (p + 20 - (c - 1 - i)) % 20
def kz_RC (σ : jg_M) (c : Nat) (h : kz_H) : Prop := ∃ p : Nat, σ.1 69 1 = (p : Nat) ∧ p < 20 ∧ (σ.1 69 0 = (c : Nat) ∧ c ≤ 20) ∧ ∀ i : Nat, i < c → (h i).1.1 ≤ 40 ∧ kz_sl σ ((kz_at p c i : Nat) : Int) (h i).1 (h i).2.1 (h i).2.2
section KZC
variable {w : Nat} {σ τ : jg_M} {c : Nat} {h : kz_H} {K : kr_K} {n x o rd tk : Int} {KV : jg_M → Prop} {KI : Int → jg_M → Prop}
theorem jc_undo (hR : kz_RC σ c h) (k0 : c = 0 → KI (-1) σ) (k1 : 0 < c → ∀ τ, jF (fun c i => kW_ro 65 c i ∨ (c = 69 ∧ (i = 0 ∨ i = 1))) σ τ → kz_C τ 65 (h (c - 1)).1 (h (c - 1)).2.1 (h (c - 1)).2.2 → kz_RC τ (c - 1) h → KI ((c - 1 : Nat) : Int) τ) : jg_CI w 2 mm_X11_undo [.ref 0] σ KI := by
  obtain ⟨p, p1, p2, ⟨c1, c2⟩, hs⟩ := hR
  refine jb_X11_undo_0 rfl (jb_X3_takeBack_0 rfl rfl ?_)
  have c1' : σ.1 (0 + 69) 0 = (c : Nat) := c1
  have p1' : σ.1 (0 + 69) 1 = (p : Nat) := p1
  rw [c1', jr_wr (show jr ((c : Nat) : Int) by omega)]
  refine jn_ite (fun e => k0 (by omega)) (fun e => ?_)
  rw [p1', jr_wr (show jr (((p : Nat) : Int) * 40) by omega)]
  refine ⟨by omega, ?_⟩
  intro τ1 h1
  have hat : kz_at p c (c - 1) = p := by unfold kz_at; omega
  have hsl := (hs (c - 1) (by omega)).2
  rw [hat] at hsl
  have h40 := (hs (c - 1) (by omega)).1
  have hc1 : ∀ c i, c ≠ 66 → τ1.1 c i = σ.1 c i := fun c i hc => by
    rw [h1]
    show (if _ then _ else _) = _
    rw [if_neg (fun q => hc q.1)]
  have hv1 : ∀ j : Nat, j < 40 → τ1.1 66 (j : Int) = σ.1 70 ((p : Int) * 40 + j) := fun j hj => by
    rw [h1]
    show (if _ then _ else _) = _
    rw [if_pos ⟨rfl, by omega, by omega⟩, show (j : Int) - 0 = j by omega]
  have wp := jr_wr (show jr ((p : Nat) : Int) by omega)
  have e1 : τ1.1 (0 + 69) 1 = (p : Nat) := (hc1 _ _ (by decide)).trans p1
  rw [e1, wp]
  refine ⟨by omega, ?_⟩
  intro τ2 h2
  have e2 : τ2.1 (0 + 69) 1 = (p : Nat) := by rw [h2, js_In (Or.inl (by decide))]; exact e1
  rw [e2, wp]
  refine ⟨by omega, ?_⟩
  intro τ3 h3
  have e3 : τ3.1 (0 + 69) 1 = (p : Nat) := by rw [h3, js_In (Or.inl (by decide))]; exact e2
  rw [e3, wp]
  refine ⟨by omega, ?_⟩
  intro τ4 h4
  have e4 : τ4.1 (0 + 69) 1 = (p : Nat) := by rw [h4, js_In (Or.inl (by decide))]; exact e3
  rw [e4, wp]
  have f14 : jF (fun c i => c = 65 ∧ 2 ≤ i ∧ i ≤ 4) τ1 τ4 := by
    rw [h4, h3, h2]
    exact jF_toI (jF_toI (jF_I ⟨rfl, by omega, by omega⟩) ⟨rfl, by omega, by omega⟩) ⟨rfl, by omega, by omega⟩
  have f4 : jF (kW_ro 65) σ τ4 := jF_tr ⟨fun c i q => hc1 c i (fun hc => q (Or.inl hc)), fun c i q => by rw [h1]; rfl⟩ (jF_mono f14 (fun c i q => Or.inr q))
  have hC4 : kz_C τ4 65 (h (c - 1)).1 (h (c - 1)).2.1 (h (c - 1)).2.2 := by
    refine ⟨⟨?_, fun i hi => ?_⟩, ?_, ?_⟩
    · rw [h4, js_In (Or.inr (by decide)), h3, js_In (Or.inr (by decide)), h2, js_Is]
      exact (hc1 71 _ (by decide)).trans hsl.2.1
    · rw [f14.1 _ _ (by omega)]
      exact (hv1 i (by omega)).trans (hsl.1 i hi)
    · rw [h4, js_In (Or.inr (by decide)), h3, js_Is, h2, js_In (Or.inl (by decide))]
      exact (hc1 72 _ (by decide)).trans hsl.2.2.1
    · rw [h4, js_Is, h3, js_In (Or.inl (by decide)), h2, js_In (Or.inl (by decide))]
      exact (hc1 73 _ (by decide)).trans hsl.2.2.2
  have hend : ∀ (p' : Nat) (τ5 τ6 : jg_M), p' < 20 → (∀ i : Nat, i < c - 1 → kz_at p' (c - 1) i = kz_at p c i) → τ5 = jg_sI τ4 69 1 ((p' : Nat) : Int) → τ6 = jg_sI τ5 69 0 (τ5.1 69 0 - 1) → KI (τ6.1 69 0) τ6 := by
    intro p' τ5 τ6 hp' hpa h5 h6
    have e50 : τ5.1 69 0 = (c : Nat) := by rw [h5, js_In (Or.inr (by decide)), f4.1 _ _ (by unfold kW_ro; omega)]; exact c1
    have e60 : τ6.1 69 0 = ((c - 1 : Nat) : Int) := by rw [h6, js_Is, e50]; omega
    have f6 : jF (fun c i => c = 69 ∧ (i = 0 ∨ i = 1)) τ4 τ6 := by rw [h6, h5]; exact jF_toI (jF_I ⟨rfl, by omega⟩) ⟨rfl, by omega⟩
    rw [e60]
    have fe : ∀ a i, 70 ≤ a → a ≤ 73 → τ6.1 a i = σ.1 a i := fun a i a1 a2 => (f6.1 _ _ (by omega)).trans (f4.1 _ _ (by unfold kW_ro; omega))
    refine k1 (by omega) τ6 (jF_tr (jF_mono f4 (fun c i q => Or.inl q)) (jF_mono f6 (fun c i q => Or.inr q))) ⟨kr_Ro_fr hC4.1 f6 (fun i => by omega) (fun i => by omega), (f6.1 _ _ (by omega)).trans hC4.2.1, (f6.1 _ _ (by omega)).trans hC4.2.2⟩ ⟨p', by rw [h6, js_In (Or.inr (by decide)), h5, js_Is], hp', ⟨e60, by omega⟩, fun i hi => ⟨(hs i (by omega)).1, ?_⟩⟩
    have := (hs i (by omega)).2
    rw [hpa i hi]
    exact ⟨fun j hj => (fe _ _ (by decide) (by decide)).trans (this.1 j hj), (fe _ _ (by decide) (by decide)).trans this.2.1, (fe _ _ (by decide) (by decide)).trans this.2.2.1, (fe _ _ (by decide) (by decide)).trans this.2.2.2⟩
  refine jn_ite (fun hz => ?_) (fun hnz => ?_)
  · intro τ5 h5 τ6 h6
    exact hend 19 τ5 τ6 (by omega) (fun i hi => by unfold kz_at; omega) h5 h6
  · intro τ5 h5 τ6 h6
    rw [show ((p : Nat) : Int) - 1 = ((p - 1 : Nat) : Int) by omega] at h5
    exact hend (p - 1) τ5 τ6 (by omega) (fun i hi => by unfold kz_at; omega) h5 h6
end KZC
