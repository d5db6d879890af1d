/-! READING, in the reference -/
section KRM
def kr_Mo (σ : jg_M) (K : kr_K) : Prop := σ.1 92 54 = (K.1 : Nat) ∧ ∀ i : Nat, i < K.1 → σ.1 (92 + 37) (i : Int) = K.2 i
def kW_co (c : Nat) (i : Int) : Prop := c = 92 + 37 ∨ (c = 92 ∧ 54 ≤ i ∧ i ≤ 56)
/-- what a reader needs of the reference's tables -/
def kr_MV (σ : jg_M) (b : Int) (g : gM) : Prop := (0 ≤ b ∧ b ≤ 1) ∧ (∀ r, 0 ≤ r → r < g 0 2 → σ.1 (92 + 10) r = g 3 r ∧ σ.1 (92 + 11) r = g 4 r) ∧ (∀ s x, 0 ≤ s → s < (kg_S g).1 → 0 ≤ x → x < 12 → σ.1 (92 + 16) (12 * (48 * b + s) + x) = kr_mv g s (jn_sy x)) ∧ ∀ s t, 0 ≤ s → s < (kg_S g).1 → 0 ≤ t → t ≤ g 0 0 → σ.1 (92 + 19) (8 * (48 * b + s) + t) = kr_ac g s t
variable {w : Nat} {σ τ : jg_M} {n : Nat} {g : gM} {K : kr_K} {b v k t : Int} {KV : jg_M → Prop} {KI : Int → jg_M → Prop}
theorem kr_MV_of (hG : jn_Mg σ 0 g) (hc : 0 ≤ b ∧ b ≤ 1) (h : kg_MT σ b g 0) (h0 : 0 < g 0 1) : kr_MV σ b g := by
  obtain ⟨_, _, h3⟩ := h
  rcases h3 with h3 | ⟨_, q1, q2, q3, q4, q5⟩
  · omega
  · refine ⟨hc, fun r r0 r1 => ?_, fun s x s0 s1 x0 x1 => q3.2.2 s x s0 s1 x0 x1, fun s t s0 s1 t0 t1 => q5.1 s t s0 s1 t0 t1⟩
    have := hG.2 r r0 r1
    rw [show 13 * 0 + r = r by omega] at this
    exact ⟨this.1, this.2.1⟩
theorem kr_MV_fr {W : Nat → Int → Prop} (h : kr_MV σ b g) (hf : jF W σ τ) (hn : ∀ c i, c = 92 + 10 ∨ c = 92 + 11 ∨ c = 92 + 16 ∨ c = 92 + 19 → ¬ W c i) : kr_MV τ b g :=
  ⟨h.1, fun r r0 r1 => ⟨(hf.1 _ _ (hn _ _ (by omega))).trans (h.2.1 r r0 r1).1, (hf.1 _ _ (hn _ _ (by omega))).trans (h.2.1 r r0 r1).2⟩, fun s x s0 s1 x0 x1 => (hf.1 _ _ (hn _ _ (by omega))).trans (h.2.2.1 s x s0 s1 x0 x1), fun s t s0 s1 t0 t1 => (hf.1 _ _ (hn _ _ (by omega))).trans (h.2.2.2 s t s0 s1 t0 t1)⟩
end KRM
