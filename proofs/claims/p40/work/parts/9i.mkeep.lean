/-! A TEXT taken, in the reference -/
def ku_RM (σ : jg_M) (g : gM) : Prop := (g 0 1 = 0 ∧ ∀ i, 0 ≤ i → i < 5 → σ.1 (92 + 28) i = 0) ∨ (0 < g 0 1 ∧ jn_all g = some (kg_S g) ∧ jn_FP g (kg_S g) ∧ (σ.1 (92 + 28) 0 = (jn_nu (kg_S g) 240 : Nat) ∧ σ.1 (92 + 28) 1 = (jn_ct (jn_rp (kg_e g) (kg_S g)) 1200 : Nat) ∧ σ.1 (92 + 28) 2 = (jn_pc (jn_Ib g (kg_e g) (kg_S g) 240 0 0) : Nat) ∧ σ.1 (92 + 28) 3 = (jn_ct (jn_lk g (kg_S g)) 2880 : Nat) ∧ σ.1 (92 + 28) 4 = (jn_ct (jn_ld (jn_wf (jn_Ib g (kg_e g) (kg_S g) 240 0 0) 240) 240) 240 : Nat)) ∧ ∃ a, jn_lA g (kg_e g) (kg_S g) a ∧ jn_AM σ (kg_S g) a)
def ku_MP (σ : jg_M) (g : gM) : Prop := kb_MM σ (fun j => 0 < g 0 1 ∧ 0 ≤ j ∧ j < (kg_S g).1) (ku_P g)
/-- what the model knows of its grammar -/
def ku_MG (σ : jg_M) (g : gM) : Prop := (kt_ok g ∧ kt_GM σ 0 g (g 0 2)) ∧ kg_MT σ 0 g 0 ∧ ku_RM σ g ∧ ka_XM σ g ∧ ku_MP σ g
def kW_m0 (c : Nat) (i : Int) : Prop := ((c = 92 + 13 ∨ c = 92 + 20 ∨ c = 92 + 22) ∧ i = 0) ∨ (c = 92 + 21 ∧ 0 ≤ i ∧ i < 5) ∨ ((c = 92 + 14 ∨ c = 92 + 15 ∨ c = 92 + 18) ∧ 0 ≤ i ∧ i < 3120) ∨ (c = 92 + 16 ∧ 0 ≤ i ∧ i < 576) ∨ (c = 92 + 17 ∧ 0 ≤ i ∧ i < 48) ∨ (c = 92 + 19 ∧ 0 ≤ i ∧ i < 384) ∨ c = 92 + 23
def kW_kt (c : Nat) (i : Int) : Prop := (92 + 3 ≤ c ∧ c ≤ 92 + 38) ∨ (c = 92 ∧ ((33 ≤ i ∧ i ≤ 38) ∨ i = 48 ∨ i = 52 ∨ (58 ≤ i ∧ i ≤ 60) ∨ i = 65 ∨ i = 66 ∨ i = 70 ∨ i = 72))
section KUC
variable {w : Nat} {σ σ0 τ : jg_M} {a n0 n p k : Nat} {B : Nat → Int} {g g' : gM} {y : Int} {KV : jg_M → Prop} {KI : Int → jg_M → Prop} {x v e : Int} {W : Nat → Int → Prop}
theorem kt_GM_Mb {b : Int} (h : kt_GM σ b g (g 0 2)) : jn_Mb σ b g := ⟨h.1, h.2.2.2⟩
theorem kg_MT_fr (h : kg_MT σ 0 g y) (hf : jF W σ τ) (hg : 0 ≤ g 0 0 ∧ g 0 0 ≤ 7) (hn : ∀ c i, kW_m0 c i → ¬ W c i) : kg_MT τ 0 g y := by
  obtain ⟨h1, h2, h3⟩ := h
  refine ⟨(hf.1 _ _ (hn _ _ (by unfold kW_m0; omega))).trans h1, fun k k0 k1 => (hf.1 _ _ (hn _ _ (by unfold kW_m0; omega))).trans (h2 k k0 k1), ?_⟩
  rcases h3 with ⟨q1, q2, q3⟩ | ⟨q1, q2, q3, q4, q5, q6⟩
  · exact Or.inl ⟨q1, (hf.1 _ _ (hn _ _ (by unfold kW_m0; omega))).trans q2, (hf.1 _ _ (hn _ _ (by unfold kW_m0; omega))).trans q3⟩
  · have hI := q3.1.1
    refine Or.inr ⟨q1, q2, q3, ⟨(hf.1 _ _ (hn _ _ (by unfold kW_m0; omega))).trans q4.1, fun j j0 j1 => ⟨fun i hi => (hf.1 _ _ (hn _ _ (by unfold kW_m0; omega))).trans ((q4.2.1 j j0 j1).1 i hi), fun i hi => (hf.1 _ _ (hn _ _ (by unfold kW_m0; omega))).trans ((q4.2.1 j j0 j1).2.1 i hi), (hf.1 _ _ (hn _ _ (by unfold kW_m0; omega))).trans (q4.2.1 j j0 j1).2.2⟩, fun s x s0 s1 x0 x1 => (hf.1 _ _ (hn _ _ (by unfold kW_m0; omega))).trans (q4.2.2 s x s0 s1 x0 x1)⟩, fun s i s0 s1 i0 i1 => (hf.1 _ _ (hn _ _ (by unfold kW_m0; omega))).trans (q5 s i s0 s1 i0 i1), fun s t s0 s1 t0 t1 => (hf.1 _ _ (hn _ _ (by unfold kW_m0; omega))).trans (q6.1 s t s0 s1 t0 t1), (hf.1 _ _ (hn _ _ (by unfold kW_m0; omega))).trans q6.2.1, fun c0 j hj hb => (hf.1 _ _ (hn _ _ (by unfold kW_m0; omega))).trans (q6.2.2 c0 j hj hb)⟩
theorem ku_RM_fr (h : ku_RM σ g) (hf : jF W σ τ) (hn : ∀ i, ¬ W (92 + 26) i ∧ ¬ W (92 + 28) i) : ku_RM τ g := by
  have e : ∀ i, τ.1 (92 + 28) i = σ.1 (92 + 28) i := fun i => hf.1 _ _ (hn i).2
  rcases h with ⟨q1, q2⟩ | ⟨q1, q2, q3, q4, a, q5, q6⟩
  · exact Or.inl ⟨q1, fun i i0 i1 => (e i).trans (q2 i i0 i1)⟩
  · exact Or.inr ⟨q1, q2, q3, by simpa only [e] using q4, a, q5, fun m hm => (hf.1 _ _ (hn _).1).trans (q6 m hm)⟩
theorem ku_XM_fr (h : ka_XM σ g) (hf : jF W σ τ) (hn : ∀ c i, 92 + 29 ≤ c → c ≤ 92 + 32 → ¬ W c i) : ka_XM τ g := by
  have e : ∀ c, 92 + 29 ≤ c → c ≤ 92 + 32 → τ.1 c = σ.1 c := fun c c1 c2 => funext fun i => hf.1 _ _ (hn c i c1 c2)
  unfold ka_XM at h ⊢
  rw [e (92 + 29) (by omega) (by omega), e (92 + 30) (by omega) (by omega), e (92 + 31) (by omega) (by omega), e (92 + 32) (by omega) (by omega)]
  exact h
theorem ku_MP_fr (h : ku_MP σ g) (hf : jF W σ τ) (h0 : ¬ W 92 52) (hn : ∀ c i, 92 + 34 ≤ c → c ≤ 92 + 36 → ¬ W c i) : ku_MP τ g := by
  have e : ∀ c, 92 + 34 ≤ c → c ≤ 92 + 36 → τ.1 c = σ.1 c := fun c c1 c2 => funext fun i => hf.1 _ _ (hn c i c1 c2)
  unfold ku_MP kb_MM at h ⊢
  rw [e (92 + 34) (by omega) (by omega), e (92 + 35) (by omega) (by omega), e (92 + 36) (by omega) (by omega), hf.1 _ _ h0]
  exact h
theorem kt_GM_fr0 (h : kt_GM σ 0 g (g 0 2)) (hok : kt_ok g) (hf : jF W σ τ) (hn : ∀ c i, ((92 + 3 ≤ c ∧ c ≤ 92 + 5 ∧ i = 0) ∨ ((c = 92 + 6 ∨ c = 92 + 8 ∨ c = 92 + 9) ∧ 0 ≤ i ∧ i < 7) ∨ (c = 92 + 7 ∧ 0 ≤ i ∧ i < 5) ∨ ((c = 92 + 10 ∨ c = 92 + 11) ∧ 0 ≤ i ∧ i < 13) ∨ (c = 92 + 12 ∧ 0 ≤ i ∧ i < 52)) → ¬ W c i) : kt_GM τ 0 g (g 0 2) := by
  have hw := hok.1.1.1
  obtain ⟨⟨a0, a1, a2, a3⟩, ⟨b1, b2⟩, c, d⟩ := h
  refine ⟨⟨a0, (hf.1 _ _ (hn _ _ (by omega))).trans a1, (hf.1 _ _ (hn _ _ (by omega))).trans a2, (hf.1 _ _ (hn _ _ (by omega))).trans a3⟩, ⟨fun t t0 t1 => (hf.1 _ _ (hn _ _ (by omega))).trans (b1 t t0 t1), fun t t0 t1 => (hf.1 _ _ (hn _ _ (by omega))).trans (b2 t t0 t1)⟩, fun t t0 t1 => ⟨(hf.1 _ _ (hn _ _ (by omega))).trans (c t t0 t1).1, (hf.1 _ _ (hn _ _ (by omega))).trans (c t t0 t1).2⟩, fun r r0 r1 => ⟨(hf.1 _ _ (hn _ _ (by omega))).trans (d r r0 r1).1, (hf.1 _ _ (hn _ _ (by omega))).trans (d r r0 r1).2.1, fun e e0 e1 => ?_⟩⟩
  have := (hok.1.1.2.1 r r0 r1).2.1
  exact (hf.1 _ _ (hn _ _ (by omega))).trans ((d r r0 r1).2.2 e e0 e1)
end KUC
