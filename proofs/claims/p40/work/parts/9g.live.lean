/-! A TEXT taken, in the class -/
def ku_RC (σ : jg_M) (A : Nat) (g : gM) : Prop := (g 0 1 = 0 ∧ ∀ i, i = 0 ∨ i = 1 ∨ i = 2 ∨ i = 3 → σ.1 A i = 0) ∨ (0 < g 0 1 ∧ jn_all g = some (kg_S g) ∧ jn_FP g (kg_S g) ∧ jn_NM σ A (kg_S g) 240 ∧ jn_RS σ A g (kg_e g) (kg_S g) 240 ∧ ∃ a, jn_lA g (kg_e g) (kg_S g) a ∧ jn_AF σ A (kg_S g) a)
noncomputable def ku_P (g : gM) : kb_P := if g 0 1 = 0 then kb_P0 else kb_dn (kb_ac g (kg_S g) (kg_L g)) (kb_an g (kg_S g) (kg_L g)) (kg_S g).1.toNat 8 kb_P0
/-- what the desk knows of its grammar -/
def ku_CG (σ : jg_M) (T : Nat) (g : gM) : Prop := ((T = 4 ∨ T = 26) ∧ σ.1 0 3 = (T : Nat) ∧ σ.1 0 4 = 30 - ((T : Nat) : Int)) ∧ (kt_ok g ∧ kt_GC σ (T + 1) g (g 0 2)) ∧ kg_CT σ T g 0 ∧ ku_RC σ 48 g ∧ ka_XS σ 55 g ∧ kb_CM σ 61 (ku_P g)
def kW_ts (c : Nat) (i : Int) : Prop := (c = 0 ∧ (i = 3 ∨ i = 4 ∨ i = 11)) ∨ (48 ≤ c ∧ c ≤ 66) ∨ (c = 69 ∧ i = 0) ∨ (c = 74 ∧ (i = 0 ∨ i = 1)) ∨ (c = 78 ∧ i = 0)
section KUA
variable {w : Nat} {σ σ0 τ : jg_M} {a A T T' n p k : Nat} {B : Nat → Int} {g g' : gM} {y : Int} {P : kb_P} {KV : jg_M → Prop} {KI : Int → jg_M → Prop} {x v e : Int} {W : Nat → Int → Prop}
theorem kg_CT_fr (h : kg_CT σ T g y) (hf : jF W σ τ) (hn : ∀ c i, T + 1 ≤ c → c ≤ T + 21 → ¬ W c i) : kg_CT τ T g y := by
  obtain ⟨h1, h2, h3⟩ := h
  refine ⟨jn_GE_fr h1 hf (fun i _ => hn _ _ (by omega) (by omega)) (fun k i k1 k2 => hn _ _ (by omega) (by omega)), fun k k0 k1 => (hf.1 _ _ (hn _ _ (by omega) (by omega))).trans (h2 k k0 k1), ?_⟩
  rcases h3 with ⟨q1, q2, q3⟩ | ⟨q1, q2, q3, q4, q5, q6, q7⟩
  · exact Or.inl ⟨q1, (hf.1 _ _ (hn _ _ (by omega) (by omega))).trans q2, fun i i0 i1 => ⟨(hf.1 _ _ (hn _ _ (by omega) (by omega))).trans (q3 i i0 i1).1, (hf.1 _ _ (hn _ _ (by omega) (by omega))).trans (q3 i i0 i1).2⟩⟩
  · refine Or.inr ⟨q1, q2, q3, q4, jn_Fx_fr q5 hf (fun a i h => hn _ _ (by omega) (by omega)), fun s i s0 s1 i0 i1 => (hf.1 _ _ (hn _ _ (by omega) (by omega))).trans (q6 s i s0 s1 i0 i1), fun s t s0 s1 t0 t1 => ?_⟩
    rw [hf.1 _ _ (hn _ _ (by omega) (by omega)), hf.1 (T + 21) _ (hn _ _ (by omega) (by omega))]
    exact q7 s t s0 s1 t0 t1
theorem ku_RC_fr (h : ku_RC σ A g) (hf : jF W σ τ) (hn : ∀ c i, A ≤ c → c ≤ A + 5 → ¬ W c i) : ku_RC τ A g := by
  rcases h with ⟨q1, q2⟩ | ⟨q1, q2, q3, q4, q5, a, q6, q7⟩
  · exact Or.inl ⟨q1, fun i hi => (hf.1 _ _ (hn _ _ (by omega) (by omega))).trans (q2 i hi)⟩
  · refine Or.inr ⟨q1, q2, q3, jn_NM_fr q4 hf (hn _ _ (by omega) (by omega)) (fun a i h => hn _ _ (by omega) (by omega)), ⟨jn_RI_fr q5.1 hf (hn _ _ (by omega) (by omega)) (fun i => hn _ _ (by omega) (by omega)), (hf.1 _ _ (hn _ _ (by omega) (by omega))).trans q5.2.1, (hf.1 _ _ (hn _ _ (by omega) (by omega))).trans q5.2.2⟩, a, q6, fun m hm hv => (hf.1 _ _ (hn _ _ (by omega) (by omega))).trans (q7 m hm hv)⟩
theorem ku_XS_fr (h : ka_XS σ a g) (hf : jF W σ τ) (hn : ∀ c i, a + 1 ≤ c → c ≤ a + 4 → ¬ W c i) : ka_XS τ a g := by
  have e : ∀ c, a + 1 ≤ c → c ≤ a + 4 → τ.1 c = σ.1 c := fun c c1 c2 => funext fun i => hf.1 _ _ (hn c i c1 c2)
  unfold ka_XS at h ⊢
  rw [e (a + 1) (by omega) (by omega), e (a + 2) (by omega) (by omega), e (a + 3) (by omega) (by omega), e (a + 4) (by omega) (by omega)]
  exact h
theorem ku_CM_fr (h : kb_CM σ a P) (hf : jF W σ τ) (hn : ∀ c i, a ≤ c → c ≤ a + 3 → ¬ W c i) : kb_CM τ a P := by
  have e : ∀ c, a ≤ c → c ≤ a + 3 → τ.1 c = σ.1 c := fun c c1 c2 => funext fun i => hf.1 _ _ (hn c i c1 c2)
  unfold kb_CM at h ⊢
  rw [e a (by omega) (by omega), e (a + 1) (by omega) (by omega), e (a + 2) (by omega) (by omega), e (a + 3) (by omega) (by omega)]
  exact h
theorem ku_CG_fr (h : ku_CG σ T g) (hf : jF W σ τ) (h3 : ¬ W 0 3) (h4 : ¬ W 0 4) (hn : ∀ c i, (T + 1 ≤ c ∧ c ≤ T + 21) ∨ (48 ≤ c ∧ c ≤ 64) → ¬ W c i) : ku_CG τ T g := by
  obtain ⟨⟨q1, q2, q3⟩, ⟨q4, q5⟩, q6, q7, q8, q9⟩ := h
  exact ⟨⟨q1, (hf.1 _ _ h3).trans q2, (hf.1 _ _ h4).trans q3⟩, ⟨q4, kt_GC_fr q5 hf (fun i => hn _ _ (by omega)) (fun c i c1 c2 => hn _ _ (by omega))⟩, kg_CT_fr q6 hf (fun c i c1 c2 => hn _ _ (by omega)), ku_RC_fr q7 hf (fun c i c1 c2 => hn _ _ (by omega)), ku_XS_fr q8 hf (fun c i c1 c2 => hn _ _ (by omega)), ku_CM_fr q9 hf (fun c i c1 c2 => hn _ _ (by omega))⟩
theorem jc_related (hT : T = 4 ∨ T = 26) (hok : kt_ok g) (hR : jn_TR σ T g 0) (hk : ∀ τ, jF (fun b _ => 48 ≤ b ∧ b ≤ 53) σ τ → ku_RC τ 48 g → KV τ) : jg_CV w 5 mm_X4_make [.ref 48, .ref T] σ KV := by
  have hW := hok.1.1
  have s1 : jg_sh T = (8, 0) := by rcases hT with rfl | rfl <;> rfl
  have s2 : jg_sh (T + 10) = (7, 0) := by rcases hT with rfl | rfl <;> rfl
  have s3 : jg_sh (T + 1) = (0, 0) := by rcases hT with rfl | rfl <;> rfl
  obtain ⟨e, f, fo, h1, h2, h3, h4, h5⟩ := hR
  obtain ⟨q1, q2, q3⟩ := kg_EF_ok hW h1
  rcases h5 with ⟨g0, z1, z2⟩ | ⟨g0, S, L, a1, a2, a3, a4⟩
  · exact jc_X4_make0 rfl s1 s2 s3 (by omega) hW h3.1 z1 (fun τ hf k1 k2 => hk τ hf (Or.inl ⟨g0, k1⟩))
  · have hSe := kg_S_eq a1
    subst hSe
    subst q2
    exact jc_X4_make rfl s1 s2 s3 (by omega) hW g0 hok.1.2.2 a3 (jn_all_FP hW a1) (fun τ a hf k1 k2 k3 k4 => hk τ hf (Or.inr ⟨g0, a1, jn_all_FP hW a1, k1, k2, a, k4, k3⟩))
theorem jc_takeSpare (hT : T = 4 ∨ T = 26) (h3 : σ.1 0 3 = 30 - ((T : Nat) : Int)) (h4 : σ.1 0 4 = (T : Nat)) (hok : kt_ok g) (hG : kt_GC σ (T + 1) g (g 0 2)) (hR : jn_TR σ T g 0)
    (hk : ∀ τ, jF kW_ts σ τ → ku_CG τ T g → kr_Ro τ 65 (kr_I g) → (τ.1 65 3 = 0 ∧ τ.1 65 4 = 0 ∧ τ.1 69 0 = 0 ∧ τ.1 0 11 = 0) → (τ.1 74 0 = 0 ∧ τ.1 74 1 = -1 ∧ τ.1 78 0 = 0) → KV τ) : jg_CV w 6 mm_X11_takeSpare [.ref 0] σ KV := by
  have hW := hok.1.1
  have s1 : jg_sh T = (8, 0) := by rcases hT with rfl | rfl <;> rfl
  have s1' : jg_sh (30 - T) = (8, 0) := by rcases hT with rfl | rfl <;> rfl
  have s2 : jg_sh (T + 10) = (7, 0) := by rcases hT with rfl | rfl <;> rfl
  have s3 : jg_sh (T + 1) = (0, 0) := by rcases hT with rfl | rfl <;> rfl
  have hCT := kg_CT_of hW hR
  refine jb_X11_takeSpare_0 rfl ?_
  rw [h4]
  intro r1 er1
  rw [show r1 = T by omega]
  refine ⟨s1, ?_⟩
  rw [h3]
  intro r2 er2
  rw [show r2 = 30 - T by omega]
  refine ⟨s1', ?_⟩
  intro τ1 e1 τ2 e2
  have hf2 : jF (fun c i => c = 0 ∧ (i = 3 ∨ i = 4)) σ τ2 := by rw [e2, e1]; exact jF_toI (jF_I ⟨rfl, Or.inr rfl⟩) ⟨rfl, Or.inl rfl⟩
  have v3 : τ2.1 0 3 = (T : Nat) := by rw [e2, js_Is]
  have v4 : τ2.1 0 4 = 30 - ((T : Nat) : Int) := by rw [e2, js_In (Or.inr (by decide)), e1, js_Is]; omega
  have hR2 : jn_TR τ2 T g 0 := by
    obtain ⟨e, f, fo, a1, a2, a3, a4, a5⟩ := hR
    refine ⟨e, f, fo, a1, a2, jn_GE_fr a3 hf2 (fun i _ => by omega) (fun k i k1 k2 => by omega), fun k k0 k1 => (hf2.1 _ _ (by omega)).trans (a4 k k0 k1), ?_⟩
    rcases a5 with ⟨b1, b2, b3⟩ | ⟨b1, S, L, b2, b3, b4, b5⟩
    · exact Or.inl ⟨b1, (hf2.1 _ _ (by omega)).trans b2, fun i i0 i1 => ⟨(hf2.1 _ _ (by omega)).trans (b3 i i0 i1).1, (hf2.1 _ _ (by omega)).trans (b3 i i0 i1).2⟩⟩
    · refine Or.inr ⟨b1, S, L, b2, b3, jn_TB_fr b4 hf2 (fun a i h => by omega), fun s t s0 s1 t0 t1 => ?_⟩
      rw [hf2.1 _ _ (by omega), hf2.1 (T + 21) _ (by omega)]
      exact b5 s t s0 s1 t0 t1
  have hCT2 := kg_CT_of hW hR2
  rw [v3]
  intro r3 er3
  rw [show r3 = T by omega]
  refine ⟨s1, ?_⟩
  refine jc_related hT hok hR2 (fun τ3 f3 hRC3 => ?_)
  have v33 : τ3.1 0 3 = (T : Nat) := (f3.1 _ _ (by omega)).trans v3
  have hCT3 := kg_CT_fr hCT2 f3 (fun c i c1 c2 => by omega)
  rw [v33]
  intro r4 er4
  rw [show r4 = T by omega]
  refine ⟨s1, ?_⟩
  have hS3 : (g 0 1 = 0 ∧ τ3.1 (T + 10) 0 = 0) ∨ (0 < g 0 1 ∧ ∃ S, jn_all g = some S ∧ jn_FP g S ∧ ka_MV τ3 (T + 10) S) := by
    rcases hCT3.2.2 with ⟨q1, q2, q3⟩ | ⟨q1, q2, q3, q4, q5, q6, q7⟩
    · exact Or.inl ⟨q1, q2⟩
    · exact Or.inr ⟨q1, _, q2, q3, q5.1.1, q5.2.1⟩
  refine jc_X6_make rfl s1 s3 s2 (by omega) hCT3.1.1 hW hS3 (fun τ4 f4 hXS4 => ?_)
  have v34 : τ4.1 0 3 = (T : Nat) := (f4.1 _ _ (fun q => by unfold kW_xs at q; omega)).trans v33
  have hCT4 := kg_CT_fr hCT3 f4 (fun c i c1 c2 q => by unfold kW_xs at q; omega)
  rw [v34]
  intro r5 er5
  rw [show r5 = T by omega]
  refine ⟨s1, ?_⟩
  have hpk : ∀ (KV : jg_M → Prop), (∀ τ5, jF (kW_pk 61) τ4 τ5 → kb_CM τ5 61 (ku_P g) → KV τ5) → jg_CV w 4 mm_X2_make [.ref 61, .ref T] τ4 KV := by
    intro KV hk5
    unfold ku_P at hk5
    rcases hCT4.2.2 with ⟨q1, q2, q3⟩ | ⟨q1, q2, q3, q4, q5, q6, q7⟩
    · rw [if_pos q1] at hk5
      exact jc_X2_make0 rfl s1 (by omega) q2 hk5
    · rw [if_neg (by omega)] at hk5
      exact jc_X2_make rfl s1 s2 (by omega) hW q5.1.1 q3 q7 hk5
  refine hpk _ (fun τ5 f5 hCM5 => ?_)
  have v35 : τ5.1 0 3 = (T : Nat) := (f5.1 _ _ (fun q => by unfold kW_pk at q; omega)).trans v34
  have hCT5 := kg_CT_fr hCT4 f5 (fun c i c1 c2 q => by unfold kW_pk at q; omega)
  rw [v35]
  intro r6 er6
  rw [show r6 = T by omega]
  refine ⟨s1, ?_⟩
  refine jc_begin rfl s1 (by omega) (kr_CW_of hW hCT5) (fun τ6 f6 hRo6 v63 v64 => ?_)
  refine jb_X3_forget_0 rfl ?_
  intro τ7 e7 τ8 e8
  refine jb_X1_forget_0 rfl ?_
  intro τ9 e9 τ10 e10
  refine jb_X10_forget_0 rfl ?_
  intro τ11 e11
  have f11 : jF (fun c i => (c = 69 ∧ i = 0) ∨ (c = 0 ∧ i = 11) ∨ (c = 74 ∧ (i = 0 ∨ i = 1)) ∨ (c = 78 ∧ i = 0)) τ6 τ11 := by
    rw [e11, e10, e9, e8, e7]
    exact jF_toI (jF_toI (jF_toI (jF_toI (jF_I (by omega)) (by omega)) (by omega)) (by omega)) (by omega)
  have fa : jF kW_ts σ τ6 := jF_tr (jF_mono hf2 (fun c i q => by unfold kW_ts; omega)) (jF_tr (jF_mono f3 (fun c i q => by unfold kW_ts; omega)) (jF_tr (jF_mono f4 (fun c i q => by unfold kW_xs at q; unfold kW_ts; omega)) (jF_tr (jF_mono f5 (fun c i q => by unfold kW_pk at q; unfold kW_ts; omega)) (jF_mono f6 (fun c i q => by unfold kW_ro at q; unfold kW_ts; omega)))))
  have hf3 : jF kW_ts σ τ11 := jF_tr fa (jF_mono f11 (fun c i q => by unfold kW_ts; omega))
  refine hk τ11 hf3 ⟨⟨hT, ?_, ?_⟩, ⟨hok, kt_GC_fr hG hf3 (fun i q => by unfold kW_ts at q; omega) (fun c i c1 c2 q => by unfold kW_ts at q; omega)⟩, ?_, ?_, ?_, ?_⟩ (kr_Ro_fr hRo6 f11 (fun i => by omega) (fun i => by omega)) ⟨(f11.1 _ _ (by omega)).trans v63, (f11.1 _ _ (by omega)).trans v64, ?_, ?_⟩ ⟨?_, ?_, ?_⟩
  · rw [f11.1 _ _ (by omega), f6.1 _ _ (fun q => by unfold kW_ro at q; omega)]; exact v35
  · rw [f11.1 _ _ (by omega), f6.1 _ _ (fun q => by unfold kW_ro at q; omega), f5.1 _ _ (fun q => by unfold kW_pk at q; omega), f4.1 _ _ (fun q => by unfold kW_xs at q; omega), f3.1 _ _ (by omega)]; exact v4
  · exact kg_CT_fr (kg_CT_fr hCT5 f6 (fun c i c1 c2 q => by unfold kW_ro at q; omega)) f11 (fun c i c1 c2 q => by omega)
  · exact ku_RC_fr (ku_RC_fr (ku_RC_fr (ku_RC_fr hRC3 f4 (fun c i c1 c2 q => by unfold kW_xs at q; omega)) f5 (fun c i c1 c2 q => by unfold kW_pk at q; omega)) f6 (fun c i c1 c2 q => by unfold kW_ro at q; omega)) f11 (fun c i c1 c2 q => by omega)
  · exact ku_XS_fr (ku_XS_fr (ku_XS_fr hXS4 f5 (fun c i c1 c2 q => by unfold kW_pk at q; omega)) f6 (fun c i c1 c2 q => by unfold kW_ro at q; omega)) f11 (fun c i c1 c2 q => by omega)
  · exact ku_CM_fr (ku_CM_fr hCM5 f6 (fun c i c1 c2 q => by unfold kW_ro at q; omega)) f11 (fun c i c1 c2 q => by omega)
  · rw [e11, js_In (Or.inl (by decide)), e10, js_In (Or.inl (by decide)), e9, js_In (Or.inl (by decide)), e8, js_In (Or.inl (by decide)), e7, js_Is]
  · rw [e11, js_In (Or.inl (by decide)), e10, js_In (Or.inl (by decide)), e9, js_In (Or.inl (by decide)), e8, js_Is]
  · rw [e11, js_In (Or.inl (by decide)), e10, js_In (Or.inr (by decide)), e9, js_Is]
  · rw [e11, js_In (Or.inl (by decide)), e10, js_Is]
  · rw [e11, js_Is]
end KUA
