/-! ALL that both know, and how it lasts -/
/-- grammar's place; grammar; what is READ; NOTES; what was READ; IMAGE; TAPE; FAULT, place, fed -/
abbrev kx_S : Type := (Nat × gM) × (kr_K × Int × Int) × kn_N × (Nat × kz_H) × ((kr_K × Int × Int) × Int) × (Nat → Int) × (Int × Int × Int)
def kx_wc (T : Nat) (c : Nat) (i : Int) : Prop := (c = 0 ∧ (i = 1 ∨ i = 3 ∨ i = 4 ∨ i = 11)) ∨ c = 1 ∨ (c = 2 ∧ (i = 0 ∨ i = 1)) ∨ (T + 1 ≤ c ∧ c ≤ T + 21) ∨ (48 ≤ c ∧ c ≤ 53) ∨ (55 ≤ c ∧ c ≤ 79)
def kx_wm (c : Nat) (i : Int) : Prop := kW_mg c i ∨ c = 92 + 38 ∨ c = 92 + 43 ∨ c = 92 + 46 ∨ c = 92 + 47 ∨ c = 92 + 1 ∨ c = 92 + 2 ∨ (c = 92 ∧ (i = 1 ∨ i = 4 ∨ i = 5 ∨ (58 ≤ i ∧ i ≤ 60) ∨ i = 65 ∨ i = 66 ∨ i = 70 ∨ i = 72))
def kx_lr (σ : jg_M) (g : gM) : Prop := σ.1 78 0 = 0 ∨ (σ.1 78 0 = 1 ∧ kp_LC σ g)
def kx_tp (σ : jg_M) (a b : Nat) (F : Int) (B : Nat → Int) : Prop := σ.1 a 1 = F ∧ ∀ i : Nat, (i : Int) < F → σ.1 b (i : Int) = B i
def kx_C (σ : jg_M) (S : kx_S) : Prop := ku_CG σ S.1.1 S.1.2 ∧ kz_C σ 65 S.2.1.1 S.2.1.2.1 S.2.1.2.2 ∧ kn_C kp_pl σ S.2.2.1 ∧ kz_RC σ S.2.2.2.1.1 S.2.2.2.1.2 ∧
  (σ.1 0 11 = S.2.2.2.2.1.2 ∧ (S.2.2.2.2.1.2 ≠ 0 → kz_C σ 67 S.2.2.2.2.1.1.1 S.2.2.2.2.1.1.2.1 S.2.2.2.2.1.1.2.2)) ∧ kx_tp σ 0 1 S.2.2.2.2.2.2.2.2 S.2.2.2.2.2.1 ∧ (σ.1 2 0 = S.2.2.2.2.2.2.1 ∧ σ.1 2 1 = S.2.2.2.2.2.2.2.1) ∧ kx_lr σ S.1.2
def kx_M (σ : jg_M) (S : kx_S) : Prop := ku_MG σ S.1.2 ∧ kz_N σ S.2.1.1 S.2.1.2.1 S.2.1.2.2 ∧ kn_M σ S.2.2.1 ∧ kz_RM σ S.2.2.2.1.1 S.2.2.2.1.2 ∧
  (σ.1 92 72 = S.2.2.2.2.1.2 ∧ (S.2.2.2.2.1.2 ≠ 0 → kz_M σ (92 + 47) 0 S.2.2.2.2.1.1.1 S.2.2.2.2.1.1.2.1 S.2.2.2.2.1.1.2.2)) ∧ kx_tp σ 92 (92 + 1) S.2.2.2.2.2.2.2.2 S.2.2.2.2.2.1 ∧ (σ.1 92 4 = S.2.2.2.2.2.2.1 ∧ σ.1 92 5 = S.2.2.2.2.2.2.2.1) ∧ kt_Wd σ
/-- what is so of a grammar that is known -/
def kx_G (g : gM) : Prop := kt_ok g ∧ (0 < ku_n g → 0 < g 0 1 ∧ jn_FP g (kg_S g))
def kx_P (S : kx_S) : Prop := kr_OK S.1.2 S.2.1.1 ∧ (kp_N S.1.2 S.2.2.1 ∧ kn_lt S.2.2.1 0) ∧ (∀ i : Nat, i < S.2.2.2.1.1 → kr_OK S.1.2 (S.2.2.2.1.2 i).1) ∧ ((S.2.2.2.2.1.2 = 0 ∨ S.2.2.2.2.1.2 = 1) ∧ (S.2.2.2.2.1.2 ≠ 0 → kr_OK S.1.2 S.2.2.2.2.1.1.1)) ∧ (∀ i, 0 ≤ S.2.2.2.2.2.1 i ∧ S.2.2.2.2.2.1 i ≤ 255) ∧ (0 ≤ S.2.2.2.2.2.2.2.2 ∧ S.2.2.2.2.2.2.2.2 ≤ 700) ∧ kx_G S.1.2 ∧ S.2.2.2.1.1 ≤ 20
def kW_c (c : Nat) (_ : Int) : Prop := c < 92
def kW_m (c : Nat) (_ : Int) : Prop := 92 ≤ c ∧ c < 140
/-- one call, on both sides: the same answer, and all that is known goes on being the same -/
def kx_T (S : kx_S) (dc dm : Nat) (Mc Mm : mj_Inf) (As : List Value) : Prop := ∃ (z : Int) (S' : kx_S), kx_P S' ∧ (∀ σ, kx_C σ S → jg_CI 141 dc Mc (.ref 0 :: As) σ (fun z' τ => z' = z ∧ jF kW_c σ τ ∧ kx_C τ S')) ∧ (∀ σ, kx_M σ S → jg_CI 141 dm Mm (.ref 92 :: As) σ (fun z' τ => z' = z ∧ jF kW_m σ τ ∧ kx_M τ S'))
section KXA
variable {w : Nat} {σ τ : jg_M} {T n c R a b : Nat} {g : gM} {K : kr_K} {N : kn_N} {S : kx_S} {h : kz_H} {x o rd tk F : Int} {B : Nat → Int} {pl : Int → Int → Int} {W : Nat → Int → Prop}
theorem ku_CG_fr2 (h : ku_CG σ T g) (hf : jF W σ τ) (h3 : ¬ W 0 3) (h4 : ¬ W 0 4) (hn : ∀ c i, (T + 1 ≤ c ∧ c ≤ T + 21) ∨ (48 ≤ c ∧ c ≤ 53) ∨ (55 ≤ c ∧ c ≤ 64) → ¬ W c i) : ku_CG τ T g := by
  obtain ⟨⟨q1, q2, q3⟩, ⟨q4, q5⟩, q6, q7, q8, q9⟩ := h
  exact ⟨⟨q1, (hf.1 _ _ h3).trans q2, (hf.1 _ _ h4).trans q3⟩, ⟨q4, kt_GC_fr q5 hf (fun i => hn _ _ (by omega)) (fun c i c1 c2 => hn _ _ (by omega))⟩, kg_CT_fr q6 hf (fun c i c1 c2 => hn _ _ (by omega)), ku_RC_fr q7 hf (fun c i c1 c2 => hn _ _ (by omega)), ku_XS_fr q8 hf (fun c i c1 c2 => hn _ _ (by omega)), ku_CM_fr q9 hf (fun c i c1 c2 => hn _ _ (by omega))⟩
theorem kz_C_fr (h : kz_C σ R K rd tk) (hf : jF W σ τ) (h1 : ∀ i, ¬ W R i) (h2 : ∀ i, ¬ W (R + 1) i) : kz_C τ R K rd tk := ⟨kr_Ro_fr h.1 hf h1 h2, (hf.1 _ _ (h1 _)).trans h.2.1, (hf.1 _ _ (h1 _)).trans h.2.2⟩
theorem kz_RC_fr (hR : kz_RC σ c h) (hf : jF W σ τ) (hn : ∀ a i, 69 ≤ a → a ≤ 73 → ¬ W a i) : kz_RC τ c h := by
  obtain ⟨p, p1, p2, ⟨c1, c2⟩, hs⟩ := hR
  refine ⟨p, (hf.1 _ _ (hn _ _ (by decide) (by decide))).trans p1, p2, ⟨(hf.1 _ _ (hn _ _ (by decide) (by decide))).trans c1, c2⟩, fun i hi => ⟨(hs i hi).1, ?_⟩⟩
  have := (hs i hi).2
  exact ⟨fun j hj => (hf.1 _ _ (hn _ _ (by decide) (by decide))).trans (this.1 j hj), (hf.1 _ _ (hn _ _ (by decide) (by decide))).trans this.2.1, (hf.1 _ _ (hn _ _ (by decide) (by decide))).trans this.2.2.1, (hf.1 _ _ (hn _ _ (by decide) (by decide))).trans this.2.2.2⟩
theorem kn_C_fr (h : kn_C pl σ N) (hf : jF W σ τ) (hn : ∀ a i, 74 ≤ a → a ≤ 77 → ¬ W a i) : kn_C pl τ N := by
  obtain ⟨⟨a1, a2⟩, ⟨b1, b2, b3⟩, cc⟩ := h
  exact ⟨⟨(hf.1 _ _ (hn _ _ (by decide) (by decide))).trans a1, a2⟩, ⟨(hf.1 _ _ (hn _ _ (by decide) (by decide))).trans b1, b2, b3⟩, fun i hi => ⟨fun q => ⟨(hf.1 _ _ (hn _ _ (by decide) (by decide))).trans ((cc i hi).1 q).1, (hf.1 _ _ (hn _ _ (by decide) (by decide))).trans ((cc i hi).1 q).2⟩, fun q => ⟨(hf.1 _ _ (hn _ _ (by decide) (by decide))).trans ((cc i hi).2 q).1, (hf.1 _ _ (hn _ _ (by decide) (by decide))).trans ((cc i hi).2 q).2.1, (hf.1 _ _ (hn _ _ (by decide) (by decide))).trans ((cc i hi).2 q).2.2⟩⟩⟩
theorem kx_lr_fr (h : kx_lr σ g) (hf : jF W σ τ) (hn : ∀ a i, 78 ≤ a → a ≤ 79 → ¬ W a i) : kx_lr τ g := by
  rcases h with h | ⟨h, h1, h2⟩
  · exact Or.inl ((hf.1 _ _ (hn _ _ (by decide) (by decide))).trans h)
  · exact Or.inr ⟨(hf.1 _ _ (hn _ _ (by decide) (by decide))).trans h, (hf.1 _ _ (hn _ _ (by decide) (by decide))).trans h1, kp_MK_fr h2 hf (fun i => hn _ _ (by decide) (by decide))⟩
theorem kx_tp_fr (h : kx_tp σ a b F B) (hf : jF W σ τ) (h1 : ¬ W a 1) (h2 : ∀ i, ¬ W b i) : kx_tp τ a b F B := ⟨(hf.1 _ _ h1).trans h.1, fun i hi => (hf.1 _ _ (h2 _)).trans (h.2 i hi)⟩
theorem kz_N_fr (h : kz_N σ K rd tk) (hf : jF W σ τ) (h1 : ∀ i, 58 ≤ i → i ≤ 60 → ¬ W 92 i) (h2 : ∀ i, ¬ W (92 + 38) i) : kz_N τ K rd tk := ⟨kr_No_fr h.1 hf (h1 _ (by decide) (by decide)) h2, (hf.1 _ _ (h1 _ (by decide) (by decide))).trans h.2.1, (hf.1 _ _ (h1 _ (by decide) (by decide))).trans h.2.2⟩
theorem kz_M_fr (h : kz_M σ a o K rd tk) (hf : jF W σ τ) (h1 : ∀ i, ¬ W a i) : kz_M τ a o K rd tk := ⟨fun i hi => (hf.1 _ _ (h1 _)).trans (h.1 i hi), (hf.1 _ _ (h1 _)).trans h.2.1, (hf.1 _ _ (h1 _)).trans h.2.2.1, (hf.1 _ _ (h1 _)).trans h.2.2.2⟩
theorem kz_RM_fr (hR : kz_RM σ c h) (hf : jF W σ τ) (h1 : ¬ W 92 70) (h2 : ∀ i, ¬ W (92 + 46) i) : kz_RM τ c h := ⟨⟨(hf.1 _ _ h1).trans hR.1.1, hR.1.2⟩, fun i hi => ⟨(hR.2 i hi).1, kz_M_fr (hR.2 i hi).2 hf h2⟩⟩
theorem kx_C_fr (h : kx_C σ S) (hf : jF W σ τ) (hn : ∀ c i, kx_wc S.1.1 c i → ¬ W c i) : kx_C τ S := by
  obtain ⟨h1, h2, h3, h4, ⟨h5, h6⟩, h7, ⟨h8, h9⟩, h10⟩ := h
  have hT := h1.1.1
  refine ⟨ku_CG_fr2 h1 hf (hn _ _ (by unfold kx_wc; omega)) (hn _ _ (by unfold kx_wc; omega)) (fun c i q => hn _ _ (by unfold kx_wc; omega)), kz_C_fr h2 hf (fun i => hn _ _ (by unfold kx_wc; omega)) (fun i => hn _ _ (by unfold kx_wc; omega)), kn_C_fr h3 hf (fun a i a1 a2 => hn _ _ (by unfold kx_wc; omega)), kz_RC_fr h4 hf (fun a i a1 a2 => hn _ _ (by unfold kx_wc; omega)), ⟨(hf.1 _ _ (hn _ _ (by unfold kx_wc; omega))).trans h5, fun q => kz_C_fr (h6 q) hf (fun i => hn _ _ (by unfold kx_wc; omega)) (fun i => hn _ _ (by unfold kx_wc; omega))⟩, kx_tp_fr h7 hf (hn _ _ (by unfold kx_wc; omega)) (fun i => hn _ _ (by unfold kx_wc; omega)), ⟨(hf.1 _ _ (hn _ _ (by unfold kx_wc; omega))).trans h8, (hf.1 _ _ (hn _ _ (by unfold kx_wc; omega))).trans h9⟩, kx_lr_fr h10 hf (fun a i a1 a2 => hn _ _ (by unfold kx_wc; omega))⟩
theorem kx_M_fr (h : kx_M σ S) (hf : jF W σ τ) (hn : ∀ c i, kx_wm c i → ¬ W c i) : kx_M τ S := by
  obtain ⟨h1, h2, h3, h4, ⟨h5, h6⟩, h7, ⟨h8, h9⟩, h10⟩ := h
  have hm : ∀ c i, (c = 92 + 38 ∨ c = 92 + 43 ∨ c = 92 + 46 ∨ c = 92 + 47 ∨ c = 92 + 1 ∨ c = 92 + 2 ∨ (c = 92 ∧ (i = 1 ∨ i = 4 ∨ i = 5 ∨ (58 ≤ i ∧ i ≤ 60) ∨ i = 65 ∨ i = 66 ∨ i = 70 ∨ i = 72))) → ¬ W c i := fun c i q => hn c i (Or.inr q)
  refine ⟨ku_MG_fr h1 hf (fun c i q => hn c i (Or.inl q)), kz_N_fr h2 hf (fun i i0 i1 => hm _ _ (by omega)) (fun i => hm _ _ (by omega)), kn_M_fr h3 hf (fun i => hm _ _ (by omega)) (hm _ _ (by omega)) (hm _ _ (by omega)), kz_RM_fr h4 hf (hm _ _ (by omega)) (fun i => hm _ _ (by omega)), ⟨(hf.1 _ _ (hm _ _ (by omega))).trans h5, fun q => kz_M_fr (h6 q) hf (fun i => hm _ _ (by omega))⟩, kx_tp_fr h7 hf (hm _ _ (by omega)) (fun i => hm _ _ (by omega)), ⟨(hf.1 _ _ (hm _ _ (by omega))).trans h8, (hf.1 _ _ (hm _ _ (by omega))).trans h9⟩, (fun i hi => (hf.1 _ _ (hm _ _ (by omega))).trans (h10 i hi))⟩
theorem kx_ge (h : kx_M σ S) (hf : jF kW_ge σ τ) : jF kW_m σ τ ∧ kx_M τ S := ⟨jF_mono hf (fun c i q => by unfold kW_ge at q; unfold kW_m; omega), kx_M_fr h hf (fun c i q1 q2 => by unfold kx_wm kW_mg kW_m0 at q1; unfold kW_ge at q2; omega)⟩
/-- a question: nothing changes -/
theorem kx_q {dc dm : Nat} {Mc Mm : mj_Inf} {As : List Value} {z : Int} (hP : kx_P S)
    (h1 : ∀ σ, kx_C σ S → ∀ KI : Int → jg_M → Prop, KI z σ → jg_CI 141 dc Mc (.ref 0 :: As) σ KI)
    (h2 : ∀ σ, kx_M σ S → ∀ KI : Int → jg_M → Prop, (∀ τ, jF kW_ge σ τ → τ.1 92 2 = 0 → KI z τ) → jg_CI 141 dm Mm (.ref 92 :: As) σ KI) : kx_T S dc dm Mc Mm As :=
  ⟨z, S, hP, fun σ h => h1 σ h _ ⟨rfl, jF_rf, h⟩, fun σ h => h2 σ h _ (fun τ hf _ => ⟨rfl, kx_ge h hf⟩)⟩
theorem kx_named (hP : kx_P S) (hx : jr x) : kx_T S 3 2 mm_X11_named mm_X12_named [.int (.ofInt x)] := kx_q hP (fun σ h KI k => jc_named h.1 hx k) (fun σ h KI k => jm_named h.1 hx k)
variable {y s k t r : Int}
theorem kx_token (hP : kx_P S) (hx : jr x) (hy : jr y) : kx_T S 1 1 mm_X11_token mm_X12_token [.int (.ofInt x), .int (.ofInt y)] := kx_q hP (fun σ h KI k => jc_token h.1 hx hy k) (fun σ h KI k => jm_token h.1 hx hy k)
theorem kx_rule (hP : kx_P S) (hx : jr x) (hy : jr y) : kx_T S 3 2 mm_X11_rule mm_X12_rule [.int (.ofInt x), .int (.ofInt y)] := kx_q hP (fun σ h KI k => jc_rule h.1 hx hy k) (fun σ h KI k => jm_rule h.1 hx hy k)
theorem kx_state (hP : kx_P S) (hx : jr x) (hy : jr y) : kx_T S 3 1 mm_X11_state mm_X12_state [.int (.ofInt x), .int (.ofInt y)] := kx_q hP (fun σ h KI k => jc_state h.1 hx hy k) (fun σ h KI k => jm_state h.1 hx hy k)
theorem kx_item (hP : kx_P S) (hx : jr x) (hy : jr y) : kx_T S 2 1 mm_X11_item mm_X12_item [.int (.ofInt x), .int (.ofInt y)] := kx_q hP (fun σ h KI k => jc_item h.1 hx hy k) (fun σ h KI k => jm_item h.1 hx hy k)
theorem kx_move (hP : kx_P S) (hx : jr x) (hy : jr y) : kx_T S 2 1 mm_X11_move mm_X12_move [.int (.ofInt x), .int (.ofInt y)] := kx_q hP (fun σ h KI k => jc_move h.1 hx hy k) (fun σ h KI k => jm_move h.1 hx hy k)
theorem kx_action (hP : kx_P S) (hx : jr x) (hy : jr y) : kx_T S 2 1 mm_X11_action mm_X12_action [.int (.ofInt x), .int (.ofInt y)] := kx_q hP (fun σ h KI k => jc_action h.1 hx hy k) (fun σ h KI k => jm_action h.1 hx hy k)
theorem kx_look (hP : kx_P S) (hx : jr x) (hy : jr y) : kx_T S 2 1 mm_X11_look mm_X12_look [.int (.ofInt x), .int (.ofInt y)] := kx_q hP (fun σ h KI k => jc_look h.1 hx hy k) (fun σ h KI k => jm_look h.1 hx hy k)
theorem kx_after (hP : kx_P S) (hx : jr x) (hy : jr y) : kx_T S 2 1 mm_X11_after mm_X12_after [.int (.ofInt x), .int (.ofInt y)] := kx_q hP (fun σ h KI k => jc_after h.1 hx hy k) (fun σ h KI k => jm_after h.1 hx hy k)
theorem kx_conflicts (hP : kx_P S) : kx_T S 2 0 mm_X11_conflicts mm_X12_conflicts [] := kx_q hP (fun σ h KI k => jc_conflicts h.1 k) (fun σ h KI k => jm_conflicts h.1 k)
theorem kx_conflict (hP : kx_P S) (hx : jr x) (hy : jr y) : kx_T S 2 1 mm_X11_conflict mm_X12_conflict [.int (.ofInt x), .int (.ofInt y)] := kx_q hP (fun σ h KI k => jc_conflict h.1 hx hy k) (fun σ h KI k => jm_conflict h.1 hx hy k)
theorem kx_witness (hP : kx_P S) (hx : jr x) (hy : jr y) : kx_T S 1 1 mm_X11_witness mm_X12_witness [.int (.ofInt x), .int (.ofInt y)] := kx_q hP (fun σ h KI k => jc_witness h.1 hx hy k) (fun σ h KI k => jm_witness h.1 hx hy k)
theorem kx_shortest (hP : kx_P S) (hx : jr x) (hy : jr y) : kx_T S 1 1 mm_X11_shortest mm_X12_shortest [.int (.ofInt x), .int (.ofInt y)] := kx_q hP (fun σ h KI k => jc_shortest h.1 hx hy k) (fun σ h KI k => jm_shortest h.1 hx hy k)
theorem kx_offset (hP : kx_P S) (hx : jr x) : kx_T S 1 1 mm_X11_offset mm_X12_offset [.int (.ofInt x)] := kx_q hP (fun σ h KI k => jc_offset h.1 hx k) (fun σ h KI k => jm_offset h.1 hx k)
theorem kx_packed (hP : kx_P S) (hx : jr x) (hy : jr y) : kx_T S 1 1 mm_X11_packed mm_X12_packed [.int (.ofInt x), .int (.ofInt y)] := kx_q hP (fun σ h KI k => jc_packed h.1 hx hy k) (fun σ h KI k => jm_packed h.1 hx hy k)
theorem kx_stack (hP : kx_P S) (hx : jr x) : kx_T S 1 0 mm_X11_stack mm_X12_stack [.int (.ofInt x)] := kx_q hP (fun σ h KI k => jc_stack h.1 h.2.1.1 hP.1 hx k) (fun σ h KI k => jm_stack h.1 h.2.1.1 hP.1 hx k)
theorem kx_fault (hP : kx_P S) (hx : jr x) : kx_T S 0 0 mm_X11_fault mm_X12_fault [.int (.ofInt x)] := kx_q hP (fun σ h KI k => jc_fault h.2.2.2.2.2.2.1.1 h.2.2.2.2.2.2.1.2 hx k) (fun σ h KI k => jm_fault h.2.2.2.2.2.2.1.1 h.2.2.2.2.2.2.1.2 hx (fun τ hτ => k τ (ku_ge2 hτ).1 (ku_ge2 hτ).2))
theorem kx_count (hP : kx_P S) (hx : jr x) : kx_T S 4 1 mm_X11_count mm_X12_count [.int (.ofInt x)] := ⟨_, S, hP, fun σ h => jc_count h.1 h.2.1 h.2.2.1 h.2.2.2.1 hx ⟨rfl, jF_rf, h⟩, fun σ h => jm_count h.1 h.2.1 h.2.2.1 h.2.2.2.1 hx (fun τ hf => ⟨rfl, kx_ge h hf⟩)⟩
/-- a question that uses rows of its own -/
theorem kx_q2 {dc dm : Nat} {Mc Mm : mj_Inf} {As : List Value} {z : Int} {Wc Wm : Nat → Int → Prop} (hP : kx_P S)
    (h1 : ∀ σ, kx_C σ S → ∀ KI : Int → jg_M → Prop, (∀ τ, jF Wc σ τ → KI z τ) → jg_CI 141 dc Mc (.ref 0 :: As) σ KI)
    (h2 : ∀ σ, kx_M σ S → ∀ KI : Int → jg_M → Prop, (∀ τ, jF Wm σ τ → KI z τ) → jg_CI 141 dm Mm (.ref 92 :: As) σ KI)
    (hc : ∀ σ, kx_C σ S → ∀ c i, Wc c i → c < 92 ∧ ¬ kx_wc S.1.1 c i) (hm : ∀ c i, Wm c i → (92 ≤ c ∧ c < 140) ∧ ¬ kx_wm c i) : kx_T S dc dm Mc Mm As :=
  ⟨z, S, hP, fun σ h => h1 σ h _ (fun τ hf => ⟨rfl, jF_mono hf (fun c i q => (hc σ h c i q).1), kx_C_fr h hf (fun c i q1 q2 => (hc σ h c i q2).2 q1)⟩), fun σ h => h2 σ h _ (fun τ hf => ⟨rfl, jF_mono hf (fun c i q => (hm c i q).1), kx_M_fr h hf (fun c i q1 q2 => (hm c i q2).2 q1)⟩)⟩
theorem kx_hm_ge : ∀ c i, kW_ge c i → (92 ≤ c ∧ c < 140) ∧ ¬ kx_wm c i := fun c i q => ⟨by unfold kW_ge at q; omega, fun q1 => by unfold kx_wm kW_mg kW_m0 at q1; unfold kW_ge at q; omega⟩
theorem kx_hm_co : ∀ c i, kW_co c i → (92 ≤ c ∧ c < 140) ∧ ¬ kx_wm c i := fun c i q => ⟨by unfold kW_co at q; omega, fun q1 => by unfold kx_wm kW_mg kW_m0 at q1; unfold kW_co at q; omega⟩
theorem kx_hm_39 : ∀ c i, c = 92 + 39 → (92 ≤ c ∧ c < 140) ∧ ¬ kx_wm c i := fun c i q => ⟨by omega, fun q1 => by unfold kx_wm kW_mg kW_m0 at q1; omega⟩
theorem kx_hc_90 : ∀ σ, kx_C σ S → ∀ c i, kW_ro 90 c i → c < 92 ∧ ¬ kx_wc S.1.1 c i := fun σ h c i q => by
  have hT := h.1.1.1
  exact ⟨by unfold kW_ro at q; omega, fun q1 => by unfold kx_wc at q1; unfold kW_ro at q; omega⟩
theorem kx_relations (hP : kx_P S) (hx : jr x) : kx_T S 4 1 mm_X11_relations mm_X12_relations [.int (.ofInt x)] := kx_q2 (Wc := kW_rg) (Wm := kW_ge) hP (fun σ h KI k => jc_relations h.1 hx k) (fun σ h KI k => jm_relations h.1 hx (fun τ hf _ => k τ hf)) (fun σ h c i q => by
  have hT := h.1.1.1
  exact ⟨by unfold kW_rg at q; omega, fun q1 => by unfold kx_wc at q1; unfold kW_rg at q; omega⟩) kx_hm_ge
theorem kx_whole (hP : kx_P S) : kx_T S 4 1 mm_X11_whole mm_X12_whole [] := kx_q2 (Wc := kW_ro 90) (Wm := fun c i => kW_ge c i ∨ kW_co c i) hP (fun σ h KI k => jc_whole h.1 h.2.1.1 hP.1 k) (fun σ h KI k => jm_whole h.1 h.2.1.1 hP.1 (fun τ hf _ => k τ hf)) kx_hc_90 (fun c i q => q.elim (kx_hm_ge c i) (kx_hm_co c i))
theorem kx_expected (hP : kx_P S) : kx_T S 4 1 mm_X11_expected mm_X12_expected [] := kx_q2 (Wc := kW_ro 90) (Wm := fun c i => kW_ge c i ∨ kW_co c i) hP (fun σ h KI k => jc_expected h.1 h.2.1.1 hP.1 k) (fun σ h KI k => jm_expected h.1 h.2.1.1 hP.1 (fun τ hf _ => k τ hf)) kx_hc_90 (fun c i q => q.elim (kx_hm_ge c i) (kx_hm_co c i))
theorem kx_game (hP : kx_P S) (hx : jr x) (hy : jr y) : kx_T S 13 2 mm_X11_game mm_X12_game [.int (.ofInt x), .int (.ofInt y)] := kx_q2 (Wc := kW_la) (Wm := fun c i => kW_ge c i ∨ kW_gm c i) hP (fun σ h KI k => jc_game h.1 h.2.1.1 hP.1 hx hy k) (fun σ h KI k => jm_game h.1 h.2.1.1 hP.1 hx hy k) (fun σ h c i q => by
  have hT := h.1.1.1
  exact ⟨by unfold kW_la at q; omega, fun q1 => by unfold kx_wc at q1; unfold kW_la at q; omega⟩) (fun c i q => q.elim (kx_hm_ge c i) (fun q => ⟨by unfold kW_gm at q; omega, fun q1 => by unfold kx_wm kW_mg kW_m0 at q1; unfold kW_gm at q; omega⟩))
theorem kx_sentences (hP : kx_P S) (hx : jr x) : kx_T S 13 2 mm_X11_sentences mm_X12_sentences [.int (.ofInt x)] := kx_q2 (Wc := kW_lo 92) (Wm := kW_ss) hP (fun σ h KI k => jc_sentences h.1 hx k) (fun σ h KI k => jm_sentences h.1 hx k) (fun σ h c i q => by
  have hT := h.1.1.1
  exact ⟨by unfold kW_lo at q; omega, fun q1 => by unfold kx_wc at q1; unfold kW_lo at q; omega⟩) (fun c i q => q.elim (kx_hm_ge c i) (fun q => q.elim (kx_hm_co c i) (kx_hm_39 c i)))
theorem kx_chance (hP : kx_P S) (hx : jr x) (hy : jr y) : kx_T S 4 2 mm_X11_chance mm_X12_chance [.int (.ofInt x), .int (.ofInt y)] := kx_q2 (Wc := kW_ro 90) (Wm := kW_ss) hP (fun σ h KI k => jc_chance h.1 hx hy k) (fun σ h KI k => jm_chance h.1 hx hy k) kx_hc_90 (fun c i q => q.elim (kx_hm_ge c i) (fun q => q.elim (kx_hm_co c i) (kx_hm_39 c i)))
theorem kx_tried (hP : kx_P S) (hx : jr x) (hy : jr y) : kx_T S 6 5 mm_X11_tried mm_X12_tried [.int (.ofInt x), .int (.ofInt y)] := kx_q2 (Wc := kW_td (30 - S.1.1)) (Wm := kW_mt2) hP (fun σ h KI k => jc_tried h.1 hx hy k) (fun σ h KI k => jm_tried h.1 hx hy k) (fun σ h c i q => by
  have hT := h.1.1.1
  exact ⟨by unfold kW_td at q; omega, fun q1 => by unfold kx_wc at q1; unfold kW_td at q; omega⟩) (fun c i q => ⟨by unfold kW_mt2 jW_lt jW_ef jW_ls jW_ac jW_fo at q; omega, fun q1 => by unfold kx_wm kW_mg kW_m0 at q1; unfold kW_mt2 jW_lt jW_ef jW_ls jW_ac jW_fo at q; omega⟩)
end KXA
