/-! A TEXT, in the reference: all of it -/
def kW_tq (c : Nat) (i : Int) : Prop := kW_tp c i ∨ jW_lt 1 c i
def kW_mg (c : Nat) (i : Int) : Prop := ((92 + 3 ≤ c ∧ c ≤ 92 + 5 ∧ i = 0) ∨ ((c = 92 + 6 ∨ c = 92 + 8 ∨ c = 92 + 9) ∧ 0 ≤ i ∧ i < 7) ∨ (c = 92 + 7 ∧ 0 ≤ i ∧ i < 5) ∨ ((c = 92 + 10 ∨ c = 92 + 11) ∧ 0 ≤ i ∧ i < 13) ∨ (c = 92 + 12 ∧ 0 ≤ i ∧ i < 52)) ∨ kW_m0 c i ∨ c = 92 + 26 ∨ (92 + 28 ≤ c ∧ c ≤ 92 + 32) ∨ (92 + 34 ≤ c ∧ c ≤ 92 + 36) ∨ (c = 92 ∧ i = 52)
section KUE
variable {w : Nat} {σ σ0 τ : jg_M} {a n0 n p k : Nat} {B : Nat → Int} {g g' : gM} {y : Int} {KV : jg_M → Prop} {KI : Int → jg_M → Prop} {x v e : Int} {W : Nat → Int → Prop}
theorem ku_MG_fr (h : ku_MG σ g) (hf : jF W σ τ) (hn : ∀ c i, kW_mg c i → ¬ W c i) : ku_MG τ g := by
  obtain ⟨⟨h1, h2⟩, h3, h4, h5, h6⟩ := h
  have hw := h1.1.1.1
  refine ⟨⟨h1, kt_GM_fr0 h2 h1 hf (fun c i q => hn c i (Or.inl q))⟩, kg_MT_fr h3 hf ⟨by omega, by omega⟩ (fun c i q => hn c i (Or.inr (Or.inl q))), ku_RM_fr h4 hf (fun i => ⟨hn _ _ (Or.inr (Or.inr (Or.inl rfl))), hn _ _ (Or.inr (Or.inr (Or.inr (Or.inl (by omega)))))⟩), ku_XM_fr h5 hf (fun c i c1 c2 => hn _ _ (Or.inr (Or.inr (Or.inr (Or.inl (by omega)))))), ku_MP_fr h6 hf (hn _ _ (Or.inr (Or.inr (Or.inr (Or.inr (Or.inr ⟨rfl, rfl⟩)))))) (fun c i c1 c2 => hn _ _ (Or.inr (Or.inr (Or.inr (Or.inr (Or.inl (by omega)))))))⟩
theorem ku_MG_tq (h : ku_MG σ g) (hf : jF kW_tq σ τ) : ku_MG τ g := ku_MG_fr h hf (fun c i q1 q2 => by unfold kW_mg kW_m0 at q1; unfold kW_tq kW_tp kW_mp jW_lt jW_ef jW_ls jW_ac at q2; omega)
theorem jm_textAll (hx : jr x) (hfed : 0 ≤ σ.1 92 1 ∧ σ.1 92 1 ≤ 700) (hB : ∀ i : Nat, (i : Int) < σ.1 92 1 → σ.1 (92 + 1) (i : Int) = B i) (hB2 : ∀ i, 0 ≤ B i ∧ B i ≤ 255) (hWd : kt_Wd σ)
    (kout : ¬ (0 ≤ x ∧ x ≤ σ.1 92 1) → ∀ τ, τ = jg_sI σ 92 2 0 → KI (-2) τ)
    (k0 : (0 ≤ x ∧ x ≤ σ.1 92 1) → ∀ e pl, kt_tx B x.toNat 701 0 kt_g0 0 = .inl (e, pl) → ∀ τ, jF kW_tq σ τ → (τ.1 92 1 = 0 ∧ τ.1 92 2 = 0) → τ.1 92 4 = e → τ.1 92 5 = pl → KI (-1) τ)
    (k2 : (0 ≤ x ∧ x ≤ σ.1 92 1) → ∀ g' l, kt_tx B x.toNat 701 0 kt_g0 0 = .inr (g', l) → 0 < g' 0 1 → jn_all g' = none → ∀ τ, jF kW_tq σ τ → (τ.1 92 1 = 0 ∧ τ.1 92 2 = 0) → τ.1 92 4 = 2 → τ.1 92 5 = x → KI (-1) τ)
    (k1 : (0 ≤ x ∧ x ≤ σ.1 92 1) → ∀ g' l, kt_tx B x.toNat 701 0 kt_g0 0 = .inr (g', l) → (g' 0 1 = 0 ∨ (0 < g' 0 1 ∧ ∃ S, jn_all g' = some S)) → (0 ≤ l ∧ l ≤ 700) → ∀ τ, jF (fun c i => kW_tq c i ∨ kW_kt c i) σ τ → (τ.1 92 1 = 0 ∧ τ.1 92 2 = 0 ∧ τ.1 92 4 = 0 ∧ τ.1 92 5 = -1) → ku_MG τ g' → kr_No τ (kr_I g') → (τ.1 92 59 = 0 ∧ τ.1 92 60 = 0) → (τ.1 92 65 = 0 ∧ τ.1 92 66 = -1 ∧ τ.1 92 70 = 0 ∧ τ.1 92 72 = 0) → KI l τ) : jg_CI w 7 mm_X12_text [.ref 92, .int (.ofInt x)] σ KI := by
  refine jm_text hx hfed hB hB2 hWd kout (fun hin e pl he τ hf h1 h4 h5 => k0 hin e pl he τ (jF_mono hf (fun c i q => Or.inl q)) h1 h4 h5) (fun hin g' l he hok hl τ hf h1 hG => ?_)
  refine jm_layTablesN hG hok ⟨by decide, by decide⟩ ⟨by decide, by decide⟩ (fun q0 q1 τ2 f2 => ?_) (fun hq τ2 f2 hMT => ?_)
  · refine jn_ite (fun _ => ?_) (fun h => absurd rfl h)
    intro τ3 e3 τ4 e4
    have f4 : jF kW_tq τ2 τ4 := by
      rw [e4, e3]
      exact jF_toI (jF_I (Or.inl (Or.inl ⟨rfl, by omega⟩))) (Or.inl (Or.inl ⟨rfl, by omega⟩))
    refine k2 hin g' l he q0 q1 τ4 (jF_tr (jF_tr (jF_mono hf (fun c i q => Or.inl q)) (jF_mono f2 (fun c i q => Or.inr q))) f4) ⟨?_, ?_⟩ ?_ ?_
    · rw [e4, js_In (Or.inr (by decide)), e3, js_In (Or.inr (by decide)), f2.1 _ _ (fun q => by unfold jW_lt jW_ef jW_ls jW_ac at q; omega)]; exact h1.1
    · rw [e4, js_In (Or.inr (by decide)), e3, js_In (Or.inr (by decide)), f2.1 _ _ (fun q => by unfold jW_lt jW_ef jW_ls jW_ac at q; omega)]; exact h1.2.1
    · rw [e4, js_In (Or.inr (by decide)), e3, js_Is]
    · rw [e4, js_Is]
  · refine jn_ite (fun h => absurd h (by decide)) (fun _ => ?_)
    have hG2 : kt_GM τ2 1 g' (g' 0 2) := kt_GM_fr hG f2 (fun c i c1 c2 q => by unfold jW_lt jW_ef jW_ls jW_ac at q; omega)
    refine jm_keepText hok hG2 hq (fun τ3 f3 c1 c2 c3 c4 => ?_)
    have e : ∀ i, 0 ≤ i → i ≤ 5 → τ3.1 92 i = τ.1 92 i := fun i i0 i1 => by rw [f3.1 _ _ (fun q => by unfold kW_kt at q; omega), f2.1 _ _ (fun q => by unfold jW_lt jW_ef jW_ls jW_ac at q; omega)]
    exact k1 hin g' l he hq hl τ3 (jF_tr (jF_tr (jF_mono hf (fun c i q => Or.inl (Or.inl q))) (jF_mono f2 (fun c i q => Or.inl (Or.inr q)))) (jF_mono f3 (fun c i q => Or.inr q))) ⟨(e 1 (by decide) (by decide)).trans h1.1, (e 2 (by decide) (by decide)).trans h1.2.1, (e 4 (by decide) (by decide)).trans h1.2.2.1, (e 5 (by decide) (by decide)).trans h1.2.2.2⟩ c1 c2 c3 c4
end KUE
