/-! A TEXT, in the class -/
def kW_fl (T : Nat) (c : Nat) (i : Int) : Prop := (c = 0 ∧ i = 1) ∨ c = 2 ∨ c = 3 ∨ (T + 1 ≤ c ∧ c ≤ T + 21)
section KUB
variable {w : Nat} {σ σ0 τ : jg_M} {a A T T' n p k : Nat} {B : Nat → Int} {g g' : gM} {y : Int} {P : kb_P} {KV : jg_M → Prop} {KI : Int → jg_M → Prop} {x v e : Int} {W : Nat → Int → Prop}
theorem jc_text (hx : jr x) (hT : T = 4 ∨ T = 26) (h3 : σ.1 0 3 = 30 - ((T : Nat) : Int)) (h4 : σ.1 0 4 = (T : Nat)) (hfed : 0 ≤ σ.1 0 1 ∧ σ.1 0 1 ≤ 700) (hB : ∀ i : Nat, (i : Int) < σ.1 0 1 → σ.1 1 (i : Int) = B i) (hB2 : ∀ i, 0 ≤ B i ∧ B i ≤ 255)
    (kout : ¬ (0 ≤ x ∧ x ≤ σ.1 0 1) → KI (-2) σ)
    (k0 : (0 ≤ x ∧ x ≤ σ.1 0 1) → ∀ e pl, kt_tx B x.toNat 701 0 kt_g0 0 = .inl (e, pl) → ∀ τ, jF (kW_fl T) σ τ → τ.1 0 1 = 0 → τ.1 2 0 = e → τ.1 2 1 = pl → KI (-1) τ)
    (k2 : (0 ≤ x ∧ x ≤ σ.1 0 1) → ∀ g' l, kt_tx B x.toNat 701 0 kt_g0 0 = .inr (g', l) → 0 < g' 0 1 → jn_all g' = none → ∀ τ, jF (kW_fl T) σ τ → τ.1 0 1 = 0 → τ.1 2 0 = 2 → τ.1 2 1 = x → KI (-1) τ)
    (k1 : (0 ≤ x ∧ x ≤ σ.1 0 1) → ∀ g' l, kt_tx B x.toNat 701 0 kt_g0 0 = .inr (g', l) → (g' 0 1 = 0 ∨ (0 < g' 0 1 ∧ ∃ S, jn_all g' = some S)) → (0 ≤ l ∧ l ≤ 700) → ∀ τ, jF (fun c i => kW_fl T c i ∨ kW_ts c i) σ τ → (τ.1 0 1 = 0 ∧ τ.1 2 0 = 0 ∧ τ.1 2 1 = -1) → ku_CG τ T g' → kr_Ro τ 65 (kr_I g') → (τ.1 65 3 = 0 ∧ τ.1 65 4 = 0 ∧ τ.1 69 0 = 0 ∧ τ.1 0 11 = 0) → (τ.1 74 0 = 0 ∧ τ.1 74 1 = -1 ∧ τ.1 78 0 = 0) → KI l τ) : jg_CI w 7 mm_X11_text [.ref 0, .int (.ofInt x)] σ KI := by
  have s1 : jg_sh T = (8, 0) := by rcases hT with rfl | rfl <;> rfl
  have s2 : jg_sh (T + 10) = (7, 0) := by rcases hT with rfl | rfl <;> rfl
  have s3 : jg_sh (T + 1) = (0, 0) := by rcases hT with rfl | rfl <;> rfl
  have s4 : jg_sh (T + 20) = (20, 384) := by rcases hT with rfl | rfl <;> rfl
  have s5 : jg_sh (T + 21) = (20, 384) := by rcases hT with rfl | rfl <;> rfl
  refine jb_X11_text_0 rfl ?_
  rw [jr_wr hx, jr_wr (show jr (σ.1 0 1) by omega)]
  refine jn_ite (fun hneg => kout (by omega)) (fun hpos => jn_ite (fun hle => ?_) (fun hgt => kout (by omega)))
  have hin : 0 ≤ x ∧ x ≤ σ.1 0 1 := ⟨by omega, hle⟩
  have hxn : ((x.toNat : Nat) : Int) = x := by omega
  intro τ1 e1
  have f1 : jF (fun c i => c = 0 ∧ i = 1) σ τ1 := by rw [e1]; exact jF_I ⟨rfl, rfl⟩
  have v1 : τ1.1 0 1 = 0 := by rw [e1, js_Is]
  have v14 : τ1.1 0 4 = (T : Nat) := (f1.1 _ _ (by omega)).trans h4
  rw [v14]
  intro r1 er1
  rw [show r1 = T by omega]
  refine ⟨s1, ?_⟩
  have hln := jc_linesOf (w := w) (a := 2) (a1 := 1) (G := T + 1) (n := x.toNat) (B := B) (σ := τ1)
    (KI := fun (z104 : Int) (m103 : jg_M) => (if jg_wr z104 = (-1) then KI (-1) m103 else ∀ r105 : Nat, r105 = (m103.1 0 4).toNat → jg_sh r105 = (8, 0) ∧ jg_CI w 5 mm_X8_make [.ref r105, .int (.ofInt 0)] m103 (fun (z107 : Int) (m106 : jg_M) => (if jg_wr z107 = 0 then jg_CV w 0 mm_X9_blame [.ref (0 + 2), .int (.ofInt 2), .int (.ofInt x)] m106 (fun (m108 : jg_M) => KI (-1) m108) else jg_CV w 6 mm_X11_takeSpare [.ref 0] m106 (fun (m109 : jg_M) => KI z104 m109)))))
    rfl rfl s3 (by omega) (by omega) (by omega) (fun i hi => (f1.1 _ _ (by omega)).trans (hB i (by omega))) hB2
    (fun e pl he τ hf g0 g1 => jn_ite (fun _ => k0 hin e pl he τ (jF_tr (jF_mono f1 (fun c i q => by unfold kW_fl; omega)) (jF_mono hf (fun c i q => by unfold kW_lp at q; unfold kW_fl; omega))) ((hf.1 _ _ (fun q => by unfold kW_lp at q; omega)).trans v1) g0 g1) (fun h => absurd rfl h))
    (fun g' l he hok hl τ hf hG z0 z1 => ?_)
  · rw [hxn] at hln
    exact hln
  · have hf' : jF (kW_fl T) σ τ := jF_tr (jF_mono f1 (fun c i q => by unfold kW_fl; omega)) (jF_mono hf (fun c i q => by unfold kW_lp at q; unfold kW_fl; omega))
    have v1' : τ.1 0 1 = 0 := (hf.1 _ _ (fun q => by unfold kW_lp at q; omega)).trans v1
    have v4 : τ.1 0 4 = (T : Nat) := (hf'.1 _ _ (fun q => by unfold kW_fl at q; omega)).trans h4
    show (if jg_wr l = -1 then _ else _)
    rw [jr_wr (show jr l by omega)]
    refine jn_ite (fun h => by omega) (fun _ => ?_)
    rw [v4]
    intro r2 er2
    rw [show r2 = T by omega]
    refine ⟨s1, ?_⟩
    refine jc_X8_make s1 s3 s2 s4 s5 hok.1.1 (kt_GC_Gr hG (Int.le_refl _) hok.1.1) (by decide) (fun q0 q1 τ2 f2 => ?_) (fun q τ2 f2 hR => ?_)
    · have hf2 : jF (kW_fl T) σ τ2 := jF_tr hf' (jF_mono f2 (fun c i q => by unfold jW_tm at q; unfold kW_fl; omega))
      refine jn_ite (fun _ => ?_) (fun h => absurd rfl h)
      refine jb_X9_blame_0 rfl ?_
      intro τ3 e3 τ4 e4
      have f4 : jF (kW_fl T) τ2 τ4 := by rw [e4, e3]; exact jF_toI (jF_I (Or.inr (Or.inl rfl))) (Or.inr (Or.inl rfl))
      refine k2 hin g' l he q0 q1 τ4 (jF_tr hf2 f4) ?_ ?_ ?_
      · rw [e4, js_In (Or.inl (by decide)), e3, js_In (Or.inl (by decide)), f2.1 _ _ (fun q => by unfold jW_tm at q; omega)]; exact v1'
      · rw [e4, js_In (Or.inr (by decide)), e3, js_Is]
      · rw [e4, js_Is]
    · refine jn_ite (fun h => absurd h (by decide)) (fun _ => ?_)
      have hf2 : jF (kW_fl T) σ τ2 := jF_tr hf' (jF_mono f2 (fun c i q => by unfold jW_tm at q; unfold kW_fl; omega))
      have hG2 : kt_GC τ2 (T + 1) g' (g' 0 2) := by
        obtain ⟨⟨a0, a1, a2, a3, a4⟩, b, c, d⟩ := hG
        have hn : ∀ (c : Nat) (i : Int), (c = T + 1 ∧ i ≤ 4) ∨ (T + 2 ≤ c ∧ c ≤ T + 7) → τ2.1 c i = τ.1 c i := fun c i h => f2.1 _ _ (fun q => by unfold jW_tm at q; omega)
        refine ⟨⟨(hn _ _ (by omega)).trans a0, (hn _ _ (by omega)).trans a1, (hn _ _ (by omega)).trans a2, (hn _ _ (by omega)).trans a3, (hn _ _ (by omega)).trans a4⟩, fun s hs => (hn _ _ (by omega)).trans (b s hs), fun t t0 t1 => ⟨(hn _ _ (by omega)).trans (c t t0 t1).1, (hn _ _ (by omega)).trans (c t t0 t1).2⟩, fun r r0 r1 => ⟨(hn _ _ (by omega)).trans (d r r0 r1).1, (hn _ _ (by omega)).trans (d r r0 r1).2.1, fun k k0 k1 => (hn _ _ (by omega)).trans ((d r r0 r1).2.2 k k0 k1)⟩⟩
      refine jc_takeSpare hT ((hf2.1 _ _ (fun q => by unfold kW_fl at q; omega)).trans h3) ((hf2.1 _ _ (fun q => by unfold kW_fl at q; omega)).trans h4) hok hG2 hR (fun τ3 f3 c1 c2 c3 c4 => ?_)
      refine k1 hin g' l he q hl τ3 (jF_tr (jF_mono hf2 (fun c i q => Or.inl q)) (jF_mono f3 (fun c i q => Or.inr q))) ⟨?_, ?_, ?_⟩ c1 c2 c3 c4
      · rw [f3.1 _ _ (fun q => by unfold kW_ts at q; omega), f2.1 _ _ (fun q => by unfold jW_tm at q; omega)]; exact v1'
      · rw [f3.1 _ _ (fun q => by unfold kW_ts at q; omega), f2.1 _ _ (fun q => by unfold jW_tm at q; omega)]; exact z0
      · rw [f3.1 _ _ (fun q => by unfold kW_ts at q; omega), f2.1 _ _ (fun q => by unfold jW_tm at q; omega)]; exact z1
end KUB
