/-! MISSING, in the model -/
def kW_im (c : Nat) (i : Int) : Prop := jW_lt 1 c i ∨ kW_co c i ∨ c = 92 + 39
section KPE
variable {w : Nat} {σ τ : jg_M} {G T T' n c a m : Nat} {g : gM} {N : kn_N} {K K' : kr_K} {B : Int → Nat → Prop} {x l i p : Int} {KV : jg_M → Prop} {KI : Int → jg_M → Prop}
theorem kn_M_fr {W : Nat → Int → Prop} (h : kn_M σ N) (hf : jF W σ τ) (h1 : ∀ i, ¬ W (92 + 43) i) (h2 : ¬ W 92 65) (h3 : ¬ W 92 66) : kn_M τ N := by
  obtain ⟨⟨a1, a2⟩, ⟨b1, b2, b3⟩, cc⟩ := h
  exact ⟨⟨(hf.1 _ _ h2).trans a1, a2⟩, ⟨(hf.1 _ _ h3).trans b1, b2, b3⟩, fun i hi => ⟨(hf.1 _ _ (h1 _)).trans (cc i hi).1, (hf.1 _ _ (h1 _)).trans (cc i hi).2.1, (hf.1 _ _ (h1 _)).trans (cc i hi).2.2⟩⟩
theorem kr_MW_of {b : Int} (hW : jn_GW g) (hG : jn_Mg σ 0 g) (hb : 0 ≤ b ∧ b ≤ 1) (h : kg_MT σ b g 0) : kr_MW σ b g := by
  have hw := hW.1
  refine ⟨⟨hW, hb, hG.1.2.2.2.2.1⟩, ?_⟩
  rcases h.2.2 with q | q
  · exact Or.inl ⟨q.1, q.2.1⟩
  · exact Or.inr ⟨q.1, q.2.2.1, q.2.2.2.1.1, kr_MV_of hG hb h q.1⟩
theorem kp_o_Mb {r : Int} (h : jn_Mb σ 0 g) : jn_Mb σ 0 (kp_o g r) := h
theorem jm_isMissing (hG : ku_MG σ g) (hN : kn_M σ N) (hP : kp_N g N) (hl : kn_lt N 0) (hc : ∀ i : Nat, i < kn_kb N → σ.1 (92 + 44) (i : Int) = if kn_gn N i = true then 0 else 1) {r : Nat} (hr : (r : Int) < g 0 2)
    (hk : ∀ τ, jF kW_im σ τ → (kp_mi g N r → kr_MW τ 1 (kp_o g (r : Int))) → KI (jn_b (kp_mi g N r)) τ) : jg_CI w 6 mm_X12_isMissing [.ref 92, .int (.ofInt (r : Int))] σ KI := by
  have hW := hG.1.1.1.1
  have hw := hW.1
  obtain ⟨⟨a1, a2⟩, ⟨b1, b2, b3⟩, cc⟩ := id hN
  have hkb := kn_kb_le a2 b2 hl
  have ekb : (if N.1.2 = -1 then ((N.1.1 : Nat) : Int) else N.1.2) = ((kn_kb N : Nat) : Int) := by unfold kn_kb; split <;> omega
  have hW' : jn_GW (kp_o g (r : Int)) := kp_o_GW hW ⟨by omega, hr⟩
  have o0 : kp_o g (r : Int) 0 0 = g 0 0 := kp_o_0 (by decide)
  have o1 : kp_o g (r : Int) 0 1 = g 0 1 := kp_o_0 (by decide)
  have o3 : kp_o g (r : Int) 0 3 = g 0 3 := kp_o_0 (by decide)
  refine jb_X12_isMissing_0 rfl ?_
  have hlt := jm_layTables (w := w) (σ := σ) (g := kp_o g (r : Int)) (a := 0) (c := 1) (KI := fun (z102 : Int) (m101 : jg_M) => jg_GI w 6 mm_X12_isMissing 10 [.ref 92, .int (.ofInt (r : Int)), .int (.ofInt z102), .int (.ofInt 0), mj_U] m101 KI) (kp_o_Mb (kt_GM_Mb hG.1.2)) hW' ⟨by decide, by decide⟩ ⟨by decide, by decide⟩ (o3.trans hG.1.1.1.2.1) (fun t t0 t1 => hG.1.2.2.2.1 t t0 (by rw [o0] at t1; omega)) (fun q0 q1 τ f => ?_) (fun q τ f hT => ?_)
  · rw [show kp_o g (r : Int) 0 4 = (r : Int) from kp_o_4] at hlt
    exact hlt
  · have hno : ¬ kp_mi g N r := fun z => by
      rcases z.1.2 with q | ⟨S, q⟩
      · rw [o1] at q0; omega
      · rw [q1] at q; cases q
    have hNτ := kn_M_fr hN f (fun i q => by unfold jW_lt jW_ef jW_ls jW_ac at q; omega) (fun q => by unfold jW_lt jW_ef jW_ls jW_ac at q; omega) (fun q => by unfold jW_lt jW_ef jW_ls jW_ac at q; omega)
    have hK : KI 0 τ := by
      have := hk τ (jF_mono f (fun c i q => Or.inl q)) (fun z => absurd z hno)
      rw [jn_b_f hno] at this
      exact this
    refine jb_X12_isMissing_10 rfl (jm_knownBy hNτ ?_)
    exact jn_ite (fun _ => ⟨Or.inl rfl, hK⟩) (fun _ => jn_ite (fun _ => ⟨Or.inl rfl, hK⟩) (fun h => absurd rfl h))
  · have hmay : kp_may g r := ⟨hr, by
      rcases q with q | q
      · rw [o1] at q; exact Or.inl q
      · exact Or.inr q.2⟩
    have hMW : kr_MW τ 1 (kp_o g (r : Int)) := kr_MW_of hW' hT.1 ⟨by decide, by decide⟩ (kg_MT_of hW' hT)
    have hNτ := kn_M_fr hN f (fun i q => by unfold jW_lt jW_ef jW_ls jW_ac at q; omega) (fun q => by unfold jW_lt jW_ef jW_ls jW_ac at q; omega) (fun q => by unfold jW_lt jW_ef jW_ls jW_ac at q; omega)
    have hcτ : ∀ i : Nat, i < kn_kb N → τ.1 (92 + 44) (i : Int) = if kn_gn N i = true then 0 else 1 := fun i hi => (f.1 _ _ (fun q => by unfold jW_lt jW_ef jW_ls jW_ac at q; omega)).trans (hc i hi)
    have hloop : ∀ (m k : Nat) (τ2 : jg_M) (P : Prop) (u4 : Value), k + m = kn_kb N → jF (fun c i => kW_co c i ∨ c = 92 + 39) τ τ2 → (P ↔ ∀ i, i < k → kn_is N i → (kr_se (kp_o g (r : Int)) (fun k => ((kr_dg 10 (N.2 i).1.toNat (N.2 i).2.1.toNat k : Nat) : Int)) (N.2 i).1.toNat = true ↔ (N.2 i).2.2 = 1)) → jg_GI w 6 mm_X12_isMissing 10 [.ref 92, .int (.ofInt (r : Int)), .int (.ofInt (jn_b P)), .int (.ofInt (k : Int)), u4] τ2 KI := by
      have hend : ∀ (τ2 : jg_M) (P : Prop), jF (fun c i => kW_co c i ∨ c = 92 + 39) τ τ2 → (P ↔ kp_mi g N r) → KI (jn_b P) τ2 := fun τ2 P hf hp => by
        rw [jn_b_eq hp]
        exact hk τ2 (jF_tr (jF_mono f (fun c i q => Or.inl q)) (jF_mono hf (fun c i q => Or.inr q))) (fun _ => kr_MW_fr hMW hf (fun c i hc q => by unfold kW_co at q; omega))
      intro m
      induction m with
      | zero =>
        intro k τ2 P u4 hkm hf hP'
        have hN2 := kn_M_fr hNτ hf (fun i q => by unfold kW_co at q; omega) (fun q => by unfold kW_co at q; omega) (fun q => by unfold kW_co at q; omega)
        refine jb_X12_isMissing_10 rfl (jm_knownBy hN2 ?_)
        rw [ekb, jr_wr (show jr ((kn_kb N : Nat) : Int) by omega), jr_wr (show jr (k : Int) by omega)]
        refine jn_ite (fun _ => ⟨jn_b_rng P, hend τ2 P hf ?_⟩) (fun h => by omega)
        rw [hP']
        exact ⟨fun z => ⟨hmay, fun i hi => z i (by have := hi.1; omega) hi⟩, fun z i _ hi => z.2 i hi⟩
      | succ m ih =>
        intro k τ2 P u4 hkm hf hP'
        have hN2 := kn_M_fr hNτ hf (fun i q => by unfold kW_co at q; omega) (fun q => by unfold kW_co at q; omega) (fun q => by unfold kW_co at q; omega)
        refine jb_X12_isMissing_10 rfl (jm_knownBy hN2 ?_)
        rw [ekb, jr_wr (show jr ((kn_kb N : Nat) : Int) by omega), jr_wr (show jr (k : Int) by omega), jn_b_wr]
        refine jn_ite (fun h => by omega) (fun _ => jn_ite (fun hp0 => ⟨by rw [hp0]; exact Or.inl rfl, ?_⟩) (fun hp1 => ?_))
        · have hPf : ¬ P := fun z => by rw [jn_b_t z] at hp0; omega
          refine hend τ2 P hf ⟨fun z => absurd z hPf, fun z => absurd (hP'.mpr (fun i _ hi => z.2 i hi)) hPf⟩
        · have hPt : P := Classical.byContradiction (fun z => hp1 (jn_b_f z))
          rintro _ rfl
          refine ⟨by omega, ?_⟩
          have hNk := hN2.2.2 k (by omega)
          have hstep : ¬ kn_is N k → (P ↔ ∀ i, i < k + 1 → kn_is N i → (kr_se (kp_o g (r : Int)) (fun k => ((kr_dg 10 (N.2 i).1.toNat (N.2 i).2.1.toNat k : Nat) : Int)) (N.2 i).1.toNat = true ↔ (N.2 i).2.2 = 1)) := fun hn => hP'.trans ⟨fun z i hi h => z i (by
            by_cases hik : i = k
            · rw [hik] at h; exact absurd h hn
            · omega) h, fun z i hi h => z i (by omega) h⟩
          rw [show τ2.1 (92 + 44) (k : Int) = if kn_gn N k = true then 0 else 1 from (hf.1 _ _ (fun q => by unfold kW_co at q; omega)).trans (hcτ k (by omega))]
          rw [jr_wr (show jr (3 * (k : Int)) by omega), jr_wr (show jr (3 * (k : Int) + 1) by omega), jr_wr (show jr (3 * (k : Int) + 2) by omega), hNk.1, hNk.2.1]
          have hnext : ∀ (τ3 : jg_M) (P2 : Prop) (u : Value), jF (fun c i => kW_co c i ∨ c = 92 + 39) τ τ3 → (P2 ↔ ∀ i, i < k + 1 → kn_is N i → (kr_se (kp_o g (r : Int)) (fun k => ((kr_dg 10 (N.2 i).1.toNat (N.2 i).2.1.toNat k : Nat) : Int)) (N.2 i).1.toNat = true ↔ (N.2 i).2.2 = 1)) → jg_GI w 6 mm_X12_isMissing 10 [.ref 92, .int (.ofInt (r : Int)), .int (.ofInt (jn_b P2)), .int (.ofInt ((k : Int) + 1)), u] τ3 KI := fun τ3 P2 u hf3 hp => by
            have := ih (k + 1) τ3 P2 u (by omega) hf3 hp
            rw [show ((k + 1 : Nat) : Int) = (k : Int) + 1 by omega] at this
            exact this
          cases hgn : kn_gn N k with
          | true =>
            rw [if_pos rfl]
            exact jn_ite (fun _ => hnext τ2 P _ hf (hstep (fun z => by rw [z.2.1] at hgn; cases hgn))) (fun h => absurd rfl h)
          | false =>
            rw [if_neg (by decide)]
            refine ⟨by omega, ?_⟩
            rcases hP k (by omega) with hs | ⟨hrow, hsaid⟩
            · rw [jr_wr (show jr (N.2 k).1 by omega)]
              exact jn_ite (fun h => by omega) (fun _ => hnext τ2 P _ hf (hstep (fun z => by have := z.2.2; omega)))
            · have hl4 := hrow.1
              have hx0 := hrow.2.1
              have hlt10 := kp_ok_lt hrow.2.2
              have hp4 : 10 ^ (N.2 k).1.toNat ≤ 10000 := Nat.le_trans (Nat.pow_le_pow_right (by decide) (show (N.2 k).1.toNat ≤ 4 by omega)) (by decide)
              have hisk : kn_is N k := ⟨by omega, hgn, by omega⟩
              rw [jr_wr (show jr (N.2 k).1 by omega)]
              refine jn_ite (fun _ => ⟨by omega, by omega, ?_⟩) (fun h => by omega)
              have hgv := jm_gives (w := w) (σ := τ2) (n := (N.2 k).1.toNat) (code := (N.2 k).2.1.toNat) (by' := 10) (KV := fun (m104 : jg_M) => ((0 : Int) ≤ 3 * (k : Int) ∧ 3 * (k : Int) < (72 : Int)) ∧ jg_CI w 1 mm_X12_isSentence [.ref 92, .int (.ofInt 1), .int (.ofInt (m104.1 (92 + 43) (3 * (k : Int))))] m104 (fun (z106 : Int) (m105 : jg_M) => ((0 : Int) ≤ 3 * (k : Int) + 2 ∧ 3 * (k : Int) + 2 < (72 : Int)) ∧ (if jg_wr (m105.1 (92 + 43) (3 * (k : Int) + 2)) = 1 then (if jg_wr z106 = 1 then jg_GI w 6 mm_X12_isMissing 10 [.ref 92, .int (.ofInt (r : Int)), .int (.ofInt 1), .int (.ofInt ((k : Int) + 1)), .int (.ofInt (3 * (k : Int)))] m105 KI else jg_GI w 6 mm_X12_isMissing 10 [.ref 92, .int (.ofInt (r : Int)), .int (.ofInt 0), .int (.ofInt ((k : Int) + 1)), .int (.ofInt (3 * (k : Int)))] m105 KI) else (if jg_wr z106 = 0 then jg_GI w 6 mm_X12_isMissing 10 [.ref 92, .int (.ofInt (r : Int)), .int (.ofInt 1), .int (.ofInt ((k : Int) + 1)), .int (.ofInt (3 * (k : Int)))] m105 KI else jg_GI w 6 mm_X12_isMissing 10 [.ref 92, .int (.ofInt (r : Int)), .int (.ofInt 0), .int (.ofInt ((k : Int) + 1)), .int (.ofInt (3 * (k : Int)))] m105 KI)))) (by omega) (by decide) (by omega) (fun τ3 hf3 hg3 => ⟨by omega, ?_⟩)
              · rw [show (((N.2 k).2.1.toNat : Nat) : Int) = (N.2 k).2.1 by omega, show (((N.2 k).1.toNat : Nat) : Int) = (N.2 k).1 by omega] at hgv
                exact hgv
              · have hN3 := kn_M_fr hN2 hf3 (fun i q => by omega) (by omega) (by omega)
                have hf03 : jF (fun c i => kW_co c i ∨ c = 92 + 39) τ τ3 := jF_tr hf (jF_mono hf3 (fun c i q => Or.inr q))
                have hMW3 := kr_MW_fr hMW hf03 (fun c i hc q => by unfold kW_co at q; omega)
                rw [(hN3.2.2 k (by omega)).1]
                have hsen := jm_isSentence (w := w) (σ := τ3) (b := 1) (g := kp_o g (r : Int)) (n := (N.2 k).1.toNat) (gv := fun j => ((kr_dg 10 (N.2 k).1.toNat (N.2 k).2.1.toNat j : Nat) : Int)) (KI := fun (z106 : Int) (m105 : jg_M) => ((0 : Int) ≤ 3 * (k : Int) + 2 ∧ 3 * (k : Int) + 2 < (72 : Int)) ∧ (if jg_wr (m105.1 (92 + 43) (3 * (k : Int) + 2)) = 1 then (if jg_wr z106 = 1 then jg_GI w 6 mm_X12_isMissing 10 [.ref 92, .int (.ofInt (r : Int)), .int (.ofInt 1), .int (.ofInt ((k : Int) + 1)), .int (.ofInt (3 * (k : Int)))] m105 KI else jg_GI w 6 mm_X12_isMissing 10 [.ref 92, .int (.ofInt (r : Int)), .int (.ofInt 0), .int (.ofInt ((k : Int) + 1)), .int (.ofInt (3 * (k : Int)))] m105 KI) else (if jg_wr z106 = 0 then jg_GI w 6 mm_X12_isMissing 10 [.ref 92, .int (.ofInt (r : Int)), .int (.ofInt 1), .int (.ofInt ((k : Int) + 1)), .int (.ofInt (3 * (k : Int)))] m105 KI else jg_GI w 6 mm_X12_isMissing 10 [.ref 92, .int (.ofInt (r : Int)), .int (.ofInt 0), .int (.ofInt ((k : Int) + 1)), .int (.ofInt (3 * (k : Int)))] m105 KI))) hMW3 (by omega) hg3 (fun i hi => ⟨by omega, by
                  have := (kp_ok_iff.mp hrow.2.2).2 i hi
                  rw [o0]
                  omega⟩) (fun τ4 hf4 => ⟨by omega, ?_⟩)
                · rw [show (((N.2 k).1.toNat : Nat) : Int) = (N.2 k).1 by omega] at hsen
                  exact hsen
                · have hf04 : jF (fun c i => kW_co c i ∨ c = 92 + 39) τ τ4 := jF_tr hf03 (jF_mono hf4 (fun c i q => Or.inl q))
                  have hN4 := kn_M_fr hN3 hf4 (fun i q => by unfold kW_co at q; omega) (fun q => by unfold kW_co at q; omega) (fun q => by unfold kW_co at q; omega)
                  rw [(hN4.2.2 k (by omega)).2.2, jr_wr (show jr (N.2 k).2.2 by omega), jn_b_wr]
                  have hall : ∀ Q2 : Prop, (Q2 ↔ (kr_se (kp_o g (r : Int)) (fun j => ((kr_dg 10 (N.2 k).1.toNat (N.2 k).2.1.toNat j : Nat) : Int)) (N.2 k).1.toNat = true ↔ (N.2 k).2.2 = 1)) → (Q2 ↔ ∀ i, i < k + 1 → kn_is N i → (kr_se (kp_o g (r : Int)) (fun k => ((kr_dg 10 (N.2 i).1.toNat (N.2 i).2.1.toNat k : Nat) : Int)) (N.2 i).1.toNat = true ↔ (N.2 i).2.2 = 1)) := fun Q2 h2 => by
                    rw [h2]
                    constructor
                    · intro z i hi h
                      by_cases hik : i = k
                      · rw [hik]; exact z
                      · exact hP'.mp hPt i (by omega) h
                    · intro z
                      exact z k (by omega) hisk
                  have ht := hnext τ4 True (.int (.ofInt (3 * (k : Int)))) hf04
                  have hF := hnext τ4 False (.int (.ofInt (3 * (k : Int)))) hf04
                  rw [jn_b_t trivial] at ht
                  rw [jn_b_f (fun z => z)] at hF
                  by_cases hse : kr_se (kp_o g (r : Int)) (fun j => ((kr_dg 10 (N.2 k).1.toNat (N.2 k).2.1.toNat j : Nat) : Int)) (N.2 k).1.toNat = true
                  · rw [jn_b_t hse]
                    refine jn_ite (fun h1 => jn_ite (fun _ => ht (hall True ⟨fun _ => ⟨fun _ => h1, fun _ => hse⟩, fun _ => trivial⟩)) (fun h => absurd rfl h)) (fun h1 => jn_ite (fun h => absurd h (by decide)) (fun _ => hF (hall False ⟨fun z => z.elim, fun z => h1 (z.mp hse)⟩)))
                  · rw [jn_b_f hse]
                    refine jn_ite (fun h1 => jn_ite (fun h => absurd h (by decide)) (fun _ => hF (hall False ⟨fun z => z.elim, fun z => hse (z.mpr h1)⟩))) (fun h1 => jn_ite (fun _ => ht (hall True ⟨fun _ => ⟨fun z => absurd z hse, fun z => absurd z h1⟩, fun _ => trivial⟩)) (fun h => absurd rfl h))
    have := hloop (kn_kb N) 0 τ True mj_U (by omega) jF_rf ⟨fun _ i h => absurd h (Nat.not_lt_zero i), fun _ => trivial⟩
    rw [jn_b_t trivial] at this
    exact this
def kW_ms (c : Nat) (i : Int) : Prop := kW_im c i ∨ c = 92 + 44 ∨ (c = 92 ∧ (i = 2 ∨ (33 ≤ i ∧ i ≤ 38)))
theorem ku_MG_ms (h : ku_MG σ g) (hf : jF kW_ms σ τ) : ku_MG τ g := ku_MG_fr h hf (fun c i q1 q2 => by unfold kW_mg kW_m0 at q1; unfold kW_ms kW_im jW_lt jW_ef jW_ls jW_ac kW_co at q2; omega)
theorem jm_byText2 (hk : ∀ τ, jF (fun c i => c = 92 ∧ ((33 ≤ i ∧ i ≤ 36) ∨ i = 38)) σ τ → KV τ) : jg_CV w 0 mm_X12_byText [.ref 92] σ KV := by
  refine jb_X12_byText_0 rfl ?_
  intro m1 e1 m2 e2 m3 e3 m4 e4 m5 e5
  refine hk m5 ?_
  rw [e5, e4, e3, e2, e1]
  exact jF_toI (jF_toI (jF_toI (jF_toI (jF_I ⟨rfl, by omega⟩) ⟨rfl, by omega⟩) ⟨rfl, by omega⟩) ⟨rfl, by omega⟩) ⟨rfl, by omega⟩
theorem jm_missing (hG : ku_MG σ g) (hN : kn_M σ N) (hP : kp_N g N) (hl : kn_lt N 0) (hk : ∀ τ, jF kW_ms σ τ → KI (jn_mk (kp_mi g N) 12 : Nat) τ) : jg_CI w 7 mm_X12_missing [.ref 92] σ KI := by
  have hW := hG.1.1.1.1
  have hw := hW.1
  refine jb_X12_missing_0 rfl ?_
  intro τ1 e1
  have f1 : jF (fun c i => c = 92 ∧ i = 2) σ τ1 := by rw [e1]; exact jF_I ⟨rfl, rfl⟩
  have hN1 := kn_M_fr hN f1 (fun i q => by omega) (by omega) (by omega)
  refine jm_layCounts hN1 hP hl (fun τ2 f2 hc2 => ?_)
  have f02 : jF kW_ms σ τ2 := jF_tr (jF_mono f1 (fun c i q => by unfold kW_ms; omega)) (jF_mono f2 (fun c i q => Or.inr (Or.inl q)))
  have hloop : ∀ (m r : Nat) (τ : jg_M), (r : Int) + m = g 0 2 → jF kW_im τ2 τ → jg_GI w 7 mm_X12_missing 13 [.ref 92, .int (.ofInt (jn_mk (fun i => i < r ∧ kp_mi g N i) 12 : Nat)), .int (.ofInt (r : Int))] τ KI := by
    intro m
    induction m with
    | zero =>
      intro r τ hrm hf
      have f0 : jF kW_ms σ τ := jF_tr f02 (jF_mono hf (fun c i q => Or.inl q))
      have h' := ku_MG_ms hG f0
      refine jb_X12_missing_13 rfl ?_
      rw [show τ.1 (92 + 5) 0 = g 0 2 from h'.1.2.1.2.2.2, jr_wr (show jr (g 0 2) by omega), jr_wr (show jr (r : Int) by omega)]
      refine jn_ite (fun _ => jm_byText2 (fun τ3 f3 => ?_)) (fun h => by omega)
      rw [jn_mk_eq (Q := kp_mi g N) (fun i hi => ⟨fun q => q.2, fun q => ⟨by have := q.1.1; omega, q⟩⟩)]
      exact hk τ3 (jF_tr f0 (jF_mono f3 (fun c i q => by unfold kW_ms; omega)))
    | succ m ih =>
      intro r τ hrm hf
      have hr12 : r < 12 := by omega
      have h2r : 2 ^ r < 2 ^ 12 := Nat.pow_lt_pow_right (by decide) hr12
      have h12 : (2 : Nat) ^ 12 = 4096 := rfl
      have hlt : jn_mk (fun i => i < r ∧ kp_mi g N i) 12 < 2 ^ 12 := jn_mk_lt
      have f0 : jF kW_ms σ τ := jF_tr f02 (jF_mono hf (fun c i q => Or.inl q))
      have h' := ku_MG_ms hG f0
      have hNτ := kn_M_fr hN f0 (fun i q => by unfold kW_ms kW_im jW_lt jW_ef jW_ls jW_ac kW_co at q; omega) (fun q => by unfold kW_ms kW_im jW_lt jW_ef jW_ls jW_ac kW_co at q; omega) (fun q => by unfold kW_ms kW_im jW_lt jW_ef jW_ls jW_ac kW_co at q; omega)
      refine jb_X12_missing_13 rfl ?_
      rw [show τ.1 (92 + 5) 0 = g 0 2 from h'.1.2.1.2.2.2, jr_wr (show jr (g 0 2) by omega), jr_wr (show jr (r : Int) by omega)]
      refine jn_ite (fun h => by omega) (fun _ => jm_isMissing h' hNτ hP hl (fun i hi => (hf.1 _ _ (fun q => by unfold kW_im jW_lt jW_ef jW_ls jW_ac kW_co at q; omega)).trans (hc2 i hi)) (by omega) (fun τ3 f3 _ => ?_))
      have hgo := ih (r + 1) τ3 (by omega) (jF_tr hf f3)
      rw [show ((r + 1 : Nat) : Int) = (r : Int) + 1 by omega] at hgo
      refine jn_if (fun hno => ?_) (fun hyes => ?_)
      · have e0 : jg_or ((jn_mk (fun i => i < r ∧ kp_mi g N i) 12 : Nat) : Int) 0 = ((jn_mk (fun i => i < r ∧ kp_mi g N i) 12 : Nat) : Int) := by
          have := jb_or (m := jn_mk (fun i => i < r ∧ kp_mi g N i) 12) (n := 0) (by omega) (by decide)
          rw [Nat.or_zero] at this
          exact this
        rw [e0]
        rintro _ rfl
        rw [kp_mk_no hno] at hgo
        exact hgo
      · have hsh : jg_shl 1 (r : Int) = ((2 ^ r : Nat) : Int) := by
          have := jb_shl (m := 1) (k := r) (by omega) (by omega)
          rw [Nat.one_mul] at this
          exact this
        rw [hsh, jb_or (by omega) (by omega), ← kp_mk_lt hr12 hyes]
        rintro _ rfl
        exact hgo
  have := hloop (g 0 2).toNat 0 τ2 (by omega) jF_rf
  rw [show jn_mk (fun i => i < 0 ∧ kp_mi g N i) 12 = 0 from by
    apply Nat.eq_of_testBit_eq
    intro j
    rw [Nat.zero_testBit, Bool.eq_false_iff]
    intro q
    have := (jn_mk_bit.mp q).2.1
    omega] at this
  exact this
end KPE
