/-! READ, in both -/
def kz_ph (c : Nat) (h : kz_H) (v : kr_K × Int × Int) : kz_H := fun i => if c < 20 then (if i = c then v else h i) else (if i = 19 then v else h (i + 1))
def kW_ra (c : Nat) (i : Int) : Prop := (c = 69 ∧ (i = 0 ∨ i = 1)) ∨ (70 ≤ c ∧ c ≤ 73)
def kW_rb (c : Nat) (i : Int) : Prop := c = 92 + 46 ∨ (c = 92 ∧ i = 70)
section KZD
variable {w : Nat} {σ τ : jg_M} {c T : Nat} {h : kz_H} {g : gM} {K : kr_K} {n x o rd tk : Int} {KV : jg_M → Prop} {KI : Int → jg_M → Prop}
theorem jc_X3_add (hR : kz_RC σ c h) (hC : kz_C σ 65 K rd tk) (h40 : K.1 ≤ 40) (hk : ∀ τ, jF kW_ra σ τ → kz_RC τ (min (c + 1) 20) (kz_ph c h (K, rd, tk)) → KV τ) : jg_CV w 1 mm_X3_add [.ref 69, .ref 65] σ KV := by
  obtain ⟨p, p1, p2, ⟨c1, c2⟩, hs⟩ := hR
  obtain ⟨⟨k1, k2⟩, k3, k4⟩ := hC
  refine jb_X3_add_0 rfl rfl ?_
  rw [p1, jr_wr (show jr (((p : Nat) : Int) + 1) by omega)]
  refine jn_ite (fun e => ?_) (fun e => ?_)
  all_goals
    intro τ1 h1
    obtain ⟨p', ⟨q1, q2⟩, h1⟩ : ∃ p' : Nat, (p' < 20 ∧ ((p < 19 ∧ p' = p + 1) ∨ (p = 19 ∧ p' = 0))) ∧ τ1 = jg_sI σ 69 1 ((p' : Nat) : Int) := by
      first
        | exact ⟨0, by omega, h1⟩
        | exact ⟨p + 1, by omega, by rw [h1]; rfl⟩
    have c1' : τ1.1 69 0 = (c : Nat) := by rw [h1, js_In (Or.inr (by decide))]; exact c1
    rw [c1', jr_wr (show jr (((c : Nat) : Int) + 1) by omega)]
    have ec : (if ((c : Nat) : Int) + 1 < 20 then ((c : Nat) : Int) + 1 else 20) = ((min (c + 1) 20 : Nat) : Int) := by split <;> omega
    rw [ec]
    intro τ2 h2
    have e2 : τ2.1 69 1 = ((p' : Nat) : Int) := by rw [h2, js_In (Or.inr (by decide)), h1, js_Is]
    have wp := jr_wr (show jr (((p' : Nat) : Int) * 40) by omega)
    have wq := jr_wr (show jr ((p' : Nat) : Int) by omega)
    have g2 : ∀ c i, c ≠ 69 → τ2.1 c i = σ.1 c i := fun c i hc => by rw [h2, js_In (Or.inl hc), h1, js_In (Or.inl hc)]
    rw [e2, wp]
    refine ⟨by omega, ?_⟩
    intro τ3 h3
    have hc3 : ∀ c i, c ≠ 70 → τ3.1 c i = τ2.1 c i := fun c i hc => by
      rw [h3]
      show (if _ then _ else _) = _
      rw [if_neg (fun q => hc q.1)]
    have hv3 : ∀ j : Nat, j < 40 → τ3.1 70 ((p' : Int) * 40 + j) = σ.1 66 (j : Int) := fun j hj => by
      rw [h3]
      show (if _ then _ else _) = _
      rw [if_pos ⟨rfl, by omega, by omega⟩, show (0 : Int) + ((p' : Int) * 40 + (j : Int) - (p' : Int) * 40) = j by omega]
      exact g2 66 _ (by decide)
    have hn3 : ∀ (s : Nat) (j : Nat), s ≠ p' → j < 40 → τ3.1 70 ((s : Int) * 40 + j) = σ.1 70 ((s : Int) * 40 + j) := fun s j hsp hj => by
      rw [h3]
      show (if _ then _ else _) = _
      rw [if_neg (fun q => by omega)]
      exact g2 70 _ (by decide)
    have e3 : τ3.1 69 1 = ((p' : Nat) : Int) := (hc3 _ _ (by decide)).trans e2
    rw [e3, wq]
    refine ⟨by omega, ?_⟩
    intro τ4 h4
    have e4 : τ4.1 69 1 = ((p' : Nat) : Int) := by rw [h4, js_In (Or.inl (by decide))]; exact e3
    rw [e4, wq]
    refine ⟨by omega, ?_⟩
    intro τ5 h5
    have e5 : τ5.1 69 1 = ((p' : Nat) : Int) := by rw [h5, js_In (Or.inl (by decide))]; exact e4
    rw [e5, wq]
    refine ⟨by omega, ?_⟩
    intro τ6 h6
    have e652 : τ3.1 65 2 = (K.1 : Nat) := ((hc3 _ _ (by decide)).trans (g2 _ _ (by decide))).trans k1
    have e653 : τ4.1 65 3 = rd := by rw [h4, js_In (Or.inl (by decide))]; exact ((hc3 _ _ (by decide)).trans (g2 _ _ (by decide))).trans k3
    have e654 : τ5.1 65 4 = tk := by rw [h5, js_In (Or.inl (by decide)), h4, js_In (Or.inl (by decide))]; exact ((hc3 _ _ (by decide)).trans (g2 _ _ (by decide))).trans k4
    rw [e652] at h4
    rw [e653] at h5
    rw [e654] at h6
    have f36 : jF (fun c i => 71 ≤ c ∧ c ≤ 73 ∧ i = p') τ3 τ6 := by
      rw [h6, h5, h4]
      exact jF_toI (jF_toI (jF_I ⟨by omega, by omega, rfl⟩) ⟨by omega, by omega, rfl⟩) ⟨by omega, by omega, rfl⟩
    have f23 : jF (fun c i => c = 70) τ2 τ3 := ⟨fun c i q => hc3 c i q, fun c i q => by rw [h3]; rfl⟩
    have f02 : jF (fun c i => c = 69 ∧ (i = 0 ∨ i = 1)) σ τ2 := by rw [h2, h1]; exact jF_toI (jF_I ⟨rfl, by omega⟩) ⟨rfl, by omega⟩
    have f06 : jF kW_ra σ τ6 := jF_tr (jF_mono f02 (fun c i q => by unfold kW_ra; omega)) (jF_tr (jF_mono f23 (fun c i q => by unfold kW_ra; omega)) (jF_mono f36 (fun c i q => by unfold kW_ra; omega)))
    refine hk τ6 f06 ⟨p', ?_, q1, ⟨?_, by omega⟩, fun i hi => ?_⟩
    · exact (f36.1 _ _ (by omega)).trans e3
    · refine (f36.1 _ _ (by omega)).trans ((hc3 _ _ (by decide)).trans ?_)
      rw [h2, js_Is]
    · by_cases hlast : i = min (c + 1) 20 - 1
      · have ev : kz_ph c h (K, rd, tk) i = (K, rd, tk) := by
          unfold kz_ph
          by_cases hc20 : c < 20
          · rw [if_pos hc20, if_pos (by omega)]
          · rw [if_neg hc20, if_pos (by omega)]
        have ea : kz_at p' (min (c + 1) 20) i = p' := by unfold kz_at; omega
        rw [ev, ea]
        refine ⟨h40, fun j hj => ?_, ?_, ?_, ?_⟩
        · have hj' : j < K.1 := hj
          rw [f36.1 _ _ (by omega), hv3 j (by omega)]
          exact k2 j hj'
        · rw [h6, js_In (Or.inl (by decide)), h5, js_In (Or.inl (by decide)), h4, js_Is]
        · rw [h6, js_In (Or.inl (by decide)), h5, js_Is]
        · rw [h6, js_Is]
      · have hi' : ∃ i' : Nat, i' < c ∧ kz_ph c h (K, rd, tk) i = h i' ∧ kz_at p' (min (c + 1) 20) i = kz_at p c i' := by
          by_cases hc20 : c < 20
          · refine ⟨i, by omega, ?_, ?_⟩
            · unfold kz_ph
              rw [if_pos hc20, if_neg (by omega)]
            · unfold kz_at
              omega
          · refine ⟨i + 1, by omega, ?_, ?_⟩
            · unfold kz_ph
              rw [if_neg hc20, if_neg (by omega)]
            · unfold kz_at
              omega
        obtain ⟨i', i1, i2, i3⟩ := hi'
        have hne : kz_at p' (min (c + 1) 20) i ≠ p' := by unfold kz_at; omega
        have hsl := hs i' i1
        rw [i2, i3]
        rw [i3] at hne
        refine ⟨hsl.1, fun j hj => ?_, ?_, ?_, ?_⟩
        · rw [f36.1 _ _ (by omega), hn3 _ j hne (by have := hsl.1; omega)]
          exact hsl.2.1 j hj
        · exact ((f36.1 _ _ (by omega)).trans ((hc3 _ _ (by decide)).trans (g2 _ _ (by decide)))).trans hsl.2.2.1
        · exact ((f36.1 _ _ (by omega)).trans ((hc3 _ _ (by decide)).trans (g2 _ _ (by decide)))).trans hsl.2.2.2.1
        · exact ((f36.1 _ _ (by omega)).trans ((hc3 _ _ (by decide)).trans (g2 _ _ (by decide)))).trans hsl.2.2.2.2
theorem jm_remember (hR : kz_RM σ c h) (hN : kz_N σ K rd tk) (h40 : K.1 ≤ 40) (hk : ∀ τ, jF kW_rb σ τ → kz_RM τ (min (c + 1) 20) (kz_ph c h (K, rd, tk)) → KV τ) : jg_CV w 1 mm_X12_remember [.ref 92] σ KV := by
  obtain ⟨⟨r1, r2⟩, r3⟩ := hR
  have hput : ∀ (cc : Nat) (hh : kz_H) (τ : jg_M), cc < 20 → min (c + 1) 20 = cc + 1 → τ.1 92 70 = (cc : Nat) → jF kW_rb σ τ → (∀ i : Nat, i < cc → (hh i).1.1 ≤ 40 ∧ kz_M τ (92 + 46) (43 * (i : Int)) (hh i).1 (hh i).2.1 (hh i).2.2) → (∀ i : Nat, i < cc → kz_ph c h (K, rd, tk) i = hh i) → kz_ph c h (K, rd, tk) cc = (K, rd, tk) → jg_CV w 0 mm_X12_put [.ref 92, .ref (92 + 46), .int (.ofInt (43 * ((cc : Nat) : Int)))] τ (fun m101 => ∀ m102, m102 = jg_sI m101 92 70 ((m101.1 92 70) + 1) → KV m102) := by
    intro cc hh τ hcc hmin h70 hf hrows he1 he2
    have hN2 : kz_N τ K rd tk := ⟨kr_No_fr hN.1 hf (by unfold kW_rb; omega) (fun i => by unfold kW_rb; omega), (hf.1 _ _ (by unfold kW_rb; omega)).trans hN.2.1, (hf.1 _ _ (by unfold kW_rb; omega)).trans hN.2.2⟩
    refine jm_put (n0 := 860) rfl ⟨by decide, by decide⟩ (by omega) hN2 h40 (fun τ1 hf1 hM => ?_)
    intro τ2 h2
    have h701 : τ1.1 92 70 = (cc : Nat) := (hf1.1 _ _ (by omega)).trans h70
    rw [h701] at h2
    have hf2 : jF (fun c i => c = 92 ∧ i = 70) τ1 τ2 := by rw [h2]; exact jF_I ⟨rfl, rfl⟩
    rw [hmin] at hk
    refine hk τ2 (jF_tr hf (jF_tr (jF_mono hf1 (fun c i q => by unfold kW_rb; omega)) (jF_mono hf2 (fun c i q => by unfold kW_rb; omega)))) ⟨⟨by rw [h2, js_Is]; omega, by omega⟩, fun i hi => ?_⟩
    by_cases hic : i = cc
    · subst hic
      rw [he2]
      exact ⟨h40, fun j hj => (hf2.1 _ _ (by omega)).trans (hM.1 j hj), (hf2.1 _ _ (by omega)).trans hM.2.1, (hf2.1 _ _ (by omega)).trans hM.2.2.1, (hf2.1 _ _ (by omega)).trans hM.2.2.2⟩
    · rw [he1 i (by omega)]
      obtain ⟨o1, o2⟩ := hrows i (by omega)
      exact ⟨o1, fun j hj => ((hf2.1 _ _ (by omega)).trans (hf1.1 _ _ (by omega))).trans (o2.1 j hj), ((hf2.1 _ _ (by omega)).trans (hf1.1 _ _ (by omega))).trans o2.2.1, ((hf2.1 _ _ (by omega)).trans (hf1.1 _ _ (by omega))).trans o2.2.2.1, ((hf2.1 _ _ (by omega)).trans (hf1.1 _ _ (by omega))).trans o2.2.2.2⟩
  refine jb_X12_remember_0 rfl ?_
  rw [r1, jr_wr (show jr ((c : Nat) : Int) by omega)]
  refine jn_ite (fun e => ?_) (fun e => ?_)
  · have hc20 : c = 20 := by omega
    have hloop : ∀ (m k : Nat) (τ : jg_M), k + m = 817 → jF (fun c i => c = 92 + 46) σ τ → (∀ i : Int, 0 ≤ i → i < k → τ.1 (92 + 46) i = σ.1 (92 + 46) (i + 43)) → (∀ i : Int, k ≤ i → τ.1 (92 + 46) i = σ.1 (92 + 46) i) → jg_GV w 1 mm_X12_remember 11 [.ref 92, .int (.ofInt (k : Int))] τ KV := by
      intro m
      induction m with
      | zero =>
        intro k τ hkm hf hz hy
        refine jb_X12_remember_11 rfl ?_
        rw [jr_wr (show jr (k : Int) by omega)]
        refine jn_ite (fun _ => ?_) (fun h => by omega)
        intro τ1 h1
        have e70 : τ.1 92 70 = (c : Nat) := (hf.1 _ _ (by omega)).trans r1
        rw [e70] at h1
        have hf1 : jF (fun c i => c = 92 ∧ i = 70) τ τ1 := by rw [h1]; exact jF_I ⟨rfl, rfl⟩
        have e701 : τ1.1 92 70 = ((19 : Nat) : Int) := by rw [h1, js_Is]; omega
        rw [e701]
        have ev : ∀ i : Int, 0 ≤ i → i < 817 → τ1.1 (92 + 46) i = σ.1 (92 + 46) (i + 43) := fun i i0 i1 => (hf1.1 _ _ (by omega)).trans (hz i i0 (by omega))
        refine hput 19 (fun i => h (i + 1)) τ1 (by decide) (by omega) e701 (jF_tr (jF_mono hf (fun c i q => by unfold kW_rb; omega)) (jF_mono hf1 (fun c i q => by unfold kW_rb; omega))) (fun i hi => ?_) (fun i hi => ?_) ?_
        · obtain ⟨o1, o2⟩ := r3 (i + 1) (by omega)
          rw [show 43 * ((i + 1 : Nat) : Int) = 43 * (i : Int) + 43 by omega] at o2
          refine ⟨o1, fun j hj => ?_, ?_, ?_, ?_⟩
          · rw [ev _ (by omega) (by omega), show 43 * (i : Int) + (j : Int) + 43 = 43 * (i : Int) + 43 + j by omega]; exact o2.1 j hj
          · rw [ev _ (by omega) (by omega), show 43 * (i : Int) + 40 + 43 = 43 * (i : Int) + 43 + 40 by omega]; exact o2.2.1
          · rw [ev _ (by omega) (by omega), show 43 * (i : Int) + 41 + 43 = 43 * (i : Int) + 43 + 41 by omega]; exact o2.2.2.1
          · rw [ev _ (by omega) (by omega), show 43 * (i : Int) + 42 + 43 = 43 * (i : Int) + 43 + 42 by omega]; exact o2.2.2.2
        · unfold kz_ph
          rw [if_neg (by omega), if_neg (by omega)]
        · unfold kz_ph
          rw [if_neg (by omega), if_pos rfl]
      | succ m ih =>
        intro k τ hkm hf hz hy
        refine jb_X12_remember_11 rfl ?_
        rw [jr_wr (show jr (k : Int) by omega), jr_wr (show jr ((k : Int) + 43) by omega)]
        refine jn_ite (fun h => by omega) (fun _ => ⟨by omega, by omega, ?_⟩)
        intro τ1 h1
        rw [hy _ (by omega)] at h1
        have hf1 : jF (fun c i => c = 92 + 46 ∧ i = k) τ τ1 := by rw [h1]; exact jF_I ⟨rfl, rfl⟩
        rw [show (k : Int) + 1 = ((k + 1 : Nat) : Int) by omega]
        refine ih (k + 1) τ1 (by omega) (jF_tr hf (jF_mono hf1 (fun c i q => q.1))) (fun i i0 hi => ?_) (fun i hi => ?_)
        · by_cases hik : i = k
          · rw [hik, h1]; exact js_Is
          · rw [hf1.1 _ _ (by omega)]; exact hz i i0 (by omega)
        · rw [hf1.1 _ _ (by omega)]; exact hy i (by omega)
    exact hloop 817 0 σ rfl jF_rf (fun i i0 i1 => by omega) (fun i i0 => rfl)
  · refine hput c h σ (by omega) (by omega) r1 jF_rf r3 (fun i hi => ?_) ?_
    · unfold kz_ph
      rw [if_pos (by omega), if_neg (by omega)]
    · unfold kz_ph
      rw [if_pos (by omega), if_pos rfl]
end KZD
