/-! READ, in both -/
def kz_ph (c : Nat) (h : kz_H) (v : kr_K × Int × Int) : kz_H := fun i => if c < 20 then (if i = c then v else h i) else (if i = 19 then v else h (i + 1))
def kW_ra (c : Nat) (i : Int) : Prop := (c = 69 ∧ (i = 0 ∨ i = 1)) ∨ (70 ≤ c ∧ c ≤ 73)
def kW_rb (c : Nat) (i : Int) : Prop := c = 92 + 46 ∨ (c = 92 ∧ i = 70)
section KZD
variable {w : Nat} {σ τ : jg_M} {c T : Nat} {h : kz_H} {g : gM} {K : kr_K} {n x o rd tk : Int} {KV : jg_M → Prop} {KI : Int → jg_M → Prop}
theorem jc_X3_add (hR : kz_RC σ c h) (hC : kz_C σ 65 K rd tk) (h40 : K.1 ≤ 40) (hk : ∀ τ, jF kW_ra σ τ → kz_RC τ (min (c + 1) 20) (kz_ph c h (K, rd, tk)) → KV τ) : jg_CV w 1 mm_X3_add [.ref 69, .ref 65] σ KV := by
  obtain ⟨p, p1, p2, ⟨c1, c2⟩, hs⟩ := hR
  obtain ⟨⟨k1, k2⟩, k3, k4⟩ := hC
  refine jb_X3_add_0 rfl rfl ?_
  rw [p1, jr_wr (show jr (((p : Nat) : Int) + 1) by omega)]
  refine jn_ite (fun e => ?_) (fun e => ?_)
  all_goals
    intro τ1 h1
    obtain ⟨p', ⟨q1, q2⟩, h1⟩ : ∃ p' : Nat, (p' < 20 ∧ ((p < 19 ∧ p' = p + 1) ∨ (p = 19 ∧ p' = 0))) ∧ τ1 = jg_sI σ 69 1 ((p' : Nat) : Int) := by
      first
        | exact ⟨0, by omega, h1⟩
        | exact ⟨p + 1, by omega, by rw [h1]; rfl⟩
    have c1' : τ1.1 69 0 = (c : Nat) := by rw [h1, js_In (Or.inr (by decide))]; exact c1
    rw [c1', jr_wr (show jr (((c : Nat) : Int) + 1) by omega)]
    have ec : (if ((c : Nat) : Int) + 1 < 20 then ((c : Nat) : Int) + 1 else 20) = ((min (c + 1) 20 : Nat) : Int) := by split <;> omega
    rw [ec]
    intro τ2 h2
    have e2 : τ2.1 69 1 = ((p' : Nat) : Int) := by rw [h2, js_In (Or.inr (by decide)), h1, js_Is]
    have wp := jr_wr (show jr (((p' : Nat) : Int) * 40) by omega)
    have wq := jr_wr (show jr ((p' : Nat) : Int) by omega)
    have g2 : ∀ c i, c ≠ 69 → τ2.1 c i = σ.1 c i := fun c i hc => by rw [h2, js_In (Or.inl hc), h1, js_In (Or.inl hc)]
    rw [e2, wp]
    refine ⟨by omega, ?_⟩
    intro τ3 h3
    have hc3 : ∀ c i, c ≠ 70 → τ3.1 c i = τ2.1 c i := fun c i hc => by
      rw [h3]
      show (if _ then _ else _) = _
      rw [if_neg (fun q => hc q.1)]
    have hv3 : ∀ j : Nat, j < 40 → τ3.1 70 ((p' : Int) * 40 + j) = σ.1 66 (j : Int) := fun j hj => by
      rw [h3]
      show (if _ then _ else _) = _
      rw [if_pos ⟨rfl, by omega, by omega⟩, show (0 : Int) + ((p' : Int) * 40 + (j : Int) - (p' : Int) * 40) = j by omega]
      exact g2 66 _ (by decide)
    have hn3 : ∀ (s : Nat) (j : Nat), s ≠ p' → j < 40 → τ3.1 70 ((s : Int) * 40 + j) = σ.1 70 ((s : Int) * 40 + j) := fun s j hsp hj => by
      rw [h3]
      show (if _ then _ else _) = _
      rw [if_neg (fun q => by omega)]
      exact g2 70 _ (by decide)
    have e3 : τ3.1 69 1 = ((p' : Nat) : Int) := (hc3 _ _ (by decide)).trans e2
    rw [e3, wq]
    refine ⟨by omega, ?_⟩
    intro τ4 h4
    have e4 : τ4.1 69 1 = ((p' : Nat) : Int) := by rw [h4, js_In (Or.inl (by decide))]; exact e3
    rw [e4, wq]
    refine ⟨by omega, ?_⟩
    intro τ5 h5
    have e5 : τ5.1 69 1 = ((p' : Nat) : Int) := by rw [h5, js_In (Or.inl (by decide))]; exact e4
    rw [e5, wq]
    refine ⟨by omega, ?_⟩
    intro τ6 h6
    have e652 : τ3.1 65 2 = (K.1 : Nat) := ((hc3 _ _ (by decide)).trans (g2 _ _ (by decide))).trans k1
    have e653 : τ4.1 65 3 = rd := by rw [h4, js_In (Or.inl (by decide))]; exact ((hc3 _ _ (by decide)).trans (g2 _ _ (by decide))).trans k3
    have e654 : τ5.1 65 4 = tk := by rw [h5, js_In (Or.inl (by decide)), h4, js_In (Or.inl (by decide))]; exact ((hc3 _ _ (by decide)).trans (g2 _ _ (by decide))).trans k4
    rw [e652] at h4
    rw [e653] at h5
    rw [e654] at h6
    have f36 : jF (fun c i => 71 ≤ c ∧ c ≤ 73 ∧ i = p') τ3 τ6 := by
      rw [h6, h5, h4]
      exact jF_toI (jF_toI (jF_I ⟨by omega, by omega, rfl⟩) ⟨by omega, by omega, rfl⟩) ⟨by omega, by omega, rfl⟩
    have f23 : jF (fun c i => c = 70) τ2 τ3 := ⟨fun c i q => hc3 c i q, fun c i q => by rw [h3]; rfl⟩
    have f02 : jF (fun c i => c = 69 ∧ (i = 0 ∨ i = 1)) σ τ2 := by rw [h2, h1]; exact jF_toI (jF_I ⟨rfl, by omega⟩) ⟨rfl, by omega⟩
    have f06 : jF kW_ra σ τ6 := jF_tr (jF_mono f02 (fun c i q => by unfold kW_ra; omega)) (jF_tr (jF_mono f23 (fun c i q => by unfold kW_ra; omega)) (jF_mono f36 (fun c i q => by unfold kW_ra; omega)))
    refine hk τ6 f06 ⟨p', ?_, q1, ⟨?_, by omega⟩, fun i hi => ?_⟩
    · exact (f36.1 _ _ (by omega)).trans e3
    · refine (f36.1 _ _ (by omega)).trans ((hc3 _ _ (by decide)).trans ?_)
      rw [h2, js_Is]
    · by_cases hlast : i = min (c + 1) 20 - 1
      · have ev : kz_ph c h (K, rd, tk) i = (K, rd, tk) := by
          unfold kz_ph
          by_cases hc20 : c < 20
          · rw [if_pos hc20, if_pos (by omega)]
          · rw [if_neg hc20, if_pos (by omega)]
        have ea : kz_at p' (min (c + 1) 20) i = p' := by unfold kz_at; omega
        rw [ev, ea]
        refine ⟨h40, fun j hj => ?_, ?_, ?_, ?_⟩
        · have hj' : j < K.1 := hj
          rw [f36.1 _ _ (by omega), hv3 j (by omega)]
          exact k2 j hj'
        · rw [h6, js_In (Or.inl (by decide)), h5, js_In (Or.inl (by decide)), h4, js_Is]
        · rw [h6, js_In (Or.inl (by decide)), h5, js_Is]
        · rw [h6, js_Is]
      · have hi' : ∃ i' : Nat, i' < c ∧ kz_ph c h (K, rd, tk) i = h i' ∧ kz_at p' (min (c + 1) 20) i = kz_at p c i' := by
          by_cases hc20 : c < 20
          · refine ⟨i, by omega, ?_, ?_⟩
            · unfold kz_ph
              rw [if_pos hc20, if_neg (by omega)]
            · unfold kz_at
              omega
          · refine ⟨i + 1, by omega, ?_, ?_⟩
            · unfold kz_ph
              rw [if_neg hc20, if_neg (by omega)]
            · unfold kz_at
              omega
        obtain ⟨i', i1, i2, i3⟩ := hi'
        have hne : kz_at p' (min (c + 1) 20) i ≠ p' := by unfold kz_at; omega
        have hsl := hs i' i1
        rw [i2, i3]
        rw [i3] at hne
        refine ⟨hsl.1, fun j hj => ?_, ?_, ?_, ?_⟩
        · rw [f36.1 _ _ (by omega), hn3 _ j hne (by have := hsl.1; omega)]
          exact hsl.2.1 j hj
        · exact ((f36.1 _ _ (by omega)).trans ((hc3 _ _ (by decide)).trans (g2 _ _ (by decide)))).trans hsl.2.2.1
        · exact ((f36.1 _ _ (by omega)).trans ((hc3 _ _ (by decide)).trans (g2 _ _ (by decide)))).trans hsl.2.2.2.1
        · exact ((f36.1 _ _ (by omega)).trans ((hc3 _ _ (by decide)).trans (g2 _ _ (by decide)))).trans hsl.2.2.2.2
end KZD
