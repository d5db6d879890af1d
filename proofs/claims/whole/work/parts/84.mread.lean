/-! READING, in the reference -/
section KRM
def kr_Mo (σ : jg_M) (K : kr_K) : Prop := σ.1 92 54 = (K.1 : Nat) ∧ ∀ i : Nat, i < K.1 → σ.1 (92 + 37) (i : Int) = K.2 i
def kW_co (c : Nat) (i : Int) : Prop := c = 92 + 37 ∨ (c = 92 ∧ 54 ≤ i ∧ i ≤ 56)
/-- what a reader needs of the reference's tables -/
def kr_MV (σ : jg_M) (b : Int) (g : gM) : Prop := (0 ≤ b ∧ b ≤ 1) ∧ (∀ r, 0 ≤ r → r < g 0 2 → σ.1 (92 + 10) r = g 3 r ∧ σ.1 (92 + 11) r = g 4 r) ∧ (∀ s x, 0 ≤ s → s < (kg_S g).1 → 0 ≤ x → x < 12 → σ.1 (92 + 16) (12 * (48 * b + s) + x) = kr_mv g s (jn_sy x)) ∧ ∀ s t, 0 ≤ s → s < (kg_S g).1 → 0 ≤ t → t ≤ g 0 0 → σ.1 (92 + 19) (8 * (48 * b + s) + t) = kr_ac g s t
variable {w : Nat} {σ τ : jg_M} {n : Nat} {g : gM} {K : kr_K} {b v k t : Int} {KV : jg_M → Prop} {KI : Int → jg_M → Prop}
theorem kr_MV_of (hG : jn_Mg σ 0 g) (hc : 0 ≤ b ∧ b ≤ 1) (h : kg_MT σ b g 0) (h0 : 0 < g 0 1) : kr_MV σ b g := by
  obtain ⟨_, _, h3⟩ := h
  rcases h3 with h3 | ⟨_, q1, q2, q3, q4, q5⟩
  · omega
  · refine ⟨hc, fun r r0 r1 => ?_, fun s x s0 s1 x0 x1 => q3.2.2 s x s0 s1 x0 x1, fun s t s0 s1 t0 t1 => q5.1 s t s0 s1 t0 t1⟩
    have := hG.2 r r0 r1
    rw [show 13 * 0 + r = r by omega] at this
    exact ⟨this.1, this.2.1⟩
theorem kr_MV_fr {W : Nat → Int → Prop} (h : kr_MV σ b g) (hf : jF W σ τ) (hn : ∀ c i, c = 92 + 10 ∨ c = 92 + 11 ∨ c = 92 + 16 ∨ c = 92 + 19 → ¬ W c i) : kr_MV τ b g :=
  ⟨h.1, fun r r0 r1 => ⟨(hf.1 _ _ (hn _ _ (by omega))).trans (h.2.1 r r0 r1).1, (hf.1 _ _ (hn _ _ (by omega))).trans (h.2.1 r r0 r1).2⟩, fun s x s0 s1 x0 x1 => (hf.1 _ _ (hn _ _ (by omega))).trans (h.2.2.1 s x s0 s1 x0 x1), fun s t s0 s1 t0 t1 => (hf.1 _ _ (hn _ _ (by omega))).trans (h.2.2.2 s t s0 s1 t0 t1)⟩
theorem jm_fromNow (hn : σ.1 92 58 = (K.1 : Nat)) (h40 : K.1 ≤ 40) (hs : ∀ i : Nat, i < K.1 → σ.1 (92 + 38) (i : Int) = K.2 i) (hk : ∀ τ, jF kW_co σ τ → kr_Mo τ K → KV τ) : jg_CV w 0 mm_X12_fromNow [.ref 92] σ KV := by
  have hloop : ∀ (m i : Nat) (τ : jg_M), i + m = K.1 → jF kW_co σ τ → (∀ j : Nat, j < i → τ.1 (92 + 37) (j : Int) = K.2 j) → jg_GV w 0 mm_X12_fromNow 2 [.ref 92, .int (.ofInt (i : Int))] τ KV := by
    intro m
    induction m with
    | zero =>
      intro i τ hi hf hz
      have h58 : τ.1 92 58 = (K.1 : Nat) := (hf.1 _ _ (fun q => by unfold kW_co at q; omega)).trans hn
      refine jb_X12_fromNow_2 rfl ?_
      rw [h58, jr_wr (by omega), jr_wr (by omega)]
      refine jn_ite (fun _ => ?_) (fun h => by omega)
      rintro _ rfl
      refine hk _ (jF_toI hf (Or.inr ⟨rfl, by omega, by omega⟩)) ⟨js_Is, fun j hj => ?_⟩
      rw [js_In (Or.inl (by omega))]
      exact hz j (by omega)
    | succ m ih =>
      intro i τ hi hf hz
      have h58 : τ.1 92 58 = (K.1 : Nat) := (hf.1 _ _ (fun q => by unfold kW_co at q; omega)).trans hn
      have hsi : τ.1 (92 + 38) (i : Int) = K.2 i := (hf.1 _ _ (fun q => by unfold kW_co at q; omega)).trans (hs i (by omega))
      refine jb_X12_fromNow_2 rfl ?_
      rw [h58, jr_wr (by omega), jr_wr (by omega)]
      refine jn_ite (fun h => by omega) (fun _ => ⟨by omega, by omega, ?_⟩)
      rintro _ rfl
      have := ih (i + 1) (jg_sI τ (92 + 37) (i : Int) (τ.1 (92 + 38) (i : Int))) (by omega) (jF_toI hf (Or.inl rfl)) (fun j hj => by
        by_cases hji : j = i
        · subst hji; rw [js_Is]; exact hsi
        · rw [js_In (Or.inr (by omega))]; exact hz j (by omega))
      rw [show ((i + 1 : Nat) : Int) = (i : Int) + 1 by omega] at this
      exact this
  exact jb_X12_fromNow_0 rfl (hloop K.1 0 σ (by omega) jF_rf (fun j hj => by omega))
theorem jm_fromFirst (hk : ∀ τ, jF kW_co σ τ → kr_Mo τ kr_K0 → KV τ) : jg_CV w 0 mm_X12_fromFirst [.ref 92] σ KV := by
  refine jb_X12_fromFirst_0 rfl ?_
  rintro _ rfl _ rfl
  refine hk _ (jF_toI (jF_I (Or.inl rfl)) (Or.inr ⟨rfl, by omega, by omega⟩)) ⟨js_Is, fun i hi => ?_⟩
  have hi' : i < 1 := hi
  rw [js_In (Or.inl (by omega)), show (i : Int) = 0 by omega, js_Is]
  rfl
theorem jm_comes (hW : jn_GW g) (hF : jn_FP g (kg_S g)) (hM : kr_MV σ b g) (hR : kr_Mo σ K) (hK : kr_ok g K) (ht : 0 ≤ t ∧ t ≤ g 0 0)
    (k0 : kr_take g t K = none → ∀ τ, jF kW_co σ τ → KI 0 τ)
    (k1 : ∀ b d K', kr_take g t K = some (b, d, K') → ∀ τ, jF kW_co σ τ → kr_Mo τ K' → τ.1 92 55 = (d : Nat) → τ.1 92 56 = (if b = true then 1 else 0) → KI 1 τ) : jg_CI w 0 mm_X12_comes [.ref 92, .int (.ofInt b), .int (.ofInt t)] σ KI := by
  have hw := hW.1
  have hI := hF.1.1
  have hb := hM.1
  have hloop : ∀ (f d : Nat) (K1 : kr_K) (τ : jg_M) (u3 u4 u5 u6 : Value), d + f = 61 → 1 ≤ f → kr_ok g K1 → jF kW_co σ τ → kr_Mo τ K1 → τ.1 92 55 = (d : Nat) → τ.1 92 56 = 0 → kr_tk g t f d K1 = kr_take g t K → jg_GI w 0 mm_X12_comes 10 [.ref 92, .int (.ofInt b), .int (.ofInt t), u3, u4, u5, u6] τ KI := by
    intro f
    induction f with
    | zero => intro d K1 τ u3 u4 u5 u6 hd h1; omega
    | succ f ih =>
      intro d K1 τ u3 u4 u5 u6 hd _ hK1 hf hR1 h55 h56 he
      have hCτ := kr_MV_fr hM hf (fun c i c1 q => by unfold kW_co at q; omega)
      have hn1 := hK1.1
      have hs := hK1.2.2.1 (K1.1 - 1) (by omega)
      have hst1 := hR1.2 (K1.1 - 1) (by omega)
      rw [show ((K1.1 - 1 : Nat) : Int) = (K1.1 : Int) - 1 by omega] at hs hst1
      have hc := kr_ac_cases hW hF hs ht
      have hac := hCτ.2.2.2 (K1.2 ((K1.1 : Int) - 1)) t hs.1 hs.2 ht.1 ht.2
      refine jb_X12_comes_10 rfl ?_
      rw [hR1.1, h55, jr_wr (show jr (((K1.1 : Nat) : Int) - 1) by omega), jr_wr (show jr ((K1.1 : Nat) : Int) by omega), jr_wr (show jr ((d : Nat) : Int) by omega)]
      refine ⟨by omega, ?_⟩
      intro t1 ht1
      rw [hst1] at ht1
      subst ht1
      rw [jr_wr (show jr (8 * (48 * b + K1.2 ((K1.1 : Int) - 1)) + t) by omega), hac]
      refine ⟨by omega, ?_⟩
      intro t2 ht2
      rw [← ht2] at hc
      unfold kr_tk at he
      rw [← ht2] at he
      clear ht2 hac
      have hav2 : jr t2 := by rcases hc with q | q | q | ⟨r, q, hr, _⟩ <;> omega
      rw [jr_wr hav2]
      refine jn_ite (fun hz => ?_) (fun hz => jn_ite (fun ha => ?_) (fun ha => ?_))
      · rw [if_neg (by omega), if_pos (by omega)] at he
        exact k0 he.symm τ hf
      · rw [if_pos ha] at he
        rintro _ rfl
        exact k1 true d K1 he.symm _ (jF_toI hf (Or.inr ⟨rfl, by omega, by omega⟩)) ⟨by rw [js_In (Or.inr (by omega))]; exact hR1.1, fun i hi => by rw [js_In (Or.inl (by omega))]; exact hR1.2 i hi⟩ (by rw [js_In (Or.inr (by omega))]; exact h55) (by rw [js_Is]; rfl)
      · intro t4 ht4
        rw [if_neg ha] at he
        refine jn_ite (fun hsh => ?_) (fun hrd => ?_)
        · rcases hc with q | q | q | ⟨r, q, hr, hbit⟩
          · omega
          · omega
          · rw [if_neg (by omega), if_pos hsh] at he
            refine jn_ite (fun h40 => ?_) (fun h40 => ⟨by omega, ?_⟩)
            · rw [if_neg (by omega)] at he
              exact k0 he.symm τ hf
            · rw [if_pos (by omega)] at he
              rintro _ rfl _ rfl
              refine jn_ite (fun h => by omega) (fun _ => ?_)
              refine k1 false d _ he.symm _ (jF_toI (jF_toI hf (Or.inl rfl)) (Or.inr ⟨rfl, by omega, by omega⟩)) ⟨?_, fun i hi => ?_⟩ ?_ ?_
              · rw [js_Is, js_In (Or.inl (by omega)), hR1.1]
                show (K1.1 : Int) + 1 = ((K1.1 + 1 : Nat) : Int)
                omega
              · have hi' : i < K1.1 + 1 := hi
                rw [js_In (Or.inl (by omega))]
                show _ = jn_u1 K1.2 (K1.1 : Int) (t2 - 1000) i
                unfold jn_u1
                by_cases hie : (i : Int) = (K1.1 : Int)
                · rw [if_pos hie, hie, js_Is, ht4]
                · rw [if_neg hie, js_In (Or.inr hie)]
                  exact hR1.2 i (by omega)
              · rw [js_In (Or.inr (by omega)), js_In (Or.inl (by omega)), h55]
              · rw [js_In (Or.inr (by omega)), js_In (Or.inl (by omega)), h56]; rfl
          · omega
        · rcases hc with q | q | q | ⟨r, q, hr, hbit⟩
          · omega
          · omega
          · omega
          · rw [if_neg (by omega), if_neg hrd] at he
            have e2 : t2 - 2000 = (r : Int) := by omega
            rw [e2] at he
            intro t7 ht7
            rw [e2] at ht7
            subst ht7
            have hrdd := kr_red hW hF hK1 hr hbit
            have hg3 := hW.2.1 (r : Int) (by omega) hr
            have hru := hCτ.2.1 (r : Int) (by omega) hr
            refine jn_ite (fun h60 => k0 ?_ τ hf) (fun h60 => ?_)
            · rw [← he]
              have : f = 0 := by omega
              subst this
              split <;> rfl
            · rw [jr_wr (show jr (r : Int) by omega)]
              rintro _ rfl
              refine ⟨by omega, ?_⟩
              intro τ9 hτ9
              have e1 : (jg_sI τ 92 55 ((d : Int) + 1)).1 (92 + 11) (r : Int) = g 4 r := by rw [js_In (Or.inl (by omega)), hru.2]
              rw [e1, js_In (Or.inr (by omega)), hR1.1] at hτ9
              have h54 : τ9.1 92 54 = ((K1.1 - (g 4 r).toNat : Nat) : Int) := by rw [hτ9, js_Is]; omega
              have hfr : ∀ c i, c ≠ 92 → τ9.1 c i = τ.1 c i := fun c i hc => by rw [hτ9, js_In (Or.inl hc), js_In (Or.inl hc)]
              have hf9 : jF kW_co σ τ9 := by rw [hτ9]; exact jF_toI (jF_toI hf (Or.inr ⟨rfl, by omega, by omega⟩)) (Or.inr ⟨rfl, by omega, by omega⟩)
              have h559 : τ9.1 92 55 = ((d + 1 : Nat) : Int) := by rw [hτ9, js_In (Or.inr (by omega)), js_Is]; omega
              have h569 : τ9.1 92 56 = 0 := by rw [hτ9, js_In (Or.inr (by omega)), js_In (Or.inr (by omega)), h56]
              have hstb := hK1.2.2.1 (K1.1 - (g 4 r).toNat - 1) (by omega)
              have hstm := hR1.2 (K1.1 - (g 4 r).toNat - 1) (by omega)
              rw [show ((K1.1 - (g 4 r).toNat - 1 : Nat) : Int) = ((K1.1 - (g 4 r).toNat : Nat) : Int) - 1 by omega] at hstb hstm
              rw [h54, jr_wr (show jr (((K1.1 - (g 4 r).toNat : Nat) : Int) - 1) by omega), jr_wr (show jr ((K1.1 - (g 4 r).toNat : Nat) : Int) by omega), hfr _ _ (by omega), hfr _ _ (by omega), hfr _ _ (by omega), hstm, hru.1]
              have hmv := hCτ.2.2.1 (K1.2 (((K1.1 - (g 4 r).toNat : Nat) : Int) - 1)) (7 + g 3 r) hstb.1 hstb.2 (by omega) (by omega)
              rw [show jn_sy (7 + g 3 r) = 10 + g 3 r by unfold jn_sy; rw [if_neg (by omega)]; omega] at hmv
              rw [jr_wr (show jr (12 * (48 * b + K1.2 (((K1.1 - (g 4 r).toNat : Nat) : Int) - 1)) + 7 + g 3 r) by omega)]
              rw [show 12 * (48 * b + K1.2 (((K1.1 - (g 4 r).toNat : Nat) : Int) - 1)) + 7 + g 3 r = 12 * (48 * b + K1.2 (((K1.1 - (g 4 r).toNat : Nat) : Int) - 1)) + (7 + g 3 r) by omega, hmv]
              refine ⟨by omega, by omega, by omega, ?_⟩
              intro t10 ht10
              refine jn_ite (fun h40 => ?_) (fun h40 => ⟨by omega, ?_⟩)
              · rw [if_neg (by omega)] at he
                exact k0 he.symm τ9 hf9
              · rw [if_pos (by omega), ← ht10] at he
                rintro _ rfl _ rfl
                refine jn_ite (fun _ => ?_) (fun h => by omega)
                have hk2 := kr_ps_ok hK1 (n := K1.1 - (g 4 r).toNat) ⟨by omega, by omega, by omega⟩ (v := t10) ⟨by omega, by omega⟩ (x := 10 + g 3 r) ⟨by omega, by omega⟩ ht10.symm
                refine ih (d + 1) (kr_ps (K1.1 - (g 4 r).toNat) K1.2 t10) _ _ _ _ _ (by omega) (by omega) hk2 (jF_toI (jF_toI hf9 (Or.inl rfl)) (Or.inr ⟨rfl, by omega, by omega⟩)) ⟨?_, fun i hi => ?_⟩ ?_ ?_ he
                · rw [js_Is, js_In (Or.inl (by omega)), h54]
                  show _ = ((K1.1 - (g 4 r).toNat + 1 : Nat) : Int)
                  omega
                · have hi' : i < K1.1 - (g 4 r).toNat + 1 := hi
                  rw [js_In (Or.inl (by omega))]
                  show _ = jn_u1 K1.2 ((K1.1 - (g 4 r).toNat : Nat) : Int) t10 i
                  unfold jn_u1
                  by_cases hie : (i : Int) = ((K1.1 - (g 4 r).toNat : Nat) : Int)
                  · rw [if_pos hie, hie, js_Is]
                  · rw [if_neg hie, js_In (Or.inr hie), hfr _ _ (by omega)]
                    exact hR1.2 i (by omega)
                · rw [js_In (Or.inr (by omega)), js_In (Or.inl (by omega)), h559]
                · rw [js_In (Or.inr (by omega)), js_In (Or.inl (by omega)), h569]
  refine jb_X12_comes_0 rfl ?_
  rintro _ rfl _ rfl
  refine hloop 61 0 K _ _ _ _ _ rfl (by omega) hK (jF_toI (jF_I (Or.inr ⟨rfl, by omega, by omega⟩)) (Or.inr ⟨rfl, by omega, by omega⟩)) ⟨?_, fun i hi => ?_⟩ ?_ js_Is rfl
  · rw [js_In (Or.inr (by omega)), js_In (Or.inr (by omega)), hR.1]
  · rw [js_In (Or.inl (by omega)), js_In (Or.inl (by omega))]; exact hR.2 i hi
  · rw [js_In (Or.inr (by omega)), js_Is]; rfl
end KRM
