/-! SHORTEST to STATES, in the reference -/
section KAU
def kW_mw (c : Nat) (i : Int) : Prop := c = 92 + 31 ∨ c = 92 + 32 ∨ c = 92 + 33 ∨ (c = 92 ∧ i = 48)
def ka_MM (σ : jg_M) (S : jn_Q) : Prop := σ.1 (92 + 13) 0 = S.1 ∧ ∀ s x, 0 ≤ s → s < S.1 → 0 ≤ x → x < 12 → σ.1 (92 + 16) (12 * s + x) = S.2.2.1 s (jn_sy x)
variable {zN : Int} {w : Nat} {σ τ : jg_M} {g : gM} {S : jn_Q} {V W : ka_Ve} {KV : jg_M → Prop} {KI : Int → jg_M → Prop} {s x : Nat} {p : Nat × Nat}
def ka_ix (x : Nat) : Nat := if x < 7 then x else x + 3
theorem ka_ix_lt (h : x < 12) : ka_ix x < 15 := by unfold ka_ix; split <;> omega
theorem jm_isNearer (hM : ka_MM σ S) (hW : jn_GW g) (hF : jn_FP g S) (hs : (s : Int) < S.1) (hx : x < 12) (hV : ka_KR zN (σ.1 (92 + 30)) (σ.1 (92 + 29)) (ka_VK g)) (hWR : ka_WR zN (σ.1 (92 + 32)) (σ.1 (92 + 31)) W)
    (k0 : ∀ τ, jF kW_mt σ τ → ¬ ((ka_trW S (ka_VK g) (15 * s + ka_ix x) W).1 ≤ 60 ∧ (ka_trW S (ka_VK g) (15 * s + ka_ix x) W).2 < (W (ka_tgW S (15 * s + ka_ix x))).2) → KI 0 τ)
    (k1 : ((ka_trW S (ka_VK g) (15 * s + ka_ix x) W).1 ≤ 60 ∧ (ka_trW S (ka_VK g) (15 * s + ka_ix x) W).2 < (W (ka_tgW S (15 * s + ka_ix x))).2) → ∀ τ, jF kW_mw σ τ → ka_WR zN (τ.1 (92 + 32)) (τ.1 (92 + 31)) (fun k => if k = ka_tgW S (15 * s + ka_ix x) then ka_trW S (ka_VK g) (15 * s + ka_ix x) W else W k) → KI 1 τ) : jg_CI w 1 mm_X12_isNearer [.ref 92, .int (.ofInt (s : Int)), .int (.ofInt (x : Int))] σ KI := by
  have hI := hF.1.1
  have hix := ka_ix_lt hx
  have ed : (15 * s + ka_ix x) / 15 = s := by omega
  have em : (15 * s + ka_ix x) % 15 = ka_ix x := by omega
  have hsy : jn_sy (x : Int) = ((ka_ix x : Nat) : Int) := by unfold jn_sy ka_ix; split <;> split <;> omega
  have hmv := hM.2 (s : Int) (x : Int) (by omega) hs (by omega) (by omega)
  have etg : ka_tgW S (15 * s + ka_ix x) = S.2.2.1 (s : Int) ((ka_ix x : Nat) : Int) := by unfold ka_tgW; rw [ed, em]
  rw [hsy, ← etg] at hmv
  have hmr := hF.1.2.2.1 (s : Int) ((ka_ix x : Nat) : Int)
  rw [← etg] at hmr
  have etr : ka_trW S (ka_VK g) (15 * s + ka_ix x) W = if 0 ≤ ka_tgW S (15 * s + ka_ix x) then ka_cat (W (s : Int)) (ka_sv (ka_VK g) ((ka_ix x : Nat) : Int)) else ka_no := by unfold ka_trW; rw [ed, em]
  generalize htr : ka_trW S (ka_VK g) (15 * s + ka_ix x) W = tr at *
  generalize htg : ka_tgW S (15 * s + ka_ix x) = q at *
  have hws := hWR (s : Int) (by omega) (by omega)
  have hwr := ka_wd_rng hws
  refine jb_X12_isNearer_0 rfl ?_
  rw [jr_wr (show jr (12 * (s : Int) + (x : Int)) by omega), hmv, jr_wr (show jr (s : Int) by omega), jr_wr (show jr (x : Int) by omega), jr_wr (show jr ((x : Int) - 7) by omega), jr_wr (show jr (σ.1 (92 + 31) (s : Int)) by omega)]
  refine ⟨by omega, ?_⟩
  intro t101 ht101
  rw [ht101]
  clear ht101 t101
  rw [jr_wr (show jr q by omega)]
  refine jn_ite (fun hneg => k0 σ jF_rf (fun hc => ?_)) (fun hpos => ⟨by omega, jn_ite (fun hneg => k0 σ jF_rf (fun hc => ?_)) (fun hL => ?_)⟩)
  · rw [etr, if_neg (by omega), ka_no1] at hc
    omega
  · rw [etr, if_pos (by omega), ka_wd_neg hws hneg] at hc
    have : 100 + (ka_sv (ka_VK g) ((ka_ix x : Nat) : Int)).1 ≤ 60 := hc.1
    omega
  · rw [if_pos (by omega)] at etr
    obtain ⟨u1, u2, u3, u4⟩ := ka_wd_pos hws (by omega)
    generalize hws2 : W (s : Int) = ws at *
    have hq : 0 ≤ q ∧ q < 48 := by omega
    -- behind the row of the state something is laid: compared, perhaps copied
    have hcopy : ∀ (τ0 : jg_M) (v1 v2 : Value), tr.1 ≤ 60 → tr.2 < (W q).2 → jF kW_mt σ τ0 → ka_TR (τ0.1 (92 + 33)) (τ0.1 92 48) 160 tr → ka_WR zN (τ0.1 (92 + 32)) (τ0.1 (92 + 31)) W → ∀ (m j : Nat) (τ : jg_M), jF kW_mw τ0 τ → (∀ i : Nat, i < j → τ.1 (92 + 32) (q * 60 + i) = τ0.1 (92 + 33) i) → (∀ i : Int, i < q * 60 ∨ q * 60 + 60 ≤ i → τ.1 (92 + 32) i = τ0.1 (92 + 32) i) → (∀ k, τ.1 (92 + 31) k = τ0.1 (92 + 31) k) → τ.1 92 48 = τ0.1 92 48 → (∀ i, τ.1 (92 + 33) i = τ0.1 (92 + 33) i) → j + m = tr.1 →
        jg_GI w 1 mm_X12_isNearer 164 [.ref 92, v1, v2, .int (.ofInt q), .int (.ofInt (j : Int))] τ KI := by
      intro τ0 v1 v2 hle hlt hF0 hT hW0 m
      induction m with
      | zero =>
        intro j τ hf h1 h2 h3 h4 h5 hj
        refine jb_X12_isNearer_164 rfl ?_
        rw [h4, hT.1, jr_wr (show jr ((tr.1 : Nat) : Int) by omega), jr_wr (show jr (j : Int) by omega), jr_wr (show jr q by omega)]
        refine jn_ite (fun _ => ⟨by omega, ?_⟩) (fun h => by omega)
        rintro _ rfl
        refine k1 ⟨hle, hlt⟩ _ (jF_toI (jF_tr (jF_mono hF0 (fun c i q => by unfold kW_mt at q; unfold kW_mw; omega)) hf) (Or.inl rfl)) ?_
        refine ka_WR_up (T := τ0.1 (92 + 33)) hW0 hq hle hT.2.2.1 hT.2.2.2 (fun i hi => ?_) (fun i hi => ?_) js_Is (fun k hk => ?_)
        · rw [js_In (Or.inl (by omega))]; exact h1 i (by omega)
        · rw [js_In (Or.inl (by omega))]; exact h2 i hi
        · rw [js_In (Or.inr hk)]; exact h3 k
      | succ m ih =>
        intro j τ hf h1 h2 h3 h4 h5 hj
        refine jb_X12_isNearer_164 rfl ?_
        rw [h4, hT.1, jr_wr (show jr ((tr.1 : Nat) : Int) by omega), jr_wr (show jr (j : Int) by omega), jr_wr (show jr (60 * q + (j : Int)) by omega)]
        refine jn_ite (fun h => by omega) (fun _ => ⟨by omega, by omega, ?_⟩)
        rintro _ rfl
        have := ih (j + 1) (jg_sI τ (92 + 32) (60 * q + (j : Int)) (τ.1 (92 + 33) (j : Int))) (jF_toI hf (Or.inr (Or.inl rfl))) (fun i hi => ?_) (fun i hi => ?_) (fun k => ?_) ?_ (fun i => ?_) (by omega)
        · rw [show ((j + 1 : Nat) : Int) = (j : Int) + 1 by omega] at this
          exact this
        · by_cases hij : i = j
          · subst hij
            rw [show q * 60 + (i : Int) = 60 * q + (i : Int) by omega, js_Is, h5]
          · rw [js_In (Or.inr (by omega))]; exact h1 i (by omega)
        · rw [js_In (Or.inr (by omega))]; exact h2 i hi
        · rw [js_In (Or.inl (by omega))]; exact h3 k
        · rw [js_In (Or.inl (by omega))]; exact h4
        · rw [js_In (Or.inl (by omega))]; exact h5 i
    have hcmp : ∀ (τ0 : jg_M), jF kW_mt σ τ0 → ka_TR (τ0.1 (92 + 33)) (τ0.1 92 48) 160 tr → (if 60 < jg_wr (τ0.1 92 48) then KI 0 τ0 else ((0 : Int) ≤ q ∧ q < (48 : Int)) ∧ jg_CI w 0 mm_X12_isAhead [.ref 92, .ref (92 + 32), .int (.ofInt (60 * q)), .int (.ofInt (τ0.1 (92 + 31) q))] τ0 (fun (z104 : Int) (m103 : jg_M) => (if jg_wr z104 = 0 then KI 0 m103 else jg_GI w 1 mm_X12_isNearer 164 [.ref 92, .int (.ofInt (s : Int)), .int (.ofInt (x : Int)), .int (.ofInt q), .int (.ofInt 0)] m103 KI))) := by
      intro τ0 hF0 hT
      have h160 := hT.2.1
      have hW0 : ka_WR zN (τ0.1 (92 + 32)) (τ0.1 (92 + 31)) W := ka_WR_cg hWR (fun i => hF0.1 _ _ (fun q => by unfold kW_mt at q; omega)) (fun i => hF0.1 _ _ (fun q => by unfold kW_mt at q; omega))
      have hwq := hW0 q hq.1 hq.2
      have hwqr := ka_wd_rng hwq
      rw [hT.1, jr_wr (show jr ((tr.1 : Nat) : Int) by omega)]
      refine jn_ite (fun h => k0 τ0 hF0 (fun hc => by have := hc.1; omega)) (fun h => ⟨hq, ?_⟩)
      refine jm_isAhead (p := tr) (v := W q) (a1 := 92 + 32) (n1 := 2880) rfl (by decide) hT (by omega) (by rw [Int.mul_comm]; exact hwq) (by omega) (fun hL => by omega) ?_
      refine jn_if (fun hc => k0 τ0 hF0 (fun q => hc q.2)) (fun hc => ?_)
      exact hcopy τ0 _ _ (by omega) hc hF0 hT hW0 tr.1 0 τ0 jF_rf (fun i hi => by omega) (fun _ _ => rfl) (fun _ => rfl) rfl (fun _ => rfl) (by omega)
    have happ : ∀ (τ0 : jg_M), jF kW_mt σ τ0 → ka_TR (τ0.1 (92 + 33)) (τ0.1 92 48) 160 ws → (7 ≤ x → 0 ≤ σ.1 (92 + 29) ((x : Int) - 7)) → jg_GI w 1 mm_X12_isNearer 58 [.ref 92, .int (.ofInt (s : Int)), .int (.ofInt (x : Int)), .int (.ofInt q), .int (.ofInt ((ws.1 : Nat) : Int))] τ0 KI := by
      intro τ0 hF0 hT h7
      refine jb_X12_isNearer_58 rfl ?_
      rw [hT.1, jr_wr (show jr ((ws.1 : Nat) : Int) by omega), jr_wr (show jr (x : Int) by omega), jr_wr (show jr q by omega)]
      refine jn_ite (fun _ => jn_ite (fun hx7 => ⟨by omega, ?_⟩) (fun hx7 => ?_)) (fun h => absurd (Int.le_refl _) h)
      · rintro _ rfl _ rfl
        have hxi : ka_ix x = x := by unfold ka_ix; rw [if_pos (by omega)]
        have hsv : ka_sv (ka_VK g) ((ka_ix x : Nat) : Int) = (1, x + 1) := by unfold ka_sv; rw [hxi, if_pos (by omega), Int.toNat_natCast]
        refine hcmp _ (jF_toI (jF_toI hF0 (Or.inl rfl)) (Or.inr ⟨rfl, rfl⟩)) ?_
        rw [etr, hsv]
        refine ka_TR_app (R := fun _ => (x : Int)) (b := 0) hT ?_ (by show ws.1 + 1 ≤ 160; omega) (fun i hi => ?_) ?_ (fun i hi => by show 0 ≤ (x : Int) ∧ (x : Int) < 7; omega) (fun i hi => ?_)
        · rw [js_Is, js_In (Or.inl (by omega)), hT.1]; rfl
        · rw [js_In (Or.inl (by omega)), js_In (Or.inr (by omega))]
        · show 0 * 8 + ((x : Int).toNat + 1) = x + 1
          omega
        · have hi' : i < 1 := hi
          rw [js_In (Or.inl (by omega)), show ((ws.1 : Nat) : Int) + (i : Int) = ((ws.1 : Nat) : Int) by omega, js_Is]
      · have hxi : ka_ix x = x + 3 := by unfold ka_ix; rw [if_neg (by omega)]
        have hsv : ka_sv (ka_VK g) ((ka_ix x : Nat) : Int) = ka_VK g ((x : Int) - 7) := by unfold ka_sv; rw [hxi, if_neg (by omega), show ((x + 3 : Nat) : Int) - 10 = (x : Int) - 7 by omega]
        have hV0 : ka_KR zN (τ0.1 (92 + 30)) (τ0.1 (92 + 29)) (ka_VK g) := ka_KR_cg hV (fun i => hF0.1 _ _ (fun q => by unfold kW_mt at q; omega)) (fun i => hF0.1 _ _ (fun q => by unfold kW_mt at q; omega))
        have hl0 : 0 ≤ τ0.1 (92 + 29) ((x : Int) - 7) := by
          rw [hF0.1 _ _ (fun q => by unfold kW_mt at q; omega)]
          exact h7 (by omega)
        have h40 : (ka_VK g ((x : Int) - 7)).1 ≤ 40 := by
          rcases ka_KR_40 hV0 (k := (x : Int) - 7) ⟨by omega, by omega⟩ with q | q
          · omega
          · exact q.2.2.1
        refine jm_addRow ⟨by omega, by omega⟩ hV0 hT hl0 (by omega) (fun τ2 hF2 hT2 => ?_)
        refine hcmp τ2 (jF_tr hF0 hF2) ?_
        rw [etr, hsv]
        exact hT2
    have hcpy : (7 ≤ x → 0 ≤ σ.1 (92 + 29) ((x : Int) - 7)) → ∀ (m j : Nat) (τ : jg_M), jF kW_mt σ τ → τ.1 92 48 = (ws.1 : Nat) → (∀ i : Nat, i < j → τ.1 (92 + 33) (0 + (i : Int)) = σ.1 (92 + 32) ((s : Int) * 60 + i)) → j + m = ws.1 → jg_GI w 1 mm_X12_isNearer 58 [.ref 92, .int (.ofInt (s : Int)), .int (.ofInt (x : Int)), .int (.ofInt q), .int (.ofInt (j : Int))] τ KI := by
      intro h7 m
      induction m with
      | zero =>
        intro j τ hf h4 h1 hj
        have hjw : j = ws.1 := by omega
        subst hjw
        exact happ τ hf ⟨h4, by omega, by rw [← u3]; exact ka_cd_eq (fun i hi => h1 i hi), fun i hi => by rw [h1 i hi]; exact u4 i hi⟩ h7
      | succ m ih =>
        intro j τ hf h4 h1 hj
        have hsrc : τ.1 (92 + 32) (60 * (s : Int) + (j : Int)) = σ.1 (92 + 32) ((s : Int) * 60 + (j : Int)) := by
          rw [hf.1 _ _ (fun q => by unfold kW_mt at q; omega), show 60 * (s : Int) + (j : Int) = (s : Int) * 60 + (j : Int) by omega]
        refine jb_X12_isNearer_58 rfl ?_
        rw [h4, jr_wr (show jr ((ws.1 : Nat) : Int) by omega), jr_wr (show jr (j : Int) by omega), jr_wr (show jr (60 * (s : Int) + (j : Int)) by omega), hsrc]
        refine jn_ite (fun h => by omega) (fun _ => ⟨by omega, by omega, ?_⟩)
        rintro _ rfl
        have := ih (j + 1) (jg_sI τ (92 + 33) (j : Int) (σ.1 (92 + 32) ((s : Int) * 60 + (j : Int)))) (jF_toI hf (Or.inl rfl)) (by rw [js_In (Or.inl (by omega))]; exact h4) (fun i hi => by
          by_cases hij : i = j
          · subst hij
            rw [Int.zero_add, js_Is]
          · rw [js_In (Or.inr (by omega))]; exact h1 i (by omega)) (by omega)
        rw [show ((j + 1 : Nat) : Int) = (j : Int) + 1 by omega] at this
        exact this
    have hst : ∀ τ, τ = jg_sI σ 92 48 (σ.1 (92 + 31) (s : Int)) → (7 ≤ x → 0 ≤ σ.1 (92 + 29) ((x : Int) - 7)) → jg_GI w 1 mm_X12_isNearer 58 [.ref 92, .int (.ofInt (s : Int)), .int (.ofInt (x : Int)), .int (.ofInt q), .int (.ofInt 0)] τ KI := by
      rintro _ rfl h7
      exact hcpy h7 ws.1 0 _ (jF_I (Or.inr ⟨rfl, rfl⟩)) (by rw [js_Is, u1]) (fun i hi => by omega) (by omega)
    refine jn_ite (fun h7 => ⟨by omega, fun τ hτ => hst τ hτ (fun h => by omega)⟩) (fun h7 => ⟨by omega, ?_⟩)
    have hxl := ka_wd_rng (hV ((x : Int) - 7) (by omega) (by omega)).1
    rw [jr_wr (show jr (σ.1 (92 + 29) ((x : Int) - 7)) by omega)]
    refine jn_ite (fun hl => ⟨by omega, fun τ hτ => hst τ hτ (fun _ => hl)⟩) (fun hl => k0 σ jF_rf (fun hc => ?_))
    have hxi : ka_ix x = x + 3 := by unfold ka_ix; rw [if_neg (by omega)]
    have hsv : ka_sv (ka_VK g) ((ka_ix x : Nat) : Int) = ka_VK g ((x : Int) - 7) := by unfold ka_sv; rw [hxi, if_neg (by omega), show ((x + 3 : Nat) : Int) - 10 = (x : Int) - 7 by omega]
    have hno := ka_wd_neg (hV ((x : Int) - 7) (by omega) (by omega)).1 (by omega)
    rw [etr, hsv, hno] at hc
    have : ws.1 + 100 ≤ 60 := hc.1
    omega
end KAU
