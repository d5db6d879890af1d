/-! SENTENCES, in both -/
noncomputable def kv_sents (g : gM) (n : Int) : Int := if 0 ≤ n ∧ n ≤ 4 then (kr_cn g n.toNat (kr_I g) : Nat) else -1
def kW_ss (c : Nat) (i : Int) : Prop := kW_ge c i ∨ kW_co c i ∨ c = 92 + 39
section KSA
variable {w : Nat} {σ τ : jg_M} {T : Nat} {g : gM} {K : kr_K} {n x : Int} {KV : jg_M → Prop} {KI : Int → jg_M → Prop}
theorem ku_MW (h : ku_MG σ g) : kr_MW σ 0 g := by
  have hW := h.1.1.1.1
  have hw := hW.1
  obtain ⟨n1, n2, n3⟩ := ku_MN h
  refine ⟨⟨hW, ⟨by decide, by decide⟩, h.1.2.1.2.1⟩, ?_⟩
  by_cases h0 : 0 < ku_n g
  · obtain ⟨n4, n5, nF, _⟩ := n3 h0
    exact Or.inr ⟨n4, nF, n1.trans n5, ku_MV h h0⟩
  · rcases h.2.1.2.2 with q | q
    · exact Or.inl ⟨q.1, q.2.1⟩
    · exfalso
      apply h0
      have := q.2.2.1.1.1
      unfold ku_n
      rw [if_neg (by omega)]
      omega
theorem jc_sentences (h : ku_CG σ T g) (hn : jr n) (hk : ∀ τ, jF (kW_lo 92) σ τ → KI (kv_sents g n) τ) : jg_CI w 13 mm_X11_sentences [.ref 0, .int (.ofInt n)] σ KI := by
  have sh := ku_sh h.1.1
  have hT := h.1.1
  have hW := h.2.1.1.1.1
  refine jb_X11_sentences_0 rfl ?_
  rw [jr_wr hn]
  unfold kv_sents at hk
  have hs := hk σ jF_rf
  refine jn_ite (fun q => ?_) (fun h1 => jn_ite (fun h2 => ?_) (fun q => ?_))
  · rw [if_neg (by omega)] at hs; exact hs
  · rw [h.1.2.1]
    intro r1 e1
    rw [show r1 = T by omega]
    refine ⟨sh.1, ?_⟩
    have hCW := kr_CW_of hW h.2.2.1
    refine jc_begin rfl sh.1 (by omega) hCW (fun τ hf hRo _ _ => ?_)
    have hf' : jF (kW_lo 92) σ τ := jF_mono hf (fun c i q => by unfold kW_ro at q; unfold kW_lo; omega)
    have h' : ku_CG τ T g := ku_CG_fr h hf' (by unfold kW_lo; omega) (by unfold kW_lo; omega) (fun c i q => by unfold kW_lo; omega)
    rw [h'.1.2.1]
    intro r2 e2
    rw [show r2 = T by omega]
    refine ⟨sh.1, ?_⟩
    have hCW' := kr_CW_of hW h'.2.2.1
    have hsent := jc_sent (w := w) sh.1 sh.2.2 sh.2.1 (by omega) n.toNat 5 11 τ (kr_I g) (fun z m => KI z m) (by omega) (by decide) (by omega) hCW' hRo (kr_I_OK hCW') (fun τ2 hf2 => by
      have := hk τ2 (jF_tr hf' (jF_mono hf2 (fun c i q => by unfold kW_lo at q ⊢; omega)))
      rw [if_pos ⟨by omega, h2⟩] at this
      exact this)
    rw [show ((n.toNat : Nat) : Int) = n by omega] at hsent
    exact hsent
  · rw [if_neg (by omega)] at hs; exact hs
theorem jm_sentences (h : ku_MG σ g) (hn : jr n) (hk : ∀ τ, jF kW_ss σ τ → KI (kv_sents g n) τ) : jg_CI w 2 mm_X12_sentences [.ref 92, .int (.ofInt n)] σ KI := by
  have hW := h.1.1.1.1
  have hw := hW.1
  refine jb_X12_sentences_0 rfl ?_
  intro τ hτ
  have h2 := ku_ge2 hτ
  have f2 : jF kW_ss σ τ := jF_mono h2.1 (fun c i q => Or.inl q)
  unfold kv_sents at hk
  refine jm_isIn hn (by decide) (by decide) (jn_if (fun hno => ?_) (fun hyes => ?_))
  · have hs := hk τ f2
    rw [if_neg hno] at hs; exact hs
  have hMW : kr_MW τ 0 g := ku_MW (ku_MG_ge h h2.1)
  generalize hnd : n.toNat = nn at *
  have hnn : n = ((nn : Nat) : Int) := by omega
  subst hnn
  have hga : g 0 0 = (((g 0 0).toNat : Nat) : Int) := by omega
  have hA : (g 0 0).toNat ^ nn ≤ 2401 := Nat.le_trans (Nat.pow_le_pow_left (show (g 0 0).toNat ≤ 7 by omega) nn) (Nat.le_trans (Nat.pow_le_pow_right (by decide) (show nn ≤ 4 by omega)) (by decide))
  have hloop : ∀ (m c : Nat) (τ3 : jg_M), c + m = (g 0 0).toNat ^ nn → jF (fun c i => kW_co c i ∨ c = 92 + 39) τ τ3 → jg_GI w 2 mm_X12_sentences 20 [.ref 92, .int (.ofInt (nn : Int)), .int (.ofInt (jn_ct (fun code => kr_sK g (fun k => (kr_dg (g 0 0).toNat nn code k : Nat)) nn (kr_I g)) c : Nat)), .int (.ofInt (c : Int))] τ3 KI := by
    intro m
    induction m with
    | zero =>
      intro c τ3 hcm hf
      have hM3 := kr_MW_fr hMW hf (fun c i hc q => by unfold kW_co at q; omega)
      refine jb_X12_sentences_20 rfl ?_
      rw [show τ3.1 (92 + 3) 0 = (((g 0 0).toNat : Nat) : Int) by rw [hM3.1.2.2]; omega]
      refine jm_power (by omega) ?_
      rw [jr_wr (show jr (((g 0 0).toNat ^ nn : Nat) : Int) by omega), jr_wr (show jr (c : Int) by omega)]
      refine jn_ite (fun _ => ?_) (fun h => by omega)
      have := hk τ3 (jF_tr f2 (jF_mono hf (fun c i q => Or.inr q)))
      rw [if_pos hyes, ← kr_count] at this
      rw [show c = (g 0 0).toNat ^ nn by omega]
      exact this
    | succ m ih =>
      intro c τ3 hcm hf
      have hM3 := kr_MW_fr hMW hf (fun c i hc q => by unfold kW_co at q; omega)
      refine jb_X12_sentences_20 rfl ?_
      rw [show τ3.1 (92 + 3) 0 = (((g 0 0).toNat : Nat) : Int) by rw [hM3.1.2.2]; omega]
      refine jm_power (by omega) ?_
      rw [jr_wr (show jr (((g 0 0).toNat ^ nn : Nat) : Int) by omega), jr_wr (show jr (c : Int) by omega)]
      have hgn : 1 ≤ nn → 0 < (g 0 0).toNat := fun h1 => Nat.pos_of_ne_zero (fun q => by
        rw [q, Nat.zero_pow (by omega)] at hcm
        omega)
      refine jn_ite (fun h => by omega) (fun _ => ?_)
      rw [show τ3.1 (92 + 3) 0 = (((g 0 0).toNat : Nat) : Int) by rw [hM3.1.2.2]; omega]
      have hgo : ∀ τ5, jF (fun c i => c = 92 + 39) τ3 τ5 → (∀ k : Nat, k < nn → τ5.1 (92 + 39) (k : Int) = (kr_dg (g 0 0).toNat nn c k : Nat)) → jg_CI w 1 mm_X12_isSentence [.ref 92, .int (.ofInt 0), .int (.ofInt (nn : Int))] τ5 (fun (z105 : Int) (m104 : jg_M) => (if jg_wr z105 = 0 then ∀ t106 : Int, t106 = (((jn_ct (fun code => kr_sK g (fun k => (kr_dg (g 0 0).toNat nn code k : Nat)) nn (kr_I g)) c : Nat) : Int) + 0) → jg_GI w 2 mm_X12_sentences 20 [.ref 92, .int (.ofInt (nn : Int)), .int (.ofInt t106), .int (.ofInt ((c : Int) + 1))] m104 KI else ∀ t107 : Int, t107 = (((jn_ct (fun code => kr_sK g (fun k => (kr_dg (g 0 0).toNat nn code k : Nat)) nn (kr_I g)) c : Nat) : Int) + 1) → jg_GI w 2 mm_X12_sentences 20 [.ref 92, .int (.ofInt (nn : Int)), .int (.ofInt t107), .int (.ofInt ((c : Int) + 1))] m104 KI)) := fun τ5 f5 hg5 => by
        have hf5 : jF (fun c i => kW_co c i ∨ c = 92 + 39) τ τ5 := jF_tr hf (jF_mono f5 (fun c i q => Or.inr q))
        have hM5 := kr_MW_fr hMW hf5 (fun c i hc q => by unfold kW_co at q; omega)
        refine jm_isSentence (gv := fun j => ((kr_dg (g 0 0).toNat nn c j : Nat) : Int)) hM5 (by omega) hg5 (fun i hi => ⟨by omega, by
          have := kr_dg_lt (a := (g 0 0).toNat) (n := nn) (code := c) (k := i) (hgn (by omega))
          omega⟩) (fun τ6 f6 => ?_)
        have hf6 : jF (fun c i => kW_co c i ∨ c = 92 + 39) τ τ6 := jF_tr hf5 (jF_mono f6 (fun c i q => Or.inl q))
        have key := ih (c + 1) τ6 (by omega) hf6
        rw [show ((c + 1 : Nat) : Int) = (c : Int) + 1 by omega] at key
        refine jn_if (fun hno => ?_) (fun hys => ?_)
        · rintro _ rfl
          rw [jn_ct_f (p := fun code => kr_sK g (fun k => (kr_dg (g 0 0).toNat nn code k : Nat)) nn (kr_I g)) hno] at key
          rw [Int.add_zero]
          exact key
        · rintro _ rfl
          rw [jn_ct_t (p := fun code => kr_sK g (fun k => (kr_dg (g 0 0).toNat nn code k : Nat)) nn (kr_I g)) hys] at key
          rw [show ((jn_ct (fun code => kr_sK g (fun k => (kr_dg (g 0 0).toNat nn code k : Nat)) nn (kr_I g)) c : Nat) : Int) + 1 = ((jn_ct (fun code => kr_sK g (fun k => (kr_dg (g 0 0).toNat nn code k : Nat)) nn (kr_I g)) c + 1 : Nat) : Int) by omega]
          exact key
      rcases Nat.eq_zero_or_pos nn with hz | hp
      · subst hz
        refine jb_X12_gives_0 rfl ?_
        rintro _ rfl
        refine jb_X12_gives_8 rfl ?_
        refine jn_ite (fun _ => hgo τ3 jF_rf (fun k hk => absurd hk (Nat.not_lt_zero k))) (fun h => absurd (by decide) h)
      · exact jm_gives (by omega) ⟨hgn hp, by omega⟩ (by omega) hgo
  have := hloop ((g 0 0).toNat ^ nn) 0 τ (by omega) jF_rf
  exact this
end KSA
