/-! SENTENCES, in both -/
noncomputable def kv_sents (g : gM) (n : Int) : Int := if 0 ≤ n ∧ n ≤ 4 then (kr_cn g n.toNat (kr_I g) : Nat) else -1
def kW_ss (c : Nat) (i : Int) : Prop := kW_ge c i ∨ kW_co c i ∨ c = 92 + 39
section KSA
variable {w : Nat} {σ τ : jg_M} {T : Nat} {g : gM} {K : kr_K} {n x : Int} {KV : jg_M → Prop} {KI : Int → jg_M → Prop}
theorem jc_sentences (h : ku_CG σ T g) (hn : jr n) (hk : ∀ τ, jF (kW_lo 92) σ τ → KI (kv_sents g n) τ) : jg_CI w 13 mm_X11_sentences [.ref 0, .int (.ofInt n)] σ KI := by
  have sh := ku_sh h.1.1
  have hT := h.1.1
  have hW := h.2.1.1.1.1
  refine jb_X11_sentences_0 rfl ?_
  rw [jr_wr hn]
  unfold kv_sents at hk
  have hs := hk σ jF_rf
  refine jn_ite (fun q => ?_) (fun h1 => jn_ite (fun h2 => ?_) (fun q => ?_))
  · rw [if_neg (by omega)] at hs; exact hs
  · rw [h.1.2.1]
    intro r1 e1
    rw [show r1 = T by omega]
    refine ⟨sh.1, ?_⟩
    have hCW := kr_CW_of hW h.2.2.1
    refine jc_begin rfl sh.1 (by omega) hCW (fun τ hf hRo _ _ => ?_)
    have hf' : jF (kW_lo 92) σ τ := jF_mono hf (fun c i q => by unfold kW_ro at q; unfold kW_lo; omega)
    have h' : ku_CG τ T g := ku_CG_fr h hf' (by unfold kW_lo; omega) (by unfold kW_lo; omega) (fun c i q => by unfold kW_lo; omega)
    rw [h'.1.2.1]
    intro r2 e2
    rw [show r2 = T by omega]
    refine ⟨sh.1, ?_⟩
    have hCW' := kr_CW_of hW h'.2.2.1
    have hsent := jc_sent (w := w) sh.1 sh.2.2 sh.2.1 (by omega) n.toNat 5 11 τ (kr_I g) (fun z m => KI z m) (by omega) (by decide) (by omega) hCW' hRo (kr_I_OK hCW') (fun τ2 hf2 => by
      have := hk τ2 (jF_tr hf' (jF_mono hf2 (fun c i q => by unfold kW_lo at q ⊢; omega)))
      rw [if_pos ⟨by omega, h2⟩] at this
      exact this)
    rw [show ((n.toNat : Nat) : Int) = n by omega] at hsent
    exact hsent
  · rw [if_neg (by omega)] at hs; exact hs
end KSA
