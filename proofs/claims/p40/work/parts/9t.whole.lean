/-! Is what is READ a whole SENTENCE, in both -/
noncomputable def kv_whole (g : gM) (K : kr_K) : Int := if ku_n g = 0 then -1 else if (kr_take g (g 0 0) K).isSome = true then 1 else 0
section KWA
variable {w : Nat} {σ τ : jg_M} {T : Nat} {g : gM} {K : kr_K} {x : Int} {KV : jg_M → Prop} {KI : Int → jg_M → Prop}
theorem kr_tk_end (hW : jn_GW g) (hF : jn_FP g (kg_S g)) : ∀ {f d : Nat} {K K' : kr_K} {b : Bool} {d' : Nat}, kr_ok g K → kr_tk g (g 0 0) f d K = some (b, d', K') → b = true
  | 0, _, _, _, _, _, _, h => by cases h
  | f + 1, d, K, K', b, d', hK, h => by
    have hw := hW.1
    have h1 := hK.1
    have hs := hK.2.2.1 (K.1 - 1) (by omega)
    rw [show ((K.1 - 1 : Nat) : Int) = (K.1 : Int) - 1 by omega] at hs
    have hc := kr_ac_cases hW hF hs (t := g 0 0) ⟨by omega, by omega⟩
    unfold kr_tk at h
    by_cases ha : kr_ac g (K.2 ((K.1 : Int) - 1)) (g 0 0) = 3000
    · rw [if_pos ha] at h
      cases h
      rfl
    · rw [if_neg ha] at h
      by_cases hb : kr_ac g (K.2 ((K.1 : Int) - 1)) (g 0 0) < 1000
      · rw [if_pos hb] at h; cases h
      · rw [if_neg hb] at h
        rcases hc with q | q | q | ⟨r, q, hr, hbit⟩
        · omega
        · omega
        · omega
        · rw [if_neg (by omega), q, show (2000 : Int) + (r : Int) - 2000 = (r : Int) by omega] at h
          have hred := kr_red hW hF hK hr hbit
          have h3 := (hW.2.1 (r : Int) (by omega) hr).1
          by_cases h40 : K.1 - (g 4 r).toNat < 40
          · rw [if_pos h40] at h
            have hk2 := kr_ps_ok hK (n := K.1 - (g 4 r).toNat) ⟨by omega, by omega, h40⟩ ⟨hred.2.1, hred.2.2⟩ (x := 10 + g 3 r) ⟨by omega, by omega⟩ rfl
            exact kr_tk_end hW hF hk2 h
          · rw [if_neg h40] at h; cases h
theorem jc_whole (h : ku_CG σ T g) (hR : kr_Ro σ 65 K) (hK : kr_OK g K) (hk : ∀ τ, jF (kW_ro 90) σ τ → KI (kv_whole g K) τ) : jg_CI w 4 mm_X11_whole [.ref 0] σ KI := by
  have sh := ku_sh h.1.1
  have hT := h.1.1
  have hW := h.2.1.1.1.1
  have hw := hW.1
  have h40 := kr_OK_le hK
  obtain ⟨n1, n2, n3⟩ := ku_CN h
  unfold kv_whole at hk
  refine jb_X11_whole_0 rfl (jc_hasStates h (jn_if (fun hno => ?_) (fun hyes => ?_)))
  · have := hk σ jF_rf
    rw [if_pos (by omega)] at this; exact this
  · rw [if_neg (by omega)] at hk
    obtain ⟨n4, n5, nF, _⟩ := n3 hyes
    have hok : kr_ok g K := by rcases hK with q | q; (· omega); exact q.2
    refine jc_copy rfl rfl (Or.inl (by decide)) hR h40 (fun τ hf hRo _ _ => ?_)
    have h' : ku_CG τ T g := ku_CG_fr h hf (by unfold kW_ro; omega) (by unfold kW_ro; omega) (fun c i q => by unfold kW_ro; omega)
    have hn0 : τ.1 (T + 1) 0 = g 0 0 := h'.2.1.2.1.1
    rw [h'.1.2.1]
    intro r1 er1
    rw [show r1 = T by omega]
    refine ⟨sh.1, ?_⟩
    intro r2 er2
    rw [show r2 = T by omega, hn0]
    refine ⟨sh.1, ?_⟩
    have eT : kr_T g (g 0 0) K = kr_take g (g 0 0) K := by unfold kr_T; rw [if_neg (by omega)]
    refine jc_take rfl sh.1 sh.2.2 sh.2.1 (by omega) (kr_CW_of hW h'.2.2.1) hRo hK ⟨by omega, by omega⟩ (fun hz τ2 hf2 => ?_) (fun b d K' hz τ2 hf2 _ _ _ => ?_)
    · rw [eT] at hz
      have := hk τ2 (jF_tr hf hf2)
      rw [hz, if_neg (by decide)] at this
      exact jn_ite (fun _ => this) (fun h => absurd (by decide) h)
    · rw [eT] at hz
      have := hk τ2 (jF_tr hf hf2)
      rw [hz, if_pos (show (some (b, d, K')).isSome = true from rfl)] at this
      have hd := (kr_tk_ok hW nF ⟨by omega, by omega⟩ hok hz).2.2
      rw [jr_wr (show jr ((d : Nat) : Int) by omega)]
      exact jn_ite (fun h => by omega) (fun _ => this)
end KWA
