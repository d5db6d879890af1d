/-! GAME, in both -/
noncomputable def kv_game (g : gM) (K : kr_K) (n x : Int) : Int := if (0 ≤ n ∧ n ≤ 4) ∧ (0 ≤ x ∧ x ≤ 1) ∧ ku_n g ≠ 0 then (if x = 0 then (if kr_wn g n.toNat K < 0 then 1 else 0) else kr_wn g n.toNat K) else -1
def kW_la (c : Nat) (i : Int) : Prop := 80 ≤ c ∧ c ≤ 91
section KYA
variable {w : Nat} {σ τ : jg_M} {T : Nat} {g : gM} {K : kr_K} {n x : Int} {KV : jg_M → Prop} {KI : Int → jg_M → Prop}
theorem jc_game (h : ku_CG σ T g) (hR : kr_Ro σ 65 K) (hK : kr_OK g K) (hn : jr n) (hx : jr x) (hk : ∀ τ, jF kW_la σ τ → KI (kv_game g K n x) τ) : jg_CI w 13 mm_X11_game [.ref 0, .int (.ofInt n), .int (.ofInt x)] σ KI := by
  have sh := ku_sh h.1.1
  have hT := h.1.1
  have hW := h.2.1.1.1.1
  have h40 := kr_OK_le hK
  have h0 := hk σ jF_rf
  unfold kv_game at hk h0
  refine jb_X11_game_0 rfl ?_
  rw [jr_wr hn, jr_wr hx]
  refine jn_ite (fun e => ?_) (fun e1 => jn_ite (fun e => ?_) (fun e2 => jn_ite (fun e => ?_) (fun e3 => jn_ite (fun e => ?_) (fun e4 => jc_hasStates h (jn_if (fun hno => ?_) (fun hyes => ?_))))))
  · rw [if_neg (fun q => by omega)] at h0; exact h0
  · rw [if_neg (fun q => by omega)] at h0; exact h0
  · rw [if_neg (fun q => by omega)] at h0; exact h0
  · rw [if_neg (fun q => by omega)] at h0; exact h0
  · rw [if_neg (fun q => by have := (ku_CN h).2.1; omega)] at h0; exact h0
  · refine jc_copy rfl rfl (Or.inl (by decide)) hR h40 (fun τ hf hRo _ _ => ?_)
    have h' : ku_CG τ T g := ku_CG_fr h hf (by unfold kW_ro; omega) (by unfold kW_ro; omega) (fun c i q => by unfold kW_ro; omega)
    rw [h'.1.2.1]
    intro r1 er1
    rw [show r1 = T by omega]
    refine ⟨sh.1, ?_⟩
    have hrng := kr_wn_rng (g := g) (K := K) hW (n := n.toNat)
    have := jc_win (w := w) sh.1 sh.2.2 sh.2.1 (by omega) n.toNat 5 11 τ K (fun (z106 : Int) (m105 : jg_M) => (if x = 1 then KI z106 m105 else (if jg_wr z106 < 0 then KI 1 m105 else KI 0 m105))) (by omega) (by omega) (by omega) (kr_CW_of hW h'.2.2.1) hRo hK (fun τ2 hf2 => ?_)
    · rw [show ((n.toNat : Nat) : Int) = n by omega] at this
      exact this
    · have hv := hk τ2 (jF_tr (jF_mono hf (fun c i q => by unfold kW_ro at q; unfold kW_la; omega)) (jF_mono hf2 (fun c i q => by unfold kW_lo at q; unfold kW_la; omega)))
      rw [if_pos ⟨by omega, by omega, by omega⟩] at hv
      show (if x = 1 then KI (kr_wn g n.toNat K) τ2 else _)
      rw [jr_wr (show jr (kr_wn g n.toNat K) by omega)]
      refine jn_ite (fun e => ?_) (fun e => jn_ite (fun e5 => ?_) (fun e5 => ?_))
      · rw [if_neg (by omega)] at hv; exact hv
      · rw [if_pos (show x = 0 by omega), if_pos e5] at hv; exact hv
      · rw [if_pos (show x = 0 by omega), if_neg e5] at hv; exact hv
end KYA
