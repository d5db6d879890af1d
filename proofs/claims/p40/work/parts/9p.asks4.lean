/-! Asking, in both: RELATIONS, AFTER -/
noncomputable def kv_rv (g : gM) (i : Int) : Int := if g 0 1 = 0 then 0 else if i = 0 then (jn_nu (kg_S g) 240 : Nat) else if i = 1 then (jn_ct (jn_rp (kg_e g) (kg_S g)) 1200 : Nat) else if i = 2 then (jn_pc (jn_Ib g (kg_e g) (kg_S g) 240 0 0) : Nat) else if i = 3 then (jn_ct (jn_lk g (kg_S g)) 2880 : Nat) else (jn_ct (jn_ld (jn_wf (jn_Ib g (kg_e g) (kg_S g) 240 0 0) 240) 240) 240 : Nat)
noncomputable def kv_rel (g : gM) (i : Int) : Int := if 0 ≤ i ∧ i ≤ 4 then kv_rv g i else -1
noncomputable def kv_after (g : gM) (s k : Int) : Int := if (0 ≤ s ∧ s < ku_n g) ∧ 0 ≤ k ∧ k < g 0 1 then (if jn_mv (kg_S g) (5 * s + k).toNat = true then ((kg_A g (5 * s + k).toNat : Nat) : Int) else -2) else -1
section KVD
variable {w : Nat} {σ τ : jg_M} {T : Nat} {g : gM} {n x y s t r k L b : Int} {v : Nat × Nat} {R : Int → Int} {KV : jg_M → Prop} {KI : Int → jg_M → Prop}
def kW_rg (c : Nat) (i : Int) : Prop := c = 54
theorem jc_relations (h : ku_CG σ T g) (hx : jr x) (hk : ∀ τ, jF kW_rg σ τ → KI (kv_rel g x) τ) : jg_CI w 4 mm_X11_relations [.ref 0, .int (.ofInt x)] σ KI := by
  have hW := h.2.1.1.1.1
  have hw := hW.1
  have h0 := hk σ jF_rf
  have hring : x = 4 → jg_CI w 3 mm_X4_rings [.ref 48] σ (fun (z102 : Int) (m101 : jg_M) => KI z102 m101) := by
    intro hx4
    have e4 : ∀ z, kv_rel g x = z → ∀ τ, jF kW_rg σ τ → KI z τ := fun z hz τ hf => hz ▸ hk τ hf
    unfold kv_rel kv_rv at e4
    rw [if_pos (by omega)] at e4
    rcases h.2.2.2.1 with ⟨q1, q2⟩ | ⟨q1, q2, q3, q4, q5, a, q6, q7⟩
    · rw [if_pos q1] at e4
      have h00 : σ.1 48 0 = 0 := q2 0 (Or.inl rfl)
      refine jb_X4_rings_0 rfl (jb_X4_reachBySteps_0 rfl ?_)
      intro τ1 h1
      have f1 : jF kW_rg σ τ1 := by
        rw [h1]
        refine ⟨fun c i _ => rfl, fun c i hc => ?_⟩
        show (if _ then _ else _) = _
        rw [if_neg (fun q => hc q.1)]
      have v1 : τ1.1 48 0 = 0 := (f1.1 _ _ (by unfold kW_rg; decide)).trans h00
      refine jb_X4_reachBySteps_18 rfl ?_
      rw [v1]
      refine jn_ite (fun _ => jb_X4_rings_8 rfl ?_) (fun q => absurd (by decide) q)
      rw [v1]
      exact jn_ite (fun _ => e4 0 rfl τ1 f1) (fun q => absurd (by decide) q)
    · rw [if_neg (by omega), if_neg (by omega), if_neg (by omega), if_neg (by omega), if_neg (by omega)] at e4
      exact jc_X4_rings rfl q4 q5.1 (fun m t hm => by have := jn_Ib_mv hW q1 h.2.1.1.1.2.2 q3 hm; exact ⟨this.1, this.2.2.1⟩) (fun τ hf => e4 _ rfl τ (jF_mono hf (fun c i q => q)))
  unfold kv_rel at h0
  have hv : 0 ≤ x → x < 4 → σ.1 48 x = kv_rv g x := fun x0 x4 => by
    unfold kv_rv
    rcases h.2.2.2.1 with ⟨q1, q2⟩ | ⟨q1, q2, q3, q4, q5, _⟩
    · rw [if_pos q1]; exact q2 x (by omega)
    · rw [if_neg (by omega)]
      by_cases e0 : x = 0
      · rw [if_pos e0, e0]; exact q4.1
      · rw [if_neg e0]
        by_cases e1 : x = 1
        · rw [if_pos e1, e1]; exact q5.2.1
        · rw [if_neg e1]
          by_cases e2 : x = 2
          · rw [if_pos e2, e2]; exact q5.1.2
          · rw [if_neg e2, if_pos (show x = 3 by omega), show x = 3 by omega]; exact q5.2.2
  refine jb_X11_relations_0 rfl ?_
  rw [jr_wr hx]
  refine jn_ite (fun e => ?_) (fun e0 => jn_ite (fun e => ?_) (fun e1 => jn_ite (fun e => ?_) (fun e2 => jn_ite (fun e => ?_) (fun e3 => jn_ite (fun e => ?_) (fun e4 => ?_)))))
  · rw [if_pos (by omega), ← hv (by omega) (by omega), e] at h0; exact h0
  · rw [if_pos (by omega), ← hv (by omega) (by omega), e] at h0; exact h0
  · rw [if_pos (by omega), ← hv (by omega) (by omega), e] at h0; exact h0
  · rw [if_pos (by omega), ← hv (by omega) (by omega), e] at h0; exact h0
  · exact hring e
  · rw [if_neg (by omega)] at h0; exact h0
theorem jc_after (h : ku_CG σ T g) (hs : jr s) (hk0 : jr k) (hk : KI (kv_after g s k) σ) : jg_CI w 2 mm_X11_after [.ref 0, .int (.ofInt s), .int (.ofInt k)] σ KI := by
  have sh := ku_sh h.1.1
  have hW := h.2.1.1.1.1
  have hw := hW.1
  obtain ⟨n1, n2, n3⟩ := ku_CN h
  unfold kv_after at hk
  refine jb_X11_after_0 rfl ?_
  rw [h.1.2.1]
  intro r er
  rw [show r = T by omega]
  refine ⟨sh.1, jc_X7_has sh.2.1 n1 n2 hs (jn_if (fun hno => ?_) (fun hyes => ?_))⟩
  · rw [if_neg (fun q => hno q.1)] at hk; exact hk
  rw [h.1.2.1]
  intro r2 er2
  rw [show r2 = T by omega]
  refine ⟨sh.1, jc_X0_hasKind sh.2.2 h.2.2.1.1.1 hW hk0 (jn_if (fun hno => ?_) (fun hyk => ?_))⟩
  · rw [if_neg (fun q => hno q.2)] at hk; exact hk
  rw [if_pos ⟨hyes, hyk⟩] at hk
  obtain ⟨n4, n5, _, _⟩ := n3 (by omega)
  rcases h.2.2.2.1 with q | ⟨q1, q2, q3, q4, q5, a, q6, q7⟩
  · omega
  refine jb_X4_afterMove_0 rfl (jc_X4_numberOf rfl hs hk0 ?_)
  have hm : (5 * s + k).toNat < 240 := by omega
  have hnum := q4.2.1 (5 * s + k).toNat hm
  rw [show (((5 * s + k).toNat : Nat) : Int) = s * 5 + k by omega] at hnum
  have hnum2 : σ.1 (0 + 48 + 3) (s * 5 + k) = if (5 * s + k).toNat < 240 ∧ jn_mv (kg_S g) (5 * s + k).toNat = true then ((jn_nu (kg_S g) (5 * s + k).toNat : Nat) : Int) else -1 := hnum
  have q40 : σ.1 (0 + 48) 0 = (jn_nu (kg_S g) 240 : Nat) := q4.1
  have q70 : ∀ i, σ.1 (0 + 48 + 4) i = σ.1 (48 + 4) i := fun i => rfl
  rw [if_pos (show (0 ≤ s ∧ s < 48) ∧ 0 ≤ k ∧ k < 5 by omega)]
  by_cases hv : jn_mv (kg_S g) (5 * s + k).toNat = true
  · rw [if_pos hv] at hk
    rw [hnum2.trans (if_pos ⟨hm, hv⟩)]
    have hlt : jn_nu (kg_S g) (5 * s + k).toNat < jn_nu (kg_S g) 240 := jn_ct_lt hv hm
    have hle : jn_nu (kg_S g) 240 ≤ 240 := jn_ct_le
    rw [jr_wr (show jr ((jn_nu (kg_S g) (5 * s + k).toNat : Nat) : Int) by omega), q40, jr_wr (show jr ((jn_nu (kg_S g) 240 : Nat) : Int) by omega)]
    refine jn_ite (fun h => by omega) (fun _ => jn_ite (fun h => by omega) (fun _ => ⟨by omega, ?_⟩))
    rw [q70, q7 _ hm hv, (kg_A_ok q6).2 _ hm hv]
    exact hk
  · rw [if_neg hv] at hk
    rw [hnum2.trans (if_neg (fun q => hv q.2))]
    exact jn_ite (fun _ => hk) (fun h => absurd (by decide) h)
end KVD
