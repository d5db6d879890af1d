/-! Asking, in both: SHORTEST, WITNESS, PACKED, CONFLICTS -/
noncomputable def kv_dg (v : Nat × Nat) (k : Int) : Int := Classical.epsilon (fun x => ∃ (R : Int → Int) (b : Int), ka_cd R b v.1 = v.2 ∧ ka_tk R b v.1 ∧ R (b + k) = x)
noncomputable def kv_wd (v : Nat × Nat) (k : Int) : Int := if v = ka_no ∨ (v.1 : Int) ≤ k then -2 else kv_dg v k
noncomputable def kv_short (g : gM) (x k : Int) : Int := if (0 ≤ x ∧ x < g 0 1) ∧ 0 ≤ k then kv_wd (ka_VK g x) k else -1
noncomputable def kv_lm (g : gM) : Nat → Nat := if g 0 1 = 0 then fun _ => 0 else jn_lm g (kg_S g) (kg_L g) (kg_fo g) 0
noncomputable def kv_confs (g : gM) : Int := ((jn_ls (kv_lm g) 6144 : Nat) : Int)
section KVC
variable {w : Nat} {σ τ : jg_M} {T : Nat} {g : gM} {n x y s t r k L b : Int} {v : Nat × Nat} {R : Int → Int} {KV : jg_M → Prop} {KI : Int → jg_M → Prop}
theorem kv_wd_of {zN : Int} (h : ka_wd zN R b L v) (hk : 0 ≤ k) : (L ≤ k → kv_wd v k = -2) ∧ (k < L → kv_wd v k = R (b + k)) ∧ -2 ≤ L ∧ L ≤ 60 := by
  unfold kv_wd
  rcases h with ⟨h1, h2, h3⟩ | ⟨h1, h2, h3, h4⟩
  · exact ⟨fun _ => if_pos (Or.inl h3), fun h => by omega, h2.1, by omega⟩
  · have hne : v ≠ ka_no := fun e => by
      have : v.1 = 100 := by rw [e]; rfl
      omega
    refine ⟨fun h => if_pos (Or.inr (by omega)), fun h => ?_, by omega, by omega⟩
    rw [if_neg (fun q => q.elim hne (fun q => by omega))]
    unfold kv_dg
    have hex : ∃ x, ∃ (R : Int → Int) (b : Int), ka_cd R b v.1 = v.2 ∧ ka_tk R b v.1 ∧ R (b + k) = x := ⟨_, R, b, h3, h4, rfl⟩
    obtain ⟨R', b', q1, q2, q3⟩ := Classical.epsilon_spec hex
    rw [← q3]
    have := ka_cd_inj q2 h4 (q1.trans h3.symm) k.toNat (by omega)
    rw [show ((k.toNat : Nat) : Int) = k by omega] at this
    exact this
theorem jc_shortest (h : ku_CG σ T g) (hx : jr x) (hk0 : jr k) (hk : KI (kv_short g x k) σ) : jg_CI w 1 mm_X11_shortest [.ref 0, .int (.ofInt x), .int (.ofInt k)] σ KI := by
  have sh := ku_sh h.1.1
  have hw := h.2.1.1.1.1.1
  unfold kv_short at hk
  refine jb_X11_shortest_0 rfl ?_
  rw [h.1.2.1]
  intro r er
  rw [show r = T by omega]
  refine ⟨sh.1, jc_X0_hasKind sh.2.2 h.2.2.1.1.1 h.2.1.1.1.1 hx (jn_if (fun hno => ?_) (fun hyes => ?_))⟩
  · rw [if_neg (fun q => hno q.1)] at hk; exact hk
  rw [jr_wr hk0]
  refine jn_ite (fun hpos => ?_) (fun hneg => ?_)
  · rw [if_pos ⟨hyes, hpos⟩] at hk
    obtain ⟨hwd, h40⟩ := h.2.2.2.2.1.1 (by omega) x hyes.1 (by omega)
    obtain ⟨w1, w2, w3, w4⟩ := kv_wd_of hwd hpos
    have hL40 : σ.1 (55 + 1) x ≤ 40 := by
      rcases hwd with q | q
      · omega
      · rcases h40 with z | z
        · omega
        · have : (ka_VK g x).1 = 100 := by rw [z]; rfl
          omega
    refine jb_X6_tokenOfKind_0 rfl ?_
    rw [jr_wr hx, jr_wr hk0, jr_wr (show jr (σ.1 (55 + 1) x) by omega)]
    refine jn_ite (fun h => by omega) (fun _ => jn_ite (fun h => by omega) (fun _ => jn_ite (fun h => by omega) (fun _ => ⟨by omega, jn_ite (fun hlt => ?_) (fun hge => ?_)⟩)))
    · rw [w2 hlt] at hk
      rw [jr_wr (show jr (x * 40 + k) by omega)]
      exact ⟨by omega, hk⟩
    · rw [w1 (by omega)] at hk; exact hk
  · rw [if_neg (fun q => hneg q.2)] at hk; exact hk
theorem ku_TL (h : ku_CG σ T g) : jn_TL σ T (ku_n g) (kv_lm g) := by
  have hw := h.2.1.1.1.1.1
  obtain ⟨n1, n2, n3⟩ := ku_CN h
  unfold kv_lm
  by_cases h0 : g 0 1 = 0
  · rw [if_pos h0]
    rcases h.2.2.1.2.2 with q | q
    · exact ⟨n1, n2, fun c hc => (q.2.2 c (by omega) (by omega)).2, fun _ => by show 0 < 4096; decide, fun _ _ => rfl⟩
    · omega
  · rw [if_neg h0]
    rcases h.2.2.1.2.2 with q | q
    · omega
    · have hI := q.2.2.1.1.1
      have e : ku_n g = (kg_S g).1 := by unfold ku_n; rw [if_neg h0]
      rw [e]
      exact jn_TL_of q.2.2.2.2.1.1.1 (by omega) q.2.2.2.2.2.2
theorem jc_conflicts (h : ku_CG σ T g) (hk : KI (kv_confs g) σ) : jg_CI w 2 mm_X11_conflicts [.ref 0] σ KI := by
  have sh := ku_sh h.1.1
  refine jb_X11_conflicts_0 rfl ?_
  rw [h.1.2.1]
  intro r er
  rw [show r = T by omega]
  exact ⟨sh.1, jc_X8_conflictCount sh.1 (ku_TL h) hk⟩
end KVC
