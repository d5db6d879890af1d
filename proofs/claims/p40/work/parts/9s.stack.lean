/-! What is READ, as a STACK, in both -/
noncomputable def kv_stack (g : gM) (K : kr_K) (x : Int) : Int := if x < 0 ∨ ku_n g = 0 then -1 else if (K.1 : Int) ≤ x then -2 else K.2 ((K.1 : Int) - 1 - x)
section KSA
variable {w : Nat} {σ τ : jg_M} {T : Nat} {g : gM} {K : kr_K} {x : Int} {KV : jg_M → Prop} {KI : Int → jg_M → Prop}
theorem jc_hasStates (h : ku_CG σ T g) (hk : KI (jn_b (0 < ku_n g)) σ) : jg_CI w 0 mm_X11_hasStates [.ref 0] σ KI := by
  have sh := ku_sh h.1.1
  obtain ⟨n1, n2, n3⟩ := ku_CN h
  refine jb_X11_hasStates_0 rfl ?_
  rw [h.1.2.1]
  intro r er
  rw [show r = T by omega, n1, jr_wr (show jr (ku_n g) by omega)]
  refine ⟨sh.1, jn_ite (fun e => ?_) (fun e => ?_)⟩
  · rw [jn_b_f (by omega)] at hk; exact hk
  · rw [jn_b_t (by omega)] at hk; exact hk
theorem jc_stack (h : ku_CG σ T g) (hR : kr_Ro σ 65 K) (hK : kr_OK g K) (hx : jr x) (hk : KI (kv_stack g K x) σ) : jg_CI w 1 mm_X11_stack [.ref 0, .int (.ofInt x)] σ KI := by
  have h40 := kr_OK_le hK
  obtain ⟨n1, n2, n3⟩ := ku_CN h
  unfold kv_stack at hk
  refine jb_X11_stack_0 rfl ?_
  rw [jr_wr hx]
  refine jn_ite (fun hneg => ?_) (fun hpos => jc_hasStates h (jn_if (fun hno => ?_) (fun hyes => ?_)))
  · rw [if_pos (Or.inl hneg)] at hk; exact hk
  · rw [if_pos (Or.inr (by omega))] at hk; exact hk
  · rw [if_neg (by omega)] at hk
    refine jb_X5_stateBehindLast_0 rfl ?_
    have e : σ.1 (0 + 65) 2 = (K.1 : Nat) := hR.1
    rw [jr_wr hx, e, jr_wr (show jr ((K.1 : Nat) : Int) by omega)]
    refine jn_ite (fun h => by omega) (fun _ => jn_ite (fun hle => ?_) (fun hlt => jn_ite (fun h => by omega) (fun _ => ?_)))
    · rw [if_pos hle] at hk; exact hk
    · rw [if_neg hlt] at hk
      have hv := hR.2 (K.1 - 1 - x.toNat) (by omega)
      rw [show ((K.1 - 1 - x.toNat : Nat) : Int) = (K.1 : Int) - 1 - x by omega] at hv
      rw [jr_wr (show jr ((K.1 : Int) - 1 - x) by omega)]
      refine ⟨by omega, ?_⟩
      rw [show σ.1 (0 + 65 + 1) ((K.1 : Int) - 1 - x) = K.2 ((K.1 : Int) - 1 - x) from hv]
      exact hk
end KSA
