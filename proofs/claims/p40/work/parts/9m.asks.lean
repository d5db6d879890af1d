/-! Asking, in both: names, tokens, rules, actions, moves -/
noncomputable def ku_n (g : gM) : Int := if g 0 1 = 0 then 0 else (kg_S g).1
def kW_ge (c : Nat) (i : Int) : Prop := c = 92 ∧ (i = 2 ∨ (33 ≤ i ∧ i ≤ 38))
noncomputable def kv_action (g : gM) (s t : Int) : Int := if (0 ≤ s ∧ s < ku_n g) ∧ 0 ≤ t ∧ t ≤ g 0 0 then kr_ac g s t else -1
noncomputable def kv_rule (g : gM) (r k : Int) : Int := if (0 ≤ r ∧ r < g 0 2) ∧ 0 ≤ k ∧ k ≤ 6 then (if k = 0 then g 3 r else if k = 1 then g 4 r else if k = 6 then jn_rk g r (jn_len g r).toNat else jn_sym g r (k - 2)) else -1
section KVA
variable {w : Nat} {σ τ : jg_M} {T : Nat} {g : gM} {n x y s t r k : Int} {KV : jg_M → Prop} {KI : Int → jg_M → Prop}
theorem ku_CN (h : ku_CG σ T g) : σ.1 (T + 10) 0 = ku_n g ∧ (0 ≤ ku_n g ∧ ku_n g ≤ 48) ∧ (0 < ku_n g → 0 < g 0 1 ∧ ku_n g = (kg_S g).1 ∧ jn_FP g (kg_S g) ∧ kr_CV σ T g) := by
  have hW := h.2.1.1.1.1
  have hw := hW.1
  unfold ku_n
  by_cases h0 : g 0 1 = 0
  · rw [if_pos h0]
    rcases h.2.2.1.2.2 with q | q
    · exact ⟨q.2.1, by decide, fun h => absurd h (by decide)⟩
    · omega
  · rw [if_neg h0]
    obtain ⟨q1, q2, q3⟩ := kr_CV_of hW h.2.2.1 (by omega)
    have hI := q2.1.1
    exact ⟨q1.2.1, by omega, fun _ => ⟨by omega, rfl, q2, q1⟩⟩
theorem ku_MG_ge (h : ku_MG σ g) (hf : jF kW_ge σ τ) : ku_MG τ g := ku_MG_fr h hf (fun c i q1 q2 => by unfold kW_mg kW_m0 at q1; unfold kW_ge at q2; omega)
theorem ku_sh (h : T = 4 ∨ T = 26) : jg_sh T = (8, 0) ∧ jg_sh (T + 10) = (7, 0) ∧ jg_sh (T + 1) = (0, 0) := by rcases h with rfl | rfl <;> exact ⟨rfl, rfl, rfl⟩
theorem ku_ge2 (h : τ = jg_sI σ 92 2 0) : jF kW_ge σ τ ∧ τ.1 92 2 = 0 := by rw [h]; exact ⟨jF_I ⟨rfl, Or.inl rfl⟩, js_Is⟩
theorem jc_action (h : ku_CG σ T g) (hs : jr s) (ht : jr t) (hk : KI (kv_action g s t) σ) : jg_CI w 2 mm_X11_action [.ref 0, .int (.ofInt s), .int (.ofInt t)] σ KI := by
  have sh := ku_sh h.1.1
  have hw := h.2.1.1.1.1.1
  obtain ⟨n1, n2, n3⟩ := ku_CN h
  unfold kv_action at hk
  refine jb_X11_action_0 rfl ?_
  rw [h.1.2.1]
  intro r er
  rw [show r = T by omega]
  refine ⟨sh.1, jc_X7_has sh.2.1 n1 n2 hs (jn_if (fun hno => ?_) (fun hyes => ?_))⟩
  · rw [if_neg (fun q => hno q.1)] at hk; exact hk
  rw [h.1.2.1]
  intro r2 er2
  rw [show r2 = T by omega]
  refine ⟨sh.1, jc_X0_hasTerminal sh.2.2 h.2.2.1.1.1 h.2.1.1.1.1 ht (jn_if (fun hno => ?_) (fun hyt => ?_))⟩
  · rw [if_neg (fun q => hno q.2)] at hk; exact hk
  rw [h.1.2.1]
  intro r3 er3
  rw [show r3 = T by omega]
  obtain ⟨_, n4, _, n5⟩ := n3 (by omega)
  refine ⟨sh.1, jc_X8_actionFor sh.1 sh.2.1 n1 n2 hs ht ?_⟩
  rw [if_pos ⟨hyes, hyt⟩] at hk
  rw [if_pos ⟨hyes, by omega, by omega⟩, n5.2.2.2 s t hyes.1 (by omega) hyt.1 hyt.2]
  exact hk
end KVA
