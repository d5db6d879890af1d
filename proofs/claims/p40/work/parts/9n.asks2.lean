/-! Asking, in both: rules, LOOKs -/
noncomputable def kv_look (g : gM) (s r : Int) : Int := if (0 ≤ s ∧ s < ku_n g) ∧ 0 ≤ r ∧ r ≤ g 0 2 then (if (jn_clo g ((kg_S g).2.1 s)).testBit (r * 5 + jn_len g r).toNat = true then ((kg_L g s (r * 5 + jn_len g r) : Nat) : Int) else -2) else -1
section KVB
variable {w : Nat} {σ τ : jg_M} {T : Nat} {g : gM} {n x y s t r k : Int} {KV : jg_M → Prop} {KI : Int → jg_M → Prop}
theorem jc_rule (h : ku_CG σ T g) (hr : jr r) (hx : jr k) (hk : KI (kv_rule g r k) σ) : jg_CI w 3 mm_X11_rule [.ref 0, .int (.ofInt r), .int (.ofInt k)] σ KI := by
  have sh := ku_sh h.1.1
  have hG := h.2.2.1.1.1
  have hW := h.2.1.1.1.1
  have hw := hW.1
  unfold kv_rule at hk
  refine jb_X11_rule_0 rfl ?_
  rw [h.1.2.1]
  intro r1 er
  rw [show r1 = T by omega]
  refine ⟨sh.1, jc_X0_hasRule sh.2.2 hG hW hr (jn_if (fun hno => ?_) (fun hyes => ?_))⟩
  · rw [if_neg (fun q => hno q.1)] at hk; exact hk
  have hlen : jn_len g r = g 4 r := by unfold jn_len; rw [if_neg (by omega), if_pos hyes]
  rw [jr_wr hx]
  refine jn_ite (fun e0 => ?_) (fun e0 => jn_ite (fun e1 => ?_) (fun e1 => jn_ite (fun e2 => ?_) (fun e2 => jn_ite (fun e6 => ?_) (fun e6 => ?_))))
  · rw [if_pos ⟨hyes, by omega, by omega⟩, if_pos e0] at hk
    refine jc_X0_kindOf sh.2.2 hG hW hr ?_
    rw [if_pos hyes]; exact hk
  · rw [if_pos ⟨hyes, by omega, by omega⟩, if_neg e0, if_pos e1] at hk
    refine jc_X0_lengthOf sh.2.2 hG hW hr ?_
    rw [hlen]; exact hk
  · rw [if_neg (fun q => by omega)] at hk
    exact jn_ite (fun h => by omega) (fun _ => hk)
  · refine jn_ite (fun e => ?_) (fun e => ?_)
    · rw [if_pos ⟨hyes, by omega, by omega⟩, if_neg e0, if_neg e1, if_pos e] at hk
      exact jc_X0_rankOf sh.2.2 hG hW hr hk
    · rw [if_neg (fun q => by omega)] at hk
      exact hk
  · rw [if_pos ⟨hyes, by omega, by omega⟩, if_neg e0, if_neg e1, if_neg (by omega)] at hk
    exact jc_X0_symbolAt sh.2.2 hG hW hr (by omega) hk
theorem jc_look (h : ku_CG σ T g) (hs : jr s) (hr : jr r) (hk : KI (kv_look g s r) σ) : jg_CI w 2 mm_X11_look [.ref 0, .int (.ofInt s), .int (.ofInt r)] σ KI := by
  have sh := ku_sh h.1.1
  have hG := h.2.2.1.1.1
  have hW := h.2.1.1.1.1
  have hw := hW.1
  obtain ⟨n1, n2, n3⟩ := ku_CN h
  unfold kv_look at hk
  refine jb_X11_look_0 rfl ?_
  rw [h.1.2.1]
  intro r1 er1
  rw [show r1 = T by omega]
  refine ⟨sh.1, ?_⟩
  intro r2 er2
  rw [show r2 = T by omega]
  refine ⟨sh.1, jc_X7_has sh.2.1 n1 n2 hs (jn_if (fun hno => ?_) (fun hyes => ?_))⟩
  · rw [if_neg (fun q => hno q.1)] at hk; exact hk
  have h02 : σ.1 (T + 1) 2 = g 0 2 := hG.1.2.2.1
  rw [jr_wr hr, h02, jr_wr (show jr (g 0 2) by omega)]
  refine jn_ite (fun hneg => ?_) (fun hpos => jn_ite (fun hle => ?_) (fun hgt => ?_))
  · rw [if_neg (fun q => by omega)] at hk; exact hk
  · rw [if_pos ⟨hyes, by omega, hle⟩] at hk
    refine jc_X0_itemAtEnd sh.2.2 hG hW hr ?_
    obtain ⟨_, n4, nF, n5⟩ := n3 (by omega)
    have hlen : 0 ≤ jn_len g r ∧ jn_len g r ≤ 4 := by
      unfold jn_len
      by_cases e : r = g 0 2
      · rw [if_pos e]; omega
      · rw [if_neg e, if_pos ⟨by omega, by omega⟩]
        exact (hW.2.1 r (by omega) (by omega)).2.1
    have hRC : jn_RC σ (T + 10) g (kg_S g) ∧ ∀ s i, 0 ≤ s → s < (kg_S g).1 → 0 ≤ i → i < 62 → σ.1 (T + 15) (s * 62 + i) = (kg_L g s i : Nat) := by
      rcases h.2.2.1.2.2 with q | q
      · omega
      · exact ⟨q.2.2.2.2.1.1, q.2.2.2.2.2.1⟩
    rw [h.1.2.1]
    intro r3 er3
    rw [show r3 = T by omega]
    refine ⟨sh.1, jc_X7_hasItem sh.2.1 hW hRC.1 nF hs (by omega) (jn_if (fun hno => ?_) (fun hit => ?_))⟩
    · rw [if_neg (fun q => hno ⟨by omega, by omega, q⟩)] at hk; exact hk
    · rw [if_pos hit.2.2] at hk
      rw [h.1.2.1]
      intro r4 er4
      rw [show r4 = T by omega]
      refine ⟨sh.1, jc_X7_behind sh.2.1 n1 n2 hs (by omega) ?_⟩
      have hlt : r * 5 + jn_len g r < 62 := by
        by_cases e : r = g 0 2
        · have : jn_len g r = 1 := by unfold jn_len; rw [if_pos e]
          omega
        · omega
      rw [if_pos ⟨hyes, by omega, hlt⟩, show T + 10 + 5 = T + 15 from rfl, hRC.2 s _ hyes.1 (by omega) (by omega) hlt]
      exact hk
  · rw [if_neg (fun q => by omega)] at hk; exact hk
end KVB
