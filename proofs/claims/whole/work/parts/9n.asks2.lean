/-! Asking, in both: rules, LOOKs -/
noncomputable def kv_look (g : gM) (s r : Int) : Int := if (0 ≤ s ∧ s < ku_n g) ∧ 0 ≤ r ∧ r ≤ g 0 2 then (if (jn_clo g ((kg_S g).2.1 s)).testBit (r * 5 + jn_len g r).toNat = true then ((kg_L g s (r * 5 + jn_len g r) : Nat) : Int) else -2) else -1
section KVB
variable {w : Nat} {σ τ : jg_M} {T : Nat} {g : gM} {n x y s t r k : Int} {KV : jg_M → Prop} {KI : Int → jg_M → Prop}
theorem jm_byText (hk : ∀ τ, jF kW_ge σ τ → τ.1 92 2 = σ.1 92 2 → τ.1 92 36 = 0 → τ.1 92 35 = 0 → τ.1 92 34 = -1 → τ.1 92 33 = 0 → τ.1 92 38 = 0 → KV τ) : jg_CV w 0 mm_X12_byText [.ref 92] σ KV := by
  refine jb_X12_byText_0 rfl ?_
  intro m1 e1 m2 e2 m3 e3 m4 e4 m5 e5
  refine hk m5 ?_ ?_ ?_ ?_ ?_ ?_ ?_
  · rw [e5, e4, e3, e2, e1]
    exact jF_toI (jF_toI (jF_toI (jF_toI (jF_I ⟨rfl, by omega⟩) ⟨rfl, by omega⟩) ⟨rfl, by omega⟩) ⟨rfl, by omega⟩) ⟨rfl, by omega⟩
  · rw [e5, js_In (Or.inr (by decide)), e4, js_In (Or.inr (by decide)), e3, js_In (Or.inr (by decide)), e2, js_In (Or.inr (by decide)), e1, js_In (Or.inr (by decide))]
  · rw [e5, js_In (Or.inr (by decide)), e4, js_In (Or.inr (by decide)), e3, js_In (Or.inr (by decide)), e2, js_In (Or.inr (by decide)), e1, js_Is]
  · rw [e5, js_In (Or.inr (by decide)), e4, js_In (Or.inr (by decide)), e3, js_In (Or.inr (by decide)), e2, js_Is]
  · rw [e5, js_In (Or.inr (by decide)), e4, js_In (Or.inr (by decide)), e3, js_Is]
  · rw [e5, js_In (Or.inr (by decide)), e4, js_Is]
  · rw [e5, js_Is]
theorem jc_rule (h : ku_CG σ T g) (hr : jr r) (hx : jr k) (hk : KI (kv_rule g r k) σ) : jg_CI w 3 mm_X11_rule [.ref 0, .int (.ofInt r), .int (.ofInt k)] σ KI := by
  have sh := ku_sh h.1.1
  have hG := h.2.2.1.1.1
  have hW := h.2.1.1.1.1
  have hw := hW.1
  unfold kv_rule at hk
  refine jb_X11_rule_0 rfl ?_
  rw [h.1.2.1]
  intro r1 er
  rw [show r1 = T by omega]
  refine ⟨sh.1, jc_X0_hasRule sh.2.2 hG hW hr (jn_if (fun hno => ?_) (fun hyes => ?_))⟩
  · rw [if_neg (fun q => hno q.1)] at hk; exact hk
  have hlen : jn_len g r = g 4 r := by unfold jn_len; rw [if_neg (by omega), if_pos hyes]
  rw [jr_wr hx]
  refine jn_ite (fun e0 => ?_) (fun e0 => jn_ite (fun e1 => ?_) (fun e1 => jn_ite (fun e2 => ?_) (fun e2 => jn_ite (fun e6 => ?_) (fun e6 => ?_))))
  · rw [if_pos ⟨hyes, by omega, by omega⟩, if_pos e0] at hk
    refine jc_X0_kindOf sh.2.2 hG hW hr ?_
    rw [if_pos hyes]; exact hk
  · rw [if_pos ⟨hyes, by omega, by omega⟩, if_neg e0, if_pos e1] at hk
    refine jc_X0_lengthOf sh.2.2 hG hW hr ?_
    rw [hlen]; exact hk
  · rw [if_neg (fun q => by omega)] at hk
    exact jn_ite (fun h => by omega) (fun _ => hk)
  · refine jn_ite (fun e => ?_) (fun e => ?_)
    · rw [if_pos ⟨hyes, by omega, by omega⟩, if_neg e0, if_neg e1, if_pos e] at hk
      exact jc_X0_rankOf sh.2.2 hG hW hr hk
    · rw [if_neg (fun q => by omega)] at hk
      exact hk
  · rw [if_pos ⟨hyes, by omega, by omega⟩, if_neg e0, if_neg e1, if_neg (by omega)] at hk
    exact jc_X0_symbolAt sh.2.2 hG hW hr (by omega) hk
theorem jm_rule (h : ku_MG σ g) (hr : jr r) (hx : jr k) (hk : ∀ τ, jF kW_ge σ τ → τ.1 92 2 = 0 → KI (kv_rule g r k) τ) : jg_CI w 2 mm_X12_rule [.ref 92, .int (.ofInt r), .int (.ofInt k)] σ KI := by
  have hok := h.1.1
  have hW := hok.1.1
  have hw := hW.1
  refine jb_X12_rule_0 rfl ?_
  intro τ hτ
  have h2 := ku_ge2 hτ
  have hM := ku_MG_ge h h2.1
  unfold kv_rule at hk
  refine jm_isRule hM.1.2.1.2.2.2 (by omega) (jn_if (fun hno => ?_) (fun hyes => ?_)) <;> rw [jr_wr hr] at *
  · have := hk τ h2.1 h2.2
    rw [if_neg (fun q => hno q.1)] at this; exact this
  refine jm_isIn hx (by omega) (by omega) (jn_if (fun hno => ?_) (fun hyk => ?_))
  · have := hk τ h2.1 h2.2
    rw [if_neg (fun q => hno q.2)] at this; exact this
  refine jm_byText (fun τ2 f2 e2 e36 e35 e34 e33 e38 => ?_)
  have hM2 := ku_MG_ge hM f2
  replace hk := hk τ2 (jF_tr h2.1 f2) (e2.trans h2.2)
  rw [if_pos ⟨hyes, hyk⟩] at hk
  have hrow := hM2.1.2.2.2.2 r hyes.1 hyes.2
  rw [show 13 * (0 : Int) + r = r by omega] at hrow
  have hlen : jn_len g r = g 4 r := by unfold jn_len; rw [if_neg (by omega), if_pos hyes]
  have hrr := hW.2.1 r hyes.1 hyes.2
  rw [jr_wr hx, hrow.1, hrow.2.1]
  refine jn_ite (fun e0 => ?_) (fun e0 => jn_ite (fun e1 => ?_) (fun e1 => jn_ite (fun e6 => ?_) (fun e6 => ?_)))
  · rw [if_pos e0] at hk; exact ⟨by omega, hk⟩
  · rw [if_neg e0, if_pos e1] at hk; exact ⟨by omega, hk⟩
  · rw [if_neg e0, if_neg e1, if_pos e6] at hk
    refine jm_ruleRank (b := 0) (jn_Mg_of (kt_GM_Mb hM2.1.2) e35 (e33.trans hok.1.2.1.symm) (e34.trans hok.1.2.2.symm)) ⟨0, e38, by omega, fun t t0 t1 => ⟨?_, ?_⟩⟩ hW ⟨hyes.1, by omega⟩ hk
    · rw [if_neg (by decide)]; exact (hM2.1.2.2.2.1 t t0 (by omega)).1
    · rw [if_neg (by decide)]; exact (hM2.1.2.2.2.1 t t0 (by omega)).2
  · rw [if_neg e0, if_neg e1, if_neg e6] at hk
    unfold jn_sym at hk
    rw [hlen] at hk
    rw [jr_wr (show jr (g 4 r) by omega), jr_wr (show jr (k - 2) by omega)]
    refine ⟨by omega, jn_ite (fun hle => ?_) (fun hlt => ?_)⟩
    · rw [if_pos (by omega)] at hk; exact hk
    · rw [if_neg (by omega), if_neg (by omega)] at hk
      rw [jr_wr (show jr (4 * r + k - 2) by omega), show 4 * r + k - 2 = 4 * r + (k - 2) by omega, hrow.2.2 (k - 2) (by omega) (by omega)]
      exact ⟨by omega, hk⟩
theorem jc_look (h : ku_CG σ T g) (hs : jr s) (hr : jr r) (hk : KI (kv_look g s r) σ) : jg_CI w 2 mm_X11_look [.ref 0, .int (.ofInt s), .int (.ofInt r)] σ KI := by
  have sh := ku_sh h.1.1
  have hG := h.2.2.1.1.1
  have hW := h.2.1.1.1.1
  have hw := hW.1
  obtain ⟨n1, n2, n3⟩ := ku_CN h
  unfold kv_look at hk
  refine jb_X11_look_0 rfl ?_
  rw [h.1.2.1]
  intro r1 er1
  rw [show r1 = T by omega]
  refine ⟨sh.1, ?_⟩
  intro r2 er2
  rw [show r2 = T by omega]
  refine ⟨sh.1, jc_X7_has sh.2.1 n1 n2 hs (jn_if (fun hno => ?_) (fun hyes => ?_))⟩
  · rw [if_neg (fun q => hno q.1)] at hk; exact hk
  have h02 : σ.1 (T + 1) 2 = g 0 2 := hG.1.2.2.1
  rw [jr_wr hr, h02, jr_wr (show jr (g 0 2) by omega)]
  refine jn_ite (fun hneg => ?_) (fun hpos => jn_ite (fun hle => ?_) (fun hgt => ?_))
  · rw [if_neg (fun q => by omega)] at hk; exact hk
  · rw [if_pos ⟨hyes, by omega, hle⟩] at hk
    refine jc_X0_itemAtEnd sh.2.2 hG hW hr ?_
    obtain ⟨_, n4, nF, n5⟩ := n3 (by omega)
    have hlen : 0 ≤ jn_len g r ∧ jn_len g r ≤ 4 := by
      unfold jn_len
      by_cases e : r = g 0 2
      · rw [if_pos e]; omega
      · rw [if_neg e, if_pos ⟨by omega, by omega⟩]
        exact (hW.2.1 r (by omega) (by omega)).2.1
    have hRC : jn_RC σ (T + 10) g (kg_S g) ∧ ∀ s i, 0 ≤ s → s < (kg_S g).1 → 0 ≤ i → i < 62 → σ.1 (T + 15) (s * 62 + i) = (kg_L g s i : Nat) := by
      rcases h.2.2.1.2.2 with q | q
      · omega
      · exact ⟨q.2.2.2.2.1.1, q.2.2.2.2.2.1⟩
    rw [h.1.2.1]
    intro r3 er3
    rw [show r3 = T by omega]
    refine ⟨sh.1, jc_X7_hasItem sh.2.1 hW hRC.1 nF hs (by omega) (jn_if (fun hno => ?_) (fun hit => ?_))⟩
    · rw [if_neg (fun q => hno ⟨by omega, by omega, q⟩)] at hk; exact hk
    · rw [if_pos hit.2.2] at hk
      rw [h.1.2.1]
      intro r4 er4
      rw [show r4 = T by omega]
      refine ⟨sh.1, jc_X7_behind sh.2.1 n1 n2 hs (by omega) ?_⟩
      have hlt : r * 5 + jn_len g r < 62 := by
        by_cases e : r = g 0 2
        · have : jn_len g r = 1 := by unfold jn_len; rw [if_pos e]
          omega
        · omega
      rw [if_pos ⟨hyes, by omega, hlt⟩, show T + 10 + 5 = T + 15 from rfl, hRC.2 s _ hyes.1 (by omega) (by omega) hlt]
      exact hk
  · rw [if_neg (fun q => by omega)] at hk; exact hk
theorem jm_look (h : ku_MG σ g) (hs : jr s) (hr : jr r) (hk : ∀ τ, jF kW_ge σ τ → τ.1 92 2 = 0 → KI (kv_look g s r) τ) : jg_CI w 1 mm_X12_look [.ref 92, .int (.ofInt s), .int (.ofInt r)] σ KI := by
  have hok := h.1.1
  have hW := hok.1.1
  have hw := hW.1
  refine jb_X12_look_0 rfl ?_
  intro τ hτ
  have h2 := ku_ge2 hτ
  have hM := ku_MG_ge h h2.1
  obtain ⟨n1, n2, n3⟩ := ku_MN hM
  unfold kv_look at hk
  refine jm_isState n1 (by omega) (jn_if (fun hno => ?_) (fun hyes => ?_)) <;> rw [jr_wr hs] at *
  · have := hk τ h2.1 h2.2
    rw [if_neg (fun q => hno q.1)] at this; exact this
  rw [hM.1.2.1.2.2.2]
  refine jm_isIn hr (by omega) (by omega) (jn_if (fun hno => ?_) (fun hyk => ?_))
  · have := hk τ h2.1 h2.2
    rw [if_neg (fun q => hno q.2)] at this; exact this
  refine jm_byText (fun τ2 f2 e2 e36 e35 e34 e33 e38 => ?_)
  have hM2 := ku_MG_ge hM f2
  replace hk := hk τ2 (jF_tr h2.1 f2) (e2.trans h2.2)
  rw [if_pos ⟨hyes, hyk⟩] at hk
  obtain ⟨_, n4, nF, _⟩ := n3 (by omega)
  have hRK : jn_RK τ2 0 g (kg_S g) ∧ jn_LMm τ2 0 (kg_S g) (kg_L g) := by
    rcases hM2.2.1.2.2 with q | q
    · omega
    · exact ⟨q.2.2.2.1, q.2.2.2.2.1⟩
  have hgo : ∀ z : Int, z = jn_len g r → (0 ≤ z ∧ z ≤ 4) → (r = g 0 2 → z = 1) → ∀ t109 : Int, t109 = (((65 * s) + (5 * r)) + z) → ((0 : Int) ≤ jg_wr t109 ∧ jg_wr t109 < (6240 : Int)) ∧ (if jg_wr (τ2.1 (92 + 15) (jg_wr t109)) = 0 then KI (-2) τ2 else ((0 : Int) ≤ jg_wr t109 ∧ jg_wr t109 < (6240 : Int)) ∧ KI (τ2.1 (92 + 18) (jg_wr t109)) τ2) := by
    intro z hz hz4 hz1 t ht
    have hlt : r * 5 + z < 62 := by
      by_cases e : r = g 0 2
      · have := hz1 e; omega
      · omega
    rw [← hz] at hk
    have hc := ((hRK.1.2.1 s hyes.1 (by omega)).2.1 (r * 5 + z).toNat (by omega))
    have hl := hRK.2 s (r * 5 + z) hyes.1 (by omega) (by omega) hlt
    rw [show 65 * (48 * (0 : Int) + s) + (((r * 5 + z).toNat : Nat) : Int) = t by omega] at hc
    rw [show 65 * (48 * (0 : Int) + s) + (r * 5 + z) = t by omega] at hl
    rw [jr_wr (show jr t by omega), hc, hl]
    refine ⟨by omega, jn_if (fun hno => ?_) (fun hit => ⟨by omega, ?_⟩)⟩
    · rw [if_neg hno] at hk; exact hk
    · rw [if_pos hit] at hk; exact hk
  refine jb_X12_longOf_0 rfl ?_
  rw [e35, show jg_wr 0 = 0 from rfl, hM2.1.2.1.2.2.2, jr_wr hr, jr_wr (show jr (g 0 2) by omega)]
  refine ⟨by omega, jn_ite (fun e => ?_) (fun e => ?_)⟩
  · exact hgo 1 (by unfold jn_len; rw [if_pos e]) (by omega) (fun _ => rfl)
  · have hrow := hM2.1.2.2.2.2 r hyk.1 (by omega)
    have hrr := hW.2.1 r hyk.1 (by omega)
    rw [jr_wr (show jr (13 * 0 + r) by omega), hrow.2.1]
    exact ⟨by omega, hgo (g 4 r) (by unfold jn_len; rw [if_neg e, if_pos ⟨by omega, by omega⟩]) (by omega) (fun q => absurd q e)⟩
end KVB
