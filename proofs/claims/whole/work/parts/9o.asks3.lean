/-! Asking, in both: SHORTEST, WITNESS, PACKED, CONFLICTS -/
noncomputable def kv_dg (v : Nat × Nat) (k : Int) : Int := Classical.epsilon (fun x => ∃ (R : Int → Int) (b : Int), ka_cd R b v.1 = v.2 ∧ ka_tk R b v.1 ∧ R (b + k) = x)
noncomputable def kv_wd (v : Nat × Nat) (k : Int) : Int := if v = ka_no ∨ (v.1 : Int) ≤ k then -2 else kv_dg v k
noncomputable def kv_short (g : gM) (x k : Int) : Int := if (0 ≤ x ∧ x < g 0 1) ∧ 0 ≤ k then kv_wd (ka_VK g x) k else -1
noncomputable def kv_wit (g : gM) (s k : Int) : Int := if (0 ≤ s ∧ s < ku_n g) ∧ 0 ≤ k then kv_wd (ka_VW g (kg_S g) s) k else -1
noncomputable def kv_offset (g : gM) (s : Int) : Int := if 0 ≤ s ∧ s < ku_n g then (ku_P g).2.1 s else -1
noncomputable def kv_packed (g : gM) (x k : Int) : Int := if (0 ≤ x ∧ x ≤ 999) ∧ 0 ≤ k ∧ k ≤ 1 then (if (ku_P g).2.2.1 x = 0 then -2 else if k = 0 then (ku_P g).2.2.1 x else (ku_P g).2.2.2 x) else -1
noncomputable def kv_lm (g : gM) : Nat → Nat := if g 0 1 = 0 then fun _ => 0 else jn_lm g (kg_S g) (kg_L g) (kg_fo g) 0
noncomputable def kv_confs (g : gM) : Int := ((jn_ls (kv_lm g) 6144 : Nat) : Int)
section KVC
variable {w : Nat} {σ τ : jg_M} {T : Nat} {g : gM} {n x y s t r k L b : Int} {v : Nat × Nat} {R : Int → Int} {KV : jg_M → Prop} {KI : Int → jg_M → Prop}
theorem kv_wd_of {zN : Int} (h : ka_wd zN R b L v) (hk : 0 ≤ k) : (L ≤ k → kv_wd v k = -2) ∧ (k < L → kv_wd v k = R (b + k)) ∧ -2 ≤ L ∧ L ≤ 60 := by
  unfold kv_wd
  rcases h with ⟨h1, h2, h3⟩ | ⟨h1, h2, h3, h4⟩
  · exact ⟨fun _ => if_pos (Or.inl h3), fun h => by omega, h2.1, by omega⟩
  · have hne : v ≠ ka_no := fun e => by
      have : v.1 = 100 := by rw [e]; rfl
      omega
    refine ⟨fun h => if_pos (Or.inr (by omega)), fun h => ?_, by omega, by omega⟩
    rw [if_neg (fun q => q.elim hne (fun q => by omega))]
    unfold kv_dg
    have hex : ∃ x, ∃ (R : Int → Int) (b : Int), ka_cd R b v.1 = v.2 ∧ ka_tk R b v.1 ∧ R (b + k) = x := ⟨_, R, b, h3, h4, rfl⟩
    obtain ⟨R', b', q1, q2, q3⟩ := Classical.epsilon_spec hex
    rw [← q3]
    have := ka_cd_inj q2 h4 (q1.trans h3.symm) k.toNat (by omega)
    rw [show ((k.toNat : Nat) : Int) = k by omega] at this
    exact this
theorem jc_shortest (h : ku_CG σ T g) (hx : jr x) (hk0 : jr k) (hk : KI (kv_short g x k) σ) : jg_CI w 1 mm_X11_shortest [.ref 0, .int (.ofInt x), .int (.ofInt k)] σ KI := by
  have sh := ku_sh h.1.1
  have hw := h.2.1.1.1.1.1
  unfold kv_short at hk
  refine jb_X11_shortest_0 rfl ?_
  rw [h.1.2.1]
  intro r er
  rw [show r = T by omega]
  refine ⟨sh.1, jc_X0_hasKind sh.2.2 h.2.2.1.1.1 h.2.1.1.1.1 hx (jn_if (fun hno => ?_) (fun hyes => ?_))⟩
  · rw [if_neg (fun q => hno q.1)] at hk; exact hk
  rw [jr_wr hk0]
  refine jn_ite (fun hpos => ?_) (fun hneg => ?_)
  · rw [if_pos ⟨hyes, hpos⟩] at hk
    obtain ⟨hwd, h40⟩ := h.2.2.2.2.1.1 (by omega) x hyes.1 (by omega)
    obtain ⟨w1, w2, w3, w4⟩ := kv_wd_of hwd hpos
    have hL40 : σ.1 (55 + 1) x ≤ 40 := by
      rcases hwd with q | q
      · omega
      · rcases h40 with z | z
        · omega
        · have : (ka_VK g x).1 = 100 := by rw [z]; rfl
          omega
    refine jb_X6_tokenOfKind_0 rfl ?_
    rw [jr_wr hx, jr_wr hk0, jr_wr (show jr (σ.1 (55 + 1) x) by omega)]
    refine jn_ite (fun h => by omega) (fun _ => jn_ite (fun h => by omega) (fun _ => jn_ite (fun h => by omega) (fun _ => ⟨by omega, jn_ite (fun hlt => ?_) (fun hge => ?_)⟩)))
    · rw [w2 hlt] at hk
      rw [jr_wr (show jr (x * 40 + k) by omega)]
      exact ⟨by omega, hk⟩
    · rw [w1 (by omega)] at hk; exact hk
  · rw [if_neg (fun q => hneg q.2)] at hk; exact hk
theorem jm_shortest (h : ku_MG σ g) (hx : jr x) (hk0 : jr k) (hk : ∀ τ, jF kW_ge σ τ → τ.1 92 2 = 0 → KI (kv_short g x k) τ) : jg_CI w 1 mm_X12_shortest [.ref 92, .int (.ofInt x), .int (.ofInt k)] σ KI := by
  have hw := h.1.1.1.1.1
  refine jb_X12_shortest_0 rfl ?_
  intro τ hτ
  have h2 := ku_ge2 hτ
  have hM := ku_MG_ge h h2.1
  replace hk := hk τ h2.1 h2.2
  unfold kv_short at hk
  refine jm_isKind (n := g 0 1) hM.1.2.1.2.2.1 (by omega) (jn_if (fun hno => ?_) (fun hyes => ?_)) <;> rw [jr_wr hx] at *
  · rw [if_neg (fun q => hno q.1)] at hk; exact hk
  rw [jr_wr hk0]
  refine jn_ite (fun hpos => ?_) (fun hneg => ?_)
  · rw [if_pos ⟨hyes, hpos⟩] at hk
    obtain ⟨hwd, h40⟩ := hM.2.2.2.1.1 x hyes.1 (by omega)
    obtain ⟨w1, w2, w3, w4⟩ := kv_wd_of hwd hpos
    have hL40 : τ.1 (92 + 29) x ≤ 40 := by
      rcases hwd with q | q
      · omega
      · rcases h40 with z | z
        · omega
        · have : (ka_VK g x).1 = 100 := by rw [z]; rfl
          omega
    rw [jr_wr (show jr (τ.1 (92 + 29) x) by omega)]
    refine ⟨by omega, jn_ite (fun hle => ?_) (fun hlt => ?_)⟩
    · rw [w1 hle] at hk; exact hk
    · rw [w2 (by omega)] at hk
      rw [jr_wr (show jr (40 * x + k) by omega), show 40 * x + k = x * 40 + k by omega]
      exact ⟨by omega, hk⟩
  · rw [if_neg (fun q => hneg q.2)] at hk; exact hk
theorem jc_witness (h : ku_CG σ T g) (hs : jr s) (hk0 : jr k) (hk : KI (kv_wit g s k) σ) : jg_CI w 1 mm_X11_witness [.ref 0, .int (.ofInt s), .int (.ofInt k)] σ KI := by
  have sh := ku_sh h.1.1
  obtain ⟨n1, n2, n3⟩ := ku_CN h
  unfold kv_wit at hk
  refine jb_X11_witness_0 rfl ?_
  rw [h.1.2.1]
  intro r er
  rw [show r = T by omega]
  refine ⟨sh.1, jc_X7_has sh.2.1 n1 n2 hs (jn_if (fun hno => ?_) (fun hyes => ?_))⟩
  · rw [if_neg (fun q => hno q.1)] at hk; exact hk
  rw [jr_wr hk0]
  refine jn_ite (fun hpos => ?_) (fun hneg => ?_)
  · rw [if_pos ⟨hyes, hpos⟩] at hk
    have hWR : ka_WR (-2) (σ.1 (55 + 4)) (σ.1 (55 + 2)) (ka_VW g (kg_S g)) := by
      rcases h.2.2.2.2.1.2 with q | ⟨_, S, q1, q2⟩
      · have := (n3 (by omega)).1; omega
      · rw [kg_S_eq q1] at q2; exact q2
    have hwd := hWR s hyes.1 (by omega)
    obtain ⟨w1, w2, w3, w4⟩ := kv_wd_of hwd hpos
    refine jb_X6_tokenToState_0 rfl ?_
    rw [jr_wr hs, jr_wr hk0, jr_wr (show jr (σ.1 (55 + 2) s) by omega)]
    refine jn_ite (fun h => by omega) (fun _ => jn_ite (fun h => by omega) (fun _ => jn_ite (fun h => by omega) (fun _ => ⟨by omega, jn_ite (fun hlt => ?_) (fun hge => ?_)⟩)))
    · rw [w2 hlt] at hk
      rw [jr_wr (show jr (s * 60 + k) by omega)]
      exact ⟨by omega, hk⟩
    · rw [w1 (by omega)] at hk; exact hk
  · rw [if_neg (fun q => hneg q.2)] at hk; exact hk
theorem jm_witness (h : ku_MG σ g) (hs : jr s) (hk0 : jr k) (hk : ∀ τ, jF kW_ge σ τ → τ.1 92 2 = 0 → KI (kv_wit g s k) τ) : jg_CI w 1 mm_X12_witness [.ref 92, .int (.ofInt s), .int (.ofInt k)] σ KI := by
  refine jb_X12_witness_0 rfl ?_
  intro τ hτ
  have h2 := ku_ge2 hτ
  have hM := ku_MG_ge h h2.1
  obtain ⟨n1, n2, n3⟩ := ku_MN hM
  replace hk := hk τ h2.1 h2.2
  unfold kv_wit at hk
  refine jm_isState n1 (by omega) (jn_if (fun hno => ?_) (fun hyes => ?_)) <;> rw [jr_wr hs] at *
  · rw [if_neg (fun q => hno q.1)] at hk; exact hk
  rw [jr_wr hk0]
  refine jn_ite (fun hpos => ?_) (fun hneg => ?_)
  · rw [if_pos ⟨hyes, hpos⟩] at hk
    have hWR : ka_WR (-1) (τ.1 (92 + 32)) (τ.1 (92 + 31)) (ka_VW g (kg_S g)) := by
      rcases hM.2.2.2.1.2 with q | ⟨_, S, q1, q2⟩
      · have := (n3 (by omega)).1; omega
      · rw [kg_S_eq q1] at q2; exact q2
    have hwd := hWR s hyes.1 (by omega)
    obtain ⟨w1, w2, w3, w4⟩ := kv_wd_of hwd hpos
    rw [jr_wr (show jr (τ.1 (92 + 31) s) by omega)]
    refine ⟨by omega, jn_ite (fun hle => ?_) (fun hlt => ?_)⟩
    · rw [w1 hle] at hk; exact hk
    · rw [w2 (by omega)] at hk
      rw [jr_wr (show jr (60 * s + k) by omega), show 60 * s + k = s * 60 + k by omega]
      exact ⟨by omega, hk⟩
  · rw [if_neg (fun q => hneg q.2)] at hk; exact hk
theorem jc_offset (h : ku_CG σ T g) (hs : jr s) (hk : KI (kv_offset g s) σ) : jg_CI w 1 mm_X11_offset [.ref 0, .int (.ofInt s)] σ KI := by
  have sh := ku_sh h.1.1
  obtain ⟨n1, n2, n3⟩ := ku_CN h
  unfold kv_offset at hk
  refine jb_X11_offset_0 rfl ?_
  rw [h.1.2.1]
  intro r er
  rw [show r = T by omega]
  refine ⟨sh.1, jc_X7_has sh.2.1 n1 n2 hs (jn_if (fun hno => ?_) (fun hyes => ?_))⟩
  · rw [if_neg hno] at hk; exact hk
  · rw [if_pos hyes] at hk
    rw [jr_wr hs]
    refine ⟨by omega, ?_⟩
    have := h.2.2.2.2.2.2.1 s hyes.1 (by omega)
    rw [← this] at hk; exact hk
theorem jm_offset (h : ku_MG σ g) (hs : jr s) (hk : ∀ τ, jF kW_ge σ τ → τ.1 92 2 = 0 → KI (kv_offset g s) τ) : jg_CI w 1 mm_X12_offset [.ref 92, .int (.ofInt s)] σ KI := by
  refine jb_X12_offset_0 rfl ?_
  intro τ hτ
  have h2 := ku_ge2 hτ
  have hM := ku_MG_ge h h2.1
  obtain ⟨n1, n2, n3⟩ := ku_MN hM
  replace hk := hk τ h2.1 h2.2
  unfold kv_offset at hk
  refine jm_isState n1 (by omega) (jn_if (fun hno => ?_) (fun hyes => ?_)) <;> rw [jr_wr hs] at *
  · rw [if_neg hno] at hk; exact hk
  · rw [if_pos hyes] at hk
    obtain ⟨n4, n5, _⟩ := n3 (by omega)
    have := hM.2.2.2.2.2.1 s ⟨n4, hyes.1, by omega⟩
    rw [← this] at hk
    exact ⟨by omega, hk⟩
theorem ku_P_In (hF : 0 < g 0 1 → jn_FP g (kg_S g)) (h0 : 0 ≤ g 0 1) : ∃ c : Nat, c ≤ 48 ∧ kb_In (ku_P g) c := by
  unfold ku_P
  by_cases h : g 0 1 = 0
  · rw [if_pos h]
    exact ⟨0, by decide, ⟨by decide, by decide⟩, fun _ _ => rfl, fun _ => ⟨Int.le_refl 0, by show (0 : Int) ≤ 3000; decide⟩, fun _ => ⟨Int.le_refl 0, by show (0 : Int) < 48; decide⟩, fun _ => ⟨Int.le_refl 0, by show (0 : Int) ≤ 400; decide⟩⟩
  · rw [if_neg h]
    have hFP := hF (by omega)
    have hI := hFP.1.1
    have hc := kb_cs_le (an := kb_an g (kg_S g) (kg_L g)) (n := (kg_S g).1.toNat) (k := 8) (Nat.le_refl 8)
    exact ⟨_, by omega, kb_dn_In (kb_ac_rng hFP) (by omega) (Nat.le_refl 8)⟩
theorem jc_packed (h : ku_CG σ T g) (hx : jr x) (hk0 : jr k) (hk : KI (kv_packed g x k) σ) : jg_CI w 1 mm_X11_packed [.ref 0, .int (.ofInt x), .int (.ofInt k)] σ KI := by
  have hw := h.2.1.1.1.1.1
  obtain ⟨c, hc, hI⟩ := ku_P_In (g := g) (fun h0 => (kr_CV_of h.2.1.1.1.1 h.2.2.1 h0).2.1) (by omega)
  unfold kv_packed at hk
  have hP : ∀ (V : Int), 0 ≤ x → x ≤ 999 → (if (0 ≤ x ∧ x < 400) ∧ (ku_P g).2.2.1 x ≠ 0 then V else -2) = if (ku_P g).2.2.1 x = 0 then -2 else V := fun V x0 x9 => by
    by_cases hz : (ku_P g).2.2.1 x = 0
    · rw [if_neg (fun q => q.2 hz), if_pos hz]
    · have h1 : x < 400 := Classical.byContradiction (fun q => hz (hI.2.1 x (by have := hI.1.2; omega)))
      rw [if_pos ⟨⟨x0, h1⟩, hz⟩, if_neg hz]
  refine jb_X11_packed_0 rfl ?_
  rw [jr_wr hx, jr_wr hk0]
  refine jn_ite (fun h1 => ?_) (fun h1 => jn_ite (fun h2 => ?_) (fun h2 => jn_ite (fun h3 => ?_) (fun h3 => jn_ite (fun h4 => jn_ite (fun h5 => ?_) (fun h5 => ?_)) (fun h4 => ?_))))
  · rw [if_neg (fun q => by omega)] at hk; exact hk
  · rw [if_neg (fun q => by omega)] at hk; exact hk
  · rw [if_neg (fun q => by omega)] at hk; exact hk
  · rw [if_pos ⟨by omega, by omega⟩, if_pos h5] at hk
    refine jc_X2_actionAt rfl h.2.2.2.2.2 hI hx ?_
    rw [hP _ (by omega) (by omega)]; exact hk
  · rw [if_pos ⟨by omega, by omega⟩, if_neg h5] at hk
    refine jc_X2_stateAt rfl h.2.2.2.2.2 hI hx ?_
    rw [hP _ (by omega) (by omega)]; exact hk
  · rw [if_neg (fun q => by omega)] at hk; exact hk
theorem jm_packed (h : ku_MG σ g) (hx : jr x) (hk0 : jr k) (hk : ∀ τ, jF kW_ge σ τ → τ.1 92 2 = 0 → KI (kv_packed g x k) τ) : jg_CI w 1 mm_X12_packed [.ref 92, .int (.ofInt x), .int (.ofInt k)] σ KI := by
  have hw := h.1.1.1.1.1
  obtain ⟨c, hc, hI⟩ := ku_P_In (g := g) (fun h0 => by rcases h.2.1.2.2 with q | q; (· omega); exact q.2.2.1) (by omega)
  refine jb_X12_packed_0 rfl ?_
  intro τ hτ
  have h2 := ku_ge2 hτ
  have hM := ku_MG_ge h h2.1
  replace hk := hk τ h2.1 h2.2
  unfold kv_packed at hk
  refine jm_isIn hx (by omega) (by omega) (jn_if (fun hno => ?_) (fun hyx => jm_isIn hk0 (by omega) (by omega) (jn_if (fun hno => ?_) (fun hyk => ?_))))
  · rw [if_neg (fun q => hno q.1)] at hk; exact hk
  · rw [if_neg (fun q => hno q.2)] at hk; exact hk
  rw [if_pos ⟨hyx, hyk⟩] at hk
  have hp := hM.2.2.2.2.2.2 x hyx.1 (by omega)
  have hr := hI.2.2.1 x
  rw [jr_wr hx, jr_wr hk0, hp.1, jr_wr (show jr ((ku_P g).2.2.1 x) by omega)]
  refine ⟨by omega, jn_ite (fun hz => ?_) (fun hz => jn_ite (fun h0 => ⟨by omega, ?_⟩) (fun h0 => ⟨by omega, ?_⟩))⟩
  · rw [if_pos hz] at hk; exact hk
  · rw [if_neg hz, if_pos h0] at hk; exact hk
  · rw [if_neg hz, if_neg h0] at hk
    rw [hp.2 hz]; exact hk
theorem ku_TL (h : ku_CG σ T g) : jn_TL σ T (ku_n g) (kv_lm g) := by
  have hw := h.2.1.1.1.1.1
  obtain ⟨n1, n2, n3⟩ := ku_CN h
  unfold kv_lm
  by_cases h0 : g 0 1 = 0
  · rw [if_pos h0]
    rcases h.2.2.1.2.2 with q | q
    · exact ⟨n1, n2, fun c hc => (q.2.2 c (by omega) (by omega)).2, fun _ => by show 0 < 4096; decide, fun _ _ => rfl⟩
    · omega
  · rw [if_neg h0]
    rcases h.2.2.1.2.2 with q | q
    · omega
    · have hI := q.2.2.1.1.1
      have e : ku_n g = (kg_S g).1 := by unfold ku_n; rw [if_neg h0]
      rw [e]
      exact jn_TL_of q.2.2.2.2.1.1.1 (by omega) q.2.2.2.2.2.2
theorem ku_CO (h : ku_MG σ g) : jn_CO σ 0 (kv_lm g) 6144 := by
  have hw := h.1.1.1.1.1
  unfold kv_lm
  rcases h.2.1.2.2 with q | q
  · rw [if_pos q.1]
    have e : jn_ls (fun _ => 0) (0 + 6144) = jn_ls (fun _ => 0) 0 := jn_ls_skip (fun j _ _ hq => by simp at hq)
    refine ⟨?_, fun _ j _ hq => by simp at hq⟩
    rw [show (6144 : Nat) = 0 + 6144 from rfl, e, q.2.2]; rfl
  · rw [if_neg (by omega)]
    exact q.2.2.2.2.2.2
theorem jc_conflicts (h : ku_CG σ T g) (hk : KI (kv_confs g) σ) : jg_CI w 2 mm_X11_conflicts [.ref 0] σ KI := by
  have sh := ku_sh h.1.1
  refine jb_X11_conflicts_0 rfl ?_
  rw [h.1.2.1]
  intro r er
  rw [show r = T by omega]
  exact ⟨sh.1, jc_X8_conflictCount sh.1 (ku_TL h) hk⟩
theorem jm_conflicts (h : ku_MG σ g) (hk : ∀ τ, jF kW_ge σ τ → τ.1 92 2 = 0 → KI (kv_confs g) τ) : jg_CI w 0 mm_X12_conflicts [.ref 92] σ KI := by
  refine jb_X12_conflicts_0 rfl ?_
  intro τ hτ
  have h2 := ku_ge2 hτ
  replace hk := hk τ h2.1 h2.2
  rw [(ku_CO (ku_MG_ge h h2.1)).1]
  exact hk
end KVC
