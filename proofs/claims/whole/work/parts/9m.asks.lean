/-! Asking, in both: names, tokens, rules, actions, moves -/
noncomputable def ku_n (g : gM) : Int := if g 0 1 = 0 then 0 else (kg_S g).1
def kW_ge (c : Nat) (i : Int) : Prop := c = 92 ∧ (i = 2 ∨ (33 ≤ i ∧ i ≤ 38))
noncomputable def kv_token (g : gM) (x y : Int) : Int := if 0 ≤ x ∧ x < g 0 0 then (if y = 0 then g 1 x else if y = 1 then g 2 x else -1) else -1
noncomputable def kv_action (g : gM) (s t : Int) : Int := if (0 ≤ s ∧ s < ku_n g) ∧ 0 ≤ t ∧ t ≤ g 0 0 then kr_ac g s t else -1
noncomputable def kv_move (g : gM) (s x : Int) : Int := @ite Int ((0 ≤ s ∧ s < ku_n g) ∧ jn_isS g x) (Classical.propDecidable _) (jn_m2 (kr_mv g s x)) (-1)
noncomputable def kv_rule (g : gM) (r k : Int) : Int := if (0 ≤ r ∧ r < g 0 2) ∧ 0 ≤ k ∧ k ≤ 6 then (if k = 0 then g 3 r else if k = 1 then g 4 r else if k = 6 then jn_rk g r (jn_len g r).toNat else jn_sym g r (k - 2)) else -1
section KVA
variable {w : Nat} {σ τ : jg_M} {T : Nat} {g : gM} {n x y s t r k : Int} {KV : jg_M → Prop} {KI : Int → jg_M → Prop}
theorem ku_CN (h : ku_CG σ T g) : σ.1 (T + 10) 0 = ku_n g ∧ (0 ≤ ku_n g ∧ ku_n g ≤ 48) ∧ (0 < ku_n g → 0 < g 0 1 ∧ ku_n g = (kg_S g).1 ∧ jn_FP g (kg_S g) ∧ kr_CV σ T g) := by
  have hW := h.2.1.1.1.1
  have hw := hW.1
  unfold ku_n
  by_cases h0 : g 0 1 = 0
  · rw [if_pos h0]
    rcases h.2.2.1.2.2 with q | q
    · exact ⟨q.2.1, by decide, fun h => absurd h (by decide)⟩
    · omega
  · rw [if_neg h0]
    obtain ⟨q1, q2, q3⟩ := kr_CV_of hW h.2.2.1 (by omega)
    have hI := q2.1.1
    exact ⟨q1.2.1, by omega, fun _ => ⟨by omega, rfl, q2, q1⟩⟩
theorem ku_MN (h : ku_MG σ g) : σ.1 (92 + 13) 0 = ku_n g ∧ (0 ≤ ku_n g ∧ ku_n g ≤ 48) ∧ (0 < ku_n g → 0 < g 0 1 ∧ ku_n g = (kg_S g).1 ∧ jn_FP g (kg_S g) ∧ (∀ s x, 0 ≤ s → s < (kg_S g).1 → 0 ≤ x → x < 12 → σ.1 (92 + 16) (12 * s + x) = kr_mv g s (jn_sy x)) ∧ ∀ s t, 0 ≤ s → s < (kg_S g).1 → 0 ≤ t → t ≤ g 0 0 → σ.1 (92 + 19) (8 * s + t) = kr_ac g s t) := by
  have hw := h.1.1.1.1.1
  unfold ku_n
  rcases h.2.1.2.2 with q | ⟨q1, q2, q3, q4, q5, q6⟩
  · rw [if_pos q.1]
    exact ⟨q.2.1, by decide, fun h => absurd h (by decide)⟩
  · rw [if_neg (by omega)]
    have hI := q3.1.1
    refine ⟨q4.1, by omega, fun _ => ⟨q1, rfl, q3, fun s x s0 s1 x0 x1 => ?_, fun s t s0 s1 t0 t1 => ?_⟩⟩
    · have := q4.2.2 s x s0 s1 x0 x1
      rw [show 12 * (48 * (0 : Int) + s) + x = 12 * s + x by omega] at this
      exact this
    · have := q6.1 s t s0 s1 t0 t1
      rw [show 8 * (48 * (0 : Int) + s) + t = 8 * s + t by omega] at this
      exact this
theorem ku_MG_ge (h : ku_MG σ g) (hf : jF kW_ge σ τ) : ku_MG τ g := ku_MG_fr h hf (fun c i q1 q2 => by unfold kW_mg kW_m0 at q1; unfold kW_ge at q2; omega)
theorem ku_wr_lo (h1 : -2147483648 ≤ x) (h2 : x < -2147483638) : jg_wr (x - 10) = x - 10 + 4294967296 := by
  unfold jg_wr
  rw [Int32.toInt_ofInt, Int.bmod_def]
  show (if (x - 10) % ((4294967296 : Nat) : Int) < (((4294967296 : Nat) : Int) + 1) / 2 then (x - 10) % ((4294967296 : Nat) : Int) else (x - 10) % ((4294967296 : Nat) : Int) - ((4294967296 : Nat) : Int)) = _
  split <;> omega
theorem jm_isToken (hn : σ.1 (92 + 3) 0 = n) (hn2 : 0 ≤ n ∧ n ≤ 1000) (hk : KI (jn_b (0 ≤ jg_wr x ∧ jg_wr x < n)) σ) : jg_CI w 0 mm_X12_isToken [.ref 92, .int (.ofInt x)] σ KI := by
  refine jb_X12_isToken_0 rfl ?_
  rw [hn, jr_wr (show jr n by omega)]
  refine jn_ite (fun h => ?_) (fun h1 => jn_ite (fun h => ?_) (fun h2 => ?_))
  · rw [jn_b_f (by omega)] at hk; exact hk
  · rw [jn_b_f (by omega)] at hk; exact hk
  · rw [jn_b_t (by omega)] at hk; exact hk
theorem jm_isKind (hn : σ.1 (92 + 4) 0 = n) (hn2 : 0 ≤ n ∧ n ≤ 1000) (hk : KI (jn_b (0 ≤ jg_wr x ∧ jg_wr x < n)) σ) : jg_CI w 0 mm_X12_isKind [.ref 92, .int (.ofInt x)] σ KI := by
  refine jb_X12_isKind_0 rfl ?_
  rw [hn, jr_wr (show jr n by omega)]
  refine jn_ite (fun h => ?_) (fun h1 => jn_ite (fun h => ?_) (fun h2 => ?_))
  · rw [jn_b_f (by omega)] at hk; exact hk
  · rw [jn_b_f (by omega)] at hk; exact hk
  · rw [jn_b_t (by omega)] at hk; exact hk
theorem jm_isRule (hn : σ.1 (92 + 5) 0 = n) (hn2 : 0 ≤ n ∧ n ≤ 1000) (hk : KI (jn_b (0 ≤ jg_wr x ∧ jg_wr x < n)) σ) : jg_CI w 0 mm_X12_isRule [.ref 92, .int (.ofInt x)] σ KI := by
  refine jb_X12_isRule_0 rfl ?_
  rw [hn, jr_wr (show jr n by omega)]
  refine jn_ite (fun h => ?_) (fun h1 => jn_ite (fun h => ?_) (fun h2 => ?_))
  · rw [jn_b_f (by omega)] at hk; exact hk
  · rw [jn_b_f (by omega)] at hk; exact hk
  · rw [jn_b_t (by omega)] at hk; exact hk
theorem jm_isState (hn : σ.1 (92 + 13) 0 = n) (hn2 : 0 ≤ n ∧ n ≤ 1000) (hk : KI (jn_b (0 ≤ jg_wr x ∧ jg_wr x < n)) σ) : jg_CI w 0 mm_X12_isState [.ref 92, .int (.ofInt x)] σ KI := by
  refine jb_X12_isState_0 rfl ?_
  rw [hn, jr_wr (show jr n by omega)]
  refine jn_ite (fun h => ?_) (fun h1 => jn_ite (fun h => ?_) (fun h2 => ?_))
  · rw [jn_b_f (by omega)] at hk; exact hk
  · rw [jn_b_f (by omega)] at hk; exact hk
  · rw [jn_b_t (by omega)] at hk; exact hk
theorem ku_sh (h : T = 4 ∨ T = 26) : jg_sh T = (8, 0) ∧ jg_sh (T + 10) = (7, 0) ∧ jg_sh (T + 1) = (0, 0) := by rcases h with rfl | rfl <;> exact ⟨rfl, rfl, rfl⟩
theorem ku_ge2 (h : τ = jg_sI σ 92 2 0) : jF kW_ge σ τ ∧ τ.1 92 2 = 0 := by rw [h]; exact ⟨jF_I ⟨rfl, Or.inl rfl⟩, js_Is⟩
theorem jc_named (h : ku_CG σ T g) (hx : jr x) (hk : KI (kt_fd g x) σ) : jg_CI w 3 mm_X11_named [.ref 0, .int (.ofInt x)] σ KI := by
  have s := ku_sh h.1.1
  refine jb_X11_named_0 rfl ?_
  rw [h.1.2.1]
  intro r er
  rw [show r = T by omega]
  exact ⟨s.1, jc_symbolNamed s.2.2 h.2.1.2 (Int.le_refl _) h.2.1.1 hx hk⟩
theorem jm_named (h : ku_MG σ g) (hx : jr x) (hk : ∀ τ, jF kW_ge σ τ → τ.1 92 2 = 0 → KI (kt_fd g x) τ) : jg_CI w 2 mm_X12_named [.ref 92, .int (.ofInt x)] σ KI := by
  refine jb_X12_named_0 rfl ?_
  intro τ hτ
  have h2 := ku_ge2 hτ
  exact jm_symbolBy (ku_MG_ge h h2.1).1.2 h.1.1 hx (hk τ h2.1 h2.2)
theorem jc_token (h : ku_CG σ T g) (hx : jr x) (hy : jr y) (hk : KI (kv_token g x y) σ) : jg_CI w 1 mm_X11_token [.ref 0, .int (.ofInt x), .int (.ofInt y)] σ KI := by
  have s := ku_sh h.1.1
  have hw := h.2.1.1.1.1.1
  have hG := h.2.1.2
  unfold kv_token at hk
  refine jb_X11_token_0 rfl ?_
  rw [h.1.2.1]
  intro r er
  rw [show r = T by omega]
  refine ⟨s.1, jc_X0_hasToken s.2.2 h.2.2.1.1.1 h.2.1.1.1.1 hx (jn_if (fun hno => ?_) (fun hyes => ?_))⟩
  · rw [if_neg hno] at hk; exact hk
  · rw [if_pos hyes] at hk
    rw [jr_wr hx, jr_wr hy, (hG.2.2.1 x hyes.1 (by omega)).1, (hG.2.2.1 x hyes.1 (by omega)).2]
    refine jn_ite (fun e => ?_) (fun e => jn_ite (fun e2 => ?_) (fun e2 => ?_))
    · rw [if_pos e] at hk; exact ⟨by omega, hk⟩
    · rw [if_neg e, if_pos e2] at hk; exact ⟨by omega, hk⟩
    · rw [if_neg e, if_neg e2] at hk; exact hk
theorem jm_token (h : ku_MG σ g) (hx : jr x) (hy : jr y) (hk : ∀ τ, jF kW_ge σ τ → τ.1 92 2 = 0 → KI (kv_token g x y) τ) : jg_CI w 1 mm_X12_token [.ref 92, .int (.ofInt x), .int (.ofInt y)] σ KI := by
  have hw := h.1.1.1.1.1
  refine jb_X12_token_0 rfl ?_
  intro τ hτ
  have h2 := ku_ge2 hτ
  have hG := (ku_MG_ge h h2.1).1.2
  replace hk := hk τ h2.1 h2.2
  unfold kv_token at hk
  refine jm_isToken (n := g 0 0) hG.1.2.1 (by omega) (jn_if (fun hno => ?_) (fun hyes => ?_)) <;> rw [jr_wr hx] at *
  · rw [if_neg hno] at hk; exact hk
  · rw [if_pos hyes] at hk
    have q := hG.2.2.1 x hyes.1 (by omega)
    rw [show 7 * (0 : Int) + x = x by omega] at q
    rw [jr_wr hy, q.1, q.2]
    refine jn_ite (fun e => ?_) (fun e => jn_ite (fun e2 => ?_) (fun e2 => ?_))
    · rw [if_pos e] at hk; exact ⟨by omega, hk⟩
    · rw [if_neg e, if_pos e2] at hk; exact ⟨by omega, hk⟩
    · rw [if_neg e, if_neg e2] at hk; exact hk
theorem jc_action (h : ku_CG σ T g) (hs : jr s) (ht : jr t) (hk : KI (kv_action g s t) σ) : jg_CI w 2 mm_X11_action [.ref 0, .int (.ofInt s), .int (.ofInt t)] σ KI := by
  have sh := ku_sh h.1.1
  have hw := h.2.1.1.1.1.1
  obtain ⟨n1, n2, n3⟩ := ku_CN h
  unfold kv_action at hk
  refine jb_X11_action_0 rfl ?_
  rw [h.1.2.1]
  intro r er
  rw [show r = T by omega]
  refine ⟨sh.1, jc_X7_has sh.2.1 n1 n2 hs (jn_if (fun hno => ?_) (fun hyes => ?_))⟩
  · rw [if_neg (fun q => hno q.1)] at hk; exact hk
  rw [h.1.2.1]
  intro r2 er2
  rw [show r2 = T by omega]
  refine ⟨sh.1, jc_X0_hasTerminal sh.2.2 h.2.2.1.1.1 h.2.1.1.1.1 ht (jn_if (fun hno => ?_) (fun hyt => ?_))⟩
  · rw [if_neg (fun q => hno q.2)] at hk; exact hk
  rw [h.1.2.1]
  intro r3 er3
  rw [show r3 = T by omega]
  obtain ⟨_, n4, _, n5⟩ := n3 (by omega)
  refine ⟨sh.1, jc_X8_actionFor sh.1 sh.2.1 n1 n2 hs ht ?_⟩
  rw [if_pos ⟨hyes, hyt⟩] at hk
  rw [if_pos ⟨hyes, by omega, by omega⟩, n5.2.2.2 s t hyes.1 (by omega) hyt.1 hyt.2]
  exact hk
theorem jm_action (h : ku_MG σ g) (hs : jr s) (ht : jr t) (hk : ∀ τ, jF kW_ge σ τ → τ.1 92 2 = 0 → KI (kv_action g s t) τ) : jg_CI w 1 mm_X12_action [.ref 92, .int (.ofInt s), .int (.ofInt t)] σ KI := by
  have hw := h.1.1.1.1.1
  refine jb_X12_action_0 rfl ?_
  intro τ hτ
  have h2 := ku_ge2 hτ
  have hM := ku_MG_ge h h2.1
  obtain ⟨n1, n2, n3⟩ := ku_MN hM
  replace hk := hk τ h2.1 h2.2
  unfold kv_action at hk
  refine jm_isState n1 (by omega) (jn_if (fun hno => ?_) (fun hyes => ?_)) <;> rw [jr_wr hs] at *
  · rw [if_neg (fun q => hno q.1)] at hk; exact hk
  rw [hM.1.2.1.2.1]
  refine jm_isIn ht (by omega) (by omega) (jn_if (fun hno => ?_) (fun hyt => ?_))
  · rw [if_neg (fun q => hno q.2)] at hk; exact hk
  obtain ⟨_, n4, _, _, n5⟩ := n3 (by omega)
  rw [if_pos ⟨hyes, hyt⟩] at hk
  rw [jr_wr (show jr (8 * s + t) by omega), n5 s t hyes.1 (by omega) hyt.1 hyt.2]
  exact ⟨by omega, hk⟩
theorem jc_move (h : ku_CG σ T g) (hs : jr s) (hx : jr x) (hk : KI (kv_move g s x) σ) : jg_CI w 2 mm_X11_move [.ref 0, .int (.ofInt s), .int (.ofInt x)] σ KI := by
  have sh := ku_sh h.1.1
  obtain ⟨n1, n2, n3⟩ := ku_CN h
  unfold kv_move at hk
  refine jb_X11_move_0 rfl ?_
  rw [h.1.2.1]
  intro r er
  rw [show r = T by omega]
  refine ⟨sh.1, jc_X7_has sh.2.1 n1 n2 hs (jn_if (fun hno => ?_) (fun hyes => ?_))⟩
  · rw [if_neg (fun q => hno q.1)] at hk; exact hk
  rw [h.1.2.1]
  intro r2 er2
  rw [show r2 = T by omega]
  refine ⟨sh.1, jc_X0_hasSymbol sh.2.2 h.2.2.1.1.1 h.2.1.1.1.1 hx (jn_if (fun hno => ?_) (fun hyt => ?_))⟩
  · rw [if_neg (fun q => hno q.2)] at hk; exact hk
  rw [h.1.2.1]
  intro r3 er3
  rw [show r3 = T by omega]
  obtain ⟨_, n4, _, n5⟩ := n3 (by omega)
  have hS := kt_jrS h.2.1.1.1.1 hyt
  refine ⟨sh.1, jc_X7_moveBy sh.2.1 n1 n2 hs hx ?_⟩
  rw [if_pos ⟨hyes, hyt⟩] at hk
  rw [if_pos ⟨hyes, hS⟩, show T + 10 + 4 = T + 14 from rfl, n5.2.2.1 s x hyes.1 (by omega) hS.1 hS.2]
  exact hk
theorem jm_noneAsTwo (hx : jr x) (hk : KI (jn_m2 x) σ) : jg_CI w 0 mm_X12_noneAsTwo [.int (.ofInt x)] σ KI := by
  refine jb_X12_noneAsTwo_0 ?_
  rw [jr_wr hx]
  unfold jn_m2 at hk
  refine jn_ite (fun h => ?_) (fun h => ?_)
  · rw [if_neg (by omega)] at hk; exact hk
  · rw [if_pos (by omega)] at hk; exact hk
theorem jm_move (h : ku_MG σ g) (hs : jr s) (hx : jr x) (hk : ∀ τ, jF kW_ge σ τ → τ.1 92 2 = 0 → KI (kv_move g s x) τ) : jg_CI w 1 mm_X12_move [.ref 92, .int (.ofInt s), .int (.ofInt x)] σ KI := by
  have hw := h.1.1.1.1.1
  refine jb_X12_move_0 rfl ?_
  intro τ hτ
  have h2 := ku_ge2 hτ
  have hM := ku_MG_ge h h2.1
  obtain ⟨n1, n2, n3⟩ := ku_MN hM
  replace hk := hk τ h2.1 h2.2
  unfold kv_move at hk
  refine jm_isState n1 (by omega) (jn_if (fun hno => ?_) (fun hyes => ?_)) <;> rw [jr_wr hs] at *
  · rw [if_neg (fun q => hno q.1)] at hk; exact hk
  obtain ⟨_, n4, nF, n5, _⟩ := n3 (by omega)
  have hmv : ∀ y, 0 ≤ y → y < 15 → jr (kr_mv g s y) := fun y y0 y1 => by
    have := nF.2.1 s y hyes.1 (by omega) y0 y1
    have hI := nF.1.1
    have e : kr_mv g s y = (kg_S g).2.2.1 s y := rfl
    omega
  refine jm_isToken (n := g 0 0) hM.1.2.1.2.1 (by omega) (jn_if (fun hno => ?_) (fun hyt => ?_)) <;> rw [jr_wr hx] at *
  · refine jm_isKind (n := g 0 1) hM.1.2.1.2.2.1 (by omega) (jn_if (fun hnk => ?_) (fun hyk => ?_))
    · rw [if_neg (fun q => ?_)] at hk
      · exact hk
      · have hq := q.2
        unfold jn_isS at hq
        rw [jr_wr (show jr (x - 10) by omega)] at hnk
        omega
    · have hx10 : 10 ≤ x ∧ x < 10 + g 0 1 := by
        by_cases hlo : x < -2147483638
        · rw [ku_wr_lo hx.1 hlo] at hyk
          have := hx.1
          omega
        · rw [jr_wr (show jr (x - 10) by omega)] at hyk
          omega
      rw [if_pos ⟨hyes, Or.inr hx10⟩] at hk
      have e : jn_sy (x - 3) = x := by unfold jn_sy; rw [if_neg (by omega)]; omega
      refine jn_ite (fun _ => ?_) (fun h => by omega)
      rw [jr_wr (show jr (12 * s + (x - 3)) by omega), n5 s (x - 3) hyes.1 (by omega) (by omega) (by omega), e]
      exact ⟨by omega, jm_noneAsTwo (hmv x (by omega) (by omega)) hk⟩
  · rw [if_pos ⟨hyes, Or.inl hyt⟩] at hk
    have e : jn_sy x = x := by unfold jn_sy; rw [if_pos (by omega)]
    refine jn_ite (fun h => by omega) (fun _ => ?_)
    rw [jr_wr (show jr (12 * s + x) by omega), n5 s x hyes.1 (by omega) (by omega) (by omega), e]
    exact ⟨by omega, jm_noneAsTwo (hmv x (by omega) (by omega)) hk⟩
end KVA
