/-! STATE, in both -/
noncomputable def kv_lenS (v : Nat × Nat) : Int := if v = ka_no then -2 else (v.1 : Nat)
noncomputable def kv_state (g : gM) (s k : Int) : Int := if 0 ≤ s ∧ s < ku_n g then (if k = 0 then (jn_ct ((kg_S g).2.1 s).testBit 64 : Nat) else if k = 1 then (jn_ct (jn_clo g ((kg_S g).2.1 s)).testBit 64 : Nat) else if k = 2 then (if s = 0 then -2 else (kg_S g).2.2.2 s) else if k = 3 then kv_lenS (ka_VW g (kg_S g) s) else if k = 4 then (jn_ct (jn_an g (kg_S g) (kg_L g) (kg_fo g) 0 s) 8 : Nat) else -1) else -1
section KWS
variable {w : Nat} {σ τ : jg_M} {T : Nat} {g : gM} {S S' : jn_Q} {n x s k b L zN o : Int} {v : Nat × Nat} {c A : Nat} {R : Int → Int} {KV : jg_M → Prop} {KI : Int → jg_M → Prop}
theorem jn_st1_e (h : jn_st1 g S s x = some S') (h1 : 1 ≤ S.1) : S'.2.2.2 0 = S.2.2.2 0 ∧ 1 ≤ S'.1 := by
  unfold jn_st1 at h
  split at h
  · cases h; exact ⟨rfl, h1⟩
  · split at h
    · cases h; exact ⟨rfl, h1⟩
    · split at h
      · cases h
      · cases h
        refine ⟨?_, ?_⟩
        · show jn_u1 S.2.2.2 S.1 x 0 = S.2.2.2 0
          unfold jn_u1
          rw [if_neg (by omega)]
        · show 1 ≤ S.1 + 1
          omega
theorem jn_str_e : ∀ {m : Nat} {S : jn_Q} {x : Int}, jn_str g m S s x = some S' → 1 ≤ S.1 → S'.2.2.2 0 = S.2.2.2 0 ∧ 1 ≤ S'.1
  | 0, S, x, h, h1 => by
    unfold jn_str at h
    cases h
    exact ⟨rfl, h1⟩
  | m + 1, S, x, h, h1 => by
    unfold jn_str at h
    cases h2 : jn_st1 g S s x with
    | none => rw [h2] at h; cases h
    | some S2 =>
      rw [h2] at h
      have q := jn_st1_e h2 h1
      have q2 := jn_str_e (m := m) h q.2
      exact ⟨q2.1.trans q.1, q2.2⟩
theorem jn_sta_e : ∀ {m : Nat} {S : jn_Q} {s : Int}, jn_sta g m S s = some S' → 1 ≤ S.1 → S'.2.2.2 0 = S.2.2.2 0 ∧ 1 ≤ S'.1
  | 0, S, s, h, h1 => by
    unfold jn_sta at h
    cases h
    exact ⟨rfl, h1⟩
  | m + 1, S, s, h, h1 => by
    unfold jn_sta at h
    by_cases hs : s < S.1
    · rw [if_pos hs] at h
      cases h2 : jn_str g 15 S s 0 with
      | none => rw [h2] at h; cases h
      | some S2 =>
        rw [h2] at h
        have q := jn_str_e h2 h1
        have q2 := jn_sta_e (m := m) h q.2
        exact ⟨q2.1.trans q.1, q2.2⟩
    · rw [if_neg hs] at h
      cases h
      exact ⟨rfl, h1⟩
theorem jn_all_e (h : jn_all g = some S) : S.2.2.2 0 = -2 := (jn_sta_e (m := 48) h (by show (1 : Int) ≤ 1; decide)).1
theorem ka_wd_val (h : ka_wd zN R b L v) : (v = ka_no ∧ L = zN ∧ L < 0 ∧ kv_lenS v = -2) ∨ (0 ≤ L ∧ L ≤ 60 ∧ kv_lenS v = L) := by
  unfold kv_lenS
  rcases h with ⟨h1, h2, h3⟩ | ⟨h1, h2, _, _⟩
  · exact Or.inl ⟨h3, h2.2, h1, if_pos h3⟩
  · refine Or.inr ⟨by omega, by omega, ?_⟩
    rw [if_neg (fun e => by rw [e, ka_no1] at h2; omega)]
    exact h1.symm
theorem jm_itemsOf {kn : Int} (hk1 : kn = 0 ∨ kn = 1) (hs : 0 ≤ s ∧ s < 48) (hr : jn_row σ (if kn = 0 then 92 + 15 else 92 + 14) (65 * s) c) (hc : c < 4611686018427387904) (hk : KI (jn_ct c.testBit 64 : Nat) σ) : jg_CI w 0 mm_X12_itemsOf [.ref 92, .int (.ofInt s), .int (.ofInt kn)] σ KI := by
  have hloop : ∀ (m i : Nat), i + m = 65 → jg_GI w 0 mm_X12_itemsOf 5 [.ref 92, .int (.ofInt s), .int (.ofInt kn), .int (.ofInt (jn_ct c.testBit i : Nat)), .int (.ofInt (i : Int))] σ KI := by
    intro m
    induction m with
    | zero =>
      intro i hi
      refine jb_X12_itemsOf_5 rfl ?_
      rw [jr_wr (show jr (i : Int) by omega)]
      refine jn_ite (fun _ => ?_) (fun h => by omega)
      have e : jn_ct c.testBit 65 = jn_ct c.testBit 64 := jn_ct_f (m := 64) (fun q => by
        rw [Nat.testBit_lt_two_pow (Nat.lt_of_lt_of_le (show c < 2 ^ 62 from hc) (by decide))] at q
        cases q)
      rw [show i = 65 by omega, e]
      exact hk
    | succ m ih =>
      intro i hi
      have key := ih (i + 1) (by omega)
      rw [show ((i + 1 : Nat) : Int) = (i : Int) + 1 by omega] at key
      have hb := hr i (by omega)
      have hrow : ∀ A : Nat, σ.1 A (65 * s + (i : Int)) = jn_b (c.testBit i = true) → (if jg_wr (σ.1 A (65 * s + (i : Int))) = 0 then ∀ t101 : Int, t101 = ((jn_ct c.testBit i : Nat) : Int) + 0 → jg_GI w 0 mm_X12_itemsOf 5 [.ref 92, .int (.ofInt s), .int (.ofInt kn), .int (.ofInt t101), .int (.ofInt ((i : Int) + 1))] σ KI else ∀ t102 : Int, t102 = ((jn_ct c.testBit i : Nat) : Int) + 1 → jg_GI w 0 mm_X12_itemsOf 5 [.ref 92, .int (.ofInt s), .int (.ofInt kn), .int (.ofInt t102), .int (.ofInt ((i : Int) + 1))] σ KI) := fun A hA => by
        rw [hA]
        refine jn_if (fun hno => ?_) (fun hys => ?_)
        · rintro _ rfl
          rw [jn_ct_f hno] at key
          rw [Int.add_zero]
          exact key
        · rintro _ rfl
          rw [jn_ct_t hys] at key
          rw [show ((jn_ct c.testBit i : Nat) : Int) + 1 = ((jn_ct c.testBit i + 1 : Nat) : Int) by omega]
          exact key
      refine jb_X12_itemsOf_5 rfl ?_
      rw [jr_wr (show jr (i : Int) by omega), jr_wr (show jr kn by omega), jr_wr (show jr (65 * s + (i : Int)) by omega)]
      refine jn_ite (fun h => by omega) (fun _ => jn_ite (fun h0 => ⟨by omega, ?_⟩) (fun h1 => ⟨by omega, ?_⟩))
      · rw [if_pos h0] at hb; exact hrow _ hb
      · rw [if_neg h1] at hb; exact hrow _ hb
  exact jb_X12_itemsOf_0 rfl (hloop 65 0 rfl)
theorem jc_state (h : ku_CG σ T g) (hs : jr s) (hk0 : jr k) (hk : KI (kv_state g s k) σ) : jg_CI w 3 mm_X11_state [.ref 0, .int (.ofInt s), .int (.ofInt k)] σ KI := by
  have sh := ku_sh h.1.1
  have hW := h.2.1.1.1.1
  have hw := hW.1
  obtain ⟨n1, n2, n3⟩ := ku_CN h
  unfold kv_state at hk
  refine jb_X11_state_0 rfl ?_
  rw [h.1.2.1]
  intro r er
  rw [show r = T by omega]
  refine ⟨sh.1, jc_X7_has sh.2.1 n1 n2 hs (jn_if (fun hno => ?_) (fun hys => ?_))⟩
  · rw [if_neg hno] at hk; exact hk
  rw [if_pos hys] at hk
  obtain ⟨n4, n5, nF, _⟩ := n3 (by omega)
  have hCT : jn_all g = some (kg_S g) ∧ jn_Fx σ (T + 10) g (kg_e g) (kg_f g) (kg_S g) ∧ jn_TC σ T g (kg_S g) (kg_L g) (kg_fo g) 0 := by
    rcases h.2.2.1.2.2 with q | q
    · omega
    · exact ⟨q.2.1, q.2.2.2.2.1, q.2.2.2.2.2.2⟩
  have hrc := hCT.2.1.1.2 s hys.1 (by omega)
  have hvs := nF.1.2.1 s hys.1 (by omega)
  have hvc := jn_clo_vs hW hvs
  rw [jr_wr hs, jr_wr hk0]
  refine jn_ite (fun e0 => ⟨by omega, ?_⟩) (fun q0 => jn_ite (fun e1 => ⟨by omega, ?_⟩) (fun q1 => jn_ite (fun e2 => ⟨by omega, ?_⟩) (fun q2 => jn_ite (fun e3 => ⟨by omega, ?_⟩) (fun q3 => jn_ite (fun e4 => ?_) (fun q4 => ?_)))))
  · rw [if_pos e0] at hk
    rw [hrc.1]
    exact jc_bitCountL hvs.1 hk
  · rw [if_neg q0, if_pos e1] at hk
    rw [hrc.2.1]
    exact jc_bitCountL hvc.1 hk
  · rw [if_neg q0, if_neg q1, if_pos e2] at hk
    rw [hrc.2.2]
    by_cases hz : s = 0
    · rw [if_pos hz] at hk
      rw [hz, jn_all_e hCT.1]
      exact hk
    · rw [if_neg hz] at hk; exact hk
  · rw [if_neg q0, if_neg q1, if_neg q2, if_pos e3] at hk
    have hXS := h.2.2.2.2.1.2
    rcases hXS with q | ⟨_, S, s1, s2⟩
    · omega
    · have hSe := kg_S_eq s1
      rw [hSe] at s2
      have hv := ka_wd_val (s2 s hys.1 (by omega))
      rw [show σ.1 (0 + 55 + 2) s = kv_lenS (ka_VW g (kg_S g) s) by
        rcases hv with q | q
        · rw [q.2.2.2, ← q.2.1]
        · rw [q.2.2]]
      exact hk
  · rw [if_neg q0, if_neg q1, if_neg q2, if_neg q3, if_pos e4] at hk
    rw [h.1.2.1]
    intro r er
    rw [show r = T by omega]
    exact ⟨sh.1, jc_X8_actionsIn sh.1 sh.2.1 hW (n1.trans n5) nF hCT.2.2 ⟨hys.1, by omega⟩ hk⟩
  · rw [if_neg q0, if_neg q1, if_neg q2, if_neg q3, if_neg q4] at hk; exact hk
theorem jm_state (h : ku_MG σ g) (hs : jr s) (hk0 : jr k) (hk : ∀ τ, jF kW_ge σ τ → τ.1 92 2 = 0 → KI (kv_state g s k) τ) : jg_CI w 1 mm_X12_state [.ref 92, .int (.ofInt s), .int (.ofInt k)] σ KI := by
  have hW := h.1.1.1.1
  have hw := hW.1
  refine jb_X12_state_0 rfl ?_
  intro τ hτ
  have h2 := ku_ge2 hτ
  have hM := ku_MG_ge h h2.1
  replace hk := hk τ h2.1 h2.2
  obtain ⟨n1, n2, n3⟩ := ku_MN hM
  unfold kv_state at hk
  refine jm_isState n1 (by omega) ?_
  rw [jr_wr hs]
  refine jn_if (fun hno => ?_) (fun hys => ?_)
  · rw [if_neg hno] at hk; exact hk
  rw [if_pos hys] at hk
  obtain ⟨n4, n5, nF, _⟩ := n3 (by omega)
  have hMT : jn_all g = some (kg_S g) ∧ jn_RK τ 0 g (kg_S g) ∧ jn_MC τ 0 g (kg_S g) (kg_L g) (kg_fo g) 0 := by
    rcases hM.2.1.2.2 with q | q
    · omega
    · exact ⟨q.2.1, q.2.2.2.1, q.2.2.2.2.2⟩
  have hrk := hMT.2.1.2.1 s hys.1 (by omega)
  rw [show 65 * (48 * (0 : Int) + s) = 65 * s by omega, show 48 * (0 : Int) + s = s by omega] at hrk
  have hvs := nF.1.2.1 s hys.1 (by omega)
  have hvc := jn_clo_vs hW hvs
  rw [jr_wr hk0]
  refine jn_ite (fun e0 => ?_) (fun q0 => jn_ite (fun e1 => ?_) (fun q1 => jn_ite (fun e2 => ?_) (fun q2 => jn_ite (fun e3 => ?_) (fun q3 => jn_ite (fun e4 => ?_) (fun q4 => ?_)))))
  · rw [if_pos e0] at hk
    exact jm_itemsOf (Or.inr rfl) ⟨hys.1, by omega⟩ (by rw [if_neg (by decide)]; exact hrk.1) hvs.1 hk
  · rw [if_neg q0, if_pos e1] at hk
    exact jm_itemsOf (Or.inl rfl) ⟨hys.1, by omega⟩ (by rw [if_pos rfl]; exact hrk.2.1) hvc.1 hk
  · rw [if_neg q0, if_neg q1, if_pos e2] at hk
    refine jn_ite (fun hz => ?_) (fun hz => ⟨by omega, ?_⟩)
    · rw [if_pos hz] at hk; exact hk
    · rw [if_neg hz] at hk
      have hen := nF.2.2.1 s (by omega) (by omega)
      rw [hrk.2.2]
      refine jb_X12_symbolOf_0 ?_
      rcases hen with q | q
      · have e : jn_mx ((kg_S g).2.2.2 s) = (kg_S g).2.2.2 s := by unfold jn_mx; rw [if_neg (by omega), if_pos (by omega)]
        rw [e, jr_wr (show jr ((kg_S g).2.2.2 s) by omega)]
        exact jn_ite (fun h => by omega) (fun _ => hk)
      · have e : jn_mx ((kg_S g).2.2.2 s) = (kg_S g).2.2.2 s - 3 := by unfold jn_mx; rw [if_neg (by omega), if_neg (by omega)]
        rw [e, jr_wr (show jr ((kg_S g).2.2.2 s - 3) by omega)]
        refine jn_ite (fun _ => ?_) (fun h => by omega)
        rw [show (kg_S g).2.2.2 s - 3 + 3 = (kg_S g).2.2.2 s by omega]
        exact hk
  · rw [if_neg q0, if_neg q1, if_neg q2, if_pos e3] at hk
    have hXM := hM.2.2.2.1.2
    rcases hXM with q | ⟨_, S, s1, s2⟩
    · omega
    · have hSe := kg_S_eq s1
      rw [hSe] at s2
      have hv := ka_wd_val (s2 s hys.1 (by omega))
      rw [jr_wr (show jr (τ.1 (92 + 31) s) by rcases hv with q | q <;> omega)]
      refine ⟨by omega, jn_ite (fun hp => ⟨by omega, ?_⟩) (fun hn => ?_)⟩
      · rcases hv with q | q
        · omega
        · rw [q.2.2] at hk; exact hk
      · rcases hv with q | q
        · rw [q.2.2.2] at hk; exact hk
        · omega
  · rw [if_neg q0, if_neg q1, if_neg q2, if_neg q3, if_pos e4] at hk
    exact jm_actionsOf hW hM.1.2.1.2.1 nF hMT.2.2 ⟨hys.1, by omega⟩ hk
  · rw [if_neg q0, if_neg q1, if_neg q2, if_neg q3, if_neg q4] at hk; exact hk
end KWS
