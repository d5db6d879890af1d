/-! COUNT, in both -/
noncomputable def kv_kb (N : kn_N) : Int := if N.1.2 = -1 then (N.1.1 : Nat) else N.1.2
noncomputable def kv_items (g : gM) : Int := (jn_sum (fun s => jn_ct (jn_clo g ((kg_S g).2.1 (s : Int))).testBit 64) (ku_n g).toNat : Nat)
noncomputable def kv_moves (g : gM) : Int := (jn_sum (fun s => jn_ct (jn_mo (kg_S g) s) 15) (ku_n g).toNat : Nat)
noncomputable def kv_acts (g : gM) : Int := (jn_sum (fun s => jn_ct (jn_an g (kg_S g) (kg_L g) (kg_fo g) 0 (s : Int)) 8) (ku_n g).toNat : Nat)
noncomputable def kv_count (g : gM) (K : kr_K) (rd tk : Int) (N : kn_N) (c : Nat) (x : Int) : Int :=
  if x = 0 then g 0 0 else if x = 1 then g 0 1 else if x = 2 then g 0 2 else if x = 3 then ku_n g else if x = 4 then kv_items g else if x = 5 then kv_moves g else if x = 6 then kv_acts g else if x = 7 then rd else if x = 8 then tk else if x = 9 then (K.1 : Nat) else if x = 10 then (ku_P g).1 else if x = 11 then (N.1.1 : Nat) else if x = 12 then kv_kb N else if x = 13 then (c : Nat) else -1
section KCA
variable {w : Nat} {σ τ : jg_M} {T A n m c : Nat} {g : gM} {K : kr_K} {N : kn_N} {S : jn_Q} {h : kz_H} {pl : Int → Int → Int} {x rd tk : Int} {KV : jg_M → Prop} {KI : Int → jg_M → Prop}
theorem jc_itemsInAll (h0 : jg_sh A = (7, 0)) (hW : jn_GW g) (hX : jn_RC σ A g S) (hF : jn_FP g S) (hk : KI (jn_sum (fun s => jn_ct (jn_clo g (S.2.1 (s : Int))).testBit 64) S.1.toNat : Nat) σ) : jg_CI w 1 mm_X7_itemsInAll [.ref A] σ KI := by
  have hI := hF.1.1
  have hloop : ∀ (m s : Nat), (s : Int) + m = S.1 → jg_GI w 1 mm_X7_itemsInAll 4 [.ref A, .int (.ofInt (jn_sum (fun s => jn_ct (jn_clo g (S.2.1 (s : Int))).testBit 64) s : Nat)), .int (.ofInt (s : Int))] σ KI := by
    intro m
    induction m with
    | zero =>
      intro s hs
      refine jb_X7_itemsInAll_4 h0 ?_
      rw [hX.1, jr_wr (show jr S.1 by omega), jr_wr (show jr (s : Int) by omega)]
      refine jn_ite (fun _ => ?_) (fun q => by omega)
      rw [show s = S.1.toNat by omega]
      exact hk
    | succ m ih =>
      intro s hs
      refine jb_X7_itemsInAll_4 h0 ?_
      rw [hX.1, jr_wr (show jr S.1 by omega), jr_wr (show jr (s : Int) by omega), (hX.2 (s : Int) (by omega) (by omega)).2.1]
      refine jn_ite (fun q => by omega) (fun _ => jn_ite (fun q => by omega) (fun _ => ⟨by omega, jc_bitCountL (jn_clo_vs hW (hF.1.2.1 (s : Int) (by omega) (by omega))).1 ?_⟩))
      rintro _ rfl
      have key := ih (s + 1) (by omega)
      rw [show ((s + 1 : Nat) : Int) = (s : Int) + 1 by omega] at key
      rw [← Int.natCast_add]
      exact key
  exact jb_X7_itemsInAll_0 h0 (hloop S.1.toNat 0 (by omega))
theorem kc_none : jn_sum (fun s => jn_ct (jn_clo g (S.2.1 (s : Int))).testBit 64) (0 : Int).toNat = 0 := rfl
theorem jc_count (hG : ku_CG σ T g) (hC : kz_C σ 65 K rd tk) (hN : kn_C pl σ N) (hR : kz_RC σ c h) (hx : jr x) (hk : KI (kv_count g K rd tk N c x) σ) : jg_CI w 4 mm_X11_count [.ref 0, .int (.ofInt x)] σ KI := by
  have sh := ku_sh hG.1.1
  have hW := hG.2.1.1.1.1
  have hw := hW.1
  obtain ⟨n1, n2, n3⟩ := ku_CN hG
  unfold kv_count at hk
  refine jb_X11_count_0 rfl ?_
  rw [jr_wr hx, hG.1.2.1]
  have hr : ∀ r : Nat, r = ((T : Nat) : Int).toNat → r = T := fun r e => by omega
  have hz : ∀ A2 : Nat, A2 = T + 10 → ku_n g = 0 → σ.1 A2 0 = 0 := fun A2 e q => by rw [e, n1, q]
  refine jn_ite (fun e => ?_) (fun q0 => jn_ite (fun e => ?_) (fun q1 => jn_ite (fun e => ?_) (fun q2 => jn_ite (fun e => ?_) (fun q3 => jn_ite (fun e => ?_) (fun q4 => jn_ite (fun e => ?_) (fun q5 => jn_ite (fun e => ?_) (fun q6 => jn_ite (fun e => ?_) (fun q7 => jn_ite (fun e => ?_) (fun q8 => jn_ite (fun e => ?_) (fun q9 => jn_ite (fun e => ?_) (fun q10 => jn_ite (fun e => ?_) (fun q11 => jn_ite (fun e => ?_) (fun q12 => jn_ite (fun e => ?_) (fun q13 => ?_))))))))))))))
  · rw [if_pos e] at hk
    intro r er; rw [hr r er]
    refine ⟨sh.1, ?_⟩
    rw [hG.2.1.2.1.1]; exact hk
  · rw [if_neg q0, if_pos e] at hk
    intro r er; rw [hr r er]
    refine ⟨sh.1, ?_⟩
    rw [hG.2.1.2.1.2.1]; exact hk
  · rw [if_neg q0, if_neg q1, if_pos e] at hk
    intro r er; rw [hr r er]
    refine ⟨sh.1, ?_⟩
    rw [hG.2.1.2.1.2.2.1]; exact hk
  · rw [if_neg q0, if_neg q1, if_neg q2, if_pos e] at hk
    intro r er; rw [hr r er]
    refine ⟨sh.1, ?_⟩
    rw [n1]; exact hk
  · rw [if_neg q0, if_neg q1, if_neg q2, if_neg q3, if_pos e] at hk
    intro r er; rw [hr r er]
    refine ⟨sh.1, ?_⟩
    by_cases h0 : 0 < ku_n g
    · obtain ⟨n4, n5, nF, _⟩ := n3 h0
      rcases hG.2.2.1.2.2 with q | q
      · omega
      · unfold kv_items at hk
        rw [n5] at hk
        exact jc_itemsInAll sh.2.1 hW q.2.2.2.2.1.1 nF hk
    · have h00 : ku_n g = 0 := by omega
      unfold kv_items at hk
      rw [h00] at hk
      refine jb_X7_itemsInAll_0 sh.2.1 (jb_X7_itemsInAll_4 sh.2.1 ?_)
      rw [n1, h00]
      exact jn_ite (fun _ => hk) (fun q => absurd (by decide) q)
  · rw [if_neg q0, if_neg q1, if_neg q2, if_neg q3, if_neg q4, if_pos e] at hk
    intro r er; rw [hr r er]
    refine ⟨sh.1, ?_⟩
    by_cases h0 : 0 < ku_n g
    · obtain ⟨n4, n5, nF, _⟩ := n3 h0
      rcases hG.2.2.1.2.2 with q | q
      · omega
      · unfold kv_moves at hk
        rw [n5] at hk
        exact jc_X7_movesInAll sh.2.1 q.2.2.2.2.1 nF hk
    · have h00 : ku_n g = 0 := by omega
      unfold kv_moves at hk
      rw [h00] at hk
      refine jb_X7_movesInAll_0 sh.2.1 (jb_X7_movesInAll_4 sh.2.1 ?_)
      rw [n1, h00]
      exact jn_ite (fun _ => hk) (fun q => absurd (by decide) q)
  · rw [if_neg q0, if_neg q1, if_neg q2, if_neg q3, if_neg q4, if_neg q5, if_pos e] at hk
    intro r er; rw [hr r er]
    refine ⟨sh.1, ?_⟩
    by_cases h0 : 0 < ku_n g
    · obtain ⟨n4, n5, nF, _⟩ := n3 h0
      rcases hG.2.2.1.2.2 with q | q
      · omega
      · unfold kv_acts at hk
        rw [n5] at hk
        exact jc_X8_actionsInAll sh.1 sh.2.1 hW (n1.trans n5) nF q.2.2.2.2.2.2 hk
    · have h00 : ku_n g = 0 := by omega
      unfold kv_acts at hk
      rw [h00] at hk
      refine jb_X8_actionsInAll_0 sh.1 (jb_X8_actionsInAll_4 sh.1 ?_)
      rw [n1, h00]
      exact jn_ite (fun _ => hk) (fun q => absurd (by decide) q)
  · rw [if_neg q0, if_neg q1, if_neg q2, if_neg q3, if_neg q4, if_neg q5, if_neg q6, if_pos e] at hk
    rw [show σ.1 (0 + 65) 3 = rd from hC.2.1]; exact hk
  · rw [if_neg q0, if_neg q1, if_neg q2, if_neg q3, if_neg q4, if_neg q5, if_neg q6, if_neg q7, if_pos e] at hk
    rw [show σ.1 (0 + 65) 4 = tk from hC.2.2]; exact hk
  · rw [if_neg q0, if_neg q1, if_neg q2, if_neg q3, if_neg q4, if_neg q5, if_neg q6, if_neg q7, if_neg q8, if_pos e] at hk
    rw [show σ.1 (0 + 65) 2 = (K.1 : Nat) from hC.1.1]; exact hk
  · rw [if_neg q0, if_neg q1, if_neg q2, if_neg q3, if_neg q4, if_neg q5, if_neg q6, if_neg q7, if_neg q8, if_neg q9, if_pos e] at hk
    rw [show σ.1 (0 + 61) 0 = (ku_P g).1 from hG.2.2.2.2.2.1]; exact hk
  · rw [if_neg q0, if_neg q1, if_neg q2, if_neg q3, if_neg q4, if_neg q5, if_neg q6, if_neg q7, if_neg q8, if_neg q9, if_neg q10, if_pos e] at hk
    rw [show σ.1 (0 + 74) 0 = (N.1.1 : Nat) from hN.1.1]; exact hk
  · rw [if_neg q0, if_neg q1, if_neg q2, if_neg q3, if_neg q4, if_neg q5, if_neg q6, if_neg q7, if_neg q8, if_neg q9, if_neg q10, if_neg q11, if_pos e] at hk
    exact jc_knownBy hN hk
  · rw [if_neg q0, if_neg q1, if_neg q2, if_neg q3, if_neg q4, if_neg q5, if_neg q6, if_neg q7, if_neg q8, if_neg q9, if_neg q10, if_neg q11, if_neg q12, if_pos e] at hk
    obtain ⟨p, _, _, ⟨c1, _⟩, _⟩ := hR
    rw [show σ.1 (0 + 69) 0 = (c : Nat) from c1]; exact hk
  · rw [if_neg q0, if_neg q1, if_neg q2, if_neg q3, if_neg q4, if_neg q5, if_neg q6, if_neg q7, if_neg q8, if_neg q9, if_neg q10, if_neg q11, if_neg q12, if_neg q13] at hk
    exact hk
theorem kc_12 (hW : jn_GW g) (hF : jn_FP g S) {s : Nat} (hs : (s : Int) < S.1) : jn_ct (fun x => decide (0 ≤ S.2.2.1 (s : Int) (jn_sy (x : Int)))) 12 = jn_ct (jn_mo S s) 15 := by
  have e1 : jn_ct (jn_mo S s) 15 = jn_ct (jn_mo S s) 10 + jn_ct (fun i => jn_mo S s (10 + i)) 5 := jn_ct_plus (n := 10) (m := 5)
  have e2 : jn_ct (jn_mo S s) 10 = jn_ct (jn_mo S s) 7 := jn_ct_skip (k := 7) (d := 3) (fun j h1 h2 q => by
    have := (ka_mv_sym hW hF (s := (s : Int)) (x := (j : Int)) ⟨by omega, hs⟩ ⟨by omega, by omega⟩ (of_decide_eq_true q)).1
    omega)
  have e3 : jn_ct (fun x => decide (0 ≤ S.2.2.1 (s : Int) (jn_sy (x : Int)))) 12 = jn_ct (fun x => decide (0 ≤ S.2.2.1 (s : Int) (jn_sy (x : Int)))) 7 + jn_ct (fun i => decide (0 ≤ S.2.2.1 (s : Int) (jn_sy ((7 + i : Nat) : Int)))) 5 := jn_ct_plus (n := 7) (m := 5)
  have e4 : jn_ct (fun x => decide (0 ≤ S.2.2.1 (s : Int) (jn_sy (x : Int)))) 7 = jn_ct (jn_mo S s) 7 := jn_ct_eq (fun i hi => by
    unfold jn_mo jn_sy
    rw [if_pos (show (i : Int) < 7 by omega)])
  have e5 : jn_ct (fun i => decide (0 ≤ S.2.2.1 (s : Int) (jn_sy ((7 + i : Nat) : Int)))) 5 = jn_ct (fun i => jn_mo S s (10 + i)) 5 := jn_ct_eq (fun i hi => by
    unfold jn_mo jn_sy
    rw [if_neg (show ¬ ((7 + i : Nat) : Int) < 7 by omega), show ((7 + i : Nat) : Int) + 3 = ((10 + i : Nat) : Int) by omega])
  rw [e1, e2, e3, e4, e5]
theorem jm_count (hG : ku_MG σ g) (hC : kz_N σ K rd tk) (hN : kn_M σ N) (hR : kz_RM σ c h) (hx : jr x) (hk : ∀ τ, jF kW_ge σ τ → KI (kv_count g K rd tk N c x) τ) : jg_CI w 1 mm_X12_count [.ref 92, .int (.ofInt x)] σ KI := by
  have hW := hG.1.1.1.1
  have hw := hW.1
  refine jb_X12_count_0 rfl ?_
  intro τ hτ
  have h2 := ku_ge2 hτ
  have hM := ku_MG_ge hG h2.1
  replace hk := hk τ h2.1
  obtain ⟨n1, n2, n3⟩ := ku_MN hM
  have hfr : ∀ i : Int, 50 ≤ i → τ.1 92 i = σ.1 92 i := fun i hi => h2.1.1 _ _ (by unfold kW_ge; omega)
  unfold kv_count at hk
  rw [jr_wr hx]
  refine jn_ite (fun e => ?_) (fun q0 => jn_ite (fun e => ?_) (fun q1 => jn_ite (fun e => ?_) (fun q2 => jn_ite (fun e => ?_) (fun q3 => jn_ite (fun e => ?_) (fun q4 => jn_ite (fun e => ?_) (fun q5 => jn_ite (fun e => ?_) (fun q6 => jn_ite (fun e => ?_) (fun q7 => jn_ite (fun e => ?_) (fun q8 => jn_ite (fun e => ?_) (fun q9 => jn_ite (fun e => ?_) (fun q10 => jn_ite (fun e => ?_) (fun q11 => jn_ite (fun e => ?_) (fun q12 => jn_ite (fun e => ?_) (fun q13 => ?_))))))))))))))
  · rw [if_pos e] at hk
    rw [hM.1.2.1.2.1]; exact hk
  · rw [if_neg q0, if_pos e] at hk
    rw [hM.1.2.1.2.2.1]; exact hk
  · rw [if_neg q0, if_neg q1, if_pos e] at hk
    rw [hM.1.2.1.2.2.2]; exact hk
  · rw [if_neg q0, if_neg q1, if_neg q2, if_pos e] at hk
    rw [n1]; exact hk
  · rw [if_neg q0, if_neg q1, if_neg q2, if_neg q3, if_pos e] at hk
    have hloop : ∀ (m s : Nat) (u1 : Value), (s : Int) + m = ku_n g → jg_GI w 1 mm_X12_count 110 [.ref 92, u1, .int (.ofInt (jn_sum (fun s => jn_ct (jn_clo g ((kg_S g).2.1 (s : Int))).testBit 64) s : Nat)), .int (.ofInt (s : Int))] τ KI := by
      intro m
      induction m with
      | zero =>
        intro s u1 hs
        refine jb_X12_count_110 rfl ?_
        rw [n1, jr_wr (show jr (ku_n g) by omega), jr_wr (show jr (s : Int) by omega)]
        refine jn_ite (fun _ => ?_) (fun q => by omega)
        rw [show s = (ku_n g).toNat by omega]
        exact hk
      | succ m ih =>
        intro s u1 hs
        obtain ⟨n4, n5, nF, _⟩ := n3 (by omega)
        refine jb_X12_count_110 rfl ?_
        rw [n1, jr_wr (show jr (ku_n g) by omega), jr_wr (show jr (s : Int) by omega)]
        have hrk : jn_row τ (92 + 15) (65 * (s : Int)) (jn_clo g ((kg_S g).2.1 (s : Int))) := by
          rcases hM.2.1.2.2 with q | q
          · omega
          · have := (q.2.2.2.1.2.1 (s : Int) (by omega) (by omega)).2.1
            rw [show 65 * (48 * (0 : Int) + (s : Int)) = 65 * (s : Int) by omega] at this
            exact this
        refine jn_ite (fun q => by omega) (fun _ => jm_itemsOf (Or.inl rfl) ⟨by omega, by omega⟩ (by rw [if_pos rfl]; exact hrk) (jn_clo_vs hW (nF.1.2.1 (s : Int) (by omega) (by omega))).1 ?_)
        rintro _ rfl
        have key := ih (s + 1) u1 (by omega)
        rw [show ((s + 1 : Nat) : Int) = (s : Int) + 1 by omega] at key
        rw [← Int.natCast_add]
        exact key
    exact hloop (ku_n g).toNat 0 _ (by omega)
  · rw [if_neg q0, if_neg q1, if_neg q2, if_neg q3, if_neg q4, if_pos e] at hk
    have hloop : ∀ (m s x0 : Nat) (u1 : Value), 12 * (s : Int) + x0 + m = 12 * ku_n g → x0 < 12 → jg_GI w 1 mm_X12_count 139 [.ref 92, u1, .int (.ofInt ((jn_sum (fun s => jn_ct (jn_mo (kg_S g) s) 15) s + jn_ct (fun x => decide (0 ≤ (kg_S g).2.2.1 (s : Int) (jn_sy (x : Int)))) x0 : Nat) : Int)), .int (.ofInt (12 * (s : Int) + (x0 : Int)))] τ KI := by
      intro m
      induction m with
      | zero =>
        intro s x0 u1 hs hx12
        refine jb_X12_count_139 rfl ?_
        rw [n1, jr_wr (show jr (12 * ku_n g) by omega), jr_wr (show jr (12 * (s : Int) + (x0 : Int)) by omega)]
        refine jn_ite (fun _ => ?_) (fun q => by omega)
        rw [show x0 = 0 by omega, show s = (ku_n g).toNat by omega]
        exact hk
      | succ m ih =>
        intro s x0 u1 hs hx12
        obtain ⟨n4, n5, nF, n6, _⟩ := n3 (by omega)
        refine jb_X12_count_139 rfl ?_
        have hmv := n6 (s : Int) (x0 : Int) (by omega) (by omega) (by omega) (by omega)
        have hmr := nF.1.2.2.1 (s : Int) (jn_sy (x0 : Int))
        have hI := nF.1.1
        have hmv' : kr_mv g (s : Int) (jn_sy (x0 : Int)) = (kg_S g).2.2.1 (s : Int) (jn_sy (x0 : Int)) := rfl
        rw [n1, jr_wr (show jr (12 * ku_n g) by omega), jr_wr (show jr (12 * (s : Int) + (x0 : Int)) by omega), hmv, hmv', jr_wr (show jr ((kg_S g).2.2.1 (s : Int) (jn_sy (x0 : Int))) by omega)]
        have hnext : ∀ b : Nat, jn_ct (fun x => decide (0 ≤ (kg_S g).2.2.1 (s : Int) (jn_sy (x : Int)))) (x0 + 1) = jn_ct (fun x => decide (0 ≤ (kg_S g).2.2.1 (s : Int) (jn_sy (x : Int)))) x0 + b → ∀ t : Int, t = ((jn_sum (fun s => jn_ct (jn_mo (kg_S g) s) 15) s + jn_ct (fun x => decide (0 ≤ (kg_S g).2.2.1 (s : Int) (jn_sy (x : Int)))) x0 : Nat) : Int) + (b : Int) → jg_GI w 1 mm_X12_count 139 [.ref 92, u1, .int (.ofInt t), .int (.ofInt (12 * (s : Int) + (x0 : Int) + 1))] τ KI := fun b hb t ht => by
          by_cases h11 : x0 = 11
          · have key := ih (s + 1) 0 u1 (by omega) (by omega)
            have e12 := kc_12 hW nF (s := s) (by omega)
            rw [h11] at hb ht ⊢
            rw [show 12 * ((s + 1 : Nat) : Int) + ((0 : Nat) : Int) = 12 * (s : Int) + ((11 : Nat) : Int) + 1 by omega] at key
            have es : jn_sum (fun s => jn_ct (jn_mo (kg_S g) s) 15) (s + 1) + jn_ct (fun x => decide (0 ≤ (kg_S g).2.2.1 ((s + 1 : Nat) : Int) (jn_sy (x : Int)))) 0 = jn_sum (fun s => jn_ct (jn_mo (kg_S g) s) 15) s + jn_ct (fun x => decide (0 ≤ (kg_S g).2.2.1 (s : Int) (jn_sy (x : Int)))) 11 + b := by
              show jn_sum (fun s => jn_ct (jn_mo (kg_S g) s) 15) s + jn_ct (jn_mo (kg_S g) s) 15 + 0 = _
              rw [← e12, show (12 : Nat) = 11 + 1 from rfl, hb]
              omega
            rw [es] at key
            rw [ht, ← Int.natCast_add]
            exact key
          · have key := ih s (x0 + 1) u1 (by omega) (by omega)
            rw [hb, show 12 * (s : Int) + ((x0 + 1 : Nat) : Int) = 12 * (s : Int) + (x0 : Int) + 1 by omega] at key
            rw [ht, ← Int.natCast_add, Nat.add_assoc]
            exact key
        refine jn_ite (fun q => by omega) (fun _ => ⟨by omega, jn_ite (fun hneg => ?_) (fun hpos => ?_)⟩)
        · intro t ht
          exact hnext 0 (jn_ct_f (p := fun x => decide (0 ≤ (kg_S g).2.2.1 (s : Int) (jn_sy (x : Int)))) (fun q => by have := of_decide_eq_true q; omega)) t ht
        · intro t ht
          exact hnext 1 (jn_ct_t (p := fun x => decide (0 ≤ (kg_S g).2.2.1 (s : Int) (jn_sy (x : Int)))) (decide_eq_true (by omega))) t ht
    have key := hloop (12 * (ku_n g).toNat) 0 0 (.int (.ofInt x)) (by omega) (by decide)
    exact key
  · rw [if_neg q0, if_neg q1, if_neg q2, if_neg q3, if_neg q4, if_neg q5, if_pos e] at hk
    have hloop : ∀ (m s : Nat) (u1 : Value), (s : Int) + m = ku_n g → jg_GI w 1 mm_X12_count 179 [.ref 92, u1, .int (.ofInt (jn_sum (fun s => jn_ct (jn_an g (kg_S g) (kg_L g) (kg_fo g) 0 (s : Int)) 8) s : Nat)), .int (.ofInt (s : Int))] τ KI := by
      intro m
      induction m with
      | zero =>
        intro s u1 hs
        refine jb_X12_count_179 rfl ?_
        rw [n1, jr_wr (show jr (ku_n g) by omega), jr_wr (show jr (s : Int) by omega)]
        refine jn_ite (fun _ => ?_) (fun q => by omega)
        rw [show s = (ku_n g).toNat by omega]
        exact hk
      | succ m ih =>
        intro s u1 hs
        obtain ⟨n4, n5, nF, _⟩ := n3 (by omega)
        refine jb_X12_count_179 rfl ?_
        rw [n1, jr_wr (show jr (ku_n g) by omega), jr_wr (show jr (s : Int) by omega)]
        have hMC : jn_MC τ 0 g (kg_S g) (kg_L g) (kg_fo g) 0 := by
          rcases hM.2.1.2.2 with q | q
          · omega
          · exact q.2.2.2.2.2
        refine jn_ite (fun q => by omega) (fun _ => jm_actionsOf hW hM.1.2.1.2.1 nF hMC ⟨by omega, by omega⟩ ?_)
        rintro _ rfl
        have key := ih (s + 1) u1 (by omega)
        rw [show ((s + 1 : Nat) : Int) = (s : Int) + 1 by omega] at key
        rw [← Int.natCast_add]
        exact key
    exact hloop (ku_n g).toNat 0 _ (by omega)
  · rw [if_neg q0, if_neg q1, if_neg q2, if_neg q3, if_neg q4, if_neg q5, if_neg q6, if_pos e] at hk
    rw [hfr _ (by decide), hC.2.1]; exact hk
  · rw [if_neg q0, if_neg q1, if_neg q2, if_neg q3, if_neg q4, if_neg q5, if_neg q6, if_neg q7, if_pos e] at hk
    rw [hfr _ (by decide), hC.2.2]; exact hk
  · rw [if_neg q0, if_neg q1, if_neg q2, if_neg q3, if_neg q4, if_neg q5, if_neg q6, if_neg q7, if_neg q8, if_pos e] at hk
    rw [hfr _ (by decide), hC.1.1]; exact hk
  · rw [if_neg q0, if_neg q1, if_neg q2, if_neg q3, if_neg q4, if_neg q5, if_neg q6, if_neg q7, if_neg q8, if_neg q9, if_pos e] at hk
    rw [hM.2.2.2.2.1]; exact hk
  · rw [if_neg q0, if_neg q1, if_neg q2, if_neg q3, if_neg q4, if_neg q5, if_neg q6, if_neg q7, if_neg q8, if_neg q9, if_neg q10, if_pos e] at hk
    rw [hfr _ (by decide), hN.1.1]; exact hk
  · rw [if_neg q0, if_neg q1, if_neg q2, if_neg q3, if_neg q4, if_neg q5, if_neg q6, if_neg q7, if_neg q8, if_neg q9, if_neg q10, if_neg q11, if_pos e] at hk
    exact jm_knownBy (kn_M_fr hN h2.1 (fun i q => by unfold kW_ge at q; omega) (fun q => by unfold kW_ge at q; omega) (fun q => by unfold kW_ge at q; omega)) hk
  · rw [if_neg q0, if_neg q1, if_neg q2, if_neg q3, if_neg q4, if_neg q5, if_neg q6, if_neg q7, if_neg q8, if_neg q9, if_neg q10, if_neg q11, if_neg q12, if_pos e] at hk
    rw [hfr _ (by decide), hR.1.1]; exact hk
  · rw [if_neg q0, if_neg q1, if_neg q2, if_neg q3, if_neg q4, if_neg q5, if_neg q6, if_neg q7, if_neg q8, if_neg q9, if_neg q10, if_neg q11, if_neg q12, if_neg q13] at hk
    exact hk
end KCA
