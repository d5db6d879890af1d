/-! COUNT, in both -/
noncomputable def kv_kb (N : kn_N) : Int := if N.1.2 = -1 then (N.1.1 : Nat) else N.1.2
noncomputable def kv_items (g : gM) : Int := (jn_sum (fun s => jn_ct (jn_clo g ((kg_S g).2.1 (s : Int))).testBit 64) (ku_n g).toNat : Nat)
noncomputable def kv_moves (g : gM) : Int := (jn_sum (fun s => jn_ct (jn_mo (kg_S g) s) 15) (ku_n g).toNat : Nat)
noncomputable def kv_acts (g : gM) : Int := (jn_sum (fun s => jn_ct (jn_an g (kg_S g) (kg_L g) (kg_fo g) 0 (s : Int)) 8) (ku_n g).toNat : Nat)
noncomputable def kv_count (g : gM) (K : kr_K) (rd tk : Int) (N : kn_N) (c : Nat) (x : Int) : Int :=
  if x = 0 then g 0 0 else if x = 1 then g 0 1 else if x = 2 then g 0 2 else if x = 3 then ku_n g else if x = 4 then kv_items g else if x = 5 then kv_moves g else if x = 6 then kv_acts g else if x = 7 then rd else if x = 8 then tk else if x = 9 then (K.1 : Nat) else if x = 10 then (ku_P g).1 else if x = 11 then (N.1.1 : Nat) else if x = 12 then kv_kb N else if x = 13 then (c : Nat) else -1
section KCA
variable {w : Nat} {σ τ : jg_M} {T A n m c : Nat} {g : gM} {K : kr_K} {N : kn_N} {S : jn_Q} {h : kz_H} {pl : Int → Int → Int} {x rd tk : Int} {KV : jg_M → Prop} {KI : Int → jg_M → Prop}
theorem jc_itemsInAll (h0 : jg_sh A = (7, 0)) (hW : jn_GW g) (hX : jn_RC σ A g S) (hF : jn_FP g S) (hk : KI (jn_sum (fun s => jn_ct (jn_clo g (S.2.1 (s : Int))).testBit 64) S.1.toNat : Nat) σ) : jg_CI w 1 mm_X7_itemsInAll [.ref A] σ KI := by
  have hI := hF.1.1
  have hloop : ∀ (m s : Nat), (s : Int) + m = S.1 → jg_GI w 1 mm_X7_itemsInAll 4 [.ref A, .int (.ofInt (jn_sum (fun s => jn_ct (jn_clo g (S.2.1 (s : Int))).testBit 64) s : Nat)), .int (.ofInt (s : Int))] σ KI := by
    intro m
    induction m with
    | zero =>
      intro s hs
      refine jb_X7_itemsInAll_4 h0 ?_
      rw [hX.1, jr_wr (show jr S.1 by omega), jr_wr (show jr (s : Int) by omega)]
      refine jn_ite (fun _ => ?_) (fun q => by omega)
      rw [show s = S.1.toNat by omega]
      exact hk
    | succ m ih =>
      intro s hs
      refine jb_X7_itemsInAll_4 h0 ?_
      rw [hX.1, jr_wr (show jr S.1 by omega), jr_wr (show jr (s : Int) by omega), (hX.2 (s : Int) (by omega) (by omega)).2.1]
      refine jn_ite (fun q => by omega) (fun _ => jn_ite (fun q => by omega) (fun _ => ⟨by omega, jc_bitCountL (jn_clo_vs hW (hF.1.2.1 (s : Int) (by omega) (by omega))).1 ?_⟩))
      rintro _ rfl
      have key := ih (s + 1) (by omega)
      rw [show ((s + 1 : Nat) : Int) = (s : Int) + 1 by omega] at key
      rw [← Int.natCast_add]
      exact key
  exact jb_X7_itemsInAll_0 h0 (hloop S.1.toNat 0 (by omega))
theorem jc_count (hG : ku_CG σ T g) (hC : kz_C σ 65 K rd tk) (hN : kn_C pl σ N) (hR : kz_RC σ c h) (hx : jr x) (hk : KI (kv_count g K rd tk N c x) σ) : jg_CI w 4 mm_X11_count [.ref 0, .int (.ofInt x)] σ KI := by
  have sh := ku_sh hG.1.1
  have hW := hG.2.1.1.1.1
  have hw := hW.1
  obtain ⟨n1, n2, n3⟩ := ku_CN hG
  unfold kv_count at hk
  refine jb_X11_count_0 rfl ?_
  rw [jr_wr hx, hG.1.2.1]
  have hr : ∀ r : Nat, r = ((T : Nat) : Int).toNat → r = T := fun r e => by omega
  have hz : ∀ A2 : Nat, A2 = T + 10 → ku_n g = 0 → σ.1 A2 0 = 0 := fun A2 e q => by rw [e, n1, q]
  refine jn_ite (fun e => ?_) (fun q0 => jn_ite (fun e => ?_) (fun q1 => jn_ite (fun e => ?_) (fun q2 => jn_ite (fun e => ?_) (fun q3 => jn_ite (fun e => ?_) (fun q4 => jn_ite (fun e => ?_) (fun q5 => jn_ite (fun e => ?_) (fun q6 => jn_ite (fun e => ?_) (fun q7 => jn_ite (fun e => ?_) (fun q8 => jn_ite (fun e => ?_) (fun q9 => jn_ite (fun e => ?_) (fun q10 => jn_ite (fun e => ?_) (fun q11 => jn_ite (fun e => ?_) (fun q12 => jn_ite (fun e => ?_) (fun q13 => ?_))))))))))))))
  · rw [if_pos e] at hk
    intro r er; rw [hr r er]
    refine ⟨sh.1, ?_⟩
    rw [hG.2.1.2.1.1]; exact hk
  · rw [if_neg q0, if_pos e] at hk
    intro r er; rw [hr r er]
    refine ⟨sh.1, ?_⟩
    rw [hG.2.1.2.1.2.1]; exact hk
  · rw [if_neg q0, if_neg q1, if_pos e] at hk
    intro r er; rw [hr r er]
    refine ⟨sh.1, ?_⟩
    rw [hG.2.1.2.1.2.2.1]; exact hk
  · rw [if_neg q0, if_neg q1, if_neg q2, if_pos e] at hk
    intro r er; rw [hr r er]
    refine ⟨sh.1, ?_⟩
    rw [n1]; exact hk
  · rw [if_neg q0, if_neg q1, if_neg q2, if_neg q3, if_pos e] at hk
    intro r er; rw [hr r er]
    refine ⟨sh.1, ?_⟩
    by_cases h0 : 0 < ku_n g
    · obtain ⟨n4, n5, nF, _⟩ := n3 h0
      rcases hG.2.2.1.2.2 with q | q
      · omega
      · unfold kv_items at hk
        rw [n5] at hk
        exact jc_itemsInAll sh.2.1 hW q.2.2.2.2.1.1 nF hk
    · have h00 : ku_n g = 0 := by omega
      unfold kv_items at hk
      rw [h00] at hk
      refine jb_X7_itemsInAll_0 sh.2.1 (jb_X7_itemsInAll_4 sh.2.1 ?_)
      rw [n1, h00]
      exact jn_ite (fun _ => hk) (fun q => absurd (by decide) q)
  · rw [if_neg q0, if_neg q1, if_neg q2, if_neg q3, if_neg q4, if_pos e] at hk
    intro r er; rw [hr r er]
    refine ⟨sh.1, ?_⟩
    by_cases h0 : 0 < ku_n g
    · obtain ⟨n4, n5, nF, _⟩ := n3 h0
      rcases hG.2.2.1.2.2 with q | q
      · omega
      · unfold kv_moves at hk
        rw [n5] at hk
        exact jc_X7_movesInAll sh.2.1 q.2.2.2.2.1 nF hk
    · have h00 : ku_n g = 0 := by omega
      unfold kv_moves at hk
      rw [h00] at hk
      refine jb_X7_movesInAll_0 sh.2.1 (jb_X7_movesInAll_4 sh.2.1 ?_)
      rw [n1, h00]
      exact jn_ite (fun _ => hk) (fun q => absurd (by decide) q)
  · rw [if_neg q0, if_neg q1, if_neg q2, if_neg q3, if_neg q4, if_neg q5, if_pos e] at hk
    intro r er; rw [hr r er]
    refine ⟨sh.1, ?_⟩
    by_cases h0 : 0 < ku_n g
    · obtain ⟨n4, n5, nF, _⟩ := n3 h0
      rcases hG.2.2.1.2.2 with q | q
      · omega
      · unfold kv_acts at hk
        rw [n5] at hk
        exact jc_X8_actionsInAll sh.1 sh.2.1 hW (n1.trans n5) nF q.2.2.2.2.2.2 hk
    · have h00 : ku_n g = 0 := by omega
      unfold kv_acts at hk
      rw [h00] at hk
      refine jb_X8_actionsInAll_0 sh.1 (jb_X8_actionsInAll_4 sh.1 ?_)
      rw [n1, h00]
      exact jn_ite (fun _ => hk) (fun q => absurd (by decide) q)
  · rw [if_neg q0, if_neg q1, if_neg q2, if_neg q3, if_neg q4, if_neg q5, if_neg q6, if_pos e] at hk
    rw [show σ.1 (0 + 65) 3 = rd from hC.2.1]; exact hk
  · rw [if_neg q0, if_neg q1, if_neg q2, if_neg q3, if_neg q4, if_neg q5, if_neg q6, if_neg q7, if_pos e] at hk
    rw [show σ.1 (0 + 65) 4 = tk from hC.2.2]; exact hk
  · rw [if_neg q0, if_neg q1, if_neg q2, if_neg q3, if_neg q4, if_neg q5, if_neg q6, if_neg q7, if_neg q8, if_pos e] at hk
    rw [show σ.1 (0 + 65) 2 = (K.1 : Nat) from hC.1.1]; exact hk
  · rw [if_neg q0, if_neg q1, if_neg q2, if_neg q3, if_neg q4, if_neg q5, if_neg q6, if_neg q7, if_neg q8, if_neg q9, if_pos e] at hk
    rw [show σ.1 (0 + 61) 0 = (ku_P g).1 from hG.2.2.2.2.2.1]; exact hk
  · rw [if_neg q0, if_neg q1, if_neg q2, if_neg q3, if_neg q4, if_neg q5, if_neg q6, if_neg q7, if_neg q8, if_neg q9, if_neg q10, if_pos e] at hk
    rw [show σ.1 (0 + 74) 0 = (N.1.1 : Nat) from hN.1.1]; exact hk
  · rw [if_neg q0, if_neg q1, if_neg q2, if_neg q3, if_neg q4, if_neg q5, if_neg q6, if_neg q7, if_neg q8, if_neg q9, if_neg q10, if_neg q11, if_pos e] at hk
    exact jc_knownBy hN hk
  · rw [if_neg q0, if_neg q1, if_neg q2, if_neg q3, if_neg q4, if_neg q5, if_neg q6, if_neg q7, if_neg q8, if_neg q9, if_neg q10, if_neg q11, if_neg q12, if_pos e] at hk
    obtain ⟨p, _, _, ⟨c1, _⟩, _⟩ := hR
    rw [show σ.1 (0 + 69) 0 = (c : Nat) from c1]; exact hk
  · rw [if_neg q0, if_neg q1, if_neg q2, if_neg q3, if_neg q4, if_neg q5, if_neg q6, if_neg q7, if_neg q8, if_neg q9, if_neg q10, if_neg q11, if_neg q12, if_neg q13] at hk
    exact hk
end KCA
