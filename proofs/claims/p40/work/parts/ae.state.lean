/-! STATE, in both -/
noncomputable def kv_lenS (v : Nat × Nat) : Int := if v = ka_no then -2 else (v.1 : Nat)
noncomputable def kv_state (g : gM) (s k : Int) : Int := if 0 ≤ s ∧ s < ku_n g then (if k = 0 then (jn_ct ((kg_S g).2.1 s).testBit 64 : Nat) else if k = 1 then (jn_ct (jn_clo g ((kg_S g).2.1 s)).testBit 64 : Nat) else if k = 2 then (if s = 0 then -2 else (kg_S g).2.2.2 s) else if k = 3 then kv_lenS (ka_VW g (kg_S g) s) else if k = 4 then (jn_ct (jn_an g (kg_S g) (kg_L g) (kg_fo g) 0 s) 8 : Nat) else -1) else -1
section KWS
variable {w : Nat} {σ τ : jg_M} {T : Nat} {g : gM} {S S' : jn_Q} {n x s k b L zN o : Int} {v : Nat × Nat} {c A : Nat} {R : Int → Int} {KV : jg_M → Prop} {KI : Int → jg_M → Prop}
theorem jn_st1_e (h : jn_st1 g S s x = some S') (h1 : 1 ≤ S.1) : S'.2.2.2 0 = S.2.2.2 0 ∧ 1 ≤ S'.1 := by
  unfold jn_st1 at h
  split at h
  · cases h; exact ⟨rfl, h1⟩
  · split at h
    · cases h; exact ⟨rfl, h1⟩
    · split at h
      · cases h
      · cases h
        refine ⟨?_, ?_⟩
        · show jn_u1 S.2.2.2 S.1 x 0 = S.2.2.2 0
          unfold jn_u1
          rw [if_neg (by omega)]
        · show 1 ≤ S.1 + 1
          omega
theorem jn_str_e : ∀ {m : Nat} {S : jn_Q} {x : Int}, jn_str g m S s x = some S' → 1 ≤ S.1 → S'.2.2.2 0 = S.2.2.2 0 ∧ 1 ≤ S'.1
  | 0, S, x, h, h1 => by
    unfold jn_str at h
    cases h
    exact ⟨rfl, h1⟩
  | m + 1, S, x, h, h1 => by
    unfold jn_str at h
    cases h2 : jn_st1 g S s x with
    | none => rw [h2] at h; cases h
    | some S2 =>
      rw [h2] at h
      have q := jn_st1_e h2 h1
      have q2 := jn_str_e (m := m) h q.2
      exact ⟨q2.1.trans q.1, q2.2⟩
theorem jn_sta_e : ∀ {m : Nat} {S : jn_Q} {s : Int}, jn_sta g m S s = some S' → 1 ≤ S.1 → S'.2.2.2 0 = S.2.2.2 0 ∧ 1 ≤ S'.1
  | 0, S, s, h, h1 => by
    unfold jn_sta at h
    cases h
    exact ⟨rfl, h1⟩
  | m + 1, S, s, h, h1 => by
    unfold jn_sta at h
    by_cases hs : s < S.1
    · rw [if_pos hs] at h
      cases h2 : jn_str g 15 S s 0 with
      | none => rw [h2] at h; cases h
      | some S2 =>
        rw [h2] at h
        have q := jn_str_e h2 h1
        have q2 := jn_sta_e (m := m) h q.2
        exact ⟨q2.1.trans q.1, q2.2⟩
    · rw [if_neg hs] at h
      cases h
      exact ⟨rfl, h1⟩
theorem jn_all_e (h : jn_all g = some S) : S.2.2.2 0 = -2 := (jn_sta_e (m := 48) h (by show (1 : Int) ≤ 1; decide)).1
theorem ka_wd_val (h : ka_wd zN R b L v) : (v = ka_no ∧ L = zN ∧ L < 0 ∧ kv_lenS v = -2) ∨ (0 ≤ L ∧ L ≤ 60 ∧ kv_lenS v = L) := by
  unfold kv_lenS
  rcases h with ⟨h1, h2, h3⟩ | ⟨h1, h2, _, _⟩
  · exact Or.inl ⟨h3, h2.2, h1, if_pos h3⟩
  · refine Or.inr ⟨by omega, by omega, ?_⟩
    rw [if_neg (fun e => by rw [e, ka_no1] at h2; omega)]
    exact h1.symm
theorem jc_state (h : ku_CG σ T g) (hs : jr s) (hk0 : jr k) (hk : KI (kv_state g s k) σ) : jg_CI w 3 mm_X11_state [.ref 0, .int (.ofInt s), .int (.ofInt k)] σ KI := by
  have sh := ku_sh h.1.1
  have hW := h.2.1.1.1.1
  have hw := hW.1
  obtain ⟨n1, n2, n3⟩ := ku_CN h
  unfold kv_state at hk
  refine jb_X11_state_0 rfl ?_
  rw [h.1.2.1]
  intro r er
  rw [show r = T by omega]
  refine ⟨sh.1, jc_X7_has sh.2.1 n1 n2 hs (jn_if (fun hno => ?_) (fun hys => ?_))⟩
  · rw [if_neg hno] at hk; exact hk
  rw [if_pos hys] at hk
  obtain ⟨n4, n5, nF, _⟩ := n3 (by omega)
  have hCT : jn_all g = some (kg_S g) ∧ jn_Fx σ (T + 10) g (kg_e g) (kg_f g) (kg_S g) ∧ jn_TC σ T g (kg_S g) (kg_L g) (kg_fo g) 0 := by
    rcases h.2.2.1.2.2 with q | q
    · omega
    · exact ⟨q.2.1, q.2.2.2.2.1, q.2.2.2.2.2.2⟩
  have hrc := hCT.2.1.1.2 s hys.1 (by omega)
  have hvs := nF.1.2.1 s hys.1 (by omega)
  have hvc := jn_clo_vs hW hvs
  rw [jr_wr hs, jr_wr hk0]
  refine jn_ite (fun e0 => ⟨by omega, ?_⟩) (fun q0 => jn_ite (fun e1 => ⟨by omega, ?_⟩) (fun q1 => jn_ite (fun e2 => ⟨by omega, ?_⟩) (fun q2 => jn_ite (fun e3 => ⟨by omega, ?_⟩) (fun q3 => jn_ite (fun e4 => ?_) (fun q4 => ?_)))))
  · rw [if_pos e0] at hk
    rw [hrc.1]
    exact jc_bitCountL hvs.1 hk
  · rw [if_neg q0, if_pos e1] at hk
    rw [hrc.2.1]
    exact jc_bitCountL hvc.1 hk
  · rw [if_neg q0, if_neg q1, if_pos e2] at hk
    rw [hrc.2.2]
    by_cases hz : s = 0
    · rw [if_pos hz] at hk
      rw [hz, jn_all_e hCT.1]
      exact hk
    · rw [if_neg hz] at hk; exact hk
  · rw [if_neg q0, if_neg q1, if_neg q2, if_pos e3] at hk
    have hXS := h.2.2.2.2.1.2
    rcases hXS with q | ⟨_, S, s1, s2⟩
    · omega
    · have hSe := kg_S_eq s1
      rw [hSe] at s2
      have hv := ka_wd_val (s2 s hys.1 (by omega))
      rw [show σ.1 (0 + 55 + 2) s = kv_lenS (ka_VW g (kg_S g) s) by
        rcases hv with q | q
        · rw [q.2.2.2, ← q.2.1]
        · rw [q.2.2]]
      exact hk
  · rw [if_neg q0, if_neg q1, if_neg q2, if_neg q3, if_pos e4] at hk
    rw [h.1.2.1]
    intro r er
    rw [show r = T by omega]
    exact ⟨sh.1, jc_X8_actionsIn sh.1 sh.2.1 hW (n1.trans n5) nF hCT.2.2 ⟨hys.1, by omega⟩ hk⟩
  · rw [if_neg q0, if_neg q1, if_neg q2, if_neg q3, if_neg q4] at hk; exact hk
end KWS
