/-! PACKED, in the reference -/
section KBE
def kb_MM (σ : jg_M) (D : Int → Prop) (P : kb_P) : Prop := σ.1 92 52 = P.1 ∧ (∀ s, D s → σ.1 (92 + 34) s = P.2.1 s) ∧ ∀ i, 0 ≤ i → i < 1000 → σ.1 (92 + 35) i = P.2.2.1 i ∧ (P.2.2.1 i ≠ 0 → σ.1 (92 + 36) i = P.2.2.2 i)
def kW_pm (c : Nat) (i : Int) : Prop := (92 + 34 ≤ c ∧ c ≤ 92 + 36) ∨ (c = 92 ∧ i = 52)
variable {w : Nat} {σ τ : jg_M} {n m k c o t : Nat} {g : gM} {S : jn_Q} {L : Int → Int → Nat} {s x : Int} {P : kb_P} {D : Int → Prop} {fo : Int → Nat} {KV : jg_M → Prop} {KI : Int → jg_M → Prop}
theorem kb_MC_fr (h : jn_MC σ 0 g S L fo 0) (hf : jF kW_pm σ τ) : jn_MC τ 0 g S L fo 0 := by
  refine ⟨fun s t s0 s1 t0 t1 => (hf.1 _ _ (fun q => by unfold kW_pm at q; omega)).trans (h.1 s t s0 s1 t0 t1), (hf.1 _ _ (fun q => by unfold kW_pm at q; omega)).trans h.2.1, fun h0 j j0 j1 => (hf.1 _ _ (fun q => by unfold kW_pm at q; omega)).trans (h.2.2 h0 j j0 j1)⟩
theorem kb_ac_MC (hC : jn_MC σ 0 g S L fo 0) (hs : 0 ≤ s ∧ s < S.1) (ht : (t : Int) ≤ g 0 0) : σ.1 (92 + 19) (8 * s + (t : Int)) = kb_ac g S L s t := by
  have hc := hC.1 s (t : Int) hs.1 hs.2 (by omega) ht
  rw [show 8 * (48 * 0 + s) + (t : Int) = 8 * s + (t : Int) by omega] at hc
  rw [hc]
  unfold kb_ac
  by_cases hz : (jn_AP g S L (fun _ => 0) 0 s (t : Int)).1 = 0
  · rw [if_neg (fun q => (jn_an_iff.mp q).2 hz)]
    exact hz
  · rw [if_pos (jn_an_iff.mpr ⟨ht, hz⟩)]
    rfl
theorem kb_ac_no (ht : g 0 0 < (t : Int)) : kb_ac g S L s t = 0 := by
  unfold kb_ac
  rw [if_neg (fun q => by have := (jn_an_iff.mp q).1; omega)]
theorem jm_isFree (hW : jn_GW g) (hnt : σ.1 (92 + 3) 0 = g 0 0) (hF : jn_FP g S) (hC : jn_MC σ 0 g S L fo 0) (hM : kb_MM σ D P) (hP : ∀ i, 0 ≤ P.2.2.1 i ∧ P.2.2.1 i ≤ 3000) (hs : 0 ≤ s ∧ s < S.1) (ho : o ≤ 900) (hk : KI (jn_b (kb_rm (kb_ac g S L) s P.2.2.1 o)) σ) : jg_CI w 0 mm_X12_isFree [.ref 92, .int (.ofInt s), .int (.ofInt (o : Int))] σ KI := by
  have hI1 := hF.1.1
  have hw := hW.1
  have hloop : ∀ (m t : Nat), (t : Int) + m = g 0 0 + 1 → (∀ t' : Nat, t' < t → kb_ac g S L s t' ≠ 0 → P.2.2.1 ((o : Int) + t') = 0) → jg_GI w 0 mm_X12_isFree 2 [.ref 92, .int (.ofInt s), .int (.ofInt (o : Int)), .int (.ofInt (t : Int))] σ KI := by
    intro m
    induction m with
    | zero =>
      intro t ht he
      refine jb_X12_isFree_2 rfl ?_
      rw [hnt, jr_wr (by omega), jr_wr (by omega)]
      refine jn_ite (fun _ => ?_) (fun h => by omega)
      have hroom : kb_rm (kb_ac g S L) s P.2.2.1 o := fun t' h1 h2 => he t' (Classical.byContradiction (fun q => h2 (kb_ac_no (by omega)))) h2
      rw [jn_b_t hroom] at hk
      exact hk
    | succ m ih =>
      intro t ht he
      have hr := kb_ac_rng (L := L) hF s t
      have hp := hP ((o : Int) + (t : Int))
      have hm := (hM.2.2 ((o : Int) + (t : Int)) (by omega) (by omega)).1
      have hnext : (kb_ac g S L s t ≠ 0 → P.2.2.1 ((o : Int) + t) = 0) → jg_GI w 0 mm_X12_isFree 2 [.ref 92, .int (.ofInt s), .int (.ofInt (o : Int)), .int (.ofInt ((t : Int) + 1))] σ KI := fun hz => by
        have := ih (t + 1) (by omega) (fun t' h1 h2 => by
          by_cases hq : t' = t
          · subst hq; exact hz h2
          · exact he t' (by omega) h2)
        rw [show ((t + 1 : Nat) : Int) = (t : Int) + 1 by omega] at this
        exact this
      refine jb_X12_isFree_2 rfl ?_
      rw [hnt, jr_wr (show jr (g 0 0) by omega), jr_wr (show jr (t : Int) by omega), jr_wr (show jr (8 * s + (t : Int)) by omega), kb_ac_MC hC hs (by omega), jr_wr (show jr (kb_ac g S L s t) by omega), jr_wr (show jr ((o : Int) + (t : Int)) by omega), hm, jr_wr (show jr (P.2.2.1 ((o : Int) + (t : Int))) by omega)]
      refine jn_ite (fun h => by omega) (fun _ => ⟨by omega, jn_ite (fun hz => hnext (fun q => absurd (by omega) q)) (fun hz => ⟨by omega, jn_ite (fun hq => hnext (fun _ => by omega)) (fun hq => ?_)⟩)⟩)
      have hroom : ¬ kb_rm (kb_ac g S L) s P.2.2.1 o := fun q => by
        have := q t (by omega) (by omega)
        omega
      rw [jn_b_f hroom] at hk
      exact hk
  exact jb_X12_isFree_0 rfl (hloop (g 0 0 + 1).toNat 0 (by omega) (fun t' h => by omega))
theorem kb_puts_no {ac : Int → Nat → Int} : ∀ {n : Nat}, (∀ t : Nat, m ≤ t → t < m + n → ac s t = 0) → kb_puts ac s o (m + n) P = kb_puts ac s o m P
  | 0, _ => rfl
  | n + 1, h => by
    show kb_put ac s o (m + n) (kb_puts ac s o (m + n) P) = _
    unfold kb_put
    rw [if_pos (h (m + n) (by omega) (by omega))]
    exact kb_puts_no (fun t h1 h2 => h t h1 (by omega))
theorem jm_lays (hW : jn_GW g) (hnt : σ.1 (92 + 3) 0 = g 0 0) (hF : jn_FP g S) (hC : jn_MC σ 0 g S L fo 0) (hM : kb_MM σ D P) (hI : kb_In P c) (hc : c ≤ 48) (hs : 0 ≤ s ∧ s < S.1) (hof : ((kb_of (kb_ac g S L) s P : Nat) : Int) ≤ P.1 ∧ kb_rm (kb_ac g S L) s P.2.2.1 (kb_of (kb_ac g S L) s P) ∧ ∀ j, j < kb_of (kb_ac g S L) s P → ¬ kb_rm (kb_ac g S L) s P.2.2.1 j)
    (hk : ∀ τ, jF kW_pm σ τ → kb_MM τ (fun j => D j ∨ j = s) (kb_lay (kb_ac g S L) s P) → KV τ) : jg_CV w 1 mm_X12_lays [.ref 92, .int (.ofInt s)] σ KV := by
  have hI1 := hF.1.1
  have hIn := hI.1
  have hw := hW.1
  have hput : ∀ (P1 : kb_P) (o : Nat), P1 = (P.1, jn_u1 P.2.1 s (o : Int), P.2.2.1, P.2.2.2) → (o : Int) ≤ P.1 → (∀ τ, jF kW_pm σ τ → kb_MM τ (fun j => D j ∨ j = s) (kb_puts (kb_ac g S L) s o 8 P1) → KV τ) → ∀ (m t : Nat) (τ : jg_M), (t : Int) + m = g 0 0 + 1 → jF kW_pm σ τ → kb_MM τ (fun j => D j ∨ j = s) (kb_puts (kb_ac g S L) s o t P1) → jg_GV w 1 mm_X12_lays 26 [.ref 92, .int (.ofInt s), .int (.ofInt (o : Int)), .int (.ofInt (t : Int))] τ KV := by
    intro P1 o hP1 ho kk m
    have hb := fun (t : Nat) (ht : t ≤ 8) => kb_puts_In (P := P1) (o := o) (b := P.1 + 8) (kb_ac_rng (L := L) hF) (s := s) (by omega) (by omega) (by rw [hP1]; show P.1 ≤ P.1 + 8; omega) (by rw [hP1]; exact hIn.1) (by rw [hP1]; exact hI.2.1) (by rw [hP1]; exact hI.2.2.1) (by rw [hP1]; exact hI.2.2.2.1) (t := t) ht
    induction m with
    | zero =>
      intro t τ ht hf hMt
      have hn3 : τ.1 (92 + 3) 0 = g 0 0 := (hf.1 _ _ (fun q => by unfold kW_pm at q; omega)).trans hnt
      refine jb_X12_lays_26 rfl ?_
      rw [hn3, jr_wr (by omega), jr_wr (by omega)]
      refine jn_ite (fun _ => kk τ hf ?_) (fun h => by omega)
      have e := kb_puts_no (ac := kb_ac g S L) (s := s) (o := o) (P := P1) (m := t) (n := 8 - t) (fun t' h1 h2 => kb_ac_no (by omega))
      rw [show t + (8 - t) = 8 by omega] at e
      rw [e]
      exact hMt
    | succ m ih =>
      intro t τ ht hf hMt
      have hn3 : τ.1 (92 + 3) 0 = g 0 0 := (hf.1 _ _ (fun q => by unfold kW_pm at q; omega)).trans hnt
      have hr := kb_ac_rng (L := L) hF s t
      have hCt := kb_ac_MC (s := s) (t := t) (kb_MC_fr hC hf) hs (by omega)
      have hbt := hb t (by omega)
      have hpt : kb_puts (kb_ac g S L) s o (t + 1) P1 = kb_put (kb_ac g S L) s o t (kb_puts (kb_ac g S L) s o t P1) := rfl
      generalize kb_puts (kb_ac g S L) s o t P1 = Z at *
      refine jb_X12_lays_26 rfl ?_
      rw [hn3, jr_wr (show jr (g 0 0) by omega), jr_wr (show jr (t : Int) by omega), jr_wr (show jr (8 * s + (t : Int)) by omega), hCt, jr_wr (show jr (kb_ac g S L s t) by omega), jr_wr (show jr ((o : Int) + (t : Int)) by omega), jr_wr (show jr ((o : Int) + (t : Int) + 1) by omega)]
      refine jn_ite (fun h => by omega) (fun _ => ⟨by omega, jn_ite (fun hz => ?_) (fun hz => ⟨by omega, by omega, ?_⟩)⟩)
      · have e : kb_put (kb_ac g S L) s o t Z = Z := if_pos hz
        have := ih (t + 1) τ (by omega) hf (by rw [hpt, e]; exact hMt)
        rw [show ((t + 1 : Nat) : Int) = (t : Int) + 1 by omega] at this
        exact this
      · rintro _ rfl
        refine ⟨by omega, ?_⟩
        rintro _ rfl
        have e : kb_put (kb_ac g S L) s o t Z = (if Z.1 < (o : Int) + t + 1 then (o : Int) + t + 1 else Z.1, Z.2.1, jn_u1 Z.2.2.1 ((o : Int) + t) (kb_ac g S L s t), jn_u1 Z.2.2.2 ((o : Int) + t) s) := if_neg hz
        have hu : τ.1 92 52 = Z.1 := hMt.1
        have hgo : ∀ v, v = (if Z.1 < (o : Int) + t + 1 then (o : Int) + t + 1 else Z.1) → ∀ τ', τ' = jg_sI (jg_sI (jg_sI τ (92 + 35) ((o : Int) + t) (kb_ac g S L s t)) (92 + 36) ((o : Int) + t) s) 92 52 v → jg_GV w 1 mm_X12_lays 26 [.ref 92, .int (.ofInt s), .int (.ofInt (o : Int)), .int (.ofInt ((t : Int) + 1))] τ' KV := by
          rintro v hv _ rfl
          have := ih (t + 1) (jg_sI (jg_sI (jg_sI τ (92 + 35) ((o : Int) + t) (kb_ac g S L s t)) (92 + 36) ((o : Int) + t) s) 92 52 v) (by omega) (jF_toI (jF_toI (jF_toI hf (by unfold kW_pm; omega)) (by unfold kW_pm; omega)) (by unfold kW_pm; omega)) (by
            rw [hpt, e]
            refine ⟨by rw [js_Is, hv], fun j hj => ?_, fun i i0 i1 => ⟨?_, fun hnz => ?_⟩⟩
            · rw [js_In (Or.inl (by omega)), js_In (Or.inl (by omega)), js_In (Or.inl (by omega))]
              exact hMt.2.1 j hj
            · rw [js_In (Or.inl (by omega)), js_In (Or.inl (by omega))]
              show _ = jn_u1 Z.2.2.1 ((o : Int) + t) (kb_ac g S L s t) i
              unfold jn_u1
              by_cases hi : i = (o : Int) + t
              · rw [if_pos hi, hi, js_Is]
              · rw [if_neg hi, js_In (Or.inr hi)]
                exact (hMt.2.2 i i0 i1).1
            · have hnz' : jn_u1 Z.2.2.1 ((o : Int) + t) (kb_ac g S L s t) i ≠ 0 := hnz
              rw [js_In (Or.inl (by omega))]
              show _ = jn_u1 Z.2.2.2 ((o : Int) + t) s i
              unfold jn_u1 at hnz' ⊢
              by_cases hi : i = (o : Int) + t
              · rw [if_pos hi, hi, js_Is]
              · rw [if_neg hi] at hnz' ⊢
                rw [js_In (Or.inr hi), js_In (Or.inl (by omega))]
                exact (hMt.2.2 i i0 i1).2 hnz')
          rw [show ((t + 1 : Nat) : Int) = (t : Int) + 1 by omega] at this
          exact this
        rw [js_In (Or.inl (by omega)), js_In (Or.inl (by omega)), hu, jr_wr (show jr Z.1 by omega)]
        refine jn_ite (fun h => fun τ' hτ' => hgo _ ?_ τ' hτ') (fun h => fun τ' hτ' => hgo _ ?_ τ' hτ')
        · rw [if_neg (by omega)]
        · rw [if_pos (by omega)]
  have hloop : ∀ (m o : Nat) (u : Value), o + m = kb_of (kb_ac g S L) s P → jg_GV w 1 mm_X12_lays 2 [.ref 92, .int (.ofInt s), .int (.ofInt (o : Int)), u] σ KV := by
    intro m
    induction m with
    | zero =>
      intro o u ho
      refine jb_X12_lays_2 rfl (jm_isFree hW hnt hF hC hM hI.2.2.1 hs (by omega) ?_)
      have ho' : o = kb_of (kb_ac g S L) s P := by omega
      refine jn_if (fun h => absurd (ho' ▸ hof.2.1) h) (fun _ => ?_)
      rw [jr_wr (show jr s by omega)]
      refine ⟨by omega, ?_⟩
      rintro _ rfl
      subst ho'
      refine hput _ _ rfl hof.1 hk (g 0 0 + 1).toNat 0 _ (by omega) (jF_I (by unfold kW_pm; omega)) ⟨?_, fun j hj => ?_, fun i i0 i1 => ⟨?_, fun hnz => ?_⟩⟩
      · rw [js_In (Or.inl (by omega))]; exact hM.1
      · show _ = jn_u1 P.2.1 s _ j
        unfold jn_u1
        by_cases hjs : j = s
        · rw [if_pos hjs, hjs, js_Is]
        · rw [if_neg hjs, js_In (Or.inr hjs)]
          exact hM.2.1 j (hj.resolve_right hjs)
      · rw [js_In (Or.inl (by omega))]; exact (hM.2.2 i i0 i1).1
      · rw [js_In (Or.inl (by omega))]; exact (hM.2.2 i i0 i1).2 hnz
    | succ m ih =>
      intro o u ho
      refine jb_X12_lays_2 rfl (jm_isFree hW hnt hF hC hM hI.2.2.1 hs (by omega) ?_)
      refine jn_if (fun _ => ?_) (fun h => absurd h (hof.2.2 o (by omega)))
      have := ih (o + 1) u (by omega)
      rw [show ((o + 1 : Nat) : Int) = (o : Int) + 1 by omega] at this
      exact this
  exact jb_X12_lays_0 rfl (hloop (kb_of (kb_ac g S L) s P) 0 _ (by omega))
end KBE
