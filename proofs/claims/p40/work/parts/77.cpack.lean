/-! PACKED, in the class -/
section KBC
noncomputable def kb_ac (g : gM) (S : jn_Q) (L : Int → Int → Nat) (s : Int) (t : Nat) : Int := if jn_an g S L (fun _ => 0) 0 s t = true then (jn_AP g S L (fun _ => 0) 0 s (t : Int)).1 else 0
noncomputable def kb_an (g : gM) (S : jn_Q) (L : Int → Int → Nat) (j : Nat) : Nat := jn_ct (jn_an g S L (fun _ => 0) 0 (j : Int)) 8
def kb_CM (σ : jg_M) (a : Nat) (P : kb_P) : Prop := σ.1 a 0 = P.1 ∧ (∀ s, 0 ≤ s → s < 48 → σ.1 (a + 1) s = P.2.1 s) ∧ ∀ i, 0 ≤ i → i < 400 → σ.1 (a + 2) i = P.2.2.1 i ∧ (P.2.2.1 i ≠ 0 → σ.1 (a + 3) i = P.2.2.2 i)
def kW_pk (a : Nat) (c : Nat) (i : Int) : Prop := a ≤ c ∧ c ≤ a + 3
variable {w : Nat} {σ τ : jg_M} {a T n m k c o t : Nat} {g : gM} {S : jn_Q} {L : Int → Int → Nat} {s x : Int} {P : kb_P} {KV : jg_M → Prop} {KI : Int → jg_M → Prop}
theorem kb_ac_rng (hF : jn_FP g S) : ∀ s t, 0 ≤ kb_ac g S L s t ∧ kb_ac g S L s t ≤ 3000 := fun s t => by
  have := jn_AP_rng (y := 0) (L := L) (fo := fun _ => 0) (s := s) (t := (t : Int)) hF
  unfold kb_ac
  split <;> omega
theorem kb_an_le : kb_an g S L k ≤ 8 := jn_ct_le
theorem kb_ac_TC {fo : Int → Nat} (hC : jn_TC σ T g S L fo 0) (hF : jn_FP g S) (hs : 0 ≤ s ∧ s < S.1) (ht : t < 8) : σ.1 (T + 20) (s * 8 + (t : Int)) = kb_ac g S L s t := by
  have hI := hF.1.1
  have hc := hC s (t : Int) hs.1 (by omega) (by omega) (by omega)
  unfold kb_ac
  by_cases hle : (t : Int) ≤ g 0 0
  · rw [(hc.1 ⟨hs.2, hle⟩).1]
    by_cases hz : (jn_AP g S L (fun _ => 0) 0 s (t : Int)).1 = 0
    · rw [if_neg (fun q => (jn_an_iff.mp q).2 hz)]
      exact hz
    · rw [if_pos (jn_an_iff.mpr ⟨hle, hz⟩)]
      rfl
  · rw [(hc.2 (fun q => hle q.2)).1, if_neg (fun q => hle (jn_an_iff.mp q).1)]
theorem jc_X2_actionAt (h0 : jg_sh a = (2, 0)) (hM : kb_CM σ a P) (hI : kb_In P c) (hx : jr x) (hk : KI (if (0 ≤ x ∧ x < 400) ∧ P.2.2.1 x ≠ 0 then P.2.2.1 x else -2) σ) : jg_CI w 0 mm_X2_actionAt [.ref a, .int (.ofInt x)] σ KI := by
  have hr := hI.2.2.1 x
  refine jb_X2_actionAt_0 h0 ?_
  rw [jr_wr hx]
  refine jn_ite (fun h => ?_) (fun h => jn_ite (fun h2 => ?_) (fun h2 => ⟨by omega, ?_⟩))
  · rw [if_neg (fun q => by omega)] at hk; exact hk
  · rw [if_neg (fun q => by omega)] at hk; exact hk
  · rw [(hM.2.2 x (by omega) (by omega)).1, jr_wr (show jr (P.2.2.1 x) by omega)]
    refine jn_ite (fun h3 => ?_) (fun h3 => ⟨by omega, ?_⟩)
    · rw [if_neg (fun q => q.2 h3)] at hk; exact hk
    · rw [if_pos ⟨by omega, h3⟩] at hk; exact hk
set_option maxRecDepth 20000 in
theorem jc_X2_hasRoom (h0 : jg_sh a = (2, 0)) (hT : jg_sh T = (8, 0)) (h2 : jg_sh (T + 10) = (7, 0)) {fo : Int → Nat} (hn : σ.1 (T + 10) 0 = S.1) (hF : jn_FP g S) (hC : jn_TC σ T g S L fo 0) (hM : kb_CM σ a P) (hI : kb_In P c) (hs : 0 ≤ s ∧ s < S.1) (ho : o ≤ 392) (hk : KI (jn_b (kb_rm (kb_ac g S L) s P.2.2.1 o)) σ) : jg_CI w 2 mm_X2_hasRoom [.ref a, .ref T, .int (.ofInt s), .int (.ofInt (o : Int))] σ KI := by
  have hI1 := hF.1.1
  have hloop : ∀ (m t : Nat), t + m = 8 → (∀ t' : Nat, t' < t → kb_ac g S L s t' ≠ 0 → P.2.2.1 ((o : Int) + t') = 0) → jg_GI w 2 mm_X2_hasRoom 3 [.ref a, .ref T, .int (.ofInt s), .int (.ofInt (o : Int)), .int (.ofInt (t : Int))] σ KI := by
    intro m
    induction m with
    | zero =>
      intro t ht he
      refine jb_X2_hasRoom_3 h0 hT ?_
      rw [jr_wr (by omega)]
      refine jn_ite (fun _ => ?_) (fun h => by omega)
      have hroom : kb_rm (kb_ac g S L) s P.2.2.1 o := fun t' h1 h2 => he t' (by omega) h2
      rw [jn_b_t hroom] at hk
      exact hk
    | succ m ih =>
      intro t ht he
      have hr := kb_ac_rng (L := L) hF s t
      refine jb_X2_hasRoom_3 h0 hT ?_
      rw [jr_wr (show jr (t : Int) by omega)]
      refine jn_ite (fun h => by omega) (fun _ => jc_X8_actionFor hT h2 hn (by omega) (by omega) (by omega) ?_)
      rw [show (if (0 ≤ s ∧ s < S.1) ∧ 0 ≤ (t : Int) ∧ (t : Int) < 8 then σ.1 (T + 20) (s * 8 + (t : Int)) else 0) = kb_ac g S L s t by rw [if_pos ⟨hs, by omega, by omega⟩]; exact kb_ac_TC hC hF hs (by omega), jr_wr (show jr (kb_ac g S L s t) by omega)]
      have hnext : (kb_ac g S L s t ≠ 0 → P.2.2.1 ((o : Int) + t) = 0) → jg_GI w 2 mm_X2_hasRoom 3 [.ref a, .ref T, .int (.ofInt s), .int (.ofInt (o : Int)), .int (.ofInt ((t : Int) + 1))] σ KI := fun hz => by
        have := ih (t + 1) (by omega) (fun t' h1 h2 => by
          by_cases hq : t' = t
          · subst hq; exact hz h2
          · exact he t' (by omega) h2)
        rw [show ((t + 1 : Nat) : Int) = (t : Int) + 1 by omega] at this
        exact this
      refine jn_ite (fun hz => hnext (fun q => absurd hz q)) (fun hz => jc_X2_actionAt h0 hM hI (by omega) ?_)
      have hp := hI.2.2.1 ((o : Int) + t)
      have hz1 : P.2.2.1 ((o : Int) + (t : Int)) = 0 → KI = KI := fun _ => rfl
      generalize hpv : P.2.2.1 ((o : Int) + (t : Int)) = pv at *
      rcases Classical.em (pv = 0) with hq | hq
      · rw [show (if (0 ≤ (o : Int) + (t : Int) ∧ (o : Int) + (t : Int) < 400) ∧ pv ≠ 0 then pv else -2) = -2 from if_neg (fun q => q.2 hq)]
        exact jn_ite (fun _ => hnext (fun _ => hq)) (fun h => absurd rfl h)
      · rw [show (if (0 ≤ (o : Int) + (t : Int) ∧ (o : Int) + (t : Int) < 400) ∧ pv ≠ 0 then pv else -2) = pv from if_pos ⟨by omega, hq⟩, jr_wr (show jr pv by omega)]
        refine jn_ite (fun h => by omega) (fun _ => ?_)
        have hroom : ¬ kb_rm (kb_ac g S L) s P.2.2.1 o := fun q => hq (hpv ▸ q t (by omega) hz)
        rw [jn_b_f hroom] at hk
        exact hk
  exact jb_X2_hasRoom_0 h0 hT (hloop 8 0 rfl (fun t' h => by omega))
theorem jc_X2_layAt (h0 : jg_sh a = (2, 0)) (hT : jg_sh T = (8, 0)) (h2 : jg_sh (T + 10) = (7, 0)) (hTa : T + 22 ≤ a) {fo : Int → Nat} (hn : σ.1 (T + 10) 0 = S.1) (hF : jn_FP g S) (hC : jn_TC σ T g S L fo 0) (hM : kb_CM σ a P) (hI : kb_In P c) (hc : c ≤ 47) (hs : 0 ≤ s ∧ s < S.1) (ho : (o : Int) ≤ P.1) (hk : ∀ τ, jF (kW_pk a) σ τ → kb_CM τ a (kb_puts (kb_ac g S L) s o 8 (P.1, jn_u1 P.2.1 s (o : Int), P.2.2.1, P.2.2.2)) → KV τ) : jg_CV w 2 mm_X2_layAt [.ref a, .ref T, .int (.ofInt s), .int (.ofInt (o : Int))] σ KV := by
  have hI1 := hF.1.1
  have hIn := hI.1
  have hfr : ∀ τ, jF (kW_pk a) σ τ → τ.1 (T + 10) 0 = S.1 ∧ jn_TC τ T g S L fo 0 := fun τ hf => by
    refine ⟨(hf.1 _ _ (fun q => by unfold kW_pk at q; omega)).trans hn, fun s t s0 s1 t0 t1 => ?_⟩
    rw [hf.1 _ _ (fun q => by unfold kW_pk at q; omega), hf.1 (T + 21) _ (fun q => by unfold kW_pk at q; omega)]
    exact hC s t s0 s1 t0 t1
  generalize hP1 : ((P.1, jn_u1 P.2.1 s (o : Int), P.2.2.1, P.2.2.2) : kb_P) = P1 at *
  have hb := fun (t : Nat) (ht : t ≤ 8) => kb_puts_In (P := P1) (o := o) (b := P.1 + 8) (kb_ac_rng (L := L) hF) (s := s) (by omega) (by omega) (by rw [← hP1]; show P.1 ≤ P.1 + 8; omega) (by rw [← hP1]; exact hIn.1) (by rw [← hP1]; exact hI.2.1) (by rw [← hP1]; exact hI.2.2.1) (by rw [← hP1]; exact hI.2.2.2.1) (t := t) ht
  have hloop : ∀ (m t : Nat) (τ : jg_M) (u5 u6 : Value), t + m = 8 → jF (kW_pk a) σ τ → kb_CM τ a (kb_puts (kb_ac g S L) s o t P1) → jg_GV w 2 mm_X2_layAt 10 [.ref a, .ref T, .int (.ofInt s), .int (.ofInt (o : Int)), .int (.ofInt (t : Int)), u5, u6] τ KV := by
    intro m
    induction m with
    | zero =>
      intro t τ u5 u6 ht hf hM
      refine jb_X2_layAt_10 h0 hT ?_
      rw [jr_wr (by omega)]
      refine jn_ite (fun _ => hk τ hf ?_) (fun h => by omega)
      rw [show t = 8 by omega] at hM
      exact hM
    | succ m ih =>
      intro t τ u5 u6 ht hf hM
      have hr := kb_ac_rng (L := L) hF s t
      obtain ⟨f1, f2⟩ := hfr τ hf
      have hbt := hb t (by omega)
      refine jb_X2_layAt_10 h0 hT ?_
      rw [jr_wr (show jr (t : Int) by omega)]
      refine jn_ite (fun h => by omega) (fun _ => ?_)
      rintro _ rfl
      refine jc_X8_actionFor hT h2 f1 (by omega) (by omega) (by omega) ?_
      rw [show (if (0 ≤ s ∧ s < S.1) ∧ 0 ≤ (t : Int) ∧ (t : Int) < 8 then τ.1 (T + 20) (s * 8 + (t : Int)) else 0) = kb_ac g S L s t by rw [if_pos ⟨hs, by omega, by omega⟩]; exact kb_ac_TC f2 hF hs (by omega), jr_wr (show jr (kb_ac g S L s t) by omega), jr_wr (show jr ((o : Int) + (t : Int)) by omega), jr_wr (show jr ((o : Int) + (t : Int) + 1) by omega)]
      have hput : kb_puts (kb_ac g S L) s o (t + 1) P1 = kb_put (kb_ac g S L) s o t (kb_puts (kb_ac g S L) s o t P1) := rfl
      generalize kb_puts (kb_ac g S L) s o t P1 = Z at *
      refine jn_ite (fun hz => ?_) (fun hz => jn_ite (fun h => by omega) (fun _ => ⟨by omega, ?_⟩))
      · have e : kb_put (kb_ac g S L) s o t Z = Z := if_pos hz
        have := ih (t + 1) τ (.int (.ofInt ((o : Int) + t))) (.int (.ofInt (kb_ac g S L s t))) (by omega) hf (by rw [hput, e]; exact hM)
        rw [show ((t + 1 : Nat) : Int) = (t : Int) + 1 by omega] at this
        exact this
      · rintro _ rfl
        refine ⟨by omega, ?_⟩
        rintro _ rfl _ rfl
        have e : kb_put (kb_ac g S L) s o t Z = (if Z.1 < (o : Int) + t + 1 then (o : Int) + t + 1 else Z.1, Z.2.1, jn_u1 Z.2.2.1 ((o : Int) + t) (kb_ac g S L s t), jn_u1 Z.2.2.2 ((o : Int) + t) s) := if_neg hz
        have hu : τ.1 a 0 = Z.1 := hM.1
        have := ih (t + 1) (jg_sI (jg_sI (jg_sI τ (a + 2) ((o : Int) + t) (kb_ac g S L s t)) (a + 3) ((o : Int) + t) s) a 0 (if Z.1 < (o : Int) + t + 1 then (o : Int) + t + 1 else Z.1)) (.int (.ofInt ((o : Int) + t))) (.int (.ofInt (kb_ac g S L s t))) (by omega) (jF_toI (jF_toI (jF_toI hf (by unfold kW_pk; omega)) (by unfold kW_pk; omega)) (by unfold kW_pk; omega)) (by
          rw [hput, e]
          refine ⟨js_Is, fun j j0 j1 => ?_, fun i i0 i1 => ⟨?_, fun hnz => ?_⟩⟩
          · rw [js_In (Or.inl (by omega)), js_In (Or.inl (by omega)), js_In (Or.inl (by omega))]
            exact hM.2.1 j j0 j1
          · rw [js_In (Or.inl (by omega)), js_In (Or.inl (by omega))]
            show _ = jn_u1 Z.2.2.1 ((o : Int) + t) (kb_ac g S L s t) i
            unfold jn_u1
            by_cases hi : i = (o : Int) + t
            · rw [if_pos hi, hi, js_Is]
            · rw [if_neg hi, js_In (Or.inr hi)]
              exact (hM.2.2 i i0 i1).1
          · have hnz' : jn_u1 Z.2.2.1 ((o : Int) + t) (kb_ac g S L s t) i ≠ 0 := hnz
            rw [js_In (Or.inl (by omega))]
            show _ = jn_u1 Z.2.2.2 ((o : Int) + t) s i
            unfold jn_u1 at hnz' ⊢
            by_cases hi : i = (o : Int) + t
            · rw [if_pos hi, hi, js_Is]
            · rw [if_neg hi] at hnz' ⊢
              rw [js_In (Or.inr hi), js_In (Or.inl (by omega))]
              exact (hM.2.2 i i0 i1).2 hnz')
        rw [show ((t + 1 : Nat) : Int) = (t : Int) + 1 by omega] at this
        rw [js_In (Or.inl (by omega)), js_In (Or.inl (by omega)), hu, jr_wr (show jr Z.1 by omega)]
        exact this
  refine jb_X2_layAt_0 h0 hT ?_
  rw [jr_wr (show jr s by omega)]
  refine ⟨by omega, ?_⟩
  rintro _ rfl
  refine hloop 8 0 _ _ _ rfl (jF_I (by unfold kW_pk; omega)) ⟨?_, fun j j0 j1 => ?_, fun i i0 i1 => ⟨?_, fun hnz => ?_⟩⟩
  · rw [js_In (Or.inl (by omega)), ← hP1]; exact hM.1
  · rw [← hP1]
    show _ = jn_u1 P.2.1 s (o : Int) j
    unfold jn_u1
    by_cases hj : j = s
    · rw [if_pos hj, hj, js_Is]
    · rw [if_neg hj, js_In (Or.inr hj)]; exact hM.2.1 j j0 j1
  · rw [js_In (Or.inl (by omega)), ← hP1]; exact (hM.2.2 i i0 i1).1
  · rw [js_In (Or.inl (by omega))]
    rw [← hP1] at hnz ⊢
    exact (hM.2.2 i i0 i1).2 hnz
end KBC
