/-! TEXT: its LINES, in the class, 3 -/
section KTI
variable {w : Nat} {σ σ0 τ : jg_M} {a G n p k : Nat} {B : Nat → Int} {g g' : gM} {m c : Int} {t : kt_T} {R : kt_R} {KV : jg_M → Prop} {KI : Int → jg_M → Prop} {x : Int}
theorem kt_jrS {s : Int} (hW : jn_GW g) (h : jn_isS g s) : 0 ≤ s ∧ s < 15 := by
  have hw := hW.1
  unfold jn_isS at h
  omega
theorem jc_syms (h0 : jg_sh a = (9, 0)) (h1 : jg_sh G = (0, 0)) (haG : a + 1 < G) : ∀ (f : Nat) (g : gM) (p k : Nat) (σ : jg_M) (u2 : Value), k + f = 5 → kt_By σ a B n → p ≤ n → σ.1 a 4 = (p : Nat) → kt_GC σ G g (g 0 2 + 1) → kt_ok g → kt_bg g → g 4 (g 0 2) = (k : Nat) → jF (kW_cp a G) σ0 σ → kt_PC σ0 a G (kt_sy B n f g p) KI → jg_GI w 4 mm_X9_takeRule 57 [.ref a, .ref G, u2, .int (.ofInt (k : Int))] σ KI := by
  intro f
  induction f with
  | zero =>
    intro g p k σ u2 hkf hB hp h4 hG hok hb hlen hf hk
    have := hb.2.2.1
    omega
  | succ f ih =>
    intro g p k σ u2 hkf hB hp h4 hG hok hb hlen hf hk
    have hw := hok.1.1.1
    have hs := (kt_tk_le (B := B) hp)
    refine jb_X9_takeRule_57 h0 h1 ?_
    rw [jr_wr (show jr (k : Int) by omega)]
    refine jn_ite (fun h => by omega) (fun _ => jc_advance h0 hB hp h4 (fun τ hfa hC => ?_))
    have hfτ := kW_ad_cp hf hfa
    have hGτ := kt_GC_fr hG hfa (fun i q => by unfold kW_ad at q; omega) (fun c i c1 c2 q => by unfold kW_ad at q; omega)
    have hBτ := kt_By_fr hB hfa (fun q => by unfold kW_ad at q; omega) (fun i q => by unfold kW_ad at q; omega)
    unfold kt_sy at hk
    rw [hC.1, jr_wr (show jr (kt_tk B n p).1 by omega)]
    refine jn_ite (fun h2 => ?_) (fun h2 => ?_)
    · rw [if_pos h2] at hk
      refine jc_addRule h1 hGτ hok hb.1 hb.2.2.1 (by have := hb.2.1; omega) (fun d d0 d1 => by have := kt_jrS hok.1.1 (hb.2.2.2 d d0 d1); omega) (fun hdp => ?_) (fun hnd τ2 hτ2 => ?_)
      · rw [if_pos hdp] at hk
        refine jn_ite (fun _ => ?_) (fun h => absurd rfl h)
        exact jc_refuse (k := (kt_tk B n p).2.1) h0 haG hfτ hC.2.1 rfl (kt_PC_if hk)
      · rw [if_neg hnd] at hk
        refine jn_ite (fun h => absurd h (by decide)) (fun _ => ?_)
        have hf2 : jF (fun c i => c = G ∧ i = 2) τ τ2 := by rw [hτ2]; exact jF_I ⟨rfl, rfl⟩
        refine hk.2 _ _ rfl τ2 (jF_tr hfτ (jF_mono hf2 (fun c i q => by unfold kW_cp; omega))) ?_ (by rw [hf2.1 _ _ (by omega)]; exact hC.2.2.1)
        obtain ⟨⟨a0, a1, a2, a3, a4⟩, b, c, d⟩ := hGτ
        have eo : ∀ (i : Nat) (j : Int), (i ≠ 0 ∨ j ≠ 2) → kt_up g 0 2 (g 0 2 + 1) i j = g i j := fun i j h => kt_up_ne h
        have e2 : kt_up g 0 2 (g 0 2 + 1) 0 2 = g 0 2 + 1 := kt_up_at
        rw [e2]
        refine ⟨⟨?_, ?_, ?_, ?_, ?_⟩, fun s hss => ?_, fun t t0 t1 => ?_, fun r r0 r1 => ?_⟩
        · rw [hf2.1 _ _ (by omega), a0, eo 0 0 (by decide)]
        · rw [hf2.1 _ _ (by omega), a1, eo 0 1 (by decide)]
        · rw [hτ2, js_Is, e2]
        · rw [hf2.1 _ _ (by omega), a3, eo 0 3 (by decide)]
        · rw [hf2.1 _ _ (by omega), a4, eo 0 4 (by decide)]
        · rw [hf2.1 _ _ (by omega), eo 6 s (Or.inl (by decide))]
          exact b s (by unfold jn_isS at hss ⊢; rw [eo 0 0 (by decide), eo 0 1 (by decide)] at hss; exact hss)
        · rw [hf2.1 _ _ (by omega), hf2.1 (G + 3) _ (by omega), eo 1 t (Or.inl (by decide)), eo 2 t (Or.inl (by decide))]
          exact c t t0 t1
        · rw [hf2.1 _ _ (by omega), hf2.1 (G + 5) _ (by omega), eo 3 r (Or.inl (by decide)), eo 4 r (Or.inl (by decide))]
          refine ⟨(d r r0 r1).1, (d r r0 r1).2.1, fun e e0 e1 => ?_⟩
          rw [hf2.1 _ _ (by omega), eo 5 _ (Or.inl (by decide))]
          exact (d r r0 r1).2.2 e e0 e1
    · rw [if_neg h2] at hk
      refine jb_X9_takeSymbol_0 h0 h1 (jc_isName h0 hC hp (jn_if (fun hno => ?_) (fun hyes => ?_)))
      · rw [if_neg hno] at hk
        exact jc_refuse (k := (kt_tk B n p).2.1) h0 haG hfτ hC.2.1 rfl (kt_PC_01 (kt_PC_in hk (fun τ h => (if_pos (show jg_wr 0 = 0 from rfl)).mpr h)))
      · rw [if_pos hyes] at hk
        have hv := kt_tk_v0 (B := B) hp hyes.1
        have hfr := kt_fd_rng (c := (kt_tk B n p).2.2.2) hok.1.1
        have hrow := hGτ.2.2.2 (g 0 2) (by omega) (by omega)
        refine jb_X0_ruleIsFull_0 h1 ?_
        rw [hGτ.1.2.2.1, jr_wr (show jr (g 0 2) by omega), hrow.2.1, hlen, jr_wr (show jr ((k : Nat) : Int) by omega)]
        refine jn_ite (fun h => by have := hb.1; omega) (fun _ => ⟨by have := hb.1; omega, jn_ite (fun hlt => ?_) (fun hge => ?_)⟩)
        · rw [if_neg (by omega)] at hk
          refine jn_ite (fun _ => ?_) (fun h => absurd rfl h)
          rw [hC.2.2.2.1 hyes.1]
          refine jc_symbolNamed h1 hGτ (by omega) hok (by omega) ?_
          generalize hvv : (kt_tk B n p).2.2.2 = v at *
          rw [jr_wr (show jr (kt_fd g v) by omega)]
          refine jn_ite (fun hneg => ?_) (fun hpos => ?_)
          · rw [if_pos (by omega)] at hk
            exact jc_refuse (k := (kt_tk B n p).2.1) h0 haG hfτ hC.2.1 rfl (kt_PC_01 (kt_PC_in hk (fun τ h => (if_pos (show jg_wr 0 = 0 from rfl)).mpr h)))
          · rw [if_neg (by omega)] at hk
            have hS := hfr.2.2 (by omega)
            refine jb_X0_addSymbol_0 h1 ?_
            rw [hGτ.1.2.2.1, jr_wr (show jr (g 0 2) by omega), hrow.2.1, hlen, jr_wr (show jr ((k : Nat) : Int) by omega), jr_wr (show jr (g 0 2 * 4 + ((k : Nat) : Int)) by omega)]
            refine jn_ite (fun h => by have := hb.1; omega) (fun _ => ⟨by have := hb.1; omega, jn_ite (fun _ => ⟨by have := hb.1; omega, by have := hb.1; omega, ?_⟩) (fun h => by omega)⟩)
            intro τ1 hτ1
            have e12 : τ1.1 G 2 = g 0 2 := by rw [hτ1, js_In (Or.inl (by omega))]; exact hGτ.1.2.2.1
            have e15 : τ1.1 (G + 5) (g 0 2) = (k : Nat) := by rw [hτ1, js_In (Or.inl (by omega)), hrow.2.1]; exact hlen
            rw [e12, jr_wr (show jr (g 0 2) by omega), e15]
            refine ⟨by have := hb.1; omega, by have := hb.1; omega, ?_⟩
            intro τ2 hτ2
            refine ⟨Or.inr (by decide), jn_ite (fun h => absurd h (by decide)) (fun _ => ?_)⟩
            have hf2 : jF (fun c i => (c = G + 6 ∧ i = g 0 2 * 4 + (k : Nat)) ∨ (c = G + 5 ∧ i = g 0 2)) τ τ2 := by rw [hτ2, hτ1]; exact jF_toI (jF_I (Or.inl ⟨rfl, rfl⟩)) (Or.inr ⟨rfl, rfl⟩)
            have hsok := kt_aS_ok (x := kt_fd g v) hok hb (by omega) hS
            have e0 := fun j => kt_aS_e (g := g) (x := kt_fd g v) (i := 0) (j := j) (by decide)
            have e4 : kt_aS g (kt_fd g v) 4 (g 0 2) = g 4 (g 0 2) + 1 := kt_up_at
            have := ih (kt_aS g (kt_fd g v)) (kt_tk B n p).2.2.1 (k + 1) τ2 u2 (by omega) (kt_By_fr hBτ hf2 (fun q => by omega) (fun i q => by omega)) hs.2.2.1 (by rw [hf2.1 _ _ (by omega)]; exact hC.2.2.1) ?_ hsok.1 hsok.2 (by rw [e0, e4]; omega) (jF_tr hfτ (jF_mono hf2 (fun c i q => by unfold kW_cp; omega))) hk
            · rw [show ((k + 1 : Nat) : Int) = (k : Int) + 1 by omega] at this
              exact this
            · obtain ⟨⟨a0, a1, a2, a3, a4⟩, b, c, d⟩ := hGτ
              rw [e0]
              refine ⟨⟨?_, ?_, ?_, ?_, ?_⟩, fun s hss => ?_, fun t t0 t1 => ?_, fun r r0 r1 => ?_⟩
              · rw [hf2.1 _ _ (by omega), a0, e0]
              · rw [hf2.1 _ _ (by omega), a1, e0]
              · rw [hf2.1 _ _ (by omega), a2, e0]
              · rw [hf2.1 _ _ (by omega), a3, e0]
              · rw [hf2.1 _ _ (by omega), a4, e0]
              · rw [hf2.1 _ _ (by omega), kt_aS_e (by decide)]
                exact b s (by unfold jn_isS at hss ⊢; rw [e0, e0] at hss; exact hss)
              · rw [hf2.1 _ _ (by omega), hf2.1 (G + 3) _ (by omega), kt_aS_e (by decide), kt_aS_e (by decide)]
                exact c t t0 t1
              · rw [hf2.1 _ _ (by omega), kt_aS_e (by decide)]
                by_cases hrr : r = g 0 2
                · subst hrr
                  refine ⟨(d (g 0 2) r0 r1).1, ?_, fun e e0' e1 => ?_⟩
                  · rw [hτ2, js_Is, e4, hlen]
                  · rw [e4] at e1
                    rw [hτ2, js_In (Or.inl (by omega)), hτ1]
                    by_cases hek : e = (k : Int)
                    · subst hek
                      rw [js_Is]
                      unfold kt_aS
                      rw [kt_up_ne (Or.inl (by decide)), ← hlen, kt_up_at]
                    · rw [js_In (Or.inr (by omega))]
                      unfold kt_aS
                      rw [kt_up_ne (Or.inl (by decide)), kt_up_ne (Or.inr (by omega))]
                      exact (d (g 0 2) r0 r1).2.2 e e0' (by omega)
                · have er4 : kt_aS g (kt_fd g v) 4 r = g 4 r := by unfold kt_aS; rw [kt_up_ne (Or.inr hrr), kt_up_ne (Or.inl (by decide))]
                  rw [hf2.1 _ _ (by omega), er4]
                  refine ⟨(d r r0 r1).1, (d r r0 r1).2.1, fun e e0' e1 => ?_⟩
                  have hr4 := (hok.1.1.2.1 r r0 (by omega)).2.1
                  rw [hf2.1 _ _ (by omega)]
                  unfold kt_aS
                  rw [kt_up_ne (Or.inl (by decide)), kt_up_ne (Or.inr (by omega))]
                  exact (d r r0 r1).2.2 e e0' e1
        · rw [if_pos (by omega)] at hk
          refine jn_ite (fun h => absurd h (by decide)) (fun _ => ?_)
          exact jc_refuse (k := (kt_tk B n p).2.1) h0 haG hfτ hC.2.1 rfl (kt_PC_01 (kt_PC_in hk (fun τ h => (if_pos (show jg_wr 0 = 0 from rfl)).mpr h)))
theorem jc_ruL (h0 : jg_sh a = (9, 0)) (h1 : jg_sh G = (0, 0)) (haG : a + 1 < G) (hB : kt_By σ a B n) (hp : p ≤ n) (h4 : σ.1 a 4 = (p : Nat)) (h6 : σ.1 a 6 = (k : Nat)) (hG : kt_GC σ G g (g 0 2)) (hok : kt_ok g) (hf : jF (kW_cp a G) σ0 σ) (hk : kt_PC σ0 a G (kt_ruL B n g k p) KI) : jg_CI w 4 mm_X9_takeRule [.ref a, .ref G] σ KI := by
  have hw := hok.1.1.1
  have hs := (kt_tk_le (B := B) hp)
  refine jb_X9_takeRule_0 h0 h1 ?_
  rw [hG.1.2.2.1, jr_wr (show jr (g 0 2) by omega)]
  unfold kt_ruL at hk
  refine jn_ite (fun hlt => jb_X9_takeName_0 h0 (jc_advance h0 hB hp h4 (fun τ hfa hC => ?_))) (fun hge => jc_refuse h0 haG hf h6 (by rw [if_pos (by omega)]) (kt_PC_01 hk))
  rw [if_neg (by omega)] at hk
  have hfτ := kW_ad_cp hf hfa
  have hGτ := kt_GC_fr hG hfa (fun i q => by unfold kW_ad at q; omega) (fun c i c1 c2 q => by unfold kW_ad at q; omega)
  have hBτ := kt_By_fr hB hfa (fun q => by unfold kW_ad at q; omega) (fun i q => by unfold kW_ad at q; omega)
  refine jc_isName h0 hC hp (jn_if (fun hno => ?_) (fun hyes => ?_))
  · rw [if_neg hno] at hk
    exact jc_refuse (k := (kt_tk B n p).2.1) h0 haG hfτ hC.2.1 rfl (kt_PC_in hk (fun τ h => (if_pos (show jg_wr 0 = 0 from rfl)).mpr ((if_pos (show jg_wr 0 = 0 from rfl)).mpr h)))
  · rw [if_pos hyes] at hk
    have hv := kt_tk_v0 (B := B) hp hyes.1
    have hfr := kt_fd_rng (c := (kt_tk B n p).2.2.2) hok.1.1
    refine jn_ite (fun h => absurd h (by decide)) (fun _ => ?_)
    rw [hC.2.2.2.1 hyes.1]
    refine jc_symbolNamed h1 hGτ (Int.le_refl _) hok (by omega) ?_
    generalize hvv : (kt_tk B n p).2.2.2 = v at *
    rintro _ rfl
    refine jc_X0_hasKind h1 (kt_GC_Gr hGτ (Int.le_refl _) hok.1.1) hok.1.1 (by omega) (jn_if (fun hno => ?_) (fun hyk => ?_))
    · have hlt10 : kt_fd g v < 10 := by
        refine Classical.byContradiction (fun hge => ?_)
        have := hfr.2.2 (by omega)
        unfold jn_isS at this
        omega
      rw [if_pos hlt10] at hk
      exact jc_refuse (k := (kt_tk B n p).2.1) h0 haG hfτ hC.2.1 rfl (kt_PC_01 hk)
    · rw [if_neg (by omega)] at hk
      refine jb_X0_beginRule_0 h1 ?_
      rw [hGτ.1.2.2.1, jr_wr (show jr (g 0 2) by omega)]
      refine jn_ite (fun h => by omega) (fun _ => ⟨by omega, ?_⟩)
      intro τ1 hτ1
      have e12 : τ1.1 G 2 = g 0 2 := by rw [hτ1, js_In (Or.inl (by omega))]; exact hGτ.1.2.2.1
      rw [e12, jr_wr (show jr (g 0 2) by omega)]
      refine ⟨by omega, ?_⟩
      intro τ2 hτ2
      have hf2 : jF (fun c i => (c = G + 4 ∧ i = g 0 2) ∨ (c = G + 5 ∧ i = g 0 2)) τ τ2 := by rw [hτ2, hτ1]; exact jF_toI (jF_I (Or.inl ⟨rfl, rfl⟩)) (Or.inr ⟨rfl, rfl⟩)
      have e0 := fun j => kt_aB_e (g := g) (x := kt_fd g v - 10) (i := 0) (j := j) (by decide)
      have e4 : kt_aB g (kt_fd g v - 10) 4 (g 0 2) = 0 := kt_up_at
      have e3 : kt_aB g (kt_fd g v - 10) 3 (g 0 2) = kt_fd g v - 10 := by unfold kt_aB; rw [kt_up_ne (Or.inl (by decide)), kt_up_at]
      have er : ∀ r, r ≠ g 0 2 → kt_aB g (kt_fd g v - 10) 3 r = g 3 r ∧ kt_aB g (kt_fd g v - 10) 4 r = g 4 r := fun r hr => by
        unfold kt_aB
        rw [kt_up_ne (Or.inl (by decide)), kt_up_ne (Or.inr hr), kt_up_ne (Or.inr hr), kt_up_ne (Or.inl (by decide))]
        exact ⟨rfl, rfl⟩
      refine jc_syms h0 h1 haG 5 (kt_aB g (kt_fd g v - 10)) (kt_tk B n p).2.2.1 0 τ2 _ rfl (kt_By_fr hBτ hf2 (fun q => by omega) (fun i q => by omega)) hs.2.2.1 (by rw [hf2.1 _ _ (by omega)]; exact hC.2.2.1) ?_ ?_ ⟨by rw [e0]; omega, by rw [e0, e0, e3]; omega, by rw [e0, e4]; omega, fun d d0 d1 => by rw [e0, e4] at d1; omega⟩ (by rw [e0, e4]; rfl) (jF_tr hfτ (jF_mono hf2 (fun c i q => by unfold kW_cp; omega))) hk
      · obtain ⟨⟨a0, a1, a2, a3, a4⟩, b, c, d⟩ := hGτ
        rw [e0]
        refine ⟨⟨?_, ?_, ?_, ?_, ?_⟩, fun s hss => ?_, fun t t0 t1 => ?_, fun r r0 r1 => ?_⟩
        · rw [hf2.1 _ _ (by omega), a0, e0]
        · rw [hf2.1 _ _ (by omega), a1, e0]
        · rw [hf2.1 _ _ (by omega), a2, e0]
        · rw [hf2.1 _ _ (by omega), a3, e0]
        · rw [hf2.1 _ _ (by omega), a4, e0]
        · rw [hf2.1 _ _ (by omega), kt_aB_e (by decide)]
          exact b s (by unfold jn_isS at hss ⊢; rw [e0, e0] at hss; exact hss)
        · rw [hf2.1 _ _ (by omega), hf2.1 (G + 3) _ (by omega), kt_aB_e (by decide), kt_aB_e (by decide)]
          exact c t t0 t1
        · by_cases hrr : r = g 0 2
          · subst hrr
            rw [e3, e4]
            refine ⟨?_, ?_, fun e e0' e1 => by omega⟩
            · rw [hτ2, js_In (Or.inl (by omega)), hτ1, js_Is]
            · rw [hτ2, js_Is]
          · rw [hf2.1 _ _ (by omega), hf2.1 (G + 5) _ (by omega), (er r hrr).1, (er r hrr).2]
            refine ⟨(d r r0 (by omega)).1, (d r r0 (by omega)).2.1, fun e e0' e1 => ?_⟩
            rw [hf2.1 _ _ (by omega), kt_aB_e (by decide)]
            exact (d r r0 (by omega)).2.2 e e0' e1
      · exact kt_ok_cg hok e0 (fun j => kt_aB_e (by decide)) (fun j => kt_aB_e (by decide)) (fun j => kt_aB_e (by decide)) (fun r r0 r1 => ⟨(er r (by omega)).1, (er r (by omega)).2, fun d d0 d1 => kt_aB_e (by decide)⟩)
end KTI
