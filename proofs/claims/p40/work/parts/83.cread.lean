/-! READING, in the class -/
section KRC
def kr_Ro (σ : jg_M) (R : Nat) (K : kr_K) : Prop := σ.1 R 2 = (K.1 : Nat) ∧ ∀ i : Nat, i < K.1 → σ.1 (R + 1) (i : Int) = K.2 i
def kW_ro (R : Nat) (c : Nat) (i : Int) : Prop := c = R + 1 ∨ (c = R ∧ 2 ≤ i ∧ i ≤ 4)
/-- what a reader needs of the class' tables -/
def kr_CV (σ : jg_M) (T : Nat) (g : gM) : Prop := jn_Gr σ (T + 1) g ∧ σ.1 (T + 10) 0 = (kg_S g).1 ∧ (∀ s x, 0 ≤ s → s < (kg_S g).1 → 0 ≤ x → x < 15 → σ.1 (T + 14) (s * 15 + x) = jn_m2 (kr_mv g s x)) ∧ ∀ s t, 0 ≤ s → s < (kg_S g).1 → 0 ≤ t → t ≤ g 0 0 → σ.1 (T + 20) (s * 8 + t) = kr_ac g s t
variable {w : Nat} {σ τ : jg_M} {R T n : Nat} {g : gM} {K : kr_K} {v k t : Int} {KV : jg_M → Prop} {KI : Int → jg_M → Prop}
theorem kr_CV_of (hW : jn_GW g) (h : kg_CT σ T g 0) (h0 : 0 < g 0 1) : kr_CV σ T g ∧ jn_FP g (kg_S g) ∧ jn_all g = some (kg_S g) := by
  obtain ⟨h1, h2, h3⟩ := h
  rcases h3 with h3 | ⟨_, q1, q2, q3, q4, q5, q6⟩
  · omega
  · have hI := q2.1.1
    refine ⟨⟨h1.1, q4.1.1, fun s x s0 s1 x0 x1 => q4.2.1 s x s0 s1 x0 x1, fun s t s0 s1 t0 t1 => ?_⟩, q2, q1⟩
    have hw := hW.1
    exact ((q6 s t s0 (by omega) t0 (by omega)).1 ⟨s1, t1⟩).1
theorem kr_CV_fr {W : Nat → Int → Prop} (h : kr_CV σ T g) (hf : jF W σ τ) (hn : ∀ c i, T + 1 ≤ c → c ≤ T + 21 → ¬ W c i) : kr_CV τ T g :=
  ⟨jn_Gr_fr h.1 hf (fun i _ => hn _ _ (by omega) (by omega)) (fun k i k1 k2 => hn _ _ (by omega) (by omega)), (hf.1 _ _ (hn _ _ (by omega) (by omega))).trans h.2.1, fun s x s0 s1 x0 x1 => (hf.1 _ _ (hn _ _ (by omega) (by omega))).trans (h.2.2.1 s x s0 s1 x0 x1), fun s t s0 s1 t0 t1 => (hf.1 _ _ (hn _ _ (by omega) (by omega))).trans (h.2.2.2 s t s0 s1 t0 t1)⟩
theorem jc_X5_last (h0 : jg_sh R = (5, 0)) (hR : kr_Ro σ R K) (hn : 1 ≤ K.1 ∧ K.1 ≤ 40) (hk : KI (K.2 ((K.1 : Int) - 1)) σ) : jg_CI w 0 mm_X5_stateBehindLast [.ref R, .int (.ofInt 0)] σ KI := by
  refine jb_X5_stateBehindLast_0 h0 ?_
  rw [hR.1, show jg_wr 0 = 0 from rfl, jr_wr (show jr ((K.1 : Nat) : Int) by omega), jr_wr (show jr (((K.1 : Nat) : Int) - 1 - 0) by omega)]
  refine jn_ite (fun h => by omega) (fun _ => jn_ite (fun h => by omega) (fun _ => jn_ite (fun h => by omega) (fun _ => ⟨by omega, ?_⟩)))
  have := hR.2 (K.1 - 1) (by omega)
  rw [show ((K.1 - 1 : Nat) : Int) = (K.1 : Int) - 1 by omega] at this
  rw [show ((K.1 : Nat) : Int) - 1 - 0 = (K.1 : Int) - 1 by omega, this]
  exact hk
theorem jc_X5_add (h0 : jg_sh R = (5, 0)) (hR : kr_Ro σ R K) (hn : K.1 ≤ 40) (k0 : 40 ≤ K.1 → KI 0 σ) (k1 : K.1 < 40 → ∀ τ, jF (kW_ro R) σ τ → kr_Ro τ R (kr_ps K.1 K.2 v) → τ.1 R 3 = σ.1 R 3 → τ.1 R 4 = σ.1 R 4 → KI 1 τ) : jg_CI w 0 mm_X5_add [.ref R, .int (.ofInt v)] σ KI := by
  refine jb_X5_add_0 h0 ?_
  rw [hR.1, jr_wr (show jr ((K.1 : Nat) : Int) by omega)]
  refine jn_ite (fun h => by omega) (fun _ => jn_ite (fun h => ⟨by omega, ?_⟩) (fun h => k0 (by omega)))
  rintro _ rfl _ rfl
  refine k1 (by omega) _ (jF_toI (jF_I (Or.inl rfl)) (Or.inr ⟨rfl, by omega, by omega⟩)) ⟨?_, fun i hi => ?_⟩ ?_ ?_
  · rw [js_Is, js_In (Or.inl (by omega)), hR.1]
    show (K.1 : Int) + 1 = ((K.1 + 1 : Nat) : Int)
    omega
  · have hi' : i < K.1 + 1 := hi
    rw [js_In (Or.inl (by omega))]
    show _ = jn_u1 K.2 (K.1 : Int) v i
    unfold jn_u1
    by_cases he : (i : Int) = (K.1 : Int)
    · rw [if_pos he, he, js_Is]
    · rw [if_neg he, js_In (Or.inr he)]
      exact hR.2 i (by omega)
  · rw [js_In (Or.inr (by omega)), js_In (Or.inl (by omega))]
  · rw [js_In (Or.inr (by omega)), js_In (Or.inl (by omega))]
theorem jc_X5_take (h0 : jg_sh R = (5, 0)) (hT : jg_sh T = (8, 0)) (h1 : jg_sh (T + 1) = (0, 0)) (h2 : jg_sh (T + 10) = (7, 0)) (hTR : T + 22 ≤ R) (hW : jn_GW g) (hF : jn_FP g (kg_S g)) (hC : kr_CV σ T g) (hR : kr_Ro σ R K) (hK : kr_ok g K) (ht : 0 ≤ t ∧ t ≤ g 0 0)
    (k0 : kr_take g t K = none → ∀ τ, jF (kW_ro R) σ τ → KI (-2) τ)
    (k1 : ∀ b d K', kr_take g t K = some (b, d, K') → ∀ τ, jF (kW_ro R) σ τ → kr_Ro τ R K' → τ.1 R 3 = σ.1 R 3 + (d : Nat) → τ.1 R 4 = σ.1 R 4 + (if b = true then 0 else 1) → KI (d : Nat) τ) : jg_CI w 3 mm_X5_take [.ref R, .ref T, .int (.ofInt t)] σ KI := by
  have hw := hW.1
  have hI := hF.1.1
  have hloop : ∀ (f d : Nat) (K1 : kr_K) (τ : jg_M) (u : Value), d + f = 61 → kr_ok g K1 → jF (kW_ro R) σ τ → kr_Ro τ R K1 → τ.1 R 3 = σ.1 R 3 + (d : Nat) → τ.1 R 4 = σ.1 R 4 → kr_tk g t f d K1 = kr_take g t K → jg_GI w 3 mm_X5_take 2 [.ref R, .ref T, .int (.ofInt t), .int (.ofInt (d : Int)), u] τ KI := by
    intro f
    induction f with
    | zero =>
      intro d K1 τ u hd hK1 hf hR1 h3 h4 he
      refine jb_X5_take_2 h0 hT ?_
      rw [jr_wr (by omega)]
      exact jn_ite (fun _ => k0 (by rw [← he]; rfl) τ hf) (fun h => by omega)
    | succ f ih =>
      intro d K1 τ u hd hK1 hf hR1 h3 h4 he
      have hCτ := kr_CV_fr hC hf (fun c i c1 c2 q => by unfold kW_ro at q; omega)
      have hn1 := hK1.1
      have hs := hK1.2.2.1 (K1.1 - 1) (by omega)
      rw [show ((K1.1 - 1 : Nat) : Int) = (K1.1 : Int) - 1 by omega] at hs
      have hc := kr_ac_cases hW hF hs ht
      have hac := hCτ.2.2.2 (K1.2 ((K1.1 : Int) - 1)) t hs.1 hs.2 ht.1 ht.2
      refine jb_X5_take_2 h0 hT ?_
      rw [jr_wr (show jr (d : Int) by omega)]
      refine jn_ite (fun h => by omega) (fun _ => jc_X5_last h0 hR1 hn1 (jc_X8_actionFor hT h2 hCτ.2.1 (by omega) (by omega) (by omega) ?_))
      rw [show (if (0 ≤ K1.2 ((K1.1 : Int) - 1) ∧ K1.2 ((K1.1 : Int) - 1) < (kg_S g).1) ∧ 0 ≤ t ∧ t < 8 then τ.1 (T + 20) (K1.2 ((K1.1 : Int) - 1) * 8 + t) else 0) = kr_ac g (K1.2 ((K1.1 : Int) - 1)) t by rw [if_pos ⟨hs, by omega, by omega⟩]; exact hac]
      unfold kr_tk at he
      generalize hav : kr_ac g (K1.2 ((K1.1 : Int) - 1)) t = av at *
      have hav2 : jr av := by rcases hc with q | q | q | ⟨r, q, hr, _⟩ <;> omega
      rw [jr_wr hav2]
      refine jn_ite (fun ha => ?_) (fun ha => jn_ite (fun hred => ?_) (fun hred => jn_ite (fun hlow => ?_) (fun hsh => ?_)))
      · rw [if_pos ha] at he
        exact k1 true d K1 he.symm τ hf hR1 h3 (by rw [h4, if_pos rfl, Int.add_zero])
      · rw [if_neg ha, if_neg (by omega), if_neg (by omega)] at he
        rcases hc with q | q | q | ⟨r, q, hr, hbit⟩
        · omega
        · omega
        · omega
        · have e2 : av - 2000 = (r : Int) := by omega
          rw [e2] at he ⊢
          have hrd := kr_red hW hF hK1 hr hbit
          have hg3 := hW.2.1 (r : Int) (by omega) hr
          have hlen : jn_len g r = g 4 r := by unfold jn_len; rw [if_neg (by omega), if_pos (by omega)]
          refine jb_X5_reduceBy_0 h0 hT (jc_X0_lengthOf h1 hCτ.1 hW (by omega) ?_)
          rw [hlen, hR1.1, jr_wr (show jr (g 4 r) by omega), jr_wr (show jr ((K1.1 : Nat) : Int) by omega)]
          refine jn_ite (fun _ => ?_) (fun h => by omega)
          intro τ1 hτ1
          have hf1 : jF (kW_ro R) τ τ1 := by rw [hτ1]; exact jF_I (Or.inr ⟨rfl, by omega, by omega⟩)
          have hfσ := jF_tr hf hf1
          have hC1 := kr_CV_fr hC hfσ (fun c i c1 c2 q => by unfold kW_ro at q; omega)
          have hR2 : kr_Ro τ1 R (K1.1 - (g 4 r).toNat, K1.2) := ⟨by
            rw [hτ1, js_Is]
            show (K1.1 : Int) - g 4 r = ((K1.1 - (g 4 r).toNat : Nat) : Int)
            omega, fun i hi => by
            have hi' : i < K1.1 - (g 4 r).toNat := hi
            rw [hτ1, js_In (Or.inl (by omega))]
            exact hR1.2 i (by omega)⟩
          have hst := hK1.2.2.1 (K1.1 - (g 4 r).toNat - 1) (by omega)
          rw [show ((K1.1 - (g 4 r).toNat - 1 : Nat) : Int) = ((K1.1 - (g 4 r).toNat : Nat) : Int) - 1 by omega] at hst
          refine jc_X5_last h0 hR2 (by show 1 ≤ K1.1 - (g 4 r).toNat ∧ K1.1 - (g 4 r).toNat ≤ 40; omega) (jc_X0_kindOf h1 hC1.1 hW (by omega) ?_)
          rw [show (if 0 ≤ (r : Int) ∧ (r : Int) < g 0 2 then g 3 r else -1) = g 3 r from if_pos ⟨by omega, hr⟩]
          refine jc_X7_moveBy h2 hC1.2.1 (by omega) (by show jr (K1.2 (((K1.1 - (g 4 r).toNat : Nat) : Int) - 1)); omega) (by omega) ?_
          have hmv := hC1.2.2.1 (K1.2 (((K1.1 - (g 4 r).toNat : Nat) : Int) - 1)) (10 + g 3 r) hst.1 hst.2 (by omega) (by omega)
          have hm2 : jn_m2 (kr_mv g (K1.2 (((K1.1 - (g 4 r).toNat : Nat) : Int) - 1)) (10 + g 3 r)) = kr_mv g (K1.2 (((K1.1 - (g 4 r).toNat : Nat) : Int) - 1)) (10 + g 3 r) := by unfold jn_m2; rw [if_neg (by omega)]
          rw [hm2] at hmv
          show (if jg_wr (if (0 ≤ K1.2 (((K1.1 - (g 4 r).toNat : Nat) : Int) - 1) ∧ K1.2 (((K1.1 - (g 4 r).toNat : Nat) : Int) - 1) < (kg_S g).1) ∧ 0 ≤ 10 + g 3 r ∧ 10 + g 3 r < 15 then τ1.1 (T + 10 + 4) (K1.2 (((K1.1 - (g 4 r).toNat : Nat) : Int) - 1) * 15 + (10 + g 3 r)) else -2) < 0 then _ else _)
          rw [if_pos (c := (0 ≤ K1.2 (((K1.1 - (g 4 r).toNat : Nat) : Int) - 1) ∧ K1.2 (((K1.1 - (g 4 r).toNat : Nat) : Int) - 1) < (kg_S g).1) ∧ 0 ≤ 10 + g 3 r ∧ 10 + g 3 r < 15) ⟨hst, by omega, by omega⟩]
          rw [show T + 10 + 4 = T + 14 by omega, hmv]
          generalize hmvv : kr_mv g (K1.2 (((K1.1 - (g 4 r).toNat : Nat) : Int) - 1)) (10 + g 3 r) = mv at *
          rw [jr_wr (show jr mv by omega)]
          refine jn_ite (fun h => by omega) (fun _ => ?_)
          refine jc_X5_add h0 hR2 (by show K1.1 - (g 4 r).toNat ≤ 40; omega) (fun h40 => ?_) (fun h40 τ3 hf3 hR3 h33 h34 => ?_)
          · have h40' : 40 ≤ K1.1 - (g 4 r).toNat := h40
            rw [if_neg (by omega)] at he
            exact jn_ite (fun _ => jn_ite (fun _ => k0 he.symm τ1 hfσ) (fun h => absurd rfl h)) (fun h => absurd rfl h)
          · have h40' : K1.1 - (g 4 r).toNat < 40 := h40
            rw [if_pos h40'] at he
            refine jn_ite (fun h => by cases h) (fun _ => jn_ite (fun h => by cases h) (fun _ => ?_))
            rintro _ rfl
            have hk2 := kr_ps_ok hK1 (n := K1.1 - (g 4 r).toNat) ⟨by omega, by omega, h40'⟩ (v := mv) ⟨by omega, by omega⟩ (x := 10 + g 3 r) ⟨by omega, by omega⟩ hmvv
            have := ih (d + 1) (kr_ps (K1.1 - (g 4 r).toNat) K1.2 mv) (jg_sI τ3 R 3 (τ3.1 R 3 + 1)) (.int (.ofInt av)) (by omega) hk2 (jF_toI (jF_tr hfσ hf3) (Or.inr ⟨rfl, by omega, by omega⟩)) ⟨by rw [js_In (Or.inr (by omega))]; exact hR3.1, fun i hi => by rw [js_In (Or.inl (by omega))]; exact hR3.2 i hi⟩ (by
              rw [js_Is, h33, hτ1, js_In (Or.inr (by omega)), h3]; omega) (by rw [js_In (Or.inr (by omega)), h34, hτ1, js_In (Or.inr (by omega)), h4]) he
            rw [show ((d + 1 : Nat) : Int) = (d : Int) + 1 by omega] at this
            exact this
      · rw [if_neg ha, if_pos hlow] at he
        exact k0 he.symm τ hf
      · rw [if_neg ha, if_neg hsh, if_pos (by omega)] at he
        refine jc_X5_add h0 hR1 hn1.2 (fun h40 => ?_) (fun h40 τ3 hf3 hR3 h33 h34 => ?_)
        · rw [if_neg (by omega)] at he
          exact jn_ite (fun _ => k0 he.symm τ hf) (fun h => absurd rfl h)
        · rw [if_pos h40] at he
          refine jn_ite (fun h => by cases h) (fun _ => ?_)
          rintro _ rfl
          refine k1 false d _ he.symm _ (jF_toI (jF_tr hf hf3) (Or.inr ⟨rfl, by omega, by omega⟩)) ⟨by rw [js_In (Or.inr (by omega))]; exact hR3.1, fun i hi => by rw [js_In (Or.inl (by omega))]; exact hR3.2 i hi⟩ (by rw [js_In (Or.inr (by omega)), h33, h3]) (by rw [js_Is, h34, h4]; rfl)
  exact jb_X5_take_0 h0 hT (hloop 61 0 K σ _ rfl hK jF_rf hR (by omega) rfl rfl)
end KRC
