/-! SHORTEST: rows made and compared, in the reference -/
section KAM
def kW_mt (c : Nat) (i : Int) : Prop := c = 92 + 33 ∨ (c = 92 ∧ i = 48)
variable {zN : Int} {w : Nat} {σ τ : jg_M} {a1 n1 : Nat} {g : gM} {x b L : Int} {p v : Nat × Nat} {V : ka_Ve} {KV : jg_M → Prop} {KI : Int → jg_M → Prop}
theorem jm_addRow (hx : 0 ≤ x ∧ x < 5) (hV : ka_KR zN (σ.1 (92 + 30)) (σ.1 (92 + 29)) V) (hT : ka_TR (σ.1 (92 + 33)) (σ.1 92 48) 160 p) (hL : 0 ≤ σ.1 (92 + 29) x) (hM : p.1 + (V x).1 ≤ 160)
    (k1 : ∀ τ, jF kW_mt σ τ → ka_TR (τ.1 (92 + 33)) (τ.1 92 48) 160 (ka_cat p (V x)) → KV τ) : jg_CV w 0 mm_X12_addRow [.ref 92, .int (.ofInt x)] σ KV := by
  have hp := hT.2.1
  rcases ka_KR_40 hV hx with ⟨q1, _⟩ | ⟨q1, q2, q3, q4, q5⟩
  · omega
  · have hloop : ∀ (m j : Nat) (τ : jg_M), jF kW_mt σ τ → τ.1 92 48 = (p.1 : Nat) → (∀ i : Nat, i < p.1 → τ.1 (92 + 33) i = σ.1 (92 + 33) i) → (∀ i : Nat, i < j → τ.1 (92 + 33) ((p.1 : Int) + i) = σ.1 (92 + 30) (x * 40 + i)) → j + m = (V x).1 → jg_GV w 0 mm_X12_addRow 2 [.ref 92, .int (.ofInt x), .int (.ofInt (j : Int))] τ KV := by
      intro m
      induction m with
      | zero =>
        intro j τ hF h5 ho he hj
        have hl : τ.1 (92 + 29) x = σ.1 (92 + 29) x := hF.1 _ _ (fun q => by unfold kW_mt at q; omega)
        refine jb_X12_addRow_2 rfl ?_
        rw [jr_wr (show jr x by omega), hl, q2, jr_wr (show jr (((V x).1 : Nat) : Int) by omega), jr_wr (show jr (j : Int) by omega)]
        refine ⟨by omega, jn_ite (fun _ => ⟨by omega, ?_⟩) (fun h => by omega)⟩
        rintro _ rfl
        refine k1 _ (jF_toI hF (Or.inr ⟨rfl, rfl⟩)) ?_
        refine ka_TR_app (R := σ.1 (92 + 30)) (b := x * 40) hT ?_ hM (fun i hi => ?_) q4 q5 (fun i hi => ?_)
        · rw [js_Is, h5]; omega
        · rw [js_In (Or.inl (by omega))]; exact ho i hi
        · rw [js_In (Or.inl (by omega))]; exact he i (by omega)
      | succ m ih =>
        intro j τ hF h5 ho he hj
        have hl : τ.1 (92 + 29) x = σ.1 (92 + 29) x := hF.1 _ _ (fun q => by unfold kW_mt at q; omega)
        have hsrc : τ.1 (92 + 30) (x * 40 + (j : Int)) = σ.1 (92 + 30) (x * 40 + (j : Int)) := hF.1 _ _ (fun q => by unfold kW_mt at q; omega)
        refine jb_X12_addRow_2 rfl ?_
        rw [jr_wr (show jr x by omega), hl, q2, h5, jr_wr (show jr (((V x).1 : Nat) : Int) by omega), jr_wr (show jr (j : Int) by omega), jr_wr (show jr (40 * x + (j : Int)) by omega), jr_wr (show jr (((p.1 : Nat) : Int) + (j : Int)) by omega), show 40 * x + (j : Int) = x * 40 + (j : Int) by omega, hsrc]
        refine ⟨by omega, jn_ite (fun h => by omega) (fun _ => ⟨by omega, by omega, ?_⟩)⟩
        rintro _ rfl
        have := ih (j + 1) (jg_sI τ (92 + 33) ((p.1 : Int) + (j : Int)) (σ.1 (92 + 30) (x * 40 + (j : Int)))) (jF_toI hF (Or.inl rfl)) (by rw [js_In (Or.inl (by omega))]; exact h5) (fun i hi => by rw [js_In (Or.inr (by omega))]; exact ho i hi) (fun i hi => by
          by_cases hij : i = j
          · subst hij; rw [js_Is]
          · rw [js_In (Or.inr (by omega))]; exact he i (by omega)) (by omega)
        rw [show ((j + 1 : Nat) : Int) = (j : Int) + 1 by omega] at this
        exact this
    exact jb_X12_addRow_0 rfl (hloop (V x).1 0 σ jF_rf hT.1 (fun _ _ => rfl) (fun i hi => by omega) (by omega))
theorem jm_isAhead (h1 : jg_sh a1 = (20, n1)) (hn : n1 ≤ 100000) (hT : ka_TR (σ.1 (92 + 33)) (σ.1 92 48) 160 p) (hp : p.1 ≤ 60) (hv : ka_wd zN (σ.1 a1) b L v) (hb : 0 ≤ b ∧ b ≤ 100000) (hbn : 0 ≤ L → b + L ≤ n1) (hk : KI (jn_b (p.2 < v.2)) σ) : jg_CI w 0 mm_X12_isAhead [.ref 92, .ref a1, .int (.ofInt b), .int (.ofInt L)] σ KI := by
  have hpv := ka_TR_vp hT
  have hvv := ka_wd_vp hv
  have hL := ka_wd_rng hv
  refine jb_X12_isAhead_0 rfl h1 ?_
  rw [hT.1, jr_wr (show jr L by omega), jr_wr (show jr ((p.1 : Nat) : Int) by omega)]
  refine jn_ite (fun hneg => jn_ite (fun _ => ?_) (fun h => absurd hneg h)) (fun hpos => jn_ite (fun heq => ?_) (fun hne => jn_ite (fun h => absurd h hpos) (fun _ => jn_ite (fun hle => ?_) (fun hlt => ?_))))
  · rw [jn_b_t (by rw [ka_wd_neg hv hneg]; exact ka_lt_no hpv hp)] at hk
    exact hk
  · obtain ⟨q1, q2, q3, q4⟩ := ka_wd_pos hv (by omega)
    have hpl : p.1 = v.1 := by omega
    have hq5 := hT.2.2.2
    have hq6 := hT.2.2.1
    rw [hpl] at hq5 hq6
    have hbl := hbn (by omega)
    have hloop : ∀ (m j : Nat), j + m = v.1 → (∀ i : Nat, i < j → σ.1 (92 + 33) (0 + (i : Int)) = σ.1 a1 (b + i)) → jg_GI w 0 mm_X12_isAhead 33 [.ref 92, .ref a1, .int (.ofInt b), .int (.ofInt L), .int (.ofInt (j : Int))] σ KI := by
      intro m
      induction m with
      | zero =>
        intro j hj he
        refine jb_X12_isAhead_33 rfl h1 ?_
        rw [hT.1, jr_wr (by omega), jr_wr (by omega)]
        refine jn_ite (fun _ => ?_) (fun h => by omega)
        have : p.2 = v.2 := by
          rw [← hq6, ← q3]
          exact ka_cd_eq (fun i hi => he i (by omega))
        rw [jn_b_f (by omega)] at hk
        exact hk
      | succ m ih =>
        intro j hj he
        have t1 := hq5 j (by omega)
        have t2 := q4 j (by omega)
        rw [Int.zero_add] at t1
        refine jb_X12_isAhead_33 rfl h1 ?_
        rw [hT.1, jr_wr (show jr ((p.1 : Nat) : Int) by omega), jr_wr (show jr (j : Int) by omega), jr_wr (show jr (b + (j : Int)) by omega), jr_wr (show jr (σ.1 (92 + 33) (j : Int)) by omega), jr_wr (show jr (σ.1 a1 (b + (j : Int))) by omega)]
        refine jn_ite (fun h => by omega) (fun _ => ⟨by omega, by omega, jn_ite (fun hq => ?_) (fun hq => ⟨by omega, by omega, jn_ite (fun hle => ?_) (fun hlt => ?_)⟩)⟩)
        · have := ih (j + 1) (by omega) (fun i hi => by
            by_cases hij : i = j
            · subst hij; rw [Int.zero_add]; exact hq
            · exact he i (by omega))
          rw [show ((j + 1 : Nat) : Int) = (j : Int) + 1 by omega] at this
          exact this
        · have : v.2 < p.2 := by
            rw [← hq6, ← q3]
            exact ka_cd_lt q4 hq5 (k := j) (by omega) (fun i hi => (he i hi).symm) (by rw [Int.zero_add]; omega)
          rw [jn_b_f (by omega)] at hk
          exact hk
        · have : p.2 < v.2 := by
            rw [← hq6, ← q3]
            exact ka_cd_lt hq5 q4 (k := j) (by omega) he (by rw [Int.zero_add]; omega)
          rw [jn_b_t this] at hk
          exact hk
    exact hloop v.1 0 (by omega) (fun i hi => by omega)
  · obtain ⟨q1, q2, q3, q4⟩ := ka_wd_pos hv (by omega)
    have := ka_lt_len hvv hpv (show v.1 < p.1 by omega)
    rw [jn_b_f (by omega)] at hk
    exact hk
  · obtain ⟨q1, q2, q3, q4⟩ := ka_wd_pos hv (by omega)
    have := ka_lt_len hpv hvv (show p.1 < v.1 by omega)
    rw [jn_b_t this] at hk
    exact hk
theorem jm_isMade (hG : jn_Mg σ 0 g) (hW : jn_GW g) {r : Nat} (hr : (r : Int) < g 0 2) (hV : ka_KR zN (σ.1 (92 + 30)) (σ.1 (92 + 29)) V)
    (k0 : ∀ τ, jF kW_mt σ τ → 40 < (ka_trK g r V).1 → KI 0 τ)
    (k1 : ∀ τ, jF kW_mt σ τ → (ka_trK g r V).1 ≤ 40 → ka_TR (τ.1 (92 + 33)) (τ.1 92 48) 160 (ka_trK g r V) → KI 1 τ) : jg_CI w 1 mm_X12_isMade [.ref 92, .int (.ofInt (r : Int))] σ KI := by
  have hw := hW.1
  have hl := jn_len_rng (r := (r : Int)) hW
  have hloop : ∀ (m d : Nat) (τ : jg_M) (u : Value), jF kW_mt σ τ → ka_TR (τ.1 (92 + 33)) (τ.1 92 48) 160 (ka_cr g V r d) → (ka_cr g V r d).1 ≤ 40 * d → (d : Int) + m = jn_len g r → jg_GI w 1 mm_X12_isMade 7 [.ref 92, .int (.ofInt (r : Int)), .int (.ofInt (d : Int)), u] τ KI := by
    intro m
    induction m with
    | zero =>
      intro d τ u hF hT hle hd
      have hGτ : jn_Mg τ 0 g := jn_Mg_fr hG hF ⟨fun q => by unfold kW_mt at q; omega, fun q => by unfold kW_mt at q; omega, fun q => by unfold kW_mt at q; omega⟩ (fun k i k1 q => by unfold kW_mt at q; omega)
      refine jb_X12_isMade_7 rfl (jm_longOf hGτ hW (by omega) ?_)
      have e : ka_trK g r V = ka_cr g V r d := by unfold ka_trK; rw [show (jn_len g r).toNat = d by omega]
      rw [jr_wr (show jr (jn_len g r) by omega), jr_wr (show jr (d : Int) by omega), hT.1, jr_wr (by omega)]
      refine jn_ite (fun _ => jn_ite (fun h => k0 τ hF (by rw [e]; omega)) (fun h => k1 τ hF (by rw [e]; omega) (by rw [e]; exact hT))) (fun h => by omega)
    | succ m ih =>
      intro d τ u hF hT hle hd
      have hGτ : jn_Mg τ 0 g := jn_Mg_fr hG hF ⟨fun q => by unfold kW_mt at q; omega, fun q => by unfold kW_mt at q; omega, fun q => by unfold kW_mt at q; omega⟩ (fun k i k1 q => by unfold kW_mt at q; omega)
      have hs := ka_sym_ok hW (r := (r : Int)) (d := d) ⟨by omega, hr⟩ (by omega)
      have hVτ : ka_KR zN (τ.1 (92 + 30)) (τ.1 (92 + 29)) V := ka_KR_cg hV (fun i => hF.1 _ _ (fun q => by unfold kW_mt at q; omega)) (fun i => hF.1 _ _ (fun q => by unfold kW_mt at q; omega))
      have e4 : ka_cr g V r (d + 1) = ka_cat (ka_cr g V r d) (ka_sv V (jn_sym g r d)) := rfl
      refine jb_X12_isMade_7 rfl (jm_longOf hGτ hW (by omega) ?_)
      rw [jr_wr (show jr (jn_len g r) by omega), jr_wr (show jr (d : Int) by omega)]
      refine jn_ite (fun h => by omega) (fun _ => jm_moveBy hGτ hW (by omega) (by omega) ?_)
      generalize hx : jn_sym g r d = x at *
      by_cases h7 : x < 7
      · have hm : jn_mx x = x := by unfold jn_mx; rw [if_neg (by omega), if_pos (by omega)]
        have hsv : ka_sv V x = (1, x.toNat + 1) := by unfold ka_sv; rw [if_pos (by omega)]
        rw [hm, jr_wr (show jr x by omega), hT.1, jr_wr (show jr (((ka_cr g V r d).1 : Nat) : Int) by omega)]
        refine jn_ite (fun _ => jn_ite (fun _ => ⟨by omega, ?_⟩) (fun h => absurd h7 h)) (fun h => absurd h7 h)
        rintro _ rfl _ rfl
        have := ih (d + 1) (jg_sI (jg_sI τ (92 + 33) (((ka_cr g V r d).1 : Nat) : Int) x) 92 48 ((jg_sI τ (92 + 33) (((ka_cr g V r d).1 : Nat) : Int) x).1 92 48 + 1)) (.int (.ofInt x)) (jF_toI (jF_toI hF (Or.inl rfl)) (Or.inr ⟨rfl, rfl⟩)) (by
          rw [e4, hsv]
          refine ka_TR_app (R := fun _ => x) (b := 0) hT ?_ (by show (ka_cr g V r d).1 + 1 ≤ 160; omega) (fun i hi => ?_) ?_ (fun i hi => by show 0 ≤ x ∧ x < 7; omega) (fun i hi => ?_)
          · rw [js_Is, js_In (Or.inl (by omega)), hT.1]; rfl
          · rw [js_In (Or.inl (by omega)), js_In (Or.inr (by omega))]
          · show 0 * 8 + (x.toNat + 1) = x.toNat + 1
            omega
          · have hi' : i < 1 := hi
            rw [js_In (Or.inl (by omega)), show (((ka_cr g V r d).1 : Nat) : Int) + (i : Int) = (((ka_cr g V r d).1 : Nat) : Int) by omega, js_Is]) (by rw [e4, hsv]; show (ka_cr g V r d).1 + 1 ≤ 40 * (d + 1); omega) (by omega)
        rw [show ((d + 1 : Nat) : Int) = (d : Int) + 1 by omega] at this
        exact this
      · have hm : jn_mx x = x - 3 := by unfold jn_mx; rw [if_neg (by omega), if_neg (by omega)]
        have hsv : ka_sv V x = V (x - 10) := by unfold ka_sv; rw [if_neg (by omega)]
        rw [hm, jr_wr (show jr (x - 3) by omega), jr_wr (show jr (x - 3 - 7) by omega), show x - 3 - 7 = x - 10 by omega]
        have hkr := ka_KR_40 hVτ (k := x - 10) ⟨by omega, by omega⟩
        have hlr := ka_wd_rng (hVτ (x - 10) (by omega) (by omega)).1
        rw [jr_wr (show jr (τ.1 (92 + 29) (x - 10)) by omega)]
        refine jn_ite (fun h => by omega) (fun _ => ⟨by omega, jn_ite (fun hpos => jn_ite (fun h => by omega) (fun _ => ?_)) (fun hneg => k0 τ hF ?_)⟩)
        · have h40 : (V (x - 10)).1 ≤ 40 := by
            rcases hkr with q | q
            · omega
            · exact q.2.2.1
          refine jm_addRow ⟨by omega, by omega⟩ hVτ hT hpos (by omega) (fun τ2 hF2 hT2 => ?_)
          have := ih (d + 1) τ2 (.int (.ofInt (x - 3))) (jF_tr hF hF2) (by rw [e4, hsv]; exact hT2) (by rw [e4, hsv]; show (ka_cr g V r d).1 + (V (x - 10)).1 ≤ 40 * (d + 1); omega) (by omega)
          rw [show ((d + 1 : Nat) : Int) = (d : Int) + 1 by omega] at this
          exact this
        · have h100 : (V (x - 10)).1 = 100 := by
            rcases hkr with q | q
            · rw [q.2.2]; rfl
            · omega
          have e := ka_cr_len (g := g) (V := V) (r := (r : Int)) (d := d + 1) (e := m)
          have e2 : ka_trK g r V = ka_cr g V r (d + 1 + m) := by unfold ka_trK; rw [show (jn_len g r).toNat = d + 1 + m by omega]
          have e3 : (ka_cr g V r (d + 1)).1 = (ka_cr g V r d).1 + (ka_sv V x).1 := by rw [e4]; rfl
          rw [hsv] at e3
          rw [e2]
          omega
  refine jb_X12_isMade_0 rfl ?_
  rintro _ rfl
  refine hloop (jn_len g r).toNat 0 _ _ (jF_I (Or.inr ⟨rfl, rfl⟩)) ⟨js_Is, Nat.zero_le _, rfl, fun i hi => ?_⟩ (Nat.zero_le _) (by omega)
  exact absurd hi (Nat.not_lt_zero i)
end KAM
