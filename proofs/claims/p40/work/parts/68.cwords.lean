/-! SHORTEST: rows made and compared, in the class -/
section KAC
/-- a row that is being made, its length n, at most mx -/
def ka_TR (R : Int → Int) (n : Int) (mx : Nat) (p : Nat × Nat) : Prop := n = (p.1 : Nat) ∧ p.1 ≤ mx ∧ ka_cd R 0 p.1 = p.2 ∧ ka_tk R 0 p.1
def ka_KR (zN : Int) (R Ls : Int → Int) (V : ka_Ve) : Prop := ∀ k, 0 ≤ k → k < 5 → ka_wd zN R (k * 40) (Ls k) (V k) ∧ ((V k).1 ≤ 40 ∨ V k = ka_no)
def kW_tr (a : Nat) (c : Nat) (i : Int) : Prop := c = a + 5 ∨ (c = a ∧ i = 5)
variable {zN : Int} {w : Nat} {σ τ : jg_M} {a G a1 n1 mx : Nat} {g : gM} {x r b L M n : Int} {R Ls T T' : Int → Int} {p v : Nat × Nat} {V : ka_Ve} {K : jg_M → Prop} {KI : Int → jg_M → Prop}
theorem ka_TR_vp (h : ka_TR R n mx p) : ka_vp p := by
  have := ka_cd_vp h.2.2.2
  rw [h.2.2.1] at this
  exact this
theorem ka_TR_app {n' : Int} (h : ka_TR T n mx p) (hn : n' = ((p.1 + v.1 : Nat) : Int)) (hm : p.1 + v.1 ≤ mx) (ho : ∀ i : Nat, i < p.1 → T' i = T i) (hc : ka_cd R b v.1 = v.2) (hk : ka_tk R b v.1) (he : ∀ i : Nat, i < v.1 → T' ((p.1 : Int) + i) = R (b + i)) : ka_TR T' n' mx (ka_cat p v) := by
  have h1 : ka_cd T' 0 p.1 = p.2 := by
    rw [← h.2.2.1]
    exact ka_cd_eq (fun i hi => by rw [Int.zero_add]; exact ho i hi)
  refine ⟨hn, hm, ?_, fun i hi => ?_⟩
  · show ka_cd T' 0 (p.1 + v.1) = p.2 * 8 ^ v.1 + v.2
    rw [ka_cd_app h1 he, hc]
  · have hi' : i < p.1 + v.1 := hi
    rw [Int.zero_add]
    by_cases hp : i < p.1
    · rw [ho i hp]
      have := h.2.2.2 i hp
      rwa [Int.zero_add] at this
    · have := he (i - p.1) (by omega)
      rw [show (p.1 : Int) + ((i - p.1 : Nat) : Int) = (i : Int) by omega] at this
      rw [this]
      exact hk (i - p.1) (by omega)
theorem ka_KR_cg {R' Ls' : Int → Int} (h : ka_KR zN R Ls V) (h1 : ∀ i, R' i = R i) (h2 : ∀ k, Ls' k = Ls k) : ka_KR zN R' Ls' V := fun k k0 k5 => by
  rw [h2 k]
  exact ⟨ka_wd_cg (h k k0 k5).1 (fun i _ _ => h1 _), (h k k0 k5).2⟩
theorem ka_KR_40 (h : ka_KR zN R Ls V) {k : Int} (hk : 0 ≤ k ∧ k < 5) : (Ls k < 0 ∧ -2 ≤ Ls k ∧ V k = ka_no) ∨ (0 ≤ Ls k ∧ Ls k = ((V k).1 : Nat) ∧ (V k).1 ≤ 40 ∧ ka_cd R (k * 40) (V k).1 = (V k).2 ∧ ka_tk R (k * 40) (V k).1) := by
  obtain ⟨h1, h2⟩ := h k hk.1 hk.2
  rcases h1 with h1 | ⟨q1, q2, q3, q4⟩
  · exact Or.inl ⟨h1.1, h1.2.1.1, h1.2.2⟩
  · refine Or.inr ⟨by omega, q1, ?_, q3, q4⟩
    rcases h2 with h2 | h2
    · exact h2
    · rw [h2, ka_no1] at q2
      omega
theorem jc_X6_lengthen (h0 : jg_sh a = (6, 0)) (hx : (0 ≤ x ∧ x < 7) ∨ (10 ≤ x ∧ x < 15)) (hV : ka_KR zN (σ.1 (a + 3)) (σ.1 (a + 1)) V) (hT : ka_TR (σ.1 (a + 5)) (σ.1 a 5) 60 p) (hM : 0 ≤ M ∧ M ≤ 60)
    (k0 : M < ((p.1 + (ka_sv V x).1 : Nat) : Int) → KI 0 σ)
    (k1 : ∀ τ, ((p.1 + (ka_sv V x).1 : Nat) : Int) ≤ M → jF (kW_tr a) σ τ → ka_TR (τ.1 (a + 5)) (τ.1 a 5) 60 (ka_cat p (ka_sv V x)) → KI 1 τ) : jg_CI w 0 mm_X6_lengthen [.ref a, .int (.ofInt x), .int (.ofInt M)] σ KI := by
  have hp := hT.2.1
  refine jb_X6_lengthen_0 h0 (fun t ht => ?_)
  rw [hT.1]
  subst ht
  rw [jr_wr (show jr (x - 10) by omega), jr_wr (show jr x by omega), jr_wr (show jr M by omega)]
  refine jn_ite (fun h => by omega) (fun _ => jn_ite (fun _ => jn_ite (fun hk => ?_) (fun hk => ?_)) (fun h => by omega))
  · have hsv : ka_sv V x = V (x - 10) := by unfold ka_sv; rw [if_neg (by omega)]
    rw [hsv] at k0 k1
    refine ⟨by omega, fun l hl => ?_⟩
    rcases ka_KR_40 hV (k := x - 10) ⟨by omega, by omega⟩ with ⟨q1, q2, q3⟩ | ⟨q1, q2, q3, q4, q5⟩
    · rw [q3] at k0
      have := k0 (by show M < ((p.1 + 100 : Nat) : Int); omega)
      rw [jr_wr (by omega)]
      exact jn_ite (fun _ => this) (fun h => by omega)
    · generalize hv : V (x - 10) = v at *
      rw [q2] at hl
      rw [hl, jr_wr (show jr ((v.1 : Nat) : Int) by omega), jr_wr (show jr (((p.1 : Nat) : Int) + ((v.1 : Nat) : Int)) by omega)]
      refine jn_ite (fun h => by omega) (fun _ => jn_ite (fun h => k0 (by omega)) (fun hle => jn_ite (fun _ => ?_) (fun h => by omega)))
      have hloop : ∀ (m j : Nat) (τ : jg_M), jF (kW_tr a) σ τ → τ.1 a 5 = ((p.1 + j : Nat) : Int) → (∀ i : Nat, i < p.1 → τ.1 (a + 5) i = σ.1 (a + 5) i) → (∀ i : Nat, i < j → τ.1 (a + 5) ((p.1 : Int) + i) = σ.1 (a + 3) ((x - 10) * 40 + i)) → j + m = v.1 → jg_GI w 0 mm_X6_lengthen 65 [.ref a, .int (.ofInt x), .int (.ofInt M), .int (.ofInt (x - 10)), .int (.ofInt ((v.1 : Nat) : Int)), .int (.ofInt (j : Int))] τ KI := by
        intro m
        induction m with
        | zero =>
          intro j τ hF h5 ho he hj
          refine jb_X6_lengthen_65 h0 ?_
          rw [jr_wr (by omega), jr_wr (by omega)]
          refine jn_ite (fun _ => k1 τ (by omega) hF ?_) (fun h => by omega)
          exact ka_TR_app (R := σ.1 (a + 3)) (b := (x - 10) * 40) hT (by rw [h5, show j = v.1 by omega]) (by omega) ho q4 q5 (fun i hi => he i (by omega))
        | succ m ih =>
          intro j τ hF h5 ho he hj
          refine jb_X6_lengthen_65 h0 ?_
          have hsrc : τ.1 (a + 3) ((x - 10) * 40 + (j : Int)) = σ.1 (a + 3) ((x - 10) * 40 + (j : Int)) := hF.1 _ _ (fun q => by unfold kW_tr at q; omega)
          rw [jr_wr (show jr ((v.1 : Nat) : Int) by omega), jr_wr (show jr (j : Int) by omega), jr_wr (show jr (x - 10) by omega), h5, jr_wr (show jr ((p.1 + j : Nat) : Int) by omega), jr_wr (show jr ((x - 10) * 40 + (j : Int)) by omega)]
          refine jn_ite (fun h => by omega) (fun _ => jn_ite (fun _ => ⟨by omega, by omega, ?_⟩) (fun h => by omega))
          rintro _ rfl _ rfl
          refine ih (j + 1) _ (jF_toI (jF_toI hF (Or.inl rfl)) (Or.inr ⟨rfl, rfl⟩)) ?_ (fun i hi => ?_) (fun i hi => ?_) (by omega)
          · rw [js_Is, js_In (Or.inl (by omega)), h5]; omega
          · rw [js_In (Or.inl (by omega)), js_In (Or.inr (by omega))]; exact ho i hi
          · by_cases hij : i = j
            · subst hij
              rw [js_In (Or.inl (by omega)), show (p.1 : Int) + (i : Int) = ((p.1 + i : Nat) : Int) by omega, js_Is, hsrc]
            · rw [js_In (Or.inl (by omega)), js_In (Or.inr (by omega))]; exact he i (by omega)
      exact hloop v.1 0 σ jF_rf (by rw [hT.1]; rfl) (fun _ _ => rfl) (fun i hi => by omega) (by omega)
  · have hsv : ka_sv V x = (1, x.toNat + 1) := by unfold ka_sv; rw [if_pos (by omega)]
    rw [hsv] at k0 k1
    rw [jr_wr (show jr (((p.1 : Nat) : Int) + 1) by omega)]
    refine jn_ite (fun h => k0 (by show M < ((p.1 + 1 : Nat) : Int); omega)) (fun hle => jn_ite (fun _ => ?_) (fun h => by omega))
    refine jb_X6_lengthen_65 h0 ?_
    rw [jr_wr (show jr 1 by decide), jr_wr (show jr 0 by decide), jr_wr (show jr (x - 10) by omega), hT.1, jr_wr (show jr ((p.1 : Nat) : Int) by omega)]
    refine jn_ite (fun h => by omega) (fun _ => jn_ite (fun h => by omega) (fun _ => ⟨by omega, ?_⟩))
    rintro _ rfl _ rfl
    refine jb_X6_lengthen_65 h0 ?_
    rw [jr_wr (show jr 1 by decide), jr_wr (show jr (0 + 1) by decide)]
    refine jn_ite (fun _ => k1 _ (by show ((p.1 + 1 : Nat) : Int) ≤ M; omega) (jF_toI (jF_I (Or.inl rfl)) (Or.inr ⟨rfl, rfl⟩)) ?_) (fun h => by omega)
    refine ka_TR_app (R := fun _ => x) (b := 0) hT ?_ (by show p.1 + 1 ≤ 60; omega) (fun i hi => ?_) ?_ (fun i hi => by show 0 ≤ x ∧ x < 7; omega) (fun i hi => ?_)
    · rw [js_Is, js_In (Or.inl (by omega)), hT.1]; rfl
    · rw [js_In (Or.inl (by omega)), js_In (Or.inr (by omega))]
    · show 0 * 8 + (x.toNat + 1) = x.toNat + 1
      omega
    · have hi' : i < 1 := hi
      rw [js_In (Or.inl (by omega)), show (p.1 : Int) + (i : Int) = ((p.1 : Nat) : Int) by omega, js_Is]
theorem ka_lt_no (hp : ka_vp p) (h : p.1 ≤ 60) : p.2 < ka_no.2 := by
  have h1 := ka_vp_lt hp
  have h2 : 8 ^ p.1 ≤ 8 ^ 99 := Nat.pow_le_pow_right (by decide) (by omega)
  show p.2 < 8 ^ 99
  omega
theorem ka_lt_len (hp : ka_vp p) (hv : ka_vp v) (h : p.1 < v.1) : p.2 < v.2 := Classical.byContradiction (fun q => by
  have := ka_vp_len hv hp (by omega)
  omega)
theorem jc_X6_improves (h0 : jg_sh a = (6, 0)) (h1 : jg_sh a1 = (20, n1)) (hn : n1 ≤ 100000) (hT : ka_TR (σ.1 (a + 5)) (σ.1 a 5) 60 p) (hv : ka_wd zN (σ.1 a1) b L v) (hb : 0 ≤ b ∧ b ≤ 100000) (hbn : 0 ≤ L → b + L ≤ n1) (hk : KI (jn_b (p.2 < v.2)) σ) : jg_CI w 0 mm_X6_improves [.ref a, .ref a1, .int (.ofInt b), .int (.ofInt L)] σ KI := by
  have hp := hT.2.1
  have hpv := ka_TR_vp hT
  have hvv := ka_wd_vp hv
  have hL := ka_wd_rng hv
  refine jb_X6_improves_0 h0 h1 ?_
  rw [hT.1, jr_wr (show jr L by omega), jr_wr (show jr ((p.1 : Nat) : Int) by omega)]
  refine jn_ite (fun hneg => jn_ite (fun _ => ?_) (fun h => absurd hneg h)) (fun hpos => jn_ite (fun heq => ?_) (fun hne => jn_ite (fun h => absurd h hpos) (fun _ => jn_ite (fun hle => ?_) (fun hlt => ?_))))
  · rw [jn_b_t (by rw [ka_wd_neg hv hneg]; exact ka_lt_no hpv hp)] at hk
    exact hk
  · obtain ⟨q1, q2, q3, q4⟩ := ka_wd_pos hv (by omega)
    have hpl : p.1 = v.1 := by omega
    have hq5 := hT.2.2.2
    have hq6 := hT.2.2.1
    rw [hpl] at hq5 hq6
    have hbl := hbn (by omega)
    have hloop : ∀ (m j : Nat), j + m = v.1 → (∀ i : Nat, i < j → σ.1 (a + 5) (0 + (i : Int)) = σ.1 a1 (b + i)) → jg_GI w 0 mm_X6_improves 33 [.ref a, .ref a1, .int (.ofInt b), .int (.ofInt L), .int (.ofInt (j : Int))] σ KI := by
      intro m
      induction m with
      | zero =>
        intro j hj he
        refine jb_X6_improves_33 h0 h1 ?_
        rw [jr_wr (by omega), jr_wr (by omega)]
        refine jn_ite (fun _ => ?_) (fun h => by omega)
        have : p.2 = v.2 := by
          rw [← hq6, ← q3]
          exact ka_cd_eq (fun i hi => he i (by omega))
        rw [jn_b_f (by omega)] at hk
        exact hk
      | succ m ih =>
        intro j hj he
        have t1 := hq5 j (by omega)
        have t2 := q4 j (by omega)
        rw [Int.zero_add] at t1
        refine jb_X6_improves_33 h0 h1 ?_
        rw [jr_wr (show jr L by omega), jr_wr (show jr (j : Int) by omega), jr_wr (show jr (n1 : Int) by omega), jr_wr (show jr (b + (j : Int)) by omega), jr_wr (show jr (σ.1 (a + 5) (j : Int)) by omega), jr_wr (show jr (σ.1 a1 (b + (j : Int))) by omega)]
        refine jn_ite (fun h => by omega) (fun _ => jn_ite (fun h => by omega) (fun _ => ⟨by omega, by omega, jn_ite (fun hq => ?_) (fun hq => ⟨by omega, by omega, jn_ite (fun hle => ?_) (fun hlt => ?_)⟩)⟩))
        · refine ih (j + 1) (by omega) (fun i hi => ?_)
          by_cases hij : i = j
          · subst hij; rw [Int.zero_add]; exact hq
          · exact he i (by omega)
        · have : v.2 < p.2 := by
            rw [← hq6, ← q3]
            exact ka_cd_lt q4 hq5 (k := j) (by omega) (fun i hi => (he i hi).symm) (by rw [Int.zero_add]; omega)
          rw [jn_b_f (by omega)] at hk
          exact hk
        · have : p.2 < v.2 := by
            rw [← hq6, ← q3]
            exact ka_cd_lt hq5 q4 (k := j) (by omega) he (by rw [Int.zero_add]; omega)
          rw [jn_b_t this] at hk
          exact hk
    exact hloop v.1 0 (by omega) (fun i hi => by omega)
  · obtain ⟨q1, q2, q3, q4⟩ := ka_wd_pos hv (by omega)
    have := ka_lt_len hvv hpv (show v.1 < p.1 by omega)
    rw [jn_b_f (by omega)] at hk
    exact hk
  · obtain ⟨q1, q2, q3, q4⟩ := ka_wd_pos hv (by omega)
    have := ka_lt_len hpv hvv (show p.1 < v.1 by omega)
    rw [jn_b_t this] at hk
    exact hk
end KAC
