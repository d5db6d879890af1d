/-! SHORTEST of KINDS, in the class -/
section KAK
def kW_sk (a : Nat) (c : Nat) (i : Int) : Prop := c = a + 1 ∨ c = a + 3 ∨ c = a + 5 ∨ (c = a ∧ i = 5)
variable {zN : Int} {w : Nat} {σ τ : jg_M} {a G mx K n m i : Nat} {g : gM} {R R' T Ls Ls' : Int → Int} {p v : Nat × Nat} {V : ka_Ve} {tg : Nat → Int} {tr : Nat → ka_Ve → Nat × Nat} {cap : Nat} {KV : jg_M → Prop} {KI : Int → jg_M → Prop} {kd : Int}
theorem ka_stop {F : ka_Ve → ka_Ve} (h : F (ka_it F m V) = ka_it F m V) (hm : m ≤ K) : ka_it F m V = ka_it F K V := by
  rw [show K = m + (K - m) by omega, ka_it_plus, ka_it_st h]
theorem ka_go (hg : ka_gd n K tg tr cap) (hV : ka_vv V) (h : ka_pr tg tr cap n (ka_it (ka_pr tg tr cap n) m V) ≠ ka_it (ka_pr tg tr cap n) m V) : m < K := by
  refine Classical.byContradiction (fun q => h ?_)
  have he := ka_end hg hV
  rw [show m = K + (m - K) by omega, ka_it_plus, ka_it_st he, he]
theorem ka_sp_yes (h : (tr i V).1 ≤ cap ∧ (tr i V).2 < (V (tg i)).2) : ka_sp tg tr cap i V = fun k => if k = tg i then tr i V else V k := by
  funext k
  unfold ka_sp
  by_cases hk : k = tg i
  · rw [if_pos ⟨hk, h⟩, if_pos hk]
  · rw [if_neg (fun q => hk q.1), if_neg hk]
theorem ka_pr_yes (hg : ka_gd n K tg tr cap) (hV : ka_vv V) (hi : i < n) (h : (tr i (ka_pr tg tr cap i V)).1 ≤ cap ∧ (tr i (ka_pr tg tr cap i V)).2 < (ka_pr tg tr cap i V (tg i)).2) : ka_pr tg tr cap (i + 1) V ≠ V := by
  by_cases he : ka_pr tg tr cap i V = V
  · have := ka_sp_ne h
    intro q
    refine this ?_
    have q' : ka_sp tg tr cap i (ka_pr tg tr cap i V) = V := q
    rw [q', he]
  · exact ka_pr_ne hg hV hi he
theorem ka_KR_up (h : ka_KR zN R Ls V) (hk : 0 ≤ kd ∧ kd < 5) (hp : p.1 ≤ 40) (hc : ka_cd T 0 p.1 = p.2) (ht : ka_tk T 0 p.1) (h1 : ∀ i : Nat, i < p.1 → R' (kd * 40 + i) = T (i : Int)) (h2 : ∀ i : Int, i < kd * 40 ∨ kd * 40 + 40 ≤ i → R' i = R i) (h3 : Ls' kd = (p.1 : Nat)) (h4 : ∀ k, k ≠ kd → Ls' k = Ls k) : ka_KR zN R' Ls' (fun k => if k = kd then p else V k) := fun k k0 k5 => by
  by_cases hkk : k = kd
  · subst hkk
    dsimp only
    rw [if_pos rfl]
    refine ⟨Or.inr ⟨h3, by omega, ?_, fun i hi => ?_⟩, Or.inl hp⟩
    · rw [← hc]
      exact ka_cd_eq (fun i hi => by rw [h1 i hi, Int.zero_add])
    · rw [h1 i hi]
      have := ht i hi
      rwa [Int.zero_add] at this
  · dsimp only
    rw [if_neg hkk, h4 k hkk]
    refine ⟨ka_wd_cg (h k k0 k5).1 (fun i hi h60 => h2 _ ?_), (h k k0 k5).2⟩
    have h40 : (V k).1 ≤ 40 := by
      rcases (h k k0 k5).2 with q | q
      · exact q
      · rw [q, ka_no1] at h60; omega
    omega
theorem jc_X6_tryRule (h0 : jg_sh a = (6, 0)) (h1 : jg_sh G = (0, 0)) (hGa : G + 8 ≤ a) (hG : jn_Gr σ G g) (hW : jn_GW g) {r : Nat} (hr : (r : Int) < g 0 2) (hV : ka_KR zN (σ.1 (a + 3)) (σ.1 (a + 1)) V)
    (k0 : ∀ τ, jF (kW_tr a) σ τ → 40 < (ka_trK g r V).1 → KI 0 τ)
    (k1 : ∀ τ, jF (kW_tr a) σ τ → (ka_trK g r V).1 ≤ 40 → ka_TR (τ.1 (a + 5)) (τ.1 a 5) 60 (ka_trK g r V) → KI 1 τ) : jg_CI w 2 mm_X6_tryRule [.ref a, .ref G, .int (.ofInt (r : Int))] σ KI := by
  have hw := hW.1
  have hl := jn_len_rng (r := (r : Int)) hW
  have hloop : ∀ (m d : Nat) (τ : jg_M), jF (kW_tr a) σ τ → ka_TR (τ.1 (a + 5)) (τ.1 a 5) 60 (ka_cr g V r d) → (ka_cr g V r d).1 ≤ 40 → (d : Int) + m = jn_len g r → jg_GI w 2 mm_X6_tryRule 7 [.ref a, .ref G, .int (.ofInt (r : Int)), .int (.ofInt (d : Int))] τ KI := by
    intro m
    induction m with
    | zero =>
      intro d τ hF hT hle hd
      have hGτ : jn_Gr τ G g := jn_Gr_fr hG hF (fun i hi q => by unfold kW_tr at q; omega) (fun k i k1 k2 q => by unfold kW_tr at q; omega)
      refine jb_X6_tryRule_7 h0 h1 (jc_X0_lengthOf h1 hGτ hW (by omega) ?_)
      rw [jr_wr (by omega), jr_wr (by omega)]
      refine jn_ite (fun _ => ?_) (fun h => by omega)
      have e : ka_trK g r V = ka_cr g V r d := by unfold ka_trK; rw [show (jn_len g r).toNat = d by omega]
      exact k1 τ hF (by rw [e]; exact hle) (by rw [e]; exact hT)
    | succ m ih =>
      intro d τ hF hT hle hd
      have hGτ : jn_Gr τ G g := jn_Gr_fr hG hF (fun i hi q => by unfold kW_tr at q; omega) (fun k i k1 k2 q => by unfold kW_tr at q; omega)
      have hs := ka_sym_ok hW (r := (r : Int)) (d := d) ⟨by omega, hr⟩ (by omega)
      refine jb_X6_tryRule_7 h0 h1 (jc_X0_lengthOf h1 hGτ hW (by omega) ?_)
      rw [jr_wr (by omega), jr_wr (by omega)]
      refine jn_ite (fun h => by omega) (fun _ => jc_X0_symbolAt h1 hGτ hW (by omega) (by omega) ?_)
      have hVτ : ka_KR zN (τ.1 (a + 3)) (τ.1 (a + 1)) V := ka_KR_cg hV (fun i => hF.1 _ _ (fun q => by unfold kW_tr at q; omega)) (fun i => hF.1 _ _ (fun q => by unfold kW_tr at q; omega))
      refine jc_X6_lengthen h0 (by omega) hVτ hT (by decide) (fun hlt => ?_) (fun τ2 hle2 hF2 hT2 => ?_)
      · refine jn_ite (fun _ => k0 τ hF ?_) (fun h => absurd rfl h)
        have e := ka_cr_len (g := g) (V := V) (r := (r : Int)) (d := d + 1) (e := m)
        have e2 : ka_trK g r V = ka_cr g V r (d + 1 + m) := by unfold ka_trK; rw [show (jn_len g r).toNat = d + 1 + m by omega]
        rw [e2]
        have e3 : (ka_cr g V r (d + 1)).1 = (ka_cr g V r d).1 + (ka_sv V (jn_sym g r d)).1 := rfl
        omega
      · refine jn_ite (fun h => by cases h) (fun _ => ?_)
        have := ih (d + 1) τ2 (jF_tr hF hF2) hT2 (by show (ka_cr g V r d).1 + (ka_sv V (jn_sym g r d)).1 ≤ 40; omega) (by omega)
        rw [show ((d + 1 : Nat) : Int) = (d : Int) + 1 by omega] at this
        exact this
  refine jb_X6_tryRule_0 h0 h1 ?_
  rintro _ rfl
  refine hloop (jn_len g r).toNat 0 _ (jF_I (Or.inr ⟨rfl, rfl⟩)) ⟨js_Is, Nat.zero_le _, rfl, fun i hi => ?_⟩ (Nat.zero_le _) (by omega)
  exact absurd hi (Nat.not_lt_zero i)
/-- one RULE tried, in the class: the memory behind it -/
theorem jc_X6_settleKinds (h0 : jg_sh a = (6, 0)) (h1 : jg_sh G = (0, 0)) (hGa : G + 8 ≤ a) (hG : jn_Gr σ G g) (hW : jn_GW g) (hV : ka_KR zN (σ.1 (a + 3)) (σ.1 (a + 1)) ka_V0)
    (hk : ∀ τ, jF (kW_sk a) σ τ → ka_KR zN (τ.1 (a + 3)) (τ.1 (a + 1)) (ka_VK g) → KV τ) : jg_CV w 3 mm_X6_settleKinds [.ref a, .ref G] σ KV := by
  have hw := hW.1
  have hg := ka_gdK hW
  have s3 : jg_sh (a + 3) = (20, 200) := jg_sX6_2 h0
  have hop : ∀ (m : Nat), (∀ (V : ka_Ve) (τ : jg_M) (i : Nat) (x2 : Int) (x3 : Int) (u5 : Value) (n : Nat), n = (g 0 2).toNat → i + m = n → ka_vv V → jF (kW_sk a) σ τ → ka_KR zN (τ.1 (a + 3)) (τ.1 (a + 1)) (ka_pr (ka_tgK g) (ka_trK g) 40 i V) → ((x2 = 0 ∧ ka_pr (ka_tgK g) (ka_trK g) 40 i V = V) ∨ (x2 = 1 ∧ ka_pr (ka_tgK g) (ka_trK g) 40 i V ≠ V)) →
      (∀ (τ : jg_M) (x2 : Int) (u4 u5 : Value), jF (kW_sk a) σ τ → ka_KR zN (τ.1 (a + 3)) (τ.1 (a + 1)) (ka_pr (ka_tgK g) (ka_trK g) 40 n V) → ((x2 = 0 ∧ ka_pr (ka_tgK g) (ka_trK g) 40 n V = V) ∨ (x2 = 1 ∧ ka_pr (ka_tgK g) (ka_trK g) 40 n V ≠ V)) → jg_GV w 3 mm_X6_settleKinds 4 [.ref a, .ref G, .int (.ofInt x2), .int (.ofInt (x3 + 1)), u4, u5] τ KV) →
      jg_GV w 3 mm_X6_settleKinds 19 [.ref a, .ref G, .int (.ofInt x2), .int (.ofInt x3), .int (.ofInt (i : Int)), u5] τ KV) := by
    intro m
    induction m with
    | zero =>
      intro V τ i x2 x3 u5 n hn hi hVv hF hKR hfl kk
      have hGτ : jn_Gr τ G g := jn_Gr_fr hG hF (fun i hi q => by unfold kW_sk at q; omega) (fun k i k1 k2 q => by unfold kW_sk at q; omega)
      refine jb_X6_settleKinds_19 h0 h1 ?_
      rw [hGτ.1.2.2.1, jr_wr (by omega), jr_wr (by omega)]
      refine jn_ite (fun _ => ?_) (fun h => by omega)
      have hin : i = n := by omega
      subst hin
      exact kk τ x2 _ _ hF hKR hfl
    | succ m ih =>
      intro V τ i x2 x3 u5 n hn hi hVv hF hKR hfl kk
      have hGτ : jn_Gr τ G g := jn_Gr_fr hG hF (fun i hi q => by unfold kW_sk at q; omega) (fun k i k1 k2 q => by unfold kW_sk at q; omega)
      have hir : (i : Int) < g 0 2 := by omega
      have h3 := (hW.2.1 (i : Int) (by omega) hir).1
      have hpv := (ka_pr_vv (hn ▸ hg) hVv (i := i) (by omega)).1
      have hsame : ∀ τ2, jF (kW_tr a) τ τ2 → jF (kW_sk a) σ τ2 ∧ ka_KR zN (τ2.1 (a + 3)) (τ2.1 (a + 1)) (ka_pr (ka_tgK g) (ka_trK g) 40 i V) := fun τ2 hF2 =>
        ⟨jF_tr hF (jF_mono hF2 (fun c i q => by unfold kW_tr at q; unfold kW_sk; omega)), ka_KR_cg hKR (fun i => hF2.1 _ _ (fun q => by unfold kW_tr at q; omega)) (fun i => hF2.1 _ _ (fun q => by unfold kW_tr at q; omega))⟩
      have hno : ∀ τ2, jF (kW_tr a) τ τ2 → ¬ ((ka_trK g i (ka_pr (ka_tgK g) (ka_trK g) 40 i V)).1 ≤ 40 ∧ (ka_trK g i (ka_pr (ka_tgK g) (ka_trK g) 40 i V)).2 < (ka_pr (ka_tgK g) (ka_trK g) 40 i V (ka_tgK g i)).2) → ∀ u, jg_GV w 3 mm_X6_settleKinds 19 [.ref a, .ref G, .int (.ofInt x2), .int (.ofInt x3), .int (.ofInt ((i : Int) + 1)), u] τ2 KV := fun τ2 hF2 hc u => by
        have e : ka_pr (ka_tgK g) (ka_trK g) 40 (i + 1) V = ka_pr (ka_tgK g) (ka_trK g) 40 i V := ka_sp_no hc
        have := ih V τ2 (i + 1) x2 x3 u n hn (by omega) hVv (hsame τ2 hF2).1 (by rw [e]; exact (hsame τ2 hF2).2) (by rw [e]; exact hfl) kk
        rw [show ((i + 1 : Nat) : Int) = (i : Int) + 1 by omega] at this
        exact this
      refine jb_X6_settleKinds_19 h0 h1 ?_
      rw [hGτ.1.2.2.1, jr_wr (show jr (g 0 2) by omega), jr_wr (show jr (i : Int) by omega)]
      refine jn_ite (fun h => by omega) (fun _ => jc_X0_kindOf h1 hGτ hW (by omega) ?_)
      rw [show (if 0 ≤ (i : Int) ∧ (i : Int) < g 0 2 then g 3 i else -1) = g 3 i from if_pos ⟨by omega, hir⟩, jr_wr (show jr (g 3 i) by omega)]
      refine jn_ite (fun h => by omega) (fun _ => jn_ite (fun h => by omega) (fun _ => jc_X6_tryRule h0 h1 hGa hGτ hW hir hKR (fun τ2 hF2 hgt => ?_) (fun τ2 hF2 hle hT => ?_)))
      · exact jn_ite (fun _ => hno τ2 hF2 (fun q => by have := q.1; omega) _) (fun h => absurd rfl h)
      · refine jn_ite (fun h => by cases h) (fun _ => ⟨by omega, ?_⟩)
        have hs2 := hsame τ2 hF2
        have hq := hs2.2 (g 3 i) (by omega) (by omega)
        have hr40 := ka_KR_40 hs2.2 (k := g 3 i) ⟨by omega, by omega⟩
        refine jc_X6_improves (p := ka_trK g i (ka_pr (ka_tgK g) (ka_trK g) 40 i V)) h0 s3 (by decide) hT hq.1 (by omega) (fun hL => by rcases hr40 with q | q <;> omega) ?_
        rw [jr_wr (show jr (g 3 i * 40) by omega)]
        refine jn_if (fun hc => hno τ2 hF2 (fun q => hc q.2) _) (fun hc => ⟨by omega, ?_⟩)
        rintro _ rfl
        refine ⟨by omega, ?_⟩
        rintro _ rfl
        have hyes : (ka_trK g i (ka_pr (ka_tgK g) (ka_trK g) 40 i V)).1 ≤ 40 ∧ (ka_trK g i (ka_pr (ka_tgK g) (ka_trK g) 40 i V)).2 < (ka_pr (ka_tgK g) (ka_trK g) 40 i V (ka_tgK g i)).2 := ⟨hle, hc⟩
        have e : ka_pr (ka_tgK g) (ka_trK g) 40 (i + 1) V = fun k => if k = g 3 i then ka_trK g i (ka_pr (ka_tgK g) (ka_trK g) 40 i V) else ka_pr (ka_tgK g) (ka_trK g) 40 i V k := ka_sp_yes hyes
        have hne := ka_pr_yes (hn ▸ hg) hVv (show i < n by omega) hyes
        have hcp : ∀ c i', ¬ (c = a + 3) → (jg_cI τ2 (a + 5) 0 (a + 3) (g 3 i * 40) 40).1 c i' = τ2.1 c i' := fun c i' h => by
          show (if _ then _ else _) = _
          rw [if_neg (fun q => h q.1)]
        have hFc : jF (kW_sk a) τ2 (jg_cI τ2 (a + 5) 0 (a + 3) (g 3 i * 40) 40) := ⟨fun c i' h => hcp c i' (fun q => h (Or.inr (Or.inl q))), fun c i' _ => rfl⟩
        have := ih V (jg_sI (jg_cI τ2 (a + 5) 0 (a + 3) (g 3 i * 40) 40) (a + 1) (g 3 i) ((jg_cI τ2 (a + 5) 0 (a + 3) (g 3 i * 40) 40).1 a 5)) (i + 1) 1 x3 (.int (.ofInt (g 3 i))) n hn (by omega) hVv (jF_toI (jF_tr hs2.1 hFc) (Or.inl rfl)) (by
          rw [e]
          refine ka_KR_up (T := τ2.1 (a + 5)) hs2.2 (by omega) hle hT.2.2.1 hT.2.2.2 (fun j hj => ?_) (fun j hj => ?_) ?_ (fun k hk => ?_)
          · rw [js_In (Or.inl (by omega))]
            show (if _ then _ else _) = _
            rw [if_pos ⟨rfl, by omega, by omega⟩]
            rw [show (0 : Int) + (g 3 i * 40 + (j : Int) - g 3 i * 40) = (j : Int) by omega]
          · rw [js_In (Or.inl (by omega))]
            show (if _ then _ else _) = _
            rw [if_neg (fun q => by omega)]
          · rw [js_Is, hcp _ _ (by omega), hT.1]
          · rw [js_In (Or.inr hk), hcp _ _ (by omega)]) (Or.inr ⟨rfl, hne⟩) kk
        rw [show ((i + 1 : Nat) : Int) = (i : Int) + 1 by omega] at this
        exact this
  have hout : ∀ (f m : Nat) (τ : jg_M) (u4 u5 : Value), m + f = 5 → jF (kW_sk a) σ τ → ka_KR zN (τ.1 (a + 3)) (τ.1 (a + 1)) (ka_it (ka_pr (ka_tgK g) (ka_trK g) 40 (g 0 2).toNat) m ka_V0) → jg_GV w 3 mm_X6_settleKinds 4 [.ref a, .ref G, .int (.ofInt 1), .int (.ofInt (m : Int)), u4, u5] τ KV := by
    intro f
    induction f with
    | zero =>
      intro m τ u4 u5 hm hF hKR
      refine jb_X6_settleKinds_4 h0 h1 ?_
      rw [jr_wr (show jr 1 by decide), jr_wr (show jr (m : Int) by omega)]
      refine jn_ite (fun h => by omega) (fun _ => jn_ite (fun h => by omega) (fun _ => ?_))
      refine hop (g 0 2).toNat _ τ 0 0 (m : Int) _ _ rfl (by omega) (ka_it_vv hg ka_V0_vv (m := m)).1 hF hKR (Or.inl ⟨rfl, rfl⟩) (fun τ2 x2 v4 v5 hF2 hKR2 hfl => ?_)
      rcases hfl with ⟨hz, hst⟩ | ⟨hz, hst⟩
      · subst hz
        refine jb_X6_settleKinds_4 h0 h1 ?_
        rw [jr_wr (show jr 0 by decide)]
        refine jn_ite (fun _ => hk τ2 hF2 ?_) (fun h => absurd rfl h)
        rw [hst, ka_stop hst (show m ≤ 5 by omega)] at hKR2
        exact hKR2
      · exact absurd (ka_go hg ka_V0_vv hst) (by omega)
    | succ f ihf =>
      intro m τ u4 u5 hm hF hKR
      refine jb_X6_settleKinds_4 h0 h1 ?_
      rw [jr_wr (show jr 1 by decide), jr_wr (show jr (m : Int) by omega)]
      refine jn_ite (fun h => by omega) (fun _ => jn_ite (fun h => by omega) (fun _ => ?_))
      refine hop (g 0 2).toNat _ τ 0 0 (m : Int) _ _ rfl (by omega) (ka_it_vv hg ka_V0_vv (m := m)).1 hF hKR (Or.inl ⟨rfl, rfl⟩) (fun τ2 x2 v4 v5 hF2 hKR2 hfl => ?_)
      rcases hfl with ⟨hz, hst⟩ | ⟨hz, hst⟩
      · subst hz
        refine jb_X6_settleKinds_4 h0 h1 ?_
        rw [jr_wr (show jr 0 by decide)]
        refine jn_ite (fun _ => hk τ2 hF2 ?_) (fun h => absurd rfl h)
        rw [hst, ka_stop hst (show m ≤ 5 by omega)] at hKR2
        exact hKR2
      · subst hz
        have := ihf (m + 1) τ2 v4 v5 (by omega) hF2 hKR2
        rw [show ((m + 1 : Nat) : Int) = (m : Int) + 1 by omega] at this
        exact this
  exact jb_X6_settleKinds_0 h0 h1 (hout 5 0 σ _ _ rfl jF_rf hV)
end KAK
