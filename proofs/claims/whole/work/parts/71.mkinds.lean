/-! SHORTEST of KINDS, in the reference -/
section KAL
def kW_sm (c : Nat) (i : Int) : Prop := c = 92 + 29 ∨ c = 92 + 30 ∨ c = 92 + 33 ∨ (c = 92 ∧ i = 48)
variable {zN : Int} {w : Nat} {σ τ : jg_M} {g : gM} {V : ka_Ve} {KV : jg_M → Prop}
theorem kW_sm_Mg (hG : jn_Mg σ 0 g) (hF : jF kW_sm σ τ) : jn_Mg τ 0 g := jn_Mg_fr hG hF ⟨fun q => by unfold kW_sm at q; omega, fun q => by unfold kW_sm at q; omega, fun q => by unfold kW_sm at q; omega⟩ (fun k i k1 q => by unfold kW_sm at q; omega)
theorem jm_layKinds (hG : jn_Mg σ 0 g) (hW : jn_GW g)
    (hk : ∀ τ, jF kW_sm σ τ → ka_KR (-1) (τ.1 (92 + 30)) (τ.1 (92 + 29)) (ka_VK g) → jg_CV w 2 mm_X12_layWays [.ref 92] τ KV) : jg_CV w 3 mm_X12_layShortest [.ref 92] σ KV := by
  have hw := hW.1
  have hg := ka_gdK hW
  have hcopy : ∀ (p : Nat × Nat) (kd : Int) (τ0 : jg_M) (u1 : Value) (x2 : Int) (KV : jg_M → Prop), p.1 ≤ 40 → 0 ≤ kd ∧ kd < 5 → ka_TR (τ0.1 (92 + 33)) (τ0.1 92 48) 160 p →
      (∀ τ (v4 : Value), jF kW_sm τ0 τ → (∀ i : Nat, i < p.1 → τ.1 (92 + 30) (kd * 40 + i) = τ0.1 (92 + 33) i) → (∀ i : Int, i < kd * 40 ∨ kd * 40 + 40 ≤ i → τ.1 (92 + 30) i = τ0.1 (92 + 30) i) → τ.1 (92 + 29) kd = (p.1 : Nat) → (∀ k, k ≠ kd → τ.1 (92 + 29) k = τ0.1 (92 + 29) k) → jg_GV w 3 mm_X12_layShortest 30 [.ref 92, .int (.ofInt 1), .int (.ofInt (x2 + 1)), .int (.ofInt kd), v4] τ KV) →
      ∀ (m j : Nat) (τ : jg_M), jF kW_sm τ0 τ → (∀ i : Nat, i < j → τ.1 (92 + 30) (kd * 40 + i) = τ0.1 (92 + 33) i) → (∀ i : Int, i < kd * 40 ∨ kd * 40 + 40 ≤ i → τ.1 (92 + 30) i = τ0.1 (92 + 30) i) → (∀ k, τ.1 (92 + 29) k = τ0.1 (92 + 29) k) → τ.1 92 48 = τ0.1 92 48 → (∀ i, τ.1 (92 + 33) i = τ0.1 (92 + 33) i) → j + m = p.1 → jg_GV w 3 mm_X12_layShortest 82 [.ref 92, u1, .int (.ofInt x2), .int (.ofInt kd), .int (.ofInt (j : Int))] τ KV := by
    intro p kd τ0 u1 x2 KV hp hkd hT kk m
    induction m with
    | zero =>
      intro j τ hF h1 h2 h3 h4 h5 hj
      refine jb_X12_layShortest_82 rfl ?_
      rw [h4, hT.1, jr_wr (show jr ((p.1 : Nat) : Int) by omega), jr_wr (show jr (j : Int) by omega), jr_wr (show jr kd by omega)]
      refine jn_ite (fun _ => ⟨by omega, ?_⟩) (fun h => by omega)
      rintro _ rfl
      refine kk _ _ (jF_toI hF (Or.inl rfl)) (fun i hi => ?_) (fun i hi => ?_) js_Is (fun k hk => ?_)
      · rw [js_In (Or.inl (by omega))]; exact h1 i (by omega)
      · rw [js_In (Or.inl (by omega))]; exact h2 i hi
      · rw [js_In (Or.inr hk)]; exact h3 k
    | succ m ih =>
      intro j τ hF h1 h2 h3 h4 h5 hj
      refine jb_X12_layShortest_82 rfl ?_
      rw [h4, hT.1, jr_wr (show jr ((p.1 : Nat) : Int) by omega), jr_wr (show jr (j : Int) by omega), jr_wr (show jr (40 * kd + (j : Int)) by omega)]
      refine jn_ite (fun h => by omega) (fun _ => ⟨by omega, by omega, ?_⟩)
      rintro _ rfl
      have := ih (j + 1) (jg_sI τ (92 + 30) (40 * kd + (j : Int)) (τ.1 (92 + 33) (j : Int))) (jF_toI hF (Or.inr (Or.inl rfl))) (fun i hi => ?_) (fun i hi => ?_) (fun k => ?_) ?_ (fun i => ?_) (by omega)
      · rw [show ((j + 1 : Nat) : Int) = (j : Int) + 1 by omega] at this
        exact this
      · by_cases hij : i = j
        · subst hij
          rw [show kd * 40 + (i : Int) = 40 * kd + (i : Int) by omega, js_Is, h5]
        · rw [js_In (Or.inr (by omega))]; exact h1 i (by omega)
      · rw [js_In (Or.inr (by omega))]; exact h2 i hi
      · rw [js_In (Or.inl (by omega))]; exact h3 k
      · rw [js_In (Or.inl (by omega))]; exact h4
      · rw [js_In (Or.inl (by omega))]; exact h5 i
  have hop : ∀ (m : Nat), (∀ (V : ka_Ve) (τ : jg_M) (i : Nat) (x1 : Int) (u3 u4 : Value) (n : Nat), n = (g 0 2).toNat → i + m = n → ka_vv V → jF kW_sm σ τ → ka_KR (-1) (τ.1 (92 + 30)) (τ.1 (92 + 29)) (ka_pr (ka_tgK g) (ka_trK g) 40 i V) → ((x1 = 0 ∧ ka_pr (ka_tgK g) (ka_trK g) 40 i V = V) ∨ (x1 = 1 ∧ ka_pr (ka_tgK g) (ka_trK g) 40 i V ≠ V)) →
      (∀ (τ : jg_M) (x1 : Int) (u2 u3 u4 : Value), jF kW_sm σ τ → ka_KR (-1) (τ.1 (92 + 30)) (τ.1 (92 + 29)) (ka_pr (ka_tgK g) (ka_trK g) 40 n V) → ((x1 = 0 ∧ ka_pr (ka_tgK g) (ka_trK g) 40 n V = V) ∨ (x1 = 1 ∧ ka_pr (ka_tgK g) (ka_trK g) 40 n V ≠ V)) → jg_GV w 3 mm_X12_layShortest 22 [.ref 92, .int (.ofInt x1), u2, u3, u4] τ KV) →
      jg_GV w 3 mm_X12_layShortest 30 [.ref 92, .int (.ofInt x1), .int (.ofInt (i : Int)), u3, u4] τ KV) := by
    intro m
    induction m with
    | zero =>
      intro V τ i x1 u3 u4 n hn hi hVv hF hKR hfl kk
      have hGτ := kW_sm_Mg hG hF
      refine jb_X12_layShortest_30 rfl ?_
      rw [hGτ.1.2.2.2.2.2.2, jr_wr (by omega), jr_wr (by omega)]
      refine jn_ite (fun _ => ?_) (fun h => by omega)
      have hin : i = n := by omega
      subst hin
      exact kk τ x1 _ _ _ hF hKR hfl
    | succ m ih =>
      intro V τ i x1 u3 u4 n hn hi hVv hF hKR hfl kk
      have hGτ := kW_sm_Mg hG hF
      have hir : (i : Int) < g 0 2 := by omega
      have h3 := (hW.2.1 (i : Int) (by omega) hir).1
      have hkd := (hGτ.2 (i : Int) (by omega) hir).1
      rw [show (13 : Int) * 0 + (i : Int) = (i : Int) by omega] at hkd
      have hpv := (ka_pr_vv (hn ▸ hg) hVv (i := i) (by omega)).1
      have hsame : ∀ τ2, jF kW_mt τ τ2 → jF kW_sm σ τ2 ∧ ka_KR (-1) (τ2.1 (92 + 30)) (τ2.1 (92 + 29)) (ka_pr (ka_tgK g) (ka_trK g) 40 i V) := fun τ2 hF2 =>
        ⟨jF_tr hF (jF_mono hF2 (fun c i q => by unfold kW_mt at q; unfold kW_sm; omega)), ka_KR_cg hKR (fun i => hF2.1 _ _ (fun q => by unfold kW_mt at q; omega)) (fun i => hF2.1 _ _ (fun q => by unfold kW_mt at q; omega))⟩
      have hno : ∀ τ2, jF kW_mt τ τ2 → ¬ ((ka_trK g i (ka_pr (ka_tgK g) (ka_trK g) 40 i V)).1 ≤ 40 ∧ (ka_trK g i (ka_pr (ka_tgK g) (ka_trK g) 40 i V)).2 < (ka_pr (ka_tgK g) (ka_trK g) 40 i V (ka_tgK g i)).2) → ∀ u v, jg_GV w 3 mm_X12_layShortest 30 [.ref 92, .int (.ofInt x1), .int (.ofInt ((i : Int) + 1)), u, v] τ2 KV := fun τ2 hF2 hc u v => by
        have e : ka_pr (ka_tgK g) (ka_trK g) 40 (i + 1) V = ka_pr (ka_tgK g) (ka_trK g) 40 i V := ka_sp_no hc
        have := ih V τ2 (i + 1) x1 u v n hn (by omega) hVv (hsame τ2 hF2).1 (by rw [e]; exact (hsame τ2 hF2).2) (by rw [e]; exact hfl) kk
        rw [show ((i + 1 : Nat) : Int) = (i : Int) + 1 by omega] at this
        exact this
      refine jb_X12_layShortest_30 rfl ?_
      rw [hGτ.1.2.2.2.2.2.2, jr_wr (show jr (g 0 2) by omega), jr_wr (show jr (i : Int) by omega)]
      refine jn_ite (fun h => by omega) (fun _ => ⟨by omega, ?_⟩)
      rintro _ rfl
      rw [hkd, jr_wr (show jr (g 3 i) by omega)]
      refine jm_isMade hGτ hW hir hKR (fun τ2 hF2 hgt => ?_) (fun τ2 hF2 hle hT => ?_)
      · exact jn_ite (fun _ => hno τ2 hF2 (fun q => by have := q.1; omega) _ _) (fun h => absurd rfl h)
      · refine jn_ite (fun h => by cases h) (fun _ => ⟨by omega, ?_⟩)
        have hs2 := hsame τ2 hF2
        have hq := hs2.2 (g 3 i) (by omega) (by omega)
        have hr40 := ka_KR_40 hs2.2 (k := g 3 i) ⟨by omega, by omega⟩
        refine jm_isAhead (p := ka_trK g i (ka_pr (ka_tgK g) (ka_trK g) 40 i V)) (v := ka_pr (ka_tgK g) (ka_trK g) 40 i V (g 3 i)) (a1 := 92 + 30) (n1 := 200) rfl (by decide) hT (by omega) (by rw [Int.mul_comm]; exact hq.1) (by omega) (fun hL => by rcases hr40 with q | q <;> omega) ?_
        refine jn_if (fun hc => hno τ2 hF2 (fun q => hc q.2) _ _) (fun hc => ?_)
        have hyes : (ka_trK g i (ka_pr (ka_tgK g) (ka_trK g) 40 i V)).1 ≤ 40 ∧ (ka_trK g i (ka_pr (ka_tgK g) (ka_trK g) 40 i V)).2 < (ka_pr (ka_tgK g) (ka_trK g) 40 i V (ka_tgK g i)).2 := ⟨hle, hc⟩
        have e : ka_pr (ka_tgK g) (ka_trK g) 40 (i + 1) V = fun k => if k = g 3 i then ka_trK g i (ka_pr (ka_tgK g) (ka_trK g) 40 i V) else ka_pr (ka_tgK g) (ka_trK g) 40 i V k := ka_sp_yes hyes
        have hne := ka_pr_yes (hn ▸ hg) hVv (show i < n by omega) hyes
        refine hcopy _ (g 3 i) τ2 _ _ KV hle (by omega) hT (fun τ3 v4 hF3 c1 c2 c3 c4 => ?_) (ka_trK g i (ka_pr (ka_tgK g) (ka_trK g) 40 i V)).1 0 τ2 jF_rf (fun i hi => by omega) (fun _ _ => rfl) (fun _ => rfl) rfl (fun _ => rfl) (by omega)
        have := ih V τ3 (i + 1) 1 (.int (.ofInt (g 3 i))) v4 n hn (by omega) hVv (jF_tr hs2.1 hF3) (by rw [e]; exact ka_KR_up (T := τ2.1 (92 + 33)) hs2.2 (by omega) hle hT.2.2.1 hT.2.2.2 c1 c2 c3 c4) (Or.inr ⟨rfl, hne⟩) kk
        rw [show ((i + 1 : Nat) : Int) = (i : Int) + 1 by omega] at this
        exact this
  have hout : ∀ (f m : Nat) (τ : jg_M) (u2 u3 u4 : Value), m + f = 5 → jF kW_sm σ τ → ka_KR (-1) (τ.1 (92 + 30)) (τ.1 (92 + 29)) (ka_it (ka_pr (ka_tgK g) (ka_trK g) 40 (g 0 2).toNat) m ka_V0) → jg_GV w 3 mm_X12_layShortest 22 [.ref 92, .int (.ofInt 1), u2, u3, u4] τ KV := by
    intro f
    induction f with
    | zero =>
      intro m τ u2 u3 u4 hm hF hKR
      refine jb_X12_layShortest_22 rfl ?_
      rw [jr_wr (show jr 1 by decide)]
      refine jn_ite (fun h => by omega) (fun _ => ?_)
      refine hop (g 0 2).toNat _ τ 0 0 _ _ _ rfl (by omega) (ka_it_vv hg ka_V0_vv (m := m)).1 hF hKR (Or.inl ⟨rfl, rfl⟩) (fun τ2 x1 v2 v3 v4 hF2 hKR2 hfl => ?_)
      rcases hfl with ⟨hz, hst⟩ | ⟨hz, hst⟩
      · subst hz
        refine jb_X12_layShortest_22 rfl ?_
        rw [jr_wr (show jr 0 by decide)]
        refine jn_ite (fun _ => hk τ2 hF2 ?_) (fun h => absurd rfl h)
        rw [hst, ka_stop hst (show m ≤ 5 by omega)] at hKR2
        exact hKR2
      · exact absurd (ka_go hg ka_V0_vv hst) (by omega)
    | succ f ihf =>
      intro m τ u2 u3 u4 hm hF hKR
      refine jb_X12_layShortest_22 rfl ?_
      rw [jr_wr (show jr 1 by decide)]
      refine jn_ite (fun h => by omega) (fun _ => ?_)
      refine hop (g 0 2).toNat _ τ 0 0 _ _ _ rfl (by omega) (ka_it_vv hg ka_V0_vv (m := m)).1 hF hKR (Or.inl ⟨rfl, rfl⟩) (fun τ2 x1 v2 v3 v4 hF2 hKR2 hfl => ?_)
      rcases hfl with ⟨hz, hst⟩ | ⟨hz, hst⟩
      · subst hz
        refine jb_X12_layShortest_22 rfl ?_
        rw [jr_wr (show jr 0 by decide)]
        refine jn_ite (fun _ => hk τ2 hF2 ?_) (fun h => absurd rfl h)
        rw [hst, ka_stop hst (show m ≤ 5 by omega)] at hKR2
        exact hKR2
      · subst hz
        exact ihf (m + 1) τ2 v2 v3 v4 (by omega) hF2 hKR2
  have hini : ∀ (m k : Nat) (τ : jg_M) (u2 u3 u4 : Value), k + m = 5 → jF kW_sm σ τ → (∀ j : Int, 0 ≤ j → j < k → τ.1 (92 + 29) j = -1) → jg_GV w 3 mm_X12_layShortest 2 [.ref 92, .int (.ofInt (k : Int)), u2, u3, u4] τ KV := by
    intro m
    induction m with
    | zero =>
      intro k τ u2 u3 u4 hkm hF hz
      refine jb_X12_layShortest_2 rfl ?_
      rw [jr_wr (by omega)]
      refine jn_ite (fun _ => hout 5 0 τ _ _ _ rfl hF (fun j j0 j5 => ?_)) (fun h => by omega)
      rw [hz j j0 (by omega)]
      exact ⟨Or.inl ⟨by decide, ⟨by decide, rfl⟩, rfl⟩, Or.inr rfl⟩
    | succ m ih =>
      intro k τ u2 u3 u4 hkm hF hz
      refine jb_X12_layShortest_2 rfl ?_
      rw [jr_wr (by omega)]
      refine jn_ite (fun h => by omega) (fun _ => ⟨by omega, ?_⟩)
      rintro _ rfl
      have := ih (k + 1) (jg_sI τ (92 + 29) (k : Int) (-1)) u2 u3 u4 (by omega) (jF_toI hF (Or.inl rfl)) (fun j j0 j1 => by
        by_cases hjk : j = k
        · subst hjk; exact js_Is
        · rw [js_In (Or.inr hjk)]; exact hz j j0 (by omega))
      rw [show ((k + 1 : Nat) : Int) = (k : Int) + 1 by omega] at this
      exact this
  exact jb_X12_layShortest_0 rfl (hini 5 0 σ _ _ _ rfl jF_rf (fun j j0 j1 => by omega))
end KAL
