/-! SHORTEST to STATES, in the class: all of it -/
section KAT
def kW_xs (a : Nat) (c : Nat) (i : Int) : Prop := (a + 1 ≤ c ∧ c ≤ a + 5) ∨ (c = a ∧ i = 5)
variable {zN : Int} {w : Nat} {σ τ : jg_M} {a A T n K i : Nat} {g : gM} {S : jn_Q} {V W : ka_Ve} {KV : jg_M → Prop} {x2 : Int}
def ka_fl (P : Prop) (x : Int) : Prop := (x = 0 ∧ P) ∨ (x = 1 ∧ ¬ P)
theorem ka_no_ops {s : Nat} (hW : jn_GW g) (hF : jn_FP g S) : ∀ (m x : Nat), x + m ≤ 15 → ka_pw g S (15 * s + x) V (s : Int) = ka_no → ka_pw g S (15 * s + (x + m)) V = ka_pw g S (15 * s + x) V
  | 0, x, _, _ => rfl
  | m + 1, x, hx, h => by
    have ih := ka_no_ops hW hF m x (by omega) h
    have key : ∀ Z : ka_Ve, Z (s : Int) = ka_no → ¬ (ka_trW S (ka_VK g) (15 * s + (x + m)) Z).1 ≤ 60 := fun Z hZ h1 => by
      unfold ka_trW at h1
      rw [show (15 * s + (x + m)) / 15 = s by omega, hZ] at h1
      split at h1
      · have : 100 + (ka_sv (ka_VK g) (((15 * s + (x + m)) % 15 : Nat) : Int)).1 ≤ 60 := h1
        omega
      · rw [ka_no1] at h1
        omega
    show ka_sp (ka_tgW S) (ka_trW S (ka_VK g)) 60 (15 * s + (x + m)) (ka_pw g S (15 * s + (x + m)) V) = _
    rw [ih]
    exact ka_sp_no (fun hc => key _ h hc.1)
theorem jc_X6_settleStates (h0 : jg_sh a = (6, 0)) (hA : jg_sh A = (7, 0)) (hMV : ka_MV σ A S) (hAa : A + 12 ≤ a) (hW : jn_GW g) (hF : jn_FP g S) (hV : ka_KR zN (σ.1 (a + 3)) (σ.1 (a + 1)) (ka_VK g)) (hWR : ka_WR zN (σ.1 (a + 4)) (σ.1 (a + 2)) ka_W0)
    (hk : ∀ τ, jF (kW_sw a) σ τ → ka_WR zN (τ.1 (a + 4)) (τ.1 (a + 2)) (ka_VW g S) → KV τ) : jg_CV w 3 mm_X6_settleStates [.ref a, .ref A] σ KV := by
  have hI := hF.1.1
  have hg := ka_gdW hW hF
  have hMf : ∀ τ, jF (kW_sw a) σ τ → ka_MV τ A S := fun τ hf => ⟨(hf.1 _ _ (fun q => by unfold kW_sw at q; omega)).trans hMV.1, fun s x s0 s1 x0 x1 => (hf.1 _ _ (fun q => by unfold kW_sw at q; omega)).trans (hMV.2 s x s0 s1 x0 x1)⟩
  have hVf : ∀ τ, jF (kW_sw a) σ τ → ka_KR zN (τ.1 (a + 3)) (τ.1 (a + 1)) (ka_VK g) := fun τ hf => ka_KR_cg hV (fun i => hf.1 _ _ (fun q => by unfold kW_sw at q; omega)) (fun i => hf.1 _ _ (fun q => by unfold kW_sw at q; omega))
  have hin : ∀ (m x s : Nat) (V : ka_Ve) (τ : jg_M) (x2 x3 : Int), ka_vv V → (s : Int) < S.1 → x + m = 15 → jF (kW_sw a) σ τ → ka_WR zN (τ.1 (a + 4)) (τ.1 (a + 2)) (ka_pw g S (15 * s + x) V) → ka_fl (ka_pw g S (15 * s + x) V = V) x2 →
      (∀ (τ : jg_M) (x2 : Int) (u5 : Value), jF (kW_sw a) σ τ → ka_WR zN (τ.1 (a + 4)) (τ.1 (a + 2)) (ka_pw g S (15 * (s + 1)) V) → ka_fl (ka_pw g S (15 * (s + 1)) V = V) x2 → jg_GV w 3 mm_X6_settleStates 19 [.ref a, .ref A, .int (.ofInt x2), .int (.ofInt x3), .int (.ofInt ((s : Int) + 1)), u5] τ KV) →
      jg_GV w 3 mm_X6_settleStates 31 [.ref a, .ref A, .int (.ofInt x2), .int (.ofInt x3), .int (.ofInt (s : Int)), .int (.ofInt (x : Int))] τ KV := by
    intro m
    induction m with
    | zero =>
      intro x s V τ x2 x3 hVv hs hx hf hR hfl kk
      refine jb_X6_settleStates_31 h0 hA ?_
      rw [jr_wr (by omega)]
      refine jn_ite (fun _ => ?_) (fun h => by omega)
      rw [show 15 * s + x = 15 * (s + 1) by omega] at hR hfl
      exact kk τ x2 _ hf hR hfl
    | succ m ih =>
      intro x s V τ x2 x3 hVv hs hx hf hR hfl kk
      have hws := hR (s : Int) (by omega) (by omega)
      have hwr := ka_wd_rng hws
      have hj : 15 * s + x < 15 * S.1.toNat := by omega
      have hpv := ka_pr_vv hg hVv (i := 15 * s + x) (by omega)
      refine jb_X6_settleStates_31 h0 hA ?_
      rw [jr_wr (show jr (x : Int) by omega), jr_wr (show jr (s : Int) by omega), jr_wr (show jr (τ.1 (a + 2) (s : Int)) by omega)]
      refine jn_ite (fun h => by omega) (fun _ => ⟨by omega, jn_ite (fun hneg => ?_) (fun hpos => ?_)⟩)
      · have e := ka_no_ops (V := V) (s := s) hW hF (m + 1) x (by omega) (ka_wd_neg hws hneg)
        rw [show 15 * s + (x + (m + 1)) = 15 * (s + 1) by omega] at e
        rw [← e] at hR hfl
        exact kk τ x2 _ hf hR hfl
      · have ed : (15 * s + x) / 15 = s := by omega
        have em : (15 * s + x) % 15 = x := by omega
        have himp := jc_X6_improveBy (w := w) (j := 15 * s + x) h0 hA (hMf τ hf) hAa hW hF hj (hVf τ hf) hR (by rw [ed]; omega) (KI := fun (z102 : Int) (m101 : jg_M) => (if jg_wr z102 = 0 then jg_GV w 3 mm_X6_settleStates 31 [.ref a, .ref A, .int (.ofInt x2), .int (.ofInt x3), .int (.ofInt (s : Int)), .int (.ofInt ((x : Int) + 1))] m101 KV else jg_GV w 3 mm_X6_settleStates 31 [.ref a, .ref A, .int (.ofInt 1), .int (.ofInt x3), .int (.ofInt (s : Int)), .int (.ofInt ((x : Int) + 1))] m101 KV)) (fun τ2 hf2 hno => ?_) (fun hyes τ2 hf2 hR2 => ?_)
        · rw [ed, em] at himp
          exact himp
        · refine jn_ite (fun _ => ?_) (fun h => absurd rfl h)
          have e : ka_pw g S (15 * s + (x + 1)) V = ka_pw g S (15 * s + x) V := ka_sp_no hno
          have := ih (x + 1) s V τ2 x2 x3 hVv hs (by omega) (jF_tr hf (jF_mono hf2 (fun c i q => by unfold kW_tr at q; unfold kW_sw; omega))) (by rw [e]; exact ka_WR_cg hR (fun i => hf2.1 _ _ (fun q => by unfold kW_tr at q; omega)) (fun i => hf2.1 _ _ (fun q => by unfold kW_tr at q; omega))) (by rw [e]; exact hfl) kk
          rw [show ((x + 1 : Nat) : Int) = (x : Int) + 1 by omega] at this
          exact this
        · refine jn_ite (fun h => by cases h) (fun _ => ?_)
          have e : ka_pw g S (15 * s + (x + 1)) V = fun k => if k = ka_tgW S (15 * s + x) then ka_trW S (ka_VK g) (15 * s + x) (ka_pw g S (15 * s + x) V) else ka_pw g S (15 * s + x) V k := ka_sp_yes hyes
          have hne : ka_pw g S (15 * s + x + 1) V ≠ V := ka_pr_yes hg hVv hj hyes
          have := ih (x + 1) s V τ2 1 x3 hVv hs (by omega) (jF_tr hf hf2) (by rw [e]; exact hR2) (Or.inr ⟨rfl, hne⟩) kk
          rw [show ((x + 1 : Nat) : Int) = (x : Int) + 1 by omega] at this
          exact this
  have hst : ∀ (m s : Nat) (V : ka_Ve) (τ : jg_M) (x2 x3 : Int) (u5 : Value), ka_vv V → (s : Int) + m = S.1 → jF (kW_sw a) σ τ → ka_WR zN (τ.1 (a + 4)) (τ.1 (a + 2)) (ka_pw g S (15 * s) V) → ka_fl (ka_pw g S (15 * s) V = V) x2 →
      (∀ (τ : jg_M) (x2 : Int) (u4 u5 : Value), jF (kW_sw a) σ τ → ka_WR zN (τ.1 (a + 4)) (τ.1 (a + 2)) (ka_pw g S (15 * S.1.toNat) V) → ka_fl (ka_pw g S (15 * S.1.toNat) V = V) x2 → jg_GV w 3 mm_X6_settleStates 4 [.ref a, .ref A, .int (.ofInt x2), .int (.ofInt (x3 + 1)), u4, u5] τ KV) →
      jg_GV w 3 mm_X6_settleStates 19 [.ref a, .ref A, .int (.ofInt x2), .int (.ofInt x3), .int (.ofInt (s : Int)), u5] τ KV := by
    intro m
    induction m with
    | zero =>
      intro s V τ x2 x3 u5 hVv hs hf hR hfl kk
      refine jb_X6_settleStates_19 h0 hA ?_
      rw [(hMf τ hf).1, jr_wr (by omega), jr_wr (by omega)]
      refine jn_ite (fun _ => ?_) (fun h => by omega)
      rw [show s = S.1.toNat by omega] at hR hfl
      exact kk τ x2 _ _ hf hR hfl
    | succ m ih =>
      intro s V τ x2 x3 u5 hVv hs hf hR hfl kk
      refine jb_X6_settleStates_19 h0 hA ?_
      rw [(hMf τ hf).1, jr_wr (by omega), jr_wr (by omega)]
      refine jn_ite (fun h => by omega) (fun _ => ?_)
      refine hin 15 0 s V τ x2 x3 hVv (by omega) rfl hf hR hfl (fun τ2 y2 u5 hf2 hR2 hfl2 => ?_)
      have := ih (s + 1) V τ2 y2 x3 u5 hVv (by omega) hf2 hR2 hfl2 kk
      rw [show ((s + 1 : Nat) : Int) = (s : Int) + 1 by omega] at this
      exact this
  have hout : ∀ (f m : Nat) (τ : jg_M) (u4 u5 : Value), m + f = 48 → jF (kW_sw a) σ τ → ka_WR zN (τ.1 (a + 4)) (τ.1 (a + 2)) (ka_it (ka_pw g S (15 * S.1.toNat)) m ka_W0) → jg_GV w 3 mm_X6_settleStates 4 [.ref a, .ref A, .int (.ofInt 1), .int (.ofInt (m : Int)), u4, u5] τ KV := by
    intro f
    induction f with
    | zero =>
      intro m τ u4 u5 hm hf hR
      refine jb_X6_settleStates_4 h0 hA ?_
      rw [jr_wr (show jr 1 by decide), jr_wr (show jr (m : Int) by omega)]
      refine jn_ite (fun h => by omega) (fun _ => jn_ite (fun h => by omega) (fun _ => ?_))
      refine hst S.1.toNat 0 _ τ 0 (m : Int) _ (ka_it_vv hg ka_W0_vv (m := m)).1 (by omega) hf hR (Or.inl ⟨rfl, rfl⟩) (fun τ2 x2 v4 v5 hf2 hR2 hfl => ?_)
      rcases hfl with ⟨hz, hs⟩ | ⟨hz, hs⟩
      · subst hz
        refine jb_X6_settleStates_4 h0 hA ?_
        rw [jr_wr (show jr 0 by decide)]
        refine jn_ite (fun _ => hk τ2 hf2 ?_) (fun h => absurd rfl h)
        rw [hs, ka_stop hs (show m ≤ 48 by omega)] at hR2
        exact hR2
      · exact absurd (ka_go hg ka_W0_vv hs) (by omega)
    | succ f ihf =>
      intro m τ u4 u5 hm hf hR
      refine jb_X6_settleStates_4 h0 hA ?_
      rw [jr_wr (show jr 1 by decide), jr_wr (show jr (m : Int) by omega)]
      refine jn_ite (fun h => by omega) (fun _ => jn_ite (fun h => by omega) (fun _ => ?_))
      refine hst S.1.toNat 0 _ τ 0 (m : Int) _ (ka_it_vv hg ka_W0_vv (m := m)).1 (by omega) hf hR (Or.inl ⟨rfl, rfl⟩) (fun τ2 x2 v4 v5 hf2 hR2 hfl => ?_)
      rcases hfl with ⟨hz, hs⟩ | ⟨hz, hs⟩
      · subst hz
        refine jb_X6_settleStates_4 h0 hA ?_
        rw [jr_wr (show jr 0 by decide)]
        refine jn_ite (fun _ => hk τ2 hf2 ?_) (fun h => absurd rfl h)
        rw [hs, ka_stop hs (show m ≤ 48 by omega)] at hR2
        exact hR2
      · subst hz
        have := ihf (m + 1) τ2 v4 v5 (by omega) hf2 hR2
        rw [show ((m + 1 : Nat) : Int) = (m : Int) + 1 by omega] at this
        exact this
  exact jb_X6_settleStates_0 h0 hA (hout 48 0 σ _ _ rfl jF_rf hWR)
/-- what the class' rows ARE -/
def ka_XS (σ : jg_M) (a : Nat) (g : gM) : Prop := (0 < g 0 1 → ka_KR (-2) (σ.1 (a + 3)) (σ.1 (a + 1)) (ka_VK g)) ∧ (g 0 1 = 0 ∨ (0 < g 0 1 ∧ ∃ S, jn_all g = some S ∧ ka_WR (-2) (σ.1 (a + 4)) (σ.1 (a + 2)) (ka_VW g S)))
theorem jc_X6_make (h0 : jg_sh a = (6, 0)) (hT : jg_sh T = (8, 0)) (h1 : jg_sh (T + 1) = (0, 0)) (h2 : jg_sh (T + 10) = (7, 0)) (hTa : T + 22 ≤ a) (hG : jn_Gr σ (T + 1) g) (hW : jn_GW g)
    (hS : (g 0 1 = 0 ∧ σ.1 (T + 10) 0 = 0) ∨ (0 < g 0 1 ∧ ∃ S, jn_all g = some S ∧ jn_FP g S ∧ ka_MV σ (T + 10) S))
    (hk : ∀ τ, jF (kW_xs a) σ τ → ka_XS τ a g → KV τ) : jg_CV w 4 mm_X6_make [.ref a, .ref T] σ KV := by
  refine jb_X6_make_0 h0 hT (jc_fill (jg_sX6_0 h0) (by decide) (fun τ1 a1 a2 => jc_fill (jg_sX6_1 h0) (by decide) (fun τ2 b1 b2 => ?_)))
  have hF2 : jF (kW_xs a) σ τ2 := jF_tr (jF_mono a1 (fun c i q => Or.inl (by omega))) (jF_mono b1 (fun c i q => Or.inl (by omega)))
  have hG2 : jn_Gr τ2 (T + 1) g := jn_Gr_fr hG hF2 (fun i hi q => by unfold kW_xs at q; omega) (fun k i k1 k2 q => by unfold kW_xs at q; omega)
  have hK2 : ka_KR (-2) (τ2.1 (a + 3)) (τ2.1 (a + 1)) ka_V0 := fun k k0 k5 => by
    rw [b1.1 (a + 1) k (by omega), a2 k k0 (by omega)]
    exact ⟨Or.inl ⟨by decide, ⟨by decide, rfl⟩, rfl⟩, Or.inr rfl⟩
  refine jc_X6_settleKinds h0 h1 (by omega) hG2 hW hK2 (fun τ3 hF3 hK3 => ?_)
  have hF13 : jF (kW_xs a) σ τ3 := jF_tr hF2 (jF_mono hF3 (fun c i q => by unfold kW_sk at q; unfold kW_xs; omega))
  have hz3 : ∀ s : Int, 0 ≤ s → s < 48 → τ3.1 (a + 2) s = -2 := fun s s0 s1 => by
    rw [hF3.1 _ _ (fun q => by unfold kW_sk at q; omega)]
    exact b2 s s0 s1
  rcases hS with ⟨g0, n0⟩ | ⟨g0, S, q1, q2, q3⟩
  · have hn : τ3.1 (T + 10) 0 = 0 := (hF13.1 _ _ (fun q => by unfold kW_xs at q; omega)).trans n0
    refine jc_X7_has h2 hn (by decide) (by decide) (jn_if (fun _ => hk τ3 hF13 ⟨fun _ => hK3, Or.inl g0⟩) (fun h => by omega))
  · have hM3 : ka_MV τ3 (T + 10) S := ⟨(hF13.1 _ _ (fun q => by unfold kW_xs at q; omega)).trans q3.1, fun s x s0 s1 x0 x1 => (hF13.1 _ _ (fun q => by unfold kW_xs at q; omega)).trans (q3.2 s x s0 s1 x0 x1)⟩
    have hI := q2.1.1
    refine jc_X7_has h2 hM3.1 (by omega) (by decide) (jn_if (fun h => by omega) (fun _ => ?_))
    rintro _ rfl
    have hF4 : jF (kW_xs a) τ3 (jg_sI τ3 (a + 2) 0 0) := jF_I (Or.inl (by omega))
    refine jc_X6_settleStates h0 h2 (A := T + 10) (S := S) ⟨(hF4.1 _ _ (fun q => by unfold kW_xs at q; omega)).trans hM3.1, fun s x s0 s1 x0 x1 => (hF4.1 _ _ (fun q => by unfold kW_xs at q; omega)).trans (hM3.2 s x s0 s1 x0 x1)⟩ (by omega) hW q2 (ka_KR_cg hK3 (fun i => js_In (Or.inl (by omega))) (fun i => js_In (Or.inl (by omega)))) (fun s s0 s1 => ?_) (fun τ5 hF5 hR5 => ?_)
    · unfold ka_W0
      by_cases hs : s = 0
      · subst hs
        rw [if_pos rfl, js_Is]
        exact Or.inr ⟨rfl, Nat.zero_le _, rfl, fun i hi => absurd hi (Nat.not_lt_zero i)⟩
      · rw [if_neg hs, js_In (Or.inr hs), hz3 s s0 s1]
        exact Or.inl ⟨by decide, ⟨by decide, rfl⟩, rfl⟩
    · refine hk τ5 (jF_tr hF13 (jF_tr hF4 (jF_mono hF5 (fun c i q => by unfold kW_sw at q; unfold kW_xs; omega)))) ⟨fun _ => ?_, Or.inr ⟨g0, S, q1, hR5⟩⟩
      refine ka_KR_cg hK3 (fun i => ?_) (fun i => ?_)
      · rw [hF5.1 _ _ (fun q => by unfold kW_sw at q; omega), js_In (Or.inl (by omega))]
      · rw [hF5.1 _ _ (fun q => by unfold kW_sw at q; omega), js_In (Or.inl (by omega))]
end KAT
