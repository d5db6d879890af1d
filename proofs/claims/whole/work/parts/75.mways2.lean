/-! SHORTEST, in the reference: all of it -/
section KAX
def kW_xm (c : Nat) (i : Int) : Prop := (92 + 29 ≤ c ∧ c ≤ 92 + 33) ∨ (c = 92 ∧ i = 48)
variable {zN : Int} {w : Nat} {σ τ : jg_M} {g : gM} {S : jn_Q} {V W : ka_Ve} {KV : jg_M → Prop}
theorem ka_or00 : jg_or 0 0 = 0 := by decide
theorem ka_or10 : jg_or 1 0 = 1 := by decide
theorem ka_or01 : jg_or 0 1 = 1 := by decide
theorem ka_or11 : jg_or 1 1 = 1 := by decide
theorem ka_skip7 {s : Nat} (hW : jn_GW g) (hF : jn_FP g S) (hs : (s : Int) < S.1) : ka_pw g S (15 * s + 10) V = ka_pw g S (15 * s + 7) V := by
  have key : ∀ x : Nat, 7 ≤ x → x < 10 → ∀ Z : ka_Ve, ka_sp (ka_tgW S) (ka_trW S (ka_VK g)) 60 (15 * s + x) Z = Z := fun x h1 h2 Z => by
    refine ka_sp_no (fun hc => ?_)
    have h3 := hc.1
    unfold ka_trW at h3
    have h4 : ¬ 0 ≤ ka_tgW S (15 * s + x) := fun q => by
      unfold ka_tgW at q
      rw [show (15 * s + x) / 15 = s by omega, show (15 * s + x) % 15 = x by omega] at q
      have := (ka_mv_sym hW hF (s := (s : Int)) (x := (x : Int)) ⟨by omega, hs⟩ ⟨by omega, by omega⟩ q).1
      omega
    rw [if_neg h4, ka_no1] at h3
    omega
  show ka_sp (ka_tgW S) (ka_trW S (ka_VK g)) 60 (15 * s + 9) (ka_sp (ka_tgW S) (ka_trW S (ka_VK g)) 60 (15 * s + 8) (ka_sp (ka_tgW S) (ka_trW S (ka_VK g)) 60 (15 * s + 7) (ka_pw g S (15 * s + 7) V))) = _
  rw [key 7 (by omega) (by omega), key 8 (by omega) (by omega), key 9 (by omega) (by omega)]
theorem ka_ix_next {s x : Nat} (hW : jn_GW g) (hF : jn_FP g S) (hs : (s : Int) < S.1) : ka_pw g S (15 * s + ka_ix x + 1) V = ka_pw g S (15 * s + ka_ix (x + 1)) V := by
  by_cases h : x = 6
  · subst h
    exact (ka_skip7 hW hF hs).symm
  · have : ka_ix (x + 1) = ka_ix x + 1 := by unfold ka_ix; split <;> split <;> omega
    rw [this, Nat.add_assoc]
theorem jm_layWays (hM : ka_MM σ S) (hW : jn_GW g) (hF : jn_FP g S) (hV : ka_KR zN (σ.1 (92 + 30)) (σ.1 (92 + 29)) (ka_VK g)) (hWR : ka_WR zN (σ.1 (92 + 32)) (σ.1 (92 + 31)) ka_W0)
    (hk : ∀ τ, jF kW_mw σ τ → ka_WR zN (τ.1 (92 + 32)) (τ.1 (92 + 31)) (ka_VW g S) → KV τ) (u2 u3 : Value) : jg_GV w 2 mm_X12_layWays 40 [.ref 92, .int (.ofInt 1), u2, u3] σ KV := by
  have hI := hF.1.1
  have hg := ka_gdW hW hF
  have hMf : ∀ τ, jF kW_mw σ τ → ka_MM τ S := fun τ hf => ⟨(hf.1 _ _ (fun q => by unfold kW_mw at q; omega)).trans hM.1, fun s x s0 s1 x0 x1 => (hf.1 _ _ (fun q => by unfold kW_mw at q; omega)).trans (hM.2 s x s0 s1 x0 x1)⟩
  have hVf : ∀ τ, jF kW_mw σ τ → ka_KR zN (τ.1 (92 + 30)) (τ.1 (92 + 29)) (ka_VK g) := fun τ hf => ka_KR_cg hV (fun i => hf.1 _ _ (fun q => by unfold kW_mw at q; omega)) (fun i => hf.1 _ _ (fun q => by unfold kW_mw at q; omega))
  have hin : ∀ (m x s : Nat) (V : ka_Ve) (τ : jg_M) (x1 : Int), ka_vv V → (s : Int) < S.1 → x + m = 12 → jF kW_mw σ τ → ka_WR zN (τ.1 (92 + 32)) (τ.1 (92 + 31)) (ka_pw g S (15 * s + ka_ix x) V) → ka_fl (ka_pw g S (15 * s + ka_ix x) V = V) x1 →
      (∀ (τ : jg_M) (x1 : Int) (u5 : Value), jF kW_mw σ τ → ka_WR zN (τ.1 (92 + 32)) (τ.1 (92 + 31)) (ka_pw g S (15 * (s + 1)) V) → ka_fl (ka_pw g S (15 * (s + 1)) V = V) x1 → jg_GV w 2 mm_X12_layWays 48 [.ref 92, .int (.ofInt x1), .int (.ofInt ((s : Int) + 1)), u5] τ KV) →
      jg_GV w 2 mm_X12_layWays 60 [.ref 92, .int (.ofInt x1), .int (.ofInt (s : Int)), .int (.ofInt (x : Int))] τ KV := by
    intro m
    induction m with
    | zero =>
      intro x s V τ x1 hVv hs hx hf hR hfl kk
      refine jb_X12_layWays_60 rfl ?_
      rw [jr_wr (by omega)]
      refine jn_ite (fun _ => ?_) (fun h => by omega)
      have e15 : 15 * s + ka_ix x = 15 * (s + 1) := by unfold ka_ix; rw [if_neg (by omega)]; omega
      rw [e15] at hR hfl
      exact kk τ x1 _ hf hR hfl
    | succ m ih =>
      intro x s V τ x1 hVv hs hx hf hR hfl kk
      have hix := ka_ix_lt (x := x) (by omega)
      have hj : 15 * s + ka_ix x < 15 * S.1.toNat := by omega
      refine jb_X12_layWays_60 rfl ?_
      rw [jr_wr (show jr (x : Int) by omega)]
      refine jn_ite (fun h => by omega) (fun _ => jm_isNearer (hMf τ hf) hW hF hs (by omega) (hVf τ hf) hR (fun τ2 hf2 hno => ?_) (fun hyes τ2 hf2 hR2 => ?_))
      · intro t ht
        have e : ka_pw g S (15 * s + ka_ix (x + 1)) V = ka_pw g S (15 * s + ka_ix x) V := by
          rw [← ka_ix_next hW hF hs]
          exact ka_sp_no hno
        have htx : t = x1 := by
          rw [ht]
          rcases hfl with ⟨h, _⟩ | ⟨h, _⟩ <;> rw [h]
          · exact ka_or00
          · exact ka_or10
        rw [htx]
        have := ih (x + 1) s V τ2 x1 hVv hs (by omega) (jF_tr hf (jF_mono hf2 (fun c i q => by unfold kW_mt at q; unfold kW_mw; omega))) (by rw [e]; exact ka_WR_cg hR (fun i => hf2.1 _ _ (fun q => by unfold kW_mt at q; omega)) (fun i => hf2.1 _ _ (fun q => by unfold kW_mt at q; omega))) (by rw [e]; exact hfl) kk
        rw [show ((x + 1 : Nat) : Int) = (x : Int) + 1 by omega] at this
        exact this
      · intro t ht
        have e : ka_pw g S (15 * s + ka_ix (x + 1)) V = fun k => if k = ka_tgW S (15 * s + ka_ix x) then ka_trW S (ka_VK g) (15 * s + ka_ix x) (ka_pw g S (15 * s + ka_ix x) V) else ka_pw g S (15 * s + ka_ix x) V k := by
          rw [← ka_ix_next hW hF hs]
          exact ka_sp_yes hyes
        have hne : ka_pw g S (15 * s + ka_ix x + 1) V ≠ V := ka_pr_yes hg hVv hj hyes
        rw [ka_ix_next hW hF hs] at hne
        have htx : t = 1 := by
          rw [ht]
          rcases hfl with ⟨h, _⟩ | ⟨h, _⟩ <;> rw [h]
          · exact ka_or01
          · exact ka_or11
        rw [htx]
        have := ih (x + 1) s V τ2 1 hVv hs (by omega) (jF_tr hf hf2) (by rw [e]; exact hR2) (Or.inr ⟨rfl, hne⟩) kk
        rw [show ((x + 1 : Nat) : Int) = (x : Int) + 1 by omega] at this
        exact this
  have hst : ∀ (m s : Nat) (V : ka_Ve) (τ : jg_M) (x1 : Int) (u3 : Value), ka_vv V → (s : Int) + m = S.1 → jF kW_mw σ τ → ka_WR zN (τ.1 (92 + 32)) (τ.1 (92 + 31)) (ka_pw g S (15 * s) V) → ka_fl (ka_pw g S (15 * s) V = V) x1 →
      (∀ (τ : jg_M) (x1 : Int) (u2 u3 : Value), jF kW_mw σ τ → ka_WR zN (τ.1 (92 + 32)) (τ.1 (92 + 31)) (ka_pw g S (15 * S.1.toNat) V) → ka_fl (ka_pw g S (15 * S.1.toNat) V = V) x1 → jg_GV w 2 mm_X12_layWays 40 [.ref 92, .int (.ofInt x1), u2, u3] τ KV) →
      jg_GV w 2 mm_X12_layWays 48 [.ref 92, .int (.ofInt x1), .int (.ofInt (s : Int)), u3] τ KV := by
    intro m
    induction m with
    | zero =>
      intro s V τ x1 u3 hVv hs hf hR hfl kk
      refine jb_X12_layWays_48 rfl ?_
      rw [(hMf τ hf).1, jr_wr (by omega), jr_wr (by omega)]
      refine jn_ite (fun _ => ?_) (fun h => by omega)
      rw [show s = S.1.toNat by omega] at hR hfl
      exact kk τ x1 _ _ hf hR hfl
    | succ m ih =>
      intro s V τ x1 u3 hVv hs hf hR hfl kk
      refine jb_X12_layWays_48 rfl ?_
      rw [(hMf τ hf).1, jr_wr (by omega), jr_wr (by omega)]
      refine jn_ite (fun h => by omega) (fun _ => ?_)
      refine hin 12 0 s V τ x1 hVv (by omega) rfl hf hR hfl (fun τ2 y1 u5 hf2 hR2 hfl2 => ?_)
      have := ih (s + 1) V τ2 y1 u5 hVv (by omega) hf2 hR2 hfl2 kk
      rw [show ((s + 1 : Nat) : Int) = (s : Int) + 1 by omega] at this
      exact this
  have hout : ∀ (f m : Nat) (τ : jg_M) (u2 u3 : Value), m + f = 48 → jF kW_mw σ τ → ka_WR zN (τ.1 (92 + 32)) (τ.1 (92 + 31)) (ka_it (ka_pw g S (15 * S.1.toNat)) m ka_W0) → jg_GV w 2 mm_X12_layWays 40 [.ref 92, .int (.ofInt 1), u2, u3] τ KV := by
    intro f
    induction f with
    | zero =>
      intro m τ u2 u3 hm hf hR
      refine jb_X12_layWays_40 rfl ?_
      rw [jr_wr (show jr 1 by decide)]
      refine jn_ite (fun h => by omega) (fun _ => ?_)
      refine hst S.1.toNat 0 _ τ 0 _ (ka_it_vv hg ka_W0_vv (m := m)).1 (by omega) hf hR (Or.inl ⟨rfl, rfl⟩) (fun τ2 x1 v2 v3 hf2 hR2 hfl => ?_)
      rcases hfl with ⟨hz, hs⟩ | ⟨hz, hs⟩
      · subst hz
        refine jb_X12_layWays_40 rfl ?_
        rw [jr_wr (show jr 0 by decide)]
        refine jn_ite (fun _ => hk τ2 hf2 ?_) (fun h => absurd rfl h)
        rw [hs, ka_stop hs (show m ≤ 48 by omega)] at hR2
        exact hR2
      · exact absurd (ka_go hg ka_W0_vv hs) (by omega)
    | succ f ihf =>
      intro m τ u2 u3 hm hf hR
      refine jb_X12_layWays_40 rfl ?_
      rw [jr_wr (show jr 1 by decide)]
      refine jn_ite (fun h => by omega) (fun _ => ?_)
      refine hst S.1.toNat 0 _ τ 0 _ (ka_it_vv hg ka_W0_vv (m := m)).1 (by omega) hf hR (Or.inl ⟨rfl, rfl⟩) (fun τ2 x1 v2 v3 hf2 hR2 hfl => ?_)
      rcases hfl with ⟨hz, hs⟩ | ⟨hz, hs⟩
      · subst hz
        refine jb_X12_layWays_40 rfl ?_
        rw [jr_wr (show jr 0 by decide)]
        refine jn_ite (fun _ => hk τ2 hf2 ?_) (fun h => absurd rfl h)
        rw [hs, ka_stop hs (show m ≤ 48 by omega)] at hR2
        exact hR2
      · subst hz
        exact ihf (m + 1) τ2 v2 v3 (by omega) hf2 hR2
  exact hout 48 0 σ _ _ rfl jF_rf hWR
/-- what the reference's rows ARE -/
def ka_XM (σ : jg_M) (g : gM) : Prop := ka_KR (-1) (σ.1 (92 + 30)) (σ.1 (92 + 29)) (ka_VK g) ∧ ((g 0 1 = 0 ∧ ∀ s, 0 ≤ s → s < 48 → σ.1 (92 + 31) s = -1) ∨ (0 < g 0 1 ∧ ∃ S, jn_all g = some S ∧ ka_WR (-1) (σ.1 (92 + 32)) (σ.1 (92 + 31)) (ka_VW g S)))
theorem jm_layShortest (hG : jn_Mg σ 0 g) (hW : jn_GW g) (hS : (g 0 1 = 0 ∧ σ.1 (92 + 13) 0 = 0) ∨ (0 < g 0 1 ∧ ∃ S, jn_all g = some S ∧ jn_FP g S ∧ ka_MM σ S)) (hk : ∀ τ, jF kW_xm σ τ → ka_XM τ g → KV τ) : jg_CV w 3 mm_X12_layShortest [.ref 92] σ KV := by
  refine jm_layKinds hG hW (fun τ1 hF1 hK1 => ?_)
  have hx1 : jF kW_xm σ τ1 := jF_mono hF1 (fun c i q => by unfold kW_sm at q; unfold kW_xm; omega)
  have h13 : ∀ i, τ1.1 (92 + 13) i = σ.1 (92 + 13) i := fun i => hF1.1 _ _ (fun q => by unfold kW_sm at q; omega)
  have hini : ∀ (n0 : Int), jr n0 → τ1.1 (92 + 13) 0 = n0 → (∀ τ u2 u3, jF kW_mw τ1 τ → (∀ j : Int, 0 ≤ j → j < 48 → τ.1 (92 + 31) j = if j = 0 ∧ 0 < n0 then 0 else -1) → jg_GV w 2 mm_X12_layWays 40 [.ref 92, .int (.ofInt 1), u2, u3] τ KV) → ∀ (m k : Nat) (τ : jg_M) (u2 u3 : Value), k + m = 48 → jF kW_mw τ1 τ → (∀ j : Int, 0 ≤ j → j < k → τ.1 (92 + 31) j = if j = 0 ∧ 0 < n0 then 0 else -1) → jg_GV w 2 mm_X12_layWays 2 [.ref 92, .int (.ofInt (k : Int)), u2, u3] τ KV := by
    intro n0 hn0r hn0 kk m
    induction m with
    | zero =>
      intro k τ u2 u3 hkm hf hz
      refine jb_X12_layWays_2 rfl ?_
      rw [jr_wr (by omega)]
      refine jn_ite (fun _ => kk τ _ _ hf (fun j j0 j1 => hz j j0 (by omega))) (fun h => by omega)
    | succ m ih =>
      intro k τ u2 u3 hkm hf hz
      have h13' : τ.1 (92 + 13) 0 = n0 := (hf.1 _ _ (fun q => by unfold kW_mw at q; omega)).trans hn0
      have hstep : ∀ v : Int, (v = if (k : Int) = 0 ∧ 0 < n0 then 0 else -1) → ∀ τ', τ' = jg_sI τ (92 + 31) (k : Int) v → jg_GV w 2 mm_X12_layWays 2 [.ref 92, .int (.ofInt ((k : Int) + 1)), u2, u3] τ' KV := by
        rintro v hv _ rfl
        have := ih (k + 1) (jg_sI τ (92 + 31) (k : Int) v) u2 u3 (by omega) (jF_toI hf (Or.inl rfl)) (fun j j0 j1 => by
          by_cases hjk : j = k
          · subst hjk; rw [js_Is]; exact hv
          · rw [js_In (Or.inr hjk)]; exact hz j j0 (by omega))
        rw [show ((k + 1 : Nat) : Int) = (k : Int) + 1 by omega] at this
        exact this
      refine jb_X12_layWays_2 rfl ?_
      rw [jr_wr (by omega), h13', jr_wr hn0r]
      refine jn_ite (fun h => by omega) (fun _ => jn_ite (fun hk0 => jn_ite (fun hn => ⟨by omega, hstep (-1) ?_⟩) (fun hn => ⟨by omega, hstep 0 ?_⟩)) (fun hk0 => ⟨by omega, hstep (-1) ?_⟩))
      · rw [if_neg (by omega)]
      · rw [if_pos ⟨hk0, by omega⟩]
      · rw [if_neg (by omega)]
  refine jb_X12_layWays_0 rfl ?_
  rcases hS with ⟨g0, n0⟩ | ⟨g0, S, q1, q2, q3⟩
  · refine hini 0 (by decide) ((h13 0).trans n0) (fun τ u2 u3 hf hz => ?_) 48 0 τ1 _ _ rfl jF_rf (fun j j0 j1 => by omega)
    have h13' : τ.1 (92 + 13) 0 = 0 := ((hf.1 _ _ (fun q => by unfold kW_mw at q; omega)).trans (h13 0)).trans n0
    refine jb_X12_layWays_40 rfl ?_
    rw [jr_wr (show jr 1 by decide)]
    refine jn_ite (fun h => by omega) (fun _ => jb_X12_layWays_48 rfl ?_)
    rw [h13', jr_wr (show jr 0 by decide)]
    refine jn_ite (fun _ => jb_X12_layWays_40 rfl ?_) (fun h => by omega)
    rw [jr_wr (show jr 0 by decide)]
    refine jn_ite (fun _ => hk τ (jF_tr hx1 (jF_mono hf (fun c i q => by unfold kW_mw at q; unfold kW_xm; omega))) ⟨ka_KR_cg hK1 (fun i => hf.1 _ _ (fun q => by unfold kW_mw at q; omega)) (fun i => hf.1 _ _ (fun q => by unfold kW_mw at q; omega)), Or.inl ⟨g0, fun s s0 s1 => ?_⟩⟩) (fun h => absurd rfl h)
    rw [hz s s0 s1, if_neg (by omega)]
  · have hI := q2.1.1
    refine hini S.1 (by omega) ((h13 0).trans q3.1) (fun τ u2 u3 hf hz => ?_) 48 0 τ1 _ _ rfl jF_rf (fun j j0 j1 => by omega)
    have hK2 : ka_KR (-1) (τ.1 (92 + 30)) (τ.1 (92 + 29)) (ka_VK g) → True := fun _ => trivial
    have hM : ka_MM τ S := ⟨((hf.1 _ _ (fun q => by unfold kW_mw at q; omega)).trans (h13 0)).trans q3.1, fun s x s0 s1 x0 x1 => ((hf.1 _ _ (fun q => by unfold kW_mw at q; omega)).trans (hF1.1 _ _ (fun q => by unfold kW_sm at q; omega))).trans (q3.2 s x s0 s1 x0 x1)⟩
    have hfx : jF kW_xm σ τ := jF_tr hx1 (jF_mono hf (fun c i q => by unfold kW_mw at q; unfold kW_xm; omega))
    have hKτ : ka_KR (-1) (τ.1 (92 + 30)) (τ.1 (92 + 29)) (ka_VK g) := ka_KR_cg hK1 (fun i => hf.1 _ _ (fun q => by unfold kW_mw at q; omega)) (fun i => hf.1 _ _ (fun q => by unfold kW_mw at q; omega))
    refine jm_layWays hM hW q2 hKτ (fun s s0 s1 => ?_) (fun τ2 hf2 hR2 => ?_) u2 u3
    · rw [hz s s0 s1]
      unfold ka_W0
      by_cases hs : s = 0
      · subst hs
        rw [if_pos ⟨rfl, by omega⟩, if_pos rfl]
        exact Or.inr ⟨rfl, Nat.zero_le _, rfl, fun i hi => absurd hi (Nat.not_lt_zero i)⟩
      · rw [if_neg (fun q => hs q.1), if_neg hs]
        exact Or.inl ⟨by decide, ⟨by decide, rfl⟩, rfl⟩
    · refine hk τ2 (jF_tr hfx (jF_mono hf2 (fun c i q => by unfold kW_mw at q; unfold kW_xm; omega))) ⟨ka_KR_cg hKτ (fun i => hf2.1 _ _ (fun q => by unfold kW_mw at q; omega)) (fun i => hf2.1 _ _ (fun q => by unfold kW_mw at q; omega)), Or.inr ⟨g0, S, q1, hR2⟩⟩
end KAX
