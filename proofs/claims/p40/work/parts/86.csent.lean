/-! SENTENCES and GAME, in the class: down the ladder of rows -/
noncomputable def kr_nx (g : gM) (t : Int) (K : kr_K) : Option kr_K := (kr_T g t K).map (fun r => r.2.2)
noncomputable def kr_en (g : gM) (K : kr_K) : Bool := (kr_T g (g 0 0) K).isSome
noncomputable def kr_cn (g : gM) : Nat → kr_K → Nat
  | 0, K => if kr_en g K = true then 1 else 0
  | n + 1, K => jn_sum (fun t => match kr_nx g (t : Int) K with
    | some K' => kr_cn g n K'
    | none => 0) (g 0 0).toNat
def kr_ff (p : Nat → Bool) : Nat → Nat → Int
  | 0, _ => -2
  | m + 1, i => if p i = true then (i : Int) else kr_ff p m (i + 1)
noncomputable def kr_wn (g : gM) : Nat → kr_K → Int
  | 0, _ => -2
  | n + 1, K => kr_ff (fun t => match kr_nx g (t : Int) K with
    | some K' => decide (kr_wn g n K' < 0)
    | none => false) (g 0 0).toNat 0
def kW_lo (R : Nat) (c : Nat) (i : Int) : Prop := 80 ≤ c ∧ c < R
section KRE
variable {w : Nat} {σ τ : jg_M} {R R' T n m : Nat} {g : gM} {K K' : kr_K} {v k t : Int} {b : Bool} {d : Nat} {KV : jg_M → Prop} {KI : Int → jg_M → Prop}
theorem kr_shl : ∀ m : Fin 6, jg_sh (80 + 2 * m.val) = (5, 0) := by decide
theorem kr_botl : ∀ m : Fin 6, 1 ≤ m.val → jg_bot (80 + 2 * m.val) = false := by decide
theorem kr_ff_rng {p : Nat → Bool} : ∀ {m i : Nat}, kr_ff p m i = -2 ∨ (0 ≤ kr_ff p m i ∧ kr_ff p m i < (i : Int) + m)
  | 0, i => Or.inl rfl
  | m + 1, i => by
    unfold kr_ff
    split
    · exact Or.inr ⟨by omega, by omega⟩
    · rcases kr_ff_rng (p := p) (m := m) (i := i + 1) with h | h
      · exact Or.inl h
      · exact Or.inr ⟨h.1, by omega⟩
theorem kr_wn_rng (hW : jn_GW g) {n : Nat} : kr_wn g n K = -2 ∨ (0 ≤ kr_wn g n K ∧ kr_wn g n K < 7) := by
  have hw := hW.1
  match n with
  | 0 => exact Or.inl rfl
  | n + 1 =>
    unfold kr_wn
    rcases kr_ff_rng (m := (g 0 0).toNat) (i := 0) (p := fun t => match kr_nx g (t : Int) K with
      | some K' => decide (kr_wn g n K' < 0)
      | none => false) with h | h
    · exact Or.inl h
    · exact Or.inr ⟨h.1, by omega⟩
theorem kr_Ro_fr {W : Nat → Int → Prop} (h : kr_Ro σ R K) (hf : jF W σ τ) (h1 : ∀ i, ¬ W R i) (h2 : ∀ i, ¬ W (R + 1) i) : kr_Ro τ R K := ⟨(hf.1 _ _ (h1 _)).trans h.1, fun i hi => (hf.1 _ _ (h2 _)).trans (h.2 i hi)⟩
/-- one token tried one row lower -/
theorem jc_try (tf : jg_M → Int) (htf : ∀ τ, jF (kW_lo (80 + 2 * m)) σ τ → tf τ = t) (hT : jg_sh T = (8, 0)) (h1 : jg_sh (T + 1) = (0, 0)) (h2 : jg_sh (T + 10) = (7, 0)) (hTR : T + 22 ≤ 80) (hm : 1 ≤ m ∧ m ≤ 5) (hC : kr_CW σ T g) (hR : kr_Ro σ (80 + 2 * m) K) (hK : kr_OK g K) (ht : 0 ≤ t ∧ t ≤ g 0 0)
    (k0 : kr_nx g t K = none → ∀ τ, jF (kW_lo (80 + 2 * m)) σ τ → KI (-2) τ)
    (k1 : ∀ K' (d : Nat), kr_nx g t K = some K' → kr_OK g K' → (d : Int) ≤ 60 → ∀ τ, jF (kW_lo (80 + 2 * m)) σ τ → kr_Ro τ (80 + 2 * (m - 1)) K' → KI ((d : Nat) : Int) τ) :
    jg_CV w 1 mm_X5_copy [.ref (80 + 2 * m - 2), .ref (80 + 2 * m)] σ (fun τ => jg_CI w 3 mm_X5_take [.ref (80 + 2 * m - 2), .ref T, .int (.ofInt (tf τ))] τ KI) := by
  have s1 := kr_shl ⟨m, by omega⟩
  have s0 := kr_shl ⟨m - 1, by omega⟩
  dsimp only at s1 s0
  rw [show 80 + 2 * m - 2 = 80 + 2 * (m - 1) by omega]
  refine jc_copy s0 s1 (by omega) hR (kr_OK_le hK) (fun τ hf hRτ _ _ => ?_)
  have hfl : jF (kW_lo (80 + 2 * m)) σ τ := jF_mono hf (fun c i q => by unfold kW_ro at q; unfold kW_lo; omega)
  have hCτ := kr_CW_fr hC hfl (fun c i c1 c2 q => by unfold kW_lo at q; omega)
  rw [htf τ hfl]
  refine jc_take s0 hT h1 h2 (by omega) hCτ hRτ hK ht (fun hn τ2 hf2 => k0 (by unfold kr_nx; rw [hn]; rfl) τ2 (jF_tr hfl (jF_mono hf2 (fun c i q => by unfold kW_ro at q; unfold kW_lo; omega)))) (fun b d K' hs τ2 hf2 hR2 _ _ => ?_)
  have hok := kr_T_ok hC hK ht hs
  exact k1 K' d (by unfold kr_nx; rw [hs]; rfl) hok.1 (by omega) τ2 (jF_tr hfl (jF_mono hf2 (fun c i q => by unfold kW_ro at q; unfold kW_lo; omega))) hR2
theorem jc_sent (hT : jg_sh T = (8, 0)) (h1 : jg_sh (T + 1) = (0, 0)) (h2 : jg_sh (T + 10) = (7, 0)) (hTR : T + 22 ≤ 80) : ∀ (n m d : Nat) (σ : jg_M) (K : kr_K) (KI : Int → jg_M → Prop), n + 1 ≤ m → m ≤ 5 → 4 + n ≤ d → kr_CW σ T g → kr_Ro σ (80 + 2 * m) K → kr_OK g K → (∀ τ, jF (kW_lo (80 + 2 * m)) σ τ → KI (kr_cn g n K : Nat) τ) → jg_CI w (d + 1) mm_X11_sentencesFrom [.ref T, .ref (80 + 2 * m), .int (.ofInt (n : Int))] σ KI := by
  intro n
  induction n with
  | zero =>
    intro m d σ K KI hm hm5 hd hC hR hK hk
    have hw := hC.1.1.1
    have s1 := kr_shl ⟨m, by omega⟩
    have sb := kr_botl ⟨m, by omega⟩ (by show 1 ≤ m; omega)
    dsimp only at s1 sb
    refine jb_X11_sentencesFrom_0 (by omega) hT s1 ?_
    rw [sb]
    refine jn_ite (fun h => by cases h) (fun _ => jn_ite (fun h => absurd h (by decide)) (fun _ => ?_))
    refine jc_try (w := w) (fun τ => τ.1 (T + 1) 0) (t := g 0 0) (fun τ hf => (hf.1 _ _ (fun q => by unfold kW_lo at q; omega)).trans hC.1.2.1.1) hT h1 h2 hTR ⟨by omega, hm5⟩ hC hR hK ⟨by omega, Int.le_refl _⟩ (fun hn τ hf => ?_) (fun K' d' hs _ hd' τ hf _ => ?_)
    · refine jn_ite (fun _ => ?_) (fun h => absurd (show jg_wr (-2) < 0 by decide) h)
      have := hk τ hf
      unfold kr_cn kr_en at this
      unfold kr_nx at hn
      cases hq : kr_T g (g 0 0) K with
      | none => rw [hq] at this; exact this
      | some v => rw [hq] at hn; cases hn
    · rw [jr_wr (show jr ((d' : Nat) : Int) by omega)]
      refine jn_ite (fun h => by omega) (fun _ => ?_)
      have := hk τ hf
      unfold kr_cn kr_en at this
      unfold kr_nx at hs
      cases hq : kr_T g (g 0 0) K with
      | none => rw [hq] at hs; cases hs
      | some v => rw [hq] at this; exact this
  | succ n ih =>
    intro m d σ K KI hm hm5 hd hC hR hK hk
    have hw := hC.1.1.1
    have s1 := kr_shl ⟨m, by omega⟩
    have s0 := kr_shl ⟨m - 1, by omega⟩
    have sb := kr_botl ⟨m, by omega⟩ (by show 1 ≤ m; omega)
    dsimp only at s1 sb s0
    refine jb_X11_sentencesFrom_0 (by omega) hT s1 ?_
    rw [sb, jr_wr (show jr ((n + 1 : Nat) : Int) by omega)]
    refine jn_ite (fun h => by cases h) (fun _ => jn_ite (fun _ => ?_) (fun h => by omega))
    have hloop : ∀ (mm t : Nat) (τ : jg_M), (t : Int) + mm = g 0 0 → jF (kW_lo (80 + 2 * m)) σ τ → jg_GI w (d + 1) mm_X11_sentencesFrom 47 [.ref T, .ref (80 + 2 * m), .int (.ofInt ((n + 1 : Nat) : Int)), .ref (80 + 2 * m - 2), .int (.ofInt ((jn_sum (fun t => match kr_nx g (t : Int) K with
        | some K' => kr_cn g n K'
        | none => 0) t : Nat) : Int)), .int (.ofInt (t : Int))] τ KI := by
      intro mm
      induction mm with
      | zero =>
        intro t τ ht hf
        have hCτ := kr_CW_fr hC hf (fun c i c1 c2 q => by unfold kW_lo at q; omega)
        refine jb_X11_sentencesFrom_47 (by omega) hT s1 (by rw [show 80 + 2 * m - 2 = 80 + 2 * (m - 1) by omega]; exact s0) ?_
        rw [hCτ.1.2.1.1, jr_wr (by omega), jr_wr (by omega)]
        refine jn_ite (fun _ => ?_) (fun h => by omega)
        have := hk τ hf
        unfold kr_cn at this
        rw [show (g 0 0).toNat = t by omega] at this
        exact this
      | succ mm ihm =>
        intro t τ ht hf
        have hCτ := kr_CW_fr hC hf (fun c i c1 c2 q => by unfold kW_lo at q; omega)
        have hRτ := kr_Ro_fr hR hf (fun i q => by unfold kW_lo at q; omega) (fun i q => by unfold kW_lo at q; omega)
        refine jb_X11_sentencesFrom_47 (by omega) hT s1 (by rw [show 80 + 2 * m - 2 = 80 + 2 * (m - 1) by omega]; exact s0) ?_
        rw [hCτ.1.2.1.1, jr_wr (by omega), jr_wr (by omega)]
        refine jn_ite (fun h => by omega) (fun _ => ?_)
        refine jc_try (fun _ => (t : Int)) (t := (t : Int)) (fun _ _ => rfl) hT h1 h2 hTR ⟨by omega, hm5⟩ hCτ hRτ hK ⟨by omega, by omega⟩ (fun hn τ2 hf2 => ?_) (fun K' d' hs hok hd' τ2 hf2 hR2 => ?_)
        · refine jn_ite (fun _ => ?_) (fun h => absurd (show jg_wr (-2) < 0 by decide) h)
          have := ihm (t + 1) τ2 (by omega) (jF_tr hf hf2)
          unfold jn_sum at this
          rw [hn] at this
          rw [show ((t + 1 : Nat) : Int) = (t : Int) + 1 by omega, Nat.add_zero] at this
          exact this
        · rw [jr_wr (show jr ((d' : Nat) : Int) by omega)]
          refine jn_ite (fun h => by omega) (fun _ => ?_)
          have hC2 := kr_CW_fr hCτ hf2 (fun c i c1 c2 q => by unfold kW_lo at q; omega)
          have hdd : d = d - 1 + 1 := by omega
          rw [show ((n + 1 : Nat) : Int) - 1 = (n : Int) by omega, show 80 + 2 * m - 2 = 80 + 2 * (m - 1) by omega]
          have hrec := ih (m - 1) (d - 1) τ2 K' (fun (z105 : Int) (m104 : jg_M) => ∀ t106 : Int, t106 = (((jn_sum (fun t => match kr_nx g (t : Int) K with
            | some K' => kr_cn g n K'
            | none => 0) t : Nat) : Int) + z105) → jg_GI w (d + 1) mm_X11_sentencesFrom 47 [.ref T, .ref (80 + 2 * m), .int (.ofInt ((n + 1 : Nat) : Int)), .ref (80 + 2 * (m - 1)), .int (.ofInt t106), .int (.ofInt ((t : Int) + 1))] m104 KI) (by omega) (by omega) (by omega) hC2 hR2 hok (fun τ3 hf3 t6 ht6 => ?_)
          · rw [← hdd] at hrec
            exact hrec
          · have := ihm (t + 1) τ3 (by omega) (jF_tr (jF_tr hf hf2) (jF_mono hf3 (fun c i q => by unfold kW_lo at q ⊢; omega)))
            unfold jn_sum at this
            rw [hs] at this
            dsimp only at this
            rw [show ((t + 1 : Nat) : Int) = (t : Int) + 1 by omega, show 80 + 2 * m - 2 = 80 + 2 * (m - 1) by omega] at this
            rw [ht6]
            rw [← Int.natCast_add]
            exact this
    have h0 := hloop (g 0 0).toNat 0 σ (by omega) jF_rf
    exact h0
theorem jc_win (hT : jg_sh T = (8, 0)) (h1 : jg_sh (T + 1) = (0, 0)) (h2 : jg_sh (T + 10) = (7, 0)) (hTR : T + 22 ≤ 80) : ∀ (n m d : Nat) (σ : jg_M) (K : kr_K) (KI : Int → jg_M → Prop), n + 1 ≤ m → m ≤ 5 → 4 + n ≤ d → kr_CW σ T g → kr_Ro σ (80 + 2 * m) K → kr_OK g K → (∀ τ, jF (kW_lo (80 + 2 * m)) σ τ → KI (kr_wn g n K) τ) → jg_CI w (d + 1) mm_X11_winningToken [.ref T, .ref (80 + 2 * m), .int (.ofInt (n : Int))] σ KI := by
  intro n
  induction n with
  | zero =>
    intro m d σ K KI hm hm5 hd hC hR hK hk
    have s1 := kr_shl ⟨m, by omega⟩
    have sb := kr_botl ⟨m, by omega⟩ (by show 1 ≤ m; omega)
    dsimp only at s1 sb
    refine jb_X11_winningToken_0 (by omega) hT s1 ?_
    rw [sb]
    refine jn_ite (fun h => by cases h) (fun _ => jn_ite (fun _ => hk σ jF_rf) (fun h => absurd (show jg_wr ((0 : Nat) : Int) ≤ 0 by decide) h))
  | succ n ih =>
    intro m d σ K KI hm hm5 hd hC hR hK hk
    have hw := hC.1.1.1
    have s1 := kr_shl ⟨m, by omega⟩
    have s0 := kr_shl ⟨m - 1, by omega⟩
    have sb := kr_botl ⟨m, by omega⟩ (by show 1 ≤ m; omega)
    dsimp only at s1 sb s0
    refine jb_X11_winningToken_0 (by omega) hT s1 ?_
    rw [sb, jr_wr (show jr ((n + 1 : Nat) : Int) by omega)]
    refine jn_ite (fun h => by cases h) (fun _ => jn_ite (fun h => by omega) (fun _ => ?_))
    have hloop : ∀ (mm t : Nat) (τ : jg_M), (t : Int) + mm = g 0 0 → jF (kW_lo (80 + 2 * m)) σ τ → kr_wn g (n + 1) K = kr_ff (fun t => match kr_nx g (t : Int) K with
        | some K' => decide (kr_wn g n K' < 0)
        | none => false) mm t → jg_GI w (d + 1) mm_X11_winningToken 19 [.ref T, .ref (80 + 2 * m), .int (.ofInt ((n + 1 : Nat) : Int)), .ref (80 + 2 * m - 2), .int (.ofInt (t : Int))] τ KI := by
      intro mm
      induction mm with
      | zero =>
        intro t τ ht hf he
        have hCτ := kr_CW_fr hC hf (fun c i c1 c2 q => by unfold kW_lo at q; omega)
        refine jb_X11_winningToken_19 (by omega) hT s1 (by rw [show 80 + 2 * m - 2 = 80 + 2 * (m - 1) by omega]; exact s0) ?_
        rw [hCτ.1.2.1.1, jr_wr (by omega), jr_wr (by omega)]
        refine jn_ite (fun _ => ?_) (fun h => by omega)
        have := hk τ hf
        rw [he] at this
        exact this
      | succ mm ihm =>
        intro t τ ht hf he
        have hCτ := kr_CW_fr hC hf (fun c i c1 c2 q => by unfold kW_lo at q; omega)
        have hRτ := kr_Ro_fr hR hf (fun i q => by unfold kW_lo at q; omega) (fun i q => by unfold kW_lo at q; omega)
        refine jb_X11_winningToken_19 (by omega) hT s1 (by rw [show 80 + 2 * m - 2 = 80 + 2 * (m - 1) by omega]; exact s0) ?_
        rw [hCτ.1.2.1.1, jr_wr (by omega), jr_wr (by omega)]
        refine jn_ite (fun h => by omega) (fun _ => ?_)
        unfold kr_ff at he
        have hnext : ∀ τ2, jF (kW_lo (80 + 2 * m)) τ τ2 → kr_wn g (n + 1) K = kr_ff (fun t => match kr_nx g (t : Int) K with
            | some K' => decide (kr_wn g n K' < 0)
            | none => false) mm (t + 1) → jg_GI w (d + 1) mm_X11_winningToken 19 [.ref T, .ref (80 + 2 * m), .int (.ofInt ((n + 1 : Nat) : Int)), .ref (80 + 2 * m - 2), .int (.ofInt ((t : Int) + 1))] τ2 KI := fun τ2 hf2 he2 => by
          have := ihm (t + 1) τ2 (by omega) (jF_tr hf hf2) he2
          rw [show ((t + 1 : Nat) : Int) = (t : Int) + 1 by omega] at this
          exact this
        refine jc_try (fun _ => (t : Int)) (t := (t : Int)) (fun _ _ => rfl) hT h1 h2 hTR ⟨by omega, hm5⟩ hCτ hRτ hK ⟨by omega, by omega⟩ (fun hn τ2 hf2 => ?_) (fun K' d' hs hok hd' τ2 hf2 hR2 => ?_)
        · rw [hn] at he
          exact jn_ite (fun _ => hnext τ2 hf2 he) (fun h => absurd (show jg_wr (-2) < 0 by decide) h)
        · rw [hs] at he
          dsimp only at he
          rw [jr_wr (show jr ((d' : Nat) : Int) by omega)]
          refine jn_ite (fun h => by omega) (fun _ => ?_)
          have hC2 := kr_CW_fr hCτ hf2 (fun c i c1 c2 q => by unfold kW_lo at q; omega)
          have hdd : d = d - 1 + 1 := by omega
          rw [show ((n + 1 : Nat) : Int) - 1 = (n : Int) by omega, show 80 + 2 * m - 2 = 80 + 2 * (m - 1) by omega]
          have hr := kr_wn_rng (K := K') (n := n) hC.1.1
          have hrec := ih (m - 1) (d - 1) τ2 K' (fun (z105 : Int) (m104 : jg_M) => (if 0 ≤ jg_wr z105 then jg_GI w (d + 1) mm_X11_winningToken 19 [.ref T, .ref (80 + 2 * m), .int (.ofInt ((n + 1 : Nat) : Int)), .ref (80 + 2 * (m - 1)), .int (.ofInt ((t : Int) + 1))] m104 KI else KI (t : Int) m104)) (by omega) (by omega) (by omega) hC2 hR2 hok (fun τ3 hf3 => ?_)
          · rw [← hdd] at hrec
            exact hrec
          · have hf3' : jF (kW_lo (80 + 2 * m)) τ τ3 := jF_tr hf2 (jF_mono hf3 (fun c i q => by unfold kW_lo at q ⊢; omega))
            rw [jr_wr (show jr (kr_wn g n K') by omega)]
            refine jn_ite (fun h => ?_) (fun h => ?_)
            · rw [if_neg (fun q => by have := of_decide_eq_true q; omega)] at he
              have := hnext τ3 hf3' he
              rw [show 80 + 2 * m - 2 = 80 + 2 * (m - 1) by omega] at this
              exact this
            · rw [if_pos (decide_eq_true (by omega))] at he
              have := hk τ3 (jF_tr hf hf3')
              rw [he] at this
              exact this
    exact hloop (g 0 0).toNat 0 σ (by omega) jF_rf rfl
end KRE
