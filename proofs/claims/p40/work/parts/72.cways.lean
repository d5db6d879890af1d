/-! SHORTEST to STATES: the process; the class -/
section KAS
def ka_tgW (S : jn_Q) (j : Nat) : Int := S.2.2.1 ((j / 15 : Nat) : Int) ((j % 15 : Nat) : Int)
def ka_trW (S : jn_Q) (VK : ka_Ve) (j : Nat) (W : ka_Ve) : Nat × Nat := if 0 ≤ ka_tgW S j then ka_cat (W ((j / 15 : Nat) : Int)) (ka_sv VK ((j % 15 : Nat) : Int)) else ka_no
def ka_W0 : ka_Ve := fun k => if k = 0 then (0, 0) else ka_no
noncomputable abbrev ka_pw (g : gM) (S : jn_Q) : Nat → ka_Ve → ka_Ve := ka_pr (ka_tgW S) (ka_trW S (ka_VK g)) 60
noncomputable def ka_VW (g : gM) (S : jn_Q) : ka_Ve := ka_it (ka_pw g S (15 * S.1.toNat)) 48 ka_W0
def ka_WR (zN : Int) (R Ls : Int → Int) (W : ka_Ve) : Prop := ∀ s, 0 ≤ s → s < 48 → ka_wd zN R (s * 60) (Ls s) (W s)
def ka_MV (σ : jg_M) (A : Nat) (S : jn_Q) : Prop := σ.1 A 0 = S.1 ∧ ∀ s x, 0 ≤ s → s < S.1 → 0 ≤ x → x < 15 → σ.1 (A + 4) (s * 15 + x) = jn_m2 (S.2.2.1 s x)
def kW_sw (a : Nat) (c : Nat) (i : Int) : Prop := c = a + 2 ∨ c = a + 4 ∨ c = a + 5 ∨ (c = a ∧ i = 5)
variable {zN : Int} {w : Nat} {σ τ : jg_M} {a A n K i : Nat} {g : gM} {S : jn_Q} {R R' T Ls Ls' : Int → Int} {p v : Nat × Nat} {V W : ka_Ve} {KV : jg_M → Prop} {KI : Int → jg_M → Prop} {q s x : Int}
theorem ka_VK_vv (hW : jn_GW g) : ka_vv (ka_VK g) := (ka_it_vv (ka_gdK hW) ka_V0_vv).1
theorem ka_W0_vv : ka_vv ka_W0 := fun k => by
  unfold ka_W0
  split
  · exact Or.inl ⟨rfl, rfl⟩
  · exact ka_no_vp
theorem ka_mv_sym (hW : jn_GW g) (hF : jn_FP g S) (hs : 0 ≤ s ∧ s < S.1) (hx : 0 ≤ x ∧ x < 15) (hm : 0 ≤ S.2.2.1 s x) : (x < 7 ∨ 10 ≤ x) ∧ S.2.2.1 s x < S.1 := by
  have h1 := hF.2.1 s x hs.1 hs.2 hx.1 hx.2
  have h2 := (hF.1.2.2.1 s x).2
  refine ⟨Classical.byContradiction (fun q => ?_), h2⟩
  have h3 := jn_A_no (s := x) hW (by omega)
  rcases h1 with h1 | h1
  · omega
  · refine h1.1 ?_
    unfold jn_nx
    rw [h3, Nat.and_zero]
theorem ka_gdW (hW : jn_GW g) (hF : jn_FP g S) : ka_gd (15 * S.1.toNat) 48 (ka_tgW S) (ka_trW S (ka_VK g)) 60 := fun j hj => by
  have hI := hF.1.1
  have hVK := ka_VK_vv hW
  have hs : 0 ≤ ((j / 15 : Nat) : Int) ∧ ((j / 15 : Nat) : Int) < S.1 := by omega
  have hx : 0 ≤ ((j % 15 : Nat) : Int) ∧ ((j % 15 : Nat) : Int) < 15 := by omega
  have hsv : 0 ≤ ka_tgW S j → ka_vp (ka_sv (ka_VK g) ((j % 15 : Nat) : Int)) := fun hm => by
    have := (ka_mv_sym hW hF hs hx hm).1
    exact ka_sv_vp hVK (by omega)
  refine ⟨fun V hV => ?_, fun U V hU hV h => ?_, fun V hc => ?_⟩
  · unfold ka_trW
    split
    · rename_i hm
      exact ka_vp_cat (hV _) (hsv hm)
    · exact ka_no_vp
  · unfold ka_trW
    by_cases hm : 0 ≤ ka_tgW S j
    · rw [if_pos hm, if_pos hm]
      have h3 := ka_cat_le (hU ((j / 15 : Nat) : Int)) (hsv hm) (hV ((j / 15 : Nat) : Int)) (hsv hm) (h _) (Nat.le_refl _)
      refine ⟨h3.1, fun he _ W hw => ?_⟩
      rw [if_pos hm, hw _ (h3.2 he).1.symm]
    · rw [if_neg hm, if_neg hm]
      exact ⟨Nat.le_refl _, fun _ _ W _ => by rw [if_neg hm]⟩
  · unfold ka_trW at hc
    by_cases hm : 0 ≤ ka_tgW S j
    · have := (hF.1.2.2.1 ((j / 15 : Nat) : Int) ((j % 15 : Nat) : Int)).2
      refine ⟨hm, ?_⟩
      show S.2.2.1 _ _ < ((48 : Nat) : Int)
      omega
    · rw [if_neg hm, ka_no1] at hc
      omega
theorem ka_WR_up (h : ka_WR zN R Ls W) (hk : 0 ≤ q ∧ q < 48) (hp : p.1 ≤ 60) (hc : ka_cd T 0 p.1 = p.2) (ht : ka_tk T 0 p.1) (h1 : ∀ i : Nat, i < p.1 → R' (q * 60 + i) = T (i : Int)) (h2 : ∀ i : Int, i < q * 60 ∨ q * 60 + 60 ≤ i → R' i = R i) (h3 : Ls' q = (p.1 : Nat)) (h4 : ∀ k, k ≠ q → Ls' k = Ls k) : ka_WR zN R' Ls' (fun k => if k = q then p else W k) := fun k k0 k5 => by
  by_cases hkk : k = q
  · subst hkk
    dsimp only
    rw [if_pos rfl]
    refine Or.inr ⟨h3, by omega, ?_, fun i hi => ?_⟩
    · rw [← hc]
      exact ka_cd_eq (fun i hi => by rw [h1 i hi, Int.zero_add])
    · rw [h1 i hi]
      have := ht i hi
      rwa [Int.zero_add] at this
  · dsimp only
    rw [if_neg hkk, h4 k hkk]
    exact ka_wd_cg (h k k0 k5) (fun i hi h60 => h2 _ (by omega))
theorem ka_WR_cg (h : ka_WR zN R Ls W) (h1 : ∀ i, R' i = R i) (h2 : ∀ k, Ls' k = Ls k) : ka_WR zN R' Ls' W := fun k k0 k5 => by
  rw [h2 k]
  exact ka_wd_cg (h k k0 k5) (fun i _ _ => h1 _)
theorem jc_X6_improveBy (h0 : jg_sh a = (6, 0)) (hA : jg_sh A = (7, 0)) (hMV : ka_MV σ A S) (hAa : A + 12 ≤ a) (hW : jn_GW g) (hF : jn_FP g S) {j : Nat} (hj : j < 15 * S.1.toNat) (hV : ka_KR zN (σ.1 (a + 3)) (σ.1 (a + 1)) (ka_VK g)) (hWR : ka_WR zN (σ.1 (a + 4)) (σ.1 (a + 2)) W) (hpos : 0 ≤ σ.1 (a + 2) ((j / 15 : Nat) : Int))
    (k0 : ∀ τ, jF (kW_tr a) σ τ → ¬ ((ka_trW S (ka_VK g) j W).1 ≤ 60 ∧ (ka_trW S (ka_VK g) j W).2 < (W (ka_tgW S j)).2) → KI 0 τ)
    (k1 : ((ka_trW S (ka_VK g) j W).1 ≤ 60 ∧ (ka_trW S (ka_VK g) j W).2 < (W (ka_tgW S j)).2) → ∀ τ, jF (kW_sw a) σ τ → ka_WR zN (τ.1 (a + 4)) (τ.1 (a + 2)) (fun k => if k = ka_tgW S j then ka_trW S (ka_VK g) j W else W k) → KI 1 τ) : jg_CI w 2 mm_X6_improveBy [.ref a, .ref A, .int (.ofInt ((j / 15 : Nat) : Int)), .int (.ofInt ((j % 15 : Nat) : Int))] σ KI := by
  have hI := hF.1.1
  have s4 : jg_sh (a + 4) = (20, 2880) := jg_sX6_3 h0
  have hs : 0 ≤ ((j / 15 : Nat) : Int) ∧ ((j / 15 : Nat) : Int) < S.1 := by omega
  have hx : 0 ≤ ((j % 15 : Nat) : Int) ∧ ((j % 15 : Nat) : Int) < 15 := by omega
  have hmv := hF.1.2.2.1 ((j / 15 : Nat) : Int) ((j % 15 : Nat) : Int)
  have hm2 := hMV.2 _ _ hs.1 hs.2 hx.1 hx.2
  have hmr : -2 ≤ jn_m2 (S.2.2.1 ((j / 15 : Nat) : Int) ((j % 15 : Nat) : Int)) ∧ jn_m2 (S.2.2.1 ((j / 15 : Nat) : Int) ((j % 15 : Nat) : Int)) < 48 := by
    unfold jn_m2
    split <;> omega
  refine jb_X6_improveBy_0 h0 hA (jc_X7_moveBy hA hMV.1 (by omega) (by omega) (by omega) ?_)
  rw [if_pos ⟨hs, hx⟩, hm2]
  refine jc_X7_has hA hMV.1 (by omega) (by omega) (jn_if (fun hno => k0 σ jF_rf (fun hc => ?_)) (fun hyes => ?_))
  · have htr : ka_trW S (ka_VK g) j W = ka_no := by
      unfold ka_trW
      refine if_neg (fun h => hno ?_)
      have h' : 0 ≤ S.2.2.1 ((j / 15 : Nat) : Int) ((j % 15 : Nat) : Int) := h
      unfold jn_m2
      rw [if_neg (by omega)]
      omega
    rw [htr, ka_no1] at hc
    omega
  · have hm0 : 0 ≤ S.2.2.1 ((j / 15 : Nat) : Int) ((j % 15 : Nat) : Int) := by
      unfold jn_m2 at hyes
      by_cases h : S.2.2.1 ((j / 15 : Nat) : Int) ((j % 15 : Nat) : Int) < 0
      · rw [if_pos h] at hyes; omega
      · omega
    have hme : jn_m2 (S.2.2.1 ((j / 15 : Nat) : Int) ((j % 15 : Nat) : Int)) = ka_tgW S j := by
      unfold jn_m2 ka_tgW
      rw [if_neg (by omega)]
    have htr : ka_trW S (ka_VK g) j W = ka_cat (W ((j / 15 : Nat) : Int)) (ka_sv (ka_VK g) ((j % 15 : Nat) : Int)) := by
      unfold ka_trW
      exact if_pos hm0
    have hsy := (ka_mv_sym hW hF hs hx hm0).1
    rw [hme] at hyes ⊢
    have hq : 0 ≤ ka_tgW S j ∧ ka_tgW S j < 48 := by omega
    have hws := hWR ((j / 15 : Nat) : Int) (by omega) (by omega)
    have hwr := ka_wd_rng hws
    obtain ⟨u1, u2, u3, u4⟩ := ka_wd_pos hws hpos
    rw [jr_wr (show jr (((j / 15 : Nat) : Int) * 60) by omega), jr_wr (show jr ((j / 15 : Nat) : Int) by omega), jr_wr (show jr (ka_tgW S j) by omega), jr_wr (show jr (ka_tgW S j * 60) by omega)]
    refine ⟨by omega, ?_⟩
    intro τ1 ht1
    refine ⟨by omega, ?_⟩
    intro τ2 ht2
    have hc1 : ∀ c i', c ≠ a + 5 → τ1.1 c i' = σ.1 c i' := fun c i' h => by
      rw [ht1]
      show (if _ then _ else _) = _
      rw [if_neg (fun q => h q.1)]
    have hF1 : jF (kW_tr a) σ τ1 := ⟨fun c i' h => hc1 c i' (fun q => h (Or.inl q)), fun c i' _ => by rw [ht1]; rfl⟩
    have hF2 : jF (kW_tr a) σ τ2 := by rw [ht2]; exact jF_toI hF1 (Or.inr ⟨rfl, rfl⟩)
    have hT2 : ka_TR (τ2.1 (a + 5)) (τ2.1 a 5) 60 (W ((j / 15 : Nat) : Int)) := by
      have hrow : ∀ i : Nat, i < 60 → τ2.1 (a + 5) (0 + (i : Int)) = σ.1 (a + 4) (((j / 15 : Nat) : Int) * 60 + i) := fun i hi => by
        rw [ht2, js_In (Or.inl (by omega)), ht1]
        show (if _ then _ else _) = _
        rw [if_pos ⟨rfl, by omega, by omega⟩, show ((j / 15 : Nat) : Int) * 60 + (0 + (i : Int) - 0) = ((j / 15 : Nat) : Int) * 60 + i by omega]
      refine ⟨?_, u2, ?_, fun i hi => ?_⟩
      · rw [ht2, js_Is, hc1 _ _ (by omega), u1]
      · rw [← u3]; exact ka_cd_eq (fun i hi => hrow i (by omega))
      · rw [hrow i (by omega)]; exact u4 i hi
    have hV2 : ka_KR zN (τ2.1 (a + 3)) (τ2.1 (a + 1)) (ka_VK g) := ka_KR_cg hV (fun i => hF2.1 _ _ (fun q => by unfold kW_tr at q; omega)) (fun i => hF2.1 _ _ (fun q => by unfold kW_tr at q; omega))
    refine jc_X6_lengthen h0 (by omega) hV2 hT2 (by decide) (fun hlt => ?_) (fun τ3 hle hF3 hT3 => ?_)
    · refine jn_ite (fun _ => k0 τ2 hF2 (fun hc => ?_)) (fun h => absurd rfl h)
      rw [htr] at hc
      have h9 : (W ((j / 15 : Nat) : Int)).1 + (ka_sv (ka_VK g) ((j % 15 : Nat) : Int)).1 ≤ 60 := hc.1
      omega
    · refine jn_ite (fun h => by cases h) (fun _ => ⟨by omega, ?_⟩)
      have hF13 := jF_tr hF2 hF3
      have hW3 : ka_WR zN (τ3.1 (a + 4)) (τ3.1 (a + 2)) W := ka_WR_cg hWR (fun i => hF13.1 _ _ (fun q => by unfold kW_tr at q; omega)) (fun i => hF13.1 _ _ (fun q => by unfold kW_tr at q; omega))
      rw [← htr] at hT3
      have hcap : (ka_trW S (ka_VK g) j W).1 ≤ 60 := hT3.2.1
      have hwq := hW3 (ka_tgW S j) hq.1 hq.2
      have hwqr := ka_wd_rng hwq
      refine jc_X6_improves (p := ka_trW S (ka_VK g) j W) h0 s4 (by decide) hT3 hwq (by omega) (fun hL => by omega) ?_
      refine jn_if (fun hc => k0 τ3 hF13 (fun q => hc q.2)) (fun hc => ⟨by omega, ?_⟩)
      rintro _ rfl
      refine ⟨by omega, ?_⟩
      rintro _ rfl
      have hcp : ∀ c i', ¬ (c = a + 4) → (jg_cI τ3 (a + 5) 0 (a + 4) (ka_tgW S j * 60) 60).1 c i' = τ3.1 c i' := fun c i' h => by
        show (if _ then _ else _) = _
        rw [if_neg (fun q => h q.1)]
      have hFc : jF (kW_sw a) τ3 (jg_cI τ3 (a + 5) 0 (a + 4) (ka_tgW S j * 60) 60) := ⟨fun c i' h => hcp c i' (fun q => h (Or.inr (Or.inl q))), fun c i' _ => rfl⟩
      refine k1 ⟨hcap, hc⟩ _ (jF_toI (jF_tr (jF_mono hF13 (fun c i q => by unfold kW_tr at q; unfold kW_sw; omega)) hFc) (Or.inl rfl)) ?_
      refine ka_WR_up (T := τ3.1 (a + 5)) hW3 hq hcap hT3.2.2.1 hT3.2.2.2 (fun i hi => ?_) (fun i hi => ?_) ?_ (fun k hk => ?_)
      · rw [js_In (Or.inl (by omega))]
        show (if _ then _ else _) = _
        rw [if_pos ⟨rfl, by omega, by omega⟩, show (0 : Int) + (ka_tgW S j * 60 + (i : Int) - ka_tgW S j * 60) = (i : Int) by omega]
      · rw [js_In (Or.inl (by omega))]
        show (if _ then _ else _) = _
        rw [if_neg (fun q => by omega)]
      · rw [js_Is, hcp _ _ (by omega), hT3.1]
      · rw [js_In (Or.inr hk), hcp _ _ (by omega)]
end KAS
