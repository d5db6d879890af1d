/-! Calls that change what is known, on both sides -/
section KXB
variable {σ τ : jg_M} {S : kx_S} {x y k x1 x2 x3 x4 x5 : Int}
/-- nothing changes, one cell of the model aside -/
theorem kx_same {dc dm : Nat} {Mc Mm : mj_Inf} {As : List Value} {z : Int} (hP : kx_P S)
    (h1 : ∀ σ, kx_C σ S → ∀ KI : Int → jg_M → Prop, KI z σ → jg_CI 141 dc Mc (.ref 0 :: As) σ KI)
    (h2 : ∀ σ, kx_M σ S → ∀ KI : Int → jg_M → Prop, (∀ τ, τ = jg_sI σ 92 2 0 → KI z τ) → jg_CI 141 dm Mm (.ref 92 :: As) σ KI) : kx_T S dc dm Mc Mm As :=
  kx_q hP h1 (fun σ h KI k => h2 σ h KI (fun τ hτ => k τ (ku_ge2 hτ).1 (ku_ge2 hτ).2))
theorem kx_R0 {c : Nat} {h : kz_H} (hR : kz_RC σ c h) (h1 : τ.1 69 1 = σ.1 69 1) (h0 : τ.1 69 0 = 0) : kz_RC τ 0 h := by
  obtain ⟨p, p1, p2, _, _⟩ := hR
  exact ⟨p, h1.trans p1, p2, ⟨h0, Nat.zero_le _⟩, fun i q => absurd q (Nat.not_lt_zero i)⟩
def kx_fb (B : Nat → Int) (n : Nat) (x1 x2 x3 x4 x5 : Int) : Nat → Int := fun j => if j < n then B j else if j < n + 20 then ku_fb x1 x2 x3 x4 x5 (j - n) else 0
theorem kx_feed (hP : kx_P S) : kx_T S 1 0 mm_X11_feed mm_X12_feed [.int (.ofInt x1), .int (.ofInt x2), .int (.ofInt x3), .int (.ofInt x4), .int (.ofInt x5)] := by
  by_cases hfit : S.2.2.2.2.2.2.2.2 + 20 ≤ 700
  · obtain ⟨⟨T, g⟩, ⟨K, rd, tk⟩, N, ⟨c, hh⟩, ⟨I, im⟩, B, F, P, fed⟩ := S
    obtain ⟨p1, ⟨p2, p3⟩, p4, ⟨p5, p6⟩, p7, p8, p9, p10⟩ := hP
    dsimp only at p1 p2 p3 p4 p5 p6 p7 p8 p9 p10
    dsimp only at hfit
    refine ⟨fed + 20, ((T, g), (K, rd, tk), N, (c, hh), (I, im), kx_fb B fed.toNat x1 x2 x3 x4 x5, F, P, fed + 20), ⟨p1, ⟨p2, p3⟩, p4, ⟨p5, p6⟩, fun j => ?_, by dsimp only; omega, p9, p10⟩, fun σ h => ?_, fun σ h => ?_⟩
    · dsimp only
      unfold kx_fb
      split
      · exact p7 j
      · split
        · exact ku_by_rng
        · decide
    · obtain ⟨h1, h2, h3, h4, ⟨h5, h6⟩, h7, ⟨h8, h9⟩, h10⟩ := h
      dsimp only at h1 h2 h3 h4 h5 h6 h7 h8 h9 h10
      have hT := h1.1.1
      have e7 := h7.1
      refine jc_feed (by omega) (fun q => by omega) (fun _ τ hf v1 vb => ⟨by omega, jF_mono hf (fun c i q => by unfold kW_c; omega), ⟨(show ku_CG τ T g from ku_CG_fr2 h1 hf (fun  q => by omega) (fun  q => by omega) (fun c i q1 q => by omega)), kz_C_fr h2 hf (fun i q => by omega) (fun i q => by omega), kn_C_fr h3 hf (fun a i a1 a2 q => by omega), kz_RC_fr h4 hf (fun a i a1 a2 q => by omega), ⟨(hf.1 _ _ (fun  q => by omega)).trans h5, fun q0 => kz_C_fr (h6 q0) hf (fun i q => by omega) (fun i q => by omega)⟩, ?_, ⟨(hf.1 _ _ (fun  q => by omega)).trans h8, (hf.1 _ _ (fun  q => by omega)).trans h9⟩, kx_lr_fr h10 hf (fun a i a1 a2 q => by omega)⟩⟩)
      rw [e7] at v1 vb hf
      refine ⟨v1, fun i hi => ?_⟩
      dsimp only at hi ⊢
      unfold kx_fb
      by_cases hl : i < fed.toNat
      · rw [if_pos hl, hf.1 _ _ (fun q => by omega)]
        exact h7.2 i (by omega)
      · rw [if_neg hl, if_pos (by omega)]
        have := vb (i - fed.toNat) (by omega)
        rw [show fed + ((i - fed.toNat : Nat) : Int) = (i : Int) by omega] at this
        exact this
    · obtain ⟨h1, h2, h3, h4, ⟨h5, h6⟩, h7, ⟨h8, h9⟩, h10⟩ := h
      dsimp only at h1 h2 h3 h4 h5 h6 h7 h8 h9 h10
      have e7 := h7.1
      refine jm_feed (by omega) (fun q => by omega) (fun _ τ hf v1 v2 vb => ⟨by omega, jF_mono hf (fun c i q => by unfold kW_m; omega), ⟨ku_MG_fr h1 hf (fun c i q1 q => by unfold kW_mg kW_m0 at q1; omega), kz_N_fr h2 hf (fun i i0 i1 q => by omega) (fun i q => by omega), kn_M_fr h3 hf (fun i q => by omega) (fun  q => by omega) (fun  q => by omega), kz_RM_fr h4 hf (fun  q => by omega) (fun i q => by omega), ⟨(hf.1 _ _ (fun  q => by omega)).trans h5, fun q0 => kz_M_fr (h6 q0) hf (fun i q => by omega)⟩, ?_, ⟨(hf.1 _ _ (fun  q => by omega)).trans h8, (hf.1 _ _ (fun  q => by omega)).trans h9⟩, kt_Wd_fr h10 hf (fun i q => by omega)⟩⟩)
      rw [e7] at v1 vb hf
      refine ⟨v1, fun i hi => ?_⟩
      dsimp only at hi ⊢
      unfold kx_fb
      by_cases hl : i < fed.toNat
      · rw [if_pos hl, hf.1 _ _ (fun q => by omega)]
        exact h7.2 i (by omega)
      · rw [if_neg hl, if_pos (by omega)]
        have := vb (i - fed.toNat) (by omega)
        rw [show fed + ((i - fed.toNat : Nat) : Int) = (i : Int) by omega] at this
        exact this
  · have p8 := hP.2.2.2.2.2.1
    refine kx_same (z := -1) hP (fun σ h KI kk => ?_) (fun σ h KI kk => ?_)
    · have e7 := h.2.2.2.2.2.1.1
      exact jc_feed (by omega) (fun _ => kk) (fun q => by omega)
    · have e7 := h.2.2.2.2.2.1.1
      exact jm_feed (by omega) (fun _ => kk) (fun q => by omega)
theorem kx_note (hP : kx_P S) (hx : jr x) (hy : jr y) (hk : k = 0 ∨ k = 1) : kx_T S 1 1 mm_X11_note mm_X12_note [.int (.ofInt x), .int (.ofInt y), .int (.ofInt k)] := by
  by_cases hn : kp_new S.1.2 S.2.2.1 x y
  · obtain ⟨⟨T, g⟩, ⟨K, rd, tk⟩, N, ⟨c, hh⟩, ⟨I, im⟩, B, F, P, fed⟩ := S
    obtain ⟨p1, ⟨p2, p3⟩, p4, ⟨p5, p6⟩, p7, p8, p9, p10⟩ := hP
    dsimp only at p1 p2 p3 p4 p5 p6 p7 p8 p9 p10
    dsimp only at hn
    refine ⟨(N.1.1 : Nat), ((T, g), (K, rd, tk), kn_add N (x, y, k), (c, hh), (I, im), B, F, P, fed), ⟨p1, ⟨kp_N_add p2 hn.1 hk, ?_⟩, p4, ⟨p5, p6⟩, p7, p8, p9, p10⟩, fun σ h => ?_, fun σ h => ?_⟩
    · refine ⟨by have := p3.1; show N.1.2 ≤ ((N.1.1 + 1 : Nat) : Int); omega, fun i hi hneg => ?_⟩
      have hi' : i < N.1.1 + 1 := hi
      dsimp only at hneg ⊢
      by_cases hin : i = N.1.1
      · have e : (kn_add N (x, y, k)).2 i = (x, y, k) := if_pos hin
        rw [e] at hneg
        have hneg' : x < 0 := hneg
        have := hn.1.1.1
        omega
      · have e : (kn_add N (x, y, k)).2 i = N.2 i := if_neg hin
        rw [e] at hneg ⊢
        exact p3.2 i (by omega) hneg
    · obtain ⟨h1, h2, h3, h4, ⟨h5, h6⟩, h7, ⟨h8, h9⟩, h10⟩ := h
      dsimp only at h1 h2 h3 h4 h5 h6 h7 h8 h9 h10
      have hT := h1.1.1
      exact jc_note h1 h3 hx hy hk (fun q => absurd hn q) (fun _ τ hf hN => ⟨rfl, jF_mono hf (fun c i q => by unfold kW_no at q; unfold kW_c; omega), ⟨(show ku_CG τ T g from ku_CG_fr2 h1 hf (fun  q => by unfold kW_no at q; omega) (fun  q => by unfold kW_no at q; omega) (fun c i q1 q => by unfold kW_no at q; omega)), kz_C_fr h2 hf (fun i q => by unfold kW_no at q; omega) (fun i q => by unfold kW_no at q; omega), hN, kz_RC_fr h4 hf (fun a i a1 a2 q => by unfold kW_no at q; omega), ⟨(hf.1 _ _ (fun  q => by unfold kW_no at q; omega)).trans h5, fun q0 => kz_C_fr (h6 q0) hf (fun i q => by unfold kW_no at q; omega) (fun i q => by unfold kW_no at q; omega)⟩, kx_tp_fr h7 hf (fun  q => by unfold kW_no at q; omega) (fun i q => by unfold kW_no at q; omega), ⟨(hf.1 _ _ (fun  q => by unfold kW_no at q; omega)).trans h8, (hf.1 _ _ (fun  q => by unfold kW_no at q; omega)).trans h9⟩, kx_lr_fr h10 hf (fun a i a1 a2 q => by unfold kW_no at q; omega)⟩⟩)
    · obtain ⟨h1, h2, h3, h4, ⟨h5, h6⟩, h7, ⟨h8, h9⟩, h10⟩ := h
      dsimp only at h1 h2 h3 h4 h5 h6 h7 h8 h9 h10
      exact jm_note h1 h3 hx hy hk (fun q => absurd hn q) (fun _ τ hf v2 hN => ⟨rfl, jF_mono hf (fun c i q => by unfold kW_ng kW_nm at q; unfold kW_m; omega), ⟨ku_MG_fr h1 hf (fun c i q1 q => by unfold kW_mg kW_m0 at q1; unfold kW_ng kW_nm at q; omega), kz_N_fr h2 hf (fun i i0 i1 q => by unfold kW_ng kW_nm at q; omega) (fun i q => by unfold kW_ng kW_nm at q; omega), hN, kz_RM_fr h4 hf (fun  q => by unfold kW_ng kW_nm at q; omega) (fun i q => by unfold kW_ng kW_nm at q; omega), ⟨(hf.1 _ _ (fun  q => by unfold kW_ng kW_nm at q; omega)).trans h5, fun q0 => kz_M_fr (h6 q0) hf (fun i q => by unfold kW_ng kW_nm at q; omega)⟩, kx_tp_fr h7 hf (fun  q => by unfold kW_ng kW_nm at q; omega) (fun i q => by unfold kW_ng kW_nm at q; omega), ⟨(hf.1 _ _ (fun  q => by unfold kW_ng kW_nm at q; omega)).trans h8, (hf.1 _ _ (fun  q => by unfold kW_ng kW_nm at q; omega)).trans h9⟩, kt_Wd_fr h10 hf (fun i q => by unfold kW_ng kW_nm at q; omega)⟩⟩)
  · exact kx_q2 (z := -1) (Wc := fun _ _ => False) (Wm := fun c i => c = 92 + 39 ∨ (c = 92 ∧ i = 2)) hP (fun σ h KI kk => jc_note h.1 h.2.2.1 hx hy hk (fun _ => kk σ jF_rf) (fun q => absurd q hn)) (fun σ h KI kk => jm_note h.1 h.2.2.1 hx hy hk (fun _ τ hf _ => kk τ hf) (fun q => absurd q hn)) (fun σ h c i q => q.elim) (fun c i q => ⟨by omega, fun q1 => by unfold kx_wm kW_mg kW_m0 at q1; omega⟩)
theorem kx_strike (hP : kx_P S) (hx : jr x) : kx_T S 1 1 mm_X11_strike mm_X12_strike [.int (.ofInt x)] := by
  by_cases hn : (0 ≤ x ∧ x < (S.2.2.1.1.1 : Nat)) ∧ S.2.2.1.1.1 < 24
  · obtain ⟨⟨T, g⟩, ⟨K, rd, tk⟩, N, ⟨c, hh⟩, ⟨I, im⟩, B, F, P, fed⟩ := S
    obtain ⟨p1, ⟨p2, p3⟩, p4, ⟨p5, p6⟩, p7, p8, p9, p10⟩ := hP
    dsimp only at p1 p2 p3 p4 p5 p6 p7 p8 p9 p10
    dsimp only at hn
    refine ⟨(N.1.1 : Nat), ((T, g), (K, rd, tk), kn_add N (-1, x, 0), (c, hh), (I, im), B, F, P, fed), ⟨p1, ⟨kp_N_strike p2 hn.1, ?_⟩, p4, ⟨p5, p6⟩, p7, p8, p9, p10⟩, fun σ h => ?_, fun σ h => ?_⟩
    · refine ⟨by have := p3.1; show N.1.2 ≤ ((N.1.1 + 1 : Nat) : Int); omega, fun i hi hneg => ?_⟩
      have hi' : i < N.1.1 + 1 := hi
      dsimp only at hneg ⊢
      by_cases hin : i = N.1.1
      · have e : (kn_add N (-1, x, 0)).2 i = (-1, x, 0) := if_pos hin
        rw [e]
        exact ⟨hn.1.1, by show x < (i : Int); omega⟩
      · have e : (kn_add N (-1, x, 0)).2 i = N.2 i := if_neg hin
        rw [e] at hneg ⊢
        exact p3.2 i (by omega) hneg
    · obtain ⟨h1, h2, h3, h4, ⟨h5, h6⟩, h7, ⟨h8, h9⟩, h10⟩ := h
      dsimp only at h1 h2 h3 h4 h5 h6 h7 h8 h9 h10
      have hT := h1.1.1
      exact jc_strike h3 hx (fun q => absurd hn q) (fun _ τ hf hN => ⟨rfl, jF_mono hf (fun c i q => by unfold kW_no at q; unfold kW_c; omega), ⟨(show ku_CG τ T g from ku_CG_fr2 h1 hf (fun  q => by unfold kW_no at q; omega) (fun  q => by unfold kW_no at q; omega) (fun c i q1 q => by unfold kW_no at q; omega)), kz_C_fr h2 hf (fun i q => by unfold kW_no at q; omega) (fun i q => by unfold kW_no at q; omega), hN, kz_RC_fr h4 hf (fun a i a1 a2 q => by unfold kW_no at q; omega), ⟨(hf.1 _ _ (fun  q => by unfold kW_no at q; omega)).trans h5, fun q0 => kz_C_fr (h6 q0) hf (fun i q => by unfold kW_no at q; omega) (fun i q => by unfold kW_no at q; omega)⟩, kx_tp_fr h7 hf (fun  q => by unfold kW_no at q; omega) (fun i q => by unfold kW_no at q; omega), ⟨(hf.1 _ _ (fun  q => by unfold kW_no at q; omega)).trans h8, (hf.1 _ _ (fun  q => by unfold kW_no at q; omega)).trans h9⟩, kx_lr_fr h10 hf (fun a i a1 a2 q => by unfold kW_no at q; omega)⟩⟩)
    · obtain ⟨h1, h2, h3, h4, ⟨h5, h6⟩, h7, ⟨h8, h9⟩, h10⟩ := h
      dsimp only at h1 h2 h3 h4 h5 h6 h7 h8 h9 h10
      exact jm_strike h3 hx (fun q => absurd hn q) (fun _ τ hf v2 hN => ⟨rfl, jF_mono hf (fun c i q => by unfold kW_nm at q; unfold kW_m; omega), ⟨ku_MG_fr h1 hf (fun c i q1 q => by unfold kW_mg kW_m0 at q1; unfold kW_nm at q; omega), kz_N_fr h2 hf (fun i i0 i1 q => by unfold kW_nm at q; omega) (fun i q => by unfold kW_nm at q; omega), hN, kz_RM_fr h4 hf (fun  q => by unfold kW_nm at q; omega) (fun i q => by unfold kW_nm at q; omega), ⟨(hf.1 _ _ (fun  q => by unfold kW_nm at q; omega)).trans h5, fun q0 => kz_M_fr (h6 q0) hf (fun i q => by unfold kW_nm at q; omega)⟩, kx_tp_fr h7 hf (fun  q => by unfold kW_nm at q; omega) (fun i q => by unfold kW_nm at q; omega), ⟨(hf.1 _ _ (fun  q => by unfold kW_nm at q; omega)).trans h8, (hf.1 _ _ (fun  q => by unfold kW_nm at q; omega)).trans h9⟩, kt_Wd_fr h10 hf (fun i q => by unfold kW_nm at q; omega)⟩⟩)
  · exact kx_same (z := -1) hP (fun σ h KI kk => jc_strike h.2.2.1 hx (fun _ => kk) (fun q => absurd q hn)) (fun σ h KI kk => jm_strike h.2.2.1 hx (fun _ => kk) (fun q => absurd q hn))
theorem kx_known (hP : kx_P S) (hx : jr x) : kx_T S 1 1 mm_X11_known mm_X12_known [.int (.ofInt x)] := by
  by_cases hn : -1 ≤ x ∧ x ≤ (S.2.2.1.1.1 : Nat)
  · obtain ⟨⟨T, g⟩, ⟨K, rd, tk⟩, N, ⟨c, hh⟩, ⟨I, im⟩, B, F, P, fed⟩ := S
    obtain ⟨p1, ⟨p2, p3⟩, p4, ⟨p5, p6⟩, p7, p8, p9, p10⟩ := hP
    dsimp only at p1 p2 p3 p4 p5 p6 p7 p8 p9 p10
    dsimp only at hn
    refine ⟨1, ((T, g), (K, rd, tk), kn_lim N x, (c, hh), (I, im), B, F, P, fed), ⟨p1, ⟨kp_N_lim p2, ⟨hn.2, p3.2⟩⟩, p4, ⟨p5, p6⟩, p7, p8, p9, p10⟩, fun σ h => ?_, fun σ h => ?_⟩
    · obtain ⟨h1, h2, h3, h4, ⟨h5, h6⟩, h7, ⟨h8, h9⟩, h10⟩ := h
      dsimp only at h1 h2 h3 h4 h5 h6 h7 h8 h9 h10
      have hT := h1.1.1
      exact jc_known h3 hx (fun q => absurd hn q) (fun _ τ hf hN => ⟨rfl, jF_mono hf (fun c i q => by unfold kW_no at q; unfold kW_c; omega), ⟨(show ku_CG τ T g from ku_CG_fr2 h1 hf (fun  q => by unfold kW_no at q; omega) (fun  q => by unfold kW_no at q; omega) (fun c i q1 q => by unfold kW_no at q; omega)), kz_C_fr h2 hf (fun i q => by unfold kW_no at q; omega) (fun i q => by unfold kW_no at q; omega), hN, kz_RC_fr h4 hf (fun a i a1 a2 q => by unfold kW_no at q; omega), ⟨(hf.1 _ _ (fun  q => by unfold kW_no at q; omega)).trans h5, fun q0 => kz_C_fr (h6 q0) hf (fun i q => by unfold kW_no at q; omega) (fun i q => by unfold kW_no at q; omega)⟩, kx_tp_fr h7 hf (fun  q => by unfold kW_no at q; omega) (fun i q => by unfold kW_no at q; omega), ⟨(hf.1 _ _ (fun  q => by unfold kW_no at q; omega)).trans h8, (hf.1 _ _ (fun  q => by unfold kW_no at q; omega)).trans h9⟩, kx_lr_fr h10 hf (fun a i a1 a2 q => by unfold kW_no at q; omega)⟩⟩)
    · obtain ⟨h1, h2, h3, h4, ⟨h5, h6⟩, h7, ⟨h8, h9⟩, h10⟩ := h
      dsimp only at h1 h2 h3 h4 h5 h6 h7 h8 h9 h10
      exact jm_known h3 hx (fun q => absurd hn q) (fun _ τ hf v2 hN => ⟨rfl, jF_mono hf (fun c i q => by unfold kW_nm at q; unfold kW_m; omega), ⟨ku_MG_fr h1 hf (fun c i q1 q => by unfold kW_mg kW_m0 at q1; unfold kW_nm at q; omega), kz_N_fr h2 hf (fun i i0 i1 q => by unfold kW_nm at q; omega) (fun i q => by unfold kW_nm at q; omega), hN, kz_RM_fr h4 hf (fun  q => by unfold kW_nm at q; omega) (fun i q => by unfold kW_nm at q; omega), ⟨(hf.1 _ _ (fun  q => by unfold kW_nm at q; omega)).trans h5, fun q0 => kz_M_fr (h6 q0) hf (fun i q => by unfold kW_nm at q; omega)⟩, kx_tp_fr h7 hf (fun  q => by unfold kW_nm at q; omega) (fun i q => by unfold kW_nm at q; omega), ⟨(hf.1 _ _ (fun  q => by unfold kW_nm at q; omega)).trans h8, (hf.1 _ _ (fun  q => by unfold kW_nm at q; omega)).trans h9⟩, kt_Wd_fr h10 hf (fun i q => by unfold kW_nm at q; omega)⟩⟩)
  · exact kx_same (z := 0) hP (fun σ h KI kk => jc_known h.2.2.1 hx (fun _ => kk) (fun q => absurd q hn)) (fun σ h KI kk => jm_known h.2.2.1 hx (fun _ => kk) (fun q => absurd q hn))
theorem kx_missing (hP : kx_P S) : kx_T S 14 7 mm_X11_missing mm_X12_missing [] := by
  obtain ⟨⟨T, g⟩, ⟨K, rd, tk⟩, N, ⟨c, hh⟩, ⟨I, im⟩, B, F, P, fed⟩ := S
  have hP' := hP
  obtain ⟨p1, ⟨p2, p3⟩, p4, ⟨p5, p6⟩, p7, p8, p9, p10⟩ := hP
  dsimp only at p1 p2 p3 p4 p5 p6 p7 p8 p9 p10
  refine ⟨(jn_mk (kp_mi g N) 12 : Nat), ((T, g), (K, rd, tk), N, (c, hh), (I, im), B, F, P, fed), hP', fun σ h => ?_, fun σ h => ?_⟩
  · obtain ⟨h1, h2, h3, h4, ⟨h5, h6⟩, h7, ⟨h8, h9⟩, h10⟩ := h
    dsimp only at h1 h2 h3 h4 h5 h6 h7 h8 h9 h10
    have hT := h1.1.1
    exact jc_missing h1 h10 h3 p2 p3 (fun τ hf v0 hLC => ⟨rfl, jF_mono hf (fun c i q => by unfold kW_ln at q; unfold kW_c; omega), ⟨(show ku_CG τ T g from ku_CG_fr2 h1 hf (fun  q => by unfold kW_ln at q; omega) (fun  q => by unfold kW_ln at q; omega) (fun c i q1 q => by unfold kW_ln at q; omega)), kz_C_fr h2 hf (fun i q => by unfold kW_ln at q; omega) (fun i q => by unfold kW_ln at q; omega), kn_C_fr h3 hf (fun a i a1 a2 q => by unfold kW_ln at q; omega), kz_RC_fr h4 hf (fun a i a1 a2 q => by unfold kW_ln at q; omega), ⟨(hf.1 _ _ (fun  q => by unfold kW_ln at q; omega)).trans h5, fun q0 => kz_C_fr (h6 q0) hf (fun i q => by unfold kW_ln at q; omega) (fun i q => by unfold kW_ln at q; omega)⟩, kx_tp_fr h7 hf (fun  q => by unfold kW_ln at q; omega) (fun i q => by unfold kW_ln at q; omega), ⟨(hf.1 _ _ (fun  q => by unfold kW_ln at q; omega)).trans h8, (hf.1 _ _ (fun  q => by unfold kW_ln at q; omega)).trans h9⟩, Or.inr ⟨v0, hLC⟩⟩⟩)
  · exact jm_missing h.1 h.2.2.1 p2 p3 (fun τ hf => ⟨rfl, jF_mono hf (fun c i q => by unfold kW_ms kW_im jW_lt jW_ef jW_ls jW_ac kW_co at q; unfold kW_m; omega), kx_M_fr h hf (fun c i q1 q => by unfold kx_wm kW_mg kW_m0 at q1; unfold kW_ms kW_im jW_lt jW_ef jW_ls jW_ac kW_co at q; omega)⟩)
theorem kx_ask (hP : kx_P S) (hx : jr x) (hy : jr y) : kx_T S 14 7 mm_X11_ask mm_X12_ask [.int (.ofInt x), .int (.ofInt y)] := by
  obtain ⟨⟨T, g⟩, ⟨K, rd, tk⟩, N, ⟨c, hh⟩, ⟨I, im⟩, B, F, P, fed⟩ := S
  have hP' := hP
  obtain ⟨p1, ⟨p2, p3⟩, p4, ⟨p5, p6⟩, p7, p8, p9, p10⟩ := hP
  dsimp only at p1 p2 p3 p4 p5 p6 p7 p8 p9 p10
  refine ⟨kv_ask g N x y, ((T, g), (K, rd, tk), N, (c, hh), (I, im), B, F, P, fed), hP', fun σ h => ?_, fun σ h => ?_⟩
  · obtain ⟨h1, h2, h3, h4, ⟨h5, h6⟩, h7, ⟨h8, h9⟩, h10⟩ := h
    dsimp only at h1 h2 h3 h4 h5 h6 h7 h8 h9 h10
    have hT := h1.1.1
    exact jc_ask h1 h10 h3 p2 p3 hx hy (fun τ hf hv => ⟨rfl, jF_mono hf (fun c i q => by unfold kW_ln at q; unfold kW_c; omega), ⟨(show ku_CG τ T g from ku_CG_fr2 h1 hf (fun  q => by unfold kW_ln at q; omega) (fun  q => by unfold kW_ln at q; omega) (fun c i q1 q => by unfold kW_ln at q; omega)), kz_C_fr h2 hf (fun i q => by unfold kW_ln at q; omega) (fun i q => by unfold kW_ln at q; omega), kn_C_fr h3 hf (fun a i a1 a2 q => by unfold kW_ln at q; omega), kz_RC_fr h4 hf (fun a i a1 a2 q => by unfold kW_ln at q; omega), ⟨(hf.1 _ _ (fun  q => by unfold kW_ln at q; omega)).trans h5, fun q0 => kz_C_fr (h6 q0) hf (fun i q => by unfold kW_ln at q; omega) (fun i q => by unfold kW_ln at q; omega)⟩, kx_tp_fr h7 hf (fun  q => by unfold kW_ln at q; omega) (fun i q => by unfold kW_ln at q; omega), ⟨(hf.1 _ _ (fun  q => by unfold kW_ln at q; omega)).trans h8, (hf.1 _ _ (fun  q => by unfold kW_ln at q; omega)).trans h9⟩, hv.elim (fun q => by rw [q.2]; exact h10) Or.inr⟩⟩)
  · exact jm_ask h.1 h.2.2.1 p2 p3 hx hy (fun τ hf => ⟨rfl, jF_mono hf (fun c i q => by unfold kW_ak kW_ms kW_im jW_lt jW_ef jW_ls jW_ac kW_co at q; unfold kW_m; omega), kx_M_fr h hf (fun c i q1 q => by unfold kx_wm kW_mg kW_m0 at q1; unfold kW_ak kW_ms kW_im jW_lt jW_ef jW_ls jW_ac kW_co at q; omega)⟩)
theorem kx_keep (hP : kx_P S) : kx_T S 2 1 mm_X11_keep mm_X12_keep [] := by
  obtain ⟨⟨T, g⟩, ⟨K, rd, tk⟩, N, ⟨c, hh⟩, ⟨I, im⟩, B, F, P, fed⟩ := S
  obtain ⟨p1, ⟨p2, p3⟩, p4, ⟨p5, p6⟩, p7, p8, p9, p10⟩ := hP
  dsimp only at p1 p2 p3 p4 p5 p6 p7 p8 p9 p10
  have h40 := kr_OK_le p1
  refine ⟨(K.1 : Nat), ((T, g), (K, rd, tk), N, (c, hh), ((K, rd, tk), 1), B, F, P, fed), ⟨p1, ⟨p2, p3⟩, p4, ⟨Or.inr rfl, fun _ => p1⟩, p7, p8, p9, p10⟩, fun σ h => ?_, fun σ h => ?_⟩
  · obtain ⟨h1, h2, h3, h4, ⟨h5, h6⟩, h7, ⟨h8, h9⟩, h10⟩ := h
    dsimp only at h1 h2 h3 h4 h5 h6 h7 h8 h9 h10
    have hT := h1.1.1
    exact jc_keep h2 h40 (fun τ hf hI v1 => ⟨rfl, jF_mono hf (fun c i q => by unfold kW_ro at q; unfold kW_c; omega), ⟨(show ku_CG τ T g from ku_CG_fr2 h1 hf (fun  q => by unfold kW_ro at q; omega) (fun  q => by unfold kW_ro at q; omega) (fun c i q1 q => by unfold kW_ro at q; omega)), kz_C_fr h2 hf (fun i q => by unfold kW_ro at q; omega) (fun i q => by unfold kW_ro at q; omega), kn_C_fr h3 hf (fun a i a1 a2 q => by unfold kW_ro at q; omega), kz_RC_fr h4 hf (fun a i a1 a2 q => by unfold kW_ro at q; omega), ⟨v1, fun _ => hI⟩, kx_tp_fr h7 hf (fun  q => by unfold kW_ro at q; omega) (fun i q => by unfold kW_ro at q; omega), ⟨(hf.1 _ _ (fun  q => by unfold kW_ro at q; omega)).trans h8, (hf.1 _ _ (fun  q => by unfold kW_ro at q; omega)).trans h9⟩, kx_lr_fr h10 hf (fun a i a1 a2 q => by unfold kW_ro at q; omega)⟩⟩)
  · obtain ⟨h1, h2, h3, h4, ⟨h5, h6⟩, h7, ⟨h8, h9⟩, h10⟩ := h
    dsimp only at h1 h2 h3 h4 h5 h6 h7 h8 h9 h10
    exact jm_keep h2 h40 (fun τ hf v2 v1 hI => ⟨rfl, jF_mono hf (fun c i q => by unfold kW_m; omega), ⟨ku_MG_fr h1 hf (fun c i q1 q => by unfold kW_mg kW_m0 at q1; omega), kz_N_fr h2 hf (fun i i0 i1 q => by omega) (fun i q => by omega), kn_M_fr h3 hf (fun i q => by omega) (fun  q => by omega) (fun  q => by omega), kz_RM_fr h4 hf (fun  q => by omega) (fun i q => by omega), ⟨v1, fun _ => hI⟩, kx_tp_fr h7 hf (fun  q => by omega) (fun i q => by omega), ⟨(hf.1 _ _ (fun  q => by omega)).trans h8, (hf.1 _ _ (fun  q => by omega)).trans h9⟩, kt_Wd_fr h10 hf (fun i q => by omega)⟩⟩)
theorem kx_back (hP : kx_P S) : kx_T S 2 1 mm_X11_back mm_X12_back [] := by
  by_cases hi : S.2.2.2.2.1.2 = 0
  · refine kx_same (z := -1) hP (fun σ h KI kk => ?_) (fun σ h KI kk => ?_)
    · have e5 := h.2.2.2.2.1.1
      rw [hi] at e5
      exact jc_back (K := (0, fun _ => 0)) (rd := 0) (tk := 0) (by rw [e5]; decide) (fun q => absurd e5 q) (Nat.zero_le _) (fun _ => kk) (fun q => absurd e5 q)
    · have e5 := h.2.2.2.2.1.1
      rw [hi] at e5
      exact jm_back (K := (0, fun _ => 0)) (rd := 0) (tk := 0) (by rw [e5]; decide) (fun q => absurd e5 q) (Nat.zero_le _) (fun _ => kk) (fun q => absurd e5 q)
  · obtain ⟨⟨T, g⟩, ⟨K, rd, tk⟩, N, ⟨c, hh⟩, ⟨I, im⟩, B, F, P, fed⟩ := S
    obtain ⟨p1, ⟨p2, p3⟩, p4, ⟨p5, p6⟩, p7, p8, p9, p10⟩ := hP
    dsimp only at p1 p2 p3 p4 p5 p6 p7 p8 p9 p10
    dsimp only at hi
    have h40 := kr_OK_le (p6 hi)
    refine ⟨(I.1.1 : Nat), ((T, g), I, N, (0, hh), (I, im), B, F, P, fed), ⟨p6 hi, ⟨p2, p3⟩, fun i q => absurd q (Nat.not_lt_zero i), ⟨p5, p6⟩, p7, p8, p9, Nat.zero_le _⟩, fun σ h => ?_, fun σ h => ?_⟩
    · obtain ⟨h1, h2, h3, h4, ⟨h5, h6⟩, h7, ⟨h8, h9⟩, h10⟩ := h
      dsimp only at h1 h2 h3 h4 h5 h6 h7 h8 h9 h10
      have hT := h1.1.1
      exact jc_back (by rw [h5]; omega) (fun _ => h6 hi) h40 (fun q => absurd (h5.symm.trans q) hi) (fun _ τ hf hK v0 => ⟨rfl, jF_mono hf (fun c i q => by unfold kW_ro at q; unfold kW_c; omega), ⟨(show ku_CG τ T g from ku_CG_fr2 h1 hf (fun  q => by unfold kW_ro at q; omega) (fun  q => by unfold kW_ro at q; omega) (fun c i q1 q => by unfold kW_ro at q; omega)), hK, kn_C_fr h3 hf (fun a i a1 a2 q => by unfold kW_ro at q; omega), kx_R0 h4 (hf.1 _ _ (fun q => by unfold kW_ro at q; omega)) v0, ⟨(hf.1 _ _ (fun  q => by unfold kW_ro at q; omega)).trans h5, fun q0 => kz_C_fr (h6 q0) hf (fun i q => by unfold kW_ro at q; omega) (fun i q => by unfold kW_ro at q; omega)⟩, kx_tp_fr h7 hf (fun  q => by unfold kW_ro at q; omega) (fun i q => by unfold kW_ro at q; omega), ⟨(hf.1 _ _ (fun  q => by unfold kW_ro at q; omega)).trans h8, (hf.1 _ _ (fun  q => by unfold kW_ro at q; omega)).trans h9⟩, kx_lr_fr h10 hf (fun a i a1 a2 q => by unfold kW_ro at q; omega)⟩⟩)
    · obtain ⟨h1, h2, h3, h4, ⟨h5, h6⟩, h7, ⟨h8, h9⟩, h10⟩ := h
      dsimp only at h1 h2 h3 h4 h5 h6 h7 h8 h9 h10
      exact jm_back (by rw [h5]; omega) (fun _ => h6 hi) h40 (fun q => absurd (h5.symm.trans q) hi) (fun _ τ hf v2 v0 hK => ⟨rfl, jF_mono hf (fun c i q => by unfold kW_tw at q; unfold kW_m; omega), ⟨ku_MG_fr h1 hf (fun c i q1 q => by unfold kW_mg kW_m0 at q1; unfold kW_tw at q; omega), hK, kn_M_fr h3 hf (fun i q => by unfold kW_tw at q; omega) (fun  q => by unfold kW_tw at q; omega) (fun  q => by unfold kW_tw at q; omega), ⟨⟨v0, Nat.zero_le _⟩, fun i q => absurd q (Nat.not_lt_zero i)⟩, ⟨(hf.1 _ _ (fun  q => by unfold kW_tw at q; omega)).trans h5, fun q0 => kz_M_fr (h6 q0) hf (fun i q => by unfold kW_tw at q; omega)⟩, kx_tp_fr h7 hf (fun  q => by unfold kW_tw at q; omega) (fun i q => by unfold kW_tw at q; omega), ⟨(hf.1 _ _ (fun  q => by unfold kW_tw at q; omega)).trans h8, (hf.1 _ _ (fun  q => by unfold kW_tw at q; omega)).trans h9⟩, kt_Wd_fr h10 hf (fun i q => by unfold kW_tw at q; omega)⟩⟩)
theorem kx_undo (hP : kx_P S) : kx_T S 2 1 mm_X11_undo mm_X12_undo [] := by
  by_cases hi : S.2.2.2.1.1 = 0
  · exact kx_same (z := -1) hP (fun σ h KI kk => jc_undo h.2.2.2.1 (fun _ => kk) (fun q => by omega)) (fun σ h KI kk => jm_undo h.2.2.2.1 (fun _ => kk) (fun q => by omega))
  · obtain ⟨⟨T, g⟩, ⟨K, rd, tk⟩, N, ⟨c, hh⟩, ⟨I, im⟩, B, F, P, fed⟩ := S
    obtain ⟨p1, ⟨p2, p3⟩, p4, ⟨p5, p6⟩, p7, p8, p9, p10⟩ := hP
    dsimp only at p1 p2 p3 p4 p5 p6 p7 p8 p9 p10
    dsimp only at hi
    refine ⟨((c - 1 : Nat) : Int), ((T, g), hh (c - 1), N, (c - 1, hh), (I, im), B, F, P, fed), ⟨p4 (c - 1) (by omega), ⟨p2, p3⟩, fun i q => p4 i (by dsimp only at q; omega), ⟨p5, p6⟩, p7, p8, p9, by dsimp only; omega⟩, fun σ h => ?_, fun σ h => ?_⟩
    · obtain ⟨h1, h2, h3, h4, ⟨h5, h6⟩, h7, ⟨h8, h9⟩, h10⟩ := h
      dsimp only at h1 h2 h3 h4 h5 h6 h7 h8 h9 h10
      have hT := h1.1.1
      exact jc_undo h4 (fun q => absurd q hi) (fun _ τ hf hK hR => ⟨rfl, jF_mono hf (fun c i q => by unfold kW_ro at q; unfold kW_c; omega), ⟨(show ku_CG τ T g from ku_CG_fr2 h1 hf (fun  q => by unfold kW_ro at q; omega) (fun  q => by unfold kW_ro at q; omega) (fun c i q1 q => by unfold kW_ro at q; omega)), hK, kn_C_fr h3 hf (fun a i a1 a2 q => by unfold kW_ro at q; omega), hR, ⟨(hf.1 _ _ (fun  q => by unfold kW_ro at q; omega)).trans h5, fun q0 => kz_C_fr (h6 q0) hf (fun i q => by unfold kW_ro at q; omega) (fun i q => by unfold kW_ro at q; omega)⟩, kx_tp_fr h7 hf (fun  q => by unfold kW_ro at q; omega) (fun i q => by unfold kW_ro at q; omega), ⟨(hf.1 _ _ (fun  q => by unfold kW_ro at q; omega)).trans h8, (hf.1 _ _ (fun  q => by unfold kW_ro at q; omega)).trans h9⟩, kx_lr_fr h10 hf (fun a i a1 a2 q => by unfold kW_ro at q; omega)⟩⟩)
    · obtain ⟨h1, h2, h3, h4, ⟨h5, h6⟩, h7, ⟨h8, h9⟩, h10⟩ := h
      dsimp only at h1 h2 h3 h4 h5 h6 h7 h8 h9 h10
      exact jm_undo h4 (fun q => absurd q hi) (fun _ τ hf v2 hK hR => ⟨rfl, jF_mono hf (fun c i q => by unfold kW_tw at q; unfold kW_m; omega), ⟨ku_MG_fr h1 hf (fun c i q1 q => by unfold kW_mg kW_m0 at q1; unfold kW_tw at q; omega), hK, kn_M_fr h3 hf (fun i q => by unfold kW_tw at q; omega) (fun  q => by unfold kW_tw at q; omega) (fun  q => by unfold kW_tw at q; omega), hR, ⟨(hf.1 _ _ (fun  q => by unfold kW_tw at q; omega)).trans h5, fun q0 => kz_M_fr (h6 q0) hf (fun i q => by unfold kW_tw at q; omega)⟩, kx_tp_fr h7 hf (fun  q => by unfold kW_tw at q; omega) (fun i q => by unfold kW_tw at q; omega), ⟨(hf.1 _ _ (fun  q => by unfold kW_tw at q; omega)).trans h8, (hf.1 _ _ (fun  q => by unfold kW_tw at q; omega)).trans h9⟩, kt_Wd_fr h10 hf (fun i q => by unfold kW_tw at q; omega)⟩⟩)
theorem kx_read (hP : kx_P S) (hx : jr x) : kx_T S 4 2 mm_X11_read mm_X12_read [.int (.ofInt x)] := by
  by_cases hm : kv_may S.1.2 x
  · cases ht : kr_take S.1.2 x S.2.1.1 with
    | none =>
      exact kx_q2 (z := -2) (Wc := kW_ro 90) (Wm := fun c i => kW_ge c i ∨ kW_co c i) hP
        (fun σ h KI kk => jc_read h.1 h.2.1 hP.1 h.2.2.2.1 hx (fun q => absurd hm q) (fun _ _ τ hf => kk τ hf) (fun _ b d K' q => by rw [ht] at q; cases q))
        (fun σ h KI kk => jm_read h.1 h.2.1 hP.1 h.2.2.2.1 hx (fun q => absurd hm q) (fun _ _ τ hf _ => kk τ hf) (fun _ b d K' q => by rw [ht] at q; cases q)) kx_hc_90 (fun c i q => q.elim (kx_hm_ge c i) (kx_hm_co c i))
    | some r =>
      obtain ⟨b, d, K'⟩ := r
      obtain ⟨⟨T, g⟩, ⟨K, rd, tk⟩, N, ⟨c, hh⟩, ⟨I, im⟩, B, F, P, fed⟩ := S
      obtain ⟨p1, ⟨p2, p3⟩, p4, ⟨p5, p6⟩, p7, p8, p9, p10⟩ := hP
      dsimp only at p1 p2 p3 p4 p5 p6 p7 p8 p9 p10
      dsimp only at hm ht
      have hK' : kr_OK g K' := by
        obtain ⟨n4, nF⟩ := p9.2 hm.2
        have hok : kr_ok g K := by rcases p1 with q | q; (· omega); exact q.2
        exact Or.inr ⟨n4, (kr_tk_ok p9.1.1.1 nF ⟨hm.1.1, by have := hm.1.2; omega⟩ hok ht).1⟩
      refine ⟨(d : Nat), ((T, g), (K', rd + (d : Nat), tk + 1), N, (min (c + 1) 20, kz_ph c hh (K, rd, tk)), (I, im), B, F, P, fed), ⟨hK', ⟨p2, p3⟩, fun i hi => ?_, ⟨p5, p6⟩, p7, p8, p9, by dsimp only; omega⟩, fun σ h => ?_, fun σ h => ?_⟩
      · dsimp only at hi ⊢
        unfold kz_ph
        by_cases hc : c < 20
        · rw [if_pos hc]
          by_cases hic : i = c
          · rw [if_pos hic]; exact p1
          · rw [if_neg hic]; exact p4 i (by omega)
        · rw [if_neg hc]
          by_cases hic : i = 19
          · rw [if_pos hic]; exact p1
          · rw [if_neg hic]
            exact p4 (i + 1) (by omega)
      · obtain ⟨h1, h2, h3, h4, ⟨h5, h6⟩, h7, ⟨h8, h9⟩, h10⟩ := h
        dsimp only at h1 h2 h3 h4 h5 h6 h7 h8 h9 h10
        have hT := h1.1.1
        exact jc_read h1 h2 p1 h4 hx (fun q => absurd hm q) (fun _ q => by rw [ht] at q; cases q) (fun _ b2 d2 K2 q τ hf hK hR => by
          rw [ht] at q
          cases q
          exact ⟨rfl, jF_mono hf (fun c i q => by unfold kW_rc kW_ro kW_ra at q; unfold kW_c; omega), ⟨(show ku_CG τ T g from ku_CG_fr2 h1 hf (fun  q => by unfold kW_rc kW_ro kW_ra at q; omega) (fun  q => by unfold kW_rc kW_ro kW_ra at q; omega) (fun c i q1 q => by unfold kW_rc kW_ro kW_ra at q; omega)), hK, kn_C_fr h3 hf (fun a i a1 a2 q => by unfold kW_rc kW_ro kW_ra at q; omega), hR, ⟨(hf.1 _ _ (fun  q => by unfold kW_rc kW_ro kW_ra at q; omega)).trans h5, fun q0 => kz_C_fr (h6 q0) hf (fun i q => by unfold kW_rc kW_ro kW_ra at q; omega) (fun i q => by unfold kW_rc kW_ro kW_ra at q; omega)⟩, kx_tp_fr h7 hf (fun  q => by unfold kW_rc kW_ro kW_ra at q; omega) (fun i q => by unfold kW_rc kW_ro kW_ra at q; omega), ⟨(hf.1 _ _ (fun  q => by unfold kW_rc kW_ro kW_ra at q; omega)).trans h8, (hf.1 _ _ (fun  q => by unfold kW_rc kW_ro kW_ra at q; omega)).trans h9⟩, kx_lr_fr h10 hf (fun a i a1 a2 q => by unfold kW_rc kW_ro kW_ra at q; omega)⟩⟩)
      · obtain ⟨h1, h2, h3, h4, ⟨h5, h6⟩, h7, ⟨h8, h9⟩, h10⟩ := h
        dsimp only at h1 h2 h3 h4 h5 h6 h7 h8 h9 h10
        exact jm_read h1 h2 p1 h4 hx (fun q => absurd hm q) (fun _ q => by rw [ht] at q; cases q) (fun _ b2 d2 K2 q τ hf v2 hK hR => by
          rw [ht] at q
          cases q
          exact ⟨rfl, jF_mono hf (fun c i q => by unfold kW_rm kW_ge kW_co kW_rb kW_tw at q; unfold kW_m; omega), ⟨ku_MG_fr h1 hf (fun c i q1 q => by unfold kW_mg kW_m0 at q1; unfold kW_rm kW_ge kW_co kW_rb kW_tw at q; omega), hK, kn_M_fr h3 hf (fun i q => by unfold kW_rm kW_ge kW_co kW_rb kW_tw at q; omega) (fun  q => by unfold kW_rm kW_ge kW_co kW_rb kW_tw at q; omega) (fun  q => by unfold kW_rm kW_ge kW_co kW_rb kW_tw at q; omega), hR, ⟨(hf.1 _ _ (fun  q => by unfold kW_rm kW_ge kW_co kW_rb kW_tw at q; omega)).trans h5, fun q0 => kz_M_fr (h6 q0) hf (fun i q => by unfold kW_rm kW_ge kW_co kW_rb kW_tw at q; omega)⟩, kx_tp_fr h7 hf (fun  q => by unfold kW_rm kW_ge kW_co kW_rb kW_tw at q; omega) (fun i q => by unfold kW_rm kW_ge kW_co kW_rb kW_tw at q; omega), ⟨(hf.1 _ _ (fun  q => by unfold kW_rm kW_ge kW_co kW_rb kW_tw at q; omega)).trans h8, (hf.1 _ _ (fun  q => by unfold kW_rm kW_ge kW_co kW_rb kW_tw at q; omega)).trans h9⟩, kt_Wd_fr h10 hf (fun i q => by unfold kW_rm kW_ge kW_co kW_rb kW_tw at q; omega)⟩⟩)
  · exact kx_same (z := -1) hP (fun σ h KI kk => jc_read h.1 h.2.1 hP.1 h.2.2.2.1 hx (fun _ => kk) (fun q => absurd q hm) (fun q => absurd q hm)) (fun σ h KI kk => jm_read h.1 h.2.1 hP.1 h.2.2.2.1 hx (fun _ => kk) (fun q => absurd q hm) (fun q => absurd q hm))
end KXB
