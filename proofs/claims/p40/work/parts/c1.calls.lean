/-! Each call that changes what the desk knows, by itself -/
def kc_T (S : kx_S) (dc : Nat) (Mc : mj_Inf) (As : List Value) (z : Int) (S' : kx_S) : Prop := kx_P S' ∧ ∀ σ, kx_C σ S → jg_CI 92 dc Mc (.ref 0 :: As) σ (fun z' τ => z' = z ∧ jF kW_c σ τ ∧ kx_C τ S')
section KCA
variable {σ τ : jg_M} {S : kx_S} {x y k s t r x1 x2 x3 x4 x5 rd tk F P fed im : Int} {T c : Nat} {g : gM} {K : kr_K} {N : kn_N} {hh : kz_H} {I : kr_K × Int × Int} {B : Nat → Int}
theorem kc_q {dc : Nat} {Mc : mj_Inf} {As : List Value} {z : Int} (hP : kx_P S) (h1 : ∀ σ, kx_C σ S → ∀ KI : Int → jg_M → Prop, KI z σ → jg_CI 92 dc Mc (.ref 0 :: As) σ KI) : kc_T S dc Mc As z S :=
  ⟨hP, fun σ h => h1 σ h _ ⟨rfl, jF_rf, h⟩⟩
theorem kc_q2 {dc : Nat} {Mc : mj_Inf} {As : List Value} {z : Int} {Wc : Nat → Int → Prop} (hP : kx_P S) (h1 : ∀ σ, kx_C σ S → ∀ KI : Int → jg_M → Prop, (∀ τ, jF Wc σ τ → KI z τ) → jg_CI 92 dc Mc (.ref 0 :: As) σ KI) (hc : ∀ σ, kx_C σ S → ∀ c i, Wc c i → c < 92 ∧ ¬ kx_wc S.1.1 c i) : kc_T S dc Mc As z S :=
  ⟨hP, fun σ h => h1 σ h _ (fun τ hf => ⟨rfl, jF_mono hf (fun c i q => (hc σ h c i q).1), kx_C_fr h hf (fun c i q1 q2 => (hc σ h c i q2).2 q1)⟩)⟩
theorem kc_rule (hP : kx_P S) (hx : jr x) (hy : jr y) : kc_T S 3 mm_X11_rule [.int (.ofInt x), .int (.ofInt y)] (kv_rule S.1.2 x y) S := kc_q hP (fun σ h KI k => jc_rule h.1 hx hy k)
theorem kc_state (hP : kx_P S) (hx : jr x) (hy : jr y) : kc_T S 3 mm_X11_state [.int (.ofInt x), .int (.ofInt y)] (kv_state S.1.2 x y) S := kc_q hP (fun σ h KI k => jc_state h.1 hx hy k)
theorem kc_action (hP : kx_P S) (hx : jr x) (hy : jr y) : kc_T S 2 mm_X11_action [.int (.ofInt x), .int (.ofInt y)] (kv_action S.1.2 x y) S := kc_q hP (fun σ h KI k => jc_action h.1 hx hy k)
theorem kc_look (hP : kx_P S) (hx : jr x) (hy : jr y) : kc_T S 2 mm_X11_look [.int (.ofInt x), .int (.ofInt y)] (kv_look S.1.2 x y) S := kc_q hP (fun σ h KI k => jc_look h.1 hx hy k)
theorem kc_after (hP : kx_P S) (hx : jr x) (hy : jr y) : kc_T S 2 mm_X11_after [.int (.ofInt x), .int (.ofInt y)] (kv_after S.1.2 x y) S := kc_q hP (fun σ h KI k => jc_after h.1 hx hy k)
theorem kc_conflicts (hP : kx_P S) : kc_T S 2 mm_X11_conflicts [] (kv_confs S.1.2) S := kc_q hP (fun σ h KI k => jc_conflicts h.1 k)
theorem kc_conflict (hP : kx_P S) (hx : jr x) (hy : jr y) : kc_T S 2 mm_X11_conflict [.int (.ofInt x), .int (.ofInt y)] (kv_conf S.1.2 x y) S := kc_q hP (fun σ h KI k => jc_conflict h.1 hx hy k)
theorem kc_shortest (hP : kx_P S) (hx : jr x) (hy : jr y) : kc_T S 1 mm_X11_shortest [.int (.ofInt x), .int (.ofInt y)] (kv_short S.1.2 x y) S := kc_q hP (fun σ h KI k => jc_shortest h.1 hx hy k)
theorem kc_stack (hP : kx_P S) (hx : jr x) : kc_T S 1 mm_X11_stack [.int (.ofInt x)] (kv_stack S.1.2 S.2.1.1 x) S := kc_q hP (fun σ h KI k => jc_stack h.1 h.2.1.1 hP.1 hx k)
theorem kc_count (hP : kx_P S) (hx : jr x) : kc_T S 4 mm_X11_count [.int (.ofInt x)] (kv_count S.1.2 S.2.1.1 S.2.1.2.1 S.2.1.2.2 S.2.2.1 S.2.2.2.1.1 x) S := kc_q hP (fun σ h KI k => jc_count h.1 h.2.1 h.2.2.1 h.2.2.2.1 hx k)
theorem kc_relations (hP : kx_P S) (hx : jr x) : kc_T S 4 mm_X11_relations [.int (.ofInt x)] (kv_rel S.1.2 x) S := kc_q2 (Wc := kW_rg) hP (fun σ h KI k => jc_relations h.1 hx k) (fun σ h c i q => by
  have hT := h.1.1.1
  exact ⟨by unfold kW_rg at q; omega, fun q1 => by unfold kx_wc at q1; unfold kW_rg at q; omega⟩)
theorem kc_whole (hP : kx_P S) : kc_T S 4 mm_X11_whole [] (kv_whole S.1.2 S.2.1.1) S := kc_q2 (Wc := kW_ro 90) hP (fun σ h KI k => jc_whole h.1 h.2.1.1 hP.1 k) kx_hc_90
theorem kc_expected (hP : kx_P S) : kc_T S 4 mm_X11_expected [] ((kv_ex S.1.2 S.2.1.1 (S.1.2 0 0).toNat : Nat) : Int) S := kc_q2 (Wc := kW_ro 90) hP (fun σ h KI k => jc_expected h.1 h.2.1.1 hP.1 k) kx_hc_90
theorem kc_game (hP : kx_P S) (hx : jr x) (hy : jr y) : kc_T S 13 mm_X11_game [.int (.ofInt x), .int (.ofInt y)] (kv_game S.1.2 S.2.1.1 x y) S := kc_q2 (Wc := kW_la) hP (fun σ h KI k => jc_game h.1 h.2.1.1 hP.1 hx hy k) (fun σ h c i q => by
  have hT := h.1.1.1
  exact ⟨by unfold kW_la at q; omega, fun q1 => by unfold kx_wc at q1; unfold kW_la at q; omega⟩)
theorem kc_sentences (hP : kx_P S) (hx : jr x) : kc_T S 13 mm_X11_sentences [.int (.ofInt x)] (kv_sents S.1.2 x) S := kc_q2 (Wc := kW_lo 92) hP (fun σ h KI k => jc_sentences h.1 hx k) (fun σ h c i q => by
  have hT := h.1.1.1
  exact ⟨by unfold kW_lo at q; omega, fun q1 => by unfold kx_wc at q1; unfold kW_lo at q; omega⟩)
theorem kc_tried (hP : kx_P S) (hx : jr x) (hy : jr y) : kc_T S 6 mm_X11_tried [.int (.ofInt x), .int (.ofInt y)] (kv_tried S.1.2 x y) S := kc_q2 (Wc := kW_td (30 - S.1.1)) hP (fun σ h KI k => jc_tried h.1 hx hy k) (fun σ h c i q => by
  have hT := h.1.1.1
  exact ⟨by unfold kW_td at q; omega, fun q1 => by unfold kx_wc at q1; unfold kW_td at q; omega⟩)
theorem jc_kind {w : Nat} {KI : Int → jg_M → Prop} (h : ku_CG σ T g) (hx : 0 ≤ x ∧ x < g 0 1) (hy : y = 0 ∨ y = 1 ∨ y = 2 ∨ y = 4) (hk : KI (kv_kind g x y) σ) : jg_CI w 3 mm_X11_kind [.ref 0, .int (.ofInt x), .int (.ofInt y)] σ KI := by
  have sh := ku_sh h.1.1
  have hw := h.2.1.1.1.1.1
  have hjx : jr x := by omega
  refine jb_X11_kind_0 rfl ?_
  rw [h.1.2.1]
  intro r er
  obtain rfl : r = T := by omega
  refine ⟨sh.1, jc_X0_hasKind sh.2.2 h.2.2.1.1.1 h.2.1.1.1.1 hjx ?_⟩
  rw [jn_b_t hx, if_neg (by decide), jr_wr hjx, jr_wr (show jr y by omega)]
  have hin : 0 ≤ x ∧ x < 5 := by omega
  rcases hy with rfl | rfl | rfl | rfl
  · rw [if_pos rfl]
    refine jc_X0_isEmpty sh.2.2 h.2.2.1.1.2.1 h.2.2.1.1.2.2.2.1 hjx ?_
    rcases jn_b_01 (jn_E (kg_e g) x) with q | q
    · rw [q, if_pos (show jg_wr 0 = 0 from rfl)]
      unfold kv_kind at hk
      rw [if_pos rfl, q] at hk
      exact hk
    · rw [q, if_neg (by decide)]
      unfold kv_kind at hk
      rw [if_pos rfl, q] at hk
      exact hk
  · rw [if_neg (by decide), if_pos rfl]
    refine ⟨hin, ?_⟩
    rw [h.2.2.1.1.2.2.1 x hin.1 hin.2]
    exact hk
  · rw [if_neg (by decide), if_neg (by decide), if_pos rfl]
    refine ⟨hin, ?_⟩
    rw [h.2.2.1.2.1 x hin.1 hin.2]
    exact hk
  · rw [if_neg (by decide), if_neg (by decide), if_neg (by decide), if_neg (by decide), if_pos rfl]
    refine ⟨hin, ?_⟩
    obtain ⟨hwd, h40⟩ := h.2.2.2.2.1.1 (by omega) x hin.1 (by omega)
    have e1 : σ.1 (0 + 55 + 1) x = kv_lenS (ka_VK g x) := by
      rcases ka_wd_val hwd with ⟨z1, z2, z3, z4⟩ | ⟨z1, z2, z3⟩
      · rw [z4]; exact z2
      · exact z3.symm
    rw [e1]
    exact hk
theorem kc_kind (hP : kx_P S) (hx : 0 ≤ x ∧ x < S.1.2 0 1) (hy : y = 0 ∨ y = 1 ∨ y = 2 ∨ y = 4) : kc_T S 3 mm_X11_kind [.int (.ofInt x), .int (.ofInt y)] (kv_kind S.1.2 x y) S := kc_q hP (fun σ h KI k => jc_kind h.1 hx hy k)
theorem kc_feed (hP : kx_P ((T, g), (K, rd, tk), N, (c, hh), (I, im), B, F, P, fed)) (hfit : fed + 20 ≤ 700) : kc_T ((T, g), (K, rd, tk), N, (c, hh), (I, im), B, F, P, fed) 1 mm_X11_feed [.int (.ofInt x1), .int (.ofInt x2), .int (.ofInt x3), .int (.ofInt x4), .int (.ofInt x5)] (fed + 20) ((T, g), (K, rd, tk), N, (c, hh), (I, im), kx_fb B fed.toNat x1 x2 x3 x4 x5, F, P, fed + 20) := by
  obtain ⟨p1, ⟨p2, p3⟩, p4, ⟨p5, p6⟩, p7, p8, p9, p10⟩ := hP
  dsimp only at p1 p2 p3 p4 p5 p6 p7 p8 p9 p10
  skip
  refine ⟨⟨p1, ⟨p2, p3⟩, p4, ⟨p5, p6⟩, fun j => ?_, by dsimp only; omega, p9, p10⟩, fun σ h => ?_⟩
  · dsimp only
    unfold kx_fb
    split
    · exact p7 j
    · split
      · exact ku_by_rng
      · decide
  · obtain ⟨h1, h2, h3, h4, ⟨h5, h6⟩, h7, ⟨h8, h9⟩, h10⟩ := h
    dsimp only at h1 h2 h3 h4 h5 h6 h7 h8 h9 h10
    have hT := h1.1.1
    have e7 := h7.1
    refine jc_feed (by omega) (fun q => by omega) (fun _ τ hf v1 vb => ⟨by omega, jF_mono hf (fun c i q => by unfold kW_c; omega), ⟨(show ku_CG τ T g from ku_CG_fr2 h1 hf (fun  q => by omega) (fun  q => by omega) (fun c i q1 q => by omega)), kz_C_fr h2 hf (fun i q => by omega) (fun i q => by omega), kn_C_fr h3 hf (fun a i a1 a2 q => by omega), kz_RC_fr h4 hf (fun a i a1 a2 q => by omega), ⟨(hf.1 _ _ (fun  q => by omega)).trans h5, fun q0 => kz_C_fr (h6 q0) hf (fun i q => by omega) (fun i q => by omega)⟩, ?_, ⟨(hf.1 _ _ (fun  q => by omega)).trans h8, (hf.1 _ _ (fun  q => by omega)).trans h9⟩, kx_lr_fr h10 hf (fun a i a1 a2 q => by omega)⟩⟩)
    rw [e7] at v1 vb hf
    refine ⟨v1, fun i hi => ?_⟩
    dsimp only at hi ⊢
    unfold kx_fb
    by_cases hl : i < fed.toNat
    · rw [if_pos hl, hf.1 _ _ (fun q => by omega)]
      exact h7.2 i (by omega)
    · rw [if_neg hl, if_pos (by omega)]
      have := vb (i - fed.toNat) (by omega)
      rw [show fed + ((i - fed.toNat : Nat) : Int) = (i : Int) by omega] at this
      exact this
theorem kc_note (hP : kx_P ((T, g), (K, rd, tk), N, (c, hh), (I, im), B, F, P, fed)) (hx : jr x) (hy : jr y) (hk : k = 0 ∨ k = 1) (hn : kp_new g N x y) : kc_T ((T, g), (K, rd, tk), N, (c, hh), (I, im), B, F, P, fed) 1 mm_X11_note [.int (.ofInt x), .int (.ofInt y), .int (.ofInt k)] (N.1.1 : Nat) ((T, g), (K, rd, tk), kn_add N (x, y, k), (c, hh), (I, im), B, F, P, fed) := by
  obtain ⟨p1, ⟨p2, p3⟩, p4, ⟨p5, p6⟩, p7, p8, p9, p10⟩ := hP
  dsimp only at p1 p2 p3 p4 p5 p6 p7 p8 p9 p10
  skip
  refine ⟨⟨p1, ⟨kp_N_add p2 hn.1 hk, ?_⟩, p4, ⟨p5, p6⟩, p7, p8, p9, p10⟩, fun σ h => ?_⟩
  · refine ⟨by have := p3.1; show N.1.2 ≤ ((N.1.1 + 1 : Nat) : Int); omega, fun i hi hneg => ?_⟩
    have hi' : i < N.1.1 + 1 := hi
    dsimp only at hneg ⊢
    by_cases hin : i = N.1.1
    · have e : (kn_add N (x, y, k)).2 i = (x, y, k) := if_pos hin
      rw [e] at hneg
      have hneg' : x < 0 := hneg
      have := hn.1.1.1
      omega
    · have e : (kn_add N (x, y, k)).2 i = N.2 i := if_neg hin
      rw [e] at hneg ⊢
      exact p3.2 i (by omega) hneg
  · obtain ⟨h1, h2, h3, h4, ⟨h5, h6⟩, h7, ⟨h8, h9⟩, h10⟩ := h
    dsimp only at h1 h2 h3 h4 h5 h6 h7 h8 h9 h10
    have hT := h1.1.1
    exact jc_note h1 h3 hx hy hk (fun q => absurd hn q) (fun _ τ hf hN => ⟨rfl, jF_mono hf (fun c i q => by unfold kW_no at q; unfold kW_c; omega), ⟨(show ku_CG τ T g from ku_CG_fr2 h1 hf (fun  q => by unfold kW_no at q; omega) (fun  q => by unfold kW_no at q; omega) (fun c i q1 q => by unfold kW_no at q; omega)), kz_C_fr h2 hf (fun i q => by unfold kW_no at q; omega) (fun i q => by unfold kW_no at q; omega), hN, kz_RC_fr h4 hf (fun a i a1 a2 q => by unfold kW_no at q; omega), ⟨(hf.1 _ _ (fun  q => by unfold kW_no at q; omega)).trans h5, fun q0 => kz_C_fr (h6 q0) hf (fun i q => by unfold kW_no at q; omega) (fun i q => by unfold kW_no at q; omega)⟩, kx_tp_fr h7 hf (fun  q => by unfold kW_no at q; omega) (fun i q => by unfold kW_no at q; omega), ⟨(hf.1 _ _ (fun  q => by unfold kW_no at q; omega)).trans h8, (hf.1 _ _ (fun  q => by unfold kW_no at q; omega)).trans h9⟩, kx_lr_fr h10 hf (fun a i a1 a2 q => by unfold kW_no at q; omega)⟩⟩)
theorem kc_strike (hP : kx_P ((T, g), (K, rd, tk), N, (c, hh), (I, im), B, F, P, fed)) (hx : jr x) (hn : (0 ≤ x ∧ x < (N.1.1 : Nat)) ∧ N.1.1 < 24) : kc_T ((T, g), (K, rd, tk), N, (c, hh), (I, im), B, F, P, fed) 1 mm_X11_strike [.int (.ofInt x)] (N.1.1 : Nat) ((T, g), (K, rd, tk), kn_add N (-1, x, 0), (c, hh), (I, im), B, F, P, fed) := by
  obtain ⟨p1, ⟨p2, p3⟩, p4, ⟨p5, p6⟩, p7, p8, p9, p10⟩ := hP
  dsimp only at p1 p2 p3 p4 p5 p6 p7 p8 p9 p10
  skip
  refine ⟨⟨p1, ⟨kp_N_strike p2 hn.1, ?_⟩, p4, ⟨p5, p6⟩, p7, p8, p9, p10⟩, fun σ h => ?_⟩
  · refine ⟨by have := p3.1; show N.1.2 ≤ ((N.1.1 + 1 : Nat) : Int); omega, fun i hi hneg => ?_⟩
    have hi' : i < N.1.1 + 1 := hi
    dsimp only at hneg ⊢
    by_cases hin : i = N.1.1
    · have e : (kn_add N (-1, x, 0)).2 i = (-1, x, 0) := if_pos hin
      rw [e]
      exact ⟨hn.1.1, by show x < (i : Int); omega⟩
    · have e : (kn_add N (-1, x, 0)).2 i = N.2 i := if_neg hin
      rw [e] at hneg ⊢
      exact p3.2 i (by omega) hneg
  · obtain ⟨h1, h2, h3, h4, ⟨h5, h6⟩, h7, ⟨h8, h9⟩, h10⟩ := h
    dsimp only at h1 h2 h3 h4 h5 h6 h7 h8 h9 h10
    have hT := h1.1.1
    exact jc_strike h3 hx (fun q => absurd hn q) (fun _ τ hf hN => ⟨rfl, jF_mono hf (fun c i q => by unfold kW_no at q; unfold kW_c; omega), ⟨(show ku_CG τ T g from ku_CG_fr2 h1 hf (fun  q => by unfold kW_no at q; omega) (fun  q => by unfold kW_no at q; omega) (fun c i q1 q => by unfold kW_no at q; omega)), kz_C_fr h2 hf (fun i q => by unfold kW_no at q; omega) (fun i q => by unfold kW_no at q; omega), hN, kz_RC_fr h4 hf (fun a i a1 a2 q => by unfold kW_no at q; omega), ⟨(hf.1 _ _ (fun  q => by unfold kW_no at q; omega)).trans h5, fun q0 => kz_C_fr (h6 q0) hf (fun i q => by unfold kW_no at q; omega) (fun i q => by unfold kW_no at q; omega)⟩, kx_tp_fr h7 hf (fun  q => by unfold kW_no at q; omega) (fun i q => by unfold kW_no at q; omega), ⟨(hf.1 _ _ (fun  q => by unfold kW_no at q; omega)).trans h8, (hf.1 _ _ (fun  q => by unfold kW_no at q; omega)).trans h9⟩, kx_lr_fr h10 hf (fun a i a1 a2 q => by unfold kW_no at q; omega)⟩⟩)
theorem kc_known (hP : kx_P ((T, g), (K, rd, tk), N, (c, hh), (I, im), B, F, P, fed)) (hx : jr x) (hn : -1 ≤ x ∧ x ≤ (N.1.1 : Nat)) : kc_T ((T, g), (K, rd, tk), N, (c, hh), (I, im), B, F, P, fed) 1 mm_X11_known [.int (.ofInt x)] 1 ((T, g), (K, rd, tk), kn_lim N x, (c, hh), (I, im), B, F, P, fed) := by
  obtain ⟨p1, ⟨p2, p3⟩, p4, ⟨p5, p6⟩, p7, p8, p9, p10⟩ := hP
  dsimp only at p1 p2 p3 p4 p5 p6 p7 p8 p9 p10
  skip
  refine ⟨⟨p1, ⟨kp_N_lim p2, ⟨hn.2, p3.2⟩⟩, p4, ⟨p5, p6⟩, p7, p8, p9, p10⟩, fun σ h => ?_⟩
  · obtain ⟨h1, h2, h3, h4, ⟨h5, h6⟩, h7, ⟨h8, h9⟩, h10⟩ := h
    dsimp only at h1 h2 h3 h4 h5 h6 h7 h8 h9 h10
    have hT := h1.1.1
    exact jc_known h3 hx (fun q => absurd hn q) (fun _ τ hf hN => ⟨rfl, jF_mono hf (fun c i q => by unfold kW_no at q; unfold kW_c; omega), ⟨(show ku_CG τ T g from ku_CG_fr2 h1 hf (fun  q => by unfold kW_no at q; omega) (fun  q => by unfold kW_no at q; omega) (fun c i q1 q => by unfold kW_no at q; omega)), kz_C_fr h2 hf (fun i q => by unfold kW_no at q; omega) (fun i q => by unfold kW_no at q; omega), hN, kz_RC_fr h4 hf (fun a i a1 a2 q => by unfold kW_no at q; omega), ⟨(hf.1 _ _ (fun  q => by unfold kW_no at q; omega)).trans h5, fun q0 => kz_C_fr (h6 q0) hf (fun i q => by unfold kW_no at q; omega) (fun i q => by unfold kW_no at q; omega)⟩, kx_tp_fr h7 hf (fun  q => by unfold kW_no at q; omega) (fun i q => by unfold kW_no at q; omega), ⟨(hf.1 _ _ (fun  q => by unfold kW_no at q; omega)).trans h8, (hf.1 _ _ (fun  q => by unfold kW_no at q; omega)).trans h9⟩, kx_lr_fr h10 hf (fun a i a1 a2 q => by unfold kW_no at q; omega)⟩⟩)
theorem kc_missing (hP : kx_P ((T, g), (K, rd, tk), N, (c, hh), (I, im), B, F, P, fed))  : kc_T ((T, g), (K, rd, tk), N, (c, hh), (I, im), B, F, P, fed) 14 mm_X11_missing [] (jn_mk (kp_mi g N) 12 : Nat) ((T, g), (K, rd, tk), N, (c, hh), (I, im), B, F, P, fed) := by
  have hP' := hP
  obtain ⟨p1, ⟨p2, p3⟩, p4, ⟨p5, p6⟩, p7, p8, p9, p10⟩ := hP
  dsimp only at p1 p2 p3 p4 p5 p6 p7 p8 p9 p10
  refine ⟨hP', fun σ h => ?_⟩
  · obtain ⟨h1, h2, h3, h4, ⟨h5, h6⟩, h7, ⟨h8, h9⟩, h10⟩ := h
    dsimp only at h1 h2 h3 h4 h5 h6 h7 h8 h9 h10
    have hT := h1.1.1
    exact jc_missing h1 h10 h3 p2 p3 (fun τ hf v0 hLC => ⟨rfl, jF_mono hf (fun c i q => by unfold kW_ln at q; unfold kW_c; omega), ⟨(show ku_CG τ T g from ku_CG_fr2 h1 hf (fun  q => by unfold kW_ln at q; omega) (fun  q => by unfold kW_ln at q; omega) (fun c i q1 q => by unfold kW_ln at q; omega)), kz_C_fr h2 hf (fun i q => by unfold kW_ln at q; omega) (fun i q => by unfold kW_ln at q; omega), kn_C_fr h3 hf (fun a i a1 a2 q => by unfold kW_ln at q; omega), kz_RC_fr h4 hf (fun a i a1 a2 q => by unfold kW_ln at q; omega), ⟨(hf.1 _ _ (fun  q => by unfold kW_ln at q; omega)).trans h5, fun q0 => kz_C_fr (h6 q0) hf (fun i q => by unfold kW_ln at q; omega) (fun i q => by unfold kW_ln at q; omega)⟩, kx_tp_fr h7 hf (fun  q => by unfold kW_ln at q; omega) (fun i q => by unfold kW_ln at q; omega), ⟨(hf.1 _ _ (fun  q => by unfold kW_ln at q; omega)).trans h8, (hf.1 _ _ (fun  q => by unfold kW_ln at q; omega)).trans h9⟩, Or.inr ⟨v0, hLC⟩⟩⟩)
theorem kc_keep (hP : kx_P ((T, g), (K, rd, tk), N, (c, hh), (I, im), B, F, P, fed))  : kc_T ((T, g), (K, rd, tk), N, (c, hh), (I, im), B, F, P, fed) 2 mm_X11_keep [] (K.1 : Nat) ((T, g), (K, rd, tk), N, (c, hh), ((K, rd, tk), 1), B, F, P, fed) := by
  obtain ⟨p1, ⟨p2, p3⟩, p4, ⟨p5, p6⟩, p7, p8, p9, p10⟩ := hP
  dsimp only at p1 p2 p3 p4 p5 p6 p7 p8 p9 p10
  have h40 := kr_OK_le p1
  refine ⟨⟨p1, ⟨p2, p3⟩, p4, ⟨Or.inr rfl, fun _ => p1⟩, p7, p8, p9, p10⟩, fun σ h => ?_⟩
  · obtain ⟨h1, h2, h3, h4, ⟨h5, h6⟩, h7, ⟨h8, h9⟩, h10⟩ := h
    dsimp only at h1 h2 h3 h4 h5 h6 h7 h8 h9 h10
    have hT := h1.1.1
    exact jc_keep h2 h40 (fun τ hf hI v1 => ⟨rfl, jF_mono hf (fun c i q => by unfold kW_ro at q; unfold kW_c; omega), ⟨(show ku_CG τ T g from ku_CG_fr2 h1 hf (fun  q => by unfold kW_ro at q; omega) (fun  q => by unfold kW_ro at q; omega) (fun c i q1 q => by unfold kW_ro at q; omega)), kz_C_fr h2 hf (fun i q => by unfold kW_ro at q; omega) (fun i q => by unfold kW_ro at q; omega), kn_C_fr h3 hf (fun a i a1 a2 q => by unfold kW_ro at q; omega), kz_RC_fr h4 hf (fun a i a1 a2 q => by unfold kW_ro at q; omega), ⟨v1, fun _ => hI⟩, kx_tp_fr h7 hf (fun  q => by unfold kW_ro at q; omega) (fun i q => by unfold kW_ro at q; omega), ⟨(hf.1 _ _ (fun  q => by unfold kW_ro at q; omega)).trans h8, (hf.1 _ _ (fun  q => by unfold kW_ro at q; omega)).trans h9⟩, kx_lr_fr h10 hf (fun a i a1 a2 q => by unfold kW_ro at q; omega)⟩⟩)
theorem kc_back (hP : kx_P ((T, g), (K, rd, tk), N, (c, hh), (I, im), B, F, P, fed)) (hi : ¬ im = 0) : kc_T ((T, g), (K, rd, tk), N, (c, hh), (I, im), B, F, P, fed) 2 mm_X11_back [] (I.1.1 : Nat) ((T, g), I, N, (0, hh), (I, im), B, F, P, fed) := by
  obtain ⟨p1, ⟨p2, p3⟩, p4, ⟨p5, p6⟩, p7, p8, p9, p10⟩ := hP
  dsimp only at p1 p2 p3 p4 p5 p6 p7 p8 p9 p10
  skip
  have h40 := kr_OK_le (p6 hi)
  refine ⟨⟨p6 hi, ⟨p2, p3⟩, fun i q => absurd q (Nat.not_lt_zero i), ⟨p5, p6⟩, p7, p8, p9, Nat.zero_le _⟩, fun σ h => ?_⟩
  · obtain ⟨h1, h2, h3, h4, ⟨h5, h6⟩, h7, ⟨h8, h9⟩, h10⟩ := h
    dsimp only at h1 h2 h3 h4 h5 h6 h7 h8 h9 h10
    have hT := h1.1.1
    exact jc_back (by rw [h5]; omega) (fun _ => h6 hi) h40 (fun q => absurd (h5.symm.trans q) hi) (fun _ τ hf hK v0 => ⟨rfl, jF_mono hf (fun c i q => by unfold kW_ro at q; unfold kW_c; omega), ⟨(show ku_CG τ T g from ku_CG_fr2 h1 hf (fun  q => by unfold kW_ro at q; omega) (fun  q => by unfold kW_ro at q; omega) (fun c i q1 q => by unfold kW_ro at q; omega)), hK, kn_C_fr h3 hf (fun a i a1 a2 q => by unfold kW_ro at q; omega), kx_R0 h4 (hf.1 _ _ (fun q => by unfold kW_ro at q; omega)) v0, ⟨(hf.1 _ _ (fun  q => by unfold kW_ro at q; omega)).trans h5, fun q0 => kz_C_fr (h6 q0) hf (fun i q => by unfold kW_ro at q; omega) (fun i q => by unfold kW_ro at q; omega)⟩, kx_tp_fr h7 hf (fun  q => by unfold kW_ro at q; omega) (fun i q => by unfold kW_ro at q; omega), ⟨(hf.1 _ _ (fun  q => by unfold kW_ro at q; omega)).trans h8, (hf.1 _ _ (fun  q => by unfold kW_ro at q; omega)).trans h9⟩, kx_lr_fr h10 hf (fun a i a1 a2 q => by unfold kW_ro at q; omega)⟩⟩)
theorem kc_undo (hP : kx_P ((T, g), (K, rd, tk), N, (c, hh), (I, im), B, F, P, fed)) (hi : ¬ c = 0) : kc_T ((T, g), (K, rd, tk), N, (c, hh), (I, im), B, F, P, fed) 2 mm_X11_undo [] ((c - 1 : Nat) : Int) ((T, g), hh (c - 1), N, (c - 1, hh), (I, im), B, F, P, fed) := by
  obtain ⟨p1, ⟨p2, p3⟩, p4, ⟨p5, p6⟩, p7, p8, p9, p10⟩ := hP
  dsimp only at p1 p2 p3 p4 p5 p6 p7 p8 p9 p10
  skip
  refine ⟨⟨p4 (c - 1) (by omega), ⟨p2, p3⟩, fun i q => p4 i (by dsimp only at q; omega), ⟨p5, p6⟩, p7, p8, p9, by dsimp only; omega⟩, fun σ h => ?_⟩
  · obtain ⟨h1, h2, h3, h4, ⟨h5, h6⟩, h7, ⟨h8, h9⟩, h10⟩ := h
    dsimp only at h1 h2 h3 h4 h5 h6 h7 h8 h9 h10
    have hT := h1.1.1
    exact jc_undo h4 (fun q => absurd q hi) (fun _ τ hf hK hR => ⟨rfl, jF_mono hf (fun c i q => by unfold kW_ro at q; unfold kW_c; omega), ⟨(show ku_CG τ T g from ku_CG_fr2 h1 hf (fun  q => by unfold kW_ro at q; omega) (fun  q => by unfold kW_ro at q; omega) (fun c i q1 q => by unfold kW_ro at q; omega)), hK, kn_C_fr h3 hf (fun a i a1 a2 q => by unfold kW_ro at q; omega), hR, ⟨(hf.1 _ _ (fun  q => by unfold kW_ro at q; omega)).trans h5, fun q0 => kz_C_fr (h6 q0) hf (fun i q => by unfold kW_ro at q; omega) (fun i q => by unfold kW_ro at q; omega)⟩, kx_tp_fr h7 hf (fun  q => by unfold kW_ro at q; omega) (fun i q => by unfold kW_ro at q; omega), ⟨(hf.1 _ _ (fun  q => by unfold kW_ro at q; omega)).trans h8, (hf.1 _ _ (fun  q => by unfold kW_ro at q; omega)).trans h9⟩, kx_lr_fr h10 hf (fun a i a1 a2 q => by unfold kW_ro at q; omega)⟩⟩)
theorem kc_read (hP : kx_P ((T, g), (K, rd, tk), N, (c, hh), (I, im), B, F, P, fed)) (hx : jr x) (hm : kv_may g x) {b : Bool} {d : Nat} {K' : kr_K} (ht : kr_take g x K = some (b, d, K')) : kc_T ((T, g), (K, rd, tk), N, (c, hh), (I, im), B, F, P, fed) 4 mm_X11_read [.int (.ofInt x)] (d : Nat) ((T, g), (K', rd + (d : Nat), tk + 1), N, (min (c + 1) 20, kz_ph c hh (K, rd, tk)), (I, im), B, F, P, fed) := by
  obtain ⟨p1, ⟨p2, p3⟩, p4, ⟨p5, p6⟩, p7, p8, p9, p10⟩ := hP
  dsimp only at p1 p2 p3 p4 p5 p6 p7 p8 p9 p10
  skip
  have hK' : kr_OK g K' := by
    obtain ⟨n4, nF⟩ := p9.2 hm.2
    have hok : kr_ok g K := by rcases p1 with q | q; (· omega); exact q.2
    exact Or.inr ⟨n4, (kr_tk_ok p9.1.1.1 nF ⟨hm.1.1, by have := hm.1.2; omega⟩ hok ht).1⟩
  refine ⟨⟨hK', ⟨p2, p3⟩, fun i hi => ?_, ⟨p5, p6⟩, p7, p8, p9, by dsimp only; omega⟩, fun σ h => ?_⟩
  · dsimp only at hi ⊢
    unfold kz_ph
    by_cases hc : c < 20
    · rw [if_pos hc]
      by_cases hic : i = c
      · rw [if_pos hic]; exact p1
      · rw [if_neg hic]; exact p4 i (by omega)
    · rw [if_neg hc]
      by_cases hic : i = 19
      · rw [if_pos hic]; exact p1
      · rw [if_neg hic]
        exact p4 (i + 1) (by omega)
  · obtain ⟨h1, h2, h3, h4, ⟨h5, h6⟩, h7, ⟨h8, h9⟩, h10⟩ := h
    dsimp only at h1 h2 h3 h4 h5 h6 h7 h8 h9 h10
    have hT := h1.1.1
    exact jc_read h1 h2 p1 h4 hx (fun q => absurd hm q) (fun _ q => by rw [ht] at q; cases q) (fun _ b2 d2 K2 q τ hf hK hR => by
      rw [ht] at q
      cases q
      exact ⟨rfl, jF_mono hf (fun c i q => by unfold kW_rc kW_ro kW_ra at q; unfold kW_c; omega), ⟨(show ku_CG τ T g from ku_CG_fr2 h1 hf (fun  q => by unfold kW_rc kW_ro kW_ra at q; omega) (fun  q => by unfold kW_rc kW_ro kW_ra at q; omega) (fun c i q1 q => by unfold kW_rc kW_ro kW_ra at q; omega)), hK, kn_C_fr h3 hf (fun a i a1 a2 q => by unfold kW_rc kW_ro kW_ra at q; omega), hR, ⟨(hf.1 _ _ (fun  q => by unfold kW_rc kW_ro kW_ra at q; omega)).trans h5, fun q0 => kz_C_fr (h6 q0) hf (fun i q => by unfold kW_rc kW_ro kW_ra at q; omega) (fun i q => by unfold kW_rc kW_ro kW_ra at q; omega)⟩, kx_tp_fr h7 hf (fun  q => by unfold kW_rc kW_ro kW_ra at q; omega) (fun i q => by unfold kW_rc kW_ro kW_ra at q; omega), ⟨(hf.1 _ _ (fun  q => by unfold kW_rc kW_ro kW_ra at q; omega)).trans h8, (hf.1 _ _ (fun  q => by unfold kW_rc kW_ro kW_ra at q; omega)).trans h9⟩, kx_lr_fr h10 hf (fun a i a1 a2 q => by unfold kW_rc kW_ro kW_ra at q; omega)⟩⟩)
theorem kc_noread (hP : kx_P S) (hx : jr x) (hm : kv_may S.1.2 x) (ht : kr_take S.1.2 x S.2.1.1 = none) : kc_T S 4 mm_X11_read [.int (.ofInt x)] (-2) S :=
  kc_q2 (z := -2) (Wc := kW_ro 90) hP (fun σ h KI kk => jc_read h.1 h.2.1 hP.1 h.2.2.2.1 hx (fun q => absurd hm q) (fun _ _ τ hf => kk τ hf) (fun _ b d K' q => by rw [ht] at q; cases q)) kx_hc_90
end KCA
