/-! A TEXT, on both sides -/
section KXC
variable {σ τ : jg_M} {S : kx_S} {x : Int}
theorem kt_tx_ok {B : Nat → Int} {n : Nat} : ∀ {f : Nat} {l : Int} {g : gM} {p : Nat} {g' : gM} {l' : Int}, kt_ok g → p ≤ n → kt_tx B n f l g p = .inr (g', l') → kt_ok g'
  | 0, _, _, _, _, _, _, _, h => by cases h
  | f + 1, l, g, p, g', l', hok, hp, h => by
    unfold kt_tx at h
    split at h
    · cases h; exact hok
    · split at h
      · cases h
      · rename_i g2 p2 h2
        have q := kt_li_ok hok hp h2
        exact kt_tx_ok q.1 q.2.2 h
theorem kx_G_of {g : gM} (h : kt_ok g) (hq : g 0 1 = 0 ∨ (0 < g 0 1 ∧ ∃ S, jn_all g = some S)) : kx_G g ∧ kr_OK g (kr_I g) := by
  have hw := h.1.1.1
  have hF : 0 < g 0 1 → jn_FP g (kg_S g) := fun h0 => by
    rcases hq with q | ⟨_, S, q⟩
    · omega
    · have := jn_all_FP h.1.1 q
      rw [kg_S_eq q] at this
      exact this
  refine ⟨⟨h, fun hn => ?_⟩, ?_⟩
  · have h0 : 0 < g 0 1 := by
      unfold ku_n at hn
      by_cases e : g 0 1 = 0
      · rw [if_pos e] at hn; omega
      · omega
    exact ⟨h0, hF h0⟩
  · unfold kr_I
    by_cases e : g 0 1 = 0
    · rw [if_pos e]; exact Or.inl ⟨e, rfl⟩
    · rw [if_neg e]; exact Or.inr ⟨by omega, kr_K0_ok (hF (by omega))⟩
theorem kx_text (hP : kx_P S) (hx : jr x) : kx_T S 7 7 mm_X11_text mm_X12_text [.int (.ofInt x)] := by
  by_cases hin : 0 ≤ x ∧ x ≤ S.2.2.2.2.2.2.2.2
  · obtain ⟨⟨T, g⟩, ⟨K, rd, tk⟩, N, ⟨c, hh⟩, ⟨I, im⟩, B, F, P, fed⟩ := S
    obtain ⟨p1, ⟨p2, p3⟩, p4, ⟨p5, p6⟩, p7, p8, p9, p10⟩ := hP
    dsimp only at p1 p2 p3 p4 p5 p6 p7 p8 p9 p10
    dsimp only at hin
    -- refused: only the TAPE and the FAULT change
    have hno : ∀ (F' P' : Int), (∀ σ, kx_C σ ((T, g), (K, rd, tk), N, (c, hh), (I, im), B, F, P, fed) → jg_CI 141 7 mm_X11_text [.ref 0, .int (.ofInt x)] σ (fun z' τ => z' = -1 ∧ jF (kW_fl (30 - T)) σ τ ∧ τ.1 0 1 = 0 ∧ τ.1 2 0 = F' ∧ τ.1 2 1 = P')) → (∀ σ, kx_M σ ((T, g), (K, rd, tk), N, (c, hh), (I, im), B, F, P, fed) → jg_CI 141 7 mm_X12_text [.ref 92, .int (.ofInt x)] σ (fun z' τ => z' = -1 ∧ jF kW_tq σ τ ∧ τ.1 92 1 = 0 ∧ τ.1 92 4 = F' ∧ τ.1 92 5 = P')) → kx_T ((T, g), (K, rd, tk), N, (c, hh), (I, im), B, F, P, fed) 7 7 mm_X11_text mm_X12_text [.int (.ofInt x)] := fun F' P' hc hm => by
      refine ⟨-1, ((T, g), (K, rd, tk), N, (c, hh), (I, im), B, F', P', 0), ⟨p1, ⟨p2, p3⟩, p4, ⟨p5, p6⟩, p7, ⟨Int.le_refl 0, by show (0 : Int) ≤ 700; decide⟩, p9, p10⟩, fun σ h => ?_, fun σ h => ?_⟩
      · refine jg_CI.mono (hc σ h) (Nat.le_refl _) (fun z τ ⟨q1, hf, v1, v2, v3⟩ => ?_)
        obtain ⟨h1, h2, h3, h4, ⟨h5, h6⟩, h7, ⟨h8, h9⟩, h10⟩ := h
        dsimp only at h1 h2 h3 h4 h5 h6 h7 h8 h9 h10
        have hT := h1.1.1
        exact ⟨q1, jF_mono hf (fun c i q => by unfold kW_fl at q; unfold kW_c; omega), ⟨(show ku_CG τ T g from ku_CG_fr2 h1 hf (fun  q => by unfold kW_fl at q; omega) (fun  q => by unfold kW_fl at q; omega) (fun c i q1 q => by unfold kW_fl at q; omega)), kz_C_fr h2 hf (fun i q => by unfold kW_fl at q; omega) (fun i q => by unfold kW_fl at q; omega), kn_C_fr h3 hf (fun a i a1 a2 q => by unfold kW_fl at q; omega), kz_RC_fr h4 hf (fun a i a1 a2 q => by unfold kW_fl at q; omega), ⟨(hf.1 _ _ (fun  q => by unfold kW_fl at q; omega)).trans h5, fun q0 => kz_C_fr (h6 q0) hf (fun i q => by unfold kW_fl at q; omega) (fun i q => by unfold kW_fl at q; omega)⟩, ⟨v1, fun i q => by have q' : (i : Int) < 0 := q; omega⟩, ⟨v2, v3⟩, kx_lr_fr h10 hf (fun a i a1 a2 q => by unfold kW_fl at q; omega)⟩⟩
      · refine jg_CI.mono (hm σ h) (Nat.le_refl _) (fun z τ ⟨q1, hf, v1, v2, v3⟩ => ?_)
        obtain ⟨h1, h2, h3, h4, ⟨h5, h6⟩, h7, ⟨h8, h9⟩, h10⟩ := h
        dsimp only at h1 h2 h3 h4 h5 h6 h7 h8 h9 h10
        exact ⟨q1, jF_mono hf (fun c i q => by unfold kW_tq kW_tp kW_mp jW_lt jW_ef jW_ls jW_ac at q; unfold kW_m; omega), ⟨ku_MG_fr h1 hf (fun c i q1 q => by unfold kW_mg kW_m0 at q1; unfold kW_tq kW_tp kW_mp jW_lt jW_ef jW_ls jW_ac at q; omega), kz_N_fr h2 hf (fun i i0 i1 q => by unfold kW_tq kW_tp kW_mp jW_lt jW_ef jW_ls jW_ac at q; omega) (fun i q => by unfold kW_tq kW_tp kW_mp jW_lt jW_ef jW_ls jW_ac at q; omega), kn_M_fr h3 hf (fun i q => by unfold kW_tq kW_tp kW_mp jW_lt jW_ef jW_ls jW_ac at q; omega) (fun  q => by unfold kW_tq kW_tp kW_mp jW_lt jW_ef jW_ls jW_ac at q; omega) (fun  q => by unfold kW_tq kW_tp kW_mp jW_lt jW_ef jW_ls jW_ac at q; omega), kz_RM_fr h4 hf (fun  q => by unfold kW_tq kW_tp kW_mp jW_lt jW_ef jW_ls jW_ac at q; omega) (fun i q => by unfold kW_tq kW_tp kW_mp jW_lt jW_ef jW_ls jW_ac at q; omega), ⟨(hf.1 _ _ (fun  q => by unfold kW_tq kW_tp kW_mp jW_lt jW_ef jW_ls jW_ac at q; omega)).trans h5, fun q0 => kz_M_fr (h6 q0) hf (fun i q => by unfold kW_tq kW_tp kW_mp jW_lt jW_ef jW_ls jW_ac at q; omega)⟩, ⟨v1, fun i q => by have q' : (i : Int) < 0 := q; omega⟩, ⟨v2, v3⟩, kt_Wd_fr h10 hf (fun i q => by unfold kW_tq kW_tp kW_mp jW_lt jW_ef jW_ls jW_ac at q; omega)⟩⟩
    have hcC : ∀ σ, kx_C σ ((T, g), (K, rd, tk), N, (c, hh), (I, im), B, F, P, fed) → ∀ (KI : Int → jg_M → Prop),
        (∀ e pl, kt_tx B x.toNat 701 0 kt_g0 0 = .inl (e, pl) → ∀ τ, jF (kW_fl (30 - T)) σ τ → τ.1 0 1 = 0 → τ.1 2 0 = e → τ.1 2 1 = pl → KI (-1) τ) →
        (∀ g' l, kt_tx B x.toNat 701 0 kt_g0 0 = .inr (g', l) → 0 < g' 0 1 → jn_all g' = none → ∀ τ, jF (kW_fl (30 - T)) σ τ → τ.1 0 1 = 0 → τ.1 2 0 = 2 → τ.1 2 1 = x → KI (-1) τ) →
        (∀ g' l, kt_tx B x.toNat 701 0 kt_g0 0 = .inr (g', l) → (g' 0 1 = 0 ∨ (0 < g' 0 1 ∧ ∃ S, jn_all g' = some S)) → ∀ τ, jF (fun c i => kW_fl (30 - T) c i ∨ kW_ts c i) σ τ → (τ.1 0 1 = 0 ∧ τ.1 2 0 = 0 ∧ τ.1 2 1 = -1) → ku_CG τ (30 - T) g' → kr_Ro τ 65 (kr_I g') → (τ.1 65 3 = 0 ∧ τ.1 65 4 = 0 ∧ τ.1 69 0 = 0 ∧ τ.1 0 11 = 0) → (τ.1 74 0 = 0 ∧ τ.1 74 1 = -1 ∧ τ.1 78 0 = 0) → KI l τ) → jg_CI 141 7 mm_X11_text [.ref 0, .int (.ofInt x)] σ KI := fun σ h KI k0 k2 k1 => by
      obtain ⟨h1, h2, h3, h4, ⟨h5, h6⟩, h7, ⟨h8, h9⟩, h10⟩ := h
      dsimp only at h1 h2 h3 h4 h5 h6 h7 h8 h9 h10
      have hT := h1.1.1
      have e7 := h7.1
      exact jc_text (T := 30 - T) hx (by omega) (by rw [h1.1.2.1]; omega) (by rw [h1.1.2.2]; omega) (by omega) (fun i hi => h7.2 i (by omega)) p7 (fun q => absurd (by omega) q) (fun _ => k0) (fun _ => k2) (fun _ g' l e q _ => k1 g' l e q)
    have hmM : ∀ σ, kx_M σ ((T, g), (K, rd, tk), N, (c, hh), (I, im), B, F, P, fed) → ∀ (KI : Int → jg_M → Prop),
        (∀ e pl, kt_tx B x.toNat 701 0 kt_g0 0 = .inl (e, pl) → ∀ τ, jF kW_tq σ τ → (τ.1 92 1 = 0 ∧ τ.1 92 2 = 0) → τ.1 92 4 = e → τ.1 92 5 = pl → KI (-1) τ) →
        (∀ g' l, kt_tx B x.toNat 701 0 kt_g0 0 = .inr (g', l) → 0 < g' 0 1 → jn_all g' = none → ∀ τ, jF kW_tq σ τ → (τ.1 92 1 = 0 ∧ τ.1 92 2 = 0) → τ.1 92 4 = 2 → τ.1 92 5 = x → KI (-1) τ) →
        (∀ g' l, kt_tx B x.toNat 701 0 kt_g0 0 = .inr (g', l) → (g' 0 1 = 0 ∨ (0 < g' 0 1 ∧ ∃ S, jn_all g' = some S)) → ∀ τ, jF (fun c i => kW_tq c i ∨ kW_kt c i) σ τ → (τ.1 92 1 = 0 ∧ τ.1 92 2 = 0 ∧ τ.1 92 4 = 0 ∧ τ.1 92 5 = -1) → ku_MG τ g' → kr_No τ (kr_I g') → (τ.1 92 59 = 0 ∧ τ.1 92 60 = 0) → (τ.1 92 65 = 0 ∧ τ.1 92 66 = -1 ∧ τ.1 92 70 = 0 ∧ τ.1 92 72 = 0) → KI l τ) → jg_CI 141 7 mm_X12_text [.ref 92, .int (.ofInt x)] σ KI := fun σ h KI k0 k2 k1 => by
      obtain ⟨h1, h2, h3, h4, ⟨h5, h6⟩, h7, ⟨h8, h9⟩, h10⟩ := h
      dsimp only at h1 h2 h3 h4 h5 h6 h7 h8 h9 h10
      have e7 := h7.1
      exact jm_textAll hx (by omega) (fun i hi => h7.2 i (by omega)) p7 h10 (fun q => absurd (by omega) q) (fun _ => k0) (fun _ => k2) (fun _ g' l e q _ => k1 g' l e q)
    cases ht : kt_tx B x.toNat 701 0 kt_g0 0 with
    | inl e =>
      obtain ⟨e, pl⟩ := e
      refine hno e pl (fun σ h => hcC σ h _ (fun e' pl' q τ hf v1 v2 v3 => ?_) (fun g' l q => by rw [ht] at q; cases q) (fun g' l q => by rw [ht] at q; cases q)) (fun σ h => hmM σ h _ (fun e' pl' q τ hf v1 v2 v3 => ?_) (fun g' l q => by rw [ht] at q; cases q) (fun g' l q => by rw [ht] at q; cases q))
      · rw [ht] at q; cases q
        exact ⟨rfl, hf, v1, v2, v3⟩
      · rw [ht] at q; cases q
        exact ⟨rfl, hf, v1.1, v2, v3⟩
    | inr r =>
      obtain ⟨g', l⟩ := r
      by_cases hq : g' 0 1 = 0 ∨ (0 < g' 0 1 ∧ ∃ S, jn_all g' = some S)
      · have hok := kt_tx_ok kt_g0_ok (Nat.zero_le _) ht
        obtain ⟨hG', hI'⟩ := kx_G_of hok hq
        have hno2 : ∀ g2 l2, kt_tx B x.toNat 701 0 kt_g0 0 = .inr (g2, l2) → 0 < g2 0 1 → jn_all g2 = none → False := fun g2 l2 q q1 q2 => by
          rw [ht] at q
          cases q
          rcases hq with z | ⟨_, S, z⟩
          · omega
          · rw [q2] at z; cases z
        refine ⟨l, ((30 - T, g'), (kr_I g', 0, 0), ((0, -1), N.2), (0, hh), (I, 0), B, 0, -1, 0), ⟨hI', ⟨fun i q => absurd q (Nat.not_lt_zero i), by show (-1 : Int) ≤ ((0 : Nat) : Int); decide, fun i q => absurd q (Nat.not_lt_zero i)⟩, fun i q => absurd q (Nat.not_lt_zero i), ⟨Or.inl rfl, fun q => absurd rfl q⟩, p7, ⟨Int.le_refl 0, by show (0 : Int) ≤ 700; decide⟩, hG', Nat.zero_le _⟩, fun σ h => ?_, fun σ h => ?_⟩
        · refine hcC σ h _ (fun e' pl' q => by rw [ht] at q; cases q) (fun g2 l2 q q1 q2 => absurd (hno2 g2 l2 q q1 q2) id) (fun g2 l2 q _ τ hf v hCG hRo v2 v3 => ?_)
          rw [ht] at q
          cases q
          obtain ⟨h1, h2, h3, h4, ⟨h5, h6⟩, h7, ⟨h8, h9⟩, h10⟩ := h
          dsimp only at h1 h2 h3 h4 h5 h6 h7 h8 h9 h10
          have hT := h1.1.1
          exact ⟨rfl, jF_mono hf (fun c i q => by unfold kW_fl kW_ts at q; unfold kW_c; omega), hCG, ⟨hRo, v2.1, v2.2.1⟩, ⟨⟨v3.1, by show (0 : Nat) ≤ 24; decide⟩, ⟨v3.2.1, by show (-1 : Int) ≤ -1; decide, by show (-1 : Int) ≤ 24; decide⟩, fun i q => absurd q (Nat.not_lt_zero i)⟩, kx_R0 h4 (hf.1 _ _ (fun q => by unfold kW_fl kW_ts at q; omega)) v2.2.2.1, ⟨v2.2.2.2, fun q => absurd rfl q⟩, ⟨v.1, fun i q => by have q' : (i : Int) < 0 := q; omega⟩, ⟨v.2.1, v.2.2⟩, Or.inl v3.2.2⟩
        · refine hmM σ h _ (fun e' pl' q => by rw [ht] at q; cases q) (fun g2 l2 q q1 q2 => absurd (hno2 g2 l2 q q1 q2) id) (fun g2 l2 q _ τ hf v hMG hNo v2 v3 => ?_)
          rw [ht] at q
          cases q
          obtain ⟨h1, h2, h3, h4, ⟨h5, h6⟩, h7, ⟨h8, h9⟩, h10⟩ := h
          dsimp only at h1 h2 h3 h4 h5 h6 h7 h8 h9 h10
          exact ⟨rfl, jF_mono hf (fun c i q => by unfold kW_tq kW_tp kW_mp jW_lt jW_ef jW_ls jW_ac kW_kt at q; unfold kW_m; omega), hMG, ⟨hNo, v2.2, v2.1⟩, ⟨⟨v3.1, by show (0 : Nat) ≤ 24; decide⟩, ⟨v3.2.1, by show (-1 : Int) ≤ -1; decide, by show (-1 : Int) ≤ 24; decide⟩, fun i q => absurd q (Nat.not_lt_zero i)⟩, ⟨⟨v3.2.2.1, Nat.zero_le _⟩, fun i q => absurd q (Nat.not_lt_zero i)⟩, ⟨v3.2.2.2, fun q => absurd rfl q⟩, ⟨v.1, fun i q => by have q' : (i : Int) < 0 := q; omega⟩, ⟨v.2.2.1, v.2.2.2⟩, kt_Wd_fr h10 hf (fun i q => by unfold kW_tq kW_tp kW_mp jW_lt jW_ef jW_ls jW_ac kW_kt at q; omega)⟩
      · have hnone : 0 < g' 0 1 ∧ jn_all g' = none := by
          have hw := (kt_tx_ok kt_g0_ok (Nat.zero_le _) ht).1.1.1
          have h0 : 0 < g' 0 1 := by
            by_cases z : g' 0 1 = 0
            · exact absurd (Or.inl z) hq
            · omega
          refine ⟨h0, ?_⟩
          cases hj : jn_all g' with
          | none => rfl
          | some S => exact absurd (Or.inr ⟨h0, S, hj⟩) hq
        refine hno 2 x (fun σ h => hcC σ h _ (fun e' pl' q => by rw [ht] at q; cases q) (fun g2 l2 q _ _ τ hf v1 v2 v3 => ⟨rfl, hf, v1, v2, v3⟩) (fun g2 l2 q q1 => ?_)) (fun σ h => hmM σ h _ (fun e' pl' q => by rw [ht] at q; cases q) (fun g2 l2 q _ _ τ hf v1 v2 v3 => ⟨rfl, hf, v1.1, v2, v3⟩) (fun g2 l2 q q1 => ?_))
        · rw [ht] at q; cases q; exact absurd q1 hq
        · rw [ht] at q; cases q; exact absurd q1 hq
  · refine kx_same (z := -2) hP (fun σ h KI kk => ?_) (fun σ h KI kk => ?_)
    · have e7 := h.2.2.2.2.2.1.1
      have hT := h.1.1.1
      have p8 := hP.2.2.2.2.2.1
      exact jc_text (T := 30 - S.1.1) hx (by omega) (by rw [h.1.1.2.1]; omega) (by rw [h.1.1.2.2]; omega) (by omega) (fun i hi => h.2.2.2.2.2.1.2 i (by omega)) hP.2.2.2.2.1 (fun _ => kk) (fun q => absurd (by omega) hin) (fun q => absurd (by omega) hin) (fun q => absurd (by omega) hin)
    · have e7 := h.2.2.2.2.2.1.1
      have p8 := hP.2.2.2.2.2.1
      exact jm_textAll hx (by omega) (fun i hi => h.2.2.2.2.2.1.2 i (by omega)) hP.2.2.2.2.1 h.2.2.2.2.2.2.2 (fun _ => kk) (fun q => absurd (by omega) hin) (fun q => absurd (by omega) hin) (fun q => absurd (by omega) hin)
end KXC
