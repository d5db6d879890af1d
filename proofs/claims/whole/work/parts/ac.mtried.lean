/-! TRIED, in the model -/
def kW_mt2 (c : Nat) (i : Int) : Prop := jW_lt 1 c i ∨ jW_fo c i ∨ (c = 92 ∧ (i = 2 ∨ (33 ≤ i ∧ i ≤ 38)))
section KTB
variable {w : Nat} {σ τ : jg_M} {T T' G : Nat} {g : gM} {x y i : Int} {KV : jg_M → Prop} {KI : Int → jg_M → Prop}
theorem ku_MG_mt (h : ku_MG σ g) (hf : jF kW_mt2 σ τ) : ku_MG τ g := ku_MG_fr h hf (fun c i q1 q2 => by unfold kW_mg kW_m0 at q1; unfold kW_mt2 jW_lt jW_ef jW_ls jW_ac jW_fo at q2; omega)
theorem kt_v_Mb (h : jn_Mb σ 0 g) : jn_Mb σ 0 (kt_v g x i) := by
  unfold kt_v
  by_cases h0 : x = 0
  · rw [if_pos h0]; exact h
  · rw [if_neg h0]
    by_cases h1 : x = 1
    · rw [if_pos h1]; exact h
    · rw [if_neg h1]
      by_cases h2 : x = 2
      · rw [if_pos h2]; exact h
      · rw [if_neg h2]
        by_cases h3 : x = 3
        · rw [if_pos h3]; exact h
        · rw [if_neg h3]; exact h
theorem kt_v_GW (hW : jn_GW g) (hc : kt_can g x i) : jn_GW (kt_v g x i) := by
  have hw := hW.1
  unfold kt_can at hc
  unfold kt_v
  by_cases h0 : x = 0
  · rw [if_pos h0]; exact kt_v0_GW hW
  · rw [if_neg h0]
    by_cases h1 : x = 1
    · rw [if_pos h1]; exact kt_v1_GW hW
    · rw [if_neg h1]
      by_cases h2 : x = 2
      · rw [if_pos h2]; exact kp_o_GW hW (by omega)
      · rw [if_neg h2]
        by_cases h3 : x = 3
        · rw [if_pos h3]; exact kt_v3_GW hW (by omega)
        · rw [if_neg h3]; exact hW
theorem kt_v_34 (h3 : g 0 3 = 0) (h4 : g 0 4 = -1) : (kt_v g x i) 0 3 = (if x = 3 then i else 0) ∧ (kt_v g x i) 0 4 = (if x = 2 then i else -1) := by
  unfold kt_v
  by_cases h0 : x = 0
  · rw [if_pos h0, if_neg (show ¬ x = 3 by omega), if_neg (show ¬ x = 2 by omega)]; exact ⟨h3, h4⟩
  · rw [if_neg h0]
    by_cases h1 : x = 1
    · rw [if_pos h1, if_neg (show ¬ x = 3 by omega), if_neg (show ¬ x = 2 by omega)]; exact ⟨h3, h4⟩
    · rw [if_neg h1]
      by_cases h2 : x = 2
      · rw [if_pos h2, if_neg (by omega), if_pos h2]; exact ⟨(kp_o_0 (by decide)).trans h3, kp_o_4⟩
      · rw [if_neg h2]
        by_cases h3' : x = 3
        · rw [if_pos h3', if_pos h3', if_neg h2]; exact ⟨if_pos ⟨rfl, rfl⟩, (show (if (0 : Nat) = 0 ∧ (4 : Int) = 3 then i else g 0 4) = -1 by rw [if_neg (by decide)]; exact h4)⟩
        · rw [if_neg h3', if_neg h3', if_neg h2]; exact ⟨h3, h4⟩
def kt_n (x : Int) : Int := if x = 0 then 1 else if x = 1 then 2 else if x = 4 then 3 else 0
theorem kt_v_Mk (hx : 0 ≤ x ∧ x ≤ 4) (h38 : σ.1 92 38 = kt_n x) (hr : ∀ t, 0 ≤ t → t < g 0 0 → σ.1 (92 + 8) (7 * 0 + t) = g 1 t ∧ σ.1 (92 + 9) (7 * 0 + t) = g 2 t) : jn_Mk σ 0 (kt_v g x i) := by
  unfold kt_n at h38
  unfold kt_v
  by_cases h0 : x = 0
  · rw [if_pos h0] at h38
    rw [if_pos h0]
    exact ⟨1, h38, by decide, fun t t0 t1 => ⟨by rw [if_pos rfl]; exact if_pos rfl, by rw [if_neg (by decide)]; exact (hr t t0 t1).2⟩⟩
  · rw [if_neg h0] at h38
    rw [if_neg h0]
    by_cases h1 : x = 1
    · rw [if_pos h1] at h38
      rw [if_pos h1]
      exact ⟨2, h38, by decide, fun t t0 t1 => ⟨by rw [if_neg (by decide)]; exact (hr t t0 t1).1, by rw [if_pos rfl]; exact if_pos rfl⟩⟩
    · rw [if_neg h1] at h38
      rw [if_neg h1]
      by_cases h2 : x = 2
      · rw [if_neg (by omega)] at h38
        rw [if_pos h2]
        exact ⟨0, h38, by decide, fun t t0 t1 => ⟨by rw [if_neg (by decide)]; exact (hr t t0 t1).1, by rw [if_neg (by decide)]; exact (hr t t0 t1).2⟩⟩
      · rw [if_neg h2]
        by_cases h3 : x = 3
        · rw [if_neg (by omega)] at h38
          rw [if_pos h3]
          exact ⟨0, h38, by decide, fun t t0 t1 => ⟨by rw [if_neg (by decide)]; exact (hr t t0 t1).1, by rw [if_neg (by decide)]; exact (hr t t0 t1).2⟩⟩
        · rw [if_pos (show x = 4 by omega)] at h38
          rw [if_neg h3]
          exact ⟨3, h38, by decide, fun t t0 t1 => ⟨by rw [if_neg (by decide)]; exact (hr t t0 t1).1, by rw [if_neg (by decide)]; exact (hr t t0 t1).2⟩⟩
theorem kt_lm0 {S : jn_Q} {L : Int → Int → Nat} {fo fo' : Int → Nat} : jn_lm g S L fo 0 = jn_lm g S L fo' 0 := rfl
theorem jm_tried (h : ku_MG σ g) (hx : jr x) (hi : jr i) (hk : ∀ τ, jF kW_mt2 σ τ → KI (kv_tried g x i) τ) : jg_CI w 5 mm_X12_tried [.ref 92, .int (.ofInt x), .int (.ofInt i)] σ KI := by
  have hW := h.1.1.1.1
  have hw := hW.1
  have hg3 := h.1.1.1.2.1
  have hg4 := h.1.1.1.2.2
  refine jb_X12_tried_0 rfl ?_
  intro τ1 e1
  have f1 : jF (fun c k => c = 92 ∧ k = 2) σ τ1 := by rw [e1]; exact jF_I ⟨rfl, rfl⟩
  have f1t : jF kW_mt2 σ τ1 := jF_mono f1 (fun c k q => by unfold kW_mt2; omega)
  have hM1 := ku_MG_mt h f1t
  have hno : ∀ u3 : Value, ¬ kt_can g x i → jg_GI w 5 mm_X12_tried 50 [.ref 92, .int (.ofInt x), .int (.ofInt i), u3] τ1 KI := fun u3 q => by
    refine jb_X12_tried_50 ?_
    have := hk τ1 f1t
    unfold kv_tried at this
    rw [if_neg q] at this
    exact this
  have hgo : ∀ u3 : Value, kt_can g x i → jg_GI w 5 mm_X12_tried 52 [.ref 92, .int (.ofInt x), .int (.ofInt i), u3] τ1 KI := fun u3 hc => by
    have hx4 : 0 ≤ x ∧ x ≤ 4 := by unfold kt_can at hc; omega
    have hWv := kt_v_GW hW hc
    have h34 := kt_v_34 (x := x) (i := i) hg3 hg4
    have hend : ∀ τ, jF kW_mt2 σ τ → KI (kt_tend (kt_v g x i) (if x = 4 then 1 else 0)) τ := fun τ hf => by
      have := hk τ hf
      unfold kv_tried at this
      rw [if_pos hc] at this
      exact this
    -- the end, by ranksNow
    have h144 : ∀ (z : Int) (u1 u2 : Value) (τ : jg_M), jF kW_mt2 σ τ → ((z = 0 ∧ ¬ kt_pos (kt_v g x i)) ∨ (z = 1 ∧ kt_pos (kt_v g x i) ∧ τ.1 (92 + 22) 1 = (jn_ls (kt_lm (kt_v g x i) (if x = 4 then 1 else 0)) 6144 : Nat))) → jg_GI w 5 mm_X12_tried 144 [.ref 92, u1, u2, .int (.ofInt z)] τ KI := fun z u1 u2 τ hf hz => by
      refine jb_X12_tried_144 rfl (jm_byText2 (fun τ2 f2 => ?_))
      have he := hend τ2 (jF_tr hf (jF_mono f2 (fun c k q => by unfold kW_mt2; omega)))
      unfold kt_tend at he
      rcases hz with ⟨z0, z1⟩ | ⟨z0, z1, z2⟩
      · subst z0
        rw [if_neg z1] at he
        exact jn_ite (fun _ => he) (fun q => absurd rfl q)
      · subst z0
        rw [if_pos z1, ← z2, ← f2.1 (92 + 22) 1 (by omega)] at he
        exact jn_ite (fun q => absurd q (by decide)) (fun _ => he)
    have h133 : ∀ (z : Int) (u2 : Value) (τ : jg_M), (∀ τ2, τ2 = jg_sI τ 92 38 (kt_n x) → (if jg_wr z = 0 then jg_GI w 5 mm_X12_tried 144 [.ref 92, .int (.ofInt x), u2, .int (.ofInt z)] τ2 KI else jg_CV w 3 mm_X12_layActions [.ref 92] τ2 (fun (m102 : jg_M) => jg_GI w 5 mm_X12_tried 144 [.ref 92, .int (.ofInt x), u2, .int (.ofInt z)] m102 KI))) → jg_GI w 5 mm_X12_tried 105 [.ref 92, .int (.ofInt x), u2, .int (.ofInt z)] τ KI := fun z u2 τ hh => by
      unfold kt_n at hh
      refine jb_X12_tried_105 rfl ?_
      rw [jr_wr hx]
      refine jn_ite (fun q => ?_) (fun q0 => jn_ite (fun q => ?_) (fun q1 => jn_ite (fun q => ?_) (fun q4 => ?_)))
      · rw [if_pos q] at hh; exact jb_X12_tried_133 rfl rfl hh
      · rw [if_neg q0, if_pos q] at hh; exact jb_X12_tried_133 rfl rfl hh
      · rw [if_neg q0, if_neg q1, if_pos q] at hh; exact jb_X12_tried_133 rfl rfl hh
      · rw [if_neg q0, if_neg q1, if_neg q4] at hh; exact jb_X12_tried_133 rfl rfl hh
    -- with the tables laid, from FOLLOW on
    have hact : ∀ (τ : jg_M) (u2 : Value) (fo : Int → Nat), jF kW_mt2 σ τ → jn_MQ τ 0 1 (kt_v g x i) → (g 0 1 = 0 ∨ 0 < g 0 1) → (x = 4 → (∀ k, 0 ≤ k → k < 5 → τ.1 (92 + 25) k = (fo k : Nat)) ∧ ∀ e f, jn_lEF (kt_v g x i) e f → jn_lW (kt_v g x i) e f fo) → (∀ k, 0 ≤ k → k < 5 → fo k < 256) → jg_GI w 5 mm_X12_tried 105 [.ref 92, .int (.ofInt x), u2, .int (.ofInt 1)] τ KI := fun τ u2 fo hf hQ _ hfo hfo2 => by
      refine h133 1 u2 τ (fun τ2 h2 => jn_ite (fun q => absurd q (by decide)) (fun _ => ?_))
      have f2 : jF (fun c k => c = 92 ∧ k = 38) τ τ2 := by rw [h2]; exact jF_I ⟨rfl, rfl⟩
      have f02 : jF kW_mt2 σ τ2 := jF_tr hf (jF_mono f2 (fun c k q => by unfold kW_mt2; omega))
      have hM2 := ku_MG_mt h f02
      obtain ⟨qG, qc, e, f, qe, q20, q21, q4⟩ := hQ
      have h36 : τ2.1 92 36 = 1 := (f2.1 _ _ (by omega)).trans qc.1
      have h38 : τ2.1 92 38 = kt_n x := by rw [h2, js_Is]
      rcases q4 with ⟨z0, z1⟩ | ⟨z0, S, L, s1, s2, s3, s4⟩
      · refine jm_layActions0 (c := 1) h36 ⟨by decide, by decide⟩ ((f2.1 _ _ (by omega)).trans z1) (fun τ3 f3 v3 => ?_)
        refine h144 1 _ _ τ3 (jF_tr f02 (jF_mono f3 (fun c k q => by unfold kW_mt2 jW_lt; exact Or.inl (Or.inr (Or.inr (Or.inr q)))))) (Or.inr ⟨rfl, Or.inl z0, ?_⟩)
        rw [v3]
        unfold kt_lm
        rw [if_pos z0]
        have e0 : jn_ls (fun _ => 0) (0 + 6144) = jn_ls (fun _ => 0) 0 := jn_ls_skip (fun j _ _ hq => by simp at hq)
        rw [show (6144 : Nat) = 0 + 6144 from rfl, e0]
        rfl
      · have hGτ : jn_Mg τ2 0 (kt_v g x i) := by
          obtain ⟨⟨a1, a2, a3, a4, a5, a6, a7⟩, b⟩ := qG
          exact ⟨⟨(f2.1 _ _ (by omega)).trans a1, a2, (f2.1 _ _ (by omega)).trans a3, (f2.1 _ _ (by omega)).trans a4, (f2.1 _ _ (by omega)).trans a5, (f2.1 _ _ (by omega)).trans a6, (f2.1 _ _ (by omega)).trans a7⟩, fun r r0 r1 => ⟨(f2.1 _ _ (by omega)).trans (b r r0 r1).1, (f2.1 _ _ (by omega)).trans (b r r0 r1).2.1, fun d d0 d1 => (f2.1 _ _ (by omega)).trans ((b r r0 r1).2.2 d d0 d1)⟩⟩
        have hMk : jn_Mk τ2 0 (kt_v g x i) := kt_v_Mk hx4 h38 (fun t t0 t1 => hM2.1.2.2.2.1 t t0 (by omega))
        have hkn : τ2.1 92 38 = 3 ↔ (if x = 4 then (1 : Int) else 0) ≠ 0 := by
          rw [h38]
          unfold kt_n
          by_cases q0 : x = 0
          · rw [if_pos q0, if_neg (by omega)]; exact ⟨fun q => absurd q (by decide), fun q => absurd rfl q⟩
          · rw [if_neg q0]
            by_cases q1 : x = 1
            · rw [if_pos q1, if_neg (by omega)]; exact ⟨fun q => absurd q (by decide), fun q => absurd rfl q⟩
            · rw [if_neg q1]
              by_cases q4 : x = 4
              · rw [if_pos q4, if_pos q4]; exact ⟨fun _ => by decide, fun _ => rfl⟩
              · rw [if_neg q4, if_neg q4]; exact ⟨fun q => absurd q (by decide), fun q => absurd rfl q⟩
        have hLt := s2.2.1
        have hMB : jn_MB τ2 0 1 (kt_v g x i) S L fo (if x = 4 then 1 else 0) := ⟨hGτ, hMk, ⟨h36, ⟨by decide, by decide⟩, hkn⟩, jn_RK_fr s3 f2 (fun a k q => by omega), fun s k s0 s1 k0 k1 => (f2.1 _ _ (by omega)).trans (s4 s k s0 s1 k0 k1), fun hy k k0 k1 => by
          by_cases q4 : x = 4
          · exact (f2.1 _ _ (by omega)).trans ((hfo q4).1 k k0 k1)
          · rw [if_neg q4] at hy; exact absurd rfl hy, fun s k => hLt s k, hfo2⟩
        refine jm_layActions hMB hWv (jn_all_FP hWv s1) (fun τ3 f3 hMC => ?_)
        refine h144 1 _ _ τ3 (jF_tr f02 (jF_mono f3 (fun c k q => by unfold kW_mt2 jW_lt; exact Or.inl (Or.inr (Or.inr (Or.inr q)))))) (Or.inr ⟨rfl, Or.inr ⟨z0, S, s1⟩, ?_⟩)
        rw [hMC.2.1]
        have hSe := kg_S_eq s1
        obtain ⟨_, qL⟩ := kg_L_ok hWv qe s1 s2
        have elm : jn_lm (kt_v g x i) S L fo (if x = 4 then 1 else 0) = kt_lm (kt_v g x i) (if x = 4 then 1 else 0) := by
          unfold kt_lm
          rw [if_neg (show ¬ kt_v g x i 0 1 = 0 by omega), ← hSe]
          by_cases q4 : x = 4
          · rw [if_pos q4]
            exact kg_lm hWv qL (kg_fo_ok hWv qe ((hfo q4).2 e f qe)).2
          · rw [if_neg q4]
            exact kt_lm0.trans (kg_lm (fo := kg_fo (kt_v g x i)) hWv qL (fun _ _ _ => rfl))
        rw [elm]
    -- the tables
    have h84 : ∀ (y0 : Int) (u2 u3 : Value) (τ : jg_M), y0 = (if x = 2 then i else -1) → jF kW_mt2 σ τ → τ.1 92 33 = (if x = 3 then i else 0) → jg_G w 5 mm_X12_tried 84 [.ref 92, .int (.ofInt x), u2, u3] [.int (.ofInt y0), .int (.ofInt 0), .int (.ofInt 1), .ref 92] τ (jg_QI KI) := fun y0 u2 u3 τ hy hf h33 => by
      refine jb_X12_tried_84 rfl rfl ?_
      have hMτ := ku_MG_mt h hf
      have hla := jm_layAll (w := w) (σ := τ) (g := kt_v g x i) (a := 0) (c := 1) (KI := fun (z102 : Int) (m101 : jg_M) => (if jg_wr z102 = 0 then jg_GI w 5 mm_X12_tried 105 [.ref 92, .int (.ofInt x), u2, .int (.ofInt z102)] m101 KI else (if jg_wr x = 4 then jg_CV w 3 mm_X12_layFollow [.ref 92, .int (.ofInt 1), .int (.ofInt 0), .int (.ofInt (-1)), .int (.ofInt 0)] m101 (fun (m103 : jg_M) => jg_GI w 5 mm_X12_tried 105 [.ref 92, .int (.ofInt x), u2, .int (.ofInt z102)] m103 KI) else jg_GI w 5 mm_X12_tried 105 [.ref 92, .int (.ofInt x), u2, .int (.ofInt z102)] m101 KI))) (kt_v_Mb (kt_GM_Mb hMτ.1.2)) hWv ⟨by decide, by decide⟩ ⟨by decide, by decide⟩ (by rw [h34.1]; exact h33) (fun q0 q1 τ2 f2 _ _ => ?_) (fun q τ2 f2 hQ => ?_)
      · rw [h34.2, ← hy] at hla
        exact hla
      · refine jn_ite (fun _ => ?_) (fun q => absurd rfl q)
        refine h133 0 u2 τ2 (fun τ3 e3 => jn_ite (fun _ => ?_) (fun q => absurd rfl q))
        refine h144 0 _ _ τ3 (jF_tr hf (jF_tr (jF_mono f2 (fun c k q => ?_)) (by rw [e3]; exact jF_I (by unfold kW_mt2; omega)))) (Or.inl ⟨rfl, kt_pos_of q0 q1⟩)
        unfold jW_al at q
        unfold kW_mt2 jW_lt
        rcases q with q | q | q
        · exact Or.inr (Or.inr (by omega))
        · exact Or.inl (Or.inr (Or.inl q))
        · exact Or.inl (Or.inr (Or.inr (Or.inl q)))
      · refine jn_ite (fun q => absurd q (by decide)) (fun _ => ?_)
        have f02 : jF kW_mt2 σ τ2 := jF_tr hf (jF_mono f2 (fun c k q => by
          unfold jW_al at q
          unfold kW_mt2 jW_lt
          rcases q with q | q | q
          · exact Or.inr (Or.inr (by omega))
          · exact Or.inl (Or.inr (Or.inl q))
          · exact Or.inl (Or.inr (Or.inr (Or.inl q)))))
        rw [jr_wr hx]
        refine jn_ite (fun e4 => ?_) (fun n4 => ?_)
        · have ev : kt_v g x i = g := by unfold kt_v; rw [if_neg (by omega), if_neg (by omega), if_neg (by omega), if_neg (by omega)]
          have hM2 := ku_MG_mt h f02
          obtain ⟨qG, qc, e, f, qe, q20, q21, q4⟩ := id hQ
          rw [ev] at qe
          have hlf := jm_layFollow (w := w) (σ := τ2) (g := g) (b := 0) (c := 1) (e := e) (f := f) (K := fun (m103 : jg_M) => jg_GI w 5 mm_X12_tried 105 [.ref 92, .int (.ofInt x), u2, .int (.ofInt 1)] m103 KI) (kt_GM_Mb hM2.1.2) hW ⟨by decide, by decide⟩ q20 qe.1.2.2.1 q21 qe.1.2.2.2.1 (fun τ3 fo f3 v36 v35 v34 v33 v25 hfo => ?_)
          · rw [hg3, hg4] at hlf
            exact hlf
          · have f03 : jF kW_mt2 σ τ3 := jF_tr f02 (jF_mono f3 (fun c k q => Or.inr (Or.inl q)))
            have hM3 := ku_MG_mt h f03
            refine hact τ3 u2 fo f03 ?_ (by omega) (fun _ => ⟨v25, fun e' f' h' => ?_⟩) (fun k k0 k5 => hfo.2.1 k k0 k5)
            · rw [ev] at hQ ⊢
              refine ⟨jn_Mg_of (kt_GM_Mb hM3.1.2) v35 (by rw [v33, hg3]) v34, ⟨v36, by decide, by decide⟩, e, f, qe, (f3.1 _ _ (by unfold jW_fo; omega)).trans q20, fun k k0 k5 => (f3.1 _ _ (by unfold jW_fo; omega)).trans (q21 k k0 k5), ?_⟩
              rw [ev] at q4
              rcases q4 with ⟨z0, z1⟩ | ⟨z0, S, L, s1, s2, s3, s4⟩
              · exact Or.inl ⟨z0, (f3.1 _ _ (by unfold jW_fo; omega)).trans z1⟩
              · exact Or.inr ⟨z0, S, L, s1, s2, jn_RK_fr s3 f3 (fun a k q1 q2 => by unfold jW_fo at q2; omega), fun s k s0 s1' k0 k1 => (f3.1 _ _ (by unfold jW_fo; omega)).trans (s4 s k s0 s1' k0 k1)⟩
            · rw [ev] at h' ⊢
              have u1 := kg_EF_ok hW qe
              have u2' := kg_EF_ok hW h'
              rw [kg_lW hW (fun x x0 x5 => (u2'.2.2 x x0 x5).trans (u1.2.2 x x0 x5).symm), u2'.2.1, ← u1.2.1]
              exact hfo
        · exact hact τ2 u2 (fun _ => 0) f02 hQ (by omega) (fun q => absurd q n4) (fun _ _ _ => (by decide : 0 < 256))
    refine jb_X12_tried_52 rfl ?_
    rw [jr_wr hx]
    have h63 : ∀ (y0 : Int), y0 = (if x = 3 then i else 0) → jg_G w 5 mm_X12_tried 63 [.ref 92, .int (.ofInt x), .int (.ofInt i), u3] [.int (.ofInt y0), .ref 92] τ1 (jg_QI KI) := fun y0 hy => by
      refine jb_X12_tried_63 rfl rfl ?_
      intro τ2 e2 τ3 e3
      have f3 : jF kW_mt2 τ1 τ3 := by rw [e3, e2]; exact jF_toI (jF_I (by unfold kW_mt2; omega)) (by unfold kW_mt2; omega)
      have v33 : τ3.1 92 33 = (if x = 3 then i else 0) := by rw [e3, js_In (Or.inr (by decide)), e2, js_Is, hy]
      rw [jr_wr hx]
      refine jn_ite (fun q => ?_) (fun q => ?_)
      · exact h84 i _ _ τ3 (by rw [if_pos q]) (jF_tr f1t f3) v33
      · exact h84 (-1) _ _ τ3 (by rw [if_neg q]) (jF_tr f1t f3) v33
    refine jn_ite (fun q => ?_) (fun q => ?_)
    · exact h63 i (by rw [if_pos q])
    · exact h63 0 (by rw [if_neg q])
  refine jm_isIn hx (by decide) (by decide) (jn_if (fun hn => hno _ (fun q => hn (by unfold kt_can at q; omega))) (fun hin => ?_))
  rw [jr_wr hx, jr_wr hi]
  refine jn_ite (fun e2 => ?_) (fun n2 => jn_ite (fun e3 => ?_) (fun n3 => jn_ite (fun e0 => hgo _ (Or.inl ⟨by omega, e0⟩)) (fun n0 => hno _ (fun q => by unfold kt_can at q; omega))))
  · refine jm_isRule hM1.1.2.1.2.2.2 (by omega) ?_
    rw [jr_wr hi]
    exact jn_if (fun q => hno _ (fun z => q (by unfold kt_can at z; omega))) (fun q => hgo _ (Or.inr (Or.inl ⟨e2, q⟩)))
  · refine jm_isKind hM1.1.2.1.2.2.1 (by omega) ?_
    rw [jr_wr hi]
    exact jn_if (fun q => hno _ (fun z => q (by unfold kt_can at z; omega))) (fun q => hgo _ (Or.inr (Or.inr ⟨e3, q⟩)))
end KTB
