/-! TEXT: its LINES, in the reference, 3 -/
/-- what a LINE owes -/
def kt_PL (B : Nat → Int) (n : Nat) (σ0 : jg_M) (R : kt_R) (KI : Int → jg_M → Prop) : Prop := (∀ e pl, R = .inl (e, pl) → ∀ τ, jF kW_mf σ0 τ → τ.1 92 4 = e → τ.1 92 5 = pl → KI 0 τ) ∧ ∀ g1 p1, R = .inr (g1, p1) → ∀ τ, jF kW_mp σ0 τ → kt_GM τ 1 g1 (g1 0 2) → kt_Mt τ (kt_tk B n p1) → KI 1 τ
section KTO
variable {w : Nat} {σ σ0 τ : jg_M} {a n0 n p k : Nat} {B : Nat → Int} {g g' : gM} {m c b lo hi : Int} {t : kt_T} {R : kt_R} {KV : jg_M → Prop} {KI : Int → jg_M → Prop} {x v e : Int}
theorem jm_ruleLine (hB : kt_Bm σ B n) (hWd : kt_Wd σ) (hp : p ≤ n) (h7 : σ.1 92 7 = (p : Nat)) (hat : σ.1 92 10 = (k : Nat)) (hG : kt_GM σ 1 g (g 0 2)) (hok : kt_ok g) (hf : jF kW_mp σ0 σ) (hk : kt_PN B n σ0 (kt_ruL B n g k p) KI) : jg_CI w 2 mm_X12_ruleLine [.ref 92] σ KI := by
  have hw := hok.1.1.1
  have hs := (kt_tk_le (B := B) hp)
  unfold kt_ruL at hk
  refine jb_X12_ruleLine_0 rfl ?_
  rw [hG.1.2.2.2, jr_wr (show jr (g 0 2) by omega)]
  refine jn_ite (fun hge => ?_) (fun hlt => jm_nextToken hB hWd hp h7 (fun τ hfn hM => ?_))
  · rw [if_pos (by omega)] at hk
    exact jm_wrongP hf hat hk
  · rw [if_neg (by omega)] at hk
    have hfτ := kW_nx_mp hf hfn
    have hGτ := kt_GM_fr hG hfn (fun c i c1 c2 q => by unfold kW_nx at q; omega)
    have hBτ := kt_Bm_fr hB hfn (fun q => by unfold kW_nx at q; omega) (fun i q => by unfold kW_nx at q; omega)
    have hWτ := kt_Wd_fr hWd hfn (fun i q => by unfold kW_nx at q; omega)
    obtain ⟨q1, q2, _⟩ := kt_Mt_k hM hs.2.2.2.2
    rintro _ rfl
    rw [jr_wr (show jr (τ.1 92 8) by omega), hGτ.1.2.2.2, hGτ.1.2.2.1, jr_wr (show jr (13 + g 0 2) by omega)]
    refine jn_ite (fun h2 => ?_) (fun h2 => ?_)
    · have hnm := q2.mp h2
      rw [if_pos hnm] at hk
      have hwh := (hM.2.2.2.1 hnm.1).2 hnm.2
      have hv := kt_tk_v0 (B := B) hp hnm.1
      have h72 := hM.2.1 (by have := hnm.1; omega)
      have hp3 := hs.2.2.1
      have hat2 := hM.1
      rw [hwh.2]
      generalize (kt_tk B n p).2.2.2 = v at *
      generalize (kt_tk B n p).2.2.1 = p3 at *
      refine jm_findK (b := 1) hGτ hok (by omega) (fun k k0 k1 he => ?_) (fun hlt10 => ?_)
      · rw [jr_wr (show jr k by omega)]
        refine jn_ite (fun _ => jm_nextToken hBτ hWτ hp3 h72 (fun τ2 hfn2 hM2 => ⟨by omega, ?_⟩)) (fun h => by omega)
        rw [he, if_neg (by omega), show 10 + k - 10 = k by omega] at hk
        intro τ3 h3
        refine ⟨by omega, ?_⟩
        intro τ4 h4
        have hfτ2 := kW_nx_mp hfτ hfn2
        have hGτ2 := kt_GM_fr hGτ hfn2 (fun c i c1 c2 q => by unfold kW_nx at q; omega)
        have hBτ2 := kt_Bm_fr hBτ hfn2 (fun q => by unfold kW_nx at q; omega) (fun i q => by unfold kW_nx at q; omega)
        have hWτ2 := kt_Wd_fr hWτ hfn2 (fun i q => by unfold kW_nx at q; omega)
        have hf4 : jF (fun c i => (c = 92 + 10 ∨ c = 92 + 11) ∧ i = 13 + g 0 2) τ2 τ4 := by rw [h4, h3]; exact jF_toI (jF_I ⟨Or.inl rfl, rfl⟩) ⟨Or.inr rfl, rfl⟩
        have e0 := fun j => kt_aB_e (g := g) (x := k) (i := 0) (j := j) (by decide)
        have e4 : kt_aB g k 4 (g 0 2) = 0 := kt_up_at
        have e3 : kt_aB g k 3 (g 0 2) = k := by unfold kt_aB; rw [kt_up_ne (Or.inl (by decide)), kt_up_at]
        have er : ∀ r, r ≠ g 0 2 → kt_aB g k 3 r = g 3 r ∧ kt_aB g k 4 r = g 4 r := fun r hr => by
          unfold kt_aB
          rw [kt_up_ne (Or.inl (by decide)), kt_up_ne (Or.inr hr), kt_up_ne (Or.inr hr), kt_up_ne (Or.inl (by decide))]
          exact ⟨rfl, rfl⟩
        have := jm_syms (w := w) (σ0 := σ0) (n := n) (B := B) (KI := KI) 5 (kt_aB g k) p3 0 τ4 (.int (.ofInt k)) mj_U rfl (kt_Bm_fr hBτ2 hf4 (fun q => by omega) (fun i q => by omega)) (kt_Wd_fr hWτ2 hf4 (fun i q => by omega)) hp3 (kt_Mt_fr hM2 (fun i => (hf4.1 _ _ (by omega)).symm)) ?_ ?_ ⟨by rw [e0]; omega, by rw [e0, e0, e3]; omega, by rw [e0, e4]; omega, fun d d0 d1 => by rw [e0, e4] at d1; omega⟩ (by rw [e0, e4]; rfl) (jF_tr hfτ2 (jF_mono hf4 (fun c i q => by unfold kW_mp; omega))) hk
        · rw [e0] at this
          exact this
        · obtain ⟨⟨a0, a1, a2, a3⟩, ⟨b1, b2⟩, c, d⟩ := hGτ2
          rw [e0]
          refine ⟨⟨a0, ?_, ?_, ?_⟩, ⟨fun t t0 t1 => ?_, fun j j0 j1 => ?_⟩, fun t t0 t1 => ⟨?_, ?_⟩, fun r r0 r1 => ?_⟩
          · rw [hf4.1 _ _ (by omega), a1, e0]
          · rw [hf4.1 _ _ (by omega), a2, e0]
          · rw [hf4.1 _ _ (by omega), a3, e0]
          · rw [e0] at t1
            rw [hf4.1 _ _ (by omega), kt_aB_e (by decide)]
            exact b1 t t0 t1
          · rw [e0] at j1
            rw [hf4.1 _ _ (by omega), kt_aB_e (by decide)]
            exact b2 j j0 j1
          · rw [hf4.1 _ _ (by omega), kt_aB_e (by decide)]; exact (c t t0 t1).1
          · rw [hf4.1 _ _ (by omega), kt_aB_e (by decide)]; exact (c t t0 t1).2
          · by_cases hrr : r = g 0 2
            · subst hrr
              rw [e3, e4, show 13 * (1 : Int) + g 0 2 = 13 + g 0 2 by omega]
              refine ⟨?_, ?_, fun e e0' e1 => by omega⟩
              · rw [h4, js_In (Or.inl (by omega)), h3, js_Is]
              · rw [h4, js_Is]
            · rw [hf4.1 _ _ (by omega), hf4.1 (92 + 11) _ (by omega), (er r hrr).1, (er r hrr).2]
              refine ⟨(d r r0 (by omega)).1, (d r r0 (by omega)).2.1, fun e e0' e1 => ?_⟩
              rw [hf4.1 _ _ (by omega), kt_aB_e (by decide)]
              exact (d r r0 (by omega)).2.2 e e0' e1
        · exact kt_ok_cg hok e0 (fun j => kt_aB_e (by decide)) (fun j => kt_aB_e (by decide)) (fun j => kt_aB_e (by decide)) (fun r r0 r1 => ⟨(er r (by omega)).1, (er r (by omega)).2, fun d d0 d1 => kt_aB_e (by decide)⟩)
      · refine jn_ite (fun h => absurd h (by decide)) (fun _ => ?_)
        rw [if_pos hlt10] at hk
        exact jm_wrongP hfτ hat2 hk
    · rw [if_neg (fun q => h2 (q2.mpr q))] at hk
      exact jm_wrongP hfτ hM.1 hk
theorem jm_number (hB : kt_Bm σ B n) (hWd : kt_Wd σ) (hp : p ≤ n) (hM : kt_Mt σ (kt_tk B n p)) (hlh : 0 ≤ lo ∧ lo ≤ 9 ∧ 0 ≤ hi ∧ hi ≤ 9)
    (k1 : ∀ v q, q ≤ n → (∀ k, kt_no B n lo hi p k = k v q) → lo ≤ v ∧ v ≤ hi → ∀ τ, jF (fun c i => c = 92 ∧ 7 ≤ i ∧ i ≤ 11) σ τ → τ.1 92 11 = v → kt_Mt τ (kt_tk B n q) → KI 1 τ)
    (k0 : ∀ e pl, (∀ k, kt_no B n lo hi p k = .inl (e, pl)) → ∀ τ, jF kW_mf σ τ → τ.1 92 4 = e → τ.1 92 5 = pl → KI 0 τ) : jg_CI w 2 mm_X12_number [.ref 92, .int (.ofInt lo), .int (.ofInt hi)] σ KI := by
  have hs := (kt_tk_le (B := B) hp)
  obtain ⟨q1, _, _, q3, _⟩ := kt_Mt_k hM hs.2.2.2.2
  refine jb_X12_number_0 rfl ?_
  rw [jr_wr (show jr (σ.1 92 8) by omega)]
  refine jn_ite (fun h3 => ?_) (fun h3 => ?_)
  · have hn := q3.mp h3
    obtain ⟨_, hx, hv⟩ := hM.2.2.2.2.1 hn
    have h7 := hM.2.1 (by omega)
    refine jm_isIn (by omega) (by omega) (by omega) (jn_if (fun hno => ?_) (fun hyes => ?_))
    · refine jm_wrong (σ0 := σ) jF_rf hM.1 (fun τ hf g0 g1 => ⟨Or.inl rfl, k0 2 _ (fun k => ?_) τ hf g0 g1⟩)
      unfold kt_no
      rw [if_pos hn, if_neg]
      intro h
      rw [← hv] at h
      split at h <;> omega
    · have hv2 : (kt_tk B n p).2.2.2 = σ.1 92 9 := by
        rw [← hv, if_pos (by omega)]
      intro τ1 h1
      have hf1 : jF (fun c i => c = 92 ∧ i = 11) σ τ1 := by rw [h1]; exact jF_I ⟨rfl, rfl⟩
      refine jm_nextToken (kt_Bm_fr hB hf1 (fun q => by omega) (fun i q => by omega)) (kt_Wd_fr hWd hf1 (fun i q => by omega)) hs.2.2.1 (by rw [hf1.1 _ _ (by omega)]; exact h7) (fun τ2 hf2 hM2 => ?_)
      refine k1 (σ.1 92 9) (kt_tk B n p).2.2.1 hs.2.2.1 (fun k => ?_) hyes τ2 (jF_tr (jF_mono hf1 (fun c i q => by omega)) (jF_mono hf2 (fun c i q => by unfold kW_nx at q; omega))) ?_ hM2
      · unfold kt_no
        rw [if_pos hn, hv2, if_pos hyes]
      · rw [hf2.1 _ _ (fun q => by unfold kW_nx at q; omega), h1, js_Is]
  · refine jm_wrong (σ0 := σ) jF_rf hM.1 (fun τ hf g0 g1 => ⟨Or.inl rfl, k0 1 _ (fun k => ?_) τ hf g0 g1⟩)
    unfold kt_no
    rw [if_neg (fun q => h3 (q3.mpr q))]
/-- a rank told, in the store -/
theorem kt_GM_up {i : Nat} (hG : kt_GM σ 1 g m) (hi : i = 1 ∨ i = 2) (hx : 0 ≤ x ∧ x < 7) (hτ : τ = jg_sI σ (92 + 7 + i) (7 + x) v) : kt_GM τ 1 (kt_up g i x v) m := by
  obtain ⟨⟨a0, a1, a2, a3⟩, ⟨b1, b2⟩, c, d⟩ := hG
  have hf : jF (fun c j => c = 92 + 7 + i ∧ j = 7 + x) σ τ := by rw [hτ]; exact jF_I ⟨rfl, rfl⟩
  have e : ∀ (j : Nat) (y : Int), j ≠ i → kt_up g i x v j y = g j y := fun j y h => kt_up_ne (Or.inl h)
  refine ⟨⟨a0, ?_, ?_, ?_⟩, ⟨fun t t0 t1 => ?_, fun j j0 j1 => ?_⟩, fun t t0 t1 => ⟨?_, ?_⟩, fun r r0 r1 => ?_⟩
  · rw [hf.1 _ _ (by omega), a1, e 0 0 (by omega)]
  · rw [hf.1 _ _ (by omega), a2, e 0 1 (by omega)]
  · rw [hf.1 _ _ (by omega), a3, e 0 2 (by omega)]
  · rw [e 0 0 (by omega)] at t1
    rw [hf.1 _ _ (by omega), e 6 _ (by omega)]
    exact b1 t t0 t1
  · rw [e 0 1 (by omega)] at j1
    rw [hf.1 _ _ (by omega), e 6 _ (by omega)]
    exact b2 j j0 j1
  · by_cases h : i = 1 ∧ t = x
    · rw [hτ, h.1, h.2, show 7 * (1 : Int) + x = 7 + x by omega, js_Is, kt_up_at]
    · rw [hf.1 _ _ (by omega), kt_up_ne (by omega)]
      exact (c t t0 t1).1
  · by_cases h : i = 2 ∧ t = x
    · rw [hτ, h.1, h.2, show 7 * (1 : Int) + x = 7 + x by omega, js_Is, kt_up_at]
    · rw [hf.1 _ _ (by omega), kt_up_ne (by omega)]
      exact (c t t0 t1).2
  · rw [hf.1 _ _ (by omega), hf.1 (92 + 11) _ (by omega), e 3 r (by omega), e 4 r (by omega)]
    refine ⟨(d r r0 r1).1, (d r r0 r1).2.1, fun q q0 q1 => ?_⟩
    rw [hf.1 _ _ (by omega), e 5 _ (by omega)]
    exact (d r r0 r1).2.2 q q0 q1
theorem jm_rankLine (hB : kt_Bm σ B n) (hWd : kt_Wd σ) (hp : p ≤ n) (h7 : σ.1 92 7 = (p : Nat)) (hG : kt_GM σ 1 g (g 0 2)) (hok : kt_ok g) (hf : jF kW_mp σ0 σ) (hk : kt_PN B n σ0 (kt_raL B n g p) KI) : jg_CI w 3 mm_X12_rankLine [.ref 92] σ KI := by
  have hw := hok.1.1.1
  have hs := (kt_tk_le (B := B) hp)
  unfold kt_raL at hk
  refine jb_X12_rankLine_0 rfl (jm_nextToken hB hWd hp h7 (fun τ hfn hM => ?_))
  have hfτ := kW_nx_mp hf hfn
  have hGτ := kt_GM_fr hG hfn (fun c i c1 c2 q => by unfold kW_nx at q; omega)
  have hBτ := kt_Bm_fr hB hfn (fun q => by unfold kW_nx at q; omega) (fun i q => by unfold kW_nx at q; omega)
  have hWτ := kt_Wd_fr hWd hfn (fun i q => by unfold kW_nx at q; omega)
  obtain ⟨q1, q2, _⟩ := kt_Mt_k hM hs.2.2.2.2
  rw [jr_wr (show jr (τ.1 92 8) by omega), hGτ.1.2.1]
  refine jn_ite (fun h2 => ?_) (fun h2 => ?_)
  · have hnm := q2.mp h2
    rw [if_pos hnm] at hk
    have hwh := (hM.2.2.2.1 hnm.1).2 hnm.2
    have hv := kt_tk_v0 (B := B) hp hnm.1
    have h72 := hM.2.1 (by have := hnm.1; omega)
    have hp3 := hs.2.2.1
    have hat2 := hM.1
    rw [hwh.2]
    generalize (kt_tk B n p).2.2.2 = v at *
    generalize (kt_tk B n p).2.2.1 = p3 at *
    refine jm_findT (b := 1) hGτ hok (by omega) (fun s k0 k1 he => ?_) (fun hno => ?_)
    · rw [he, if_pos ⟨k0, k1⟩] at hk
      have hc := (hGτ.2.2.1 s k0 (by omega)).1
      have hrk := hok.1.1.2.2 s k0 k1
      rw [show 7 * (1 : Int) + s = 7 + s by omega] at hc
      rw [jr_wr (show jr s by omega), jr_wr (show jr (7 + s) by omega), hc, jr_wr (show jr (g 1 s) by omega)]
      refine jn_ite (fun _ => ⟨by omega, jn_ite (fun hz => ?_) (fun hz => ?_)⟩) (fun h => by omega)
      · rw [if_pos (by omega)] at hk
        refine jm_nextToken hBτ hWτ hp3 h72 (fun τ2 hfn2 hM2 => ?_)
        have hfτ2 := kW_nx_mp hfτ hfn2
        have hGτ2 := kt_GM_fr hGτ hfn2 (fun c i c1 c2 q => by unfold kW_nx at q; omega)
        have hBτ2 := kt_Bm_fr hBτ hfn2 (fun q => by unfold kW_nx at q; omega) (fun i q => by unfold kW_nx at q; omega)
        have hWτ2 := kt_Wd_fr hWτ hfn2 (fun i q => by unfold kW_nx at q; omega)
        refine jm_number hBτ2 hWτ2 hp3 hM2 ⟨by decide, by decide, by decide, by decide⟩ (fun v1 p4 hp4 hno1 hr1 τ3 hf3 h11 hM3 => ?_) (fun e pl hno1 τ3 hf3 g0 g1 => ?_)
        · rw [hno1] at hk
          refine jn_ite (fun h => absurd h (by decide)) (fun _ => ⟨by omega, ?_⟩)
          intro τ4 h4
          rw [h11] at h4
          have hfτ3 : jF kW_mp σ0 τ3 := jF_tr hfτ2 (jF_mono hf3 (fun c i q => by unfold kW_mp; omega))
          have hGτ3 := kt_GM_fr hGτ2 hf3 (fun c i c1 c2 q => by omega)
          have hf4 : jF (fun c i => c = 92 + 8 ∧ 7 ≤ i) τ3 τ4 := by rw [h4]; exact jF_I ⟨rfl, by omega⟩
          have hBτ4 := kt_Bm_fr (kt_Bm_fr hBτ2 hf3 (fun q => by omega) (fun i q => by omega)) hf4 (fun q => by omega) (fun i q => by omega)
          have hWτ4 := kt_Wd_fr (kt_Wd_fr hWτ2 hf3 (fun i q => by omega)) hf4 (fun i q => by omega)
          have hGτ4 := kt_GM_up (i := 1) (x := s) (v := v1) hGτ3 (Or.inl rfl) ⟨k0, by omega⟩ h4
          have hfτ4 : jF kW_mp σ0 τ4 := jF_tr hfτ3 (jF_mono hf4 (fun c i q => by unfold kW_mp; omega))
          refine jm_number hBτ4 hWτ4 hp4 (kt_Mt_fr hM3 (fun i => (hf4.1 _ _ (by omega)).symm)) ⟨by decide, by decide, by decide, by decide⟩ (fun v2 p5 hp5 hno2 hr2 τ5 hf5 h115 hM5 => ?_) (fun e pl hno2 τ5 hf5 g0 g1 => ?_)
          · rw [hno2] at hk
            refine jn_ite (fun h => absurd h (by decide)) (fun _ => ⟨by omega, ?_⟩)
            intro τ6 h6
            rw [h115] at h6
            have hfτ5 : jF kW_mp σ0 τ5 := jF_tr hfτ4 (jF_mono hf5 (fun c i q => by unfold kW_mp; omega))
            have hGτ5 := kt_GM_fr hGτ4 hf5 (fun c i c1 c2 q => by omega)
            have hf6 : jF (fun c i => c = 92 + 9 ∧ 7 ≤ i) τ5 τ6 := by rw [h6]; exact jF_I ⟨rfl, by omega⟩
            have hGτ6 := kt_GM_up (i := 2) (x := s) (v := v2) hGτ5 (Or.inr rfl) ⟨k0, by omega⟩ h6
            exact hk.2 (kt_up (kt_up g 1 s v1) 2 s v2) p5 hp5 rfl τ6 (jF_tr hfτ5 (jF_mono hf6 (fun c i q => by unfold kW_mp; omega))) hGτ6 (kt_Mt_fr hM5 (fun i => (hf6.1 _ _ (by omega)).symm))
          · rw [hno2] at hk
            exact jn_ite (fun _ => hk.1 e pl rfl τ5 (jF_tr (jF_mono hfτ4 (fun c i q => Or.inr q)) hf5) g0 g1) (fun h => absurd rfl h)
        · rw [hno1] at hk
          exact jn_ite (fun _ => hk.1 e pl rfl τ3 (jF_tr (jF_mono hfτ2 (fun c i q => Or.inr q)) hf3) g0 g1) (fun h => absurd rfl h)
      · rw [if_neg (by omega)] at hk
        exact jm_wrongP hfτ hat2 hk
    · refine jn_ite (fun h => absurd h (by decide)) (fun _ => ?_)
      rw [if_neg hno] at hk
      exact jm_wrongP hfτ hat2 hk
  · rw [if_neg (fun q => h2 (q2.mpr q))] at hk
    exact jm_wrongP hfτ hM.1 hk
end KTO
