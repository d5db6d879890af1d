/-! READ, in both: the whole call -/
def kv_may (g : gM) (x : Int) : Prop := (0 ≤ x ∧ x < g 0 0) ∧ 0 < ku_n g
def kW_rc (c : Nat) (i : Int) : Prop := kW_ro 90 c i ∨ kW_ro 65 c i ∨ kW_ra c i
def kW_rm (c : Nat) (i : Int) : Prop := kW_ge c i ∨ kW_co c i ∨ kW_rb c i ∨ kW_tw c i
section KZE
variable {w : Nat} {σ τ : jg_M} {c T : Nat} {h : kz_H} {g : gM} {K : kr_K} {n x o rd tk : Int} {KV : jg_M → Prop} {KI : Int → jg_M → Prop}
theorem jc_read (hG : ku_CG σ T g) (hC : kz_C σ 65 K rd tk) (hK : kr_OK g K) (hR : kz_RC σ c h) (hx : jr x) (k0 : ¬ kv_may g x → KI (-1) σ)
    (k1 : kv_may g x → kr_take g x K = none → ∀ τ, jF (kW_ro 90) σ τ → KI (-2) τ)
    (k2 : kv_may g x → ∀ b d K', kr_take g x K = some (b, d, K') → ∀ τ, jF kW_rc σ τ → kz_C τ 65 K' (rd + (d : Nat)) (tk + 1) → kz_RC τ (min (c + 1) 20) (kz_ph c h (K, rd, tk)) → KI (d : Nat) τ) : jg_CI w 4 mm_X11_read [.ref 0, .int (.ofInt x)] σ KI := by
  have sh := ku_sh hG.1.1
  have hT := hG.1.1
  have hW := hG.2.1.1.1.1
  have hw := hW.1
  have h40 := kr_OK_le hK
  obtain ⟨n1, n2, n3⟩ := ku_CN hG
  refine jb_X11_read_0 rfl ?_
  rw [hG.1.2.1]
  intro r er
  rw [show r = T by omega]
  refine ⟨sh.1, jc_X0_hasToken sh.2.2 hG.2.2.1.1.1 hW hx (jn_if (fun hno => ?_) (fun hyes => ?_))⟩
  · exact k0 (fun q => hno q.1)
  refine jc_hasStates hG (jn_if (fun hno => ?_) (fun hpos => ?_))
  · exact k0 (fun q => hno q.2)
  have hmay : kv_may g x := ⟨hyes, hpos⟩
  obtain ⟨n4, n5, nF, _⟩ := n3 hpos
  have hok : kr_ok g K := by rcases hK with q | q; (· omega); exact q.2
  have hRo := hC.1
  refine jc_copy rfl rfl (Or.inl (by decide)) hRo h40 (fun τ hf hRo2 e3 e4 => ?_)
  have h' : ku_CG τ T g := ku_CG_fr hG hf (by unfold kW_ro; omega) (by unfold kW_ro; omega) (fun c i q => by unfold kW_ro; omega)
  rw [h'.1.2.1]
  intro r1 er1
  rw [show r1 = T by omega]
  refine ⟨sh.1, ?_⟩
  have eT : kr_T g x K = kr_take g x K := by unfold kr_T; rw [if_neg (by omega)]
  refine jc_take rfl sh.1 sh.2.2 sh.2.1 (by omega) (kr_CW_of hW h'.2.2.1) hRo2 hK ⟨by omega, by omega⟩ (fun hz τ2 hf2 => ?_) (fun b d K' hz τ2 hf2 hRo3 e33 e44 => ?_)
  · rw [eT] at hz
    exact jn_ite (fun _ => k1 hmay hz τ2 (jF_tr hf hf2)) (fun h => absurd (by decide) h)
  · rw [eT] at hz
    have hd := (kr_tk_ok hW nF ⟨by omega, by omega⟩ hok hz)
    have hT2 := (kr_T_ok (kr_CW_of hW h'.2.2.1) hK (t := x) ⟨by omega, by omega⟩ (eT.trans hz))
    have hb : ¬ b = true := fun q => by have := hT2.2.2.mp q; omega
    rw [jr_wr (show jr ((d : Nat) : Int) by omega)]
    refine jn_ite (fun h => by omega) (fun _ => ?_)
    have f02 : jF (kW_ro 90) σ τ2 := jF_tr hf hf2
    have hC2 : kz_C τ2 65 K rd tk := ⟨kr_Ro_fr hRo f02 (fun i => by unfold kW_ro; omega) (fun i => by unfold kW_ro; omega), (f02.1 _ _ (by unfold kW_ro; omega)).trans hC.2.1, (f02.1 _ _ (by unfold kW_ro; omega)).trans hC.2.2⟩
    have hR2 : kz_RC τ2 c h := by
      obtain ⟨p, p1, p2, ⟨c1, c2⟩, hs⟩ := hR
      refine ⟨p, (f02.1 _ _ (by unfold kW_ro; omega)).trans p1, p2, ⟨(f02.1 _ _ (by unfold kW_ro; omega)).trans c1, c2⟩, fun i hi => ⟨(hs i hi).1, ?_⟩⟩
      have := (hs i hi).2
      exact ⟨fun j hj => (f02.1 _ _ (by unfold kW_ro; omega)).trans (this.1 j hj), (f02.1 _ _ (by unfold kW_ro; omega)).trans this.2.1, (f02.1 _ _ (by unfold kW_ro; omega)).trans this.2.2.1, (f02.1 _ _ (by unfold kW_ro; omega)).trans this.2.2.2⟩
    refine jc_X3_add hR2 hC2 h40 (fun τ3 hf3 hR3 => ?_)
    have hRo4 : kr_Ro τ3 90 K' := kr_Ro_fr hRo3 hf3 (fun i => by unfold kW_ra; omega) (fun i => by unfold kW_ra; omega)
    refine jc_copy rfl rfl (Or.inr (by decide)) hRo4 (by rcases hT2.1 with q | q; (· omega); exact q.2.1.2) (fun τ4 hf4 hRo5 e35 e45 => ?_)
    have e390 : τ3.1 90 3 = rd + (d : Nat) := by
      rw [hf3.1 _ _ (by unfold kW_ra; omega)]
      exact e33.trans (by rw [show τ.1 90 3 = rd from e3.trans hC.2.1])
    have e490 : τ3.1 90 4 = tk + 1 := by
      rw [hf3.1 _ _ (by unfold kW_ra; omega)]
      exact e44.trans (by rw [if_neg hb, show τ.1 90 4 = tk from e4.trans hC.2.2])
    refine k2 hmay b d K' hz τ4 (jF_tr (jF_mono f02 (fun c i q => Or.inl q)) (jF_tr (jF_mono hf3 (fun c i q => Or.inr (Or.inr q))) (jF_mono hf4 (fun c i q => Or.inr (Or.inl q))))) ⟨hRo5, e35.trans e390, e45.trans e490⟩ ?_
    obtain ⟨p, p1, p2, ⟨c1, c2⟩, hs⟩ := hR3
    refine ⟨p, (hf4.1 _ _ (by unfold kW_ro; omega)).trans p1, p2, ⟨(hf4.1 _ _ (by unfold kW_ro; omega)).trans c1, c2⟩, fun i hi => ⟨(hs i hi).1, ?_⟩⟩
    have := (hs i hi).2
    exact ⟨fun j hj => (hf4.1 _ _ (by unfold kW_ro; omega)).trans (this.1 j hj), (hf4.1 _ _ (by unfold kW_ro; omega)).trans this.2.1, (hf4.1 _ _ (by unfold kW_ro; omega)).trans this.2.2.1, (hf4.1 _ _ (by unfold kW_ro; omega)).trans this.2.2.2⟩
theorem jm_read (hG : ku_MG σ g) (hN : kz_N σ K rd tk) (hK : kr_OK g K) (hR : kz_RM σ c h) (hx : jr x) (k0 : ¬ kv_may g x → ∀ τ, τ = jg_sI σ 92 2 0 → KI (-1) τ)
    (k1 : kv_may g x → kr_take g x K = none → ∀ τ, jF (fun c i => kW_ge c i ∨ kW_co c i) σ τ → τ.1 92 2 = 0 → KI (-2) τ)
    (k2 : kv_may g x → ∀ b d K', kr_take g x K = some (b, d, K') → ∀ τ, jF kW_rm σ τ → τ.1 92 2 = 0 → kz_N τ K' (rd + (d : Nat)) (tk + 1) → kz_RM τ (min (c + 1) 20) (kz_ph c h (K, rd, tk)) → KI (d : Nat) τ) : jg_CI w 2 mm_X12_read [.ref 92, .int (.ofInt x)] σ KI := by
  have hW := hG.1.1.1.1
  have hw := hW.1
  have h40 := kr_OK_le hK
  refine jb_X12_read_0 rfl ?_
  intro τ hτ
  have h2 := ku_ge2 hτ
  have hM := ku_MG_ge hG h2.1
  obtain ⟨n1, n2, n3⟩ := ku_MN hM
  refine jm_isToken hM.1.2.1.2.1 (by omega) ?_
  rw [jr_wr hx]
  refine jn_if (fun hno => ?_) (fun hyes => ?_)
  · exact k0 (fun q => hno q.1) τ hτ
  rw [n1, jr_wr (show jr (ku_n g) by omega)]
  refine jn_ite (fun hz => ?_) (fun hnz => ?_)
  · exact k0 (fun q => by have := q.2; omega) τ hτ
  have hpos : 0 < ku_n g := by omega
  have hmay : kv_may g x := ⟨hyes, hpos⟩
  obtain ⟨n4, n5, nF, _⟩ := n3 hpos
  have hok : kr_ok g K := by rcases hK with q | q; (· omega); exact q.2
  have hN2 : kz_N τ K rd tk := ⟨kr_No_fr hN.1 h2.1 (by unfold kW_ge; omega) (fun i => by unfold kW_ge; omega), (h2.1.1 _ _ (by unfold kW_ge; omega)).trans hN.2.1, (h2.1.1 _ _ (by unfold kW_ge; omega)).trans hN.2.2⟩
  refine jm_fromNow hN2.1.1 h40 hN2.1.2 (fun τ2 hf2 hMo => ?_)
  have hM2 : ku_MG τ2 g := ku_MG_fr hM hf2 (fun c i q1 q2 => by unfold kW_mg kW_m0 at q1; unfold kW_co at q2; omega)
  have f02 : jF (fun c i => kW_ge c i ∨ kW_co c i) σ τ2 := jF_tr (jF_mono h2.1 (fun c i q => Or.inl q)) (jF_mono hf2 (fun c i q => Or.inr q))
  refine jm_comes hW nF (ku_MV hM2 hpos) hMo hok ⟨by omega, by omega⟩ (fun hz τ3 hf3 => ?_) (fun b d K' hz τ3 hf3 hMo3 e55 _ => ?_)
  · exact jn_ite (fun _ => k1 hmay hz τ3 (jF_tr f02 (jF_mono hf3 (fun c i q => Or.inr q))) (by rw [hf3.1 _ _ (fun q => by unfold kW_co at q; omega), hf2.1 _ _ (fun q => by unfold kW_co at q; omega)]; exact h2.2)) (fun h => absurd rfl h)
  · refine jn_ite (fun h => absurd h (by decide)) (fun _ => ?_)
    have f03 : jF (fun c i => kW_ge c i ∨ kW_co c i) σ τ3 := jF_tr f02 (jF_mono hf3 (fun c i q => Or.inr q))
    have f13 : jF kW_co τ τ3 := jF_tr hf2 hf3
    have hN3 : kz_N τ3 K rd tk := ⟨kr_No_fr hN2.1 f13 (by unfold kW_co; omega) (fun i => by unfold kW_co; omega), (f13.1 _ _ (by unfold kW_co; omega)).trans hN2.2.1, (f13.1 _ _ (by unfold kW_co; omega)).trans hN2.2.2⟩
    have hR3 : kz_RM τ3 c h := by
      obtain ⟨⟨r1, r2⟩, r3⟩ := hR
      refine ⟨⟨(f03.1 _ _ (by unfold kW_ge kW_co; omega)).trans r1, r2⟩, fun i hi => ⟨(r3 i hi).1, ?_⟩⟩
      have := (r3 i hi).2
      exact ⟨fun j hj => (f03.1 _ _ (by unfold kW_ge kW_co; omega)).trans (this.1 j hj), (f03.1 _ _ (by unfold kW_ge kW_co; omega)).trans this.2.1, (f03.1 _ _ (by unfold kW_ge kW_co; omega)).trans this.2.2.1, (f03.1 _ _ (by unfold kW_ge kW_co; omega)).trans this.2.2.2⟩
    refine jm_remember hR3 hN3 h40 (fun τ4 hf4 hR4 => ?_)
    have hd := (kr_tk_ok hW nF (t := x) ⟨by omega, by omega⟩ hok hz)
    have hK40 : K'.1 ≤ 40 := hd.1.1.2
    have e55' : τ4.1 92 55 = (d : Nat) := (hf4.1 _ _ (by unfold kW_rb; omega)).trans e55
    have e54' : τ4.1 92 54 = (K'.1 : Nat) := (hf4.1 _ _ (by unfold kW_rb; omega)).trans hMo3.1
    have eS : ∀ i : Nat, i < K'.1 → τ4.1 (92 + 37) (i : Int) = K'.2 i := fun i hi => (hf4.1 _ _ (by unfold kW_rb; omega)).trans (hMo3.2 i hi)
    have e60' : τ4.1 92 60 = rd := (hf4.1 _ _ (by unfold kW_rb; omega)).trans hN3.2.1
    have e59' : τ4.1 92 59 = tk := (hf4.1 _ _ (by unfold kW_rb; omega)).trans hN3.2.2
    have hloop : ∀ (m k : Nat) (τ5 : jg_M), k + m = K'.1 → jF (fun c i => c = 92 + 38) τ4 τ5 → (∀ i : Nat, i < k → τ5.1 (92 + 38) i = K'.2 i) → jg_GI w 2 mm_X12_read 46 [.ref 92, .int (.ofInt x), .int (.ofInt (k : Int))] τ5 KI := by
      intro m
      induction m with
      | zero =>
        intro k τ5 hkm hf5 hz5
        refine jb_X12_read_46 rfl ?_
        have v54 : τ5.1 92 54 = (K'.1 : Nat) := (hf5.1 _ _ (by omega)).trans e54'
        rw [v54, jr_wr (show jr ((K'.1 : Nat) : Int) by omega), jr_wr (show jr (k : Int) by omega)]
        refine jn_ite (fun _ => ?_) (fun h => by omega)
        intro τ6 h6 τ7 h7 τ8 h8
        have v59 : τ6.1 92 59 = tk := by rw [h6, js_In (Or.inr (by decide)), hf5.1 _ _ (by omega)]; exact e59'
        have v60 : τ7.1 92 60 = rd := by rw [h7, js_In (Or.inr (by decide)), h6, js_In (Or.inr (by decide)), hf5.1 _ _ (by omega)]; exact e60'
        have v55 : τ7.1 92 55 = (d : Nat) := by rw [h7, js_In (Or.inr (by decide)), h6, js_In (Or.inr (by decide)), hf5.1 _ _ (by omega)]; exact e55'
        rw [v59] at h7
        rw [v60, v55] at h8
        have f8 : jF (fun c i => c = 92 ∧ 58 ≤ i ∧ i ≤ 60) τ5 τ8 := by
          rw [h8, h7, h6]
          exact jF_toI (jF_toI (jF_I ⟨rfl, by omega, by omega⟩) ⟨rfl, by omega, by omega⟩) ⟨rfl, by omega, by omega⟩
        have v8 : τ8.1 92 55 = (d : Nat) := (f8.1 _ _ (by omega)).trans ((hf5.1 _ _ (by omega)).trans e55')
        rw [v8]
        have f48 : jF kW_tw τ4 τ8 := jF_tr (jF_mono hf5 (fun c i q => by unfold kW_tw; omega)) (jF_mono f8 (fun c i q => by unfold kW_tw; omega))
        refine k2 hmay b d K' hz τ8 (jF_tr (jF_mono f03 (fun c i q => by unfold kW_rm; rcases q with q | q; (· exact Or.inl q); exact Or.inr (Or.inl q))) (jF_tr (jF_mono hf4 (fun c i q => Or.inr (Or.inr (Or.inl q)))) (jF_mono f48 (fun c i q => Or.inr (Or.inr (Or.inr q)))))) ?_ ⟨⟨?_, fun i hi => ?_⟩, ?_, ?_⟩ ?_
        · rw [f48.1 _ _ (by unfold kW_tw; omega), hf4.1 _ _ (by unfold kW_rb; omega), f13.1 _ _ (by unfold kW_co; omega)]; exact h2.2
        · rw [h8, js_In (Or.inr (by decide)), h7, js_In (Or.inr (by decide)), h6, js_Is]
        · rw [f8.1 _ _ (by omega)]; exact hz5 i (by omega)
        · rw [h8, js_Is]
        · rw [h8, js_In (Or.inr (by decide)), h7, js_Is]
        · obtain ⟨⟨r1, r2⟩, r3⟩ := hR4
          refine ⟨⟨(f48.1 _ _ (by unfold kW_tw; omega)).trans r1, r2⟩, fun i hi => ⟨(r3 i hi).1, ?_⟩⟩
          have := (r3 i hi).2
          exact ⟨fun j hj => (f48.1 _ _ (by unfold kW_tw; omega)).trans (this.1 j hj), (f48.1 _ _ (by unfold kW_tw; omega)).trans this.2.1, (f48.1 _ _ (by unfold kW_tw; omega)).trans this.2.2.1, (f48.1 _ _ (by unfold kW_tw; omega)).trans this.2.2.2⟩
      | succ m ih =>
        intro k τ5 hkm hf5 hz5
        refine jb_X12_read_46 rfl ?_
        have v54 : τ5.1 92 54 = (K'.1 : Nat) := (hf5.1 _ _ (by omega)).trans e54'
        rw [v54, jr_wr (show jr ((K'.1 : Nat) : Int) by omega), jr_wr (show jr (k : Int) by omega)]
        refine jn_ite (fun h => by omega) (fun _ => ⟨by omega, by omega, ?_⟩)
        intro τ6 h6
        rw [hf5.1 _ _ (by omega), eS k (by omega)] at h6
        have hf6 : jF (fun c i => c = 92 + 38 ∧ i = k) τ5 τ6 := by rw [h6]; exact jF_I ⟨rfl, rfl⟩
        rw [show (k : Int) + 1 = ((k + 1 : Nat) : Int) by omega]
        refine ih (k + 1) τ6 (by omega) (jF_tr hf5 (jF_mono hf6 (fun c i q => q.1))) (fun i hi => ?_)
        by_cases hik : i = k
        · rw [hik, h6]; exact js_Is
        · rw [hf6.1 _ _ (by omega)]; exact hz5 i (by omega)
    exact hloop K'.1 0 τ4 (by omega) jF_rf (fun i hi => by omega)
end KZE
