/-! READ, in both: the whole call -/
def kv_may (g : gM) (x : Int) : Prop := (0 ≤ x ∧ x < g 0 0) ∧ 0 < ku_n g
def kW_rc (c : Nat) (i : Int) : Prop := kW_ro 90 c i ∨ kW_ro 65 c i ∨ kW_ra c i
def kW_rm (c : Nat) (i : Int) : Prop := kW_ge c i ∨ kW_co c i ∨ kW_rb c i ∨ kW_tw c i
section KZE
variable {w : Nat} {σ τ : jg_M} {c T : Nat} {h : kz_H} {g : gM} {K : kr_K} {n x o rd tk : Int} {KV : jg_M → Prop} {KI : Int → jg_M → Prop}
theorem jc_read (hG : ku_CG σ T g) (hC : kz_C σ 65 K rd tk) (hK : kr_OK g K) (hR : kz_RC σ c h) (hx : jr x) (k0 : ¬ kv_may g x → KI (-1) σ)
    (k1 : kv_may g x → kr_take g x K = none → ∀ τ, jF (kW_ro 90) σ τ → KI (-2) τ)
    (k2 : kv_may g x → ∀ b d K', kr_take g x K = some (b, d, K') → ∀ τ, jF kW_rc σ τ → kz_C τ 65 K' (rd + (d : Nat)) (tk + 1) → kz_RC τ (min (c + 1) 20) (kz_ph c h (K, rd, tk)) → KI (d : Nat) τ) : jg_CI w 4 mm_X11_read [.ref 0, .int (.ofInt x)] σ KI := by
  have sh := ku_sh hG.1.1
  have hT := hG.1.1
  have hW := hG.2.1.1.1.1
  have hw := hW.1
  have h40 := kr_OK_le hK
  obtain ⟨n1, n2, n3⟩ := ku_CN hG
  refine jb_X11_read_0 rfl ?_
  rw [hG.1.2.1]
  intro r er
  rw [show r = T by omega]
  refine ⟨sh.1, jc_X0_hasToken sh.2.2 hG.2.2.1.1.1 hW hx (jn_if (fun hno => ?_) (fun hyes => ?_))⟩
  · exact k0 (fun q => hno q.1)
  refine jc_hasStates hG (jn_if (fun hno => ?_) (fun hpos => ?_))
  · exact k0 (fun q => hno q.2)
  have hmay : kv_may g x := ⟨hyes, hpos⟩
  obtain ⟨n4, n5, nF, _⟩ := n3 hpos
  have hok : kr_ok g K := by rcases hK with q | q; (· omega); exact q.2
  have hRo := hC.1
  refine jc_copy rfl rfl (Or.inl (by decide)) hRo h40 (fun τ hf hRo2 e3 e4 => ?_)
  have h' : ku_CG τ T g := ku_CG_fr hG hf (by unfold kW_ro; omega) (by unfold kW_ro; omega) (fun c i q => by unfold kW_ro; omega)
  rw [h'.1.2.1]
  intro r1 er1
  rw [show r1 = T by omega]
  refine ⟨sh.1, ?_⟩
  have eT : kr_T g x K = kr_take g x K := by unfold kr_T; rw [if_neg (by omega)]
  refine jc_take rfl sh.1 sh.2.2 sh.2.1 (by omega) (kr_CW_of hW h'.2.2.1) hRo2 hK ⟨by omega, by omega⟩ (fun hz τ2 hf2 => ?_) (fun b d K' hz τ2 hf2 hRo3 e33 e44 => ?_)
  · rw [eT] at hz
    exact jn_ite (fun _ => k1 hmay hz τ2 (jF_tr hf hf2)) (fun h => absurd (by decide) h)
  · rw [eT] at hz
    have hd := (kr_tk_ok hW nF ⟨by omega, by omega⟩ hok hz)
    have hT2 := (kr_T_ok (kr_CW_of hW h'.2.2.1) hK (t := x) ⟨by omega, by omega⟩ (eT.trans hz))
    have hb : ¬ b = true := fun q => by have := hT2.2.2.mp q; omega
    rw [jr_wr (show jr ((d : Nat) : Int) by omega)]
    refine jn_ite (fun h => by omega) (fun _ => ?_)
    have f02 : jF (kW_ro 90) σ τ2 := jF_tr hf hf2
    have hC2 : kz_C τ2 65 K rd tk := ⟨kr_Ro_fr hRo f02 (fun i => by unfold kW_ro; omega) (fun i => by unfold kW_ro; omega), (f02.1 _ _ (by unfold kW_ro; omega)).trans hC.2.1, (f02.1 _ _ (by unfold kW_ro; omega)).trans hC.2.2⟩
    have hR2 : kz_RC τ2 c h := by
      obtain ⟨p, p1, p2, ⟨c1, c2⟩, hs⟩ := hR
      refine ⟨p, (f02.1 _ _ (by unfold kW_ro; omega)).trans p1, p2, ⟨(f02.1 _ _ (by unfold kW_ro; omega)).trans c1, c2⟩, fun i hi => ⟨(hs i hi).1, ?_⟩⟩
      have := (hs i hi).2
      exact ⟨fun j hj => (f02.1 _ _ (by unfold kW_ro; omega)).trans (this.1 j hj), (f02.1 _ _ (by unfold kW_ro; omega)).trans this.2.1, (f02.1 _ _ (by unfold kW_ro; omega)).trans this.2.2.1, (f02.1 _ _ (by unfold kW_ro; omega)).trans this.2.2.2⟩
    refine jc_X3_add hR2 hC2 h40 (fun τ3 hf3 hR3 => ?_)
    have hRo4 : kr_Ro τ3 90 K' := kr_Ro_fr hRo3 hf3 (fun i => by unfold kW_ra; omega) (fun i => by unfold kW_ra; omega)
    refine jc_copy rfl rfl (Or.inr (by decide)) hRo4 (by rcases hT2.1 with q | q; (· omega); exact q.2.1.2) (fun τ4 hf4 hRo5 e35 e45 => ?_)
    have e390 : τ3.1 90 3 = rd + (d : Nat) := by
      rw [hf3.1 _ _ (by unfold kW_ra; omega)]
      exact e33.trans (by rw [show τ.1 90 3 = rd from e3.trans hC.2.1])
    have e490 : τ3.1 90 4 = tk + 1 := by
      rw [hf3.1 _ _ (by unfold kW_ra; omega)]
      exact e44.trans (by rw [if_neg hb, show τ.1 90 4 = tk from e4.trans hC.2.2])
    refine k2 hmay b d K' hz τ4 (jF_tr (jF_mono f02 (fun c i q => Or.inl q)) (jF_tr (jF_mono hf3 (fun c i q => Or.inr (Or.inr q))) (jF_mono hf4 (fun c i q => Or.inr (Or.inl q))))) ⟨hRo5, e35.trans e390, e45.trans e490⟩ ?_
    obtain ⟨p, p1, p2, ⟨c1, c2⟩, hs⟩ := hR3
    refine ⟨p, (hf4.1 _ _ (by unfold kW_ro; omega)).trans p1, p2, ⟨(hf4.1 _ _ (by unfold kW_ro; omega)).trans c1, c2⟩, fun i hi => ⟨(hs i hi).1, ?_⟩⟩
    have := (hs i hi).2
    exact ⟨fun j hj => (hf4.1 _ _ (by unfold kW_ro; omega)).trans (this.1 j hj), (hf4.1 _ _ (by unfold kW_ro; omega)).trans this.2.1, (hf4.1 _ _ (by unfold kW_ro; omega)).trans this.2.2.1, (hf4.1 _ _ (by unfold kW_ro; omega)).trans this.2.2.2⟩
end KZE
