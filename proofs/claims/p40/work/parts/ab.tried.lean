/-! TRIED, in both -/
noncomputable def kt_lm (g : gM) (y : Int) : Nat → Nat := if g 0 1 = 0 then fun _ => 0 else jn_lm g (kg_S g) (kg_L g) (kg_fo g) y
def kt_pos (g : gM) : Prop := g 0 1 = 0 ∨ (0 < g 0 1 ∧ ∃ S, jn_all g = some S)
noncomputable def kt_tend (g : gM) (y : Int) : Int := @ite Int (kt_pos g) (Classical.propDecidable _) (jn_ls (kt_lm g y) 6144 : Nat) (-2)
def kt_v (g : gM) (x i : Int) : gM := if x = 0 then (fun a k => if a = 1 then 0 else g a k) else if x = 1 then (fun a k => if a = 2 then 1 else g a k) else if x = 2 then kp_o g i else if x = 3 then (fun a k => if a = 0 ∧ k = 3 then i else g a k) else g
def kt_can (g : gM) (x i : Int) : Prop := ((x = 0 ∨ x = 1 ∨ x = 4) ∧ i = 0) ∨ (x = 2 ∧ 0 ≤ i ∧ i < g 0 2) ∨ (x = 3 ∧ 0 ≤ i ∧ i < g 0 1)
noncomputable def kv_tried (g : gM) (x i : Int) : Int := @ite Int (kt_can g x i) (Classical.propDecidable _) (kt_tend (kt_v g x i) (if x = 4 then 1 else 0)) (-1)
def kW_td (T' : Nat) (c : Nat) (i : Int) : Prop := T' + 1 ≤ c ∧ c ≤ T' + 21
section KTA
variable {w : Nat} {σ τ : jg_M} {T T' G : Nat} {g : gM} {x y i : Int} {KV : jg_M → Prop} {KI : Int → jg_M → Prop}
theorem kt_TL (hW : jn_GW g) (h : kg_CT σ T g y) : ∃ n, jn_TL σ T n (kt_lm g y) := by
  have hw := hW.1
  unfold kt_lm
  by_cases h0 : g 0 1 = 0
  · rw [if_pos h0]
    rcases h.2.2 with q | q
    · exact ⟨0, q.2.1, by decide, fun c hc => (q.2.2 c (by omega) (by omega)).2, fun _ => by show 0 < 4096; decide, fun _ _ => rfl⟩
    · omega
  · rw [if_neg h0]
    rcases h.2.2 with q | q
    · omega
    · have hI := q.2.2.1.1.1
      exact ⟨_, jn_TL_of q.2.2.2.2.1.1.1 (by omega) q.2.2.2.2.2.2⟩
theorem kt_pos_of (h0 : 0 < g 0 1) (h : jn_all g = none) : ¬ kt_pos g := fun q => by
  rcases q with q | ⟨_, S, q⟩
  · omega
  · rw [h] at q; cases q
theorem jc_tend (hT' : T' = 4 ∨ T' = 26) (hW : jn_GW g) (hG : jn_Gr σ (T' + 1) g) (hy : y = 0 ∨ y = 1) (h4 : σ.1 0 4 = (T' : Nat)) (hk : ∀ τ, jF (jW_tm T') σ τ → KI (kt_tend g y) τ) :
    jg_CI w 5 mm_X8_make [.ref T', .int (.ofInt y)] σ (fun (z : Int) (m : jg_M) => (if jg_wr z = 0 then KI (-2) m else ∀ r : Nat, r = (m.1 0 4).toNat → jg_sh r = (8, 0) ∧ jg_CI w 1 mm_X8_conflictCount [.ref r] m (fun (z2 : Int) (m2 : jg_M) => KI z2 m2))) := by
  have sh' := ku_sh hT'
  have s4 : jg_sh (T' + 20) = (20, 384) := by rcases hT' with rfl | rfl <;> rfl
  have s5 : jg_sh (T' + 21) = (20, 384) := by rcases hT' with rfl | rfl <;> rfl
  refine jc_X8_make sh'.1 sh'.2.2 sh'.2.1 s4 s5 hW hG (by omega) (fun q0 q1 τ f => ?_) (fun q τ f hR => ?_)
  · refine jn_ite (fun _ => ?_) (fun h => absurd rfl h)
    have := hk τ f
    unfold kt_tend at this
    rw [if_neg (kt_pos_of q0 q1)] at this
    exact this
  · refine jn_ite (fun h => absurd h (by decide)) (fun _ => ?_)
    rw [f.1 _ _ (by unfold jW_tm; omega), h4]
    intro r er
    rw [show r = T' by omega]
    obtain ⟨n, hTL⟩ := kt_TL hW (kg_CT_of hW hR)
    refine ⟨sh'.1, jc_X8_conflictCount sh'.1 hTL ?_⟩
    have := hk τ f
    unfold kt_tend at this
    rw [if_pos (show kt_pos g from q)] at this
    exact this
theorem kt_v0_GW (hW : jn_GW g) : jn_GW (fun a k => if a = 1 then 0 else g a k) := by
  refine ⟨hW.1, hW.2.1, fun t t0 t1 => ⟨?_, (hW.2.2 t t0 t1).2⟩⟩
  show (0 ≤ (0 : Int) ∧ (0 : Int) ≤ 9)
  decide
theorem kt_v1_GW (hW : jn_GW g) : jn_GW (fun a k => if a = 2 then 1 else g a k) := by
  refine ⟨hW.1, hW.2.1, fun t t0 t1 => ⟨(hW.2.2 t t0 t1).1, ?_⟩⟩
  show (0 ≤ (1 : Int) ∧ (1 : Int) ≤ 2)
  decide
theorem kt_v3_GW (hW : jn_GW g) (hi : 0 ≤ i ∧ i < g 0 1) : jn_GW (fun a k => if a = 0 ∧ k = 3 then i else g a k) := by
  have hw := hW.1
  refine ⟨⟨hW.1.1, hW.1.2.1, hW.1.2.2.1, ?_, hW.1.2.2.2.2⟩, hW.2.1, hW.2.2⟩
  show 0 ≤ i ∧ i < 5 ∧ (g 0 1 = 0 ∨ i < g 0 1)
  omega
theorem jc_canTry (h : ku_CG σ T g) (hx : jr x) (hi : jr i) (hk : KI (jn_b (kt_can g x i)) σ) : jg_CI w 1 mm_X11_canTry [.ref 0, .int (.ofInt x), .int (.ofInt i)] σ KI := by
  have sh := ku_sh h.1.1
  have hT := h.1.1
  have hW := h.2.1.1.1.1
  have hw := hW.1
  have h1 : kt_can g x i → KI 1 σ := fun q => by rw [jn_b_t q] at hk; exact hk
  have h0 : ¬ kt_can g x i → KI 0 σ := fun q => by rw [jn_b_f q] at hk; exact hk
  refine jb_X11_canTry_0 rfl ?_
  rw [jr_wr hx, jr_wr hi]
  refine jn_ite (fun e => jn_ite (fun e2 => h1 (Or.inl ⟨by omega, e2⟩)) (fun e2 => h0 (fun q => by unfold kt_can at q; omega))) (fun n0 => ?_)
  refine jn_ite (fun e => jn_ite (fun e2 => h1 (Or.inl ⟨by omega, e2⟩)) (fun e2 => h0 (fun q => by unfold kt_can at q; omega))) (fun n1 => ?_)
  rw [h.1.2.1]
  refine jn_ite (fun e => ?_) (fun n2 => jn_ite (fun e => ?_) (fun n3 => jn_ite (fun e => jn_ite (fun e2 => h1 (Or.inl ⟨by omega, e2⟩)) (fun e2 => h0 (fun q => by unfold kt_can at q; omega))) (fun n4 => h0 (fun q => by unfold kt_can at q; omega))))
  · intro r er
    rw [show r = T by omega]
    refine ⟨sh.1, jc_X0_hasRule sh.2.2 h.2.2.1.1.1 hW hi ⟨jn_b_rng _, ?_⟩⟩
    rw [jn_b_eq (q := kt_can g x i) ⟨fun q => Or.inr (Or.inl ⟨e, q⟩), fun q => by unfold kt_can at q; omega⟩]
    exact hk
  · intro r er
    rw [show r = T by omega]
    refine ⟨sh.1, jc_X0_hasKind sh.2.2 h.2.2.1.1.1 hW hi ⟨jn_b_rng _, ?_⟩⟩
    rw [jn_b_eq (q := kt_can g x i) ⟨fun q => Or.inr (Or.inr ⟨e, q⟩), fun q => by unfold kt_can at q; omega⟩]
    exact hk
theorem jc_tried (h : ku_CG σ T g) (hx : jr x) (hi : jr i) (hk : ∀ τ, jF (kW_td (30 - T)) σ τ → KI (kv_tried g x i) τ) : jg_CI w 6 mm_X11_tried [.ref 0, .int (.ofInt x), .int (.ofInt i)] σ KI := by
  have sh := ku_sh h.1.1
  have hT := h.1.1
  obtain ⟨T', hT'⟩ : ∃ T', 30 - T = T' := ⟨_, rfl⟩
  rw [hT'] at hk
  have hTT : T' = 4 ∨ T' = 26 := by omega
  have sh' := ku_sh hTT
  have hW := h.2.1.1.1.1
  have hw := hW.1
  refine jb_X11_tried_0 rfl (jc_canTry h hx hi (jn_if (fun hno => ?_) (fun hyes => ?_)))
  · have := hk σ jF_rf
    unfold kv_tried at this
    rw [if_neg hno] at this
    exact this
  rw [h.1.2.1, h.1.2.2]
  intro r1 e1
  rw [show r1 = T' by omega]
  refine ⟨sh'.1, ?_⟩
  intro r2 e2
  rw [show r2 = T by omega]
  refine ⟨sh.1, jc_X0_copy sh'.2.2 sh.2.2 (by omega) (fun τa fa c1 c2 c3 c4 => ?_)⟩
  have hGr : jn_Gr σ (T + 1) g := kt_GC_Gr h.2.1.2 (Int.le_refl _) hW
  have hGa := kp_copy_Gr hW hGr c1 c2 c3 c4
  have hfa : jF (kW_td T') σ τa := jF_mono fa (fun c i q => by unfold kW_gc at q; unfold kW_td; omega)
  rw [jr_wr hx]
  have hfin : ∀ (τ : jg_M), jF (kW_td T') σ τ → jn_GW (kt_v g x i) → jn_Gr τ (T' + 1) (kt_v g x i) → ∀ r : Nat, r = (τ.1 0 4).toNat → jg_sh r = (8, 0) ∧ (if x = 4 then jg_CI w 5 mm_X8_make [.ref r, .int (.ofInt 1)] τ (fun (z : Int) (m : jg_M) => (if jg_wr z = 0 then KI (-2) m else ∀ r : Nat, r = (m.1 0 4).toNat → jg_sh r = (8, 0) ∧ jg_CI w 1 mm_X8_conflictCount [.ref r] m (fun (z2 : Int) (m2 : jg_M) => KI z2 m2))) else jg_CI w 5 mm_X8_make [.ref r, .int (.ofInt 0)] τ (fun (z : Int) (m : jg_M) => (if jg_wr z = 0 then KI (-2) m else ∀ r : Nat, r = (m.1 0 4).toNat → jg_sh r = (8, 0) ∧ jg_CI w 1 mm_X8_conflictCount [.ref r] m (fun (z2 : Int) (m2 : jg_M) => KI z2 m2)))) := fun τ hf hWv hGv r er => by
    have e4 : τ.1 0 4 = (T' : Nat) := by rw [hf.1 _ _ (by unfold kW_td; omega), h.1.2.2]; omega
    rw [e4] at er
    rw [show r = T' by omega]
    have hend : ∀ τ2, jF (jW_tm T') τ τ2 → KI (kt_tend (kt_v g x i) (if x = 4 then 1 else 0)) τ2 := fun τ2 f2 => by
      have := hk τ2 (jF_tr hf (jF_mono f2 (fun c i q => by unfold jW_tm at q; unfold kW_td; omega)))
      unfold kv_tried at this
      rw [if_pos hyes] at this
      exact this
    refine ⟨sh'.1, jn_ite (fun e => ?_) (fun e => ?_)⟩
    · rw [if_pos e] at hend
      exact jc_tend hTT hWv hGv (Or.inr rfl) e4 hend
    · rw [if_neg e] at hend
      exact jc_tend hTT hWv hGv (Or.inl rfl) e4 hend
  refine jn_ite (fun e => ?_) (fun n0 => jn_ite (fun e => ?_) (fun n1 => jn_ite (fun e => ?_) (fun n2 => jn_ite (fun e => ?_) (fun n3 => ?_))))
  · have ev : kt_v g x i = (fun a k => if a = 1 then 0 else g a k) := by unfold kt_v; rw [if_pos e]
    rw [ev] at hfin
    refine jc_fill (jg_sX0_6 sh'.2.2) (by decide) (fun τb fb zb => hfin τb (jF_tr hfa (jF_mono fb (fun c i q => by unfold kW_td; omega))) (kt_v0_GW hW) ?_)
    obtain ⟨a, b, d⟩ := hGa
    exact ⟨⟨(fb.1 _ _ (by omega)).trans a.1, (fb.1 _ _ (by omega)).trans a.2.1, (fb.1 _ _ (by omega)).trans a.2.2.1, (fb.1 _ _ (by omega)).trans a.2.2.2.1, (fb.1 _ _ (by omega)).trans a.2.2.2.2⟩, fun r r0 r1 => ⟨(fb.1 _ _ (by omega)).trans (b r r0 r1).1, (fb.1 _ _ (by omega)).trans (b r r0 r1).2.1, fun k k0 k1 => (fb.1 _ _ (by omega)).trans ((b r r0 r1).2.2 k k0 k1)⟩, fun t t0 t1 => ⟨zb t t0 (by have t1' : t < g 0 0 := t1; omega), (fb.1 _ _ (by omega)).trans (d t t0 t1).2⟩⟩
  · have ev : kt_v g x i = (fun a k => if a = 2 then 1 else g a k) := by unfold kt_v; rw [if_neg n0, if_pos e]
    rw [ev] at hfin
    refine jc_fill (jg_sX0_7 sh'.2.2) (by decide) (fun τb fb zb => hfin τb (jF_tr hfa (jF_mono fb (fun c i q => by unfold kW_td; omega))) (kt_v1_GW hW) ?_)
    obtain ⟨a, b, d⟩ := hGa
    exact ⟨⟨(fb.1 _ _ (by omega)).trans a.1, (fb.1 _ _ (by omega)).trans a.2.1, (fb.1 _ _ (by omega)).trans a.2.2.1, (fb.1 _ _ (by omega)).trans a.2.2.2.1, (fb.1 _ _ (by omega)).trans a.2.2.2.2⟩, fun r r0 r1 => ⟨(fb.1 _ _ (by omega)).trans (b r r0 r1).1, (fb.1 _ _ (by omega)).trans (b r r0 r1).2.1, fun k k0 k1 => (fb.1 _ _ (by omega)).trans ((b r r0 r1).2.2 k k0 k1)⟩, fun t t0 t1 => ⟨(fb.1 _ _ (by omega)).trans (d t t0 t1).1, zb t t0 (by have t1' : t < g 0 0 := t1; omega)⟩⟩
  · have ev : kt_v g x i = kp_o g i := by unfold kt_v; rw [if_neg n0, if_neg n1, if_pos e]
    rw [ev] at hfin
    have hin : 0 ≤ i ∧ i < g 0 2 := by unfold kt_can at hyes; omega
    intro τb eb
    exact hfin τb (jF_tr hfa (by rw [eb]; exact jF_I (by unfold kW_td; omega))) (kp_o_GW hW ⟨by omega, hin.2⟩) (by rw [eb]; exact kp_out_Gr hGa)
  · have ev : kt_v g x i = (fun a k => if a = 0 ∧ k = 3 then i else g a k) := by unfold kt_v; rw [if_neg n0, if_neg n1, if_neg n2, if_pos e]
    rw [ev] at hfin
    have hin : 0 ≤ i ∧ i < g 0 1 := by unfold kt_can at hyes; omega
    intro τb eb
    have fb : jF (fun c k => c = T' + 1 ∧ k = 3) τa τb := by rw [eb]; exact jF_I ⟨rfl, rfl⟩
    refine hfin τb (jF_tr hfa (jF_mono fb (fun c i q => by unfold kW_td; omega))) (kt_v3_GW hW hin) ?_
    obtain ⟨a, b, d⟩ := hGa
    exact ⟨⟨(fb.1 _ _ (by omega)).trans a.1, (fb.1 _ _ (by omega)).trans a.2.1, (fb.1 _ _ (by omega)).trans a.2.2.1, by rw [eb]; exact js_Is, (fb.1 _ _ (by omega)).trans a.2.2.2.2⟩, fun r r0 r1 => ⟨(fb.1 _ _ (by omega)).trans (b r r0 r1).1, (fb.1 _ _ (by omega)).trans (b r r0 r1).2.1, fun k k0 k1 => (fb.1 _ _ (by omega)).trans ((b r r0 r1).2.2 k k0 k1)⟩, fun t t0 t1 => ⟨(fb.1 _ _ (by omega)).trans (d t t0 t1).1, (fb.1 _ _ (by omega)).trans (d t t0 t1).2⟩⟩
  · have ev : kt_v g x i = g := by unfold kt_v; rw [if_neg n0, if_neg n1, if_neg n2, if_neg n3]
    rw [ev] at hfin
    exact hfin τa hfa hW hGa
end KTA
