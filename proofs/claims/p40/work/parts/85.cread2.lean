/-! READING in the class, with or without STATES -/
noncomputable def kr_T (g : gM) (t : Int) (K : kr_K) : Option (Bool × Nat × kr_K) := if g 0 1 = 0 then none else kr_take g t K
def kr_OK (g : gM) (K : kr_K) : Prop := (g 0 1 = 0 ∧ K.1 = 0) ∨ (0 < g 0 1 ∧ kr_ok g K)
def kr_I (g : gM) : kr_K := if g 0 1 = 0 then (0, fun _ => 0) else kr_K0
def kr_CW (σ : jg_M) (T : Nat) (g : gM) : Prop := (jn_GW g ∧ jn_Gr σ (T + 1) g) ∧ ((g 0 1 = 0 ∧ σ.1 (T + 10) 0 = 0) ∨ (0 < g 0 1 ∧ jn_FP g (kg_S g) ∧ kr_CV σ T g))
section KRD
variable {w : Nat} {σ τ : jg_M} {R R' T n : Nat} {g : gM} {K K' : kr_K} {v k t : Int} {b : Bool} {d : Nat} {KV : jg_M → Prop} {KI : Int → jg_M → Prop}
theorem kr_CW_of (hW : jn_GW g) (h : kg_CT σ T g 0) : kr_CW σ T g := by
  refine ⟨⟨hW, h.1.1⟩, ?_⟩
  have hw := hW.1
  by_cases h0 : g 0 1 = 0
  · refine Or.inl ⟨h0, ?_⟩
    rcases h.2.2 with q | q
    · exact q.2.1
    · omega
  · have := kr_CV_of hW h (by omega)
    exact Or.inr ⟨by omega, this.2.1, this.1⟩
theorem kr_CW_fr {W : Nat → Int → Prop} (h : kr_CW σ T g) (hf : jF W σ τ) (hn : ∀ c i, T + 1 ≤ c → c ≤ T + 21 → ¬ W c i) : kr_CW τ T g := by
  refine ⟨⟨h.1.1, jn_Gr_fr h.1.2 hf (fun i _ => hn _ _ (by omega) (by omega)) (fun k i k1 k2 => hn _ _ (by omega) (by omega))⟩, ?_⟩
  rcases h.2 with q | q
  · exact Or.inl ⟨q.1, (hf.1 _ _ (hn _ _ (by omega) (by omega))).trans q.2⟩
  · exact Or.inr ⟨q.1, q.2.1, kr_CV_fr q.2.2 hf hn⟩
theorem kr_acc {s : Int} (hW : jn_GW g) (hF : jn_FP g (kg_S g)) (h : kr_ac g s t = 3000) : t = g 0 0 := by
  have hI := hF.1.1
  have hmv := hF.1.2.2.1 s t
  refine Classical.byContradiction (fun hne => ?_)
  unfold kr_ac kg_ap jn_AP at h
  rw [jn_acs_not (fun q => hne q.1)] at h
  generalize hm : jn_rm g (kg_S g) (kg_L g) (kg_fo g) 0 s t = m at h
  have hlt : m < 4096 := by rw [← hm]; exact jn_rm_lt
  have hlo : m ≠ 0 → jn_lo m < 12 := fun h0 => (jn_lo_all hlt h0).2.2.1
  have hgo : jn_go g (kg_S g) s t < 48 := by
    unfold jn_go
    rw [if_neg hne]
    omega
  generalize jn_go g (kg_S g) s t = go at *
  unfold jn_ac1 at h
  by_cases h0 : m = 0
  · rw [if_pos h0] at h
    dsimp only at h
    split at h <;> omega
  · have := hlo h0
    rw [if_neg h0] at h
    split at h
    · dsimp only at h; omega
    · dsimp only at h
      split at h
      · omega
      · split at h
        · omega
        · split at h
          · omega
          · split at h <;> omega
theorem kr_tk_acc (hW : jn_GW g) (hF : jn_FP g (kg_S g)) : ∀ {f d : Nat} {K K' : kr_K} {b : Bool} {d' : Nat}, (0 ≤ t ∧ t ≤ g 0 0) → kr_ok g K → kr_tk g t f d K = some (b, d', K') → (b = true ↔ t = g 0 0)
  | 0, _, _, _, _, _, _, _, h => by cases h
  | f + 1, d, K, K', b, d', ht, hK, h => by
    have hw := hW.1
    have h1 := hK.1
    have hs := hK.2.2.1 (K.1 - 1) (by omega)
    rw [show ((K.1 - 1 : Nat) : Int) = (K.1 : Int) - 1 by omega] at hs
    have hc := kr_ac_cases hW hF hs ht
    unfold kr_tk at h
    by_cases ha : kr_ac g (K.2 ((K.1 : Int) - 1)) t = 3000
    · rw [if_pos ha] at h
      cases h
      exact ⟨fun _ => kr_acc hW hF ha, fun _ => rfl⟩
    · rw [if_neg ha] at h
      by_cases hb : kr_ac g (K.2 ((K.1 : Int) - 1)) t < 1000
      · rw [if_pos hb] at h; cases h
      · rw [if_neg hb] at h
        by_cases hsh : kr_ac g (K.2 ((K.1 : Int) - 1)) t < 2000
        · rw [if_pos hsh] at h
          by_cases h40 : K.1 < 40
          · rw [if_pos h40] at h
            cases h
            refine ⟨fun q => (by cases q), fun q => ?_⟩
            rcases hc with q2 | q2 | q2 | ⟨r, q2, _⟩ <;> omega
          · rw [if_neg h40] at h; cases h
        · rw [if_neg hsh] at h
          rcases hc with q | q | q | ⟨r, q, hr, hbit⟩
          · omega
          · omega
          · omega
          · rw [q, show (2000 : Int) + (r : Int) - 2000 = (r : Int) by omega] at h
            have hred := kr_red hW hF hK hr hbit
            have h3 := (hW.2.1 (r : Int) (by omega) hr).1
            by_cases h40 : K.1 - (g 4 r).toNat < 40
            · rw [if_pos h40] at h
              have hk2 := kr_ps_ok hK (n := K.1 - (g 4 r).toNat) ⟨by omega, by omega, h40⟩ ⟨hred.2.1, hred.2.2⟩ (x := 10 + g 3 r) ⟨by omega, by omega⟩ rfl
              exact kr_tk_acc hW hF ht hk2 h
            · rw [if_neg h40] at h; cases h
theorem kr_T_ok (hC : kr_CW σ T g) (hK : kr_OK g K) (ht : 0 ≤ t ∧ t ≤ g 0 0) (h : kr_T g t K = some (b, d, K')) : kr_OK g K' ∧ d ≤ 60 ∧ (b = true ↔ t = g 0 0) := by
  unfold kr_T at h
  by_cases h0 : g 0 1 = 0
  · rw [if_pos h0] at h; cases h
  · rw [if_neg h0] at h
    rcases hC.2 with q | ⟨q1, q2, _⟩
    · omega
    · rcases hK with hK | hK
      · omega
      · have h1 := kr_tk_ok hC.1.1 q2 ht hK.2 h
        exact ⟨Or.inr ⟨q1, h1.1⟩, by omega, kr_tk_acc hC.1.1 q2 ht hK.2 h⟩
theorem kr_OK_le (hK : kr_OK g K) : K.1 ≤ 40 := by
  rcases hK with hK | hK
  · omega
  · exact hK.2.1.2
theorem kr_I_OK (hC : kr_CW σ T g) : kr_OK g (kr_I g) := by
  unfold kr_I
  rcases hC.2 with q | q
  · rw [if_pos q.1]; exact Or.inl ⟨q.1, rfl⟩
  · rw [if_neg (by omega)]; exact Or.inr ⟨q.1, kr_K0_ok q.2.1⟩
theorem jc_take (h0 : jg_sh R = (5, 0)) (hT : jg_sh T = (8, 0)) (h1 : jg_sh (T + 1) = (0, 0)) (h2 : jg_sh (T + 10) = (7, 0)) (hTR : T + 22 ≤ R) (hC : kr_CW σ T g) (hR : kr_Ro σ R K) (hK : kr_OK g K) (ht : 0 ≤ t ∧ t ≤ g 0 0)
    (k0 : kr_T g t K = none → ∀ τ, jF (kW_ro R) σ τ → KI (-2) τ)
    (k1 : ∀ b d K', kr_T g t K = some (b, d, K') → ∀ τ, jF (kW_ro R) σ τ → kr_Ro τ R K' → τ.1 R 3 = σ.1 R 3 + (d : Nat) → τ.1 R 4 = σ.1 R 4 + (if b = true then 0 else 1) → KI (d : Nat) τ) : jg_CI w 3 mm_X5_take [.ref R, .ref T, .int (.ofInt t)] σ KI := by
  have hw := hC.1.1.1
  rcases hC.2 with q | ⟨q1, q2, q3⟩
  · have hK0 : K.1 = 0 := by
      rcases hK with hK | hK
      · exact hK.2
      · omega
    have e : kr_T g t K = none := by unfold kr_T; rw [if_pos q.1]
    refine jb_X5_take_0 h0 hT (jb_X5_take_2 h0 hT ?_)
    refine jn_ite (fun h => absurd h (by decide)) (fun _ => jb_X5_stateBehindLast_0 h0 ?_)
    rw [hR.1, hK0]
    refine jn_ite (fun h => absurd h (by decide)) (fun _ => jn_ite (fun _ => ?_) (fun h => absurd (show jg_wr ((0 : Nat) : Int) ≤ jg_wr 0 by decide) h))
    refine jc_X8_actionFor hT h2 q.2 (by decide) (by decide) (by omega) ?_
    rw [show (if (0 ≤ (-2 : Int) ∧ (-2 : Int) < 0) ∧ 0 ≤ t ∧ t < 8 then σ.1 (T + 20) ((-2) * 8 + t) else 0) = 0 from if_neg (fun h => by omega)]
    have w0 : jg_wr 0 = 0 := rfl
    rw [w0]
    exact jn_ite (fun h => by omega) (fun _ => jn_ite (fun h => by omega) (fun _ => jn_ite (fun _ => k0 e σ jF_rf) (fun h => by omega)))
  · have e : kr_T g t K = kr_take g t K := by unfold kr_T; rw [if_neg (by omega)]
    rw [e] at k0 k1
    rcases hK with hK | hK
    · omega
    · exact jc_X5_take h0 hT h1 h2 hTR hC.1.1 q2 q3 hR hK.2 ht k0 k1
theorem jc_copy (h0 : jg_sh R = (5, 0)) (h1 : jg_sh R' = (5, 0)) (hne : R' + 1 < R ∨ R + 1 < R') (hR : kr_Ro σ R' K) (hK : K.1 ≤ 40) (hk : ∀ τ, jF (kW_ro R) σ τ → kr_Ro τ R K → τ.1 R 3 = σ.1 R' 3 → τ.1 R 4 = σ.1 R' 4 → KV τ) : jg_CV w 1 mm_X5_copy [.ref R, .ref R'] σ KV := by
  refine jb_X5_copy_0 h0 h1 ?_
  intro τ1 hτ1
  have hc : ∀ c i, c ≠ R + 1 → τ1.1 c i = σ.1 c i := fun c i h => by
    rw [hτ1]
    show (if _ then _ else _) = _
    rw [if_neg (fun q => h q.1)]
  have hf1 : jF (kW_ro R) σ τ1 := ⟨fun c i h => hc c i (fun q => h (Or.inl q)), fun c i _ => by rw [hτ1]; rfl⟩
  rintro _ rfl _ rfl _ rfl
  refine hk _ (jF_toI (jF_toI (jF_toI hf1 (Or.inr ⟨rfl, by omega, by omega⟩)) (Or.inr ⟨rfl, by omega, by omega⟩)) (Or.inr ⟨rfl, by omega, by omega⟩)) ⟨?_, fun i hi => ?_⟩ ?_ ?_
  · rw [js_In (Or.inr (by omega)), js_In (Or.inr (by omega)), js_Is, hc _ _ (by omega)]
    exact hR.1
  · rw [js_In (Or.inl (by omega)), js_In (Or.inl (by omega)), js_In (Or.inl (by omega)), hτ1]
    show (if _ then _ else _) = _
    rw [if_pos ⟨rfl, by omega, by omega⟩, show (0 : Int) + ((i : Int) - 0) = (i : Int) by omega]
    exact hR.2 i hi
  · rw [js_In (Or.inr (by omega)), js_Is, js_In (Or.inl (by omega)), hc _ _ (by omega)]
  · rw [js_Is, js_In (Or.inl (by omega)), js_In (Or.inl (by omega)), hc _ _ (by omega)]
theorem jc_begin (h0 : jg_sh R = (5, 0)) (hT : jg_sh T = (8, 0)) (hTR : T + 22 ≤ R) (hC : kr_CW σ T g) (hk : ∀ τ, jF (kW_ro R) σ τ → kr_Ro τ R (kr_I g) → τ.1 R 3 = 0 → τ.1 R 4 = 0 → KV τ) : jg_CV w 1 mm_X5_begin [.ref R, .ref T] σ KV := by
  refine jb_X5_begin_0 h0 hT ?_
  intro τ1 h1 τ2 h2 τ3 h3
  have hf : jF (kW_ro R) σ τ3 := by
    rw [h3, h2, h1]
    exact jF_toI (jF_toI (jF_I (Or.inr ⟨rfl, by omega, by omega⟩)) (Or.inr ⟨rfl, by omega, by omega⟩)) (Or.inr ⟨rfl, by omega, by omega⟩)
  have e2 : τ3.1 R 2 = 0 := by rw [h3, js_In (Or.inr (by omega)), h2, js_In (Or.inr (by omega)), h1, js_Is]
  have e3 : τ3.1 R 3 = 0 := by rw [h3, js_In (Or.inr (by omega)), h2, js_Is]
  have e4 : τ3.1 R 4 = 0 := by rw [h3, js_Is]
  have hC3 := kr_CW_fr hC hf (fun c i c1 c2 q => by unfold kW_ro at q; omega)
  rcases hC3.2 with q | ⟨q1, q2, q3⟩
  · rw [q.2]
    refine jn_ite (fun _ => hk τ3 hf ?_ e3 e4) (fun h => absurd (show jg_wr 0 ≤ 0 by decide) h)
    unfold kr_I
    rw [if_pos q.1]
    exact ⟨e2, fun i hi => absurd hi (Nat.not_lt_zero i)⟩
  · have hI := q2.1.1
    rw [q3.2.1, jr_wr (by omega)]
    refine jn_ite (fun h => by omega) (fun _ => ?_)
    have hR0 : kr_Ro τ3 R (0, fun _ => 0) := ⟨e2, fun i hi => absurd hi (Nat.not_lt_zero i)⟩
    refine jc_X5_add h0 hR0 (Nat.zero_le _) (fun h => absurd h (by decide)) (fun _ τ4 hf4 hR4 h43 h44 => hk τ4 (jF_tr hf hf4) ?_ (h43.trans e3) (h44.trans e4))
    unfold kr_I
    rw [if_neg (by omega)]
    refine ⟨hR4.1, fun i hi => ?_⟩
    have hi' : i < 1 := hi
    rw [hR4.2 i (by show i < 0 + 1; omega)]
    show jn_u1 (fun _ => 0) ((0 : Nat) : Int) 0 (i : Int) = 0
    unfold jn_u1
    split <;> rfl
end KRD
