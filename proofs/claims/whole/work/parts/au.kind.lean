/-! KIND, both sides -/
def kv_rc (g : gM) (x : Int) : Nat → Int
  | 0 => 0
  | n + 1 => kv_rc g x n + if g 3 (n : Nat) = x then 1 else 0
noncomputable def kv_kind (g : gM) (x y : Int) : Int := if y = 0 then jn_b (jn_E (kg_e g) x) else if y = 1 then ((kg_f g x : Nat) : Int) else if y = 2 then ((kg_fo g x : Nat) : Int) else if y = 3 then kv_rc g x (g 0 2).toNat else kv_lenS (ka_VK g x)
/-- what is thrown: 1 no such kind, 2 no such what -/
def kv_th (g : gM) (x y : Int) : Int := if 0 ≤ x ∧ x < g 0 1 then (if 0 ≤ y ∧ y ≤ 4 then 0 else 2) else 1
def kW_kd (c : Nat) (i : Int) : Prop := kW_ge c i ∨ c = 92 + 25
section KVK
variable {w : Nat} {σ τ : jg_M} {T G : Nat} {g : gM} {x y : Int} {KI : Int → jg_M → Prop}
theorem kv_rc_rng {n : Nat} : 0 ≤ kv_rc g x n ∧ kv_rc g x n ≤ n := by
  induction n with
  | zero => exact ⟨Int.le_refl 0, Int.le_refl 0⟩
  | succ n ih =>
    unfold kv_rc
    split <;> omega
theorem jc_rulesOf (h0 : jg_sh G = (0, 0)) (hG : jn_Gr σ G g) (hW : jn_GW g) (hx : jr x) (hk : KI (kv_rc g x (g 0 2).toNat) σ) : jg_CI w 2 mm_X0_rulesOf [.ref G, .int (.ofInt x)] σ KI := by
  have hw := hW.1
  have go : ∀ m n : Nat, n + m = (g 0 2).toNat → jg_GI w 2 mm_X0_rulesOf 4 [.ref G, .int (.ofInt x), .int (.ofInt (kv_rc g x n)), .int (.ofInt (n : Nat))] σ KI := by
    intro m
    induction m with
    | zero =>
      intro n hn
      refine jb_X0_rulesOf_4 h0 ?_
      rw [hG.1.2.2.1, jr_wr (show jr (g 0 2) by omega), jr_wr (show jr (n : Int) by omega), if_pos (by omega)]
      rw [show n = (g 0 2).toNat by omega]
      exact hk
    | succ m ih =>
      intro n hn
      refine jb_X0_rulesOf_4 h0 ?_
      rw [hG.1.2.2.1, jr_wr (show jr (g 0 2) by omega), jr_wr (show jr (n : Int) by omega), if_neg (by omega)]
      refine jc_X0_kindOf h0 hG hW (by omega) ?_
      have i2 := ih (n + 1) (by omega)
      have hr := hW.2.1 n (by omega) (by omega)
      have hz : (if 0 ≤ (n : Int) ∧ (n : Int) < g 0 2 then g 3 (n : Int) else -1) = g 3 (n : Int) := if_pos ⟨by omega, by omega⟩
      rw [hz, jr_wr hx, jr_wr (show jr (g 3 (n : Nat)) by omega)]
      unfold kv_rc at i2
      refine jn_ite (fun hc => ?_) (fun hc => ?_)
      · rw [if_pos hc] at i2
        exact i2
      · rw [if_neg hc, Int.add_zero] at i2
        exact i2
  exact jb_X0_rulesOf_0 h0 (go (g 0 2).toNat 0 (by omega))
theorem jm_fails {z : Int} (hk : ∀ τ, τ = jg_sI σ 92 2 z → KI 0 τ) : jg_CI w 0 mm_X12_fails [.ref 92, .int (.ofInt z)] σ KI := jb_X12_fails_0 rfl hk
theorem jm_kind (h : ku_MG σ g) (hb : kg_e g < 32 ∧ ∀ k, 0 ≤ k → k < 5 → kg_f g k < 256) (hx : jr x) (hy : jr y) (hk : ∀ z τ, jF kW_kd σ τ → τ.1 92 2 = kv_th g x y → (kv_th g x y = 0 → z = kv_kind g x y) → KI z τ) : jg_CI w 4 mm_X12_kind [.ref 92, .int (.ofInt x), .int (.ofInt y)] σ KI := by
  have hok := h.1.1
  have hW := hok.1.1
  have hw := hW.1
  refine jb_X12_kind_0 rfl ?_
  intro τ hτ
  have h2 := ku_ge2 hτ
  have hM := ku_MG_ge h h2.1
  have hmn : ∀ c i, kW_ge c i → kW_kd c i := fun c i q => Or.inl q
  refine jm_isKind hM.1.2.1.2.2.1 (by omega) (jn_if (fun hno => ?_) (fun hyes => ?_)) <;> rw [jr_wr hx] at *
  · refine jm_fails (fun τ2 e2 => hk 0 τ2 ?_ ?_ ?_)
    · rw [e2]
      exact jF_tr (jF_mono h2.1 hmn) (jF_I (Or.inl ⟨rfl, Or.inl rfl⟩))
    · rw [e2, js_Is]
      exact (if_neg hno).symm
    · intro q
      unfold kv_th at q
      rw [if_neg hno] at q
      cases q
  have hth : ∀ {z : Int} {τ' : jg_M}, 0 ≤ y ∧ y ≤ 4 → jF kW_kd τ τ' → τ'.1 92 2 = 0 → z = kv_kind g x y → KI z τ' := fun hy4 hf h0 hz => by
    have e : kv_th g x y = 0 := by
      unfold kv_th
      rw [if_pos hyes, if_pos hy4]
    exact hk _ _ (jF_tr (jF_mono h2.1 hmn) hf) (h0.trans e.symm) (fun _ => hz)
  rw [jr_wr hy]
  refine jn_ite (fun e0 => ?_) (fun e0 => jn_ite (fun e1 => ?_) (fun e1 => jn_ite (fun e2 => ?_) (fun e2 => jn_ite (fun e3 => ?_) (fun e3 => jn_ite (fun e4 => ?_) (fun e4 => ?_)))))
  · refine hth (by omega) jF_rf h2.2 ?_
    rw [hM.2.1.1, jb_tstr (by omega) (by omega) (by omega)]
    unfold kv_kind jn_E
    rw [if_pos e0]
    congr 1
    exact propext ⟨fun q => ⟨by omega, by omega, q⟩, fun q => q.2.2⟩
  · refine ⟨by omega, hth (by omega) jF_rf h2.2 ?_⟩
    have := hM.2.1.2.1 x (by omega) (by omega)
    rw [show 5 * (0 : Int) + x = x by omega] at this
    rw [this]
    unfold kv_kind
    rw [if_neg e0, if_pos e1]
  · have hlf := jm_layFollow (w := w) (K := fun τ' => ((0 : Int) ≤ x ∧ x < 5) ∧ KI (τ'.1 (92 + 25) x) τ') (b := 0) (c := 0) (kt_GM_Mb hM.1.2) hW ⟨by decide, by decide⟩ hM.2.1.1 hb.1 hM.2.1.2.1 hb.2 (fun τ' q hf _ _ _ _ hq hl => ⟨⟨by omega, by omega⟩, hth (by omega) (jF_mono hf (fun c i q => by unfold jW_fo at q; unfold kW_kd kW_ge; omega)) ((hf.1 _ _ (fun q => by unfold jW_fo at q; omega)).trans h2.2) ?_⟩)
    · rw [hok.1.2.2, hok.1.2.1] at hlf
      exact hlf
    · have hl2 : jn_lW g (kg_e g) (kg_f g) (kg_fo g) := Classical.epsilon_spec (p := fun q => jn_lW g (kg_e g) (kg_f g) q) ⟨q, hl⟩
      rw [hq x (by omega) (by omega), jn_lW_uniq hl hl2 x (by omega) (by omega)]
      unfold kv_kind
      rw [if_neg e0, if_neg e1, if_pos e2]
  · have go : ∀ m n : Nat, n + m = (g 0 2).toNat → jg_GI w 4 mm_X12_kind 92 [.ref 92, .int (.ofInt x), .int (.ofInt y), .int (.ofInt (kv_rc g x n)), .int (.ofInt (n : Nat))] τ KI := by
      intro m
      induction m with
      | zero =>
        intro n hn
        refine jb_X12_kind_92 rfl ?_
        rw [hM.1.2.1.2.2.2, jr_wr (show jr (g 0 2) by omega), jr_wr (show jr (n : Int) by omega), if_pos (by omega)]
        refine hth (by omega) jF_rf h2.2 ?_
        unfold kv_kind
        rw [if_neg e0, if_neg e1, if_neg e2, if_pos e3, show n = (g 0 2).toNat by omega]
      | succ m ih =>
        intro n hn
        refine jb_X12_kind_92 rfl ?_
        rw [hM.1.2.1.2.2.2, jr_wr (show jr (g 0 2) by omega), jr_wr (show jr (n : Int) by omega), if_neg (by omega)]
        have i2 := ih (n + 1) (by omega)
        have hr := hW.2.1 (n : Nat) (by omega) (by omega)
        have hr2 := (hM.1.2.2.2.2 (n : Nat) (by omega) (by omega)).1
        rw [show 13 * (0 : Int) + (n : Nat) = (n : Nat) by omega] at hr2
        refine ⟨⟨by omega, by omega⟩, ?_⟩
        rw [hr2, jr_wr hx, jr_wr (show jr (g 3 (n : Nat)) by omega)]
        unfold kv_rc at i2
        refine jn_ite (fun hc => ?_) (fun hc => ?_)
        · intro t ht
          rw [ht]
          rw [if_pos hc] at i2
          exact i2
        · intro t ht
          rw [ht]
          rw [if_neg hc] at i2
          exact i2
    exact go (g 0 2).toNat 0 (by omega)
  · have hwd := hM.2.2.2.1.1 x (by omega) (by omega)
    have hz : kv_kind g x y = kv_lenS (ka_VK g x) := by
      unfold kv_kind
      rw [if_neg e0, if_neg e1, if_neg e2, if_neg e3]
    refine ⟨by omega, ?_⟩
    rcases ka_wd_val hwd.1 with ⟨_, q2, q3, q4⟩ | ⟨q1, q2, q3⟩
    · rw [jr_wr (show jr (τ.1 (92 + 29) x) by omega), if_neg (by omega)]
      exact hth (by omega) jF_rf h2.2 (by rw [hz, q4])
    · rw [jr_wr (show jr (τ.1 (92 + 29) x) by omega), if_pos (by omega)]
      exact ⟨by omega, hth (by omega) jF_rf h2.2 (by rw [hz, q3])⟩
  · refine jm_fails (fun τ2 e2' => hk 0 τ2 ?_ ?_ ?_)
    · rw [e2']
      exact jF_tr (jF_mono h2.1 hmn) (jF_I (Or.inl ⟨rfl, Or.inl rfl⟩))
    · rw [e2', js_Is]
      unfold kv_th
      rw [if_pos hyes, if_neg (by omega)]
    · intro q
      unfold kv_th at q
      rw [if_pos hyes, if_neg (by omega)] at q
      cases q
end KVK
