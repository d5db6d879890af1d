/-! EXPECTED, in both -/
noncomputable def kv_ex (g : gM) (K : kr_K) : Nat → Nat
  | 0 => 0
  | n + 1 => kv_ex g K n ||| (if (kr_T g n K).isSome = true then 2 ^ n else 0)
section KXA
variable {w : Nat} {σ τ : jg_M} {T : Nat} {g : gM} {K : kr_K} {x : Int} {KV : jg_M → Prop} {KI : Int → jg_M → Prop}
theorem kv_ex_lt : ∀ {n : Nat}, kv_ex g K n < 2 ^ n
  | 0 => by show 0 < 1; decide
  | n + 1 => by
    have h := kv_ex_lt (n := n)
    have h2 : (2 : Nat) ^ (n + 1) = 2 ^ n * 2 := Nat.pow_succ 2 n
    refine Nat.or_lt_two_pow (by omega) ?_
    split <;> omega
theorem kv_ex_s {n : Nat} (hn : n < 8) (h : (kr_T g n K).isSome = true) : jg_or ((kv_ex g K n : Nat) : Int) (jg_shl 1 (n : Int)) = ((kv_ex g K (n + 1) : Nat) : Int) := by
  have h1 := kv_ex_lt (g := g) (K := K) (n := n)
  have h2 : (2 : Nat) ^ n ≤ 2 ^ 7 := Nat.pow_le_pow_right (by decide) (by omega)
  have h3 : (2 : Nat) ^ 7 = 128 := by decide
  have hs := jb_shl (m := 1) (k := n) (by omega) (by omega)
  rw [Nat.one_mul] at hs
  rw [show (1 : Int) = ((1 : Nat) : Int) from rfl, hs, jb_or (by omega) (by omega)]
  show _ = ((kv_ex g K n ||| (if (kr_T g n K).isSome = true then 2 ^ n else 0) : Nat) : Int)
  rw [if_pos h]
theorem kv_ex_n {n : Nat} (h : ¬ (kr_T g n K).isSome = true) : kv_ex g K (n + 1) = kv_ex g K n := by
  show kv_ex g K n ||| (if (kr_T g n K).isSome = true then 2 ^ n else 0) = _
  rw [if_neg h, Nat.or_zero]
theorem jc_expected (h : ku_CG σ T g) (hR : kr_Ro σ 65 K) (hK : kr_OK g K) (hk : ∀ τ, jF (kW_ro 90) σ τ → KI ((kv_ex g K (g 0 0).toNat : Nat) : Int) τ) : jg_CI w 4 mm_X11_expected [.ref 0] σ KI := by
  have sh := ku_sh h.1.1
  have hT := h.1.1
  have hW := h.2.1.1.1.1
  have hw := hW.1
  have h40 := kr_OK_le hK
  have hloop : ∀ (m t : Nat) (τ : jg_M), (t : Int) + m = g 0 0 → jF (kW_ro 90) σ τ → jg_GI w 4 mm_X11_expected 4 [.ref 0, .int (.ofInt ((kv_ex g K t : Nat) : Int)), .int (.ofInt (t : Int))] τ KI := by
    intro m
    induction m with
    | zero =>
      intro t τ ht hf
      have h' : ku_CG τ T g := ku_CG_fr h hf (by unfold kW_ro; omega) (by unfold kW_ro; omega) (fun c i q => by unfold kW_ro; omega)
      refine jb_X11_expected_4 rfl ?_
      rw [h'.1.2.1]
      intro r1 er1
      rw [show r1 = T by omega, h'.2.1.2.1.1, jr_wr (show jr (g 0 0) by omega), jr_wr (show jr (t : Int) by omega)]
      refine ⟨sh.1, jn_ite (fun _ => ?_) (fun h => by omega)⟩
      have := hk τ hf
      rw [show (g 0 0).toNat = t by omega] at this
      exact this
    | succ m ih =>
      intro t τ ht hf
      have h' : ku_CG τ T g := ku_CG_fr h hf (by unfold kW_ro; omega) (by unfold kW_ro; omega) (fun c i q => by unfold kW_ro; omega)
      refine jb_X11_expected_4 rfl ?_
      rw [h'.1.2.1]
      intro r1 er1
      rw [show r1 = T by omega, h'.2.1.2.1.1, jr_wr (show jr (g 0 0) by omega), jr_wr (show jr (t : Int) by omega)]
      refine ⟨sh.1, jn_ite (fun h => by omega) (fun _ => ?_)⟩
      refine jc_copy rfl rfl (Or.inl (by decide)) (kr_Ro_fr hR hf (fun i => by unfold kW_ro; omega) (fun i => by unfold kW_ro; omega)) h40 (fun τ1 hf1 hRo _ _ => ?_)
      have h'' : ku_CG τ1 T g := ku_CG_fr h' hf1 (by unfold kW_ro; omega) (by unfold kW_ro; omega) (fun c i q => by unfold kW_ro; omega)
      rw [h''.1.2.1]
      intro r2 er2
      rw [show r2 = T by omega]
      refine ⟨sh.1, ?_⟩
      refine jc_take rfl sh.1 sh.2.2 sh.2.1 (by omega) (kr_CW_of hW h''.2.2.1) hRo hK ⟨by omega, by omega⟩ (fun hz τ2 hf2 => ?_) (fun b d K' hz τ2 hf2 _ _ _ => ?_)
      · refine jn_ite (fun _ => ?_) (fun h => absurd (by decide) h)
        have := ih (t + 1) τ2 (by omega) (jF_tr hf (jF_tr hf1 hf2))
        rw [kv_ex_n (by rw [hz]; decide)] at this
        exact this
      · have hd : (d : Int) < 61 := by
          unfold kr_T at hz
          by_cases h0 : g 0 1 = 0
          · rw [if_pos h0] at hz; cases hz
          · rw [if_neg h0] at hz
            have nF := (kr_CV_of hW h.2.2.1 (by omega)).2.1
            have hok : kr_ok g K := by rcases hK with q | q; (· omega); exact q.2
            have := (kr_tk_ok hW nF ⟨by omega, by omega⟩ hok hz).2.2
            omega
        rw [jr_wr (show jr ((d : Nat) : Int) by omega)]
        refine jn_ite (fun h => by omega) (fun _ => ?_)
        rintro _ rfl
        rw [kv_ex_s (by omega) (by rw [hz]; rfl)]
        exact ih (t + 1) τ2 (by omega) (jF_tr hf (jF_tr hf1 hf2))
  exact jb_X11_expected_0 rfl (hloop (g 0 0).toNat 0 σ (by omega) jF_rf)
end KXA
