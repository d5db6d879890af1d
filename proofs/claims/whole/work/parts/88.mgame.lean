/-! GAME, in the reference -/
def kr_No (σ : jg_M) (K : kr_K) : Prop := σ.1 92 58 = (K.1 : Nat) ∧ ∀ i : Nat, i < K.1 → σ.1 (92 + 38) (i : Int) = K.2 i
def kW_gm (c : Nat) (i : Int) : Prop := c = 92 + 37 ∨ (92 + 39 ≤ c ∧ c ≤ 92 + 42) ∨ (c = 92 ∧ (i = 2 ∨ (54 ≤ i ∧ i ≤ 56)))
/-- so many tokens, by a number -/
noncomputable def kr_rc (g : gM) (n code : Nat) (K : kr_K) : Option kr_K := kr_rn g (fun k => (kr_dg (g 0 0).toNat n code k : Nat)) n K
section KRG
variable {w : Nat} {σ τ : jg_M} {n m a code t : Nat} {g : gM} {K K' : kr_K} {gv gv' : Nat → Int} {KV : jg_M → Prop} {KI : Int → jg_M → Prop}
theorem kr_No_fr {W : Nat → Int → Prop} (h : kr_No σ K) (hf : jF W σ τ) (h1 : ¬ W 92 58) (h2 : ∀ i, ¬ W (92 + 38) i) : kr_No τ K := ⟨(hf.1 _ _ h1).trans h.1, fun i hi => (hf.1 _ _ (h2 _)).trans (h.2 i hi)⟩
theorem kr_dg_up {k : Nat} (ht : t < a) (hk : k < n) : kr_dg a (n + 1) (a * code + t) k = kr_dg a n code k := by
  unfold kr_dg
  rw [show n + 1 - 1 - k = (n - 1 - k) + 1 by omega, Nat.pow_succ, Nat.mul_comm (a ^ (n - 1 - k)) a, ← Nat.div_div_eq_div_mul, Nat.mul_add_div (by omega), Nat.div_eq_of_lt ht, Nat.add_zero]
theorem kr_dg_end (ht : t < a) : kr_dg a (n + 1) (a * code + t) n = t := by
  unfold kr_dg
  rw [show n + 1 - 1 - n = 0 by omega, Nat.pow_zero, Nat.div_one, Nat.mul_add_mod, Nat.mod_eq_of_lt ht]
theorem kr_rc_up (ht : t < (g 0 0).toNat) : kr_rc g (n + 1) ((g 0 0).toNat * code + t) K = (kr_rc g n code K).bind (fun K' => kr_nx g (t : Int) K') := by
  unfold kr_rc
  show (kr_rn g _ n K).bind _ = _
  rw [kr_rn_cg (gv' := fun k => (kr_dg (g 0 0).toNat n code k : Nat)) (fun i hi => by rw [kr_dg_up ht hi])]
  dsimp only
  rw [kr_dg_end ht]
theorem kr_up_lt {b : Nat} (hc : code < a ^ n) (ht : t < a) : a * code + t < a ^ (n + 1) := by
  rw [Nat.pow_succ, Nat.mul_comm (a ^ n) a]
  have : a * (code + 1) ≤ a * a ^ n := Nat.mul_le_mul_left _ hc
  rw [Nat.mul_add, Nat.mul_one] at this
  omega
theorem kr_dg_lt {k : Nat} (ha : 0 < a) : kr_dg a n code k < a := Nat.mod_lt _ ha
theorem jm_layCome (hM : kr_MW σ 0 g) (h0 : 0 < g 0 1) (hNo : kr_No σ K) (hK : kr_ok g K) (hn : 1 ≤ n ∧ n ≤ 4) (hk : ∀ τ, jF kW_gm σ τ → (∀ i, τ.1 (92 + 41) i = σ.1 (92 + 41) i) → (∀ code : Nat, code < (g 0 0).toNat ^ n → τ.1 (92 + 40) (code : Int) = jn_b ((kr_rc g n code K).isSome = true)) → KV τ) : jg_CV w 1 mm_X12_layCome [.ref 92, .int (.ofInt (n : Int))] σ KV := by
  have hw := hM.1.1.1
  rcases hM.2 with q | ⟨q1, q2, q3, q4⟩
  · omega
  have eT : ∀ t K, kr_T g t K = kr_take g t K := fun t K => by unfold kr_T; rw [if_neg (by omega)]
  have hpw : (g 0 0).toNat ^ n ≤ 2401 := by
    have h1 : (g 0 0).toNat ^ n ≤ 7 ^ n := Nat.pow_le_pow_left (by omega) n
    have h2 : 7 ^ n ≤ 7 ^ 4 := Nat.pow_le_pow_right (by decide) hn.2
    have : (7 : Nat) ^ 4 = 2401 := by decide
    omega
  have hloop : ∀ (m c : Nat) (τ : jg_M) (u3 u4 : Value), c + m = (g 0 0).toNat ^ n → jF kW_gm σ τ → (∀ i, τ.1 (92 + 41) i = σ.1 (92 + 41) i) → (∀ code : Nat, code < c → τ.1 (92 + 40) (code : Int) = jn_b ((kr_rc g n code K).isSome = true)) → jg_GV w 1 mm_X12_layCome 2 [.ref 92, .int (.ofInt (n : Int)), .int (.ofInt (c : Int)), u3, u4] τ KV := by
    intro m
    induction m with
    | zero =>
      intro c τ u3 u4 hc hf h41 hz
      have hMτ := kr_MW_fr hM hf (fun c i hc q => by unfold kW_gm at q; omega)
      refine jb_X12_layCome_2 rfl ?_
      rw [hMτ.1.2.2, show g 0 0 = ((g 0 0).toNat : Int) by omega]
      refine jm_power (by omega) ?_
      rw [jr_wr (show jr ((((g 0 0).toNat ^ n : Nat)) : Int) by omega), jr_wr (show jr (c : Int) by omega)]
      refine jn_ite (fun _ => hk τ hf h41 (fun code hcode => hz code (by omega))) (fun h => by omega)
    | succ m ih =>
      intro c τ u3 u4 hc hf h41 hz
      have hMτ := kr_MW_fr hM hf (fun c i hc q => by unfold kW_gm at q; omega)
      have hnt : 0 < (g 0 0).toNat := by
        rcases Nat.eq_zero_or_pos (g 0 0).toNat with h | h
        · rw [h, Nat.zero_pow (by omega)] at hc; omega
        · exact h
      refine jb_X12_layCome_2 rfl ?_
      rw [hMτ.1.2.2, show g 0 0 = ((g 0 0).toNat : Int) by omega]
      refine jm_power (by omega) ?_
      rw [jr_wr (show jr ((((g 0 0).toNat ^ n : Nat)) : Int) by omega), jr_wr (show jr (c : Int) by omega)]
      refine jn_ite (fun h => by omega) (fun _ => ?_)
      rw [hMτ.1.2.2, show g 0 0 = ((g 0 0).toNat : Int) by omega]
      refine jm_gives (by omega) (by omega) (by omega) (fun τ1 hf1 hd1 => ?_)
      have hfσ1 : jF kW_gm σ τ1 := jF_tr hf (jF_mono hf1 (fun c i q => by unfold kW_gm; omega))
      have hNo1 := kr_No_fr hNo hfσ1 (fun q => by unfold kW_gm at q; omega) (fun i q => by unfold kW_gm at q; omega)
      refine jm_fromNow hNo1.1 hK.1.2 hNo1.2 (fun τ2 hf2 hMo2 => ?_)
      have hfσ2 : jF kW_gm σ τ2 := jF_tr hfσ1 (jF_mono hf2 (fun c i q => by unfold kW_co at q; unfold kW_gm; omega))
      have hd2 : ∀ k : Nat, k < n → τ2.1 (92 + 39) (k : Int) = (kr_dg (g 0 0).toNat n c k : Nat) := fun k hkn => (hf2.1 _ _ (fun q => by unfold kW_co at q; omega)).trans (hd1 k hkn)
      have h412 : ∀ i, τ2.1 (92 + 41) i = σ.1 (92 + 41) i := fun i => ((hf2.1 _ _ (fun q => by unfold kW_co at q; omega)).trans (hf1.1 _ _ (by omega))).trans (h41 i)
      have hz2 : ∀ code : Nat, code < c → τ2.1 (92 + 40) (code : Int) = jn_b ((kr_rc g n code K).isSome = true) := fun code hcode => ((hf2.1 _ _ (fun q => by unfold kW_co at q; omega)).trans (hf1.1 _ _ (by omega))).trans (hz code hcode)
      have hfin : ∀ (τ : jg_M) (x3 : Int) (u4 : Value) (P : Prop), x3 = jn_b P → (P ↔ (kr_rc g n c K).isSome = true) → jF kW_co τ2 τ → ∀ τ', τ' = jg_sI τ (92 + 40) (c : Int) (jg_nar x3) → jg_GV w 1 mm_X12_layCome 2 [.ref 92, .int (.ofInt (n : Int)), .int (.ofInt ((c : Int) + 1)), .int (.ofInt x3), u4] τ' KV := by
        rintro τ x3 u4 P hx hP hf3 _ rfl
        have hnar : jg_nar x3 = x3 := by rw [hx]; rcases jn_b_01 P with h | h <;> rw [h] <;> decide
        have := ih (c + 1) (jg_sI τ (92 + 40) (c : Int) (jg_nar x3)) (.int (.ofInt x3)) u4 (by omega) (jF_toI (jF_tr hfσ2 (jF_mono hf3 (fun c i q => by unfold kW_co at q; unfold kW_gm; omega))) (by unfold kW_gm; omega)) (fun i => by
          rw [js_In (Or.inl (by omega)), hf3.1 _ _ (fun q => by unfold kW_co at q; omega)]
          exact h412 i) (fun code hcode => by
          by_cases hcc : code = c
          · subst hcc
            rw [js_Is, hnar, hx]
            exact jn_b_eq hP
          · rw [js_In (Or.inr (by omega)), hf3.1 _ _ (fun q => by unfold kW_co at q; omega)]
            exact hz2 code (by omega))
        rw [show ((c + 1 : Nat) : Int) = (c : Int) + 1 by omega] at this
        exact this
      have hread : ∀ (mm i : Nat) (K1 : kr_K) (τ : jg_M), i + mm = n → jF kW_co τ2 τ → kr_Mo τ K1 → kr_ok g K1 → kr_rn g (fun k => (kr_dg (g 0 0).toNat n c k : Nat)) i K = some K1 → jg_GV w 1 mm_X12_layCome 37 [.ref 92, .int (.ofInt (n : Int)), .int (.ofInt (c : Int)), .int (.ofInt 1), .int (.ofInt (i : Int))] τ KV := by
        intro mm
        induction mm with
        | zero =>
          intro i K1 τ hi hf3 hMo hok hrn
          refine jb_X12_layCome_37 rfl ?_
          rw [jr_wr (show jr (n : Int) by omega), jr_wr (show jr (i : Int) by omega), jr_wr (show jr (c : Int) by omega)]
          refine jn_ite (fun _ => ⟨by omega, fun τ' hτ' => ?_⟩) (fun h => by omega)
          refine hfin τ 1 _ True (jn_b_t trivial).symm ?_ hf3 τ' hτ'
          refine ⟨fun _ => ?_, fun _ => trivial⟩
          unfold kr_rc
          rw [show n = i by omega] at hrn ⊢
          rw [hrn]
          rfl
        | succ mm ihm =>
          intro i K1 τ hi hf3 hMo hok hrn
          have hMV := kr_MV_fr (kr_MV_fr q4 hfσ2 (fun c i hc q => by unfold kW_gm at q; omega)) hf3 (fun c i hc q => by unfold kW_co at q; omega)
          have hgi : τ.1 (92 + 39) (i : Int) = (kr_dg (g 0 0).toNat n c i : Nat) := (hf3.1 _ _ (fun q => by unfold kW_co at q; omega)).trans (hd2 i (by omega))
          have hdl := kr_dg_lt (a := (g 0 0).toNat) (n := n) (code := c) (k := i) hnt
          refine jb_X12_layCome_37 rfl ?_
          rw [jr_wr (show jr (n : Int) by omega), jr_wr (show jr (i : Int) by omega), show jg_wr 1 = 1 from rfl, hgi]
          refine jn_ite (fun h => by omega) (fun _ => jn_ite (fun h => by omega) (fun _ => ⟨by omega, ?_⟩))
          refine jm_comes hM.1.1 q2 hMV hMo hok ⟨by omega, by omega⟩ (fun hn0 τ4 hf4 => ?_) (fun bb d K' hs τ4 hf4 hMo4 _ _ => ?_)
          · have hno : ¬ (kr_rc g n c K).isSome = true := by
              unfold kr_rc
              have en : kr_rn g (fun k => (kr_dg (g 0 0).toNat n c k : Nat)) (i + 1) K = none := by
                unfold kr_rn
                rw [hrn]
                show kr_nx g _ K1 = none
                unfold kr_nx
                rw [eT, hn0]
                rfl
              have en2 : ∀ d, kr_rn g (fun k => (kr_dg (g 0 0).toNat n c k : Nat)) (i + 1 + d) K = none := fun d => by
                induction d with
                | zero => exact en
                | succ d ihd =>
                  show (kr_rn g _ (i + 1 + d) K).bind _ = none
                  rw [ihd]
                  rfl
              rw [show kr_rn g (fun k => (kr_dg (g 0 0).toNat n c k : Nat)) n K = none by
                have := en2 mm
                rw [show i + 1 + mm = n by omega] at this
                exact this]
              decide
            refine jb_X12_layCome_37 rfl ?_
            rw [jr_wr (show jr (n : Int) by omega), jr_wr (show jr ((i : Int) + 1) by omega), jr_wr (show jr (c : Int) by omega), show jg_wr 0 = 0 from rfl]
            refine jn_ite (fun _ => ⟨by omega, fun τ' hτ' => ?_⟩) (fun _ => jn_ite (fun _ => ⟨by omega, fun τ' hτ' => ?_⟩) (fun h => absurd rfl h)) <;> exact hfin τ4 0 _ False (jn_b_f (fun q => q)).symm ⟨fun q => q.elim, fun q => hno q⟩ (jF_tr hf3 hf4) τ' hτ'
          · have := ihm (i + 1) K' τ4 (by omega) (jF_tr hf3 hf4) hMo4 (kr_tk_ok hM.1.1 q2 ⟨by omega, by omega⟩ hok hs).1 (by
              unfold kr_rn
              rw [hrn]
              show kr_nx g _ K1 = some K'
              unfold kr_nx
              rw [eT, hs]
              rfl)
            rw [show ((i + 1 : Nat) : Int) = (i : Int) + 1 by omega] at this
            exact this
      exact hread n 0 K τ2 (by omega) jF_rf hMo2 hK rfl
  exact jb_X12_layCome_0 rfl (hloop ((g 0 0).toNat ^ n) 0 σ _ _ (Nat.zero_add _) jF_rf (fun _ => rfl) (fun code h => by omega))
end KRG
