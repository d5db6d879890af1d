/-! SENTENCES, in the reference: rows by their numbers -/
def kr_dg (b n code k : Nat) : Nat := code / b ^ (n - 1 - k) % b
noncomputable def kr_rn (g : gM) (gv : Nat → Int) : Nat → kr_K → Option kr_K
  | 0, K => some K
  | n + 1, K => (kr_rn g gv n K).bind (fun K' => kr_nx g (gv n) K')
noncomputable def kr_sK (g : gM) (gv : Nat → Int) (n : Nat) (K : kr_K) : Bool := match kr_rn g gv n K with
  | some K' => kr_en g K'
  | none => false
noncomputable def kr_se (g : gM) (gv : Nat → Int) (n : Nat) : Bool := kr_sK g gv n (kr_I g)
def kr_MW (σ : jg_M) (b : Int) (g : gM) : Prop := (jn_GW g ∧ (0 ≤ b ∧ b ≤ 1) ∧ σ.1 (92 + 3) 0 = g 0 0) ∧ ((g 0 1 = 0 ∧ σ.1 (92 + 13) b = 0) ∨ (0 < g 0 1 ∧ jn_FP g (kg_S g) ∧ σ.1 (92 + 13) b = (kg_S g).1 ∧ kr_MV σ b g))
section KRF
variable {w : Nat} {σ τ : jg_M} {n m a code : Nat} {g : gM} {K K' : kr_K} {v k t b : Int} {gv gv' : Nat → Int} {KV : jg_M → Prop} {KI : Int → jg_M → Prop}
theorem kr_MW_fr {W : Nat → Int → Prop} (h : kr_MW σ b g) (hf : jF W σ τ) (hn : ∀ c i, c = 92 + 3 ∨ c = 92 + 13 ∨ c = 92 + 10 ∨ c = 92 + 11 ∨ c = 92 + 16 ∨ c = 92 + 19 → ¬ W c i) : kr_MW τ b g := by
  refine ⟨⟨h.1.1, h.1.2.1, (hf.1 _ _ (hn _ _ (by omega))).trans h.1.2.2⟩, ?_⟩
  rcases h.2 with q | q
  · exact Or.inl ⟨q.1, (hf.1 _ _ (hn _ _ (by omega))).trans q.2⟩
  · exact Or.inr ⟨q.1, q.2.1, (hf.1 _ _ (hn _ _ (by omega))).trans q.2.2.1, kr_MV_fr q.2.2.2 hf (fun c i hc => hn _ _ (by omega))⟩
theorem kr_nx_OK {T : Nat} (hFP : 0 < g 0 1 → jn_FP g (kg_S g)) (hW : jn_GW g) (hK : kr_OK g K) (ht : 0 ≤ t ∧ t ≤ g 0 0) (h : kr_nx g t K = some K') : kr_OK g K' := by
  unfold kr_nx kr_T at h
  have hw := hW.1
  by_cases h0 : g 0 1 = 0
  · rw [if_pos h0] at h; cases h
  · rw [if_neg h0] at h
    rcases hK with hK | hK
    · omega
    · cases hq : kr_take g t K with
      | none => rw [hq] at h; cases h
      | some r =>
        obtain ⟨b, d, K2⟩ := r
        rw [hq] at h
        cases h
        exact Or.inr ⟨hK.1, (kr_tk_ok hW (hFP hK.1) ht hK.2 hq).1⟩
theorem kr_rn_first : ∀ {n : Nat} {K : kr_K}, kr_rn g gv (n + 1) K = (kr_nx g (gv 0) K).bind (fun K' => kr_rn g (fun i => gv (i + 1)) n K')
  | 0, K => by
    show (some K).bind (fun K' => kr_nx g (gv 0) K') = (kr_nx g (gv 0) K).bind (fun K' => some K')
    cases h : kr_nx g (gv 0) K <;> simp [h]
  | n + 1, K => by
    show (kr_rn g gv (n + 1) K).bind (fun K' => kr_nx g (gv (n + 1)) K') = _
    rw [kr_rn_first (n := n)]
    cases h : kr_nx g (gv 0) K with
    | none => rfl
    | some K1 => rfl
theorem kr_rn_cg : ∀ {n : Nat} {K : kr_K}, (∀ i, i < n → gv i = gv' i) → kr_rn g gv n K = kr_rn g gv' n K
  | 0, _, _ => rfl
  | n + 1, K, h => by
    unfold kr_rn
    rw [kr_rn_cg (fun i hi => h i (by omega)), h n (by omega)]
theorem kr_sK_cg (h : ∀ i, i < n → gv i = gv' i) : kr_sK g gv n K = kr_sK g gv' n K := by
  unfold kr_sK
  rw [kr_rn_cg h]
theorem kr_sK_first : kr_sK g gv (n + 1) K = match kr_nx g (gv 0) K with
    | some K' => kr_sK g (fun i => gv (i + 1)) n K'
    | none => false := by
  unfold kr_sK
  rw [kr_rn_first]
  cases h : kr_nx g (gv 0) K <;> rfl
theorem kr_ct_mul {p : Nat → Bool} {B : Nat} : ∀ {a : Nat}, jn_ct p (a * B) = jn_sum (fun t => jn_ct (fun r => p (t * B + r)) B) a
  | 0 => by rw [Nat.zero_mul]; rfl
  | a + 1 => by
    rw [Nat.succ_mul, jn_ct_plus]
    unfold jn_sum
    rw [kr_ct_mul]
theorem kr_sum_cg {f f' : Nat → Nat} : ∀ {n : Nat}, (∀ i, i < n → f i = f' i) → jn_sum f n = jn_sum f' n
  | 0, _ => rfl
  | n + 1, h => by
    unfold jn_sum
    rw [kr_sum_cg (fun i hi => h i (by omega)), h n (by omega)]
theorem kr_ct_cg {p q : Nat → Bool} : ∀ {n : Nat}, (∀ i, i < n → p i = q i) → jn_ct p n = jn_ct q n
  | 0, _ => rfl
  | n + 1, h => by
    unfold jn_ct
    rw [kr_ct_cg (fun i hi => h i (by omega)), h n (by omega)]
theorem kr_ct_zero {n : Nat} : jn_ct (fun _ => false) n = 0 := by
  induction n with
  | zero => rfl
  | succ n ih => unfold jn_ct; rw [ih]; rfl
theorem kr_dg_hi {B r t : Nat} (ht : t < a) (hr : r < a ^ n) : kr_dg a (n + 1) (t * a ^ n + r) 0 = t := by
  unfold kr_dg
  rw [show n + 1 - 1 - 0 = n by omega, Nat.mul_comm, Nat.mul_add_div (Nat.pow_pos (by omega)), Nat.div_eq_of_lt hr, Nat.add_zero, Nat.mod_eq_of_lt ht]
theorem kr_dg_lo {r t k : Nat} (hk : k < n) : kr_dg a (n + 1) (t * a ^ n + r) (k + 1) = kr_dg a n r k := by
  unfold kr_dg
  rcases Nat.eq_zero_or_pos a with h0 | h0
  · subst h0
    rw [Nat.zero_pow (show 0 < n by omega), Nat.mul_zero, Nat.zero_add, show n + 1 - 1 - (k + 1) = n - 1 - k by omega]
  · rw [show n + 1 - 1 - (k + 1) = n - 1 - k by omega]
    have e : t * a ^ n = a ^ (n - 1 - k) * (t * a ^ k * a) := by
      have : a ^ n = a ^ (n - 1 - k) * (a ^ k * a) := by
        rw [← Nat.pow_succ, ← Nat.pow_add]
        congr 1
        omega
      rw [this, Nat.mul_left_comm, Nat.mul_assoc]
    rw [e, Nat.mul_add_div (Nat.pow_pos h0), Nat.add_comm, Nat.add_mul_mod_self_right]
theorem kr_count : ∀ {n : Nat} {K : kr_K}, jn_ct (fun code => kr_sK g (fun k => (kr_dg (g 0 0).toNat n code k : Nat)) n K) ((g 0 0).toNat ^ n) = kr_cn g n K
  | 0, K => by
    rw [Nat.pow_zero]
    unfold kr_cn
    show 0 + (if kr_en g K = true then 1 else 0) = _
    rw [Nat.zero_add]
  | n + 1, K => by
    rw [Nat.pow_succ, Nat.mul_comm, kr_ct_mul]
    unfold kr_cn
    refine kr_sum_cg (fun t ht => ?_)
    have hc : ∀ r, r < (g 0 0).toNat ^ n → kr_sK g (fun k => (kr_dg (g 0 0).toNat (n + 1) (t * (g 0 0).toNat ^ n + r) k : Nat)) (n + 1) K = match kr_nx g (t : Int) K with
        | some K' => kr_sK g (fun k => (kr_dg (g 0 0).toNat n r k : Nat)) n K'
        | none => false := fun r hr => by
      rw [kr_sK_first, kr_dg_hi (B := 0) ht hr]
      cases h : kr_nx g (t : Int) K with
      | none => rfl
      | some K' => exact kr_sK_cg (fun i hi => by rw [kr_dg_lo hi])
    rw [kr_ct_cg hc]
    cases h : kr_nx g (t : Int) K with
    | none => exact kr_ct_zero
    | some K' => exact kr_count
theorem jm_power {x y : Nat} (hy : y ≤ 100) (hk : KI ((x ^ y : Nat) : Int) σ) : jg_CI w 0 mm_X12_power [.int (.ofInt (x : Int)), .int (.ofInt (y : Int))] σ KI := by
  have hloop : ∀ (m i : Nat), i + m = y → jg_GI w 0 mm_X12_power 4 [.int (.ofInt (x : Int)), .int (.ofInt (y : Int)), .int (.ofInt ((x ^ i : Nat) : Int)), .int (.ofInt (i : Int))] σ KI := by
    intro m
    induction m with
    | zero =>
      intro i hi
      refine jb_X12_power_4 ?_
      rw [jr_wr (by omega), jr_wr (by omega)]
      exact jn_ite (fun _ => by rw [show i = y by omega]; exact hk) (fun h => by omega)
    | succ m ih =>
      intro i hi
      refine jb_X12_power_4 ?_
      rw [jr_wr (by omega), jr_wr (by omega)]
      refine jn_ite (fun h => by omega) (fun _ => ?_)
      rintro _ rfl
      have := ih (i + 1) (by omega)
      rw [Nat.pow_succ, show ((x ^ i * x : Nat) : Int) = ((x ^ i : Nat) : Int) * (x : Int) from Int.natCast_mul _ _, show ((i + 1 : Nat) : Int) = (i : Int) + 1 by omega] at this
      exact this
  exact jb_X12_power_0 (hloop y 0 (by omega))
theorem jm_gives {by' : Nat} (hn : n ≤ 9) (hb : 0 < by' ∧ by' ≤ 10) (hc : code < 2147483648) (hk : ∀ τ, jF (fun c _ => c = 92 + 39) σ τ → (∀ k : Nat, k < n → τ.1 (92 + 39) (k : Int) = (kr_dg by' n code k : Nat)) → KV τ) : jg_CV w 0 mm_X12_gives [.ref 92, .int (.ofInt (code : Int)), .int (.ofInt (n : Int)), .int (.ofInt (by' : Int))] σ KV := by
  have hloop : ∀ (m : Nat) (τ : jg_M), m ≤ n → jF (fun c _ => c = 92 + 39) σ τ → (∀ k : Nat, m ≤ k → k < n → τ.1 (92 + 39) (k : Int) = (kr_dg by' n code k : Nat)) → jg_GV w 0 mm_X12_gives 8 [.ref 92, .int (.ofInt (code : Int)), .int (.ofInt (n : Int)), .int (.ofInt (by' : Int)), .int (.ofInt ((code / by' ^ (n - m) : Nat) : Int)), .int (.ofInt ((m : Int) - 1))] τ KV := by
    intro m
    induction m with
    | zero =>
      intro τ hm hf hz
      refine jb_X12_gives_8 rfl ?_
      rw [jr_wr (show jr (((0 : Nat) : Int) - 1) by decide)]
      exact jn_ite (fun _ => hk τ hf (fun k hkn => hz k (Nat.zero_le _) hkn)) (fun h => absurd (show ((0 : Nat) : Int) - 1 < 0 by decide) h)
    | succ m ih =>
      intro τ hm hf hz
      have hq : code / by' ^ (n - (m + 1)) ≤ code := Nat.div_le_self _ _
      have hq0 : 0 ≤ ((code / by' ^ (n - (m + 1)) : Nat) : Int) := Int.natCast_nonneg _
      refine jb_X12_gives_8 rfl ?_
      rw [show ((m + 1 : Nat) : Int) - 1 = (m : Int) by omega, jr_wr (show jr (m : Int) by omega), jr_wr (show jr (by' : Int) by omega)]
      refine jn_ite (fun h => by omega) (fun _ => ⟨by omega, by omega, ?_⟩)
      rintro _ rfl
      refine ⟨by omega, ?_⟩
      rintro _ rfl
      rw [jb_rem (by omega) (by omega), jb_div (by omega) (by omega)]
      have e : ((code / by' ^ (n - (m + 1)) : Nat) : Int) / (by' : Int) = ((code / by' ^ (n - m) : Nat) : Int) := by
        rw [← Int.natCast_ediv, Nat.div_div_eq_div_mul, ← Nat.pow_succ, show (n - (m + 1)).succ = n - m by omega]
      rw [e, show (m : Int) + -1 = (m : Int) - 1 by omega]
      refine ih _ (by omega) (jF_toI hf rfl) (fun k hk1 hk2 => ?_)
      by_cases hkm : k = m
      · subst hkm
        rw [js_Is, ← Int.natCast_emod]
        unfold kr_dg
        rw [show n - (k + 1) = n - 1 - k by omega]
      · rw [js_In (Or.inr (by omega))]
        exact hz k (by omega) hk2
  refine jb_X12_gives_0 rfl ?_
  rintro _ rfl
  have := hloop n σ (Nat.le_refl n) jF_rf (fun k h1 h2 => by omega)
  rw [Nat.sub_self, Nat.pow_zero, Nat.div_one] at this
  exact this
theorem jm_isSentence (hM : kr_MW σ b g) (hn : n ≤ 9) (hg : ∀ i : Nat, i < n → σ.1 (92 + 39) (i : Int) = gv i) (hr : ∀ i, i < n → 0 ≤ gv i ∧ gv i < g 0 0) (hk : ∀ τ, jF kW_co σ τ → KI (jn_b (kr_se g gv n = true)) τ) : jg_CI w 1 mm_X12_isSentence [.ref 92, .int (.ofInt b), .int (.ofInt (n : Int))] σ KI := by
  have hw := hM.1.1.1
  have hb := hM.1.2.1
  refine jb_X12_isSentence_0 rfl ?_
  rw [jr_wr (show jr b by omega)]
  refine ⟨by omega, ?_⟩
  rcases hM.2 with q | ⟨q1, q2, q3, q4⟩
  · rw [q.2, show jg_wr 0 = 0 from rfl]
    refine jn_ite (fun _ => ?_) (fun h => absurd rfl h)
    have h := hk σ jF_rf
    have e : kr_se g gv n = false := by
      have hen : ∀ K, kr_en g K = false := fun K => by unfold kr_en kr_T; rw [if_pos q.1]; rfl
      unfold kr_se kr_sK
      cases hh : kr_rn g gv n (kr_I g) with
      | none => rfl
      | some K' => exact hen K'
    rw [e, jn_b_f (by decide)] at h
    exact h
  · have hI := q2.1.1
    rw [q3, jr_wr (by omega)]
    refine jn_ite (fun h => by omega) (fun _ => jm_fromFirst (fun τ hf hMo => ?_))
    have eI : kr_I g = kr_K0 := by unfold kr_I; rw [if_neg (by omega)]
    have eT : ∀ t K, kr_T g t K = kr_take g t K := fun t K => by unfold kr_T; rw [if_neg (by omega)]
    have hloop : ∀ (m i : Nat) (K1 : kr_K) (τ : jg_M), i + m = n → jF kW_co σ τ → kr_Mo τ K1 → kr_ok g K1 → kr_rn g gv i (kr_I g) = some K1 → jg_GI w 1 mm_X12_isSentence 17 [.ref 92, .int (.ofInt b), .int (.ofInt (n : Int)), .int (.ofInt (i : Int))] τ KI := by
      intro m
      induction m with
      | zero =>
        intro i K1 τ hi hf hMo hok hrn
        have hin : i = n := by omega
        subst hin
        have hMτ := kr_MW_fr hM hf (fun c i hc q => by unfold kW_co at q; omega)
        have hMV := kr_MV_fr q4 hf (fun c i hc q => by unfold kW_co at q; omega)
        refine jb_X12_isSentence_17 rfl ?_
        rw [jr_wr (by omega)]
        refine jn_ite (fun _ => ?_) (fun h => absurd (Int.le_refl _) h)
        rw [hMτ.1.2.2]
        refine jm_comes hM.1.1 q2 hMV hMo hok ⟨by omega, Int.le_refl _⟩ (fun hn0 τ2 hf2 => ?_) (fun bb d K' hs τ2 hf2 hMo2 h55 h56 => ?_)
        · refine jn_ite (fun _ => ?_) (fun h => absurd rfl h)
          have h := hk τ2 (jF_tr hf hf2)
          have e : kr_se g gv i = false := by
            unfold kr_se kr_sK kr_en
            rw [hrn]
            dsimp only
            rw [eT, hn0]
            rfl
          rw [e, jn_b_f (by decide)] at h
          exact h
        · have hacc := (kr_tk_acc hM.1.1 q2 ⟨by omega, Int.le_refl _⟩ hok hs).mpr rfl
          rw [h56, if_pos hacc]
          refine jn_ite (fun h => absurd h (by decide)) (fun _ => jn_ite (fun h => absurd h (by decide)) (fun _ => ?_))
          have h := hk τ2 (jF_tr hf hf2)
          have e : kr_se g gv i = true := by
            unfold kr_se kr_sK kr_en
            rw [hrn]
            dsimp only
            rw [eT, hs]
            rfl
          rw [e, jn_b_t rfl] at h
          exact h
      | succ m ih =>
        intro i K1 τ hi hf hMo hok hrn
        have hMV := kr_MV_fr q4 hf (fun c i hc q => by unfold kW_co at q; omega)
        have hgi : τ.1 (92 + 39) (i : Int) = gv i := (hf.1 _ _ (fun q => by unfold kW_co at q; omega)).trans (hg i (by omega))
        have hri := hr i (by omega)
        refine jb_X12_isSentence_17 rfl ?_
        rw [jr_wr (show jr (n : Int) by omega), jr_wr (show jr (i : Int) by omega), hgi]
        refine jn_ite (fun h => by omega) (fun _ => ⟨by omega, ?_⟩)
        refine jm_comes hM.1.1 q2 hMV hMo hok ⟨by omega, by omega⟩ (fun hn0 τ2 hf2 => ?_) (fun bb d K' hs τ2 hf2 hMo2 h55 h56 => ?_)
        · refine jn_ite (fun _ => ?_) (fun h => absurd rfl h)
          have h := hk τ2 (jF_tr hf hf2)
          have en : kr_rn g gv (i + 1) (kr_I g) = none := by
            unfold kr_rn
            rw [hrn]
            show kr_nx g (gv i) K1 = none
            unfold kr_nx
            rw [eT, hn0]
            rfl
          have en2 : ∀ d, kr_rn g gv (i + 1 + d) (kr_I g) = none := fun d => by
            induction d with
            | zero => exact en
            | succ d ihd =>
              show (kr_rn g gv (i + 1 + d) (kr_I g)).bind _ = none
              rw [ihd]
              rfl
          have e : kr_se g gv n = false := by
            unfold kr_se kr_sK
            rw [show n = i + 1 + m by omega, en2]
          rw [e, jn_b_f (by decide)] at h
          exact h
        · refine jn_ite (fun h => absurd h (by decide)) (fun _ => ?_)
          have := ih (i + 1) K' τ2 (by omega) (jF_tr hf hf2) hMo2 (kr_tk_ok hM.1.1 q2 ⟨by omega, by omega⟩ hok hs).1 (by
            unfold kr_rn
            rw [hrn]
            show kr_nx g (gv i) K1 = some K'
            unfold kr_nx
            rw [eT, hs]
            rfl)
          rw [show ((i + 1 : Nat) : Int) = (i : Int) + 1 by omega] at this
          exact this
    exact hloop n 0 kr_K0 τ (by omega) hf hMo (kr_K0_ok q2) (by unfold kr_rn; rw [eI])
end KRF
