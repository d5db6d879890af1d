/-! SENTENCES, in the reference: rows by their numbers -/
def kr_dg (b n code k : Nat) : Nat := code / b ^ (n - 1 - k) % b
noncomputable def kr_rn (g : gM) (gv : Nat → Int) : Nat → kr_K → Option kr_K
  | 0, K => some K
  | n + 1, K => (kr_rn g gv n K).bind (fun K' => kr_nx g (gv n) K')
noncomputable def kr_sK (g : gM) (gv : Nat → Int) (n : Nat) (K : kr_K) : Bool := match kr_rn g gv n K with
  | some K' => kr_en g K'
  | none => false
noncomputable def kr_se (g : gM) (gv : Nat → Int) (n : Nat) : Bool := kr_sK g gv n (kr_I g)
def kr_MW (σ : jg_M) (b : Int) (g : gM) : Prop := (jn_GW g ∧ (0 ≤ b ∧ b ≤ 1) ∧ σ.1 (92 + 3) 0 = g 0 0) ∧ ((g 0 1 = 0 ∧ σ.1 (92 + 13) b = 0) ∨ (0 < g 0 1 ∧ jn_FP g (kg_S g) ∧ σ.1 (92 + 13) b = (kg_S g).1 ∧ kr_MV σ b g))
section KRF
variable {w : Nat} {σ τ : jg_M} {n m a code : Nat} {g : gM} {K K' : kr_K} {v k t b : Int} {gv gv' : Nat → Int} {KV : jg_M → Prop} {KI : Int → jg_M → Prop}
theorem kr_MW_fr {W : Nat → Int → Prop} (h : kr_MW σ b g) (hf : jF W σ τ) (hn : ∀ c i, c = 92 + 3 ∨ c = 92 + 13 ∨ c = 92 + 10 ∨ c = 92 + 11 ∨ c = 92 + 16 ∨ c = 92 + 19 → ¬ W c i) : kr_MW τ b g := by
  refine ⟨⟨h.1.1, h.1.2.1, (hf.1 _ _ (hn _ _ (by omega))).trans h.1.2.2⟩, ?_⟩
  rcases h.2 with q | q
  · exact Or.inl ⟨q.1, (hf.1 _ _ (hn _ _ (by omega))).trans q.2⟩
  · exact Or.inr ⟨q.1, q.2.1, (hf.1 _ _ (hn _ _ (by omega))).trans q.2.2.1, kr_MV_fr q.2.2.2 hf (fun c i hc => hn _ _ (by omega))⟩
theorem kr_nx_OK {T : Nat} (hFP : 0 < g 0 1 → jn_FP g (kg_S g)) (hW : jn_GW g) (hK : kr_OK g K) (ht : 0 ≤ t ∧ t ≤ g 0 0) (h : kr_nx g t K = some K') : kr_OK g K' := by
  unfold kr_nx kr_T at h
  have hw := hW.1
  by_cases h0 : g 0 1 = 0
  · rw [if_pos h0] at h; cases h
  · rw [if_neg h0] at h
    rcases hK with hK | hK
    · omega
    · cases hq : kr_take g t K with
      | none => rw [hq] at h; cases h
      | some r =>
        obtain ⟨b, d, K2⟩ := r
        rw [hq] at h
        cases h
        exact Or.inr ⟨hK.1, (kr_tk_ok hW (hFP hK.1) ht hK.2 hq).1⟩
theorem kr_rn_first : ∀ {n : Nat} {K : kr_K}, kr_rn g gv (n + 1) K = (kr_nx g (gv 0) K).bind (fun K' => kr_rn g (fun i => gv (i + 1)) n K')
  | 0, K => by
    show (some K).bind (fun K' => kr_nx g (gv 0) K') = (kr_nx g (gv 0) K).bind (fun K' => some K')
    cases h : kr_nx g (gv 0) K <;> simp [h]
  | n + 1, K => by
    show (kr_rn g gv (n + 1) K).bind (fun K' => kr_nx g (gv (n + 1)) K') = _
    rw [kr_rn_first (n := n)]
    cases h : kr_nx g (gv 0) K with
    | none => rfl
    | some K1 => rfl
theorem kr_rn_cg : ∀ {n : Nat} {K : kr_K}, (∀ i, i < n → gv i = gv' i) → kr_rn g gv n K = kr_rn g gv' n K
  | 0, _, _ => rfl
  | n + 1, K, h => by
    unfold kr_rn
    rw [kr_rn_cg (fun i hi => h i (by omega)), h n (by omega)]
theorem kr_sK_cg (h : ∀ i, i < n → gv i = gv' i) : kr_sK g gv n K = kr_sK g gv' n K := by
  unfold kr_sK
  rw [kr_rn_cg h]
theorem kr_sK_first : kr_sK g gv (n + 1) K = match kr_nx g (gv 0) K with
    | some K' => kr_sK g (fun i => gv (i + 1)) n K'
    | none => false := by
  unfold kr_sK
  rw [kr_rn_first]
  cases h : kr_nx g (gv 0) K <;> rfl
theorem kr_ct_mul {p : Nat → Bool} {B : Nat} : ∀ {a : Nat}, jn_ct p (a * B) = jn_sum (fun t => jn_ct (fun r => p (t * B + r)) B) a
  | 0 => by rw [Nat.zero_mul]; rfl
  | a + 1 => by
    rw [Nat.succ_mul, jn_ct_plus]
    unfold jn_sum
    rw [kr_ct_mul]
theorem kr_sum_cg {f f' : Nat → Nat} : ∀ {n : Nat}, (∀ i, i < n → f i = f' i) → jn_sum f n = jn_sum f' n
  | 0, _ => rfl
  | n + 1, h => by
    unfold jn_sum
    rw [kr_sum_cg (fun i hi => h i (by omega)), h n (by omega)]
theorem kr_ct_cg {p q : Nat → Bool} : ∀ {n : Nat}, (∀ i, i < n → p i = q i) → jn_ct p n = jn_ct q n
  | 0, _ => rfl
  | n + 1, h => by
    unfold jn_ct
    rw [kr_ct_cg (fun i hi => h i (by omega)), h n (by omega)]
theorem kr_ct_zero {n : Nat} : jn_ct (fun _ => false) n = 0 := by
  induction n with
  | zero => rfl
  | succ n ih => unfold jn_ct; rw [ih]; rfl
theorem kr_dg_hi {B r t : Nat} (ht : t < a) (hr : r < a ^ n) : kr_dg a (n + 1) (t * a ^ n + r) 0 = t := by
  unfold kr_dg
  rw [show n + 1 - 1 - 0 = n by omega, Nat.mul_comm, Nat.mul_add_div (Nat.pow_pos (by omega)), Nat.div_eq_of_lt hr, Nat.add_zero, Nat.mod_eq_of_lt ht]
theorem kr_dg_lo {r t k : Nat} (hk : k < n) : kr_dg a (n + 1) (t * a ^ n + r) (k + 1) = kr_dg a n r k := by
  unfold kr_dg
  rcases Nat.eq_zero_or_pos a with h0 | h0
  · subst h0
    rw [Nat.zero_pow (show 0 < n by omega), Nat.mul_zero, Nat.zero_add, show n + 1 - 1 - (k + 1) = n - 1 - k by omega]
  · rw [show n + 1 - 1 - (k + 1) = n - 1 - k by omega]
    have e : t * a ^ n = a ^ (n - 1 - k) * (t * a ^ k * a) := by
      have : a ^ n = a ^ (n - 1 - k) * (a ^ k * a) := by
        rw [← Nat.pow_succ, ← Nat.pow_add]
        congr 1
        omega
      rw [this, Nat.mul_left_comm, Nat.mul_assoc]
    rw [e, Nat.mul_add_div (Nat.pow_pos h0), Nat.add_comm, Nat.add_mul_mod_self_right]
theorem kr_count : ∀ {n : Nat} {K : kr_K}, jn_ct (fun code => kr_sK g (fun k => (kr_dg (g 0 0).toNat n code k : Nat)) n K) ((g 0 0).toNat ^ n) = kr_cn g n K
  | 0, K => by
    rw [Nat.pow_zero]
    unfold kr_cn
    show 0 + (if kr_en g K = true then 1 else 0) = _
    rw [Nat.zero_add]
  | n + 1, K => by
    rw [Nat.pow_succ, Nat.mul_comm, kr_ct_mul]
    unfold kr_cn
    refine kr_sum_cg (fun t ht => ?_)
    have hc : ∀ r, r < (g 0 0).toNat ^ n → kr_sK g (fun k => (kr_dg (g 0 0).toNat (n + 1) (t * (g 0 0).toNat ^ n + r) k : Nat)) (n + 1) K = match kr_nx g (t : Int) K with
        | some K' => kr_sK g (fun k => (kr_dg (g 0 0).toNat n r k : Nat)) n K'
        | none => false := fun r hr => by
      rw [kr_sK_first, kr_dg_hi (B := 0) ht hr]
      cases h : kr_nx g (t : Int) K with
      | none => rfl
      | some K' => exact kr_sK_cg (fun i hi => by rw [kr_dg_lo hi])
    rw [kr_ct_cg hc]
    cases h : kr_nx g (t : Int) K with
    | none => exact kr_ct_zero
    | some K' => exact kr_count
end KRF
