/-! GAME, in the reference -/
def kr_No (σ : jg_M) (K : kr_K) : Prop := σ.1 92 58 = (K.1 : Nat) ∧ ∀ i : Nat, i < K.1 → σ.1 (92 + 38) (i : Int) = K.2 i
def kW_gm (c : Nat) (i : Int) : Prop := c = 92 + 37 ∨ (92 + 39 ≤ c ∧ c ≤ 92 + 42) ∨ (c = 92 ∧ (i = 2 ∨ (54 ≤ i ∧ i ≤ 56)))
/-- so many tokens, by a number -/
noncomputable def kr_rc (g : gM) (n code : Nat) (K : kr_K) : Option kr_K := kr_rn g (fun k => (kr_dg (g 0 0).toNat n code k : Nat)) n K
section KRG
variable {w : Nat} {σ τ : jg_M} {n m a code t : Nat} {g : gM} {K K' : kr_K} {gv gv' : Nat → Int} {KV : jg_M → Prop} {KI : Int → jg_M → Prop}
theorem kr_No_fr {W : Nat → Int → Prop} (h : kr_No σ K) (hf : jF W σ τ) (h1 : ¬ W 92 58) (h2 : ∀ i, ¬ W (92 + 38) i) : kr_No τ K := ⟨(hf.1 _ _ h1).trans h.1, fun i hi => (hf.1 _ _ (h2 _)).trans (h.2 i hi)⟩
theorem kr_dg_up {k : Nat} (ht : t < a) (hk : k < n) : kr_dg a (n + 1) (a * code + t) k = kr_dg a n code k := by
  unfold kr_dg
  rw [show n + 1 - 1 - k = (n - 1 - k) + 1 by omega, Nat.pow_succ, Nat.mul_comm (a ^ (n - 1 - k)) a, ← Nat.div_div_eq_div_mul, Nat.mul_add_div (by omega), Nat.div_eq_of_lt ht, Nat.add_zero]
theorem kr_dg_end (ht : t < a) : kr_dg a (n + 1) (a * code + t) n = t := by
  unfold kr_dg
  rw [show n + 1 - 1 - n = 0 by omega, Nat.pow_zero, Nat.div_one, Nat.mul_add_mod, Nat.mod_eq_of_lt ht]
theorem kr_rc_up (ht : t < (g 0 0).toNat) : kr_rc g (n + 1) ((g 0 0).toNat * code + t) K = (kr_rc g n code K).bind (fun K' => kr_nx g (t : Int) K') := by
  unfold kr_rc
  show (kr_rn g _ n K).bind _ = _
  rw [kr_rn_cg (gv' := fun k => (kr_dg (g 0 0).toNat n code k : Nat)) (fun i hi => by rw [kr_dg_up ht hi])]
  dsimp only
  rw [kr_dg_end ht]
theorem kr_up_lt {b : Nat} (hc : code < a ^ n) (ht : t < a) : a * code + t < a ^ (n + 1) := by
  rw [Nat.pow_succ, Nat.mul_comm (a ^ n) a]
  have : a * (code + 1) ≤ a * a ^ n := Nat.mul_le_mul_left _ hc
  rw [Nat.mul_add, Nat.mul_one] at this
  omega
theorem kr_dg_lt {k : Nat} (ha : 0 < a) : kr_dg a n code k < a := Nat.mod_lt _ ha
end KRG
