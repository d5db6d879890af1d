/-! The ACTIONS and CONFLICTS in the reference -/
def jn_ls (lm : Nat → Nat) : Nat → Nat
  | 0 => 0
  | k + 1 => jn_ls lm k + (if (lm (k / 16)).testBit (k % 16) then 1 else 0)
theorem jn_ls_mono {lm : Nat → Nat} {j : Nat} : ∀ {d : Nat}, jn_ls lm j ≤ jn_ls lm (j + d)
  | 0 => Nat.le_refl _
  | d + 1 => by
    have h := jn_ls_mono (lm := lm) (j := j) (d := d)
    show _ ≤ jn_ls lm (j + d) + _
    omega
theorem jn_ls_t {lm : Nat → Nat} {k : Nat} (h : (lm (k / 16)).testBit (k % 16) = true) : jn_ls lm (k + 1) = jn_ls lm k + 1 := by
  show jn_ls lm k + _ = _
  rw [if_pos h]
theorem jn_ls_f {lm : Nat → Nat} {k : Nat} (h : ¬ (lm (k / 16)).testBit (k % 16) = true) : jn_ls lm (k + 1) = jn_ls lm k := by
  show jn_ls lm k + _ = _
  rw [if_neg h]; rfl
theorem jn_ls_lt {lm : Nat → Nat} {j k : Nat} (h : (lm (j / 16)).testBit (j % 16) = true) (hk : j < k) : jn_ls lm j < jn_ls lm k := by
  have h1 := jn_ls_t h
  have h2 := jn_ls_mono (lm := lm) (j := j + 1) (d := k - (j + 1))
  rw [show j + 1 + (k - (j + 1)) = k by omega] at h2
  omega
theorem jn_ls_skip {lm : Nat → Nat} {k : Nat} : ∀ {d : Nat}, (∀ j, k ≤ j → j < k + d → ¬ (lm (j / 16)).testBit (j % 16) = true) → jn_ls lm (k + d) = jn_ls lm k
  | 0, _ => rfl
  | d + 1, h => by
    rw [show k + (d + 1) = (k + d) + 1 by omega, jn_ls_f (h (k + d) (by omega) (by omega))]
    exact jn_ls_skip (fun j h1 h2 => h j h1 (by omega))
theorem jn_ls_up {lm : Nat → Nat} {k : Nat} : ∀ {d : Nat}, jn_ls lm (k + d) ≤ jn_ls lm k + d
  | 0 => Nat.le_refl _
  | d + 1 => by
    have h := jn_ls_up (lm := lm) (k := k) (d := d)
    show jn_ls lm (k + d) + _ ≤ _
    split <;> omega
theorem jn_ls_cell {lm : Nat → Nat} (hl : ∀ c, lm c < 4096) : ∀ {c : Nat}, jn_ls lm (16 * c) ≤ 12 * c
  | 0 => Nat.le_refl _
  | c + 1 => by
    have h := jn_ls_cell hl (c := c)
    have h2 := jn_ls_up (lm := lm) (k := 16 * c) (d := 12)
    have h3 : jn_ls lm (16 * c + 12 + 4) = jn_ls lm (16 * c + 12) := jn_ls_skip (fun j h1 h2 => by
      have : (lm (j / 16)).testBit (j % 16) = false := Nat.testBit_lt_two_pow (Nat.lt_of_lt_of_le (show lm (j / 16) < 2 ^ 12 from hl _) (Nat.pow_le_pow_right (by omega) (by omega)))
      rw [this]
      exact fun q => by cases q)
    rw [show 16 * (c + 1) = 16 * c + 12 + 4 by omega, h3]
    omega
def jn_CO (τ : jg_M) (c : Int) (lm : Nat → Nat) (k : Nat) : Prop := τ.1 (92 + 22) c = (jn_ls lm k : Nat) ∧ (c = 0 → ∀ j, j < k → (lm (j / 16)).testBit (j % 16) = true → τ.1 (92 + 23) (jn_ls lm j : Nat) = (j : Nat))
section JMA
variable {w : Nat} {σ : jg_M} {g : gM} {x r k a b s t y : Int} {c : Int} {e m : Nat} {f fo : Int → Nat} {S S' : jn_Q} {L L' : Int → Int → Nat} {lm : Nat → Nat} {K : jg_M → Prop} {KI : Int → jg_M → Prop}
end JMA
