/-! Counting the bits of a long word, 2 -/
section JB3
variable {w : Nat} {σ : jg_M} {KI : Int → jg_M → Prop}
def jn_gk (k m : Nat) : Nat := jn_f3 k (jn_f2 k (jn_f1 k m))
theorem jn_gk_0 {m : Nat} : jn_gk 0 m = 0 := Nat.and_zero _
theorem jn_gk_s {k m : Nat} : jn_gk (k + 1) m = jn_ct (m % 256).testBit 8 + 256 * jn_gk k (m / 256) := by
  have h := jn_f3_s (k := k) (b := m % 256) (h := m / 256) (by omega)
  rw [show m % 256 + 256 * (m / 256) = m by omega] at h
  exact h
theorem jn_ct_byte {k m : Nat} : jn_ct m.testBit (8 + k) = jn_ct (m % 256).testBit 8 + jn_ct (m / 256).testBit k := by
  rw [jn_ct_plus]
  have h1 : jn_ct m.testBit 8 = jn_ct (m % 256).testBit 8 := jn_ct_eq (fun i hi => by
    rw [show (256 : Nat) = 2 ^ 8 by decide, Nat.testBit_mod_two_pow]
    simp [hi])
  have h2 : jn_ct (fun i => m.testBit (8 + i)) k = jn_ct (m / 256).testBit k := jn_ct_eq (fun i hi => by
    rw [show (256 : Nat) = 2 ^ 8 by decide, Nat.testBit_div_two_pow, Nat.add_comm])
  rw [h1, h2]
theorem jn_gk_sum {m : Nat} : ∃ p0 p1 p2 p3 p4 p5 p6 p7 : Nat, (p0 ≤ 8 ∧ p1 ≤ 8 ∧ p2 ≤ 8 ∧ p3 ≤ 8) ∧ (p4 ≤ 8 ∧ p5 ≤ 8 ∧ p6 ≤ 8 ∧ p7 ≤ 8) ∧ jn_gk 8 m = p0 + 256 * (p1 + 256 * (p2 + 256 * (p3 + 256 * (p4 + 256 * (p5 + 256 * (p6 + 256 * p7)))))) ∧ jn_ct m.testBit 64 = p0 + (p1 + (p2 + (p3 + (p4 + (p5 + (p6 + p7)))))) := by
  refine ⟨jn_ct ((m) % 256).testBit 8, jn_ct ((m / 256) % 256).testBit 8, jn_ct ((m / 256 / 256) % 256).testBit 8, jn_ct ((m / 256 / 256 / 256) % 256).testBit 8, jn_ct ((m / 256 / 256 / 256 / 256) % 256).testBit 8, jn_ct ((m / 256 / 256 / 256 / 256 / 256) % 256).testBit 8, jn_ct ((m / 256 / 256 / 256 / 256 / 256 / 256) % 256).testBit 8, jn_ct ((m / 256 / 256 / 256 / 256 / 256 / 256 / 256) % 256).testBit 8, ⟨jn_ct_le, jn_ct_le, jn_ct_le, jn_ct_le⟩, ⟨jn_ct_le, jn_ct_le, jn_ct_le, jn_ct_le⟩, ?_, ?_⟩
  case refine_1 =>
    rw [jn_gk_s, jn_gk_s, jn_gk_s, jn_gk_s, jn_gk_s, jn_gk_s, jn_gk_s, jn_gk_s, jn_gk_0, Nat.mul_zero, Nat.add_zero]
  case refine_2 =>
    rw [show (64 : Nat) = 8 + 56 by decide, jn_ct_byte, show (56 : Nat) = 8 + 48 by decide, jn_ct_byte, show (48 : Nat) = 8 + 40 by decide, jn_ct_byte, show (40 : Nat) = 8 + 32 by decide, jn_ct_byte, show (32 : Nat) = 8 + 24 by decide, jn_ct_byte, show (24 : Nat) = 8 + 16 by decide, jn_ct_byte, show (16 : Nat) = 8 + 8 by decide, jn_ct_byte, show jn_ct (m / 256 / 256 / 256 / 256 / 256 / 256 / 256).testBit 8 = jn_ct (m / 256 / 256 / 256 / 256 / 256 / 256 / 256).testBit (8 + 0) from rfl, jn_ct_byte]
    rfl
end JB3
