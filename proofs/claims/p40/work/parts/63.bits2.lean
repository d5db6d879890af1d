/-! Counting the bits of a long word -/
section JB2
variable {w : Nat} {σ : jg_M} {KI : Int → jg_M → Prop}
def jn_m8 (c : Nat) : Nat → Nat
  | 0 => 0
  | k + 1 => c + 256 * jn_m8 c k
def jn_f1 (k x : Nat) : Nat := x - (x / 2 &&& jn_m8 85 k)
def jn_f2 (k x : Nat) : Nat := (x &&& jn_m8 51 k) + (x / 4 &&& jn_m8 51 k)
def jn_f3 (k x : Nat) : Nat := (x + x / 16) &&& jn_m8 15 k
theorem jn_and8 {c M x : Nat} (hc : c < 256) : x &&& (c + 256 * M) = (x % 256 &&& c) + 256 * (x / 256 &&& M) := by
  have h1 : (x &&& (c + 256 * M)) % 2 ^ 8 = (x % 2 ^ 8) &&& ((c + 256 * M) % 2 ^ 8) := Nat.and_mod_two_pow
  have h2 : (x &&& (c + 256 * M)) / 2 ^ 8 = (x / 2 ^ 8) &&& ((c + 256 * M) / 2 ^ 8) := Nat.and_div_two_pow
  rw [show (2 : Nat) ^ 8 = 256 by decide] at h1 h2
  rw [show (c + 256 * M) % 256 = c by omega] at h1
  rw [show (c + 256 * M) / 256 = M by omega] at h2
  omega
theorem jn_f1_b : ∀ b : Fin 256, ∀ t : Fin 2, (b.val / 2 + 128 * t.val) &&& 85 = b.val / 2 &&& 85 := by decide +kernel
theorem jn_f2_b : ∀ b : Fin 256, ∀ t : Fin 4, (b.val / 4 + 64 * t.val) &&& 51 = b.val / 4 &&& 51 := by decide +kernel
theorem jn_f2_n : ∀ b : Fin 256, jn_f2 1 (jn_f1 1 b.val) % 16 ≤ 4 ∧ jn_f2 1 (jn_f1 1 b.val) / 16 ≤ 4 := by decide +kernel
theorem jn_f3_b : ∀ b : Fin 256, ∀ t : Fin 5, (jn_f2 1 (jn_f1 1 b.val) + jn_f2 1 (jn_f1 1 b.val) / 16 + 16 * t.val) &&& 15 = jn_ct b.val.testBit 8 := by decide +kernel
theorem jn_f1_s {k b h : Nat} (hb : b < 256) : jn_f1 (k + 1) (b + 256 * h) = jn_f1 1 b + 256 * jn_f1 k h := by
  have e1 := jn_f1_b ⟨b, hb⟩ ⟨h % 2, by omega⟩
  dsimp only at e1
  have h1 : h / 2 &&& jn_m8 85 k ≤ h / 2 := Nat.and_le_left
  have h2 : b / 2 &&& 85 ≤ b / 2 := Nat.and_le_left
  unfold jn_f1
  rw [show jn_m8 85 (k + 1) = 85 + 256 * jn_m8 85 k from rfl, show jn_m8 85 1 = 85 from rfl, jn_and8 (by omega), show (b + 256 * h) / 2 % 256 = b / 2 + 128 * (h % 2) by omega, show (b + 256 * h) / 2 / 256 = h / 2 by omega, e1]
  omega
theorem jn_f2_s {k b h : Nat} (hb : b < 256) : jn_f2 (k + 1) (b + 256 * h) = jn_f2 1 b + 256 * jn_f2 k h := by
  have e1 := jn_f2_b ⟨b, hb⟩ ⟨h % 4, by omega⟩
  dsimp only at e1
  unfold jn_f2
  rw [show jn_m8 51 (k + 1) = 51 + 256 * jn_m8 51 k from rfl, show jn_m8 51 1 = 51 from rfl, jn_and8 (by omega), jn_and8 (by omega), show (b + 256 * h) % 256 = b by omega, show (b + 256 * h) / 256 = h by omega, show (b + 256 * h) / 4 % 256 = b / 4 + 64 * (h % 4) by omega, show (b + 256 * h) / 4 / 256 = h / 4 by omega, e1]
  omega
theorem jn_f2_16 : ∀ {k h : Nat}, jn_f2 k (jn_f1 k h) % 16 ≤ 4
  | 0, h => by
    unfold jn_f2
    show ((_ &&& 0) + (_ &&& 0)) % 16 ≤ 4
    rw [Nat.and_zero, Nat.and_zero]
    decide
  | k + 1, h => by
    have e := jn_f2_n ⟨h % 256, by omega⟩
    dsimp only at e
    have hl : jn_f1 1 (h % 256) < 256 := Nat.lt_of_le_of_lt (Nat.sub_le _ _) (show h % 256 < 256 by omega)
    rw [show h = h % 256 + 256 * (h / 256) by omega, jn_f1_s (by omega), jn_f2_s hl]
    omega
theorem jn_f3_s {k b h : Nat} (hb : b < 256) : jn_f3 (k + 1) (jn_f2 (k + 1) (jn_f1 (k + 1) (b + 256 * h))) = jn_ct b.testBit 8 + 256 * jn_f3 k (jn_f2 k (jn_f1 k h)) := by
  have hl : jn_f1 1 b < 256 := Nat.lt_of_le_of_lt (Nat.sub_le _ _) hb
  have hn := jn_f2_n ⟨b, hb⟩
  dsimp only at hn
  have h16 := jn_f2_16 (k := k) (h := h)
  have e := jn_f3_b ⟨b, hb⟩ ⟨jn_f2 k (jn_f1 k h) % 16, by omega⟩
  dsimp only at e
  rw [jn_f1_s hb, jn_f2_s hl]
  generalize jn_f2 1 (jn_f1 1 b) = p at *
  generalize jn_f2 k (jn_f1 k h) = q at *
  unfold jn_f3
  rw [show jn_m8 15 (k + 1) = 15 + 256 * jn_m8 15 k from rfl, jn_and8 (by omega), show (p + 256 * q + (p + 256 * q) / 16) % 256 = p + p / 16 + 16 * (q % 16) by omega, show (p + 256 * q + (p + 256 * q) / 16) / 256 = q + q / 16 by omega, e]
end JB2
