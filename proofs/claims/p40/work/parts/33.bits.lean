/-! Counting bits -/
section JBC
variable {w : Nat} {σ : jg_M} {KI : Int → jg_M → Prop}
def jn_ct (p : Nat → Bool) : Nat → Nat
  | 0 => 0
  | n + 1 => jn_ct p n + (if p n then 1 else 0)
def jn_fs (p : Nat → Bool) : Nat → Nat → Nat
  | 0, i => i
  | n + 1, i => if p i then i else jn_fs p n (i + 1)
def jn_lo (m : Nat) : Nat := jn_fs m.testBit 12 0
def jn_b1 (x : Int) : Int := x - jg_and (jg_ushr x 1) ((1431655765 : Nat) : Int)
def jn_b2 (x : Int) : Int := jg_and x ((858993459 : Nat) : Int) + jg_and (jg_ushr x 2) ((858993459 : Nat) : Int)
def jn_b3 (x : Int) : Int := jg_and (x + jg_ushr x 4) ((252645135 : Nat) : Int)
def jn_b4 (x : Int) : Int := x + jg_ushr x 8
def jn_b5 (x : Int) : Int := x + jg_ushr x 16
def jn_b6 (x : Int) : Int := jg_and (jn_b5 (jn_b4 (jn_b3 (jn_b2 (jn_b1 x))))) 63
theorem jn_bc_64 : ∀ a : Fin 64, ∀ b : Fin 64, jn_b6 ((64 * a.val + b.val : Nat) : Int) = (jn_ct (64 * a.val + b.val).testBit 12 : Nat) := by decide +kernel
theorem jn_bc_all {m : Nat} (hm : m < 4096) : jn_b6 (m : Int) = (jn_ct m.testBit 12 : Nat) := by
  have h := jn_bc_64 ⟨m / 64, by omega⟩ ⟨m % 64, by omega⟩
  dsimp only at h
  rwa [show 64 * (m / 64) + m % 64 = m by omega] at h
def jn_lq (m : Nat) : Prop := m ≠ 0 → jn_b6 (jg_and (m : Int) (-(m : Int)) - 1) = (jn_lo m : Nat) ∧ jg_and (m : Int) ((m : Int) - 1) = ((m ^^^ 2 ^ jn_lo m : Nat) : Int) ∧ jn_lo m < 12 ∧ m.testBit (jn_lo m) = true
theorem jn_lo_64 : ∀ a : Fin 64, ∀ b : Fin 64, jn_lq (64 * a.val + b.val) := by
  unfold jn_lq
  decide +kernel
theorem jn_lo_all {m : Nat} (hm : m < 4096) : jn_lq m := by
  have h := jn_lo_64 ⟨m / 64, by omega⟩ ⟨m % 64, by omega⟩
  dsimp only at h
  rwa [show 64 * (m / 64) + m % 64 = m by omega] at h
theorem jc_bitCount {m : Nat} (hm : m < 4096) (hk : KI (jn_ct m.testBit 12 : Nat) σ) : jg_CI w 0 mm_J6_bitCount_0f7a4 [.int (.ofInt (m : Int))] σ KI := by
  refine jb_J6_bitCount_0f7a4_0 ?_
  rintro _ rfl _ rfl _ rfl _ rfl _ rfl
  show KI (jn_b6 (m : Int)) σ
  rw [jn_bc_all hm]
  exact hk
theorem jc_leastOf {m : Nat} (hm : m < 4096) (h0 : m ≠ 0) (hk : KI (jn_lo m : Nat) σ) : jg_CI w 1 mm_X8_leastOf [.int (.ofInt (m : Int))] σ KI := by
  refine jb_X8_leastOf_0 (jb_J6_bitCount_0f7a4_0 ?_)
  rintro _ rfl _ rfl _ rfl _ rfl _ rfl
  show KI (jn_b6 (jg_and (m : Int) (-(m : Int)) - 1)) σ
  rw [(jn_lo_all hm h0).1]
  exact hk
theorem jn_ct_le {p : Nat → Bool} : ∀ {n : Nat}, jn_ct p n ≤ n
  | 0 => Nat.le_refl 0
  | n + 1 => by
    have := jn_ct_le (p := p) (n := n)
    unfold jn_ct
    split <;> omega
end JBC
