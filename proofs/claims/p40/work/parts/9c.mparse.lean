/-! TEXT: its LINES, in the reference -/
def kt_GM (σ : jg_M) (b : Int) (g : gM) (m : Int) : Prop := ((0 ≤ b ∧ b ≤ 1) ∧ σ.1 (92 + 3) b = g 0 0 ∧ σ.1 (92 + 4) b = g 0 1 ∧ σ.1 (92 + 5) b = g 0 2) ∧ ((∀ t, 0 ≤ t → t < g 0 0 → σ.1 (92 + 6) (7 * b + t) = g 6 t) ∧ ∀ k, 0 ≤ k → k < g 0 1 → σ.1 (92 + 7) (5 * b + k) = g 6 (10 + k)) ∧ (∀ t, 0 ≤ t → t < 7 → σ.1 (92 + 8) (7 * b + t) = g 1 t ∧ σ.1 (92 + 9) (7 * b + t) = g 2 t) ∧
  ∀ r, 0 ≤ r → r < m → σ.1 (92 + 10) (13 * b + r) = g 3 r ∧ σ.1 (92 + 11) (13 * b + r) = g 4 r ∧ ∀ d, 0 ≤ d → d < g 4 r → σ.1 (92 + 12) (4 * (13 * b + r) + d) = g 5 (r * 4 + d)
def kW_mp (c : Nat) (i : Int) : Prop := (c = 92 ∧ 7 ≤ i ∧ i ≤ 11) ∨ (92 + 3 ≤ c ∧ c ≤ 92 + 5 ∧ 1 ≤ i) ∨ ((c = 92 + 6 ∨ c = 92 + 8 ∨ c = 92 + 9) ∧ 7 ≤ i) ∨ (c = 92 + 7 ∧ 5 ≤ i) ∨ ((c = 92 + 10 ∨ c = 92 + 11) ∧ 13 ≤ i) ∨ (c = 92 + 12 ∧ 52 ≤ i)
section KTM
variable {w : Nat} {σ σ0 τ : jg_M} {a n0 n p k : Nat} {B : Nat → Int} {g g' : gM} {m c b lo hi : Int} {t : kt_T} {R : kt_R} {KV : jg_M → Prop} {KI : Int → jg_M → Prop} {x v : Int}
end KTM
