/-! TEXT: all its LINES, in the reference -/
def kW_tp (c : Nat) (i : Int) : Prop := (c = 92 ∧ (i = 1 ∨ i = 2 ∨ (4 ≤ i ∧ i ≤ 6))) ∨ kW_mp c i
section KTP
variable {w : Nat} {σ σ0 τ : jg_M} {a n0 n p k : Nat} {B : Nat → Int} {g g' : gM} {m c b lo hi : Int} {t : kt_T} {R : kt_R} {KV : jg_M → Prop} {KI : Int → jg_M → Prop} {x v e : Int}
end KTP
