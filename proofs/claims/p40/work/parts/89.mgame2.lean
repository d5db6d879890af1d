/-! GAME, in the reference: who wins -/
section KRH
variable {w : Nat} {σ τ : jg_M} {n m a code t : Nat} {g : gM} {K K' : kr_K} {KV : jg_M → Prop} {KI : Int → jg_M → Prop} {x2 : Int}
/-- whether who is to go wins, if so many have come by a number -/
noncomputable def kr_wt (g : gM) (K : kr_K) (n code j : Nat) : Prop := match kr_rc g n code K with
  | some K' => 0 ≤ kr_wn g j K'
  | none => False
noncomputable def kr_gp (g : gM) (K : kr_K) (j : Nat) (t : Nat) : Bool := match kr_nx g (t : Int) K with
  | some K' => decide (kr_wn g j K' < 0)
  | none => false
def kr_m1 (v : Int) : Int := if v < 0 then -1 else v
theorem kr_wn_s {j : Nat} : kr_wn g (j + 1) K = kr_ff (kr_gp g K j) (g 0 0).toNat 0 := rfl
end KRH
