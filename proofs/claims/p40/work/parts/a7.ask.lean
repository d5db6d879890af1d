/-! ASK: rows by one base read by another -/
def kq_c (b b' : Nat) : Nat → Nat → Nat
  | 0, _ => 0
  | n + 1, c => c % b + b' * kq_c b b' n (c / b)
/-- the first of the least -/
def kq_b (f : Nat → Nat) : Nat → Nat
  | 0 => 0
  | m + 1 => if f m < f (kq_b f m) then m else kq_b f m
noncomputable def kq_y (g : gM) (N : kn_N) (n code r : Nat) : Bool := @decide (kp_mi g N r ∧ kr_se (kp_o g (r : Int)) (fun k => ((kr_dg (g 0 0).toNat n code k : Nat) : Int)) n = true) (Classical.propDecidable _)
noncomputable def kq_m (g : gM) (N : kn_N) (r : Nat) : Bool := @decide (kp_mi g N r) (Classical.propDecidable _)
/-- how many are left at worst -/
noncomputable def kq_w (g : gM) (N : kn_N) (n code : Nat) : Nat := if jn_ct (kq_m g N) 12 - jn_ct (kq_y g N n code) 12 < jn_ct (kq_y g N n code) 12 then jn_ct (kq_y g N n code) 12 else jn_ct (kq_m g N) 12 - jn_ct (kq_y g N n code) 12
noncomputable def kq_best (g : gM) (N : kn_N) (n : Nat) : Nat := kq_b (kq_w g N n) ((g 0 0).toNat ^ n)
noncomputable def kv_ask (g : gM) (N : kn_N) (n x : Int) : Int := if (1 ≤ n ∧ n ≤ 3) ∧ 0 ≤ x ∧ x ≤ 1 then (if g 0 0 = 0 then -2 else if x = 1 then (kq_w g N n.toNat (kq_best g N n.toNat) : Nat) else (kq_c (g 0 0).toNat 10 n.toNat (kq_best g N n.toNat) : Nat)) else -1
section KQA
variable {a b b' n c c' d m : Nat} {g : gM} {N : kn_N} {f : Nat → Nat}
end KQA
