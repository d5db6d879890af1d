/-! KIND, both sides -/
def kv_rc (g : gM) (x : Int) : Nat → Int
  | 0 => 0
  | n + 1 => kv_rc g x n + if g 3 (n : Nat) = x then 1 else 0
noncomputable def kv_kind (g : gM) (x y : Int) : Int := if y = 0 then jn_b (jn_E (kg_e g) x) else if y = 1 then ((kg_f g x : Nat) : Int) else if y = 2 then ((kg_fo g x : Nat) : Int) else if y = 3 then kv_rc g x (g 0 2).toNat else kv_lenS (ka_VK g x)
/-- what is thrown: 1 no such kind, 2 no such what -/
def kv_th (g : gM) (x y : Int) : Int := if 0 ≤ x ∧ x < g 0 1 then (if 0 ≤ y ∧ y ≤ 4 then 0 else 2) else 1
def kW_kd (c : Nat) (i : Int) : Prop := kW_ge c i ∨ c = 92 + 25
section KVK
variable {w : Nat} {σ τ : jg_M} {T G : Nat} {g : gM} {x y : Int} {KI : Int → jg_M → Prop}
theorem kv_rc_rng {n : Nat} : 0 ≤ kv_rc g x n ∧ kv_rc g x n ≤ n := by
  induction n with
  | zero => exact ⟨Int.le_refl 0, Int.le_refl 0⟩
  | succ n ih =>
    unfold kv_rc
    split <;> omega
theorem jc_rulesOf (h0 : jg_sh G = (0, 0)) (hG : jn_Gr σ G g) (hW : jn_GW g) (hx : jr x) (hk : KI (kv_rc g x (g 0 2).toNat) σ) : jg_CI w 2 mm_X0_rulesOf [.ref G, .int (.ofInt x)] σ KI := by
  have hw := hW.1
  have go : ∀ m n : Nat, n + m = (g 0 2).toNat → jg_GI w 2 mm_X0_rulesOf 4 [.ref G, .int (.ofInt x), .int (.ofInt (kv_rc g x n)), .int (.ofInt (n : Nat))] σ KI := by
    intro m
    induction m with
    | zero =>
      intro n hn
      refine jb_X0_rulesOf_4 h0 ?_
      rw [hG.1.2.2.1, jr_wr (show jr (g 0 2) by omega), jr_wr (show jr (n : Int) by omega), if_pos (by omega)]
      rw [show n = (g 0 2).toNat by omega]
      exact hk
    | succ m ih =>
      intro n hn
      refine jb_X0_rulesOf_4 h0 ?_
      rw [hG.1.2.2.1, jr_wr (show jr (g 0 2) by omega), jr_wr (show jr (n : Int) by omega), if_neg (by omega)]
      refine jc_X0_kindOf h0 hG hW (by omega) ?_
      have i2 := ih (n + 1) (by omega)
      have hr := hW.2.1 n (by omega) (by omega)
      have hz : (if 0 ≤ (n : Int) ∧ (n : Int) < g 0 2 then g 3 (n : Int) else -1) = g 3 (n : Int) := if_pos ⟨by omega, by omega⟩
      rw [hz, jr_wr hx, jr_wr (show jr (g 3 (n : Nat)) by omega)]
      unfold kv_rc at i2
      refine jn_ite (fun hc => ?_) (fun hc => ?_)
      · rw [if_pos hc] at i2
        exact i2
      · rw [if_neg hc, Int.add_zero] at i2
        exact i2
  exact jb_X0_rulesOf_0 h0 (go (g 0 2).toNat 0 (by omega))
end KVK
