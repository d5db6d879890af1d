/-! Items of a KERNEL told, in the reference; moves counted in the class -/
section JMK
variable {w : Nat} {σ : jg_M} {A : Nat} {g : gM} {s k : Int} {e : Nat} {f : Int → Nat} {S : jn_Q} {KI : Int → jg_M → Prop}
theorem jm_item24 (hR : jn_RK σ 0 g S) (hF : jn_FP g S) (hs : 0 ≤ s ∧ s < S.1) (hk0 : 0 ≤ k ∧ k < 2147483648) (k0 : ((jn_ct (S.2.1 s).testBit 62 : Nat) : Int) ≤ k → KI (-2) σ)
    (k1 : ∀ i : Nat, i < 62 → (S.2.1 s).testBit i = true → ((jn_ct (S.2.1 s).testBit i : Nat) : Int) = k → KI (10 * ((i / 5 : Nat) : Int) + ((i % 5 : Nat) : Int)) σ) : jg_GI w 1 mm_X12_item 24 [.ref 92, .int (.ofInt s), .int (.ofInt k), .int (.ofInt 0), .int (.ofInt 0)] σ KI := by
  have hI1 := hF.1.1
  have hv := hF.1.2.1 s hs.1 hs.2
  have hrow := (hR.2.1 s hs.1 hs.2).1
  have hhi : ∀ i, 62 ≤ i → ¬ (S.2.1 s).testBit i = true := fun i hi q => by
    rw [Nat.testBit_lt_two_pow (Nat.lt_of_lt_of_le (show S.2.1 s < 2 ^ 62 from hv.1) (Nat.pow_le_pow_right (by omega) hi))] at q
    cases q
  have hloop : ∀ (m i : Nat), i + m = 65 → ((jn_ct (S.2.1 s).testBit i : Nat) : Int) ≤ k → jg_GI w 1 mm_X12_item 24 [.ref 92, .int (.ofInt s), .int (.ofInt k), .int (.ofInt ((jn_ct (S.2.1 s).testBit i : Nat) : Int)), .int (.ofInt (i : Int))] σ KI := by
    intro m
    induction m with
    | zero =>
      intro i hi hle
      refine jb_X12_item_24 rfl ?_
      rw [jr_wr (by omega)]
      have h65 := jn_ct_skip (p := (S.2.1 s).testBit) (k := 62) (d := 3) (fun j j1 _ => hhi j j1)
      exact jn_ite (fun _ => k0 (by rw [show i = 62 + 3 by omega, h65] at hle; exact hle)) (fun h => by omega)
    | succ m ih =>
      intro i hi hle
      have h1 := ih (i + 1) (by omega)
      rw [show ((i + 1 : Nat) : Int) = (i : Int) + 1 by omega] at h1
      have hr := hrow i (by omega)
      rw [show 65 * (48 * 0 + s) + (i : Int) = 65 * s + (i : Int) by omega] at hr
      refine jb_X12_item_24 rfl ?_
      rw [jr_wr (show jr (i : Int) by omega), jr_wr (show jr (65 * s + (i : Int)) by omega), hr]
      refine jn_ite (fun h => by omega) (fun _ => ⟨by omega, jn_if (fun hp => ?_) (fun hp => ?_)⟩)
      · rw [jn_ct_f hp] at h1
        exact h1 hle
      · have hi62 : i < 62 := Classical.byContradiction (fun q => hhi i (by omega) hp)
        rw [jn_ct_t hp] at h1
        rw [jr_wr (show jr ((jn_ct (S.2.1 s).testBit i : Nat) : Int) by omega), jr_wr (show jr k by omega)]
        refine jn_ite (fun hz => ?_) (fun hz => ?_)
        · rw [jb_div (by omega) (by omega), jb_rem (by omega) (by omega), show (i : Int) / 5 = ((i / 5 : Nat) : Int) by omega, show (i : Int) % 5 = ((i % 5 : Nat) : Int) by omega]
          exact k1 i hi62 hp hz
        · have h2 := h1 (by omega)
          rw [show ((jn_ct (S.2.1 s).testBit i + 1 : Nat) : Int) = ((jn_ct (S.2.1 s).testBit i : Nat) : Int) + 1 by omega] at h2
          exact h2
  exact hloop 65 0 rfl (show ((0 : Nat) : Int) ≤ k by omega)
def jn_mo (S : jn_Q) (s : Nat) (x : Nat) : Bool := decide (0 ≤ S.2.2.1 (s : Int) (x : Int))
theorem jc_X7_movesInAll (h0 : jg_sh A = (7, 0)) (hX : jn_Fx σ A g e f S) (hF : jn_FP g S) (hk : KI (jn_sum (fun s => jn_ct (jn_mo S s) 15) S.1.toNat : Nat) σ) : jg_CI w 2 mm_X7_movesInAll [.ref A] σ KI := by
  have hI1 := hF.1.1
  have hin : ∀ (m x s : Nat) (P0 : Nat), (∀ (u3 : Value), jg_GI w 2 mm_X7_movesInAll 4 [.ref A, .int (.ofInt ((P0 + jn_ct (jn_mo S s) 15 : Nat) : Int)), .int (.ofInt ((s : Int) + 1)), u3] σ KI) → (s : Int) < S.1 → x + m = 15 → jg_GI w 2 mm_X7_movesInAll 14 [.ref A, .int (.ofInt ((P0 + jn_ct (jn_mo S s) x : Nat) : Int)), .int (.ofInt (s : Int)), .int (.ofInt (x : Int))] σ KI := by
    intro m
    induction m with
    | zero =>
      intro x s P0 hP hs hx
      refine jb_X7_movesInAll_14 h0 ?_
      rw [jr_wr (by omega)]
      exact jn_ite (fun _ => by rw [show x = 15 by omega]; exact hP _) (fun h => by omega)
    | succ m ih =>
      intro x s P0 hP hs hx
      have h1 := ih (x + 1) s P0 hP hs (by omega)
      rw [show ((x + 1 : Nat) : Int) = (x : Int) + 1 by omega] at h1
      have hb := hF.1.2.2.1 (s : Int) (x : Int)
      have hj : jr (jn_m2 (S.2.2.1 (s : Int) (x : Int))) ∧ (jn_m2 (S.2.2.1 (s : Int) (x : Int)) < 0 ↔ S.2.2.1 (s : Int) (x : Int) < 0) := by
        unfold jn_m2
        split <;> omega
      have hmo : jn_mo S s x = true ↔ 0 ≤ S.2.2.1 (s : Int) (x : Int) := by unfold jn_mo; exact decide_eq_true_iff
      refine jb_X7_movesInAll_14 h0 ?_
      rw [jr_wr (by omega)]
      refine jn_ite (fun h => by omega) (fun _ => jc_X7_moveBy h0 hX.1.1 (by omega) (by omega) (by omega) ?_)
      rw [show (if (0 ≤ (s : Int) ∧ (s : Int) < S.1) ∧ 0 ≤ (x : Int) ∧ (x : Int) < 15 then σ.1 (A + 4) ((s : Int) * 15 + (x : Int)) else -2) = jn_m2 (S.2.2.1 (s : Int) (x : Int)) by rw [if_pos ⟨⟨by omega, hs⟩, by omega, by omega⟩, hX.2.1 (s : Int) (x : Int) (by omega) hs (by omega) (by omega)], jr_wr hj.1]
      refine jn_ite (fun hneg => ?_) (fun hpos => ?_)
      · rw [jn_ct_f (fun q => by have := hmo.mp q; omega)] at h1
        exact h1
      · rw [jn_ct_t (hmo.mpr (by omega))] at h1
        rw [show ((P0 + jn_ct (jn_mo S s) x : Nat) : Int) + 1 = ((P0 + (jn_ct (jn_mo S s) x + 1) : Nat) : Int) by omega]
        exact h1
  have hloop : ∀ (m s : Nat) (u3 : Value), (s : Int) + m = S.1 → jg_GI w 2 mm_X7_movesInAll 4 [.ref A, .int (.ofInt ((jn_sum (fun s => jn_ct (jn_mo S s) 15) s : Nat) : Int)), .int (.ofInt (s : Int)), u3] σ KI := by
    intro m
    induction m with
    | zero =>
      intro s u3 hs
      refine jb_X7_movesInAll_4 h0 ?_
      rw [hX.1.1, jr_wr (by omega), jr_wr (by omega)]
      exact jn_ite (fun _ => by rwa [show S.1.toNat = s by omega] at hk) (fun h => by omega)
    | succ m ih =>
      intro s u3 hs
      refine jb_X7_movesInAll_4 h0 ?_
      rw [hX.1.1, jr_wr (by omega), jr_wr (by omega)]
      refine jn_ite (fun h => by omega) (fun _ => ?_)
      refine hin 15 0 s (jn_sum (fun s => jn_ct (jn_mo S s) 15) s) (fun u3 => ?_) (by omega) rfl
      have := ih (s + 1) u3 (by omega)
      rw [show ((s + 1 : Nat) : Int) = (s : Int) + 1 by omega] at this
      exact this
  exact jb_X7_movesInAll_0 h0 (hloop S.1.toNat 0 _ (by omega))
end JMK
