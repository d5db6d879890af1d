/-! Items of a KERNEL told, in the reference; moves counted in the class -/
section JMK
variable {w : Nat} {σ : jg_M} {A : Nat} {g : gM} {s k : Int} {e : Nat} {f : Int → Nat} {S : jn_Q} {KI : Int → jg_M → Prop}
def jn_mo (S : jn_Q) (s : Nat) (x : Nat) : Bool := decide (0 ≤ S.2.2.1 (s : Int) (x : Int))
theorem jc_X7_movesInAll (h0 : jg_sh A = (7, 0)) (hX : jn_Fx σ A g e f S) (hF : jn_FP g S) (hk : KI (jn_sum (fun s => jn_ct (jn_mo S s) 15) S.1.toNat : Nat) σ) : jg_CI w 2 mm_X7_movesInAll [.ref A] σ KI := by
  have hI1 := hF.1.1
  have hin : ∀ (m x s : Nat) (P0 : Nat), (∀ (u3 : Value), jg_GI w 2 mm_X7_movesInAll 4 [.ref A, .int (.ofInt ((P0 + jn_ct (jn_mo S s) 15 : Nat) : Int)), .int (.ofInt ((s : Int) + 1)), u3] σ KI) → (s : Int) < S.1 → x + m = 15 → jg_GI w 2 mm_X7_movesInAll 14 [.ref A, .int (.ofInt ((P0 + jn_ct (jn_mo S s) x : Nat) : Int)), .int (.ofInt (s : Int)), .int (.ofInt (x : Int))] σ KI := by
    intro m
    induction m with
    | zero =>
      intro x s P0 hP hs hx
      refine jb_X7_movesInAll_14 h0 ?_
      rw [jr_wr (by omega)]
      exact jn_ite (fun _ => by rw [show x = 15 by omega]; exact hP _) (fun h => by omega)
    | succ m ih =>
      intro x s P0 hP hs hx
      have h1 := ih (x + 1) s P0 hP hs (by omega)
      rw [show ((x + 1 : Nat) : Int) = (x : Int) + 1 by omega] at h1
      have hb := hF.1.2.2.1 (s : Int) (x : Int)
      have hj : jr (jn_m2 (S.2.2.1 (s : Int) (x : Int))) ∧ (jn_m2 (S.2.2.1 (s : Int) (x : Int)) < 0 ↔ S.2.2.1 (s : Int) (x : Int) < 0) := by
        unfold jn_m2
        split <;> omega
      have hmo : jn_mo S s x = true ↔ 0 ≤ S.2.2.1 (s : Int) (x : Int) := by unfold jn_mo; exact decide_eq_true_iff
      refine jb_X7_movesInAll_14 h0 ?_
      rw [jr_wr (by omega)]
      refine jn_ite (fun h => by omega) (fun _ => jc_X7_moveBy h0 hX.1.1 (by omega) (by omega) (by omega) ?_)
      rw [show (if (0 ≤ (s : Int) ∧ (s : Int) < S.1) ∧ 0 ≤ (x : Int) ∧ (x : Int) < 15 then σ.1 (A + 4) ((s : Int) * 15 + (x : Int)) else -2) = jn_m2 (S.2.2.1 (s : Int) (x : Int)) by rw [if_pos ⟨⟨by omega, hs⟩, by omega, by omega⟩, hX.2.1 (s : Int) (x : Int) (by omega) hs (by omega) (by omega)], jr_wr hj.1]
      refine jn_ite (fun hneg => ?_) (fun hpos => ?_)
      · rw [jn_ct_f (fun q => by have := hmo.mp q; omega)] at h1
        exact h1
      · rw [jn_ct_t (hmo.mpr (by omega))] at h1
        rw [show ((P0 + jn_ct (jn_mo S s) x : Nat) : Int) + 1 = ((P0 + (jn_ct (jn_mo S s) x + 1) : Nat) : Int) by omega]
        exact h1
  have hloop : ∀ (m s : Nat) (u3 : Value), (s : Int) + m = S.1 → jg_GI w 2 mm_X7_movesInAll 4 [.ref A, .int (.ofInt ((jn_sum (fun s => jn_ct (jn_mo S s) 15) s : Nat) : Int)), .int (.ofInt (s : Int)), u3] σ KI := by
    intro m
    induction m with
    | zero =>
      intro s u3 hs
      refine jb_X7_movesInAll_4 h0 ?_
      rw [hX.1.1, jr_wr (by omega), jr_wr (by omega)]
      exact jn_ite (fun _ => by rwa [show S.1.toNat = s by omega] at hk) (fun h => by omega)
    | succ m ih =>
      intro s u3 hs
      refine jb_X7_movesInAll_4 h0 ?_
      rw [hX.1.1, jr_wr (by omega), jr_wr (by omega)]
      refine jn_ite (fun h => by omega) (fun _ => ?_)
      refine hin 15 0 s (jn_sum (fun s => jn_ct (jn_mo S s) 15) s) (fun u3 => ?_) (by omega) rfl
      have := ih (s + 1) u3 (by omega)
      rw [show ((s + 1 : Nat) : Int) = (s : Int) + 1 by omega] at this
      exact this
  exact jb_X7_movesInAll_0 h0 (hloop S.1.toNat 0 _ (by omega))
end JMK
