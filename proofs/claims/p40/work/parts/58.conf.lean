/-! CONFLICTS told, in the class -/
section JCF
variable {w : Nat} {σ : jg_M} {T : Nat} {g : gM} {y i x s : Int} {S : jn_Q} {L : Int → Int → Nat} {fo : Int → Nat} {lm : Nat → Nat} {KI : Int → jg_M → Prop}
theorem jn_ls_in {c : Nat} : ∀ {k : Nat}, k ≤ 16 → jn_ls lm (16 * c + k) = jn_ls lm (16 * c) + jn_ct (lm c).testBit k
  | 0, _ => rfl
  | k + 1, h => by
    have ih := jn_ls_in (c := c) (k := k) (by omega)
    have h1 : (16 * c + k) / 16 = c := by omega
    have h2 : (16 * c + k) % 16 = k := by omega
    show jn_ls lm (16 * c + k) + (if (lm ((16 * c + k) / 16)).testBit ((16 * c + k) % 16) = true then 1 else 0) = jn_ls lm (16 * c) + (jn_ct (lm c).testBit k + (if (lm c).testBit k = true then 1 else 0))
    rw [h1, h2]
    omega
theorem jn_ls_next (hl : ∀ c, lm c < 4096) {c : Nat} : jn_ls lm (16 * (c + 1)) = jn_ls lm (16 * c) + jn_ct (lm c).testBit 12 := by
  have h1 := jn_ls_in (lm := lm) (c := c) (k := 12) (by omega)
  have h2 : jn_ls lm (16 * c + 12 + 4) = jn_ls lm (16 * c + 12) := jn_ls_skip (fun j h1 h2 => by
    have : (lm (j / 16)).testBit (j % 16) = false := Nat.testBit_lt_two_pow (Nat.lt_of_lt_of_le (show lm (j / 16) < 2 ^ 12 from hl _) (Nat.pow_le_pow_right (by omega) (by omega)))
    rw [this]
    exact fun q => by cases q)
  rw [show 16 * (c + 1) = 16 * c + 12 + 4 by omega, h2, h1]
/-- the class' left-out RULES as the numbers lm has -/
def jn_TL (σ : jg_M) (T : Nat) (n : Int) (lm : Nat → Nat) : Prop := σ.1 (T + 10) 0 = n ∧ (0 ≤ n ∧ n ≤ 48) ∧ (∀ c : Nat, c < 384 → σ.1 (T + 21) (c : Int) = (lm c : Nat)) ∧ (∀ c, lm c < 4096) ∧ ∀ c : Nat, 8 * n ≤ c → lm c = 0
theorem jn_TL_of (hX : σ.1 (T + 10) 0 = S.1) (hS : 1 ≤ S.1 ∧ S.1 ≤ 48) (hC : jn_TC σ T g S L fo y) : jn_TL σ T S.1 (jn_lm g S L fo y) := by
  refine ⟨hX, by omega, fun c hc => ?_, fun c => jn_lm_lt, fun c hc => if_neg (by omega)⟩
  have h := hC ((c / 8 : Nat) : Int) ((c % 8 : Nat) : Int) (by omega) (by omega) (by omega) (by omega)
  rw [show ((c / 8 : Nat) : Int) * 8 + ((c % 8 : Nat) : Int) = (c : Int) by omega] at h
  unfold jn_lm
  split
  · rename_i hq; exact (h.1 hq).2
  · rename_i hq; exact (h.2 hq).2
theorem jn_ls_end {n : Int} (hL : jn_TL σ T n lm) (hn : 0 ≤ n) {c : Nat} (hc : 8 * n ≤ c) (hc2 : c ≤ 384) : jn_ls lm (16 * c) = jn_ls lm 6144 := by
  have := jn_ls_skip (lm := lm) (k := 16 * c) (d := 6144 - 16 * c) (fun j h1 h2 q => by
    rw [hL.2.2.2.2 (j / 16) (by omega), Nat.zero_testBit] at q
    cases q)
  rw [show 16 * c + (6144 - 16 * c) = 6144 by omega] at this
  exact this.symm
theorem jc_X8_conflictCount {n : Int} (h0 : jg_sh T = (8, 0)) (hL : jn_TL σ T n lm) (hk : KI (jn_ls lm 6144 : Nat) σ) : jg_CI w 1 mm_X8_conflictCount [.ref T] σ KI := by
  obtain ⟨q1, q2, q3, q4, q5⟩ := hL
  have hloop : ∀ (m c : Nat), c + m = 8 * n.toNat → jg_GI w 1 mm_X8_conflictCount 4 [.ref T, .int (.ofInt ((jn_ls lm (16 * c) : Nat) : Int)), .int (.ofInt (c : Int))] σ KI := by
    intro m
    induction m with
    | zero =>
      intro c hc
      refine jb_X8_conflictCount_4 h0 ?_
      rw [q1, jr_wr (by omega), jr_wr (by omega)]
      refine jn_ite (fun _ => ?_) (fun h => by omega)
      rw [jn_ls_end ⟨q1, q2, q3, q4, q5⟩ q2.1 (c := c) (by omega) (by omega)]
      exact hk
    | succ m ih =>
      intro c hc
      refine jb_X8_conflictCount_4 h0 ?_
      rw [q1, jr_wr (by omega), jr_wr (by omega)]
      refine jn_ite (fun h => by omega) (fun _ => jn_ite (fun h => by omega) (fun _ => ⟨by omega, ?_⟩))
      rw [q3 c (by omega)]
      refine jc_bitCount (q4 c) ?_
      rintro _ rfl
      have := ih (c + 1) (by omega)
      rw [jn_ls_next q4] at this
      rw [show (c : Int) + 1 = ((c + 1 : Nat) : Int) by omega]
      exact this
  exact jb_X8_conflictCount_0 h0 (hloop (8 * n.toNat) 0 (by omega))
theorem jc_X8_cellOfConflict {n : Int} (h0 : jg_sh T = (8, 0)) (hL : jn_TL σ T n lm) (hi : jr i) (k0 : (i < 0 ∨ (jn_ls lm 6144 : Nat) ≤ i) → KI (-1) σ)
    (k1 : ∀ c : Nat, (c : Int) < 8 * n → ((jn_ls lm (16 * c) : Nat) : Int) ≤ i → i < ((jn_ls lm (16 * (c + 1)) : Nat) : Int) → KI (c : Int) σ) : jg_CI w 1 mm_X8_cellOfConflict [.ref T, .int (.ofInt i)] σ KI := by
  obtain ⟨q1, q2, q3, q4, q5⟩ := hL
  have hloop : ∀ (m c : Nat), c + m = 8 * n.toNat → 0 ≤ i → ((jn_ls lm (16 * c) : Nat) : Int) ≤ i → jg_GI w 1 mm_X8_cellOfConflict 10 [.ref T, .int (.ofInt i), .int (.ofInt ((jn_ls lm (16 * c) : Nat) : Int)), .int (.ofInt (c : Int))] σ KI := by
    intro m
    induction m with
    | zero =>
      intro c hc hi0 hle
      refine jb_X8_cellOfConflict_10 h0 ?_
      rw [q1, jr_wr (by omega), jr_wr (by omega)]
      refine jn_ite (fun _ => k0 (Or.inr ?_)) (fun h => by omega)
      rw [← jn_ls_end ⟨q1, q2, q3, q4, q5⟩ q2.1 (c := c) (by omega) (by omega)]
      exact hle
    | succ m ih =>
      intro c hc hi0 hle
      have hct := jn_ls_cell q4 (c := c + 1)
      refine jb_X8_cellOfConflict_10 h0 ?_
      rw [q1, jr_wr (show jr (n * 8) by omega), jr_wr (show jr (c : Int) by omega)]
      refine jn_ite (fun h => by omega) (fun _ => jn_ite (fun h => by omega) (fun _ => ⟨by omega, ?_⟩))
      rw [q3 c (by omega)]
      refine jc_bitCount (q4 c) ?_
      rintro _ rfl
      have hnx := jn_ls_next q4 (c := c)
      rw [show ((jn_ls lm (16 * c) : Nat) : Int) + ((jn_ct (lm c).testBit 12 : Nat) : Int) = ((jn_ls lm (16 * (c + 1)) : Nat) : Int) by omega, jr_wr (show jr ((jn_ls lm (16 * (c + 1)) : Nat) : Int) by omega), jr_wr hi, show (c : Int) + 1 = ((c + 1 : Nat) : Int) by omega]
      exact jn_ite (fun h => ih (c + 1) (by omega) hi0 h) (fun h => k1 c (by omega) hle (by omega))
  refine jb_X8_cellOfConflict_0 h0 ?_
  rw [jr_wr hi]
  exact jn_ite (fun h => hloop (8 * n.toNat) 0 (by omega) h h) (fun h => k0 (Or.inl (by omega)))
end JCF
