/-! CONFLICTS told, in the class, 2 -/
section JCG
variable {w : Nat} {σ : jg_M} {T : Nat} {g : gM} {y i x s t n nr : Int} {S : jn_Q} {L : Int → Int → Nat} {fo : Int → Nat} {lm : Nat → Nat} {KI : Int → jg_M → Prop}
theorem jc_X8_ruleOfConflict {c : Nat} (h0 : jg_sh T = (8, 0)) (hL : jn_TL σ T n lm) (hnr : σ.1 (T + 1) 2 = nr) (hnr2 : 0 ≤ nr ∧ nr ≤ 12) (hb : ∀ r : Nat, (lm c).testBit r = true → (r : Int) < nr) (hc : c < 384) (h1 : ((jn_ls lm (16 * c) : Nat) : Int) ≤ i) (h2 : i < ((jn_ls lm (16 * (c + 1)) : Nat) : Int))
    (k1 : ∀ r : Nat, (lm c).testBit r = true → ((jn_ls lm (16 * c + r) : Nat) : Int) = i → KI (r : Int) σ) : jg_CI w 1 mm_X8_ruleOfConflict [.ref T, .int (.ofInt i), .int (.ofInt (c : Int))] σ KI := by
  obtain ⟨q1, q2, q3, q4, q5⟩ := hL
  have hct := jn_ls_cell q4 (c := c + 1)
  have h43 : ∀ (m r : Nat) (u1 : Value), (r : Int) + m = nr → ((jn_ls lm (16 * c + r) : Nat) : Int) ≤ i → jg_GI w 1 mm_X8_ruleOfConflict 43 [.ref T, u1, .int (.ofInt (c : Int)), .int (.ofInt (i - ((jn_ls lm (16 * c + r) : Nat) : Int))), .int (.ofInt (r : Int))] σ KI := by
    intro m
    induction m with
    | zero =>
      intro r u1 hr hle
      exfalso
      have := jn_ls_skip (lm := lm) (k := 16 * c + r) (d := 16 - r) (fun j j1 j2 q => by
        rw [show j / 16 = c by omega] at q
        have := hb _ q
        omega)
      rw [show 16 * c + r + (16 - r) = 16 * (c + 1) by omega] at this
      omega
    | succ m ih =>
      intro r u1 hr hle
      have hq := q4 c
      refine jb_X8_ruleOfConflict_43 h0 ?_
      rw [hnr, jr_wr (show jr nr by omega), jr_wr (show jr (r : Int) by omega), jr_wr (show jr (c : Int) by omega), q3 c hc, jr_wr (show jr ((lm c : Nat) : Int) by omega), jr_wr (show jr (i - ((jn_ls lm (16 * c + r) : Nat) : Int)) by omega)]
      refine jn_ite (fun h => by omega) (fun _ => jn_ite (fun h => by omega) (fun _ => jn_ite (fun h => by omega) (fun _ => ⟨by omega, jc_inBits (by omega) (by omega) (jn_if (fun hp => ?_) (fun hp => ?_))⟩)))
      · have hno : ¬ (lm ((16 * c + r) / 16)).testBit ((16 * c + r) % 16) = true := by
          rw [show (16 * c + r) / 16 = c by omega, show (16 * c + r) % 16 = r by omega]
          exact fun q => hp ⟨by omega, by rw [Int.toNat_natCast]; exact q⟩
        have hs := jn_ls_f hno
        have := ih (r + 1) u1 (by omega) (by rw [show 16 * c + (r + 1) = 16 * c + r + 1 by omega, hs]; exact hle)
        rw [show 16 * c + (r + 1) = 16 * c + r + 1 by omega, hs, show ((r + 1 : Nat) : Int) = (r : Int) + 1 by omega] at this
        exact this
      · have hp' : (lm c).testBit r = true := by have := hp.2; rwa [Int.toNat_natCast] at this
        have hyes : (lm ((16 * c + r) / 16)).testBit ((16 * c + r) % 16) = true := by
          rw [show (16 * c + r) / 16 = c by omega, show (16 * c + r) % 16 = r by omega]
          exact hp'
        have hs := jn_ls_t hyes
        refine jn_ite (fun hz => k1 r hp' (by omega)) (fun hz => ?_)
        have := ih (r + 1) u1 (by omega) (by rw [show 16 * c + (r + 1) = 16 * c + r + 1 by omega, hs]; omega)
        rw [show 16 * c + (r + 1) = 16 * c + r + 1 by omega, hs, show ((r + 1 : Nat) : Int) = (r : Int) + 1 by omega, show i - ((jn_ls lm (16 * c + r) + 1 : Nat) : Int) = i - ((jn_ls lm (16 * c + r) : Nat) : Int) + -1 by omega] at this
        exact this
  have h5 : ∀ (m d : Nat) (u1 : Value), d + m = c → jg_GI w 1 mm_X8_ruleOfConflict 5 [.ref T, u1, .int (.ofInt (c : Int)), .int (.ofInt (i - ((jn_ls lm (16 * d) : Nat) : Int))), .int (.ofInt (d : Int))] σ KI := by
    intro m
    induction m with
    | zero =>
      intro d u1 hd
      refine jb_X8_ruleOfConflict_5 h0 ?_
      rw [jr_wr (by omega), jr_wr (by omega)]
      have := h43 nr.toNat 0 u1 (by omega) h1
      rw [show d = c by omega]
      exact jn_ite (fun _ => this) (fun h => by omega)
    | succ m ih =>
      intro d u1 hd
      refine jb_X8_ruleOfConflict_5 h0 ?_
      rw [jr_wr (by omega), jr_wr (by omega)]
      refine jn_ite (fun h => by omega) (fun _ => jn_ite (fun h => by omega) (fun _ => ⟨by omega, ?_⟩))
      rw [q3 d (by omega)]
      refine jc_bitCount (q4 d) ?_
      rintro _ rfl
      have := ih (d + 1) u1 (by omega)
      rw [show i - ((jn_ls lm (16 * (d + 1)) : Nat) : Int) = i - ((jn_ls lm (16 * d) : Nat) : Int) - ((jn_ct (lm d).testBit 12 : Nat) : Int) by rw [jn_ls_next q4]; omega, show ((d + 1 : Nat) : Int) = (d : Int) + 1 by omega] at this
      exact this
  have := h5 c 0 (.int (.ofInt i)) (by omega)
  rw [show i - ((jn_ls lm (16 * 0) : Nat) : Int) = i by show i - ((0 : Nat) : Int) = i; omega] at this
  exact jb_X8_ruleOfConflict_0 h0 this
theorem jc_X8_actionFor (h0 : jg_sh T = (8, 0)) (h2 : jg_sh (T + 10) = (7, 0)) (hn : σ.1 (T + 10) 0 = n) (hn2 : 0 ≤ n ∧ n ≤ 48) (hs : jr s) (ht : jr t) (hk : KI (if (0 ≤ s ∧ s < n) ∧ 0 ≤ t ∧ t < 8 then σ.1 (T + 20) (s * 8 + t) else 0) σ) : jg_CI w 1 mm_X8_actionFor [.ref T, .int (.ofInt s), .int (.ofInt t)] σ KI := by
  refine jb_X8_actionFor_0 h0 (jc_X7_has h2 hn hn2 hs (jn_if (fun hp => ?_) (fun hp => ?_)))
  · rw [if_neg (fun q => hp q.1)] at hk; exact hk
  · rw [jr_wr ht]
    refine jn_ite (fun h => ?_) (fun h => jn_ite (fun h3 => ?_) (fun h3 => ?_))
    · rw [if_neg (fun q => by omega)] at hk; exact hk
    · rw [if_pos ⟨hp, by omega, by omega⟩] at hk
      rw [jr_wr (by omega)]
      exact ⟨by omega, hk⟩
    · rw [if_neg (fun q => by omega)] at hk; exact hk
end JCG
