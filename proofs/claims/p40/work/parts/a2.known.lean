/-! Which NOTES are KNOWN and not struck, in both -/
def kn_kb (N : kn_N) : Nat := if N.1.2 = -1 then N.1.1 else N.1.2.toNat
/-- those struck, from the last one on -/
def kn_go (N : kn_N) : Nat → (Nat → Bool) → (Nat → Bool)
  | 0, G => G
  | n + 1, G => kn_go N n (if G n = false ∧ (N.2 n).1 < 0 then (fun i => G i || decide (i = (N.2 n).2.1.toNat)) else G)
def kn_gn (N : kn_N) : Nat → Bool := kn_go N (kn_kb N) (fun _ => false)
/-- it is KNOWN, it is not struck, it is a NOTE -/
def kn_is (N : kn_N) (i : Nat) : Prop := i < kn_kb N ∧ kn_gn N i = false ∧ 0 ≤ (N.2 i).1
def kn_lt (N : kn_N) (n : Nat) : Prop := N.1.2 ≤ (N.1.1 : Nat) ∧ ∀ i, i < N.1.1 → (N.2 i).1 < 0 → 0 ≤ (N.2 i).2.1 ∧ (N.2 i).2.1 < (i : Int)
section KNB
variable {w : Nat} {σ τ : jg_M} {N : kn_N} {g : gM} {x : Int} {n m i : Nat} {G : Nat → Bool} {KV : jg_M → Prop} {KI : Int → jg_M → Prop}
theorem kn_kb_le (h24 : N.1.1 ≤ 24) (h2 : -1 ≤ N.1.2) (hl : kn_lt N n) : kn_kb N ≤ N.1.1 := by
  have := hl.1
  unfold kn_kb
  split <;> omega
/-- what is struck later lies below -/
theorem kn_go_hi (hl : kn_lt N m) : ∀ {n : Nat} {G : Nat → Bool}, n ≤ N.1.1 → ∀ i, n ≤ i + 1 → kn_go N n G i = G i
  | 0, G, _, i, _ => rfl
  | n + 1, G, hn, i, hi => by
    unfold kn_go
    rw [kn_go_hi hl (n := n) (by omega) i (by omega)]
    by_cases hc : G n = false ∧ (N.2 n).1 < 0
    · rw [if_pos hc]
      have := hl.2 n (by omega) hc.2
      have hne : ¬ i = (N.2 n).2.1.toNat := by omega
      show (G i || decide (i = (N.2 n).2.1.toNat)) = G i
      rw [decide_eq_false hne, Bool.or_false]
    · rw [if_neg hc]
theorem jc_knownNotes (hN : kn_C kp_pl σ N) (hP : kp_N g N) (hl : kn_lt N 0) (hW : jn_GW g) (hk : KI (jn_mk (kn_is N) 24 : Nat) σ) : jg_CI w 1 mm_X1_knownNotes [.ref 74] σ KI := by
  have hw := hW.1
  obtain ⟨⟨a1, a2⟩, ⟨b1, b2, b3⟩, cc⟩ := id hN
  have hkb := kn_kb_le a2 b2 hl
  refine jb_X1_knownNotes_0 rfl (jc_knownBy hN ?_)
  have ekb : (if N.1.2 = -1 then ((N.1.1 : Nat) : Int) else N.1.2) = ((kn_kb N : Nat) : Int) := by unfold kn_kb; split <;> omega
  rw [ekb, jr_wr (show jr ((kn_kb N : Nat) : Int) by omega), if_neg (by omega)]
  rintro _ rfl
  have hloop : ∀ (n : Nat) (G : Nat → Bool), n ≤ kn_kb N → kn_go N n G = kn_gn N → jg_GI w 1 mm_X1_knownNotes 16 [.ref 74, .int (.ofInt (jn_mk (fun i => G i = true) 24 : Nat)), .int (.ofInt (jn_mk (fun i => n ≤ i ∧ kn_is N i) 24 : Nat)), .int (.ofInt (((n : Nat) : Int) - 1))] σ KI := by
    intro n
    induction n with
    | zero =>
      intro G hn hG
      refine jb_X1_knownNotes_16 rfl ?_
      rw [jr_wr (show jr (((0 : Nat) : Int) - 1) by decide)]
      refine jn_ite (fun _ => ?_) (fun h => by omega)
      rw [jn_mk_eq (P := fun i => 0 ≤ i ∧ kn_is N i) (Q := kn_is N) (fun i hi => ⟨fun q => q.2, fun q => ⟨Nat.zero_le _, q⟩⟩)]
      exact hk
    | succ n ih =>
      intro G hn hG
      refine jb_X1_knownNotes_16 rfl ?_
      have hlt : jn_mk (fun i => G i = true) 24 < 2 ^ 24 := jn_mk_lt
      have hlt2 : jn_mk (fun i => n + 1 ≤ i ∧ kn_is N i) 24 < 2 ^ 24 := jn_mk_lt
      have hp24 : (2 : Nat) ^ 24 = 16777216 := rfl
      have en : (((n + 1 : Nat) : Int) - 1) = (n : Int) := by omega
      have en2 : (n : Int) + -1 = ((n : Nat) : Int) - 1 := by omega
      rw [en, en2, jr_wr (show jr (n : Int) by omega), jr_wr (show jr ((jn_mk (fun i => G i = true) 24 : Nat) : Int) by omega)]
      refine jn_ite (fun h => by omega) (fun _ => jc_inBits (by omega) (by omega) (jn_if (fun hno => ⟨by omega, ?_⟩) (fun hyes => ?_)))
      · have hGn : G n = false := by
          cases hg : G n with
          | false => rfl
          | true => exact absurd ⟨by omega, by rw [Int.toNat_natCast]; exact jn_mk_bit.mpr ⟨by omega, hg⟩⟩ hno
        have hfin : kn_gn N n = false := by rw [← hG, kn_go_hi hl (by omega) n (Nat.le_refl _)]; exact hGn
        have hP' := hP n (by omega)
        have hc := cc n (by omega)
        by_cases hs : (N.2 n).1 = -1
        · have hs' := (hc.1 hs)
          have hst := hl.2 n (by omega) (by omega)
          rw [show σ.1 (74 + 1) ((n : Nat) : Int) = -1 from hs'.1]
          refine jn_ite (fun _ => ⟨by omega, ?_⟩) (fun h => absurd (by decide) h)
          rw [show σ.1 (74 + 3) ((n : Nat) : Int) = (((N.2 n).2.1.toNat : Nat) : Int) by rw [show σ.1 (74 + 3) ((n : Nat) : Int) = (N.2 n).2.1 from hs'.2]; omega]
          have hsh : jg_shl 1 (((N.2 n).2.1.toNat : Nat) : Int) = ((2 ^ (N.2 n).2.1.toNat : Nat) : Int) := by
            have h2 : 2 ^ (N.2 n).2.1.toNat ≤ 2 ^ 24 := Nat.pow_le_pow_right (by decide) (by omega)
            have := jb_shl (m := 1) (k := (N.2 n).2.1.toNat) (by omega) (by omega)
            rw [Nat.one_mul] at this
            exact this
          have h2 : 2 ^ (N.2 n).2.1.toNat < 2 ^ 24 := Nat.pow_lt_pow_right (by decide) (by omega)
          rw [hsh, jb_or (by omega) (by omega)]
          rintro _ rfl
          have hGe : kn_go N n (fun i => G i || decide (i = (N.2 n).2.1.toNat)) = kn_gn N := by
            rw [← hG]
            show _ = kn_go N n (if G n = false ∧ (N.2 n).1 < 0 then _ else G)
            rw [if_pos ⟨hGn, by omega⟩]
          have key := ih (fun i => G i || decide (i = (N.2 n).2.1.toNat)) (by omega) hGe
          rw [show jn_mk (fun i => (G i || decide (i = (N.2 n).2.1.toNat)) = true) 24 = jn_mk (fun i => G i = true) 24 ||| 2 ^ (N.2 n).2.1.toNat by
            apply Nat.eq_of_testBit_eq
            intro j
            rw [Bool.eq_iff_iff, Nat.testBit_or, Bool.or_eq_true, jn_mk_bit, jn_mk_bit, Nat.testBit_two_pow, Bool.or_eq_true, decide_eq_true_iff, decide_eq_true_iff]
            constructor
            · rintro ⟨q1, q2 | q2⟩
              · exact Or.inl ⟨q1, q2⟩
              · exact Or.inr q2.symm
            · rintro (q | q)
              · exact ⟨q.1, Or.inl q.2⟩
              · exact ⟨by omega, Or.inr q.symm⟩,
            jn_mk_eq (P := fun i => n ≤ i ∧ kn_is N i) (Q := fun i => n + 1 ≤ i ∧ kn_is N i) (fun i hi => ⟨fun q => ⟨by
              by_cases hin : i = n
              · have := q.2.2.2
                rw [hin, hs] at this
                omega
              · omega, q.2⟩, fun q => ⟨by omega, q.2⟩⟩)] at key
          exact key
        · have hr : kp_row g (N.2 n).1 (N.2 n).2.1 := by
            rcases hP' with q | q
            · exact absurd q.1 hs
            · exact q.1
          have hpr := kp_pl_rng (a := (g 0 0).toNat) (by omega) hr.1 hr.2.2
          have hpe : kp_pl (N.2 n).1 (N.2 n).2.1 = jg_pl (N.2 n).1 + (kp_7 (N.2 n).1.toNat (N.2 n).2.1.toNat : Nat) := rfl
          have hr0 := hr.1.1
          rw [show σ.1 (74 + 1) ((n : Nat) : Int) = kp_pl (N.2 n).1 (N.2 n).2.1 from (hc.2 hs).1, jr_wr (show jr (kp_pl (N.2 n).1 (N.2 n).2.1) by omega)]
          refine jn_ite (fun h => by omega) (fun _ => ?_)
          have hsh : jg_shl 1 ((n : Nat) : Int) = ((2 ^ n : Nat) : Int) := by
            have h2 : 2 ^ n ≤ 2 ^ 24 := Nat.pow_le_pow_right (by decide) (by omega)
            have := jb_shl (m := 1) (k := n) (by omega) (by omega)
            rw [Nat.one_mul] at this
            exact this
          have h2 : 2 ^ n < 2 ^ 24 := Nat.pow_lt_pow_right (by decide) (by omega)
          rw [hsh, jb_or (by omega) (by omega)]
          rintro _ rfl
          have hGe : kn_go N n G = kn_gn N := by
            rw [← hG]
            show _ = kn_go N n (if G n = false ∧ (N.2 n).1 < 0 then _ else G)
            rw [if_neg (fun q => by omega)]
          have key := ih G (by omega) hGe
          rw [show jn_mk (fun i => n ≤ i ∧ kn_is N i) 24 = jn_mk (fun i => n + 1 ≤ i ∧ kn_is N i) 24 ||| 2 ^ n by
            apply Nat.eq_of_testBit_eq
            intro j
            rw [Bool.eq_iff_iff, Nat.testBit_or, Bool.or_eq_true, jn_mk_bit, jn_mk_bit, Nat.testBit_two_pow, decide_eq_true_iff]
            constructor
            · rintro ⟨q1, q2, q3⟩
              by_cases hjn : n = j
              · exact Or.inr hjn
              · exact Or.inl ⟨q1, by omega, q3⟩
            · rintro (q | q)
              · exact ⟨q.1, by omega, q.2.2⟩
              · subst q
                exact ⟨by omega, Nat.le_refl _, by omega, hfin, hr0⟩] at key
          exact key
      · have hGn : G n = true := by
          have := (jn_mk_bit.mp hyes.2).2
          rw [Int.toNat_natCast] at this
          exact this
        have hfin : kn_gn N n = true := by rw [← hG, kn_go_hi hl (by omega) n (Nat.le_refl _)]; exact hGn
        have hGe : kn_go N n G = kn_gn N := by
          rw [← hG]
          show _ = kn_go N n (if G n = false ∧ (N.2 n).1 < 0 then _ else G)
          rw [if_neg (fun q => by rw [hGn] at q; cases q.1)]
        have key := ih G (by omega) hGe
        rw [jn_mk_eq (P := fun i => n ≤ i ∧ kn_is N i) (Q := fun i => n + 1 ≤ i ∧ kn_is N i) (fun i hi => ⟨fun q => ⟨by
              by_cases hin : i = n
              · have := q.2.2.1
                rw [hin, hfin] at this
                cases this
              · omega, q.2⟩, fun q => ⟨by omega, q.2⟩⟩)] at key
        exact key
  have key := hloop (kn_kb N) (fun _ => false) (Nat.le_refl _) rfl
  have z1 : jn_mk (fun i => false = true) 24 = 0 := by
    apply Nat.eq_of_testBit_eq
    intro j
    rw [Nat.zero_testBit, Bool.eq_false_iff]
    intro q
    exact Bool.noConfusion (jn_mk_bit.mp q).2
  have z2 : jn_mk (fun i => kn_kb N ≤ i ∧ kn_is N i) 24 = 0 := by
    apply Nat.eq_of_testBit_eq
    intro j
    rw [Nat.zero_testBit, Bool.eq_false_iff]
    intro q
    have := (jn_mk_bit.mp q).2
    have h1 := this.1
    have h2 := this.2.1
    omega
  rw [z1, z2] at key
  exact key
end KNB
