/-! Moves by kinds, and the ways of rules -/
def jn_mv (S : jn_Q) (m : Nat) : Bool := decide (((m / 5 : Nat) : Int) < S.1) && decide (0 ≤ S.2.2.1 ((m / 5 : Nat) : Int) (10 + ((m % 5 : Nat) : Int)))
def jn_nu (S : jn_Q) (m : Nat) : Nat := jn_ct (jn_mv S) m
def jn_wy (g : gM) (S : jn_Q) (s r : Int) : Nat → Int
  | 0 => s
  | d + 1 => S.2.2.1 (jn_wy g S s r d) (jn_sym g r d)
theorem jn_ct_mono {p : Nat → Bool} {m : Nat} : ∀ {d : Nat}, jn_ct p m ≤ jn_ct p (m + d)
  | 0 => Nat.le_refl _
  | d + 1 => by
    have h := jn_ct_mono (p := p) (m := m) (d := d)
    show _ ≤ jn_ct p (m + d) + _
    omega
theorem jn_ct_t {p : Nat → Bool} {m : Nat} (h : p m = true) : jn_ct p (m + 1) = jn_ct p m + 1 := by
  show jn_ct p m + _ = _
  rw [if_pos h]
theorem jn_ct_f {p : Nat → Bool} {m : Nat} (h : ¬ p m = true) : jn_ct p (m + 1) = jn_ct p m := by
  show jn_ct p m + _ = _
  rw [if_neg h]; rfl
theorem jn_ct_lt {p : Nat → Bool} {m k : Nat} (h : p m = true) (hk : m < k) : jn_ct p m < jn_ct p k := by
  have h1 := jn_ct_t h
  have h2 := jn_ct_mono (p := p) (m := m + 1) (d := k - (m + 1))
  rw [show m + 1 + (k - (m + 1)) = k by omega] at h2
  omega
theorem jn_ct_inj {p : Nat → Bool} {m k : Nat} (h : p m = true) (hk : p k = true) (he : jn_ct p m = jn_ct p k) : m = k := by
  by_cases h1 : m < k
  · have := jn_ct_lt h h1; omega
  · by_cases h2 : k < m
    · have := jn_ct_lt hk h2; omega
    · omega
theorem jn_ct_ord {p : Nat → Bool} {m k : Nat} (h : p m = true) (hk : p k = true) : jn_ct p m < jn_ct p k ↔ m < k := by
  refine ⟨fun q => ?_, jn_ct_lt h⟩
  apply Classical.byContradiction
  intro hn
  by_cases h1 : k = m
  · rw [h1] at q; omega
  · have := jn_ct_lt hk (show k < m by omega); omega
section JMV
variable {w : Nat} {σ : jg_M} {A T : Nat} {g : gM} {r s k : Int} {e : Nat} {f : Int → Nat} {S : jn_Q} {K : jg_M → Prop} {KI : Int → jg_M → Prop}
theorem jn_mv_iff {m : Nat} : jn_mv S m = true ↔ ((m / 5 : Nat) : Int) < S.1 ∧ 0 ≤ S.2.2.1 ((m / 5 : Nat) : Int) (10 + ((m % 5 : Nat) : Int)) := by
  unfold jn_mv
  rw [Bool.and_eq_true, decide_eq_true_iff, decide_eq_true_iff]
theorem jn_nu_le {m : Nat} : jn_nu S m ≤ m := jn_ct_le
theorem jn_wy_ok (hW : jn_GW g) (hF : jn_FP g S) (hs : 0 ≤ s ∧ s < S.1) (hr : 0 ≤ r ∧ r < g 0 2 ∧ r ≠ g 0 4) (h0 : (jn_clo g (S.2.1 s)).testBit (5 * r).toNat = true) : ∀ {d : Nat}, (d : Int) ≤ jn_len g r → (0 ≤ jn_wy g S s r d ∧ jn_wy g S s r d < S.1) ∧ (jn_clo g (S.2.1 (jn_wy g S s r d))).testBit (5 * r + d).toNat = true
  | 0, _ => ⟨hs, by rw [show (5 * r + ((0 : Nat) : Int)).toNat = (5 * r).toNat by omega]; exact h0⟩
  | d + 1, hd => by
    obtain ⟨h1, h2⟩ := jn_wy_ok hW hF hs hr h0 (d := d) (by omega)
    have hl := jn_len_rng (r := r) hW
    have hrr : jn_r (5 * r + (d : Int)).toNat = r := by unfold jn_r; omega
    have hdd : jn_d (5 * r + (d : Int)).toNat = d := by unfold jn_d; omega
    have hit : jn_it g (5 * r + (d : Int)).toNat := by
      unfold jn_it
      rw [hrr, hdd]
      exact ⟨by omega, hr.2.2, by omega⟩
    obtain ⟨-, g2, g3, g4⟩ := jn_FP_go hW hF h1 h2 hit
    have his : jn_is g (5 * r + (d : Int)).toNat = jn_sym g r d := by
      unfold jn_is
      rw [hrr, hdd]
    rw [his] at g2 g3 g4
    refine ⟨⟨g2, g3⟩, ?_⟩
    rw [show (5 * r + ((d + 1 : Nat) : Int)).toNat = (5 * r + (d : Int)).toNat + 1 by omega]
    exact jn_clo_sub _ g4
theorem jn_mv_rule (hW : jn_GW g) (hn0 : 0 < g 0 1) (hF : jn_FP g S) (hs : 0 ≤ s ∧ s < S.1) (hk : 0 ≤ k ∧ k < 5) (hm : 0 ≤ S.2.2.1 s (10 + k)) : (k < g 0 1) ∧ ∀ r, 0 ≤ r → r < g 0 2 → r ≠ g 0 4 → g 3 r = k → (jn_clo g (S.2.1 s)).testBit (5 * r).toNat = true := by
  have hw := hW.1
  rcases hF.2.1 s (10 + k) hs.1 hs.2 (by omega) (by omega) with h | h
  · omega
  · have hne : ∃ i, (jn_nx g (S.2.1 s) (10 + k)).testBit i = true := by
      apply Classical.byContradiction
      intro hno
      exact h.1 (jn_bits (fun i => by
        rw [Nat.zero_testBit]
        exact ⟨fun q => absurd ⟨i, q⟩ hno, fun q => (by cases q)⟩))
    obtain ⟨i, hi⟩ := hne
    match i, hi with
    | 0, hi => rw [jn_nx_bit0] at hi; cases hi
    | i + 1, hi =>
      obtain ⟨q1, q2, q3⟩ := (jn_nx_bit hW).mp hi
      have hi62 : i < 62 := by
        have hv := jn_clo_vs hW (hF.1.2.1 s hs.1 hs.2)
        apply Classical.byContradiction
        intro hge
        rw [Nat.testBit_lt_two_pow (Nat.lt_of_lt_of_le (show _ < 2 ^ 62 from hv.1) (Nat.pow_le_pow_right (by omega) (by omega)))] at q1
        cases q1
      have hk1 : k < g 0 1 := by
        have hd0 : 0 ≤ jn_d i := by unfold jn_d; omega
        have := jn_sym_rng (r := jn_r i) (k := jn_d i) hW ⟨hd0, q2.2.2⟩
        unfold jn_is at q3
        omega
      refine ⟨hk1, fun r r1 r2 r3 r4 => ?_⟩
      refine jn_clo_cC k hk.1 hk.2 (jn_and_ne.mpr ⟨i, q1, ?_⟩) _ ?_
      · unfold jn_A
        rw [jn_mk_bit]
        exact ⟨hi62, q2, q3⟩
      · unfold jn_O
        rw [jn_mk_bit]
        have hrr : jn_r (5 * r).toNat = r := by unfold jn_r; omega
        rw [hrr]
        exact ⟨by omega, by omega, r2, r3, r4⟩
end JMV
