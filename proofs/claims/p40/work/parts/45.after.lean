/-! AFTER in the class -/
def jn_orf (h : Nat → Nat) : Nat → Nat
  | 0 => 0
  | n + 1 => jn_orf h n ||| h n
theorem jn_orf_bit {h : Nat → Nat} {i : Nat} : ∀ {n : Nat}, (jn_orf h n).testBit i = true ↔ ∃ k, k < n ∧ (h k).testBit i = true
  | 0 => by
    unfold jn_orf
    rw [Nat.zero_testBit]
    exact ⟨fun q => (by cases q), fun ⟨k, q, _⟩ => by omega⟩
  | n + 1 => by
    unfold jn_orf
    rw [Nat.testBit_or, Bool.or_eq_true, jn_orf_bit]
    constructor
    · rintro (⟨k, q1, q2⟩ | q)
      · exact ⟨k, by omega, q2⟩
      · exact ⟨n, by omega, q⟩
    · rintro ⟨k, q1, q2⟩
      by_cases hk : k = n
      · exact Or.inr (hk ▸ q2)
      · exact Or.inl ⟨k, by omega, q2⟩
theorem jn_orf_lt {h : Nat → Nat} (hh : ∀ k, h k < 256) : ∀ {n : Nat}, jn_orf h n < 256
  | 0 => by unfold jn_orf; decide
  | n + 1 => Nat.or_lt_two_pow (n := 8) (jn_orf_lt hh) (hh n)
noncomputable def jn_tk (g : gM) (S : jn_Q) (q : Int) : Nat := jn_mk (fun t => (t : Int) < g 0 0 ∧ 0 ≤ S.2.2.1 q (t : Int)) 8
def jn_qm (S : jn_Q) (m : Nat) : Int := S.2.2.1 ((m / 5 : Nat) : Int) (10 + ((m % 5 : Nat) : Int))
noncomputable def jn_ab (g : gM) (S : jn_Q) (m : Nat) : Nat := jn_tk g S (jn_qm S m) ||| if (m : Int) = g 0 3 then 2 ^ (g 0 0).toNat else 0
noncomputable def jn_rh (e : Nat) (S : jn_Q) (a : Nat → Nat) (m k : Nat) : Nat := if e.testBit k = true ∧ jn_mv S (5 * jn_qm S m + k).toNat = true then a (5 * jn_qm S m + k).toNat else 0
noncomputable def jn_ih (g : gM) (e : Nat) (S : jn_Q) (a : Nat → Nat) (m t : Nat) : Nat := @ite _ (jn_mv S t = true ∧ jn_Ib g e S 240 0 0 m t) (Classical.propDecidable _) (a t) 0
noncomputable def jn_as (g : gM) (e : Nat) (S : jn_Q) (a : Nat → Nat) (m : Nat) : Nat := jn_orf (jn_rh e S a m) 5 ||| jn_orf (jn_ih g e S a m) 240
def jn_cA (g : gM) (e : Nat) (S : jn_Q) (a : Nat → Nat) : Prop := ∀ m, m < 240 → jn_mv S m = true → jn_sub (jn_ab g S m) (a m) ∧ jn_sub (jn_as g e S a m) (a m)
def jn_mA (g : gM) (e : Nat) (S : jn_Q) (a : Nat → Nat) : Prop := (∀ m, a m < 256) ∧ (∀ m, m < 240 → jn_mv S m = true → jn_sub (jn_ab g S m) (a m)) ∧ ∀ a', jn_cA g e S a' → ∀ m, m < 240 → jn_mv S m = true → jn_sub (a m) (a' m)
def jn_lA (g : gM) (e : Nat) (S : jn_Q) (a : Nat → Nat) : Prop := jn_cA g e S a ∧ jn_mA g e S a
def jn_AF (τ : jg_M) (A : Nat) (S : jn_Q) (a : Nat → Nat) : Prop := ∀ m, m < 240 → jn_mv S m = true → τ.1 (A + 4) (jn_nu S m : Nat) = (a m : Nat)
def jn_au (a : Nat → Nat) (m v : Nat) : Nat → Nat := fun j => if j = m then v else a j
section JAF
variable {w : Nat} {σ : jg_M} {A T : Nat} {g : gM} {r s k : Int} {e t0 m : Nat} {f fo : Int → Nat} {S : jn_Q} {L : Int → Int → Nat} {a a' : Nat → Nat} {K : jg_M → Prop} {KI : Int → jg_M → Prop}
theorem jn_lA_uniq (h1 : jn_lA g e S a) (h2 : jn_lA g e S a') (hm : m < 240) (hv : jn_mv S m = true) : a m = a' m := jn_sub_anti (h1.2.2.2 a' h2.1 m hm hv) (h2.2.2.2 a h1.1 m hm hv)
theorem jn_rh_lt (ha : ∀ m, a m < 256) {k : Nat} : jn_rh e S a m k < 256 := by
  unfold jn_rh
  split
  · exact ha _
  · decide
theorem jn_ih_lt (ha : ∀ m, a m < 256) {k : Nat} : jn_ih g e S a m k < 256 := by
  unfold jn_ih
  split
  · exact ha _
  · decide
theorem jn_tk_lt {q : Int} : jn_tk g S q < 256 := jn_mk_lt
theorem jn_ab_lt (hW : jn_GW g) : jn_ab g S m < 256 := Nat.or_lt_two_pow (n := 8) jn_tk_lt (by
  split
  · exact (jn_pow_lt hW).1
  · decide)
theorem jn_as_lt (ha : ∀ m, a m < 256) : jn_as g e S a m < 256 := Nat.or_lt_two_pow (n := 8) (jn_orf_lt (fun _ => jn_rh_lt ha)) (jn_orf_lt (fun _ => jn_ih_lt ha))
theorem jn_orf_mono {h h' : Nat → Nat} {n : Nat} (hh : ∀ k, k < n → jn_sub (h k) (h' k)) : jn_sub (jn_orf h n) (jn_orf h' n) := fun i hi => by
  obtain ⟨k, q1, q2⟩ := jn_orf_bit.mp hi
  exact jn_orf_bit.mpr ⟨k, q1, hh k q1 i q2⟩
theorem jn_as_mono (hF : jn_FP g S) (hm : m < 240) (hv : jn_mv S m = true) (h : ∀ t, t < 240 → jn_mv S t = true → jn_sub (a t) (a' t)) : jn_sub (jn_as g e S a m) (jn_as g e S a' m) := by
  have hI1 := hF.1.1
  have hq := hF.1.2.2.1 ((m / 5 : Nat) : Int) (10 + ((m % 5 : Nat) : Int))
  refine jn_sub_or (jn_sub_tr (jn_orf_mono (fun k hk => ?_)) jn_sub_l) (jn_sub_tr (jn_orf_mono (fun k hk => ?_)) jn_sub_r)
  · unfold jn_rh
    split
    · rename_i hc
      have hqm := (jn_mv_iff.mp hv).2
      unfold jn_qm at *
      exact h _ (by omega) hc.2
    · exact jn_sub_rf
  · unfold jn_ih
    split
    · rename_i hc
      exact h _ hk hc.1
    · exact jn_sub_rf
theorem jn_mA_up (hF : jn_FP g S) (h : jn_mA g e S a) (hm : m < 240) (hv : jn_mv S m = true) : jn_mA g e S (jn_au a m (a m ||| jn_as g e S a m)) := by
  obtain ⟨h1, h2, h3⟩ := h
  refine ⟨fun j => ?_, fun j hj hvj => ?_, fun a' ha' j hj hvj => ?_⟩
  · unfold jn_au
    split
    · exact Nat.or_lt_two_pow (n := 8) (h1 _) (jn_as_lt h1)
    · exact h1 _
  · unfold jn_au
    split
    · rename_i q
      rw [← q]
      exact jn_sub_tr (h2 j hj hvj) jn_sub_l
    · exact h2 j hj hvj
  · unfold jn_au
    split
    · rename_i q
      rw [← q]
      exact jn_sub_or (h3 a' ha' j hj hvj) (jn_sub_tr (jn_as_mono hF hj hvj (fun t ht hvt => h3 a' ha' t ht hvt)) (ha' j hj hvj).2)
    · exact h3 a' ha' j hj hvj
theorem jn_mA_0 (hW : jn_GW g) : jn_mA g e S (jn_ab g S) := ⟨fun _ => jn_ab_lt hW, fun _ _ _ => jn_sub_rf, fun a' ha' m hm hv => (ha' m hm hv).1⟩
theorem jc_X4_tokensFrom (h0 : jg_sh A = (4, 0)) (h1 : jg_sh T = (8, 0)) (h2 : jg_sh (T + 10) = (7, 0)) (hW : jn_GW g) (hB : jn_TB σ T g e f S L fo) (hF : jn_FP g S) (hN : jn_NM σ A S 240) (hm : m < 240) (hv : jn_mv S m = true)
    (hk : KI (jn_tk g S (jn_qm S m) : Nat) σ) : jg_CI w 2 mm_X4_tokensFrom [.ref A, .ref T, .int (.ofInt ((jn_nu S m : Nat) : Int))] σ KI := by
  have hw := hW.1
  have hI1 := hF.1.1
  have hnu := jn_nu_lt (S := S) hm
  have hmv := jn_mv_iff.mp hv
  have hq := hF.1.2.2.1 ((m / 5 : Nat) : Int) (10 + ((m % 5 : Nat) : Int))
  have hqe : S.2.2.1 ((m / 5 : Nat) : Int) (10 + ((m % 5 : Nat) : Int)) = jn_qm S m := rfl
  rw [hqe] at hq
  have hq0 : 0 ≤ jn_qm S m := hmv.2
  have hloop : ∀ (n t : Nat), (t : Int) + n = g 0 0 → jg_GI w 2 mm_X4_tokensFrom 29 [.ref A, .ref T, .int (.ofInt ((jn_nu S m : Nat) : Int)), .int (.ofInt (jn_qm S m)), .int (.ofInt ((jn_mk (fun i => i < t ∧ 0 ≤ S.2.2.1 (jn_qm S m) (i : Int)) 8 : Nat) : Int)), .int (.ofInt (t : Int))] σ KI := by
    intro n
    induction n with
    | zero =>
      intro t ht
      refine jb_X4_tokensFrom_29 h1 ?_
      rw [hB.1.1.1.1, jr_wr (by omega), jr_wr (by omega)]
      refine jn_ite (fun _ => ?_) (fun h => by omega)
      rw [jn_mk_eq (Q := fun i => (i : Int) < g 0 0 ∧ 0 ≤ S.2.2.1 (jn_qm S m) (i : Int)) (fun i _ => ⟨fun q => ⟨by omega, q.2⟩, fun q => ⟨by omega, q.2⟩⟩)]
      exact hk
    | succ n ih =>
      intro t ht
      have hlt : jn_mk (fun i => i < t ∧ 0 ≤ S.2.2.1 (jn_qm S m) (i : Int)) 8 < 256 := jn_mk_lt
      have hm2 := hF.1.2.2.1 (jn_qm S m) (t : Int)
      have hj : jr (jn_m2 (S.2.2.1 (jn_qm S m) (t : Int))) ∧ (jn_m2 (S.2.2.1 (jn_qm S m) (t : Int)) < 0 ↔ S.2.2.1 (jn_qm S m) (t : Int) < 0) := by
        unfold jn_m2
        split <;> omega
      refine jb_X4_tokensFrom_29 h1 ?_
      rw [hB.1.1.1.1, jr_wr (by omega), jr_wr (by omega)]
      refine jn_ite (fun h => by omega) (fun _ => jc_X7_moveBy h2 hB.2.1.1.1 (by omega) (by omega) (by omega) ?_)
      rw [show (if (0 ≤ jn_qm S m ∧ jn_qm S m < S.1) ∧ 0 ≤ (t : Int) ∧ (t : Int) < 15 then σ.1 (T + 10 + 4) (jn_qm S m * 15 + (t : Int)) else -2) = jn_m2 (S.2.2.1 (jn_qm S m) (t : Int)) by rw [if_pos ⟨⟨hq0, hq.2⟩, by omega, by omega⟩, hB.2.1.2.1 _ _ hq0 hq.2 (by omega) (by omega)], jr_wr hj.1, show (t : Int) + 1 = ((t + 1 : Nat) : Int) by omega]
      refine jn_ite (fun hneg => ?_) (fun hpos => ?_)
      · have := ih (t + 1) (by omega)
        rw [jn_mk_eq (Q := fun i => i < t ∧ 0 ≤ S.2.2.1 (jn_qm S m) (i : Int)) (fun i _ => ⟨fun q => ⟨by
          have : i ≠ t := fun hit => by have := q.2; rw [hit] at this; omega
          omega, q.2⟩, fun q => ⟨by omega, q.2⟩⟩)] at this
        exact this
      · rintro _ rfl
        have h2t : 1 * 2 ^ t < 2147483648 := by
          have := Nat.pow_lt_pow_right (a := 2) (n := 8) (by omega) (show t < 8 by omega)
          omega
        rw [show jg_shl 1 (t : Int) = ((1 * 2 ^ t : Nat) : Int) from jb_shl (m := 1) (by omega) h2t, jb_or (by omega) h2t, Nat.one_mul, jn_mk_add (by omega)]
        have := ih (t + 1) (by omega)
        rw [jn_mk_eq (Q := fun i => (i < t ∧ 0 ≤ S.2.2.1 (jn_qm S m) (i : Int)) ∨ i = t) (fun i _ => ⟨fun q => by
          by_cases hit : i = t
          · exact Or.inr hit
          · exact Or.inl ⟨by omega, q.2⟩, fun q => q.elim (fun q => ⟨by omega, q.2⟩) (fun q => ⟨by omega, by rw [q]; omega⟩)⟩)] at this
        exact this
  refine jb_X4_tokensFrom_0 h0 h1 ?_
  rw [jr_wr (by omega), (hN.2.2 m hm hv).1, (hN.2.2 m hm hv).2]
  refine ⟨by omega, by omega, jc_X7_moveBy h2 hB.2.1.1.1 (by omega) (by omega) (by omega) ?_⟩
  rw [if_pos ⟨⟨by omega, hmv.1⟩, by omega, by omega⟩, hB.2.1.2.1 _ _ (by omega) hmv.1 (by omega) (by omega), jn_m2_nn hmv.2]
  have := hloop (g 0 0).toNat 0 (by omega)
  rw [show jn_mk (fun i => i < 0 ∧ 0 ≤ S.2.2.1 (jn_qm S m) (i : Int)) 8 = 0 from jn_bits (fun i => by
    rw [jn_mk_bit, Nat.zero_testBit]
    exact ⟨fun q => by omega, fun q => by cases q⟩)] at this
  exact this
end JAF
