/-! BASICS: truth as a number, bits, writes -/
noncomputable def jn_b (p : Prop) : Int := @ite Int p (Classical.propDecidable p) 1 0
theorem jn_b_t {p : Prop} (h : p) : jn_b p = 1 := by unfold jn_b; rw [if_pos h]
theorem jn_b_f {p : Prop} (h : ¬ p) : jn_b p = 0 := by unfold jn_b; rw [if_neg h]
theorem jn_b_01 (p : Prop) : jn_b p = 0 ∨ jn_b p = 1 := by
  rcases Classical.em p with h | h
  · exact Or.inr (jn_b_t h)
  · exact Or.inl (jn_b_f h)
theorem jn_b_eq {p q : Prop} (h : p ↔ q) : jn_b p = jn_b q := by rw [propext h]
theorem jn_b_wr (p : Prop) : jg_wr (jn_b p) = jn_b p := by rcases jn_b_01 p with h | h <;> rw [h] <;> rfl
theorem jn_b_rng (p : Prop) : jg_wr (jn_b p) = 0 ∨ jg_wr (jn_b p) = 1 := by rw [jn_b_wr]; exact jn_b_01 p
theorem jn_ite {c A B : Prop} [Decidable c] (h1 : c → A) (h2 : ¬ c → B) : if c then A else B := by
  by_cases h : c
  · rw [if_pos h]; exact h1 h
  · rw [if_neg h]; exact h2 h
theorem jn_if {p A B : Prop} (h1 : ¬ p → A) (h2 : p → B) : if jg_wr (jn_b p) = 0 then A else B := by
  refine jn_ite (fun hc => h1 (fun hp => ?_)) (fun hc => h2 (Classical.byContradiction (fun hp => ?_)))
  · rw [jn_b_wr, jn_b_t hp] at hc; cases hc
  · rw [jn_b_wr, jn_b_f hp] at hc; exact hc rfl
abbrev jr (x : Int) : Prop := -2147483648 ≤ x ∧ x < 2147483648
theorem jr_wr {x : Int} (h : jr x) : jg_wr x = x := jg_wr_id h
section JNB
theorem jb_toI {x : Int32} {n : Nat} (h : x.toBitVec.toNat = n) (hn : n < 2147483648) : x.toInt = n := by
  show x.toBitVec.toInt = _
  rw [BitVec.toInt_eq_toNat_of_lt (by omega), h]
theorem jb_toL {x : Int64} {n : Nat} (h : x.toBitVec.toNat = n) (hn : n < 9223372036854775808) : x.toInt = n := by
  show x.toBitVec.toInt = _
  rw [BitVec.toInt_eq_toNat_of_lt (by omega), h]
theorem jb_nI {m : Nat} (h : m < 4294967296) : (Int32.ofInt (m : Int)).toBitVec.toNat = m := by
  rw [Int32.ofInt_eq_ofNat]
  show (BitVec.ofNat 32 m).toNat = m
  rw [BitVec.toNat_ofNat, Nat.mod_eq_of_lt h]
theorem jb_nL {m : Nat} (h : m < 18446744073709551616) : (Int64.ofInt (m : Int)).toBitVec.toNat = m := by
  rw [Int64.ofInt_eq_ofNat]
  show (BitVec.ofNat 64 m).toNat = m
  rw [BitVec.toNat_ofNat, Nat.mod_eq_of_lt h]
variable {m n : Nat}
theorem jb_and (hm : m < 2147483648) (hn : n < 2147483648) : jg_and m n = ((m &&& n : Nat) : Int) := by
  refine jb_toI ?_ (Nat.lt_of_le_of_lt Nat.and_le_left hm)
  show ((Int32.ofInt m).toBitVec &&& (Int32.ofInt n).toBitVec).toNat = _
  rw [BitVec.toNat_and, jb_nI (by omega), jb_nI (by omega)]
theorem jb_or (hm : m < 2147483648) (hn : n < 2147483648) : jg_or m n = ((m ||| n : Nat) : Int) := by
  refine jb_toI ?_ (Nat.or_lt_two_pow (n := 31) hm hn)
  show ((Int32.ofInt m).toBitVec ||| (Int32.ofInt n).toBitVec).toNat = _
  rw [BitVec.toNat_or, jb_nI (by omega), jb_nI (by omega)]
theorem jb_qand (hm : m < 9223372036854775808) (hn : n < 9223372036854775808) : jg_qand m n = ((m &&& n : Nat) : Int) := by
  refine jb_toL ?_ (Nat.lt_of_le_of_lt Nat.and_le_left hm)
  show ((Int64.ofInt m).toBitVec &&& (Int64.ofInt n).toBitVec).toNat = _
  rw [BitVec.toNat_and, jb_nL (by omega), jb_nL (by omega)]
theorem jb_qor (hm : m < 9223372036854775808) (hn : n < 9223372036854775808) : jg_qor m n = ((m ||| n : Nat) : Int) := by
  refine jb_toL ?_ (Nat.or_lt_two_pow (n := 63) hm hn)
  show ((Int64.ofInt m).toBitVec ||| (Int64.ofInt n).toBitVec).toNat = _
  rw [BitVec.toNat_or, jb_nL (by omega), jb_nL (by omega)]
theorem jb_sm {k : Nat} (hk : k < 32) : (Int32.ofInt (k : Int) &&& 31).toBitVec.smod 32 = BitVec.ofNat 32 k := by
  have h : ∀ k : Fin 32, (Int32.ofInt ((k.val : Nat) : Int) &&& 31).toBitVec.smod 32 = BitVec.ofNat 32 k.val := by decide +kernel
  exact h ⟨k, hk⟩
theorem jb_sq {k : Nat} (hk : k < 64) : ((Int32.ofInt (k : Int)).toInt64 &&& 63).toBitVec.smod 64 = BitVec.ofNat 64 k := by
  have h : ∀ k : Fin 64, ((Int32.ofInt ((k.val : Nat) : Int)).toInt64 &&& 63).toBitVec.smod 64 = BitVec.ofNat 64 k.val := by decide +kernel
  exact h ⟨k, hk⟩
theorem jb_su {k : Nat} (hk : k < 32) : ((Int32.ofInt (k : Int)).toUInt32 &&& Int32.toUInt32 31).toBitVec % 32#32 = BitVec.ofNat 32 k := by
  have h : ∀ k : Fin 32, ((Int32.ofInt ((k.val : Nat) : Int)).toUInt32 &&& Int32.toUInt32 31).toBitVec % 32#32 = BitVec.ofNat 32 k.val := by decide +kernel
  exact h ⟨k, hk⟩
theorem jb_sv {k : Nat} (hk : k < 64) : ((Int32.ofInt (k : Int)).toInt64.toUInt64 &&& Int64.toUInt64 63).toBitVec % 64#64 = BitVec.ofNat 64 k := by
  have h : ∀ k : Fin 64, ((Int32.ofInt ((k.val : Nat) : Int)).toInt64.toUInt64 &&& Int64.toUInt64 63).toBitVec % 64#64 = BitVec.ofNat 64 k.val := by decide +kernel
  exact h ⟨k, hk⟩
theorem jb_shl {k : Nat} (hk : k < 32) (h : m * 2 ^ k < 2147483648) : jg_shl m k = ((m * 2 ^ k : Nat) : Int) := by
  have hm : m < 2147483648 := Nat.lt_of_le_of_lt (Nat.le_mul_of_pos_right m (Nat.two_pow_pos k)) h
  refine jb_toI ?_ h
  show ((Int32.ofInt m).toBitVec <<< ((Int32.ofInt (k : Int) &&& 31).toBitVec.smod 32)).toNat = _
  rw [jb_sm hk, BitVec.shiftLeft_eq', BitVec.toNat_shiftLeft, jb_nI (by omega), BitVec.toNat_ofNat, Nat.mod_eq_of_lt (show k < 2 ^ 32 by omega), Nat.shiftLeft_eq, Nat.mod_eq_of_lt (by omega)]
theorem jb_qshl {k : Nat} (hk : k < 64) (h : m * 2 ^ k < 9223372036854775808) : jg_qshl m k = ((m * 2 ^ k : Nat) : Int) := by
  have hm : m < 9223372036854775808 := Nat.lt_of_le_of_lt (Nat.le_mul_of_pos_right m (Nat.two_pow_pos k)) h
  refine jb_toL ?_ h
  show ((Int64.ofInt m).toBitVec <<< (((Int32.ofInt (k : Int)).toInt64 &&& 63).toBitVec.smod 64)).toNat = _
  rw [jb_sq hk, BitVec.shiftLeft_eq', BitVec.toNat_shiftLeft, jb_nL (by omega), BitVec.toNat_ofNat, Nat.mod_eq_of_lt (show k < 2 ^ 64 by omega), Nat.shiftLeft_eq, Nat.mod_eq_of_lt (by omega)]
theorem jb_ushr {k : Nat} (hm : m < 2147483648) (hk : k < 32) : jg_ushr m k = ((m / 2 ^ k : Nat) : Int) := by
  refine jb_toI ?_ (Nat.lt_of_le_of_lt (Nat.div_le_self _ _) hm)
  show ((Int32.ofInt m).toBitVec >>> (((Int32.ofInt (k : Int)).toUInt32 &&& Int32.toUInt32 31).toBitVec % 32#32)).toNat = _
  rw [jb_su hk, BitVec.ushiftRight_eq', BitVec.toNat_ushiftRight, jb_nI (by omega), BitVec.toNat_ofNat, Nat.mod_eq_of_lt (show k < 2 ^ 32 by omega), Nat.shiftRight_eq_div_pow]
theorem jb_qushr {k : Nat} (hm : m < 9223372036854775808) (hk : k < 64) : jg_qushr m k = ((m / 2 ^ k : Nat) : Int) := by
  refine jb_toL ?_ (Nat.lt_of_le_of_lt (Nat.div_le_self _ _) hm)
  show ((Int64.ofInt m).toBitVec >>> (((Int32.ofInt (k : Int)).toInt64.toUInt64 &&& Int64.toUInt64 63).toBitVec % 64#64)).toNat = _
  rw [jb_sv hk, BitVec.ushiftRight_eq', BitVec.toNat_ushiftRight, jb_nL (by omega), BitVec.toNat_ofNat, Nat.mod_eq_of_lt (show k < 2 ^ 64 by omega), Nat.shiftRight_eq_div_pow]
theorem jb_shr {k : Nat} (hm : m < 2147483648) (hk : k < 32) : jg_shr m k = ((m / 2 ^ k : Nat) : Int) := by
  refine jb_toI ?_ (Nat.lt_of_le_of_lt (Nat.div_le_self _ _) hm)
  show ((Int32.ofInt m).toBitVec.sshiftRight' ((Int32.ofInt (k : Int) &&& 31).toBitVec.smod 32)).toNat = _
  rw [jb_sm hk]
  have hmsb : (Int32.ofInt (m : Int)).toBitVec.msb = false := by
    rw [BitVec.msb_eq_decide, jb_nI (by omega)]
    simp; omega
  rw [BitVec.sshiftRight', BitVec.sshiftRight_eq_of_msb_false hmsb, BitVec.toNat_ushiftRight, jb_nI (by omega), BitVec.toNat_ofNat, Nat.mod_eq_of_lt (show k < 2 ^ 32 by omega), Nat.shiftRight_eq_div_pow]
theorem jb_bit {k : Nat} : (m / 2 ^ k) &&& 1 = 0 ↔ m.testBit k = false := by
  rw [Nat.testBit_eq_decide_div_mod_eq, Nat.and_one_is_mod]
  simp
theorem jb_tst {k : Int} (hm : m < 2147483648) (h0 : 0 ≤ k) (hk : k < 32) : jg_wr (jg_and (jg_ushr m k) 1) = 0 ↔ ¬ m.testBit k.toNat = true := by
  obtain ⟨k, rfl⟩ := Int.eq_ofNat_of_zero_le h0
  have h1 : m / 2 ^ k < 2147483648 := Nat.lt_of_le_of_lt (Nat.div_le_self _ _) hm
  have h2 := jb_and h1 (show 1 < 2147483648 by decide)
  rw [jb_ushr hm (by omega)]
  rw [show ((1 : Nat) : Int) = 1 from rfl] at h2
  have h3 : m / 2 ^ k &&& 1 ≤ 1 := Nat.and_le_right
  rw [h2, jg_wr_id (by omega), Int.toNat_natCast]
  rw [Bool.not_eq_true, ← jb_bit (m := m) (k := k)]
  omega
theorem jb_tstr {k : Int} (hm : m < 2147483648) (h0 : 0 ≤ k) (hk : k < 32) : jg_and (jg_shr m k) 1 = jn_b (m.testBit k.toNat = true) := by
  obtain ⟨k, rfl⟩ := Int.eq_ofNat_of_zero_le h0
  have h1 : m / 2 ^ k < 2147483648 := Nat.lt_of_le_of_lt (Nat.div_le_self _ _) hm
  have h2 := jb_and h1 (show 1 < 2147483648 by decide)
  rw [jb_shr hm (by omega)]
  rw [show ((1 : Nat) : Int) = 1 from rfl] at h2
  rw [h2, Int.toNat_natCast]
  have h3 : m / 2 ^ k &&& 1 ≤ 1 := Nat.and_le_right
  have := jb_bit (m := m) (k := k)
  cases hb : m.testBit k with
  | false => rw [jn_b_f (by decide), this.mpr hb]; rfl
  | true =>
    rw [jn_b_t rfl]
    have : ¬ m / 2 ^ k &&& 1 = 0 := fun q => by rw [this.mp q] at hb; cases hb
    omega
theorem jb_lc {x y : Int} : jg_wr (jg_lc x y) = 0 ↔ jg_wl x = jg_wl y := by
  have e : jg_wr (jg_lc x y) = (lg_cmp (Int64.ofInt x) (Int64.ofInt y)).toInt := by
    unfold jg_wr jg_lc
    rw [Int32.ofInt_toInt]
  rw [e]
  unfold lg_cmp jg_wl
  rw [Int64.toInt_inj]
  by_cases h1 : Int64.ofInt x > Int64.ofInt y
  · rw [if_pos h1]
    refine ⟨fun h => (by cases h), fun h => ?_⟩
    rw [h] at h1
    exact (Int64.lt_irrefl h1).elim
  · rw [if_neg h1]
    by_cases h2 : Int64.ofInt x = Int64.ofInt y
    · rw [if_pos h2]; simp [h2]
    · rw [if_neg h2]
      refine ⟨fun h => (by cases h), fun h => absurd h h2⟩
theorem jb_tsq {k : Int} (hm : m < 9223372036854775808) (h0 : 0 ≤ k) (hk : k < 64) : jg_wr (jg_lc (jg_qand (jg_qushr m k) 1) 0) = 0 ↔ ¬ m.testBit k.toNat = true := by
  obtain ⟨k, rfl⟩ := Int.eq_ofNat_of_zero_le h0
  have h1 : m / 2 ^ k < 9223372036854775808 := Nat.lt_of_le_of_lt (Nat.div_le_self _ _) hm
  have h2 := jb_qand h1 (show 1 < 9223372036854775808 by decide)
  rw [jb_qushr hm (by omega)]
  rw [show ((1 : Nat) : Int) = 1 from rfl] at h2
  have h3 : m / 2 ^ k &&& 1 ≤ 1 := Nat.and_le_right
  rw [jb_lc, h2, jg_wl_id (by omega), jg_wl_id (by decide), Int.toNat_natCast]
  rw [Bool.not_eq_true, ← jb_bit (m := m) (k := k)]
  omega
end JNB
/-- division as the numbers have it -/
theorem jb_div {x y : Int} (hx : 0 ≤ x ∧ x < 2147483648) (hy : 0 < y ∧ y < 2147483648) : jg_div x y = x / y := by
  unfold jg_div
  rw [Int32.toInt_div_of_ne_right _ _ (by intro h; have := congrArg Int32.toInt h; rw [Int32.toInt_ofInt_of_le (by omega) (by omega)] at this; have e : (-1 : Int32).toInt = -1 := rfl; rw [e] at this; omega)]
  rw [Int32.toInt_ofInt_of_le (by omega) (by omega), Int32.toInt_ofInt_of_le (by omega) (by omega)]
  exact Int.tdiv_eq_ediv_of_nonneg hx.1
theorem jb_rem {x y : Int} (hx : 0 ≤ x ∧ x < 2147483648) (hy : 0 < y ∧ y < 2147483648) : jg_rem x y = x % y := by
  have hd := jb_div hx hy
  unfold jg_div at hd
  have h1 : 0 ≤ x / y := Int.ediv_nonneg hx.1 (by omega)
  have h2 := Int.emod_add_mul_ediv x y
  have h3 := Int.emod_nonneg x (show y ≠ 0 by omega)
  have h4 := Int.emod_lt_of_pos x hy.1
  unfold jg_rem
  rw [← Int32.ofInt_toInt (Int32.ofInt x / Int32.ofInt y), hd, ← Int32.ofInt_mul, ← Int32.ofInt_sub]
  have e : x - x / y * y = x % y := by rw [Int.mul_comm]; omega
  rw [e]
  exact Int32.toInt_ofInt_of_le (by omega) (by omega)
section JNW
variable {σ : jg_M} {a a' : Nat} {i i' v : Int}
theorem js_I : (jg_sI σ a i v).1 a' i' = if a' = a ∧ i' = i then v else σ.1 a' i' := rfl
theorem js_Is : (jg_sI σ a i v).1 a i = v := if_pos ⟨rfl, rfl⟩
theorem js_In (h : a' ≠ a ∨ i' ≠ i) : (jg_sI σ a i v).1 a' i' = σ.1 a' i' := jg_ne_pair h
theorem js_I2 : (jg_sI σ a i v).2 = σ.2 := rfl
theorem js_Ls : (jg_sL σ a i v).2 a i = v := if_pos ⟨rfl, rfl⟩
theorem js_Ln (h : a' ≠ a ∨ i' ≠ i) : (jg_sL σ a i v).2 a' i' = σ.2 a' i' := jg_ne_pair h
theorem js_L1 : (jg_sL σ a i v).1 = σ.1 := rfl
end JNW
