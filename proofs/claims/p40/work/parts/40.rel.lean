/-! Long words as rows of bits; what INCLUDES what, in the class -/
def jn_lb (v : Int) (j : Nat) : Bool := (Int64.ofInt v).toBitVec.toNat.testBit j
theorem jn_lb_or {x y : Int} {j : Nat} : jn_lb (jg_qor x y) j = (jn_lb x j || jn_lb y j) := by
  unfold jn_lb jg_qor
  rw [Int64.ofInt_toInt]
  show ((Int64.ofInt x).toBitVec ||| (Int64.ofInt y).toBitVec).toNat.testBit j = _
  rw [BitVec.toNat_or, Nat.testBit_or]
theorem jn_lb_0 {j : Nat} : jn_lb 0 j = false := Nat.zero_testBit j
theorem jn_lb_pow {i j : Nat} (hi : i < 64) (hj : j < 64) : jn_lb (jg_qshl 1 (j : Int)) i = decide (i = j) := by
  have h : ∀ j : Fin 64, ∀ i : Fin 64, jn_lb (jg_qshl 1 ((j.val : Nat) : Int)) i.val = decide (i.val = j.val) := by decide +kernel
  exact h ⟨j, hj⟩ ⟨i, hi⟩
theorem jn_lb_tst {v : Int} {k : Nat} (hk : k < 64) : jg_wr (jg_lc (jg_qand (jg_qushr v (k : Int)) 1) 0) = 0 ↔ ¬ jn_lb v k = true := by
  have h3 : (Int64.ofInt v).toBitVec.toNat / 2 ^ k &&& 1 ≤ 1 := Nat.and_le_right
  have h2 : jg_qand (jg_qushr v (k : Int)) 1 = (((Int64.ofInt v).toBitVec.toNat / 2 ^ k &&& 1 : Nat) : Int) := by
    refine jb_toL ?_ (by omega)
    unfold jg_qushr
    rw [Int64.ofInt_toInt]
    show (((Int64.ofInt v).toBitVec >>> (((Int32.ofInt (k : Int)).toInt64.toUInt64 &&& Int64.toUInt64 63).toBitVec % 64#64)) &&& (Int64.ofInt 1).toBitVec).toNat = _
    rw [jb_sv hk, BitVec.toNat_and, BitVec.ushiftRight_eq', BitVec.toNat_ushiftRight, BitVec.toNat_ofNat, Nat.mod_eq_of_lt (show k < 2 ^ 64 by omega), Nat.shiftRight_eq_div_pow]
    rfl
  rw [jb_lc, h2, jg_wl_id (by omega), jg_wl_id (by decide)]
  unfold jn_lb
  rw [Bool.not_eq_true, ← jb_bit (m := (Int64.ofInt v).toBitVec.toNat) (k := k)]
  omega
def jn_ib (σ : jg_M) (a : Nat) (i j : Int) : Prop := jn_lb (σ.2 a (i * 4 + j / 64)) (j % 64).toNat = true
section JRE
variable {w : Nat} {σ : jg_M} {A : Nat} {x y i j v : Int} {K : jg_M → Prop} {KI : Int → jg_M → Prop}
theorem jc_inBitsL (hx : 0 ≤ x ∧ x < 64) (hk : KI (jn_b (jn_lb v x.toNat = true)) σ) : jg_CI w 0 mm_X11_inBits [.long (.ofInt v), .int (.ofInt x)] σ KI := by
  refine jb_X11_inBits_0 ?_
  rw [jr_wr (by omega)]
  have ht := jn_lb_tst (v := v) (k := x.toNat) (by omega)
  rw [show ((x.toNat : Nat) : Int) = x by omega] at ht
  refine jn_ite (fun hc => by omega) (fun hc => jn_ite (fun hc2 => by omega) (fun hc2 => jn_ite (fun hc3 => ?_) (fun hc3 => ?_)))
  · rw [jn_b_f (ht.mp hc3)] at hk; exact hk
  · rw [jn_b_t (Classical.not_not.mp (fun q => hc3 (ht.mpr q)))] at hk; exact hk
theorem jc_X4_inRow {a : Nat} (h0 : jg_sh a = (21, 960)) (hx : 0 ≤ i ∧ i < 240) (hy : 0 ≤ j ∧ j < 240) (hk : KI (jn_b (jn_ib σ a i j)) σ) : jg_CI w 1 mm_X4_inRow [.ref a, .int (.ofInt i), .int (.ofInt j)] σ KI := by
  refine jb_X4_inRow_0 h0 ?_
  rintro _ rfl
  rw [jb_div (by omega) (by omega), jb_rem (by omega) (by omega), jr_wr (show jr (i * 4 + j / 64) by omega), jr_wr (show jr ((960 : Nat) : Int) by omega)]
  refine jn_ite (fun h => by omega) (fun _ => jn_ite (fun h => by omega) (fun _ => ⟨by omega, jc_inBitsL (by omega) (jn_if (fun hp => ?_) (fun hp => ?_))⟩))
  · rw [jn_b_f (show ¬ jn_ib σ a i j from hp)] at hk; exact hk
  · rw [jn_b_t (show jn_ib σ a i j from hp)] at hk; exact hk
theorem jn_ib_set (hx : 0 ≤ i ∧ i < 240) (hy : 0 ≤ j ∧ j < 240) {a : Nat} {x y : Int} (hx2 : 0 ≤ x ∧ x < 240) (hy2 : 0 ≤ y ∧ y < 240) : jn_ib (jg_sL σ a (i * 4 + j / 64) (jg_qor (σ.2 a (i * 4 + j / 64)) (jg_qshl 1 (j % 64)))) a x y ↔ jn_ib σ a x y ∨ (x = i ∧ y = j) := by
  unfold jn_ib
  by_cases h : x * 4 + y / 64 = i * 4 + j / 64
  · rw [h, js_Ls, jn_lb_or, Bool.or_eq_true]
    have hp := jn_lb_pow (i := (y % 64).toNat) (j := (j % 64).toNat) (by omega) (by omega)
    rw [show (((j % 64).toNat : Nat) : Int) = j % 64 by omega] at hp
    rw [hp, decide_eq_true_iff]
    exact ⟨fun q => q.elim Or.inl (fun q => Or.inr (by omega)), fun q => q.elim Or.inl (fun q => Or.inr (by rw [q.2]))⟩
  · rw [js_Ln (Or.inr h)]
    exact ⟨Or.inl, fun q => q.elim id (fun q => absurd (by rw [q.1, q.2]) h)⟩
theorem jc_X4_include (h0 : jg_sh A = (4, 0)) (hx : 0 ≤ i ∧ i < 240) (hy : 0 ≤ j ∧ j < 240) (k0 : jn_ib σ (A + 5) i j → K σ)
    (k1 : ¬ jn_ib σ (A + 5) i j → ∀ τ, jF (fun a k => a = A + 5 ∨ (a = A ∧ k = 2)) σ τ → τ.1 A 2 = σ.1 A 2 + 1 → (∀ x y, 0 ≤ x → x < 240 → 0 ≤ y → y < 240 → (jn_ib τ (A + 5) x y ↔ jn_ib σ (A + 5) x y ∨ (x = i ∧ y = j))) → K τ) : jg_CV w 2 mm_X4_include [.ref A, .int (.ofInt i), .int (.ofInt j)] σ K := by
  refine jb_X4_include_0 h0 ?_
  rw [jr_wr (show jr i by omega)]
  refine jn_ite (fun h => by omega) (fun _ => jn_ite (fun h => by omega) (fun _ => jc_X4_inRow (jg_sX4_8 h0) hx hy (jn_if (fun hp => ?_) (fun hp => k0 hp))))
  rw [jb_div (by omega) (by omega), jb_rem (by omega) (by omega), jr_wr (show jr (i * 4 + j / 64) by omega)]
  refine ⟨by omega, by omega, ?_⟩
  rintro _ rfl _ rfl
  refine k1 hp _ (jF_tr (jF_L (Or.inl rfl)) (jF_I (Or.inr ⟨rfl, rfl⟩))) (by rw [js_Is]; rfl) (fun x y x1 x2 y1 y2 => ?_)
  exact jn_ib_set hx hy ⟨x1, x2⟩ ⟨y1, y2⟩
theorem jc_X4_numberOf {s k : Int} (h0 : jg_sh A = (4, 0)) (hs : jr s) (hk2 : jr k) (hk : KI (if (0 ≤ s ∧ s < 48) ∧ 0 ≤ k ∧ k < 5 then σ.1 (A + 3) (s * 5 + k) else -1) σ) : jg_CI w 0 mm_X4_numberOf [.ref A, .int (.ofInt s), .int (.ofInt k)] σ KI := by
  refine jb_X4_numberOf_0 h0 ?_
  rw [jr_wr hs, jr_wr hk2]
  refine jn_ite (fun h => ?_) (fun h => jn_ite (fun h2 => ?_) (fun h2 => jn_ite (fun h3 => ?_) (fun h3 => jn_ite (fun h4 => ?_) (fun h4 => ?_))))
  · rw [if_neg (by omega)] at hk; exact hk
  · rw [if_neg (by omega)] at hk; exact hk
  · rw [if_neg (by omega)] at hk; exact hk
  · rw [if_pos (by omega)] at hk
    rw [jr_wr (by omega)]
    exact ⟨by omega, hk⟩
  · rw [if_neg (by omega)] at hk; exact hk
end JRE
