/-! Counting the bits of a long word, 3 -/
section JB4
variable {w : Nat} {σ : jg_M} {KI : Int → jg_M → Prop}
theorem jn_dv {x r c q : Nat} (h : x = r + c * q) (hr : r < c) : x / c = q := by
  subst h
  rw [Nat.add_mul_div_left _ _ (by omega), Nat.div_eq_of_lt hr, Nat.zero_add]
theorem jn_and127 {x : Nat} : jg_and (x : Int) 127 = ((x % 128 : Nat) : Int) := by
  refine jb_toI ?_ (by omega)
  show ((Int32.ofInt x).toBitVec &&& (Int32.ofInt ((127 : Nat) : Int)).toBitVec).toNat = _
  rw [BitVec.toNat_and, Int32.ofInt_eq_ofNat, jb_nI (by omega)]
  show (BitVec.ofNat 32 x).toNat &&& 127 = _
  rw [BitVec.toNat_ofNat, show (127 : Nat) = 2 ^ 7 - 1 by decide, Nat.and_two_pow_sub_one_eq_mod]
  omega
theorem jn_by8a {p0 p1 p2 p3 p4 p5 p6 p7 G : Nat} (hG : G = p0 + 256 * (p1 + 256 * (p2 + 256 * (p3 + 256 * (p4 + 256 * (p5 + 256 * (p6 + 256 * p7)))))))
    : G + (p1 + 256 * (p2 + 256 * (p3 + 256 * (p4 + 256 * (p5 + 256 * (p6 + 256 * p7)))))) = p0 + p1 + 256 * (p1 + p2) + 65536 * ((p2 + p3) + 256 * ((p3 + p4) + 256 * ((p4 + p5) + 256 * ((p5 + p6) + 256 * ((p6 + p7) + 256 * p7))))) := by omega
theorem jn_by8b {p0 p1 p2 p3 p4 p5 p6 p7 H : Nat} (hH : H = p0 + p1 + 256 * (p1 + p2) + 65536 * ((p2 + p3) + 256 * ((p3 + p4) + 256 * ((p4 + p5) + 256 * ((p5 + p6) + 256 * ((p6 + p7) + 256 * p7))))))
    : H + ((p2 + p3) + 256 * ((p3 + p4) + 256 * ((p4 + p5) + 256 * ((p5 + p6) + 256 * ((p6 + p7) + 256 * p7))))) = ((p0 + p1 + p2 + p3) + 256 * ((p1 + p2 + p3 + p4) + 256 * ((p2 + p3 + p4 + p5) + 256 * (p3 + p4 + p5 + p6)))) + 4294967296 * ((p4 + p5 + p6 + p7) + 256 * ((p5 + p6 + p7) + 256 * ((p6 + p7) + 256 * p7))) := by omega
theorem jn_by8c {p0 p1 p2 p3 p4 p5 p6 p7 J : Nat} (hJ : J = ((p0 + p1 + p2 + p3) + 256 * ((p1 + p2 + p3 + p4) + 256 * ((p2 + p3 + p4 + p5) + 256 * (p3 + p4 + p5 + p6)))) + 4294967296 * ((p4 + p5 + p6 + p7) + 256 * ((p5 + p6 + p7) + 256 * ((p6 + p7) + 256 * p7))))
    : J + ((p4 + p5 + p6 + p7) + 256 * ((p5 + p6 + p7) + 256 * ((p6 + p7) + 256 * p7))) = (p0 + p1 + p2 + p3 + p4 + p5 + p6 + p7) + 128 * (2 * ((p1 + p2 + p3 + p4 + p5 + p6 + p7) + 256 * ((p2 + p3 + p4 + p5 + p6 + p7) + 256 * ((p3 + p4 + p5 + p6 + p7) + 256 * ((p4 + p5 + p6 + p7) + 256 * ((p5 + p6 + p7) + 256 * ((p6 + p7) + 256 * p7))))))) := by omega
theorem jn_by8 {p0 p1 p2 p3 p4 p5 p6 p7 G : Nat} (h : (p0 ≤ 8 ∧ p1 ≤ 8 ∧ p2 ≤ 8 ∧ p3 ≤ 8) ∧ (p4 ≤ 8 ∧ p5 ≤ 8 ∧ p6 ≤ 8 ∧ p7 ≤ 8)) (hG : G = p0 + 256 * (p1 + 256 * (p2 + 256 * (p3 + 256 * (p4 + 256 * (p5 + 256 * (p6 + 256 * p7)))))))
    : (G + G / 256 + (G + G / 256) / 65536 + (G + G / 256 + (G + G / 256) / 65536) / 4294967296) % 128 = p0 + (p1 + (p2 + (p3 + (p4 + (p5 + (p6 + p7)))))) := by
  have l0 : p0 < 256 := by omega
  have l1 : p0 + p1 + 256 * (p1 + p2) < 65536 := by omega
  have l2 : (p0 + p1 + p2 + p3) + 256 * ((p1 + p2 + p3 + p4) + 256 * ((p2 + p3 + p4 + p5) + 256 * (p3 + p4 + p5 + p6))) < 4294967296 := by omega
  have l3 : p0 + p1 + p2 + p3 + p4 + p5 + p6 + p7 < 128 := by omega
  have h1 := jn_by8a hG
  rw [jn_dv hG l0]
  generalize G + (p1 + 256 * (p2 + 256 * (p3 + 256 * (p4 + 256 * (p5 + 256 * (p6 + 256 * p7)))))) = H at *
  have h2 := jn_by8b h1
  rw [jn_dv h1 l1]
  generalize H + ((p2 + p3) + 256 * ((p3 + p4) + 256 * ((p4 + p5) + 256 * ((p5 + p6) + 256 * ((p6 + p7) + 256 * p7))))) = J at *
  have h3 := jn_by8c h2
  rw [jn_dv h2 l2, h3, Nat.add_mul_mod_self_left, Nat.mod_eq_of_lt l3]
  clear h3 h2 h1 hG
  omega
theorem jc_bitCountL {m : Nat} (hm : m < 2 ^ 62) (hk : KI (jn_ct m.testBit 64 : Nat) σ) : jg_CI w 0 mm_J13_bitCount_95d88 [.long (.ofInt (m : Int))] σ KI := by
  have hm' : m < 4611686018427387904 := hm
  have q85 : jn_m8 85 8 = 6148914691236517205 := by decide
  have q51 : jn_m8 51 8 = 3689348814741910323 := by decide
  have q15 : jn_m8 15 8 = 1085102592571150095 := by decide
  refine jb_J13_bitCount_95d88_0 ?_
  intro t1 h1
  have b1 : m / 2 &&& jn_m8 85 8 ≤ m / 2 := Nat.and_le_left
  have r1 : t1 = ((jn_f1 8 m : Nat) : Int) := by
    rw [h1, show (1 : Int) = ((1 : Nat) : Int) from rfl, jb_qushr (by omega) (by decide), jb_qand (by omega) (by decide), show (2 : Nat) ^ 1 = 2 from rfl, ← q85]
    unfold jn_f1
    omega
  have l1 : jn_f1 8 m < 4611686018427387904 := by unfold jn_f1; omega
  clear h1
  intro t2 h2
  have b2 : jn_f1 8 m &&& jn_m8 51 8 ≤ jn_m8 51 8 := Nat.and_le_right
  have b3 : jn_f1 8 m / 4 &&& jn_m8 51 8 ≤ jn_m8 51 8 := Nat.and_le_right
  have r2 : t2 = ((jn_f2 8 (jn_f1 8 m) : Nat) : Int) := by
    rw [h2, r1, show (2 : Int) = ((2 : Nat) : Int) from rfl, jb_qushr (by omega) (by decide), jb_qand (by omega) (by decide), jb_qand (by omega) (by decide), show (2 : Nat) ^ 2 = 4 from rfl, ← q51]
    unfold jn_f2
    omega
  have l2 : jn_f2 8 (jn_f1 8 m) ≤ 7378697629483820646 := by unfold jn_f2; omega
  clear h2
  intro t3 h3
  have r3 : t3 = ((jn_gk 8 m : Nat) : Int) := by
    rw [h3, r2, show (4 : Int) = ((4 : Nat) : Int) from rfl, jb_qushr (by omega) (by decide), show (2 : Nat) ^ 4 = 16 from rfl, ← q15]
    rw [show ((jn_f2 8 (jn_f1 8 m) : Nat) : Int) + ((jn_f2 8 (jn_f1 8 m) / 16 : Nat) : Int) = ((jn_f2 8 (jn_f1 8 m) + jn_f2 8 (jn_f1 8 m) / 16 : Nat) : Int) by omega, jb_qand (by omega) (by rw [q15]; decide)]
    rfl
  clear h3
  have lG : jn_gk 8 m ≤ 1085102592571150095 := by rw [← q15]; exact Nat.and_le_right
  have hfin : (jn_gk 8 m + jn_gk 8 m / 256 + (jn_gk 8 m + jn_gk 8 m / 256) / 65536 + (jn_gk 8 m + jn_gk 8 m / 256 + (jn_gk 8 m + jn_gk 8 m / 256) / 65536) / 4294967296) % 128 = jn_ct m.testBit 64 := by
    obtain ⟨p0, p1, p2, p3, p4, p5, p6, p7, ha, hb, hG, hs⟩ := jn_gk_sum (m := m)
    rw [hs]
    exact jn_by8 ⟨ha, hb⟩ hG
  generalize jn_gk 8 m = G at *
  intro t4 h4
  have r4 : t4 = ((G + G / 256 : Nat) : Int) := by
    rw [h4, r3, show (8 : Int) = ((8 : Nat) : Int) from rfl, jb_qushr (by omega) (by decide), show (2 : Nat) ^ 8 = 256 from rfl]
    omega
  clear h4
  have lH : G + G / 256 ≤ 1089341274573381150 := by omega
  generalize G + G / 256 = H at *
  intro t5 h5
  have r5 : t5 = ((H + H / 65536 : Nat) : Int) := by
    rw [h5, r4, show (16 : Int) = ((16 : Nat) : Int) from rfl, jb_qushr (by omega) (by decide), show (2 : Nat) ^ 16 = 65536 from rfl]
    omega
  clear h5
  have lJ : H + H / 65536 ≤ 1200000000000000000 := by omega
  generalize H + H / 65536 = J at *
  intro t6 h6
  have r6 : t6 = ((J + J / 4294967296 : Nat) : Int) := by
    rw [h6, r5, show (32 : Int) = ((32 : Nat) : Int) from rfl, jb_qushr (by omega) (by decide), show (2 : Nat) ^ 32 = 4294967296 from rfl]
    omega
  rw [r6, jn_and127, hfin]
  exact hk
end JB4
