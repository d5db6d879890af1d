/-! A TEXT's BYTES in five ints -/
theorem zl_wO {E : String} {t : Nat} {A : Nat → Prop} {U : State} {H : Heap} (h : va_O E t A U H) : va_O E t (fun q => A q ∨ H.size ≤ q) U H := by
  obtain ⟨cell, h1, h2, h3, h4⟩ := h
  exact ⟨cell, h1, h2, h3, fun h => h.elim h4 (Nat.not_le.mpr (Array.getElem?_eq_some_iff.mp h1).1)⟩
theorem zl_wF {o n d : String} {v : Value} {t : Nat} {A : Nat → Prop} {U : State} {H : Heap} (h : va_OF o n d v t A U H) : va_OF o n d v t (fun q => A q ∨ H.size ≤ q) U H := by
  obtain ⟨cf, k, i, f, cell, h1, h2, h3, h4, h5, h6⟩ := h
  exact ⟨cf, k, i, f, cell, h1, h2, h3, h4, h5, fun h => h.elim h6 (Nat.not_le.mpr (Array.getElem?_eq_some_iff.mp h3).1)⟩
theorem zl_wT {ty : FieldType} {t N : Nat} {f : Nat → Value} {A : Nat → Prop} {U : State} {H : Heap} (h : va_T ty t N f A U H) : va_T ty t N f (fun q => A q ∨ H.size ≤ q) U H := by
  obtain ⟨cell, h1, h2, h3, h4, h5, h6, h7⟩ := h
  exact ⟨cell, h1, h2, h3, h4, h5, h6, fun h => h.elim h7 (Nat.not_le.mpr (Array.getElem?_eq_some_iff.mp h1).1)⟩
theorem zl_wZ {C n d : String} {v : Value} {A : Nat → Prop} {U : State} {H : Heap} (h : va_Z C n d v A U H) : va_Z C n d v (fun q => A q ∨ H.size ≤ q) U H := by
  obtain ⟨cf, kf, fi, f, a, cell, h1, h2, h3, h4, h5, h6, h7, h8⟩ := h
  exact ⟨cf, kf, fi, f, a, cell, h1, h2, h3, h4, h5, h6, h7, fun h => h.elim h8 (Nat.not_le.mpr (Array.getElem?_eq_some_iff.mp h5).1)⟩
theorem zs_F.wide {A : Nat → Prop} {q v n : Nat} {g : Nat → Int32} {U : State} {H : Heap} (h : zs_F A q v n g U H) : zs_F (fun q => A q ∨ H.size ≤ q) q v n g U H := ⟨zl_wO h.1, zl_wF h.2.1, zl_wF h.2.2.1, zl_wT h.2.2.2⟩
theorem zs_C.wide {A : Nat → Prop} {U : State} {H : Heap} (h : zs_C A U H) : zs_C (fun q => A q ∨ H.size ≤ q) U H := zl_wZ h
theorem zs_Q.wide {A : Nat → Prop} {U : State} {H : Heap} (h : zs_Q A U H) : zs_Q (fun q => A q ∨ H.size ≤ q) U H := by
  rcases h with h | ⟨t, h⟩
  · exact Or.inl (zl_wZ h)
  · exact Or.inr ⟨t, zl_wZ h⟩
/-- what stands in w after i bytes from k0 on -/
def zt_f (N k0 : Nat) : Nat → Nat → Int32
  | 0 => fun _ => 0
  | i + 1 => upd (zt_f N k0 i) (i / 4) (zt_f N k0 i (i / 4) ||| (nI (zp_b N (k0 + i)) <<< (Int32.ofNat (24 - 8 * (i % 4)) &&& 31)))
theorem zp_b_lt {N j : Nat} : zp_b N j < 256 := Nat.mod_lt _ (by decide)
def zt_w (a b c d : Nat) : Int32 := (((0 ||| (nI a <<< (Int32.ofNat 24 &&& 31))) ||| (nI b <<< (Int32.ofNat 16 &&& 31))) ||| (nI c <<< (Int32.ofNat 8 &&& 31))) ||| (nI d <<< (Int32.ofNat 0 &&& 31))
theorem zt_f20 {N k : Nat} : ∀ i, i < 5 → zt_f N k 20 i = zt_w (zp_b N (k + 4 * i)) (zp_b N (k + (4 * i + 1))) (zp_b N (k + (4 * i + 2))) (zp_b N (k + (4 * i + 3))) := by
  intro i hi
  rcases (show i = 0 ∨ i = 1 ∨ i = 2 ∨ i = 3 ∨ i = 4 by omega) with rfl | rfl | rfl | rfl | rfl <;> rfl
theorem zt_s24 : ∀ c, c < 256 → (nI c <<< (Int32.ofNat 24 &&& 31)).toBitVec.toNat = 16777216 * c := by decide +kernel
theorem zt_s16 : ∀ c, c < 256 → (nI c <<< (Int32.ofNat 16 &&& 31)).toBitVec.toNat = 65536 * c := by decide +kernel
theorem zt_s8 : ∀ c, c < 256 → (nI c <<< (Int32.ofNat 8 &&& 31)).toBitVec.toNat = 256 * c := by decide +kernel
theorem zt_s0 : ∀ c, c < 256 → (nI c <<< (Int32.ofNat 0 &&& 31)).toBitVec.toNat = c := by decide +kernel
theorem zt_wN {a b c d : Nat} (ha : a < 256) (hb : b < 256) (hc : c < 256) (hd : d < 256) : (zt_w a b c d).toBitVec.toNat = 16777216 * a + 65536 * b + 256 * c + d := by
  unfold zt_w
  rw [Int32.toBitVec_or, Int32.toBitVec_or, Int32.toBitVec_or, Int32.toBitVec_or, BitVec.toNat_or, BitVec.toNat_or, BitVec.toNat_or, BitVec.toNat_or, zt_s24 a ha, zt_s16 b hb, zt_s8 c hc, zt_s0 d hd, show ((0 : Int32).toBitVec.toNat) = 0 from rfl, Nat.zero_or]
  have e1 : 16777216 * a ||| 65536 * b = 16777216 * a + 65536 * b := (Nat.two_pow_add_eq_or_of_lt (i := 24) (b := 65536 * b) (by omega) a).symm
  have e2 : (16777216 * a + 65536 * b) ||| 256 * c = 16777216 * a + 65536 * b + 256 * c := by
    have h := Nat.two_pow_add_eq_or_of_lt (i := 16) (b := 256 * c) (by omega) (256 * a + b)
    rw [show 2 ^ 16 * (256 * a + b) = 16777216 * a + 65536 * b by omega] at h
    exact h.symm
  have e3 : (16777216 * a + 65536 * b + 256 * c) ||| d = 16777216 * a + 65536 * b + 256 * c + d := by
    have h := Nat.two_pow_add_eq_or_of_lt (i := 8) (b := d) (by omega) (65536 * a + 256 * b + c)
    rw [show 2 ^ 8 * (65536 * a + 256 * b + c) = 16777216 * a + 65536 * b + 256 * c by omega] at h
    exact h.symm
  rw [e1, e2, e3]
theorem zt_fb {N k j : Nat} (hj : j < 20) : ku_fb (zt_f N k 20 0).toInt (zt_f N k 20 1).toInt (zt_f N k 20 2).toInt (zt_f N k 20 3).toInt (zt_f N k 20 4).toInt j = ((zp_b N (k + j) : Nat) : Int) := by
  have hx : ∀ i, i < 5 → ku_xs (zt_f N k 20 0).toInt (zt_f N k 20 1).toInt (zt_f N k 20 2).toInt (zt_f N k 20 3).toInt (zt_f N k 20 4).toInt i = (zt_w (zp_b N (k + 4 * i)) (zp_b N (k + (4 * i + 1))) (zp_b N (k + (4 * i + 2))) (zp_b N (k + (4 * i + 3)))).toInt := by
    intro i hi
    rw [← zt_f20 i hi]
    rcases (show i = 0 ∨ i = 1 ∨ i = 2 ∨ i = 3 ∨ i = 4 by omega) with rfl | rfl | rfl | rfl | rfl <;> rfl
  unfold ku_fb
  rw [hx (j / 4) (by omega)]
  unfold ku_by
  rw [Int32.ofInt_toInt, zt_wN zp_b_lt zp_b_lt zp_b_lt zp_b_lt]
  have b0 := zp_b_lt (N := N) (j := k + 4 * (j / 4))
  have b1 := zp_b_lt (N := N) (j := k + (4 * (j / 4) + 1))
  have b2 := zp_b_lt (N := N) (j := k + (4 * (j / 4) + 2))
  have b3 := zp_b_lt (N := N) (j := k + (4 * (j / 4) + 3))
  congr 1
  rcases (show j % 4 = 0 ∨ j % 4 = 1 ∨ j % 4 = 2 ∨ j % 4 = 3 by omega) with e | e | e | e
  · rw [show k + j = k + 4 * (j / 4) by omega, e, show 24 - 8 * 0 = 24 from rfl, show (2 : Nat) ^ 24 = 16777216 from rfl]
    omega
  · rw [show k + j = k + (4 * (j / 4) + 1) by omega, e, show 24 - 8 * 1 = 16 from rfl, show (2 : Nat) ^ 16 = 65536 from rfl]
    omega
  · rw [show k + j = k + (4 * (j / 4) + 2) by omega, e, show 24 - 8 * 2 = 8 from rfl, show (2 : Nat) ^ 8 = 256 from rfl]
    omega
  · rw [show k + j = k + (4 * (j / 4) + 3) by omega, e, show 24 - 8 * 3 = 0 from rfl, show (2 : Nat) ^ 0 = 1 from rfl]
    omega
