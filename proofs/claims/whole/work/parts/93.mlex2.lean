/-! TEXT: the reference's reader of TOKENS: words of the language, letters, signs -/
section KTD
variable {w : Nat} {σ τ : jg_M} {a b n p q k m F : Nat} {B : Nat → Int} {P : Int → Bool} {KV : jg_M → Prop} {KI : Int → jg_M → Prop} {x : Int}
theorem kt_m0 (hab : a < b ∧ b - a ≤ 6) (hl : ∀ i, a ≤ i → i < b → 97 ≤ B i ∧ B i ≤ 122) : kt_lk B a b 6 = 687183296 ↔ (b - a = 5 ∧ B (a + 0) = 116 ∧ B (a + 1) = 111 ∧ B (a + 2) = 107 ∧ B (a + 3) = 101 ∧ B (a + 4) = 110) := by
  obtain ⟨d0, d1, d2, d3, d4, d5, h, h0, h1, h2, h3, h4, h5⟩ := kt_lk6 hl
  rw [h]
  split at h0 <;> split at h1 <;> split at h2 <;> split at h3 <;> split at h4 <;> split at h5 <;> omega
theorem kt_m1 (hab : a < b ∧ b - a ≤ 6) (hl : ∀ i, a ≤ i → i < b → 97 ≤ B i ∧ B i ≤ 122) : kt_lk B a b 6 = 378998784 ↔ (b - a = 4 ∧ B (a + 0) = 107 ∧ B (a + 1) = 105 ∧ B (a + 2) = 110 ∧ B (a + 3) = 100) := by
  obtain ⟨d0, d1, d2, d3, d4, d5, h, h0, h1, h2, h3, h4, h5⟩ := kt_lk6 hl
  rw [h]
  split at h0 <;> split at h1 <;> split at h2 <;> split at h3 <;> split at h4 <;> split at h5 <;> omega
theorem kt_m2 (hab : a < b ∧ b - a ≤ 6) (hl : ∀ i, a ≤ i → i < b → 97 ≤ B i ∧ B i ≤ 122) : kt_lk B a b 6 = 626398208 ↔ (b - a = 4 ∧ B (a + 0) = 114 ∧ B (a + 1) = 117 ∧ B (a + 2) = 108 ∧ B (a + 3) = 101) := by
  obtain ⟨d0, d1, d2, d3, d4, d5, h, h0, h1, h2, h3, h4, h5⟩ := kt_lk6 hl
  rw [h]
  split at h0 <;> split at h1 <;> split at h2 <;> split at h3 <;> split at h4 <;> split at h5 <;> omega
theorem kt_m3 (hab : a < b ∧ b - a ≤ 6) (hl : ∀ i, a ≤ i → i < b → 97 ≤ B i ∧ B i ≤ 122) : kt_lk B a b 6 = 605498368 ↔ (b - a = 4 ∧ B (a + 0) = 114 ∧ B (a + 1) = 97 ∧ B (a + 2) = 110 ∧ B (a + 3) = 107) := by
  obtain ⟨d0, d1, d2, d3, d4, d5, h, h0, h1, h2, h3, h4, h5⟩ := kt_lk6 hl
  rw [h]
  split at h0 <;> split at h1 <;> split at h2 <;> split at h3 <;> split at h4 <;> split at h5 <;> omega
theorem jm_wordAt (hWd : kt_Wd σ) (hab : a < b ∧ b ≤ 700) (hl : ∀ i, a ≤ i → i < b → 97 ≤ B i ∧ B i ≤ 122) (hB : ∀ i : Nat, a ≤ i → i < b → σ.1 (92 + 1) (i : Int) = B i) (hk : KI (if b - a ≤ 6 then kt_key (kt_lk B a b 6 : Nat) else -1) σ) : jg_CI w 0 mm_X12_wordAt [.ref 92, .int (.ofInt (a : Int)), .int (.ofInt (b : Int))] σ KI := by
  have hBB : ∀ i : Nat, a ≤ i → i < b → σ.1 (92 + 1) (i : Int) = B i ∧ 0 ≤ B i ∧ B i ≤ 255 := fun i h1 h2 => ⟨hB i h1 h2, by have := hl i h1 h2; omega⟩
  have hW : ∀ F m : Nat, F + m < 21 → ∀ i : Nat, i ≤ m → σ.1 (92 + 2) ((F : Int) + i) = (fun i => kt_wl.getD (F + i) 0) i := fun F m h i hi => by
    rw [show (F : Int) + (i : Int) = ((F + i : Nat) : Int) by omega]
    exact hWd (F + i) (by omega)
  have r0 : ∀ i : Fin 5, kt_wl.getD (0 + i.val) 0 ≠ 32 ∧ 0 ≤ kt_wl.getD (0 + i.val) 0 ∧ kt_wl.getD (0 + i.val) 0 ≤ 255 := by decide
  have r1 : ∀ i : Fin 4, kt_wl.getD (6 + i.val) 0 ≠ 32 ∧ 0 ≤ kt_wl.getD (6 + i.val) 0 ∧ kt_wl.getD (6 + i.val) 0 ≤ 255 := by decide
  have r2 : ∀ i : Fin 4, kt_wl.getD (11 + i.val) 0 ≠ 32 ∧ 0 ≤ kt_wl.getD (11 + i.val) 0 ∧ kt_wl.getD (11 + i.val) 0 ≤ 255 := by decide
  have r3 : ∀ i : Fin 4, kt_wl.getD (16 + i.val) 0 ≠ 32 ∧ 0 ≤ kt_wl.getD (16 + i.val) 0 ∧ kt_wl.getD (16 + i.val) 0 ≤ 255 := by decide
  have hkey : ∀ z : Int, z = (if b - a ≤ 6 then kt_key (kt_lk B a b 6 : Nat) else -1) → KI z σ := fun z hz => by rw [hz]; exact hk
  have c5 : ∀ V : Nat → Int, (∀ i : Nat, i < 5 → B (a + i) = V i) ↔ (B (a + 0) = V 0 ∧ B (a + 1) = V 1 ∧ B (a + 2) = V 2 ∧ B (a + 3) = V 3 ∧ B (a + 4) = V 4) := fun V => ⟨fun h => ⟨h 0 (by omega), h 1 (by omega), h 2 (by omega), h 3 (by omega), h 4 (by omega)⟩, fun h i hi => by
    match i, hi with
    | 0, _ => exact h.1
    | 1, _ => exact h.2.1
    | 2, _ => exact h.2.2.1
    | 3, _ => exact h.2.2.2.1
    | 4, _ => exact h.2.2.2.2⟩
  have c4 : ∀ V : Nat → Int, (∀ i : Nat, i < 4 → B (a + i) = V i) ↔ (B (a + 0) = V 0 ∧ B (a + 1) = V 1 ∧ B (a + 2) = V 2 ∧ B (a + 3) = V 3) := fun V => ⟨fun h => ⟨h 0 (by omega), h 1 (by omega), h 2 (by omega), h 3 (by omega)⟩, fun h i hi => by
    match i, hi with
    | 0, _ => exact h.1
    | 1, _ => exact h.2.1
    | 2, _ => exact h.2.2.1
    | 3, _ => exact h.2.2.2⟩
  have m0 : (b - a = 5 ∧ ∀ i : Nat, i < 5 → B (a + i) = (fun i => kt_wl.getD (0 + i) 0) i) ↔ (b - a ≤ 6 ∧ ((kt_lk B a b 6 : Nat) : Int) = 687183296) := by
    rw [c5]
    constructor
    · intro h
      exact ⟨by omega, by have := (kt_m0 ⟨hab.1, by omega⟩ hl).mpr ⟨h.1, h.2⟩; omega⟩
    · intro h
      exact (kt_m0 ⟨hab.1, h.1⟩ hl).mp (by omega)
  have m1 : (b - a = 4 ∧ ∀ i : Nat, i < 4 → B (a + i) = (fun i => kt_wl.getD (6 + i) 0) i) ↔ (b - a ≤ 6 ∧ ((kt_lk B a b 6 : Nat) : Int) = 378998784) := by
    rw [c4]
    constructor
    · intro h
      exact ⟨by omega, by have := (kt_m1 ⟨hab.1, by omega⟩ hl).mpr ⟨h.1, h.2⟩; omega⟩
    · intro h
      exact (kt_m1 ⟨hab.1, h.1⟩ hl).mp (by omega)
  have m2 : (b - a = 4 ∧ ∀ i : Nat, i < 4 → B (a + i) = (fun i => kt_wl.getD (11 + i) 0) i) ↔ (b - a ≤ 6 ∧ ((kt_lk B a b 6 : Nat) : Int) = 626398208) := by
    rw [c4]
    constructor
    · intro h
      exact ⟨by omega, by have := (kt_m2 ⟨hab.1, by omega⟩ hl).mpr ⟨h.1, h.2⟩; omega⟩
    · intro h
      exact (kt_m2 ⟨hab.1, h.1⟩ hl).mp (by omega)
  have m3 : (b - a = 4 ∧ ∀ i : Nat, i < 4 → B (a + i) = (fun i => kt_wl.getD (16 + i) 0) i) ↔ (b - a ≤ 6 ∧ ((kt_lk B a b 6 : Nat) : Int) = 605498368) := by
    rw [c4]
    constructor
    · intro h
      exact ⟨by omega, by have := (kt_m3 ⟨hab.1, by omega⟩ hl).mpr ⟨h.1, h.2⟩; omega⟩
    · intro h
      exact (kt_m3 ⟨hab.1, h.1⟩ hl).mp (by omega)
  generalize hv : ((kt_lk B a b 6 : Nat) : Int) = v at *
  refine jb_X12_wordAt_0 rfl ?_
  refine kt_word (k := 0) (F := 0) (m := 5) (hW 0 5 (by omega)) (fun i hi => r0 ⟨i, hi⟩) rfl (by omega) ⟨by omega, hab.2⟩ hBB _ _ _ (fun h => hkey _ ?_) (fun h u5 u6 u7 => ?_)
  · have := m0.mp h
    rw [if_pos this.1, this.2]; rfl
  rw [m0] at h
  refine kt_word (k := 1) (F := 6) (m := 4) (hW 6 4 (by omega)) (fun i hi => r1 ⟨i, hi⟩) rfl (by omega) ⟨by omega, hab.2⟩ hBB _ _ _ (fun h => hkey _ ?_) (fun h1 u5 u6 u7 => ?_)
  · have := m1.mp h
    rw [if_pos this.1, this.2]; rfl
  rw [m1] at h1
  refine kt_word (k := 2) (F := 11) (m := 4) (hW 11 4 (by omega)) (fun i hi => r2 ⟨i, hi⟩) rfl (by omega) ⟨by omega, hab.2⟩ hBB _ _ _ (fun h => hkey _ ?_) (fun h2 u5 u6 u7 => ?_)
  · have := m2.mp h
    rw [if_pos this.1, this.2]; rfl
  rw [m2] at h2
  refine kt_word (k := 3) (F := 16) (m := 4) (hW 16 4 (by omega)) (fun i hi => r3 ⟨i, hi⟩) rfl (by omega) ⟨by omega, hab.2⟩ hBB _ _ _ (fun h => hkey _ ?_) (fun h3 u5 u6 u7 => ?_)
  · have := m3.mp h
    rw [if_pos this.1, this.2]; rfl
  rw [m3] at h3
  refine jb_X12_wordAt_5 rfl (jn_ite (fun _ => hkey _ ?_) (fun h => absurd (by decide) h))
  by_cases h6 : b - a ≤ 6
  · rw [if_pos h6]
    unfold kt_key
    rw [if_neg (fun q => h ⟨h6, q⟩), if_neg (fun q => h1 ⟨h6, q⟩), if_neg (fun q => h2 ⟨h6, q⟩), if_neg (fun q => h3 ⟨h6, q⟩)]
  · rw [if_neg h6]
theorem jm_lettersOf (hab : a < b ∧ b ≤ 700) (hl : ∀ i, a ≤ i → i < b → 97 ≤ B i ∧ B i ≤ 122) (hB : ∀ i : Nat, a ≤ i → i < b → σ.1 (92 + 1) (i : Int) = B i) (hk : KI (kt_lk B a b 6 : Nat) σ) : jg_CI w 0 mm_X12_lettersOf [.ref 92, .int (.ofInt (a : Int)), .int (.ofInt (b : Int))] σ KI := by
  have hloop : ∀ (m i : Nat), i + m = 6 → jg_GI w 0 mm_X12_lettersOf 5 [.ref 92, .int (.ofInt (a : Int)), .int (.ofInt (b : Int)), .int (.ofInt ((kt_lk B a b i : Nat) : Int)), .int (.ofInt ((a + i : Nat) : Int))] σ KI := by
    intro m
    induction m with
    | zero =>
      intro i hi
      refine jb_X12_lettersOf_5 rfl ?_
      rw [jr_wr (show jr ((a : Int) + 6) by omega), jr_wr (show jr ((a + i : Nat) : Int) by omega)]
      exact jn_ite (fun _ => by rw [show i = 6 by omega]; exact hk) (fun h => by omega)
    | succ m ih =>
      intro i hi
      have hlt := kt_lk_lt hl (k := i)
      have h32 : 32 ^ i ≤ 32 ^ 5 := Nat.pow_le_pow_right (by decide) (by omega)
      have h5v : (32 : Nat) ^ 5 = 33554432 := by decide
      have hstep : kt_lk B a b (i + 1) = kt_lk B a b i * 32 + (if a + i < b then (B (a + i) - 96).toNat else 0) := rfl
      have hsh : jg_shl ((kt_lk B a b i : Nat) : Int) 5 = ((kt_lk B a b i * 32 : Nat) : Int) := by
        have := jb_shl (m := kt_lk B a b i) (k := 5) (by omega) (by omega)
        exact this
      have hnext := ih (i + 1) (by omega)
      rw [show ((a + (i + 1) : Nat) : Int) = ((a + i : Nat) : Int) + 1 by omega] at hnext
      refine jb_X12_lettersOf_5 rfl ?_
      rw [jr_wr (show jr ((a : Int) + 6) by omega), jr_wr (show jr ((a + i : Nat) : Int) by omega), jr_wr (show jr (b : Int) by omega), hsh]
      refine jn_ite (fun h => by omega) (fun _ => jn_ite (fun hge => ?_) (fun hlt2 => ⟨by omega, ?_⟩))
      · rw [if_neg (by omega)] at hstep
        rintro _ rfl
        rw [hstep] at hnext
        have e := jb_or (m := kt_lk B a b i * 32) (n := 0) (by omega) (by omega)
        rw [Nat.or_zero] at e
        rw [show ((0 : Nat) : Int) = 0 from rfl] at e
        rw [e]
        exact hnext
      · have hbi := hl (a + i) (by omega) (by omega)
        rw [if_pos (by omega)] at hstep
        rw [hB (a + i) (by omega) (by omega)]
        rintro _ rfl
        rw [hstep] at hnext
        rw [show B (a + i) - 96 = (((B (a + i) - 96).toNat : Nat) : Int) by omega, jb_or (by omega) (by omega), show kt_lk B a b i * 32 = kt_lk B a b i * 2 ^ 5 from rfl, kt_or32 (by omega)]
        exact hnext
  exact jb_X12_lettersOf_0 rfl (hloop 6 0 rfl)
end KTD
