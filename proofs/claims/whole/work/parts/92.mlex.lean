/-! TEXT: the reference's reader of TOKENS -/
def kt_key (v : Int) : Int := if v = 687183296 then 0 else if v = 378998784 then 1 else if v = 626398208 then 2 else if v = 605498368 then 3 else -1
def kt_Bm (σ : jg_M) (B : Nat → Int) (n : Nat) : Prop := σ.1 92 6 = (n : Nat) ∧ n ≤ 700 ∧ (∀ i : Nat, i < n → σ.1 (92 + 1) (i : Int) = B i) ∧ ∀ i, 0 ≤ B i ∧ B i ≤ 255
def kt_wl : List Int := [116, 111, 107, 101, 110, 32, 107, 105, 110, 100, 32, 114, 117, 108, 101, 32, 114, 97, 110, 107, 32]
def kt_Wd (σ : jg_M) : Prop := ∀ i : Nat, i < 21 → σ.1 (92 + 2) (i : Int) = kt_wl.getD i 0
def kt_Mt (σ : jg_M) (t : kt_T) : Prop := σ.1 92 10 = (t.2.1 : Nat) ∧ (t.1 ≠ 4 → σ.1 92 7 = (t.2.2.1 : Nat)) ∧ (t.1 = 3 → σ.1 92 8 = 0) ∧
  (t.1 = 0 → (0 ≤ kt_key t.2.2.2 → σ.1 92 8 = 1 ∧ σ.1 92 9 = kt_key t.2.2.2) ∧ (kt_key t.2.2.2 < 0 → σ.1 92 8 = 2 ∧ σ.1 92 9 = t.2.2.2)) ∧
  (t.1 = 1 → σ.1 92 8 = 3 ∧ (0 ≤ σ.1 92 9 ∧ σ.1 92 9 ≤ 1100000) ∧ (if σ.1 92 9 < 1000 then σ.1 92 9 else 1000) = t.2.2.2) ∧
  (t.1 = 2 → σ.1 92 8 = 4 ∧ σ.1 92 9 = 59) ∧ (t.1 = 4 → σ.1 92 8 = 5 ∨ σ.1 92 8 = 6 ∨ (σ.1 92 8 = 4 ∧ σ.1 92 9 ≠ 59 ∧ jr (σ.1 92 9)))
def kW_nx (c : Nat) (i : Int) : Prop := c = 92 ∧ 7 ≤ i ∧ i ≤ 10
section KTC
variable {w : Nat} {σ τ : jg_M} {a b n p q k m F : Nat} {B : Nat → Int} {P : Int → Bool} {KV : jg_M → Prop} {KI : Int → jg_M → Prop} {x : Int}
theorem kt_Bm_fr {W : Nat → Int → Prop} (h : kt_Bm σ B n) (hf : jF W σ τ) (h1 : ¬ W 92 6) (h2 : ∀ i, ¬ W (92 + 1) i) : kt_Bm τ B n := ⟨(hf.1 _ _ h1).trans h.1, h.2.1, fun i hi => (hf.1 _ _ (h2 _)).trans (h.2.2.1 i hi), h.2.2.2⟩
theorem kt_Wd_fr {W : Nat → Int → Prop} (h : kt_Wd σ) (hf : jF W σ τ) (h2 : ∀ i, ¬ W (92 + 2) i) : kt_Wd τ := fun i hi => (hf.1 _ _ (h2 _)).trans (h i hi)
theorem jm_isSmall (hB : kt_Bm σ B n) (hp : p ≤ 100000) (hk : KI (jn_b (p < n ∧ kt_le (B p) = true)) σ) : jg_CI w 0 mm_X12_isSmall [.ref 92, .int (.ofInt (p : Int))] σ KI := by
  have h7 := hB.2.1
  have hb := hB.2.2.2 p
  refine jb_X12_isSmall_0 rfl ?_
  rw [hB.1, jr_wr (show jr (p : Int) by omega), jr_wr (show jr (n : Int) by omega)]
  refine jn_ite (fun h => ?_) (fun h => ⟨by omega, ?_⟩)
  · rw [jn_b_f (fun q => by have := q.1; omega)] at hk; exact hk
  · rw [hB.2.2.1 p (by omega), jr_wr (show jr (B p) by omega)]
    unfold kt_le at hk
    refine jn_ite (fun h => ?_) (fun h => ⟨by omega, jn_ite (fun h => ?_) (fun h => ?_)⟩)
    · rw [jn_b_f (fun q => by have := of_decide_eq_true q.2; omega)] at hk; exact hk
    · rw [jn_b_f (fun q => by have := of_decide_eq_true q.2; omega)] at hk; exact hk
    · rw [jn_b_t ⟨by omega, decide_eq_true (by omega)⟩] at hk; exact hk
theorem jm_isDigit (hB : kt_Bm σ B n) (hp : p ≤ 100000) (hk : KI (jn_b (p < n ∧ kt_di (B p) = true)) σ) : jg_CI w 0 mm_X12_isDigit [.ref 92, .int (.ofInt (p : Int))] σ KI := by
  have h7 := hB.2.1
  have hb := hB.2.2.2 p
  refine jb_X12_isDigit_0 rfl ?_
  rw [hB.1, jr_wr (show jr (p : Int) by omega), jr_wr (show jr (n : Int) by omega)]
  refine jn_ite (fun h => ?_) (fun h => ⟨by omega, ?_⟩)
  · rw [jn_b_f (fun q => by have := q.1; omega)] at hk; exact hk
  · rw [hB.2.2.1 p (by omega), jr_wr (show jr (B p) by omega)]
    unfold kt_di at hk
    refine jn_ite (fun h => ?_) (fun h => ⟨by omega, jn_ite (fun h => ?_) (fun h => ?_)⟩)
    · rw [jn_b_f (fun q => by have := of_decide_eq_true q.2; omega)] at hk; exact hk
    · rw [jn_b_f (fun q => by have := of_decide_eq_true q.2; omega)] at hk; exact hk
    · rw [jn_b_t ⟨by omega, decide_eq_true (by omega)⟩] at hk; exact hk
/-- one word of the language -/
theorem kt_word {W : Nat → Int} (hw : ∀ i : Nat, i ≤ m → σ.1 (92 + 2) ((F : Int) + i) = W i) (hwr : ∀ i : Nat, i < m → W i ≠ 32 ∧ 0 ≤ W i ∧ W i ≤ 255) (h32 : W m = 32) (hF : F + m < 21) (hab : a ≤ b ∧ b ≤ 700) (hB : ∀ i : Nat, a ≤ i → i < b → σ.1 (92 + 1) (i : Int) = B i ∧ 0 ≤ B i ∧ B i ≤ 255) (u5 u6 u7 : Value)
    (k1 : (b - a = m ∧ ∀ i : Nat, i < m → B (a + i) = W i) → KI (k : Int) σ)
    (k0 : ¬ (b - a = m ∧ ∀ i : Nat, i < m → B (a + i) = W i) → ∀ u5 u6 u7, jg_GI w 0 mm_X12_wordAt 5 [.ref 92, .int (.ofInt (a : Int)), .int (.ofInt (b : Int)), .int (.ofInt ((k : Int) + 1)), .int (.ofInt ((F + m + 1 : Nat) : Int)), u5, u6, u7] σ KI) :
    jg_GI w 0 mm_X12_wordAt 5 [.ref 92, .int (.ofInt (a : Int)), .int (.ofInt (b : Int)), .int (.ofInt (k : Int)), .int (.ofInt (F : Int)), u5, u6, u7] σ KI := by
  have hcmp : ∀ (mm i : Nat) (x6 : Int), i + mm = m → (x6 = 0 ∧ ¬ (b - a = m ∧ ∀ i : Nat, i < m → B (a + i) = W i)) ∨ (x6 = 1 ∧ b - a = m ∧ ∀ j : Nat, j < i → B (a + j) = W j) → jg_GI w 0 mm_X12_wordAt 57 [.ref 92, .int (.ofInt (a : Int)), .int (.ofInt (b : Int)), .int (.ofInt (k : Int)), .int (.ofInt (F : Int)), .int (.ofInt (m : Int)), .int (.ofInt x6), .int (.ofInt (i : Int))] σ KI := by
    intro mm
    induction mm with
    | zero =>
      intro i x6 hi hx
      refine jb_X12_wordAt_57 rfl ?_
      rw [jr_wr (show jr (m : Int) by omega), jr_wr (show jr (i : Int) by omega)]
      refine jn_ite (fun _ => ?_) (fun h => by omega)
      rcases hx with ⟨rfl, hx⟩ | ⟨rfl, hx1, hx2⟩
      · refine jn_ite (fun _ => ?_) (fun h => absurd rfl h)
        rintro _ rfl
        rw [show (F : Int) + ((m : Int) + 1) = ((F + m + 1 : Nat) : Int) by omega]
        exact k0 hx _ _ _
      · exact jn_ite (fun h => absurd h (by decide)) (fun _ => k1 ⟨hx1, fun j hj => hx2 j (by omega)⟩)
    | succ mm ih =>
      intro i x6 hi hx
      refine jb_X12_wordAt_57 rfl ?_
      rw [jr_wr (show jr (m : Int) by omega), jr_wr (show jr (i : Int) by omega)]
      refine jn_ite (fun h => by omega) (fun _ => ?_)
      rcases hx with ⟨rfl, hx⟩ | ⟨rfl, hx1, hx2⟩
      · refine jn_ite (fun _ => jn_ite (fun _ => ?_) (fun h => absurd rfl h)) (fun h => absurd rfl h)
        rintro _ rfl
        rw [show (F : Int) + ((m : Int) + 1) = ((F + m + 1 : Nat) : Int) by omega]
        exact k0 hx _ _ _
      · have hwi := hw i (by omega)
        have hwri := hwr i (by omega)
        have hbi := hB (a + i) (by omega) (by omega)
        refine jn_ite (fun h => absurd h (by decide)) (fun _ => ⟨by rw [jr_wr (show jr ((F : Int) + (i : Int)) by omega)]; omega, by rw [jr_wr (show jr ((a : Int) + (i : Int)) by omega)]; omega, ?_⟩)
        rw [jr_wr (show jr ((F : Int) + (i : Int)) by omega), jr_wr (show jr ((a : Int) + (i : Int)) by omega), hwi, show (a : Int) + (i : Int) = ((a + i : Nat) : Int) by omega, hbi.1, jr_wr (show jr (W i) by omega), jr_wr (show jr (B (a + i)) by omega)]
        refine jn_ite (fun he => ?_) (fun he => ?_)
        · have := ih (i + 1) 1 (by omega) (Or.inr ⟨rfl, hx1, fun j hj => by
            by_cases hji : j = i
            · subst hji; exact he.symm
            · exact hx2 j (by omega)⟩)
          rw [show ((i + 1 : Nat) : Int) = (i : Int) + 1 by omega] at this
          exact this
        · have := ih (i + 1) 0 (by omega) (Or.inl ⟨rfl, fun q => he (q.2 i (by omega)).symm⟩)
          rw [show ((i + 1 : Nat) : Int) = (i : Int) + 1 by omega] at this
          exact this
  have hcount : ∀ (mm i : Nat) (u6 u7 : Value), i + mm = m → jg_GI w 0 mm_X12_wordAt 18 [.ref 92, .int (.ofInt (a : Int)), .int (.ofInt (b : Int)), .int (.ofInt (k : Int)), .int (.ofInt (F : Int)), .int (.ofInt (i : Int)), u6, u7] σ KI := by
    intro mm
    induction mm with
    | zero =>
      intro i u6 u7 hi
      have hi' : i = m := by omega
      subst hi'
      refine jb_X12_wordAt_18 rfl ?_
      rw [jr_wr (show jr ((F : Int) + (i : Int)) by omega), hw i (Nat.le_refl _), h32, jr_wr (show jr (i : Int) by omega), jr_wr (show jr ((b : Int) - (a : Int)) by omega)]
      refine ⟨by omega, jn_ite (fun _ => jn_ite (fun he => ?_) (fun he => ?_)) (fun h => absurd (by decide) h)⟩
      · exact hcmp i 0 1 (by omega) (Or.inr ⟨rfl, by omega, fun j hj => by omega⟩)
      · exact hcmp i 0 0 (by omega) (Or.inl ⟨rfl, fun q => he (by omega)⟩)
    | succ mm ih =>
      intro i u6 u7 hi
      have hwri := hwr i (by omega)
      refine jb_X12_wordAt_18 rfl ?_
      rw [jr_wr (show jr ((F : Int) + (i : Int)) by omega), hw i (by omega), jr_wr (show jr (W i) by omega)]
      refine ⟨by omega, jn_ite (fun h => absurd h hwri.1) (fun _ => ?_)⟩
      have := ih (i + 1) u6 u7 (by omega)
      rw [show ((i + 1 : Nat) : Int) = (i : Int) + 1 by omega] at this
      exact this
  refine jb_X12_wordAt_5 rfl ?_
  rw [jr_wr (show jr (F : Int) by omega)]
  exact jn_ite (fun h => by omega) (fun _ => hcount m 0 _ _ (by omega))
theorem kt_lk6 (hl : ∀ i, a ≤ i → i < b → 97 ≤ B i ∧ B i ≤ 122) : ∃ d0 d1 d2 d3 d4 d5 : Nat, kt_lk B a b 6 = ((((d0 * 32 + d1) * 32 + d2) * 32 + d3) * 32 + d4) * 32 + d5 ∧
    (if a + 0 < b then (d0 : Int) = B (a + 0) - 96 ∧ 1 ≤ d0 ∧ d0 ≤ 26 else d0 = 0) ∧ (if a + 1 < b then (d1 : Int) = B (a + 1) - 96 ∧ 1 ≤ d1 ∧ d1 ≤ 26 else d1 = 0) ∧ (if a + 2 < b then (d2 : Int) = B (a + 2) - 96 ∧ 1 ≤ d2 ∧ d2 ≤ 26 else d2 = 0) ∧ (if a + 3 < b then (d3 : Int) = B (a + 3) - 96 ∧ 1 ≤ d3 ∧ d3 ≤ 26 else d3 = 0) ∧ (if a + 4 < b then (d4 : Int) = B (a + 4) - 96 ∧ 1 ≤ d4 ∧ d4 ≤ 26 else d4 = 0) ∧ (if a + 5 < b then (d5 : Int) = B (a + 5) - 96 ∧ 1 ≤ d5 ∧ d5 ≤ 26 else d5 = 0) := by
  have hd : ∀ k : Nat, (if a + k < b then (((if a + k < b then (B (a + k) - 96).toNat else 0 : Nat)) : Int) = B (a + k) - 96 ∧ 1 ≤ (if a + k < b then (B (a + k) - 96).toNat else 0) ∧ (if a + k < b then (B (a + k) - 96).toNat else 0) ≤ 26 else (if a + k < b then (B (a + k) - 96).toNat else 0) = 0) := fun k => by
    by_cases h : a + k < b
    · have := hl (a + k) (by omega) h
      rw [if_pos h, if_pos h]
      omega
    · rw [if_neg h, if_neg h]
  refine ⟨_, _, _, _, _, _, ?_, hd 0, hd 1, hd 2, hd 3, hd 4, hd 5⟩
  show ((((((0 * 32 + _) * 32 + _) * 32 + _) * 32 + _) * 32 + _) * 32 + _) = _
  rw [Nat.zero_mul, Nat.zero_add]
end KTC
