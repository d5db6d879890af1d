/-! TEXT: the TOKENS of the text, one after another; the class' reader of them -/
def kt_bl (c : Int) : Bool := decide (c = 10 ∨ c = 32)
def kt_le (c : Int) : Bool := decide (97 ≤ c ∧ c ≤ 122)
def kt_di (c : Int) : Bool := decide (48 ≤ c ∧ c ≤ 57)
def kt_rf (P : Int → Bool) (B : Nat → Int) : Nat → Nat → Nat
  | 0, p => p
  | f + 1, p => if P (B p) = true then kt_rf P B f (p + 1) else p
/-- where a run from p on ends -/
def kt_ru (P : Int → Bool) (B : Nat → Int) (n p : Nat) : Nat := kt_rf P B (n - p) p
def kt_lk (B : Nat → Int) (a b : Nat) : Nat → Nat
  | 0 => 0
  | k + 1 => kt_lk B a b k * 32 + (if a + k < b then (B (a + k) - 96).toNat else 0)
def kt_nu (B : Nat → Int) (a : Nat) : Nat → Int
  | 0 => 0
  | k + 1 => if kt_nu B a k * 10 + B (a + k) - 48 < 1000 then kt_nu B a k * 10 + B (a + k) - 48 else 1000
/-- sort (0 a word, 1 a number, 2 the line's end, 3 the text's end, 4 another), start, stop, value -/
abbrev kt_T : Type := Int × Nat × Nat × Int
def kt_tk (B : Nat → Int) (n p : Nat) : kt_T :=
  if n ≤ kt_ru kt_bl B n p then (3, kt_ru kt_bl B n p, kt_ru kt_bl B n p, 0)
  else if kt_le (B (kt_ru kt_bl B n p)) = true then
    (if kt_ru kt_le B n (kt_ru kt_bl B n p) - kt_ru kt_bl B n p ≤ 6 then (0, kt_ru kt_bl B n p, kt_ru kt_le B n (kt_ru kt_bl B n p), (kt_lk B (kt_ru kt_bl B n p) (kt_ru kt_le B n (kt_ru kt_bl B n p)) 6 : Nat))
     else (4, kt_ru kt_bl B n p, kt_ru kt_le B n (kt_ru kt_bl B n p), 0))
  else if kt_di (B (kt_ru kt_bl B n p)) = true then (1, kt_ru kt_bl B n p, kt_ru kt_di B n (kt_ru kt_bl B n p), kt_nu B (kt_ru kt_bl B n p) (kt_ru kt_di B n (kt_ru kt_bl B n p) - kt_ru kt_bl B n p))
  else if B (kt_ru kt_bl B n p) = 59 then (2, kt_ru kt_bl B n p, kt_ru kt_bl B n p + 1, 0)
  else (4, kt_ru kt_bl B n p, kt_ru kt_bl B n p + 1, 0)
def kt_By (σ : jg_M) (a : Nat) (B : Nat → Int) (n : Nat) : Prop := σ.1 a 3 = (n : Nat) ∧ n ≤ 700 ∧ (∀ i : Nat, i < n → σ.1 (a + 1) (i : Int) = B i) ∧ ∀ i, 0 ≤ B i ∧ B i ≤ 255
def kt_Ca (σ : jg_M) (a : Nat) (t : kt_T) : Prop := σ.1 a 5 = t.1 ∧ σ.1 a 6 = (t.2.1 : Nat) ∧ σ.1 a 4 = (t.2.2.1 : Nat) ∧ (t.1 = 0 → σ.1 a 7 = t.2.2.2) ∧ (t.1 = 1 → σ.1 a 8 = t.2.2.2)
def kW_ad (a : Nat) (c : Nat) (i : Int) : Prop := c = a ∧ 4 ≤ i ∧ i ≤ 8
section KTA
variable {w : Nat} {σ τ : jg_M} {a n p q k : Nat} {B : Nat → Int} {P : Int → Bool} {KV : jg_M → Prop} {KI : Int → jg_M → Prop} {x : Int}
theorem kt_ru_end (h : n ≤ p) : kt_ru P B n p = p := by
  unfold kt_ru
  rw [show n - p = 0 by omega]
  rfl
theorem kt_ru_in (h : p < n) (hp : P (B p) = true) : kt_ru P B n p = kt_ru P B n (p + 1) := by
  unfold kt_ru
  rw [show n - p = (n - (p + 1)) + 1 by omega]
  show (if P (B p) = true then _ else _) = _
  rw [if_pos hp]
theorem kt_ru_out (h : p < n) (hp : ¬ P (B p) = true) : kt_ru P B n p = p := by
  unfold kt_ru
  rw [show n - p = (n - (p + 1)) + 1 by omega]
  show (if P (B p) = true then _ else _) = _
  rw [if_neg hp]
theorem kt_ru_le : ∀ {f p : Nat}, n - p = f → p ≤ kt_ru P B n p ∧ (p ≤ n → kt_ru P B n p ≤ n) ∧ (∀ i, p ≤ i → i < kt_ru P B n p → i < n ∧ P (B i) = true)
  | 0, p, h => by
    rw [kt_ru_end (by omega)]
    exact ⟨Nat.le_refl _, fun h => h, fun i h1 h2 => by omega⟩
  | f + 1, p, h => by
    by_cases hp : P (B p) = true
    · have ih := kt_ru_le (f := f) (p := p + 1) (by omega)
      rw [kt_ru_in (by omega) hp]
      refine ⟨by omega, fun _ => ih.2.1 (by omega), fun i h1 h2 => ?_⟩
      by_cases hi : i = p
      · subst hi; exact ⟨by omega, hp⟩
      · exact ih.2.2 i (by omega) h2
    · rw [kt_ru_out (by omega) hp]
      exact ⟨Nat.le_refl _, fun h => h, fun i h1 h2 => by omega⟩
theorem kt_or32 {x y m : Nat} (hy : y < 2 ^ m) : x * 2 ^ m ||| y = x * 2 ^ m + y := by
  have := Nat.shiftLeft_add_eq_or_of_lt hy x
  rw [Nat.shiftLeft_eq] at this
  exact this.symm
theorem kt_lk_lt (hB : ∀ i, a ≤ i → i < q → 97 ≤ B i ∧ B i ≤ 122) : ∀ {k : Nat}, kt_lk B a q k < 32 ^ k
  | 0 => by show 0 < 1; decide
  | k + 1 => by
    have ih := kt_lk_lt hB (k := k)
    unfold kt_lk
    rw [Nat.pow_succ]
    by_cases h : a + k < q
    · have := hB (a + k) (by omega) h
      rw [if_pos h]; omega
    · rw [if_neg h]; omega
theorem kt_nu_rng (hB : ∀ i, a ≤ i → i < q → 48 ≤ B i ∧ B i ≤ 57) : ∀ {k : Nat}, a + k ≤ q → 0 ≤ kt_nu B a k ∧ kt_nu B a k ≤ 1000
  | 0, _ => ⟨Int.le_refl 0, by show (0 : Int) ≤ 1000; decide⟩
  | k + 1, h => by
    have ih := kt_nu_rng hB (k := k) (by omega)
    have := hB (a + k) (by omega) (by omega)
    unfold kt_nu
    split <;> omega
theorem jc_signAt (h0 : jg_sh a = (9, 0)) (hB : kt_By σ a B n) (hp : p ≤ 100000) (hk : KI (if p < n then B p else -1) σ) : jg_CI w 0 mm_X9_signAt [.ref a, .int (.ofInt (p : Int))] σ KI := by
  have h7 := hB.2.1
  refine jb_X9_signAt_0 h0 ?_
  rw [hB.1, jr_wr (show jr (p : Int) by omega), jr_wr (show jr (n : Int) by omega)]
  refine jn_ite (fun h => by omega) (fun _ => jn_ite (fun h => ?_) (fun h => jn_ite (fun h => by omega) (fun _ => ⟨by omega, ?_⟩)))
  · rw [if_neg (by omega)] at hk; exact hk
  · rw [if_pos (by omega)] at hk
    rw [hB.2.2.1 p (by omega)]
    exact hk
theorem jc_isBlank (hx : jr x) (hk : KI (jn_b (kt_bl x = true)) σ) : jg_CI w 0 mm_X9_isBlank [.int (.ofInt x)] σ KI := by
  refine jb_X9_isBlank_0 ?_
  unfold kt_bl at hk
  rw [jr_wr hx]
  repeat' refine jn_ite (fun hc => ?_) (fun hc => ?_)
  · rw [jn_b_t (decide_eq_true (Or.inl hc))] at hk; exact hk
  · rw [jn_b_t (decide_eq_true (Or.inr hc))] at hk; exact hk
  · rw [jn_b_f (fun q => by have := of_decide_eq_true q; omega)] at hk; exact hk
theorem jc_isLetter (hx : jr x) (hk : KI (jn_b (kt_le x = true)) σ) : jg_CI w 0 mm_X9_isLetter [.int (.ofInt x)] σ KI := by
  refine jb_X9_isLetter_0 ?_
  unfold kt_le at hk
  rw [jr_wr hx]
  repeat' refine jn_ite (fun hc => ?_) (fun hc => ?_)
  · rw [jn_b_f (fun q => by have := of_decide_eq_true q; omega)] at hk; exact hk
  · rw [jn_b_f (fun q => by have := of_decide_eq_true q; omega)] at hk; exact hk
  · rw [jn_b_t (decide_eq_true (by omega))] at hk; exact hk
theorem jc_isDigit (hx : jr x) (hk : KI (jn_b (kt_di x = true)) σ) : jg_CI w 0 mm_X9_isDigit [.int (.ofInt x)] σ KI := by
  refine jb_X9_isDigit_0 ?_
  unfold kt_di at hk
  rw [jr_wr hx]
  repeat' refine jn_ite (fun hc => ?_) (fun hc => ?_)
  · rw [jn_b_f (fun q => by have := of_decide_eq_true q; omega)] at hk; exact hk
  · rw [jn_b_f (fun q => by have := of_decide_eq_true q; omega)] at hk; exact hk
  · rw [jn_b_t (decide_eq_true (by omega))] at hk; exact hk
theorem kt_By_fr {W : Nat → Int → Prop} (h : kt_By σ a B n) (hf : jF W σ τ) (h1 : ¬ W a 3) (h2 : ∀ i, ¬ W (a + 1) i) : kt_By τ a B n := ⟨(hf.1 _ _ h1).trans h.1, h.2.1, fun i hi => (hf.1 _ _ (h2 _)).trans (h.2.2.1 i hi), h.2.2.2⟩
theorem jc_passNumber (h0 : jg_sh a = (9, 0)) (hB : kt_By σ a B n) (hp : p < n) (h4 : σ.1 a 4 = (p : Nat)) (hk : ∀ τ, jF (kW_ad a) σ τ → τ.1 a 5 = 1 → τ.1 a 6 = σ.1 a 6 → τ.1 a 4 = (kt_ru kt_di B n p : Nat) → τ.1 a 8 = kt_nu B p (kt_ru kt_di B n p - p) → KV τ) : jg_CV w 1 mm_X9_passNumber [.ref a] σ KV := by
  have h7 := hB.2.1
  have hrun := kt_ru_le (n := n) (P := kt_di) (B := B) (f := n - p) (p := p) rfl
  have hdig : ∀ i, p ≤ i → i < kt_ru kt_di B n p → 48 ≤ B i ∧ B i ≤ 57 := fun i i1 i2 => of_decide_eq_true (hrun.2.2 i i1 i2).2
  have hloop : ∀ (m q : Nat) (τ : jg_M), q + m = kt_ru kt_di B n p → p ≤ q → kt_ru kt_di B n q = kt_ru kt_di B n p → jF (kW_ad a) σ τ → τ.1 a 6 = σ.1 a 6 → τ.1 a 4 = (q : Nat) → τ.1 a 8 = kt_nu B p (q - p) → jg_GV w 1 mm_X9_passNumber 5 [.ref a] τ KV := by
    intro m
    induction m with
    | zero =>
      intro q τ hq hpq hru hf h6 h4 h8
      have hBτ := kt_By_fr hB hf (fun q => by unfold kW_ad at q; omega) (fun i q => by unfold kW_ad at q; omega)
      refine jb_X9_passNumber_5 h0 ?_
      rw [hBτ.1, h4, jr_wr (show jr (n : Int) by omega), jr_wr (show jr (q : Int) by omega)]
      have hfin : ∀ τ', τ' = jg_sI τ a 5 1 → KV τ' := by
        rintro _ rfl
        refine hk _ (jF_toI hf ⟨rfl, by omega, by omega⟩) js_Is (by rw [js_In (Or.inr (by omega))]; exact h6) ?_ ?_
        · rw [js_In (Or.inr (by omega)), h4, ← hq]; rfl
        · rw [js_In (Or.inr (by omega)), h8, show kt_ru kt_di B n p - p = q - p by omega]
      refine jn_ite (fun _ => hfin) (fun hlt => jc_signAt h0 hBτ (by omega) ?_)
      rw [if_pos (show q < n by omega)]
      have hb := hB.2.2.2 q
      refine jc_isDigit (by omega) (jn_if (fun _ => hfin) (fun hd => ?_))
      have h1 := kt_ru_in (n := n) (P := kt_di) (B := B) (show q < n by omega) hd
      have h2 := (kt_ru_le (n := n) (P := kt_di) (B := B) (f := n - (q + 1)) (p := q + 1) rfl).1
      omega
    | succ m ih =>
      intro q τ hq hpq hru hf h6 h4 h8
      have hBτ := kt_By_fr hB hf (fun q => by unfold kW_ad at q; omega) (fun i q => by unfold kW_ad at q; omega)
      have hqn := hrun.2.2 q hpq (by omega)
      have hd := hdig q hpq (by omega)
      have hnr := kt_nu_rng (B := B) hdig (k := q - p) (by omega)
      refine jb_X9_passNumber_5 h0 ?_
      rw [hBτ.1, h4, jr_wr (show jr (n : Int) by omega), jr_wr (show jr (q : Int) by omega)]
      refine jn_ite (fun h => by omega) (fun _ => jc_signAt h0 hBτ (by omega) ?_)
      rw [if_pos hqn.1]
      refine jc_isDigit (by omega) (jn_if (fun h => absurd hqn.2 h) (fun _ => ?_))
      rw [h4]
      refine jc_signAt h0 hBτ (by omega) ?_
      rw [if_pos hqn.1, h8, jr_wr (show jr (kt_nu B p (q - p) * 10 + B q - 48) by omega)]
      intro τ1 h1
      rintro _ rfl
      have e : kt_nu B p (q + 1 - p) = if kt_nu B p (q - p) * 10 + B q - 48 < 1000 then kt_nu B p (q - p) * 10 + B q - 48 else 1000 := by
        rw [show q + 1 - p = (q - p) + 1 by omega]
        show (if kt_nu B p (q - p) * 10 + B (p + (q - p)) - 48 < 1000 then _ else _) = _
        rw [show p + (q - p) = q by omega]
      refine ih (q + 1) _ (by omega) (by omega) (by rw [← kt_ru_in hqn.1 hqn.2]; exact hru) (jF_toI (by rw [h1]; exact jF_toI hf ⟨rfl, by omega, by omega⟩) ⟨rfl, by omega, by omega⟩) ?_ ?_ ?_
      · rw [js_In (Or.inr (by omega)), h1, js_In (Or.inr (by omega))]; exact h6
      · rw [js_Is, h1, js_In (Or.inr (by omega)), h4]; omega
      · rw [js_In (Or.inr (by omega)), h1, js_Is, e]
  refine jb_X9_passNumber_0 h0 ?_
  rintro _ rfl
  refine hloop (kt_ru kt_di B n p - p) p _ (by omega) (Nat.le_refl p) rfl (jF_I ⟨rfl, by omega, by omega⟩) (js_In (Or.inr (by omega))) (by rw [js_In (Or.inr (by omega))]; exact h4) ?_
  rw [js_Is, Nat.sub_self]
  rfl
end KTA
