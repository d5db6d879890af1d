/-! SETS OF BITS; what is EMPTY, FIRST: the least closed ones, on both sides -/
def jn_sub (a b : Nat) : Prop := ∀ i, a.testBit i = true → b.testBit i = true
section JNS
variable {a b c : Nat}
theorem jn_sub_rf : jn_sub a a := fun _ h => h
theorem jn_sub_tr (h1 : jn_sub a b) (h2 : jn_sub b c) : jn_sub a c := fun i h => h2 i (h1 i h)
theorem jn_sub_or (h1 : jn_sub a c) (h2 : jn_sub b c) : jn_sub (a ||| b) c := fun i h => by
  rw [Nat.testBit_or, Bool.or_eq_true] at h
  exact h.elim (h1 i) (h2 i)
theorem jn_sub_l : jn_sub a (a ||| b) := fun i h => by rw [Nat.testBit_or, h]; rfl
theorem jn_sub_r : jn_sub b (a ||| b) := fun i h => by rw [Nat.testBit_or, h, Bool.or_true]
theorem jn_sub_eq (h : jn_sub b a) : a ||| b = a := by
  apply Nat.eq_of_testBit_eq
  intro i
  rw [Nat.testBit_or]
  cases hb : b.testBit i with
  | false => rw [Bool.or_false]
  | true => rw [h i hb]; rfl
theorem jn_eq_sub (h : a ||| b = a) : jn_sub b a := by rw [← h]; exact jn_sub_r
theorem jn_sub_le (h : jn_sub a b) : a ≤ b := by
  have h1 := jn_sub_eq h
  have h2 : a ≤ b ||| a := Nat.right_le_or
  omega
theorem jn_sub_0 : jn_sub 0 a := fun i h => by rw [Nat.zero_testBit] at h; cases h
theorem jn_or_gt (h : ¬ jn_sub b a) : a < a ||| b := by
  have h1 : a ≤ a ||| b := Nat.left_le_or
  rcases Nat.lt_or_eq_of_le h1 with h2 | h2
  · exact h2
  · exact absurd (jn_eq_sub h2.symm) h
theorem jn_sub_anti (h1 : jn_sub a b) (h2 : jn_sub b a) : a = b := Nat.le_antisymm (jn_sub_le h1) (jn_sub_le h2)
theorem jn_sub_pow : jn_sub (2 ^ a) b ↔ b.testBit a = true := by
  refine ⟨fun h => h a (by rw [Nat.testBit_two_pow_self]), fun h i hi => ?_⟩
  rw [Nat.testBit_two_pow] at hi
  rw [← of_decide_eq_true hi]
  exact h
theorem jn_or_bit {k : Nat} : (a ||| 2 ^ k).testBit k = true := by rw [Nat.testBit_or, Nat.testBit_two_pow_self, Bool.or_true]
end JNS
/-- nothing but the places of W was written -/
def jF (W : Nat → Int → Prop) (σ τ : jg_M) : Prop := (∀ a i, ¬ W a i → τ.1 a i = σ.1 a i) ∧ ∀ a i, ¬ W a i → τ.2 a i = σ.2 a i
section JFF
variable {W W' : Nat → Int → Prop} {σ τ υ : jg_M} {a G : Nat} {i v b : Int} {g : gM}
theorem jF_rf : jF W σ σ := ⟨fun _ _ _ => rfl, fun _ _ _ => rfl⟩
theorem jF_tr (h1 : jF W σ τ) (h2 : jF W τ υ) : jF W σ υ := ⟨fun a i h => (h2.1 a i h).trans (h1.1 a i h), fun a i h => (h2.2 a i h).trans (h1.2 a i h)⟩
theorem jF_mono (h : jF W σ τ) (hs : ∀ a i, W a i → W' a i) : jF W' σ τ := ⟨fun a i ha => h.1 a i (fun q => ha (hs a i q)), fun a i ha => h.2 a i (fun q => ha (hs a i q))⟩
theorem jF_I (h : W a i) : jF W σ (jg_sI σ a i v) := ⟨fun c k hc => js_In (Classical.byContradiction fun q => hc (by
  have h1 : c = a := Classical.byContradiction fun h => q (Or.inl h)
  have h2 : k = i := Classical.byContradiction fun h => q (Or.inr h)
  rw [h1, h2]; exact h)), fun _ _ _ => rfl⟩
theorem jF_L (h : W a i) : jF W σ (jg_sL σ a i v) := ⟨fun _ _ _ => rfl, fun c k hc => js_Ln (Classical.byContradiction fun q => hc (by
  have h1 : c = a := Classical.byContradiction fun h => q (Or.inl h)
  have h2 : k = i := Classical.byContradiction fun h => q (Or.inr h)
  rw [h1, h2]; exact h))⟩
theorem jF_toI (h : jF W σ τ) (hw : W a i) : jF W σ (jg_sI τ a i v) := jF_tr h (jF_I hw)
theorem jF_toL (h : jF W σ τ) (hw : W a i) : jF W σ (jg_sL τ a i v) := jF_tr h (jF_L hw)
theorem jn_Gr_fr (hG : jn_Gr σ G g) (hF : jF W σ τ) (h1 : ∀ i : Int, i ≤ 4 → ¬ W G i) (h2 : ∀ (k : Nat) (i : Int), 2 ≤ k → k ≤ 6 → ¬ W (G + k) i) : jn_Gr τ G g := by
  obtain ⟨⟨a0, a1, a2, a3, a4⟩, h3, h4⟩ := hG
  have f := hF.1
  refine ⟨⟨(f _ _ (h1 0 (by decide))).trans a0, (f _ _ (h1 1 (by decide))).trans a1, (f _ _ (h1 2 (by decide))).trans a2, (f _ _ (h1 3 (by decide))).trans a3, (f _ _ (h1 4 (by decide))).trans a4⟩, fun r hr1 hr2 => ?_, fun t ht1 ht2 => ?_⟩
  · obtain ⟨q1, q2, q3⟩ := h3 r hr1 hr2
    exact ⟨(f _ _ (h2 4 _ (by decide) (by decide))).trans q1, (f _ _ (h2 5 _ (by decide) (by decide))).trans q2, fun d hd1 hd2 => (f _ _ (h2 6 _ (by decide) (by decide))).trans (q3 d hd1 hd2)⟩
  · obtain ⟨q1, q2⟩ := h4 t ht1 ht2
    exact ⟨(f _ _ (h2 2 _ (by decide) (by decide))).trans q1, (f _ _ (h2 3 _ (by decide) (by decide))).trans q2⟩
end JFF
/-- closed -/
def jn_cE (g : gM) (e : Nat) : Prop := ∀ r, 0 ≤ r → r < g 0 2 → r ≠ g 0 4 → jn_EF g e r 0 → e.testBit (g 3 r).toNat = true
def jn_cF (g : gM) (e : Nat) (f : Int → Nat) : Prop := ∀ r, 0 ≤ r → r < g 0 2 → r ≠ g 0 4 → jn_sub (jn_F g e f r 0) (f (g 3 r))
/-- least closed -/
def jn_lEF (g : gM) (e : Nat) (f : Int → Nat) : Prop := (jn_cE g e ∧ jn_cF g e f ∧ e < 32 ∧ (∀ x, 0 ≤ x → x < 5 → f x < 256) ∧ ∀ x, g 0 1 ≤ x → x < 5 → f x = 0) ∧ ∀ e' f', jn_cE g e' → jn_cF g e' f' → jn_sub e e' ∧ ∀ x, 0 ≤ x → x < g 0 1 → jn_sub (f x) (f' x)
section JLF
variable {w : Nat} {σ : jg_M} {G : Nat} {g : gM} {x r k b c : Int} {e e' : Nat} {f f' : Int → Nat} {K : jg_M → Prop} {KI : Int → jg_M → Prop}
theorem jn_EF_mono (h : jn_sub e e') (hE : jn_EF g e r k) : jn_EF g e' r k := fun d h1 h2 => ⟨(hE d h1 h2).1, (hE d h1 h2).2.1, h _ (hE d h1 h2).2.2⟩
theorem jn_F_mono (hW : jn_GW g) (h : jn_sub e e') (hf : ∀ x, 0 ≤ x → x < g 0 1 → jn_sub (f x) (f' x)) (hr : 0 ≤ r ∧ r < g 0 2) : ∀ (n : Nat) (k : Int), 0 ≤ k → (jn_len g r - k).toNat = n → jn_sub (jn_F g e f r k) (jn_F g e' f' r k) := by
  intro n
  induction n with
  | zero =>
    intro k h1 h2
    rw [jn_F_end (by omega)]
    exact jn_sub_0
  | succ n ih =>
    intro k h1 h2
    have hk : k < jn_len g r := by omega
    have hs := jn_sym_rng (r := r) (k := k) hW ⟨h1, hk⟩
    have hw := hW.1
    by_cases hs2 : jn_sym g r k < 10
    · rw [jn_F_tok hk hs2, jn_F_tok hk hs2]
      exact jn_sub_rf
    · have hfx := hf (jn_sym g r k - 10) (by omega) (by omega)
      by_cases hE : jn_E e (jn_sym g r k - 10)
      · rw [jn_F_emp hk hs2 hE, jn_F_emp hk hs2 ⟨hE.1, hE.2.1, h _ hE.2.2⟩]
        exact jn_sub_or (jn_sub_tr hfx jn_sub_l) (jn_sub_tr (ih (k + 1) (by omega) (by omega)) jn_sub_r)
      · rw [jn_F_non hk hs2 hE]
        by_cases hE2 : jn_E e' (jn_sym g r k - 10)
        · rw [jn_F_emp hk hs2 hE2]
          exact jn_sub_tr hfx jn_sub_l
        · rw [jn_F_non hk hs2 hE2]
          exact hfx
theorem jn_lEF_uniq (hW : jn_GW g) (h1 : jn_lEF g e f) (h2 : jn_lEF g e' f') : e = e' ∧ ∀ x, 0 ≤ x → x < 5 → f x = f' x := by
  have q1 := h1.2 e' f' h2.1.1 h2.1.2.1
  have q2 := h2.2 e f h1.1.1 h1.1.2.1
  refine ⟨jn_sub_anti q1.1 q2.1, fun x h3 h4 => ?_⟩
  by_cases h5 : x < g 0 1
  · exact jn_sub_anti (q1.2 x h3 h5) (q2.2 x h3 h5)
  · rw [h1.1.2.2.2.2 x (by omega) h4, h2.1.2.2.2.2 x (by omega) h4]
/-- Arrays.fill -/
theorem jc_fill {A n : Nat} {v : Int} (hs : jg_sh A = (20, n)) (hn : n ≤ 100000) (hk : ∀ τ, jF (fun a _ => a = A) σ τ → (∀ i : Int, 0 ≤ i → i < n → τ.1 A i = v) → K τ) : jg_CV w 0 mm_J7_fill_53178 [.ref A, .int (.ofInt v)] σ K := by
  refine jb_J7_fill_53178_0 hs ?_
  have hloop : ∀ (m : Nat) (j : Int) (τ : jg_M), 0 ≤ j → j ≤ n → (n - j).toNat = m → jF (fun a _ => a = A) σ τ → (∀ i, 0 ≤ i → i < j → τ.1 A i = v) → jg_GV w 0 mm_J7_fill_53178 5 [.ref A, .int (.ofInt v), .int (.ofInt j), .int (.ofInt n)] τ K := by
    intro m
    induction m with
    | zero =>
      intro j τ h1 h2 h3 h4 h5
      refine jb_J7_fill_53178_5 hs ?_
      rw [jr_wr (by omega), jr_wr (by omega)]
      exact jn_ite (fun _ => hk τ h4 (fun i i1 i2 => h5 i i1 (by omega))) (fun hc => by omega)
    | succ m ih =>
      intro j τ h1 h2 h3 h4 h5
      refine jb_J7_fill_53178_5 hs ?_
      rw [jr_wr (by omega), jr_wr (by omega)]
      refine jn_ite (fun hc => by omega) (fun hc => ⟨by omega, ?_⟩)
      rintro _ rfl
      refine ih (j + 1) _ (by omega) (by omega) (by omega) (jF_toI h4 rfl) (fun i i1 i2 => ?_)
      rw [js_I]
      split
      · rfl
      · exact h5 i i1 (by omega)
  intro t ht
  rw [ht]
  exact hloop _ 0 σ (by omega) (by omega) rfl jF_rf (fun i h1 h2 => by omega)
/-- a set that grows, in the class -/
theorem jc_X0_widen {A n s t : Nat} (h0 : jg_sh G = (0, 0)) (hs : jg_sh A = (20, n)) (hn : 5 ≤ n ∧ n ≤ 100000) (hG : jn_Gr σ G g) (hW : jn_GW g) (hx : jr x) (hv : 0 ≤ x → x < g 0 1 → σ.1 A x = (s : Int)) (hs2 : 0 ≤ x → x < g 0 1 → s < 256) (ht : t < 256) (k0 : ¬ (0 ≤ x ∧ x < g 0 1) ∨ jn_sub t s → KI 0 σ) (k1 : 0 ≤ x ∧ x < g 0 1 → ¬ jn_sub t s → KI 1 (jg_sI σ A x ((s ||| t : Nat) : Int))) : jg_CI w 1 mm_X0_widen [.ref G, .ref A, .int (.ofInt x), .int (.ofInt (t : Int))] σ KI := by
  refine jb_X0_widen_0 h0 hs ?_
  have hw := hW.1
  refine jc_X0_hasKind h0 hG hW hx (jn_if (fun hp => k0 (Or.inl hp)) (fun hp => ?_))
  have hs2 := hs2 hp.1 hp.2
  have ho : s ||| t < 256 := Nat.or_lt_two_pow (n := 8) hs2 ht
  rw [jr_wr (show jr (n : Int) by omega), jr_wr hx, hv hp.1 hp.2, jb_or (by omega) (by omega), jr_wr (by omega), jr_wr (by omega)]
  refine jn_ite (fun hc => by omega) (fun hc => ⟨by omega, by omega, jn_ite (fun hc2 => ?_) (fun hc2 => ⟨by omega, by omega, ?_⟩)⟩)
  · exact k0 (Or.inr (jn_eq_sub (by omega)))
  · rintro _ rfl
    exact k1 hp (fun q => hc2 (by rw [jn_sub_eq q]))
theorem jc_X0_settleEmpties (h0 : jg_sh G = (0, 0)) (hG : jn_Gr σ G g) (hW : jn_GW g) (hk : ∀ τ e, jF (fun a i => a = G ∧ i = 11) σ τ → τ.1 G 11 = ((e : Nat) : Int) → e < 32 → jn_cE g e → (∀ e', jn_cE g e' → jn_sub e e') → K τ) : jg_CV w 3 mm_X0_settleEmpties [.ref G] σ K := by
  refine jb_X0_settleEmpties_0 h0 ?_
  have hw := hW.1
  have hGt : ∀ τ, jF (fun a i => a = G ∧ i = 11) σ τ → jn_Gr τ G g := fun τ h => jn_Gr_fr hG h (by omega) (by omega)
  have hin : ∀ (P : jg_M → Prop) (m : Nat) (r : Int) (u : Value) (n x3 : Int) (e0 e : Nat) (τ : jg_M), (∀ τ e, jF (fun a i => a = G ∧ i = 11) σ τ → τ.1 G 11 = ((e : Nat) : Int) → e < 32 → e0 ≤ e → (e = e0 → jn_cE g e) → (∀ e', jn_cE g e' → jn_sub e e') → jg_GV w 3 mm_X0_settleEmpties 9 [.ref G, .int (.ofInt (if e = e0 then 0 else 1)), .int (.ofInt (n + 1)), .int (.ofInt (e0 : Int)), .int (.ofInt (g 0 2))] τ P) → 0 ≤ r → r ≤ g 0 2 → (g 0 2 - r).toNat = m → e0 ≤ e → e < 32 → jF (fun a i => a = G ∧ i = 11) σ τ → τ.1 G 11 = (e : Int) → (∀ e', jn_cE g e' → jn_sub e e') → (e = e0 → ∀ r', 0 ≤ r' → r' < r → r' ≠ g 0 4 → jn_EF g e r' 0 → e.testBit (g 3 r').toNat = true) → jg_GV w 3 mm_X0_settleEmpties 27 [.ref G, u, .int (.ofInt n), .int (.ofInt (e0 : Int)), .int (.ofInt r)] τ P := by
    intro P m
    induction m with
    | zero =>
      intro r u n x3 e0 e τ hP h1 h2 h3 h4 h5 h6 h7 h8 h9
      refine jb_X0_settleEmpties_27 h0 ?_
      have hr : r = g 0 2 := by omega
      rw [(hGt τ h6).1.2.2.1, h7, jr_wr (by omega), jr_wr (by omega), jr_wr (by omega), jr_wr (by omega)]
      have := hP τ e h6 h7 h5 h4 (fun q r' r1 r2 => h9 q r' r1 (by omega)) h8
      refine jn_ite (fun hc => jn_ite (fun hc2 => ?_) (fun hc2 => ?_)) (fun hc => by omega)
      · rw [if_pos (by omega)] at this; rw [hr]; exact this
      · rw [if_neg (by omega)] at this; rw [hr]; exact this
    | succ m ih =>
      intro r u n x3 e0 e τ hP h1 h2 h3 h4 h5 h6 h7 h8 h9
      refine jb_X0_settleEmpties_27 h0 ?_
      rw [(hGt τ h6).1.2.2.1, jr_wr (by omega), jr_wr (by omega)]
      have hGτ := hGt τ h6
      have hrk := (hW.2.1 r (by omega) (by omega)).1
      refine jn_ite (fun hc => by omega) (fun hc => jc_X0_uses h0 hGτ hW (by omega) (jn_if (fun hp => ?_) (fun hp => ?_)))
      · refine ih (r + 1) u n x3 e0 e τ hP (by omega) (by omega) (by omega) h4 h5 h6 h7 h8 (fun q r' r1 r2 r3 => h9 q r' r1 (by omega) r3)
      · refine jc_X0_isEmptyFrom h0 hGτ hW h7 h5 (by omega) (by omega) (jn_if (fun hp2 => ?_) (fun hp2 => ?_))
        · refine ih (r + 1) u n x3 e0 e τ hP (by omega) (by omega) (by omega) h4 h5 h6 h7 h8 (fun q r' r1 r2 r3 r4 => ?_)
          by_cases hr : r' = r
          · rw [hr] at r4; exact absurd r4 hp2
          · exact h9 q r' r1 (by omega) r3 r4
        · refine jc_X0_kindOf h0 hGτ hW (by omega) ?_
          rw [if_pos (by omega)]
          rintro _ rfl
          have hb := jb_shl (m := 1) (k := (g 3 r).toNat) (by omega) (by have : 2 ^ (g 3 r).toNat < 2 ^ 5 := Nat.pow_lt_pow_right (by omega) (by omega); omega)
          rw [show (((g 3 r).toNat : Nat) : Int) = g 3 r by omega, Nat.one_mul, show ((1 : Nat) : Int) = 1 from rfl] at hb
          have hp5 : 2 ^ (g 3 r).toNat < 32 := by
            have : 2 ^ (g 3 r).toNat < 2 ^ 5 := Nat.pow_lt_pow_right (by omega) (by omega)
            omega
          rw [h7, hb, jb_or (by omega) (by omega)]
          have hle : e ≤ e ||| 2 ^ (g 3 r).toNat := Nat.left_le_or
          refine ih (r + 1) u n x3 e0 (e ||| 2 ^ (g 3 r).toNat) _ hP (by omega) (by omega) (by omega) (by omega) (Nat.or_lt_two_pow (n := 5) h5 hp5) (jF_toI h6 ⟨rfl, rfl⟩) js_Is (fun e' he' => jn_sub_or (h8 e' he') (jn_sub_pow.mpr (he' r (by omega) (by omega) (by omega) (jn_EF_mono (h8 e' he') hp2)))) (fun q r' r1 r2 r3 r4 => ?_)
          have heq : e ||| 2 ^ (g 3 r).toNat = e := by omega
          rw [heq] at r4 ⊢
          by_cases hr : r' = r
          · rw [hr, ← heq]; exact jn_or_bit
          · exact h9 (by omega) r' r1 (by omega) r3 r4
  have hout : ∀ (m : Nat) (n : Int) (u v : Value) (e : Nat) (τ : jg_M), 31 - e = m → 0 ≤ n → n ≤ e → e < 32 → jF (fun a i => a = G ∧ i = 11) σ τ → τ.1 G 11 = (e : Int) → (∀ e', jn_cE g e' → jn_sub e e') → jg_GV w 3 mm_X0_settleEmpties 9 [.ref G, .int (.ofInt 1), .int (.ofInt n), u, v] τ K := by
    intro m
    induction m using Nat.strongRecOn with
    | ind m ih =>
      intro n u v e τ h1 h2 h3 h4 h5 h6 h7
      refine jb_X0_settleEmpties_9 h0 ?_
      rw [show jg_wr 1 = 1 from rfl, jr_wr (by omega)]
      refine jn_ite (fun hc => by omega) (fun hc => jn_ite (fun hc2 => by omega) (fun hc2 t ht => ?_))
      rw [ht, h6]
      refine hin K _ 0 _ n 0 e e τ (fun τ' e2 q1 q2 q3 q4 q5 q6 => ?_) (by omega) (by omega) rfl (by omega) h4 h5 h6 h7 (fun _ r' r1 r2 => by omega)
      by_cases hq : e2 = e
      · rw [if_pos hq]
        refine jb_X0_settleEmpties_9 h0 ?_
        rw [show jg_wr 0 = 0 from rfl]
        exact jn_ite (fun _ => hk τ' e2 q1 q2 q3 (q5 hq) q6) (fun hc => absurd rfl hc)
      · rw [if_neg hq]
        exact ih (31 - e2) (by omega) (n + 1) _ _ e2 τ' rfl (by omega) (by omega) q3 q1 q2 q6
  rintro _ rfl
  exact hout _ 0 _ _ 0 _ rfl (by omega) (by omega) (by omega) (jF_I ⟨rfl, rfl⟩) js_Is (fun e' _ => jn_sub_0)
end JLF
