/-! ITEMS: item 5 r + d is RULE r with DOT d; sets of items are bits -/
noncomputable def jn_mk (P : Nat → Prop) : Nat → Nat
  | 0 => 0
  | n + 1 => jn_mk P n ||| @ite Nat (P n) (Classical.propDecidable _) (2 ^ n) 0
theorem jn_mk_bit {P : Nat → Prop} {i : Nat} : ∀ {n : Nat}, (jn_mk P n).testBit i = true ↔ i < n ∧ P i
  | 0 => by
    unfold jn_mk
    rw [Nat.zero_testBit]
    exact ⟨fun h => (by cases h), fun h => absurd h.1 (Nat.not_lt_zero _)⟩
  | n + 1 => by
    unfold jn_mk
    rw [Nat.testBit_or, Bool.or_eq_true, jn_mk_bit (n := n)]
    by_cases hP : P n
    · rw [if_pos hP, Nat.testBit_two_pow]
      constructor
      · rintro (h | h)
        · exact ⟨by omega, h.2⟩
        · have := of_decide_eq_true h
          subst this
          exact ⟨by omega, hP⟩
      · intro h
        by_cases hi : n = i
        · exact Or.inr (decide_eq_true hi)
        · exact Or.inl ⟨by omega, h.2⟩
    · rw [if_neg hP, Nat.zero_testBit]
      constructor
      · rintro (h | h)
        · exact ⟨by omega, h.2⟩
        · cases h
      · intro h
        by_cases hi : n = i
        · subst hi; exact absurd h.2 hP
        · exact Or.inl ⟨by omega, h.2⟩
theorem jn_mk_lt {P : Nat → Prop} : ∀ {n : Nat}, jn_mk P n < 2 ^ n
  | 0 => by unfold jn_mk; decide
  | n + 1 => by
    unfold jn_mk
    have h := jn_mk_lt (P := P) (n := n)
    have h2 : 2 ^ n < 2 ^ (n + 1) := Nat.pow_lt_pow_right (by omega) (by omega)
    refine Nat.or_lt_two_pow (by omega) ?_
    split
    · exact h2
    · exact Nat.two_pow_pos _
theorem jn_bits {a b : Nat} (h : ∀ i, a.testBit i = true ↔ b.testBit i = true) : a = b := Nat.eq_of_testBit_eq (fun i => Bool.eq_iff_iff.mpr (h i))
theorem jn_mk_eq {P Q : Nat → Prop} {n : Nat} (h : ∀ i, i < n → (P i ↔ Q i)) : jn_mk P n = jn_mk Q n :=
  jn_bits (fun i => by
    rw [jn_mk_bit, jn_mk_bit]
    exact ⟨fun q => ⟨q.1, (h i q.1).mp q.2⟩, fun q => ⟨q.1, (h i q.1).mpr q.2⟩⟩)
theorem jn_mk_ex {P Q : Nat → Prop} {n : Nat} (h : ∀ i, i < n → (P i ↔ Q i)) : ((jn_mk P n : Nat) : Int) = (jn_mk Q n : Nat) := by rw [jn_mk_eq h]
theorem jn_mk_add {P : Nat → Prop} {n k : Nat} (hk : k < n) : jn_mk P n ||| 2 ^ k = jn_mk (fun i => P i ∨ i = k) n :=
  jn_bits (fun i => by
    rw [Nat.testBit_or, Bool.or_eq_true, jn_mk_bit, jn_mk_bit, Nat.testBit_two_pow]
    constructor
    · rintro (h | h)
      · exact ⟨h.1, Or.inl h.2⟩
      · have := of_decide_eq_true h
        subst this
        exact ⟨hk, Or.inr rfl⟩
    · rintro ⟨h, h3 | h3⟩
      · exact Or.inl ⟨h, h3⟩
      · exact Or.inr (decide_eq_true h3.symm))
abbrev jn_r (i : Nat) : Int := ((i / 5 : Nat) : Int)
abbrev jn_d (i : Nat) : Int := ((i % 5 : Nat) : Int)
/-- an item that has a symbol behind its dot, and that symbol -/
def jn_it (g : gM) (i : Nat) : Prop := jn_r i ≤ g 0 2 ∧ jn_r i ≠ g 0 4 ∧ jn_d i < jn_len g (jn_r i)
def jn_is (g : gM) (i : Nat) : Int := jn_sym g (jn_r i) (jn_d i)
noncomputable def jn_A (g : gM) (s : Int) : Nat := jn_mk (fun i => jn_it g i ∧ jn_is g i = s) 62
noncomputable def jn_O (g : gM) (x : Int) : Nat := jn_mk (fun i => i % 5 = 0 ∧ jn_r i < g 0 2 ∧ jn_r i ≠ g 0 4 ∧ g 3 (jn_r i) = x) 62
/-- a grammar with what is EMPTY and FIRST -/
def jn_GE (σ : jg_M) (G : Nat) (g : gM) (e : Nat) (f : Int → Nat) : Prop := jn_Gr σ G g ∧ σ.1 G 11 = (e : Int) ∧ (∀ k, 0 ≤ k → k < 5 → σ.1 (G + 7) k = (f k : Int)) ∧ e < 32 ∧ ∀ k, 0 ≤ k → k < 5 → f k < 256
theorem jn_GE_fr {σ τ : jg_M} {G : Nat} {g : gM} {e : Nat} {f : Int → Nat} {W : Nat → Int → Prop} (h : jn_GE σ G g e f) (hF : jF W σ τ) (h1 : ∀ i : Int, i ≤ 11 → ¬ W G i) (h2 : ∀ (k : Nat) (i : Int), 2 ≤ k → k ≤ 7 → ¬ W (G + k) i) : jn_GE τ G g e f :=
  ⟨jn_Gr_fr h.1 hF (fun i hi => h1 i (by omega)) (fun k i k1 k2 => h2 k i k1 (by omega)), (hF.1 _ _ (h1 11 (by omega))).trans h.2.1, fun k k1 k2 => (hF.1 _ _ (h2 7 _ (by omega) (by omega))).trans (h.2.2.1 k k1 k2), h.2.2.2.1, h.2.2.2.2⟩
/-- what is prepared of the items below b (and of kinds below bo) -/
def jn_Pb (τ : jg_M) (S : Nat) (g : gM) (e : Nat) (f : Int → Nat) (b bo : Nat) : Prop :=
  (∀ s, 0 ≤ s → s < 15 → τ.2 (S + 6) s = (jn_mk (fun i => i < b ∧ jn_it g i ∧ jn_is g i = s) 62 : Nat)) ∧
  (∀ x, 0 ≤ x → x < 5 → τ.2 (S + 7) x = (jn_mk (fun i => i < bo ∧ i % 5 = 0 ∧ jn_r i < g 0 2 ∧ jn_r i ≠ g 0 4 ∧ g 3 (jn_r i) = x) 62 : Nat)) ∧
  (∀ i : Nat, i < 62 → (i < b ∧ jn_it g i → τ.1 (S + 8) i = jn_is g i ∧ τ.1 (S + 9) i = (jn_F g e f (jn_r i) (jn_d i + 1) : Nat)) ∧ (¬ (i < b ∧ jn_it g i) → τ.1 (S + 8) i = -2)) ∧
  τ.2 S 11 = (jn_mk (fun i => i < b ∧ jn_it g i ∧ jn_EF g e (jn_r i) (jn_d i + 1)) 62 : Nat)
/-- what is prepared -/
def jn_Pr (τ : jg_M) (S : Nat) (g : gM) (e : Nat) (f : Int → Nat) : Prop :=
  (∀ s, 0 ≤ s → s < 15 → τ.2 (S + 6) s = (jn_A g s : Nat)) ∧ (∀ x, 0 ≤ x → x < 5 → τ.2 (S + 7) x = (jn_O g x : Nat)) ∧
  (∀ i : Nat, i < 62 → (jn_it g i → τ.1 (S + 8) i = jn_is g i ∧ τ.1 (S + 9) i = (jn_F g e f (jn_r i) (jn_d i + 1) : Nat)) ∧ (¬ jn_it g i → τ.1 (S + 8) i = -2)) ∧
  τ.2 S 11 = (jn_mk (fun i => jn_it g i ∧ jn_EF g e (jn_r i) (jn_d i + 1)) 62 : Nat) ∧ τ.1 S 6 = g 0 2 * 5 + 2
def jW_pr (S : Nat) (a : Nat) (i : Int) : Prop := (S + 6 ≤ a ∧ a ≤ S + 9) ∨ (a = S ∧ (i = 6 ∨ i = 11))
section JIT
variable {w : Nat} {σ : jg_M} {G S : Nat} {g : gM} {x r k d : Int} {e : Nat} {f : Int → Nat} {K : jg_M → Prop}
theorem jc_fillL {A n : Nat} {v : Int} (hs : jg_sh A = (21, n)) (hn : n ≤ 100000) (hk : ∀ τ, jF (fun a _ => a = A) σ τ → (∀ i : Int, 0 ≤ i → i < n → τ.2 A i = v) → K τ) : jg_CV w 0 mm_J7_fill_d0a16 [.ref A, .long (.ofInt v)] σ K := by
  refine jb_J7_fill_d0a16_0 hs ?_
  have hloop : ∀ (m : Nat) (j : Int) (τ : jg_M), 0 ≤ j → j ≤ n → (n - j).toNat = m → jF (fun a _ => a = A) σ τ → (∀ i, 0 ≤ i → i < j → τ.2 A i = v) → jg_GV w 0 mm_J7_fill_d0a16 6 [.ref A, .long (.ofInt v), mj_U, .int (.ofInt j), .int (.ofInt n)] τ K := by
    intro m
    induction m with
    | zero =>
      intro j τ h1 h2 h3 h4 h5
      refine jb_J7_fill_d0a16_6 hs ?_
      rw [jr_wr (by omega), jr_wr (by omega)]
      exact jn_ite (fun _ => hk τ h4 (fun i i1 i2 => h5 i i1 (by omega))) (fun hc => by omega)
    | succ m ih =>
      intro j τ h1 h2 h3 h4 h5
      refine jb_J7_fill_d0a16_6 hs ?_
      rw [jr_wr (by omega), jr_wr (by omega)]
      refine jn_ite (fun hc => by omega) (fun hc => ⟨by omega, ?_⟩)
      rintro _ rfl
      refine ih (j + 1) _ (by omega) (by omega) (by omega) (jF_toL h4 rfl) (fun i i1 i2 => ?_)
      by_cases hij : i = j
      · rw [hij, js_Ls]
      · rw [js_Ln (Or.inr hij)]; exact h5 i i1 (by omega)
  intro t ht
  rw [ht]
  exact hloop _ 0 σ (by omega) (by omega) rfl jF_rf (fun i h1 h2 => by omega)
theorem jn_bit2 {k : Nat} (hk : k < 62) : jg_qshl 1 (k : Int) = ((2 ^ k : Nat) : Int) := by
  have h1 : 2 ^ k < 2 ^ 63 := Nat.pow_lt_pow_right (by omega) (by omega)
  have hb := jb_qshl (m := 1) (k := k) (by omega) (by omega)
  rw [Nat.one_mul, show ((1 : Nat) : Int) = 1 from rfl] at hb
  exact hb
theorem jn_mk63 {P : Nat → Prop} : jn_mk P 62 < 4611686018427387904 := jn_mk_lt
theorem jn_pow62 {k : Nat} (hk : k < 62) : 2 ^ k < 4611686018427387904 := Nat.pow_lt_pow_right (a := 2) (n := 62) (by omega) hk
theorem jc_X7_prepareRule (h0 : jg_sh S = (7, 0)) (h1 : jg_sh G = (0, 0)) (hS : S = G + 9) (hG : jn_GE σ G g e f) (hW : jn_GW g) {R : Nat} (hR : (R : Int) ≤ g 0 2 ∧ (R : Int) ≠ g 0 4) (hP : jn_Pb σ S g e f (5 * R) (5 * R))
    (hk : ∀ τ, jF (jW_pr S) σ τ → τ.1 S 6 = σ.1 S 6 → jn_Pb τ S g e f (5 * R + 5) (5 * R + 5) → K τ) : jg_CV w 3 mm_X7_prepareRule [.ref S, .ref G, .int (.ofInt (R : Int))] σ K := by
  have hw := hW.1
  have hl := jn_len_rng (r := (R : Int)) hW
  have hGt : ∀ τ, jF (jW_pr S) σ τ → jn_GE τ G g e f := fun τ h => jn_GE_fr hG h (by unfold jW_pr; omega) (by unfold jW_pr; omega)
  have hdots : ∀ (m : Nat) (D : Nat) (u3 u5 u6 : Value) (τ : jg_M), (D : Int) ≤ jn_len g R → (jn_len g R).toNat - D = m → jF (jW_pr S) σ τ → τ.1 S 6 = σ.1 S 6 → jn_Pb τ S g e f (5 * R + D) (5 * R + 5) → jg_GV w 3 mm_X7_prepareRule 31 [.ref S, .ref G, .int (.ofInt (R : Int)), u3, .int (.ofInt (D : Int)), u5, u6] τ K := by
    intro m
    induction m with
    | zero =>
      intro D u3 u5 u6 τ q1 q2 hF h6 hP
      refine jb_X7_prepareRule_31 h0 h1 (jc_X0_lengthOf h1 (hGt τ hF).1 hW (by omega) ?_)
      rw [jr_wr (by omega), jr_wr (by omega)]
      refine jn_ite (fun _ => hk τ hF h6 ?_) (fun hc => by omega)
      -- no item of this rule is left
      have hno : ∀ i, (i < 5 * R + D ∧ jn_it g i) ↔ (i < 5 * R + 5 ∧ jn_it g i) := by
        intro i
        refine ⟨fun q => ⟨by omega, q.2⟩, fun q => ⟨?_, q.2⟩⟩
        by_cases hi : i < 5 * R + D
        · exact hi
        · have h9 : i / 5 = R := by omega
          have h8 := q.2.2.2
          unfold jn_r jn_d at h8
          rw [h9] at h8
          omega
      obtain ⟨p1, p2, p3, p4⟩ := hP
      refine ⟨fun s s1 s2 => ?_, p2, fun i hi => ⟨fun q => (p3 i hi).1 ((hno i).mpr q), fun q => (p3 i hi).2 (fun q2 => q ((hno i).mp q2))⟩, ?_⟩
      · rw [p1 s s1 s2]
        exact jn_mk_ex (fun i _ => ⟨fun q => ⟨((hno i).mp ⟨q.1, q.2.1⟩).1, q.2⟩, fun q => ⟨((hno i).mpr ⟨q.1, q.2.1⟩).1, q.2⟩⟩)
      · rw [p4]
        exact jn_mk_ex (fun i _ => ⟨fun q => ⟨((hno i).mp ⟨q.1, q.2.1⟩).1, q.2⟩, fun q => ⟨((hno i).mpr ⟨q.1, q.2.1⟩).1, q.2⟩⟩)
    | succ m ih =>
      intro D u3 u5 u6 τ q1 q2 hF h6 hP
      have hGτ := hGt τ hF
      refine jb_X7_prepareRule_31 h0 h1 (jc_X0_lengthOf h1 hGτ.1 hW (by omega) ?_)
      rw [jr_wr (show jr (jn_len g R) by omega), jr_wr (show jr (D : Int) by omega)]
      refine jn_ite (fun hc => by omega) (fun _ => fun t ht => jc_X0_symbolAt h1 hGτ.1 hW (by omega) (by omega) ?_)
      have hsy := jn_sym_rng (r := (R : Int)) (k := (D : Int)) hW ⟨by omega, by omega⟩
      have hsj := jn_sym_jr (r := (R : Int)) (k := (D : Int)) hW
      have hI : 5 * R + D < 62 := by
        by_cases hr : (R : Int) = g 0 2
        · have : jn_len g R = 1 := by unfold jn_len; rw [if_pos hr]
          omega
        · omega
      have ht2 : t = ((5 * R + D : Nat) : Int) := by omega
      rw [ht2, jr_wr (show jr ((5 * R + D : Nat) : Int) by omega), jr_wr (show jr (jn_sym g R D) by omega)]
      refine jn_ite (fun hc => by omega) (fun _ => jn_ite (fun hc => by omega) (fun _ => jn_ite (fun hc => by omega) (fun _ => ⟨by omega, by omega, ?_⟩)))
      obtain ⟨p1, p2, p3, p4⟩ := hP
      have hri : jn_r (5 * R + D) = R := by unfold jn_r; omega
      have hdi : jn_d (5 * R + D) = D := by unfold jn_d; omega
      have hiti : jn_it g (5 * R + D) := by unfold jn_it; rw [hri, hdi]; exact ⟨by omega, hR.2, by omega⟩
      have hisi : jn_is g (5 * R + D) = jn_sym g R D := by unfold jn_is; rw [hri, hdi]
      rw [p1 _ (by omega) (by omega), jn_bit2 hI, jb_qor (by have := jn_mk63 (P := fun i => i < 5 * R + D ∧ jn_it g i ∧ jn_is g i = jn_sym g R D); omega) (by have := jn_pow62 hI; omega), jn_mk_add hI]
      rintro m1 hm1
      refine ⟨by omega, ?_⟩
      rintro m2 hm2
      have hF2 : jF (jW_pr S) σ m2 := by
        rw [hm2, hm1]
        exact jF_toI (jF_toL hF (Or.inl (by omega))) (Or.inl (by omega))
      have hG2 := hGt m2 hF2
      refine jc_X0_firstFrom h1 hG2.1 hW hG2.2.1 hG2.2.2.2.1 hG2.2.2.1 hG2.2.2.2.2 (by omega) (by omega) (by omega) ⟨by omega, ?_⟩
      rintro m3 hm3
      have hF3 : jF (jW_pr S) σ m3 := by
        rw [hm3]
        exact jF_toI hF2 (Or.inl (by omega))
      have hG3 := hGt m3 hF3
      -- what holds behind the three writes, of whatever stands in field 11
      have base : ∀ (υ : jg_M), υ.1 = m3.1 → (∀ a i, ¬ (a = S ∧ i = 11) → υ.2 a i = m3.2 a i) → υ.2 S 11 = (jn_mk (fun i => i < 5 * R + D + 1 ∧ jn_it g i ∧ jn_EF g e (jn_r i) (jn_d i + 1)) 62 : Nat) → jn_Pb υ S g e f (5 * R + (D + 1)) (5 * R + 5) ∧ υ.1 S 6 = σ.1 S 6 := by
        intro υ u1 u2 u3
        refine ⟨⟨fun s s1 s2 => ?_, fun x x1 x2 => ?_, fun i hi => ?_, u3⟩, ?_⟩
        · rw [u2 _ _ (by omega), hm3, hm2, hm1, js_I2, js_I2]
          by_cases hs : s = jn_sym g R D
          · rw [hs, js_Ls]
            refine jn_mk_ex (fun i _ => ?_)
            constructor
            · rintro (q | q)
              · exact ⟨by omega, q.2⟩
              · rw [q]; exact ⟨by omega, hiti, hisi⟩
            · intro q
              by_cases h9 : i = 5 * R + D
              · exact Or.inr h9
              · exact Or.inl ⟨by omega, q.2⟩
          · rw [js_Ln (Or.inr hs), p1 s s1 s2]
            refine jn_mk_ex (fun i _ => ?_)
            refine ⟨fun q => ⟨by omega, q.2⟩, fun q => ⟨?_, q.2⟩⟩
            by_cases h9 : i = 5 * R + D
            · rw [h9, hisi] at q; exact absurd q.2.2.symm hs
            · omega
        · rw [u2 _ _ (by omega), hm3, hm2, hm1, js_I2, js_I2, js_Ln (Or.inl (by omega))]
          exact p2 x x1 x2
        · rw [u1]
          by_cases h9 : i = 5 * R + D
          · rw [h9]
            refine ⟨fun _ => ⟨?_, ?_⟩, fun q => absurd ⟨by omega, hiti⟩ q⟩
            · rw [hm3, hm2, js_In (Or.inl (by omega)), js_Is, hisi]
            · rw [hm3, js_Is, hri, hdi]
          · have e8 : m3.1 (S + 8) i = τ.1 (S + 8) i := by rw [hm3, hm2, hm1, js_In (Or.inr (by omega)), js_In (Or.inr (by omega)), js_L1]
            have e9 : m3.1 (S + 9) i = τ.1 (S + 9) i := by rw [hm3, hm2, hm1, js_In (Or.inr (by omega)), js_In (Or.inr (by omega)), js_L1]
            rw [e8, e9]
            exact ⟨fun q => (p3 i hi).1 ⟨by omega, q.2⟩, fun q => (p3 i hi).2 (fun q2 => q ⟨by omega, q2.2⟩)⟩
        · rw [u1, hm3, hm2, hm1, js_In (Or.inl (by omega)), js_In (Or.inl (by omega)), js_L1]
          exact h6
      have h11 : m3.2 S 11 = (jn_mk (fun i => i < 5 * R + D ∧ jn_it g i ∧ jn_EF g e (jn_r i) (jn_d i + 1)) 62 : Nat) := by
        rw [hm3, hm2, hm1, js_I2, js_I2, js_Ln (Or.inl (by omega))]
        exact p4
      refine jc_X0_isEmptyFrom h1 hG3.1 hW hG3.2.1 hG3.2.2.2.1 (by omega) (by omega) (jn_if (fun hp => ?_) (fun hp => ?_))
      · have hb := base m3 rfl (fun _ _ _ => rfl) (by
          rw [h11]
          refine jn_mk_ex (fun i _ => ?_)
          refine ⟨fun q => ⟨by omega, q.2⟩, fun q => ⟨?_, q.2⟩⟩
          by_cases h9 : i = 5 * R + D
          · rw [h9, hri, hdi] at q; exact absurd q.2.2 hp
          · omega)
        exact ih (D + 1) _ _ _ m3 (by omega) (by omega) hF3 hb.2 hb.1
      · rw [h11, jb_qor (by have := jn_mk63 (P := fun i => i < 5 * R + D ∧ jn_it g i ∧ jn_EF g e (jn_r i) (jn_d i + 1)); omega) (by have := jn_pow62 hI; omega), jn_mk_add hI]
        have hmk : jn_mk (fun i => (i < 5 * R + D ∧ jn_it g i ∧ jn_EF g e (jn_r i) (jn_d i + 1)) ∨ i = 5 * R + D) 62 = jn_mk (fun i => i < 5 * R + D + 1 ∧ jn_it g i ∧ jn_EF g e (jn_r i) (jn_d i + 1)) 62 := by
          refine jn_mk_eq (fun i _ => ?_)
          constructor
          · rintro (q | q)
            · exact ⟨by omega, q.2⟩
            · rw [q, hri, hdi]; exact ⟨by omega, hiti, hp⟩
          · intro q
            by_cases h9 : i = 5 * R + D
            · exact Or.inr h9
            · exact Or.inl ⟨by omega, q.2⟩
        rw [hmk]
        rintro _ rfl
        have hb := base (jg_sL m3 S 11 _) rfl (fun a i h => js_Ln (by omega)) js_Ls
        exact ih (D + 1) _ _ _ _ (by omega) (by omega) (jF_toL hF3 (Or.inr ⟨rfl, Or.inr rfl⟩)) hb.2 hb.1
  refine jb_X7_prepareRule_0 h0 h1 (jc_X0_kindOf h1 hG.1 hW (by omega) ?_)
  obtain ⟨p1, p2, p3, p4⟩ := hP
  by_cases hr : (R : Int) < g 0 2
  · have hrk := (hW.2.1 R (by omega) hr).1
    rw [if_pos (by omega)]
    refine jc_X0_hasKind h1 hG.1 hW (by omega) (jn_if (fun hp => by omega) (fun hp => ?_))
    rw [jr_wr (show jr (g 3 R) by omega), p2 _ (by omega) (by omega), show (R : Int) * 5 = ((5 * R : Nat) : Int) by omega, jn_bit2 (by omega), jb_qor (by have := jn_mk63 (P := fun i => i < 5 * R ∧ i % 5 = 0 ∧ jn_r i < g 0 2 ∧ jn_r i ≠ g 0 4 ∧ g 3 (jn_r i) = g 3 R); omega) (by have := jn_pow62 (show 5 * R < 62 by omega); omega), jn_mk_add (by omega)]
    refine ⟨by omega, by omega, ?_⟩
    rintro _ rfl
    have hri : jn_r (5 * R) = R := by unfold jn_r; omega
    refine hdots _ 0 _ _ _ _ (by omega) rfl (jF_L (Or.inl (by omega))) rfl ⟨fun s s1 s2 => (js_Ln (Or.inl (by omega))).trans (p1 s s1 s2), fun x x1 x2 => ?_, p3, (js_Ln (Or.inl (by omega))).trans p4⟩
    by_cases hx : x = g 3 R
    · rw [hx, js_Ls]
      refine jn_mk_ex (fun i _ => ?_)
      constructor
      · rintro (q | q)
        · exact ⟨by omega, q.2⟩
        · rw [q, hri]; exact ⟨by omega, by omega, hr, hR.2, rfl⟩
      · intro q
        by_cases h9 : i = 5 * R
        · exact Or.inr h9
        · exact Or.inl ⟨by omega, q.2⟩
    · rw [js_Ln (Or.inr hx), p2 x x1 x2]
      refine jn_mk_ex (fun i _ => ?_)
      refine ⟨fun q => ⟨by omega, q.2⟩, fun q => ⟨?_, q.2⟩⟩
      by_cases h9 : i = 5 * R
      · rw [h9, hri] at q; exact absurd q.2.2.2.2.symm hx
      · omega
  · rw [if_neg (by omega)]
    refine jc_X0_hasKind h1 hG.1 hW (by omega) (jn_if (fun hp => ?_) (fun hp => by omega))
    refine hdots _ 0 _ _ _ _ (by omega) rfl jF_rf rfl ⟨p1, fun x x1 x2 => ?_, p3, p4⟩
    rw [p2 x x1 x2]
    refine jn_mk_ex (fun i _ => ?_)
    refine ⟨fun q => ⟨by omega, q.2⟩, fun q => ⟨?_, q.2⟩⟩
    have h9 := q.2.2.1
    unfold jn_r at h9
    omega
theorem jc_X7_prepareItems (h0 : jg_sh S = (7, 0)) (h1 : jg_sh G = (0, 0)) (hS : S = G + 9) (hG : jn_GE σ G g e f) (hW : jn_GW g)
    (hk : ∀ τ, jF (jW_pr S) σ τ → jn_Pr τ S g e f → K τ) : jg_CV w 4 mm_X7_prepareItems [.ref S, .ref G] σ K := by
  have hw := hW.1
  have hGt : ∀ τ, jF (jW_pr S) σ τ → jn_GE τ G g e f := fun τ h => jn_GE_fr hG h (by unfold jW_pr; omega) (by unfold jW_pr; omega)
  have hloop : ∀ (m : Nat) (R : Nat) (τ : jg_M), (R : Int) ≤ g 0 2 + 1 → (g 0 2 + 1).toNat - R = m → jF (jW_pr S) σ τ → τ.1 S 6 = g 0 2 * 5 + 2 → jn_Pb τ S g e f (5 * R) (5 * R) → jg_GV w 4 mm_X7_prepareItems 49 [.ref S, .ref G, .int (.ofInt (R : Int))] τ K := by
    intro m
    induction m with
    | zero =>
      intro R τ q1 q2 hF h6 hP
      refine jb_X7_prepareItems_49 h0 h1 ?_
      rw [(hGt τ hF).1.1.2.2.1, jr_wr (by omega), jr_wr (by omega)]
      refine jn_ite (fun _ => hk τ hF ?_) (fun hc => by omega)
      obtain ⟨p1, p2, p3, p4⟩ := hP
      have hb : ∀ i, jn_it g i → i < 5 * R := by
        intro i hi
        have h9 := hi.1
        unfold jn_r at h9
        omega
      refine ⟨fun s s1 s2 => ?_, fun x x1 x2 => ?_, fun i hi => ⟨fun q => (p3 i hi).1 ⟨hb i q, q⟩, fun q => (p3 i hi).2 (fun q2 => q q2.2)⟩, ?_, h6⟩
      · rw [p1 s s1 s2]
        unfold jn_A
        exact jn_mk_ex (fun i _ => ⟨fun q => q.2, fun q => ⟨hb i q.1, q⟩⟩)
      · rw [p2 x x1 x2]
        unfold jn_O
        refine jn_mk_ex (fun i _ => ⟨fun q => q.2, fun q => ⟨?_, q⟩⟩)
        have h9 := q.2.1
        unfold jn_r at h9
        omega
      · rw [p4]
        exact jn_mk_ex (fun i _ => ⟨fun q => q.2, fun q => ⟨hb i q.1, q⟩⟩)
    | succ m ih =>
      intro R τ q1 q2 hF h6 hP
      have hGτ := hGt τ hF
      refine jb_X7_prepareItems_49 h0 h1 ?_
      rw [hGτ.1.1.2.2.1, jr_wr (by omega), jr_wr (by omega)]
      refine jn_ite (fun hc => by omega) (fun _ => jc_X0_uses h1 hGτ.1 hW (by omega) (jn_if (fun hp => ?_) (fun hp => ?_)))
      · rw [show (R : Int) + 1 = ((R + 1 : Nat) : Int) by omega]
        refine ih (R + 1) τ (by omega) (by omega) hF h6 ?_
        obtain ⟨p1, p2, p3, p4⟩ := hP
        have hno : ∀ i, i < 5 * (R + 1) → ¬ i < 5 * R → jn_r i = g 0 4 := by
          intro i i1 i2
          unfold jn_r
          omega
        have hb : ∀ i, (i < 5 * R ∧ jn_it g i) ↔ (i < 5 * (R + 1) ∧ jn_it g i) := by
          intro i
          refine ⟨fun q => ⟨by omega, q.2⟩, fun q => ⟨?_, q.2⟩⟩
          by_cases h9 : i < 5 * R
          · exact h9
          · exact absurd (hno i q.1 h9) q.2.2.1
        refine ⟨fun s s1 s2 => ?_, fun x x1 x2 => ?_, fun i hi => ⟨fun q => (p3 i hi).1 ((hb i).mpr q), fun q => (p3 i hi).2 (fun q2 => q ((hb i).mp q2))⟩, ?_⟩
        · rw [p1 s s1 s2]
          exact jn_mk_ex (fun i _ => ⟨fun q => ⟨((hb i).mp ⟨q.1, q.2.1⟩).1, q.2⟩, fun q => ⟨((hb i).mpr ⟨q.1, q.2.1⟩).1, q.2⟩⟩)
        · rw [p2 x x1 x2]
          refine jn_mk_ex (fun i _ => ⟨fun q => ⟨by omega, q.2⟩, fun q => ⟨?_, q.2⟩⟩)
          by_cases h9 : i < 5 * R
          · exact h9
          · exact absurd (hno i q.1 h9) q.2.2.2.1
        · rw [p4]
          exact jn_mk_ex (fun i _ => ⟨fun q => ⟨((hb i).mp ⟨q.1, q.2.1⟩).1, q.2⟩, fun q => ⟨((hb i).mpr ⟨q.1, q.2.1⟩).1, q.2⟩⟩)
      · refine jc_X7_prepareRule h0 h1 hS hGτ hW ⟨by omega, by omega⟩ hP (fun τ' a1 a2 a3 => ?_)
        rw [show (R : Int) + 1 = ((R + 1 : Nat) : Int) by omega]
        exact ih (R + 1) τ' (by omega) (by omega) (jF_tr hF a1) (by rw [a2]; exact h6) a3
  refine jb_X7_prepareItems_0 h0 h1 (jc_fillL (jg_sX7_7 h0) (by omega) (fun τ1 f1 z1 => jc_fillL (jg_sX7_8 h0) (by omega) (fun τ2 f2 z2 => jc_fill (jg_sX7_9 h0) (by omega) (fun τ3 f3 z3 => ?_))))
  rintro m4 hm4 m5 hm5
  have hF3 : jF (jW_pr S) σ τ3 := jF_tr (jF_tr (jF_mono f1 (fun a i h => Or.inl (by omega))) (jF_mono f2 (fun a i h => Or.inl (by omega)))) (jF_mono f3 (fun a i h => Or.inl (by omega)))
  have hF4 : jF (jW_pr S) σ m4 := by rw [hm4]; exact jF_toL hF3 (Or.inr ⟨rfl, Or.inr rfl⟩)
  have hG4 := hGt m4 hF4
  rw [hG4.1.1.2.2.1, jr_wr (show jr (g 0 2 * 5 + 2) by omega)] at hm5
  have hF5 : jF (jW_pr S) σ m5 := by rw [hm5]; exact jF_toI hF4 (Or.inr ⟨rfl, Or.inl rfl⟩)
  have hv : (if g 0 2 * 5 + 2 < 62 then g 0 2 * 5 + 2 else 62) = g 0 2 * 5 + 2 := by split <;> omega
  rw [hv] at hm5
  have hz : ∀ P : Nat → Prop, (∀ i, ¬ P i) → jn_mk P 62 = 0 := by
    intro P hP
    apply Nat.eq_of_testBit_eq
    intro i
    rw [Nat.zero_testBit]
    cases h9 : (jn_mk P 62).testBit i with
    | false => rfl
    | true => exact absurd (jn_mk_bit.mp h9).2 (hP i)
  refine hloop _ 0 m5 (by omega) rfl hF5 (by rw [hm5, js_Is]) ⟨fun s s1 s2 => ?_, fun x x1 x2 => ?_, fun i hi => ⟨fun q => by omega, fun _ => ?_⟩, ?_⟩
  · rw [hz _ (fun i q => by omega), hm5, hm4, js_I2, js_Ln (Or.inl (by omega)), f3.2 _ _ (by omega), f2.2 _ _ (by omega)]
    exact z1 s s1 (by omega)
  · rw [hz _ (fun i q => by omega), hm5, hm4, js_I2, js_Ln (Or.inl (by omega)), f3.2 _ _ (by omega)]
    exact z2 x x1 (by omega)
  · rw [hm5, hm4, js_In (Or.inl (by omega)), js_L1]
    exact z3 i (by omega) (by omega)
  · rw [hz _ (fun i q => by omega), hm5, hm4, js_I2, js_Ls]
    rfl
end JIT
