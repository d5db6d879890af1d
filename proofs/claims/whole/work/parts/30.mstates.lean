/-! THE STATES in the reference: bank c -/
def jn_sy (x : Int) : Int := if x < 7 then x else x + 3
def jn_RM (τ : jg_M) (c : Int) (g : gM) (S : jn_Q) : Prop := τ.1 (92 + 13) c = S.1 ∧ ∀ j, 0 ≤ j → j < S.1 → jn_row τ (92 + 14) (65 * (48 * c + j)) (S.2.1 j) ∧ jn_row τ (92 + 15) (65 * (48 * c + j)) (jn_clo g (S.2.1 j)) ∧ τ.1 (92 + 17) (48 * c + j) = jn_mx (S.2.2.2 j) ∧ ∀ i : Nat, i < 65 → τ.1 (92 + 18) (65 * (48 * c + j) + i) = 0
def jW_ls (c : Int) (a : Nat) (i : Int) : Prop := (a = 92 + 13 ∧ i = c) ∨ ((a = 92 + 14 ∨ a = 92 + 15 ∨ a = 92 + 18) ∧ 3120 * c ≤ i ∧ i < 3120 * c + 3120) ∨ (a = 92 + 16 ∧ 576 * c ≤ i ∧ i < 576 * c + 576) ∨ (a = 92 + 17 ∧ 48 * c ≤ i ∧ i < 48 * c + 48) ∨ a = 92 + 24
section JMS
variable {w : Nat} {σ : jg_M} {g : gM} {x a b c s : Int} {k k' : Nat} {S S' : jn_Q} {K : jg_M → Prop} {KI : Int → jg_M → Prop}
theorem jn_row_fr {W : Nat → Int → Prop} {τ : jg_M} {A : Nat} {o : Int} (h : jn_row σ A o k) (hF : jF W σ τ) (hn : ∀ i : Nat, i < 65 → ¬ W A (o + i)) : jn_row τ A o k := fun i hi => (hF.1 _ _ (hn i hi)).trans (h i hi)
theorem jm_isNext (hG : jn_Mg σ a g) (hW : jn_GW g) (hc : σ.1 92 36 = c) (hc2 : 0 ≤ c ∧ c ≤ 1) (hs : 0 ≤ s ∧ s < 48) (hx : 0 ≤ x ∧ x < 12) (hv : jn_vs g k) (hr : jn_row σ (92 + 15) (65 * (48 * c + s)) (jn_clo g k))
    (hk : ∀ τ, jF (fun a _ => a = 92 + 24) σ τ → jn_row τ (92 + 24) 0 (jn_nx g k (jn_sy x)) → KI (jn_b (jn_nx g k (jn_sy x) ≠ 0)) τ) : jg_CI w 1 mm_X12_isNext [.ref 92, .int (.ofInt s), .int (.ofInt x)] σ KI := by
  have hw := hW.1
  refine jb_X12_isNext_0 rfl ?_
  have hclo := jn_clo_vs hW hv
  have hGt : ∀ τ, jF (fun a _ => a = 92 + 24) σ τ → jn_Mg τ a g ∧ τ.1 92 36 = c ∧ jn_row τ (92 + 15) (65 * (48 * c + s)) (jn_clo g k) := fun τ h => ⟨jn_Mg_fr hG h (by omega) (by omega), (h.1 _ _ (by omega)).trans hc, jn_row_fr hr h (fun i hi => by omega)⟩
  have h2 : ∀ (m i : Nat) (any : Int) (τ : jg_M), i + m = 65 → jF (fun a _ => a = 92 + 24) σ τ → any = jn_b (∃ j, j < i ∧ (jn_nx g k (jn_sy x)).testBit (j + 1) = true) → (∀ j : Nat, j < 65 → τ.1 (92 + 24) j = jn_b (j ≤ i ∧ (jn_nx g k (jn_sy x)).testBit j = true)) → jg_GI w 1 mm_X12_isNext 29 [.ref 92, .int (.ofInt s), .int (.ofInt x), .int (.ofInt any), .int (.ofInt (i : Int))] τ KI := by
    intro m
    induction m with
    | zero =>
      intro i any τ hi hF hany h24
      refine jb_X12_isNext_29 rfl ?_
      rw [jr_wr (show jr (i : Int) by omega), hany]
      refine jn_ite (fun _ => ⟨jn_b_rng _, ?_⟩) (fun hh => by omega)
      have e : jn_b (∃ j, j < i ∧ (jn_nx g k (jn_sy x)).testBit (j + 1) = true) = jn_b (jn_nx g k (jn_sy x) ≠ 0) := by
        refine jn_b_eq ⟨fun ⟨j, h1, h3⟩ h0 => ?_, fun h => ?_⟩
        · rw [h0, Nat.zero_testBit] at h3; cases h3
        · obtain ⟨j, hj⟩ := Nat.exists_testBit_of_ne_zero h
          match j, hj with
          | 0, hj => rw [jn_nx_bit0] at hj; cases hj
          | j + 1, hj => exact ⟨j, by have := jn_it_lt hW ((jn_nx_bit hW).mp hj).2.1; omega, hj⟩
      rw [e]
      refine hk τ hF (fun j hj => ?_)
      rw [Int.zero_add, h24 j hj]
      exact jn_b_eq ⟨fun h => h.2, fun h => ⟨by omega, h⟩⟩
    | succ m ih =>
      intro i any τ hi hF hany h24
      obtain ⟨hGτ, hcτ, hrτ⟩ := hGt τ hF
      refine jb_X12_isNext_29 rfl ?_
      have hdm := jn_divmod (i := i) (by omega)
      rw [jr_wr (show jr (i : Int) by omega), hdm.1, hdm.2]
      have skip : ¬ (jn_nx g k (jn_sy x)).testBit (i + 1) = true → jg_GI w 1 mm_X12_isNext 29 [.ref 92, .int (.ofInt s), .int (.ofInt x), .int (.ofInt any), .int (.ofInt ((i : Int) + 1))] τ KI := by
        intro hn
        rw [show (i : Int) + 1 = ((i + 1 : Nat) : Int) by omega]
        refine ih (i + 1) any τ (by omega) hF ?_ (fun j hj => ?_)
        · rw [hany]
          refine jn_b_eq ⟨fun ⟨j, q1, q2⟩ => ⟨j, by omega, q2⟩, fun ⟨j, q1, q2⟩ => ⟨j, ?_, q2⟩⟩
          by_cases hj : j = i
          · rw [hj] at q2; exact absurd q2 hn
          · omega
        · rw [h24 j hj]
          refine jn_b_eq ⟨fun q => ⟨by omega, q.2⟩, fun q => ⟨?_, q.2⟩⟩
          by_cases hj2 : j = i + 1
          · rw [hj2] at q; exact absurd q.2 hn
          · omega
      refine jn_ite (fun hh => by omega) (fun _ => jm_itemAt hcτ ?_)
      rw [jr_wr (by omega), hrτ i (by omega)]
      refine ⟨by omega, jn_if (fun hp => skip (fun h => hp ((jn_nx_bit hW).mp h).1)) (fun hp => ?_)⟩
      have hvi := hclo.2 i hp
      have hsi := jn_sym_it (x := x) hW hvi hx
      have hmr := jn_mx_rng (r := jn_r i) (k := jn_d i) hW
      refine jm_moveBy hGτ hW ⟨by unfold jn_r; omega, hvi.1⟩ ⟨by unfold jn_d; omega, by unfold jn_d; omega⟩ ?_
      rw [jr_wr (by omega), jr_wr (show jr x by omega)]
      refine jn_ite (fun hq => ?_) (fun hq => skip (fun h => hq (hsi.mpr ((jn_nx_bit hW).mp h).2)))
      have hq2 := hsi.mp hq
      have hi61 := jn_it_lt hW hq2.1
      have hbit : (jn_nx g k (jn_sy x)).testBit (i + 1) = true := (jn_nx_bit hW).mpr ⟨hp, hq2⟩
      rw [show (i : Int) + 1 = ((i + 1 : Nat) : Int) by omega, jr_wr (show jr ((i + 1 : Nat) : Int) by omega)]
      refine ⟨by omega, ?_⟩
      rintro _ rfl
      refine ih (i + 1) 1 _ (by omega) (jF_toI hF rfl) (jn_b_t ⟨i, by omega, hbit⟩).symm (fun j hj => ?_)
      by_cases hj2 : j = i + 1
      · rw [hj2, js_Is, jn_b_t ⟨by omega, hbit⟩]; rfl
      · rw [js_In (Or.inr (by omega)), h24 j hj]
        exact jn_b_eq ⟨fun q => ⟨by omega, q.2⟩, fun q => ⟨by omega, q.2⟩⟩
  have h1 : ∀ (m i : Nat) (τ : jg_M), i + m = 65 → jF (fun a _ => a = 92 + 24) σ τ → (∀ j : Nat, j < i → τ.1 (92 + 24) j = 0) → jg_GI w 1 mm_X12_isNext 5 [.ref 92, .int (.ofInt s), .int (.ofInt x), .int (.ofInt 0), .int (.ofInt (i : Int))] τ KI := by
    intro m
    induction m with
    | zero =>
      intro i τ hi hF h24
      refine jb_X12_isNext_5 rfl ?_
      rw [jr_wr (show jr (i : Int) by omega)]
      refine jn_ite (fun _ => h2 65 0 0 τ (by omega) hF (jn_b_f (fun ⟨j, q, _⟩ => by omega)).symm (fun j hj => ?_)) (fun hh => by omega)
      rw [h24 j (by omega), jn_b_f (fun q => ?_)]
      have : j = 0 := by omega
      rw [this, jn_nx_bit0] at q
      cases q.2
    | succ m ih =>
      intro i τ hi hF h24
      refine jb_X12_isNext_5 rfl ?_
      rw [jr_wr (show jr (i : Int) by omega)]
      refine jn_ite (fun hh => by omega) (fun _ => ⟨by omega, ?_⟩)
      rintro _ rfl
      rw [show (i : Int) + 1 = ((i + 1 : Nat) : Int) by omega]
      refine ih (i + 1) _ (by omega) (jF_toI hF rfl) (fun j hj => ?_)
      by_cases hj2 : j = i
      · rw [hj2, js_Is]; rfl
      · rw [js_In (Or.inr (by omega))]; exact h24 j (by omega)
  exact h1 65 0 σ rfl jF_rf (fun j hj => by omega)
theorem jn_low (h : k < 4611686018427387904) {i : Nat} (hi : 65 ≤ i) : k.testBit i = false := Nat.testBit_lt_two_pow (Nat.lt_of_lt_of_le (show k < 2 ^ 62 from h) (Nat.pow_le_pow_right (by omega) (by omega)))
theorem jm_isKernel (hc : σ.1 92 36 = c) (hc2 : 0 ≤ c ∧ c ≤ 1) (hs : 0 ≤ s ∧ s < 48) (hk1 : k < 4611686018427387904) (hk2 : k' < 4611686018427387904) (hr : jn_row σ (92 + 14) (65 * (48 * c + s)) k) (hn : jn_row σ (92 + 24) 0 k') (hk : KI (jn_b (k = k')) σ) : jg_CI w 1 mm_X12_isKernel [.ref 92, .int (.ofInt s)] σ KI := by
  refine jb_X12_isKernel_0 rfl ?_
  have hloop : ∀ (m i : Nat), i + m = 65 → (∀ j, j < i → k.testBit j = k'.testBit j) → jg_GI w 1 mm_X12_isKernel 2 [.ref 92, .int (.ofInt s), .int (.ofInt (i : Int))] σ KI := by
    intro m
    induction m with
    | zero =>
      intro i hi hj
      refine jb_X12_isKernel_2 rfl ?_
      rw [jr_wr (show jr (i : Int) by omega)]
      refine jn_ite (fun _ => ?_) (fun hh => by omega)
      have : k = k' := Nat.eq_of_testBit_eq (fun j => by
        rcases Nat.lt_or_ge j 65 with h | h
        · exact hj j (by omega)
        · rw [jn_low hk1 h, jn_low hk2 h])
      rw [jn_b_t this] at hk
      exact hk
    | succ m ih =>
      intro i hi hj
      refine jb_X12_isKernel_2 rfl ?_
      rw [jr_wr (show jr (i : Int) by omega)]
      refine jn_ite (fun hh => by omega) (fun _ => jm_itemAt hc ?_)
      have h24 := hn i (by omega)
      rw [Int.zero_add] at h24
      rw [jr_wr (by omega), hr i (by omega), h24, jn_b_wr, jn_b_wr]
      have hiff : jn_b (k.testBit i = true) = jn_b (k'.testBit i = true) ↔ k.testBit i = k'.testBit i := by
        refine ⟨fun h => ?_, fun h => by rw [h]⟩
        cases h1 : k.testBit i <;> cases h2 : k'.testBit i
        · rfl
        · rw [h1, h2, jn_b_t rfl, jn_b_f (by decide)] at h; cases h
        · rw [h1, h2, jn_b_t rfl, jn_b_f (by decide)] at h; cases h
        · rfl
      refine ⟨by omega, by omega, jn_ite (fun hq => ?_) (fun hq => ?_)⟩
      · rw [show (i : Int) + 1 = ((i + 1 : Nat) : Int) by omega]
        refine ih (i + 1) (by omega) (fun j h => ?_)
        by_cases hji : j = i
        · rw [hji]; exact hiff.mp hq
        · exact hj j (by omega)
      · rw [jn_b_f (fun h => hq (by rw [h]))] at hk
        exact hk
  exact hloop 65 0 rfl (fun j h => by omega)
theorem jm_stateOfKernel (hc : σ.1 92 36 = c) (hc2 : 0 ≤ c ∧ c ≤ 1) (hI : jn_IQ g S) (hR : jn_RM σ c g S) (hk2 : k' < 4611686018427387904) (hn : jn_row σ (92 + 24) 0 k') (hk : KI (jn_fnd S.2.1 k' S.1.toNat 0) σ) : jg_CI w 2 mm_X12_stateOfKernel [.ref 92] σ KI := by
  refine jb_X12_stateOfKernel_0 rfl ?_
  have hI1 := hI.1
  have hloop : ∀ (m : Nat) (j : Int), 0 ≤ j → j + m = S.1 → jn_fnd S.2.1 k' S.1.toNat 0 = jn_fnd S.2.1 k' m j → jg_GI w 2 mm_X12_stateOfKernel 2 [.ref 92, .int (.ofInt j)] σ KI := by
    intro m
    induction m with
    | zero =>
      intro j j1 j2 hf
      refine jb_X12_stateOfKernel_2 rfl ?_
      rw [hc, jr_wr (show jr c by omega), hR.1, jr_wr (show jr S.1 by omega), jr_wr (show jr j by omega)]
      rw [hf] at hk
      exact ⟨by omega, jn_ite (fun _ => hk) (fun hh => by omega)⟩
    | succ m ih =>
      intro j j1 j2 hf
      refine jb_X12_stateOfKernel_2 rfl ?_
      rw [hc, jr_wr (show jr c by omega), hR.1, jr_wr (show jr S.1 by omega), jr_wr (show jr j by omega)]
      have e : jn_fnd S.2.1 k' (m + 1) j = if S.2.1 j = k' then j else jn_fnd S.2.1 k' m (j + 1) := rfl
      rw [e] at hf
      refine ⟨by omega, jn_ite (fun hh => by omega) (fun _ => jm_isKernel hc hc2 (by omega) (hI.2.1 j j1 (by omega)).1 hk2 (hR.2 j j1 (by omega)).1 hn (jn_if (fun hp => ?_) (fun hp => ?_)))⟩
      · rw [if_neg hp] at hf
        exact ih (j + 1) (by omega) (by omega) hf
      · rw [if_pos hp] at hf
        rw [hf] at hk
        exact hk
  exact hloop S.1.toNat 0 (by omega) (by omega) rfl
/-- one more state -/
theorem jm_addState {n : Int} (hG : jn_Mg σ a g) (hW : jn_GW g) (hc : σ.1 92 36 = c) (hc2 : 0 ≤ c ∧ c ≤ 1) (hn : 0 ≤ n ∧ n < 48) (h13 : σ.1 (92 + 13) c = n) (hv : jn_vs g k') (h24 : jn_row σ (92 + 24) 0 k') (hx : -1 ≤ x ∧ x < 12)
    (hk : ∀ τ, jF (fun a i => (a = 92 + 13 ∧ i = c) ∨ ((a = 92 + 14 ∨ a = 92 + 15 ∨ a = 92 + 18) ∧ 65 * (48 * c + n) ≤ i ∧ i < 65 * (48 * c + n) + 65) ∨ (a = 92 + 17 ∧ i = 48 * c + n)) σ τ → τ.1 (92 + 13) c = n + 1 → jn_row τ (92 + 14) (65 * (48 * c + n)) k' → jn_row τ (92 + 15) (65 * (48 * c + n)) (jn_clo g k') → τ.1 (92 + 17) (48 * c + n) = x → (∀ i : Nat, i < 65 → τ.1 (92 + 18) (65 * (48 * c + n) + i) = 0) → K τ) : jg_CV w 2 mm_X12_addState [.ref 92, .int (.ofInt x)] σ K := by
  have ha := hG.1.2.1
  refine jb_X12_addState_0 rfl ?_
  rw [hc, jr_wr (show jr c by omega), h13]
  refine ⟨by omega, fun t ht => ?_⟩
  rw [ht]
  have hloop : ∀ (m i : Nat) (τ : jg_M), i + m = 65 → jF (fun a i => ((a = 92 + 14 ∨ a = 92 + 18) ∧ 65 * (48 * c + n) ≤ i ∧ i < 65 * (48 * c + n) + 65)) σ τ → (∀ j : Nat, j < i → τ.1 (92 + 14) (65 * (48 * c + n) + j) = jn_b (k'.testBit j = true) ∧ τ.1 (92 + 18) (65 * (48 * c + n) + j) = 0) → jg_GV w 2 mm_X12_addState 12 [.ref 92, .int (.ofInt x), .int (.ofInt n), .int (.ofInt (i : Int))] τ K := by
    intro m
    induction m with
    | zero =>
      intro i τ hi hF hj
      refine jb_X12_addState_12 rfl ?_
      have hcτ : τ.1 92 36 = c := (hF.1 _ _ (by omega)).trans hc
      rw [jr_wr (show jr (i : Int) by omega), hcτ, jr_wr (show jr (48 * c + n) by omega)]
      refine jn_ite (fun _ => ⟨by omega, ?_⟩) (fun hh => by omega)
      intro m1 hm1
      have hc1 : m1.1 92 36 = c := by rw [hm1, js_In (Or.inl (by omega))]; exact hcτ
      have hn1 : m1.1 (92 + 13) c = n := by rw [hm1, js_In (Or.inl (by omega))]; exact (hF.1 _ _ (by omega)).trans h13
      rw [hc1, jr_wr (show jr c by omega), hn1]
      refine ⟨by omega, by omega, ?_⟩
      intro m2 hm2
      have hF2 : jF (fun a i => (a = 92 + 13 ∧ i = c) ∨ ((a = 92 + 14 ∨ a = 92 + 15 ∨ a = 92 + 18) ∧ 65 * (48 * c + n) ≤ i ∧ i < 65 * (48 * c + n) + 65) ∨ (a = 92 + 17 ∧ i = 48 * c + n)) σ m2 := by
        rw [hm2, hm1]
        exact jF_toI (jF_toI (jF_mono hF (fun a i h => by omega)) (by omega)) (by omega)
      have hG2 := jn_Mg_fr hG hF2 (by omega) (by omega)
      have hc2' : m2.1 92 36 = c := (hF2.1 _ _ (by omega)).trans hc
      have hr2 : jn_row m2 (92 + 14) (65 * (48 * c + n)) k' := fun j h => by
        rw [hm2, js_In (Or.inl (by omega)), hm1, js_In (Or.inl (by omega))]; exact (hj j (by omega)).1
      refine jm_closes hG2 hW hc2' hc2 hn hv hr2 (fun τ' hF' hr15 => ?_)
      refine hk τ' (jF_tr hF2 (jF_mono hF' (fun a i h => by omega))) ?_ (jn_row_fr hr2 hF' (fun i hi => by omega)) hr15 ?_ (fun j h => ?_)
      · rw [hF'.1 _ _ (by omega), hm2, js_Is]
      · rw [hF'.1 _ _ (by omega), hm2, js_In (Or.inl (by omega)), hm1, js_Is]
      · rw [hF'.1 _ _ (by omega), hm2, js_In (Or.inl (by omega)), hm1, js_In (Or.inl (by omega))]; exact (hj j (by omega)).2
    | succ m ih =>
      intro i τ hi hF hj
      refine jb_X12_addState_12 rfl ?_
      have hcτ : τ.1 92 36 = c := (hF.1 _ _ (by omega)).trans hc
      have h24τ := (hF.1 (92 + 24) ((0 : Int) + i) (by omega)).trans (h24 i (by omega))
      rw [Int.zero_add] at h24τ
      rw [jr_wr (show jr (i : Int) by omega)]
      refine jn_ite (fun hh => by omega) (fun _ => jm_itemAt hcτ ?_)
      rw [jr_wr (by omega), h24τ, jn_nar_b]
      refine ⟨by omega, by omega, ?_⟩
      intro m1 hm1
      refine jm_itemAt (b := c) (by rw [hm1, js_In (Or.inl (by omega))]; exact hcτ) ?_
      rw [jr_wr (by omega)]
      refine ⟨by omega, ?_⟩
      rintro _ rfl
      rw [show (i : Int) + 1 = ((i + 1 : Nat) : Int) by omega]
      refine ih (i + 1) _ (by omega) (by rw [hm1]; exact jF_toI (jF_toI hF (by omega)) (by omega)) (fun j h => ?_)
      by_cases hji : j = i
      · rw [hji, js_Is, js_In (Or.inl (by omega)), hm1, js_Is]; exact ⟨rfl, rfl⟩
      · rw [js_In (Or.inl (by omega)), js_In (Or.inr (by omega)), hm1, js_In (Or.inr (by omega)), js_In (Or.inl (by omega))]; exact hj j (by omega)
  exact hloop 65 0 σ rfl jF_rf (fun j h => by omega)
theorem jn_sy_mx (h : 0 ≤ x ∧ x < 12) : jn_mx (jn_sy x) = x := by
  unfold jn_mx jn_sy
  by_cases h7 : x < 7
  · rw [if_pos h7, if_neg (by omega), if_pos (by omega)]
  · rw [if_neg h7, if_neg (by omega), if_neg (by omega)]; omega
/-- the symbols that are none change nothing -/
theorem jn_str_skip (hW : jn_GW g) {m : Nat} : jn_str g (m + 3) S s 7 = jn_str g m S s 10 := by
  have h1 : ∀ y, 7 ≤ y → y < 10 → jn_st1 g S s y = some S := by
    intro y y1 y2
    unfold jn_st1 jn_nx
    rw [jn_A_no hW ⟨y1, y2⟩, Nat.and_zero, Nat.zero_mul, if_pos rfl]
  show (match jn_st1 g S s 7 with | none => none | some S' => jn_str g (m + 2) S' s (7 + 1)) = _
  rw [h1 7 (by omega) (by omega)]
  show (match jn_st1 g S s (7 + 1) with | none => none | some S' => jn_str g (m + 1) S' s (7 + 1 + 1)) = _
  rw [h1 (7 + 1) (by omega) (by omega)]
  show (match jn_st1 g S s (7 + 1 + 1) with | none => none | some S' => jn_str g m S' s (7 + 1 + 1 + 1)) = _
  rw [h1 (7 + 1 + 1) (by omega) (by omega)]
  rfl
theorem jm_layStates (hG : jn_Mg σ a g) (hW : jn_GW g) (hc : σ.1 92 36 = c) (hc2 : 0 ≤ c ∧ c ≤ 1)
    (k0 : g 0 1 = 0 → ∀ τ, jF (jW_ls c) σ τ → τ.1 (92 + 13) c = 0 → KI 1 τ) (k1 : 0 < g 0 1 → jn_all g = none → ∀ τ, jF (jW_ls c) σ τ → KI 0 τ)
    (k2 : 0 < g 0 1 → ∀ S, jn_all g = some S → jn_IQ g S → ∀ τ, jF (jW_ls c) σ τ → jn_RM τ c g S → (∀ s x, 0 ≤ s → s < S.1 → 0 ≤ x → x < 12 → τ.1 (92 + 16) (12 * (48 * c + s) + x) = S.2.2.1 s (jn_sy x)) → KI 1 τ) : jg_CI w 3 mm_X12_layStates [.ref 92] σ KI := by
  have hw := hW.1
  have ha := hG.1.2.1
  have hGt : ∀ τ, jF (jW_ls c) σ τ → jn_Mg τ a g ∧ τ.1 92 36 = c := fun τ h => ⟨jn_Mg_fr hG h (by unfold jW_ls; omega) (by unfold jW_ls; omega), (h.1 _ _ (by unfold jW_ls; omega)).trans hc⟩
  refine jb_X12_layStates_0 rfl ?_
  rw [hc, jr_wr (show jr c by omega)]
  refine ⟨by omega, ?_⟩
  intro m1 hm1
  have hF1 : jF (jW_ls c) σ m1 := by rw [hm1]; exact jF_I (Or.inl ⟨rfl, rfl⟩)
  obtain ⟨hG1, hc1⟩ := hGt m1 hF1
  rw [hG1.1.1, jr_wr (show jr a by omega), hG1.1.2.2.2.2.2.1, jr_wr (show jr (g 0 1) by omega)]
  refine ⟨by omega, jn_ite (fun hz => k0 hz m1 hF1 (by rw [hm1, js_Is])) (fun hz => ?_)⟩
  have hnk : 0 < g 0 1 := by omega
  -- one row of a state; m symbols of the row are left in the pure process
  have hrow : ∀ (q : Nat) (m : Nat) (s x : Int) (u3 : Value) (S : jn_Q) (τ : jg_M), (m = if x < 7 then (15 - x).toNat else (12 - x).toNat) → (jn_str g m S s (jn_sy x) = none → jn_all g = none) → (∀ (u2 u3 : Value) (S' : jn_Q) (τ : jg_M), jn_str g m S s (jn_sy x) = some S' → jF (jW_ls c) σ τ → jn_IQ g S' → jn_RM τ c g S' → (∀ s' x', 0 ≤ s' → s' < s + 1 → 0 ≤ x' → x' < 12 → τ.1 (92 + 16) (12 * (48 * c + s') + x') = S'.2.2.1 s' (jn_sy x')) → S.1 ≤ S'.1 → (∀ s' x', s + 1 ≤ s' → S'.2.2.1 s' x' = -1) → jg_GI w 3 mm_X12_layStates 71 [.ref 92, .int (.ofInt (s + 1)), u2, u3] τ KI) →
      (12 - x).toNat = q → 0 ≤ x → x ≤ 12 → 0 ≤ s → s < S.1 → jF (jW_ls c) σ τ → jn_IQ g S → jn_RM τ c g S → (∀ s' x', 0 ≤ s' → (s' < s ∨ (s' = s ∧ x' < x)) → 0 ≤ x' → x' < 12 → τ.1 (92 + 16) (12 * (48 * c + s') + x') = S.2.2.1 s' (jn_sy x')) → (∀ s' x', (s < s' ∨ (s' = s ∧ jn_sy x ≤ x')) → S.2.2.1 s' x' = -1) → jg_GI w 3 mm_X12_layStates 86 [.ref 92, .int (.ofInt s), .int (.ofInt x), u3] τ KI := by
    intro q
    induction q with
    | zero =>
      intro m s x u3 S τ hm hNone hP9 hq x0 x12 s0 s1 hF hI hR hM hD
      have hI1 := hI.1
      have hx : x = 12 := by omega
      subst hx
      rw [if_neg (by omega)] at hm
      subst hm
      refine jb_X12_layStates_86 rfl ?_
      rw [show jg_wr 12 = 12 from rfl]
      refine jn_ite (fun _ => hP9 _ _ S τ rfl hF hI hR (fun s' x' q1 q2 q3 q4 => hM s' x' q1 (by omega) q3 q4) (by omega) (fun s' x' q => hD s' x' (by omega))) (fun hh => by omega)
    | succ q ih =>
      intro m s x u3 S τ hm hNone hP9 hq x0 x12 s0 s1 hF hI hR hM hD
      have hI1 := hI.1
      obtain ⟨hGτ, hcτ⟩ := hGt τ hF
      have hsy : jn_sy x = if x < 7 then x else x + 3 := rfl
      have hsyr : 0 ≤ jn_sy x ∧ jn_sy x < 15 := by rw [hsy]; split <;> omega
      obtain ⟨m', rfl⟩ : ∃ m', m = m' + 1 := ⟨m - 1, by rw [hm]; split <;> omega⟩
      refine jb_X12_layStates_86 rfl ?_
      rw [jr_wr (show jr x by omega)]
      refine jn_ite (fun hh => by omega) (fun _ => jm_moveAt hcτ ?_)
      rw [jr_wr (by omega)]
      refine ⟨by omega, ?_⟩
      intro m3 hm3
      have hF3 : jF (jW_ls c) σ m3 := by rw [hm3]; exact jF_toI hF (Or.inr (Or.inr (Or.inl ⟨rfl, by omega, by omega⟩)))
      obtain ⟨hG3, hc3⟩ := hGt m3 hF3
      have hR3 : jn_RM m3 c g S := by
        rw [hm3]
        refine ⟨(js_In (Or.inl (by omega))).trans hR.1, fun j j1 j2 => ?_⟩
        obtain ⟨r1, r2, r3, r4⟩ := hR.2 j j1 j2
        exact ⟨fun i hi => (js_In (Or.inl (by omega))).trans (r1 i hi), fun i hi => (js_In (Or.inl (by omega))).trans (r2 i hi), (js_In (Or.inl (by omega))).trans r3, fun i hi => (js_In (Or.inl (by omega))).trans (r4 i hi)⟩
      have h16 : ∀ i, m3.1 (92 + 16) i = if i = 12 * (48 * c + s) + x then -1 else τ.1 (92 + 16) i := by
        intro i
        rw [hm3, js_I]
        by_cases hi : i = 12 * (48 * c + s) + x
        · rw [if_pos ⟨rfl, hi⟩, if_pos hi]
        · rw [if_neg (fun q => hi q.2), if_neg hi]
      -- what goes on with S'
      have go : ∀ (u3 : Value) (S' : jn_Q) (τ' : jg_M), jn_st1 g S s (jn_sy x) = some S' → jF (jW_ls c) σ τ' → jn_RM τ' c g S' → τ'.1 (92 + 16) (12 * (48 * c + s) + x) = S'.2.2.1 s (jn_sy x) → (∀ i, i ≠ 12 * (48 * c + s) + x → τ'.1 (92 + 16) i = τ.1 (92 + 16) i) → jg_GI w 3 mm_X12_layStates 86 [.ref 92, .int (.ofInt s), .int (.ofInt (x + 1)), u3] τ' KI := by
        intro u3 S' τ' hst hF' hR' hv h4
        obtain ⟨hI', hle, hsame, hmv⟩ := jn_st1_IQ hW hI hsyr hst
        have hstr : jn_str g (m' + 1) S s (jn_sy x) = jn_str g m' S' s (jn_sy x + 1) := by
          show (match jn_st1 g S s (jn_sy x) with | none => none | some S' => jn_str g m' S' s (jn_sy x + 1)) = _
          rw [hst]
        -- the next symbol
        obtain ⟨m2, hm2, hs2⟩ : ∃ m2, (m2 = if x + 1 < 7 then (15 - (x + 1)).toNat else (12 - (x + 1)).toNat) ∧ jn_str g m' S' s (jn_sy x + 1) = jn_str g m2 S' s (jn_sy (x + 1)) := by
          by_cases h6 : x = 6
          · refine ⟨5, ?_, ?_⟩
            · rw [h6]; rfl
            · have : m' = 5 + 3 := by rw [h6, if_pos (by omega)] at hm; omega
              rw [this, h6]
              exact jn_str_skip hW
          · refine ⟨m', ?_, ?_⟩
            · by_cases h7 : x < 7
              · rw [if_pos h7] at hm; rw [if_pos (by omega)]; omega
              · rw [if_neg h7] at hm; rw [if_neg (by omega)]; omega
            · have : jn_sy (x + 1) = jn_sy x + 1 := by
                unfold jn_sy
                by_cases h7 : x < 7
                · rw [if_pos h7, if_pos (by omega)]
                · rw [if_neg h7, if_neg (by omega)]; omega
              rw [this]
        have hsy1 : jn_sy x < jn_sy (x + 1) := by
          unfold jn_sy
          split <;> split <;> omega
        refine ih m2 s (x + 1) u3 S' τ' hm2 (fun h => hNone ((hstr.trans hs2).trans h)) (fun v2 v3 S2 τ2 h a1 a2 a3 a4 a5 a6 => hP9 v2 v3 S2 τ2 ((hstr.trans hs2).trans h) a1 a2 a3 a4 (by omega) a6) (by omega) (by omega) (by omega) s0 (by omega) hF' hI' hR' (fun s' x' q1 q2 q3 q4 => ?_) (fun s' x' q => ?_)
        · by_cases hq : s' = s ∧ x' = x
          · rw [hq.1, hq.2]; exact hv
          · rw [h4 _ (by omega), hM s' x' q1 (by omega) q3 q4]
            refine (hmv s' (jn_sy x') ?_).symm
            by_cases hs9 : s' = s
            · refine Or.inr (fun h9 => hq ⟨hs9, ?_⟩)
              have := congrArg jn_mx h9
              rw [jn_sy_mx ⟨q3, q4⟩, jn_sy_mx ⟨x0, by omega⟩] at this
              exact this
            · exact Or.inl hs9
        · rw [hmv s' x' (by omega)]
          exact hD s' x' (by omega)
      refine jm_isNext hG3 hW hc3 hc2 (by omega) (by omega) (hI.2.1 s s0 s1) (hR3.2 s s0 s1).2.1 (fun τ4 hF4 h24 => ?_)
      have hF4' : jF (jW_ls c) σ τ4 := jF_tr hF3 (jF_mono hF4 (fun a i h => Or.inr (Or.inr (Or.inr (Or.inr h)))))
      obtain ⟨hG4, hc4⟩ := hGt τ4 hF4'
      have hR4 : jn_RM τ4 c g S := by
        refine ⟨(hF4.1 _ _ (by omega)).trans hR3.1, fun j j1 j2 => ?_⟩
        obtain ⟨r1, r2, r3, r4⟩ := hR3.2 j j1 j2
        exact ⟨jn_row_fr r1 hF4 (fun i hi => by omega), jn_row_fr r2 hF4 (fun i hi => by omega), (hF4.1 _ _ (by omega)).trans r3, fun i hi => (hF4.1 _ _ (by omega)).trans (r4 i hi)⟩
      have h16' : ∀ i, τ4.1 (92 + 16) i = if i = 12 * (48 * c + s) + x then -1 else τ.1 (92 + 16) i := fun i => (hF4.1 _ _ (by omega)).trans (h16 i)
      have hnv := jn_nx_vs (g := g) (c := S.2.1 s) (s := jn_sy x) hW
      refine jn_if (fun hp => ?_) (fun hp => ?_)
      · have hz0 : jn_nx g (S.2.1 s) (jn_sy x) = 0 := Classical.not_not.mp hp
        have hst : jn_st1 g S s (jn_sy x) = some S := by unfold jn_st1; rw [if_pos hz0]
        refine go _ S τ4 hst hF4' hR4 ?_ (fun i hi => by rw [h16', if_neg hi])
        rw [h16', if_pos rfl, hD s (jn_sy x) (by omega)]
      · have hfr := jn_fnd_rng (Kf := S.2.1) (c := jn_nx g (S.2.1 s) (jn_sy x)) (m := S.1.toNat) (j := 0)
        refine jm_stateOfKernel hc4 hc2 hI hR4 hnv.1 h24 ?_
        rw [jr_wr (show jr (jn_fnd S.2.1 (jn_nx g (S.2.1 s) (jn_sy x)) S.1.toNat 0) by omega)]
        have add : jn_fnd S.2.1 (jn_nx g (S.2.1 s) (jn_sy x)) S.1.toNat 0 = -1 → S.1 < 48 → ((0 : Int) ≤ jg_wr (τ4.1 92 36) ∧ jg_wr (τ4.1 92 36) < (2 : Int)) ∧ ∀ t111 : Int, t111 = (τ4.1 (92 + 13) (jg_wr (τ4.1 92 36))) → jg_CV w 2 mm_X12_addState [.ref 92, .int (.ofInt x)] τ4 (fun (m112 : jg_M) => jg_CI w 0 mm_X12_moveAt [.ref 92, .int (.ofInt s), .int (.ofInt x)] m112 (fun (z114 : Int) (m113 : jg_M) => ((0 : Int) ≤ (jg_wr z114) ∧ (jg_wr z114) < (1152 : Int)) ∧ ∀ m115 : jg_M, m115 = jg_sI m113 (92 + 16) (jg_wr z114) t111 → jg_GI w 3 mm_X12_layStates 86 [.ref 92, .int (.ofInt s), .int (.ofInt (x + 1)), .int (.ofInt t111)] m115 KI)) := by
          intro hf hn48
          rw [hc4, jr_wr (show jr c by omega), hR4.1]
          refine ⟨by omega, fun t ht => ?_⟩
          rw [ht]
          refine jm_addState (n := S.1) hG4 hW hc4 hc2 (by omega) hR4.1 hnv h24 (by omega) (fun τ5 hF5 b1 b2 b3 b4 b5 => ?_)
          have hF5' : jF (jW_ls c) σ τ5 := jF_tr hF4' (jF_mono hF5 (fun a i h => by unfold jW_ls; omega))
          obtain ⟨hG5, hc5⟩ := hGt τ5 hF5'
          refine jm_moveAt hc5 ?_
          rw [jr_wr (by omega)]
          refine ⟨by omega, ?_⟩
          rintro _ rfl
          have hst : jn_st1 g S s (jn_sy x) = some (S.1 + 1, jn_u1 S.2.1 S.1 (jn_nx g (S.2.1 s) (jn_sy x)), jn_u2 S.2.2.1 s (jn_sy x) S.1, jn_u1 S.2.2.2 S.1 (jn_sy x)) := by unfold jn_st1; rw [if_neg hp, if_neg (by omega), if_neg (by omega)]
          refine go _ _ _ hst (jF_toI hF5' (Or.inr (Or.inr (Or.inl ⟨rfl, by omega, by omega⟩)))) ⟨(js_In (Or.inl (by omega))).trans b1, fun j j1 j2 => ?_⟩ ?_ (fun i hi => ?_)
          · have j2 : j < S.1 + 1 := j2
            show jn_row _ _ _ (jn_u1 S.2.1 S.1 _ j) ∧ jn_row _ _ _ (jn_clo g (jn_u1 S.2.1 S.1 _ j)) ∧ _ = jn_mx (jn_u1 S.2.2.2 S.1 _ j) ∧ _
            unfold jn_u1
            by_cases hj : j = S.1
            · rw [if_pos hj, if_pos hj, hj]
              exact ⟨fun i hi => (js_In (Or.inl (by omega))).trans (b2 i hi), fun i hi => (js_In (Or.inl (by omega))).trans (b3 i hi), by rw [js_In (Or.inl (by omega)), b4, jn_sy_mx (by omega)], fun i hi => (js_In (Or.inl (by omega))).trans (b5 i hi)⟩
            · rw [if_neg hj, if_neg hj]
              obtain ⟨r1, r2, r3, r4⟩ := hR4.2 j j1 (by omega)
              exact ⟨fun i hi => (js_In (Or.inl (by omega))).trans ((hF5.1 _ _ (by omega)).trans (r1 i hi)), fun i hi => (js_In (Or.inl (by omega))).trans ((hF5.1 _ _ (by omega)).trans (r2 i hi)), (js_In (Or.inl (by omega))).trans ((hF5.1 _ _ (by omega)).trans r3), fun i hi => (js_In (Or.inl (by omega))).trans ((hF5.1 _ _ (by omega)).trans (r4 i hi))⟩
          · rw [js_Is]
            show _ = jn_u2 S.2.2.1 s (jn_sy x) S.1 s (jn_sy x)
            rw [jn_u2_s]
          · rw [js_In (Or.inr hi), hF5.1 _ _ (by omega), h16', if_neg hi]
        by_cases hf0 : 0 ≤ jn_fnd S.2.1 (jn_nx g (S.2.1 s) (jn_sy x)) S.1.toNat 0
        · refine jn_ite (fun _ => jn_ite (fun _ => jm_moveAt hc4 ?_) (fun hh => absurd hf0 hh)) (fun hh => absurd hf0 hh)
          rw [jr_wr (by omega)]
          refine ⟨by omega, ?_⟩
          rintro _ rfl
          have hst : jn_st1 g S s (jn_sy x) = some (S.1, S.2.1, jn_u2 S.2.2.1 s (jn_sy x) (jn_fnd S.2.1 (jn_nx g (S.2.1 s) (jn_sy x)) S.1.toNat 0), S.2.2.2) := by unfold jn_st1; rw [if_neg hp, if_pos hf0]
          refine go _ _ _ hst (jF_toI hF4' (Or.inr (Or.inr (Or.inl ⟨rfl, by omega, by omega⟩)))) ⟨(js_In (Or.inl (by omega))).trans hR4.1, fun j j1 j2 => ?_⟩ ?_ (fun i hi => ?_)
          · obtain ⟨r1, r2, r3, r4⟩ := hR4.2 j j1 j2
            exact ⟨fun i hi => (js_In (Or.inl (by omega))).trans (r1 i hi), fun i hi => (js_In (Or.inl (by omega))).trans (r2 i hi), (js_In (Or.inl (by omega))).trans r3, fun i hi => (js_In (Or.inl (by omega))).trans (r4 i hi)⟩
          · rw [js_Is]
            show _ = jn_u2 S.2.2.1 s (jn_sy x) _ s (jn_sy x)
            rw [jn_u2_s]
          · rw [js_In (Or.inr hi), h16', if_neg hi]
        · have hf1 : jn_fnd S.2.1 (jn_nx g (S.2.1 s) (jn_sy x)) S.1.toNat 0 = -1 := by omega
          refine jn_ite (fun hh => absurd hh hf0) (fun _ => ?_)
          rw [hc4, jr_wr (show jr c by omega), hR4.1, jr_wr (show jr S.1 by omega)]
          refine ⟨by omega, jn_ite (fun h48 => ?_) (fun h48 => jn_ite (fun hh => absurd hh hf0) (fun _ => ?_))⟩
          · have hst : jn_st1 g S s (jn_sy x) = none := by unfold jn_st1; rw [if_neg hp, if_neg hf0, if_pos h48]
            refine k1 hnk (hNone ?_) τ4 hF4'
            show (match jn_st1 g S s (jn_sy x) with | none => none | some S' => jn_str g m' S' s (jn_sy x + 1)) = none
            rw [hst]
          · have := add hf1 (by omega)
            rw [hc4, jr_wr (show jr c by omega), hR4.1] at this
            exact this
  have hst : ∀ (m : Nat) (s : Int) (u2 u3 : Value) (S : jn_Q) (τ : jg_M), jn_sta g m S s = jn_all g → s + m = 48 → 0 ≤ s → jF (jW_ls c) σ τ → jn_IQ g S → jn_RM τ c g S → (∀ s' x', 0 ≤ s' → s' < s → 0 ≤ x' → x' < 12 → τ.1 (92 + 16) (12 * (48 * c + s') + x') = S.2.2.1 s' (jn_sy x')) → (∀ s' x', s ≤ s' → S.2.2.1 s' x' = -1) → jg_GI w 3 mm_X12_layStates 71 [.ref 92, .int (.ofInt s), u2, u3] τ KI := by
    intro m
    induction m with
    | zero =>
      intro s u2 u3 S τ hall hs s0 hF hI hR hM hD
      have hI1 := hI.1
      obtain ⟨hGτ, hcτ⟩ := hGt τ hF
      refine jb_X12_layStates_71 rfl ?_
      rw [hcτ, jr_wr (show jr c by omega), hR.1, jr_wr (show jr S.1 by omega), jr_wr (show jr s by omega)]
      exact ⟨by omega, jn_ite (fun _ => k2 hnk S hall.symm hI τ hF hR (fun s' x' q1 q2 q3 q4 => hM s' x' q1 (by omega) q3 q4)) (fun hh => by omega)⟩
    | succ m ih =>
      intro s u2 u3 S τ hall hs s0 hF hI hR hM hD
      have hI1 := hI.1
      obtain ⟨hGτ, hcτ⟩ := hGt τ hF
      refine jb_X12_layStates_71 rfl ?_
      rw [hcτ, jr_wr (show jr c by omega), hR.1, jr_wr (show jr S.1 by omega), jr_wr (show jr s by omega)]
      have e0 : jn_sta g (m + 1) S s = if s < S.1 then (match jn_str g 15 S s 0 with | none => none | some S' => jn_sta g m S' (s + 1)) else some S := rfl
      refine ⟨by omega, jn_ite (fun hge => ?_) (fun hlt => ?_)⟩
      · rw [e0, if_neg (by omega)] at hall
        exact k2 hnk S hall.symm hI τ hF hR (fun s' x' q1 q2 q3 q4 => hM s' x' q1 (by omega) q3 q4)
      · rw [e0, if_pos (by omega)] at hall
        refine hrow _ 15 s 0 u3 S τ rfl (fun h => by rw [show jn_sy 0 = 0 from rfl] at h; rw [h] at hall; exact hall.symm) (fun v2 v3 S' τ' h a1 a2 a3 a4 a5 a6 => ?_) rfl (by omega) (by omega) s0 (by omega) hF hI hR (fun s' x' q1 q2 q3 q4 => hM s' x' q1 (by omega) q3 q4) (fun s' x' q => hD s' x' (by omega))
        rw [show jn_sy 0 = 0 from rfl] at h
        rw [h] at hall
        exact ih (s + 1) _ _ S' τ' hall (by omega) (by omega) a1 a2 a3 a4 a6
  have hini : ∀ (m i : Nat) (u2 u3 : Value) (τ : jg_M), i + m = 65 → jF (fun a i => a = 92 + 24) m1 τ → (∀ j : Nat, j < i → τ.1 (92 + 24) j = jn_b ((2 ^ (5 * (g 0 2).toNat)).testBit j = true)) → jg_GI w 3 mm_X12_layStates 26 [.ref 92, .int (.ofInt (i : Int)), u2, u3] τ KI := by
    intro m
    induction m with
    | zero =>
      intro i u2 u3 τ hi hF hj
      have hF' : jF (jW_ls c) σ τ := jF_tr hF1 (jF_mono hF (fun a i h => by unfold jW_ls; omega))
      obtain ⟨hGτ, hcτ⟩ := hGt τ hF'
      refine jb_X12_layStates_26 rfl ?_
      rw [jr_wr (show jr (i : Int) by omega)]
      have hI0 := jn_S0_IQ (g := g) hW
      have hv0 := hI0.2.1 0 (by omega) (by show (0 : Int) < 1; omega)
      refine jn_ite (fun _ => jm_addState (n := 0) (k' := 2 ^ (5 * (g 0 2).toNat)) hGτ hW hcτ hc2 (by omega) ?_ hv0 (fun j h => ?_) (by omega) (fun τ5 hF5 b1 b2 b3 b4 b5 => ?_)) (fun hh => by omega)
      · rw [hF.1 _ _ (by omega), hm1, js_Is]
      · rw [Int.zero_add]; exact hj j (by omega)
      · refine hst 48 0 _ _ (jn_S0 g) τ5 rfl (by omega) (by omega) (jF_tr hF' (jF_mono hF5 (fun a i h => by unfold jW_ls; omega))) hI0 ⟨b1, fun j j1 j2 => ?_⟩ (fun s' x' q1 q2 => by omega) (fun _ _ _ => rfl)
        have j2 : j < 1 := j2
        have hj0 : j = 0 := by omega
        rw [hj0]
        exact ⟨b2, b3, b4, b5⟩
    | succ m ih =>
      intro i u2 u3 τ hi hF hj
      have hF' : jF (jW_ls c) σ τ := jF_tr hF1 (jF_mono hF (fun a i h => by unfold jW_ls; omega))
      obtain ⟨hGτ, hcτ⟩ := hGt τ hF'
      refine jb_X12_layStates_26 rfl ?_
      rw [jr_wr (show jr (i : Int) by omega), hGτ.1.1, jr_wr (show jr a by omega), hGτ.1.2.2.2.2.2.2, jr_wr (show jr (5 * g 0 2) by omega)]
      have nxt : ∀ v : Int, v = jn_b ((2 ^ (5 * (g 0 2).toNat)).testBit i = true) → jg_GI w 3 mm_X12_layStates 26 [.ref 92, .int (.ofInt ((i : Int) + 1)), u2, u3] (jg_sI τ (92 + 24) (i : Int) v) KI := by
        intro v hv
        rw [show (i : Int) + 1 = ((i + 1 : Nat) : Int) by omega]
        refine ih (i + 1) _ _ _ (by omega) (jF_toI hF rfl) (fun j h => ?_)
        by_cases hji : j = i
        · rw [hji, js_Is]; exact hv
        · rw [js_In (Or.inr (by omega))]; exact hj j (by omega)
      refine jn_ite (fun hh => by omega) (fun _ => ⟨by omega, jn_ite (fun hq => ⟨by omega, ?_⟩) (fun hq => ⟨by omega, ?_⟩)⟩)
      · rintro _ rfl
        refine nxt _ ?_
        rw [jn_b_t (by rw [Nat.testBit_two_pow]; exact decide_eq_true (by omega))]
        rfl
      · rintro _ rfl
        refine nxt _ ?_
        rw [jn_b_f (by rw [Nat.testBit_two_pow, decide_eq_false (by omega)]; decide)]
        rfl
  exact hini 65 0 _ _ m1 rfl jF_rf (fun j h => by omega)
end JMS
