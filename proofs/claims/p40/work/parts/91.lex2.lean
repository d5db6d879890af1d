/-! TEXT: the class' reader of TOKENS, all of it -/
section KTB
variable {w : Nat} {σ τ : jg_M} {a n p q k : Nat} {B : Nat → Int} {P : Int → Bool} {KV : jg_M → Prop} {KI : Int → jg_M → Prop} {x : Int}
theorem kt_lk_end (h : q ≤ a + k) : ∀ {m : Nat}, kt_lk B a q (k + m) = kt_lk B a q k * 32 ^ m
  | 0 => by rw [Nat.add_zero, Nat.pow_zero, Nat.mul_one]
  | m + 1 => by
    show kt_lk B a q (k + m) * 32 + (if a + (k + m) < q then _ else 0) = _
    rw [if_neg (by omega), kt_lk_end h, Nat.pow_succ, Nat.add_zero, Nat.mul_assoc]
theorem kt_p32 (m : Nat) : 32 ^ m = 2 ^ (5 * m) := by rw [Nat.pow_mul]
theorem jc_passWord (h0 : jg_sh a = (9, 0)) (hB : kt_By σ a B n) (hp : p < n) (h4 : σ.1 a 4 = (p : Nat)) (h6 : σ.1 a 6 = (p : Nat)) (hk : ∀ τ, jF (kW_ad a) σ τ → τ.1 a 5 = (if kt_ru kt_le B n p - p ≤ 6 then 0 else 4) → τ.1 a 6 = (p : Nat) → τ.1 a 4 = (kt_ru kt_le B n p : Nat) → (kt_ru kt_le B n p - p ≤ 6 → τ.1 a 7 = (kt_lk B p (kt_ru kt_le B n p) 6 : Nat)) → KV τ) : jg_CV w 1 mm_X9_passWord [.ref a] σ KV := by
  have h7 := hB.2.1
  have hrun := kt_ru_le (n := n) (P := kt_le) (B := B) (f := n - p) (p := p) rfl
  have hend := hrun.2.1 (by omega)
  have hlet : ∀ i, p ≤ i → i < kt_ru kt_le B n p → 97 ≤ B i ∧ B i ≤ 122 := fun i i1 i2 => of_decide_eq_true (hrun.2.2 i i1 i2).2
  have hloop : ∀ (m q : Nat) (τ : jg_M) (u : Value), q + m = kt_ru kt_le B n p → p ≤ q → kt_ru kt_le B n q = kt_ru kt_le B n p → jF (kW_ad a) σ τ → τ.1 a 6 = (p : Nat) → τ.1 a 4 = (q : Nat) → (q - p ≤ 6 → τ.1 a 7 = (kt_lk B p (kt_ru kt_le B n p) (q - p) * 32 ^ (6 - (q - p)) : Nat)) → jg_GV w 1 mm_X9_passWord 5 [.ref a, u] τ KV := by
    intro m
    induction m with
    | zero =>
      intro q τ u hq hpq hru hf h6 h4 hl
      have hBτ := kt_By_fr hB hf (fun q => by unfold kW_ad at q; omega) (fun i q => by unfold kW_ad at q; omega)
      have hfin : ∀ v τ', v = (if kt_ru kt_le B n p - p ≤ 6 then (0 : Int) else 4) → τ' = jg_sI τ a 5 v → KV τ' := by
        rintro v _ hv rfl
        refine hk _ (jF_toI hf ⟨rfl, by omega, by omega⟩) (by rw [js_Is, hv]) (by rw [js_In (Or.inr (by omega))]; exact h6) ?_ (fun h66 => ?_)
        · rw [js_In (Or.inr (by omega)), h4, ← hq]; rfl
        · rw [js_In (Or.inr (by omega)), hl (by omega)]
          have := kt_lk_end (B := B) (a := p) (q := kt_ru kt_le B n p) (k := q - p) (by omega) (m := 6 - (q - p))
          rw [show q - p + (6 - (q - p)) = 6 by omega] at this
          rw [this]
      have hif : ∀ Z : Prop, (Z = ((if jg_wr (τ.1 a 4 - τ.1 a 6) ≤ 6 then ∀ m101 : jg_M, m101 = jg_sI τ a 5 0 → KV m101 else ∀ m102 : jg_M, m102 = jg_sI τ a 5 4 → KV m102))) → Z := fun Z hZ => by
        rw [hZ, h4, h6, jr_wr (show jr ((q : Int) - (p : Int)) by omega)]
        refine jn_ite (fun h => fun τ' hτ' => hfin 0 τ' ?_ hτ') (fun h => fun τ' hτ' => hfin 4 τ' ?_ hτ')
        · rw [if_pos (by omega)]
        · rw [if_neg (by omega)]
      refine jb_X9_passWord_5 h0 ?_
      rw [hBτ.1]
      refine jn_ite (fun _ => hif _ rfl) (fun hlt => ?_)
      rw [h4, jr_wr (show jr (n : Int) by omega), jr_wr (show jr (q : Int) by omega)] at hlt
      rw [h4]
      refine jc_signAt h0 hBτ (by omega) ?_
      rw [if_pos (show q < n by omega)]
      have hb := hB.2.2.2 q
      refine jc_isLetter (by omega) (jn_if (fun _ => hif _ (by rw [h4])) (fun hd => ?_))
      have h1 := kt_ru_in (n := n) (P := kt_le) (B := B) (show q < n by omega) hd
      have h2 := (kt_ru_le (n := n) (P := kt_le) (B := B) (f := n - (q + 1)) (p := q + 1) rfl).1
      omega
    | succ m ih =>
      intro q τ u hq hpq hru hf h6 h4 hl
      have hBτ := kt_By_fr hB hf (fun q => by unfold kW_ad at q; omega) (fun i q => by unfold kW_ad at q; omega)
      have hqn := hrun.2.2 q hpq (by omega)
      have hd := hlet q hpq (by omega)
      refine jb_X9_passWord_5 h0 ?_
      rw [hBτ.1, h4, jr_wr (show jr (n : Int) by omega), jr_wr (show jr (q : Int) by omega)]
      refine jn_ite (fun h => by omega) (fun _ => jc_signAt h0 hBτ (by omega) ?_)
      rw [if_pos hqn.1]
      refine jc_isLetter (by omega) (jn_if (fun h => absurd hqn.2 h) (fun _ => ?_))
      intro t9 ht9
      rw [h4, h6] at ht9
      have et : t9 = ((q - p : Nat) : Int) := by omega
      rw [et, jr_wr (show jr ((q - p : Nat) : Int) by omega), h4]
      refine jn_ite (fun hge => ?_) (fun hlt => ?_)
      · rintro _ rfl
        refine ih (q + 1) _ _ (by omega) (by omega) (by rw [← kt_ru_in hqn.1 hqn.2]; exact hru) (jF_toI hf ⟨rfl, by omega, by omega⟩) (by rw [js_In (Or.inr (by omega))]; exact h6) (by rw [js_Is]; omega) (fun h => by omega)
      · refine jc_signAt h0 hBτ (by omega) ?_
        rw [if_pos hqn.1]
        intro τ1 h1
        rintro _ rfl
        have hl' := hl (by omega)
        generalize hj : q - p = j at *
        have hlk := kt_lk_lt (a := p) (q := kt_ru kt_le B n p) (B := B) hlet (k := j)
        have hkj : kt_lk B p (kt_ru kt_le B n p) (j + 1) = kt_lk B p (kt_ru kt_le B n p) j * 32 + (B q - 96).toNat := by
          show _ * 32 + (if p + j < kt_ru kt_le B n p then (B (p + j) - 96).toNat else 0) = _
          rw [if_pos (by omega), show p + j = q by omega]
        generalize hkk : kt_lk B p (kt_ru kt_le B n p) j = kk at *
        have hl27 : (B q - 96).toNat < 32 := by omega
        generalize hlv : (B q - 96).toNat = lv at *
        have e1 : B q - 97 + 1 = (lv : Int) := by omega
        have e2 : (5 - (j : Int)) * 5 = (((5 - j) * 5 : Nat) : Int) := by omega
        have hp5 : 2 ^ ((5 - j) * 5) = 32 ^ (5 - j) := by rw [Nat.mul_comm, kt_p32]
        have hb1 : 32 ^ (5 - j) ≤ 32 ^ 5 := Nat.pow_le_pow_right (by decide) (by omega)
        have hb5 : (32 : Nat) ^ 5 = 33554432 := by decide
        have hlm : lv * 32 ^ (5 - j) < 32 ^ (6 - j) := by
          rw [show 6 - j = (5 - j) + 1 by omega, Nat.pow_succ, Nat.mul_comm]
          exact Nat.mul_lt_mul_of_pos_left hl27 (Nat.pow_pos (by decide))
        have hshl : jg_shl (B q - 97 + 1) ((5 - (j : Int)) * 5) = ((lv * 32 ^ (5 - j) : Nat) : Int) := by
          rw [e1, e2, jb_shl (by omega) (by rw [hp5]; have : lv * 32 ^ (5 - j) ≤ 31 * 33554432 := Nat.mul_le_mul (by omega) (by omega); omega), hp5]
        have h66 : 32 ^ (6 - j) ≤ 32 ^ 6 := Nat.pow_le_pow_right (by decide) (by omega)
        have h6v : (32 : Nat) ^ 6 = 1073741824 := by decide
        have hkl : kk * 32 ^ (6 - j) < 1073741824 := by
          have : kk * 32 ^ (6 - j) < 32 ^ j * 32 ^ (6 - j) := Nat.mul_lt_mul_of_pos_right hlk (Nat.pow_pos (by decide))
          rw [← Nat.pow_add, show j + (6 - j) = 6 by omega, h6v] at this
          exact this
        have hor : jg_or (τ.1 a 7) (jg_shl (B q - 97 + 1) ((5 - (j : Int)) * 5)) = (((kk * 32 + lv) * 32 ^ (5 - j) : Nat) : Int) := by
          rw [hl', hshl, jb_or (by omega) (by omega), kt_p32 (6 - j), kt_or32 (by rw [← kt_p32]; exact hlm), ← kt_p32]
          congr 1
          rw [show 6 - j = (5 - j) + 1 by omega, Nat.pow_succ, Nat.add_mul, Nat.mul_assoc, Nat.mul_comm (32 ^ (5 - j)) 32]
        refine ih (q + 1) _ _ (by omega) (by omega) (by rw [← kt_ru_in hqn.1 hqn.2]; exact hru) (jF_toI (by rw [h1]; exact jF_toI hf ⟨rfl, by omega, by omega⟩) ⟨rfl, by omega, by omega⟩) ?_ ?_ (fun _ => ?_)
        · rw [js_In (Or.inr (by omega)), h1, js_In (Or.inr (by omega))]; exact h6
        · rw [js_Is, h1, js_In (Or.inr (by omega)), h4]; omega
        · rw [js_In (Or.inr (by omega)), h1, js_Is, hor, show q + 1 - p = j + 1 by omega, hkj, show 6 - (j + 1) = 5 - j by omega]
  refine jb_X9_passWord_0 h0 ?_
  rintro _ rfl
  refine hloop (kt_ru kt_le B n p - p) p _ _ (by omega) (Nat.le_refl p) rfl (jF_I ⟨rfl, by omega, by omega⟩) (by rw [js_In (Or.inr (by omega))]; exact h6) (by rw [js_In (Or.inr (by omega))]; exact h4) (fun _ => ?_)
  rw [js_Is, Nat.sub_self]
  show (0 : Int) = ((0 * 32 ^ (6 - 0) : Nat) : Int)
  rw [Nat.zero_mul]
  rfl
theorem jc_advance (h0 : jg_sh a = (9, 0)) (hB : kt_By σ a B n) (hp : p ≤ n) (h4 : σ.1 a 4 = (p : Nat)) (hk : ∀ τ, jF (kW_ad a) σ τ → kt_Ca τ a (kt_tk B n p) → KV τ) : jg_CV w 2 mm_X9_advance [.ref a] σ KV := by
  have h7 := hB.2.1
  have hrun := kt_ru_le (n := n) (P := kt_bl) (B := B) (f := n - p) (p := p) rfl
  have hs := hrun.2.1 hp
  have hb := hB.2.2.2 (kt_ru kt_bl B n p)
  -- what is done at the start of a token
  have hat : ∀ (τ : jg_M) (KV' : jg_M → Prop), (∀ τ', KV τ' → KV' τ') → jF (kW_ad a) σ τ → τ.1 a 4 = (kt_ru kt_bl B n p : Nat) → ∀ τ1, τ1 = jg_sI τ a 6 (τ.1 a 4) →
      jg_CI w 0 mm_X9_signAt [.ref a, .int (.ofInt (τ1.1 a 4))] τ1 (fun (z103 : Int) (m102 : jg_M) => (if jg_wr z103 = (-1) then ∀ m104 : jg_M, m104 = jg_sI m102 a 5 3 → KV' m104 else jg_CI w 0 mm_X9_isLetter [.int (.ofInt z103)] m102 (fun (z106 : Int) (m105 : jg_M) => (if jg_wr z106 = 0 then jg_CI w 0 mm_X9_isDigit [.int (.ofInt z103)] m105 (fun (z108 : Int) (m107 : jg_M) => (if jg_wr z108 = 0 then (if jg_wr z103 = 59 then ∀ m109 : jg_M, m109 = jg_sI m107 a 5 2 → ∀ m110 : jg_M, m110 = jg_sI m109 a 4 ((m109.1 a 4) + 1) → KV' m110 else ∀ m111 : jg_M, m111 = jg_sI m107 a 5 4 → ∀ m112 : jg_M, m112 = jg_sI m111 a 4 ((m111.1 a 4) + 1) → KV' m112) else jg_CV w 1 mm_X9_passNumber [.ref a] m107 (fun (m113 : jg_M) => KV' m113))) else jg_CV w 1 mm_X9_passWord [.ref a] m105 (fun (m114 : jg_M) => KV' m114))))) := by
    intro τ KV' hKV hf hpos τ1 hτ1
    have hf1 : jF (kW_ad a) σ τ1 := by rw [hτ1]; exact jF_toI hf ⟨rfl, by omega, by omega⟩
    have h41 : τ1.1 a 4 = (kt_ru kt_bl B n p : Nat) := by rw [hτ1, js_In (Or.inr (by omega))]; exact hpos
    have h61 : τ1.1 a 6 = (kt_ru kt_bl B n p : Nat) := by rw [hτ1, js_Is]; exact hpos
    have hB1 := kt_By_fr hB hf1 (fun q => by unfold kW_ad at q; omega) (fun i q => by unfold kW_ad at q; omega)
    have hcase := fun (t : kt_T) (h : kt_tk B n p = t) => h
    unfold kt_tk at hcase
    generalize hsv : kt_ru kt_bl B n p = s at *
    rw [h41]
    refine jc_signAt h0 hB1 (by omega) ?_
    by_cases hn : n ≤ s
    · rw [show (if s < n then B s else -1) = -1 from if_neg (by omega)]
      refine jn_ite (fun _ => ?_) (fun h => absurd (show jg_wr (-1) = -1 by decide) h)
      rintro _ rfl
      refine hKV _ (hk _ (jF_toI hf1 ⟨rfl, by omega, by omega⟩) ?_)
      have e : kt_tk B n p = (3, s, s, 0) := by unfold kt_tk; rw [hsv, if_pos hn]
      rw [e]
      exact ⟨js_Is, by rw [js_In (Or.inr (by omega))]; exact h61, by rw [js_In (Or.inr (by omega))]; exact h41, fun h => absurd (show (3 : Int) = 0 from h) (by decide), fun h => absurd (show (3 : Int) = 1 from h) (by decide)⟩
    · rw [show (if s < n then B s else -1) = B s from if_pos (by omega), jr_wr (show jr (B s) by omega)]
      refine jn_ite (fun h => by omega) (fun _ => jc_isLetter (by omega) (jn_if (fun hnl => jc_isDigit (by omega) (jn_if (fun hnd => jn_ite (fun h59 => ?_) (fun h59 => ?_)) (fun hd => ?_))) (fun hl => ?_)))
      · rintro _ rfl _ rfl
        refine hKV _ (hk _ (jF_toI (jF_toI hf1 ⟨rfl, by omega, by omega⟩) ⟨rfl, by omega, by omega⟩) ?_)
        have e : kt_tk B n p = (2, s, s + 1, 0) := by unfold kt_tk; rw [hsv, if_neg hn, if_neg hnl, if_neg hnd, if_pos h59]
        rw [e]
        refine ⟨by rw [js_In (Or.inr (by omega)), js_Is], by rw [js_In (Or.inr (by omega)), js_In (Or.inr (by omega))]; exact h61, ?_, fun h => absurd (show (2 : Int) = 0 from h) (by decide), fun h => absurd (show (2 : Int) = 1 from h) (by decide)⟩
        rw [js_Is, js_In (Or.inr (by omega)), h41]
        show (s : Int) + 1 = ((s + 1 : Nat) : Int)
        omega
      · rintro _ rfl _ rfl
        refine hKV _ (hk _ (jF_toI (jF_toI hf1 ⟨rfl, by omega, by omega⟩) ⟨rfl, by omega, by omega⟩) ?_)
        have e : kt_tk B n p = (4, s, s + 1, 0) := by unfold kt_tk; rw [hsv, if_neg hn, if_neg hnl, if_neg hnd, if_neg h59]
        rw [e]
        refine ⟨by rw [js_In (Or.inr (by omega)), js_Is], by rw [js_In (Or.inr (by omega)), js_In (Or.inr (by omega))]; exact h61, ?_, fun h => absurd (show (4 : Int) = 0 from h) (by decide), fun h => absurd (show (4 : Int) = 1 from h) (by decide)⟩
        rw [js_Is, js_In (Or.inr (by omega)), h41]
        show (s : Int) + 1 = ((s + 1 : Nat) : Int)
        omega
      · refine jc_passNumber h0 hB1 (by omega) h41 (fun τ2 hf2 g5 g6 g4 g8 => hKV _ (hk _ (jF_tr hf1 hf2) ?_))
        have e : kt_tk B n p = (1, s, kt_ru kt_di B n s, kt_nu B s (kt_ru kt_di B n s - s)) := by unfold kt_tk; rw [hsv, if_neg hn, if_neg hnl, if_pos hd]
        rw [e]
        exact ⟨g5, g6.trans h61, g4, fun h => absurd (show (1 : Int) = 0 from h) (by decide), fun _ => g8⟩
      · refine jc_passWord h0 hB1 (by omega) h41 h61 (fun τ2 hf2 g5 g6 g4 g7 => hKV _ (hk _ (jF_tr hf1 hf2) ?_))
        by_cases h66 : kt_ru kt_le B n s - s ≤ 6
        · have e : kt_tk B n p = ((0, s, kt_ru kt_le B n s, ((kt_lk B s (kt_ru kt_le B n s) 6 : Nat) : Int)) : kt_T) := by unfold kt_tk; rw [hsv, if_neg hn, if_pos hl, if_pos h66]
          rw [e]
          rw [if_pos h66] at g5
          exact ⟨g5, g6, g4, fun _ => g7 h66, fun h => absurd (show (0 : Int) = 1 from h) (by decide)⟩
        · have e : kt_tk B n p = (4, s, kt_ru kt_le B n s, 0) := by unfold kt_tk; rw [hsv, if_neg hn, if_pos hl, if_neg h66]
          rw [e]
          rw [if_neg h66] at g5
          exact ⟨g5, g6, g4, fun h => absurd (show (4 : Int) = 0 from h) (by decide), fun h => absurd (show (4 : Int) = 1 from h) (by decide)⟩
  have hloop : ∀ (m q : Nat) (τ : jg_M) (u : Value), q + m = kt_ru kt_bl B n p → p ≤ q → kt_ru kt_bl B n q = kt_ru kt_bl B n p → jF (kW_ad a) σ τ → τ.1 a 4 = (q : Nat) → jg_GV w 2 mm_X9_advance 0 [.ref a, u] τ KV := by
    intro m
    induction m with
    | zero =>
      intro q τ u hq hpq hru hf h4
      have hBτ := kt_By_fr hB hf (fun q => by unfold kW_ad at q; omega) (fun i q => by unfold kW_ad at q; omega)
      refine jb_X9_advance_0 h0 ?_
      rw [hBτ.1]
      refine jn_ite (fun _ => fun τ1 hτ1 => hat τ KV (fun _ h => h) hf (by rw [h4, ← hq]; rfl) τ1 hτ1) (fun hlt => ?_)
      rw [h4, jr_wr (show jr (n : Int) by omega), jr_wr (show jr (q : Int) by omega)] at hlt
      rw [h4]
      refine jc_signAt h0 hBτ (by omega) ?_
      rw [if_pos (show q < n by omega)]
      have hbq := hB.2.2.2 q
      refine jc_isBlank (by omega) (jn_if (fun _ => fun τ1 hτ1 => ?_) (fun hbl => ?_))
      · exact hat τ KV (fun _ h => h) hf (by rw [h4, ← hq]; rfl) τ1 (by rw [hτ1, h4])
      · have h1 := kt_ru_in (n := n) (P := kt_bl) (B := B) (show q < n by omega) hbl
        have h2 := (kt_ru_le (n := n) (P := kt_bl) (B := B) (f := n - (q + 1)) (p := q + 1) rfl).1
        omega
    | succ m ih =>
      intro q τ u hq hpq hru hf h4
      have hBτ := kt_By_fr hB hf (fun q => by unfold kW_ad at q; omega) (fun i q => by unfold kW_ad at q; omega)
      have hqn := hrun.2.2 q hpq (by omega)
      have hbq := hB.2.2.2 q
      refine jb_X9_advance_0 h0 ?_
      rw [hBτ.1, h4, jr_wr (show jr (n : Int) by omega), jr_wr (show jr (q : Int) by omega)]
      refine jn_ite (fun h => by omega) (fun _ => jc_signAt h0 hBτ (by omega) ?_)
      rw [if_pos hqn.1]
      refine jc_isBlank (by omega) (jn_if (fun h => absurd hqn.2 h) (fun _ => ?_))
      rintro _ rfl
      refine ih (q + 1) _ _ (by omega) (by omega) (by rw [← kt_ru_in hqn.1 hqn.2]; exact hru) (jF_toI hf ⟨rfl, by omega, by omega⟩) (by rw [js_Is, h4]; omega)
  exact hloop (kt_ru kt_bl B n p - p) p σ _ (by omega) (Nat.le_refl p) rfl jF_rf h4
end KTB
