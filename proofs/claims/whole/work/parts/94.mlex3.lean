/-! TEXT: the reference's reader of TOKENS: all of it -/
section KTE
variable {w : Nat} {σ τ : jg_M} {a b n p q k m F : Nat} {B : Nat → Int} {P : Int → Bool} {KV : jg_M → Prop} {KI : Int → jg_M → Prop} {x : Int}
theorem jm_s135 {u1 : Value} {x2 x3 : Int} (h2 : jr x2) (h3 : jr x3) (hc : jr (σ.1 92 9)) (hk : ∀ τ, jF kW_nx σ τ → τ.1 92 8 = 5 → τ.1 92 10 = σ.1 92 10 → KV τ) : jg_GV w 0 mm_X12_signToken 135 [.ref 92, u1, .int (.ofInt x2), .int (.ofInt x3)] σ KV := by
  refine jb_X12_signToken_135 rfl ?_
  rintro _ rfl
  have hfin : ∀ v τ', τ' = jg_sI (jg_sI σ 92 8 5) 92 9 v → KV τ' := by
    rintro v _ rfl
    exact hk _ (jF_toI (jF_I ⟨rfl, by omega, by omega⟩) ⟨rfl, by omega, by omega⟩) (by rw [js_In (Or.inr (by omega)), js_Is]) (by rw [js_In (Or.inr (by omega)), js_In (Or.inr (by omega))])
  refine jn_ite (fun _ => jb_X12_signToken_192 rfl (fun τ' h => hfin _ τ' h)) (fun _ => jn_ite (fun _ => jn_ite (fun _ => jn_ite (fun _ => jb_X12_signToken_192 rfl (fun τ' h => hfin _ τ' h)) (fun _ => jb_X12_signToken_192 rfl (fun τ' h => hfin _ τ' h))) (fun _ => jb_X12_signToken_192 rfl (fun τ' h => hfin _ τ' h))) (fun _ => jn_ite (fun _ => jb_X12_signToken_192 rfl (fun τ' h => hfin _ τ' h)) (fun _ => jb_X12_signToken_192 rfl (fun τ' h => hfin _ τ' h))))
theorem jm_s50 {u1 u2 u3 : Value} (hB : kt_Bm σ B n) (hp : p ≤ n) (h7 : σ.1 92 7 = (p : Nat)) (hc : jr (σ.1 92 9)) (hk : ∀ τ, jF kW_nx σ τ → τ.1 92 8 = 5 → τ.1 92 10 = σ.1 92 10 → KV τ) : jg_GV w 0 mm_X12_signToken 50 [.ref 92, u1, u2, u3] σ KV := by
  have h700 := hB.2.1
  have h135 : ∀ x1 x2 x3 : Int, jr x2 → jr x3 → jg_GV w 0 mm_X12_signToken 135 [.ref 92, .int (.ofInt x1), .int (.ofInt x2), .int (.ofInt x3)] σ KV := fun x1 x2 x3 a2 a3 => jm_s135 a2 a3 hc hk
  have h125 : ∀ x1 x2 x3 : Int, jr x2 → jr x3 → jg_GV w 0 mm_X12_signToken 125 [.ref 92, .int (.ofInt x1), .int (.ofInt x2), .int (.ofInt x3)] σ KV := fun x1 x2 x3 a2 a3 => by
    refine jb_X12_signToken_125 rfl ?_
    rintro _ rfl
    refine jm_s135 a2 a3 (by rw [js_In (Or.inr (by omega))]; exact hc) (fun τ hf h8 h10 => hk τ (jF_tr (jF_I ⟨rfl, by omega, by omega⟩) hf) h8 (by rw [h10, js_In (Or.inr (by omega))]))
  have h116 : ∀ x1 x2 y : Int, jr x2 → jr y → ∀ u3, jg_G w 0 mm_X12_signToken 116 [.ref 92, .int (.ofInt x1), .int (.ofInt x2), u3] [.int (.ofInt y)] σ (jg_QV KV) := fun x1 x2 y a2 a3 u3 => jb_X12_signToken_116 rfl (jn_ite (fun _ => jn_ite (fun _ => h135 x1 x2 y a2 a3) (fun _ => h125 x1 x2 y a2 a3)) (fun _ => h125 x1 x2 y a2 a3))
  have h115 : ∀ x1 x2 : Int, jr x2 → ∀ u3, jg_GV w 0 mm_X12_signToken 115 [.ref 92, .int (.ofInt x1), .int (.ofInt x2), u3] σ KV := fun x1 x2 a2 u3 => jb_X12_signToken_115 rfl (h116 x1 x2 0 a2 (by decide) u3)
  have h95 : ∀ x1 y : Int, jr y → ∀ u2 u3, jg_G w 0 mm_X12_signToken 95 [.ref 92, .int (.ofInt x1), u2, u3] [.int (.ofInt y)] σ (jg_QV KV) := fun x1 y a2 u2 u3 => jb_X12_signToken_95 rfl (jn_ite (fun _ => jn_ite (fun _ => h116 x1 y 1 a2 (by decide) u3) (fun _ => h115 x1 y a2 u3)) (fun _ => h115 x1 y a2 u3))
  have h94 : ∀ x1 : Int, ∀ u2 u3, jg_GV w 0 mm_X12_signToken 94 [.ref 92, .int (.ofInt x1), u2, u3] σ KV := fun x1 u2 u3 => jb_X12_signToken_94 rfl (h95 x1 0 (by decide) u2 u3)
  have h74 : ∀ y : Int, ∀ u1 u2 u3, jg_G w 0 mm_X12_signToken 74 [.ref 92, u1, u2, u3] [.int (.ofInt y)] σ (jg_QV KV) := fun y u1 u2 u3 => jb_X12_signToken_74 rfl (jn_ite (fun _ => h94 y u2 u3) (fun _ => jn_ite (fun _ => h95 y 1 (by decide) u2 u3) (fun _ => h94 y u2 u3)))
  refine jb_X12_signToken_50 rfl ?_
  rw [hB.1, h7, jr_wr (show jr (n : Int) by omega), jr_wr (show jr (p : Int) by omega)]
  exact jn_ite (fun _ => h74 0 _ _ _) (fun h => ⟨by omega, h74 _ _ _ _⟩)
theorem jm_signToken (hB : kt_Bm σ B n) (hp : p < n) (h7 : σ.1 92 7 = (p : Nat)) (hk : ∀ τ, jF kW_nx σ τ → τ.1 92 10 = σ.1 92 10 → (B p = 59 → τ.1 92 8 = 4 ∧ τ.1 92 9 = 59 ∧ τ.1 92 7 = ((p + 1 : Nat) : Int)) → (B p ≠ 59 → τ.1 92 8 = 5 ∨ τ.1 92 8 = 6 ∨ (τ.1 92 8 = 4 ∧ τ.1 92 9 ≠ 59 ∧ jr (τ.1 92 9))) → KV τ) : jg_CV w 0 mm_X12_signToken [.ref 92] σ KV := by
  have h700 := hB.2.1
  have hb := hB.2.2.2 p
  refine jb_X12_signToken_0 rfl ?_
  rw [h7, jr_wr (show jr (p : Int) by omega), hB.2.2.1 p hp]
  refine ⟨by omega, ?_⟩
  intro τ1 h1 τ2 h2
  have hf2 : jF kW_nx σ τ2 := by rw [h2, h1]; exact jF_toI (jF_I ⟨rfl, by omega, by omega⟩) ⟨rfl, by omega, by omega⟩
  have e9 : τ2.1 92 9 = B p := by rw [h2, js_In (Or.inr (by omega)), h1, js_Is]
  have e7 : τ2.1 92 7 = ((p + 1 : Nat) : Int) := by rw [h2, js_Is, h1, js_In (Or.inr (by omega)), h7]; omega
  have e10 : τ2.1 92 10 = σ.1 92 10 := by rw [h2, js_In (Or.inr (by omega)), h1, js_In (Or.inr (by omega))]
  have hB2 := kt_Bm_fr hB hf2 (fun q => by unfold kW_nx at q; omega) (fun i q => by unfold kW_nx at q; omega)
  rw [e9, jr_wr (show jr (B p) by omega)]
  have hcm : B p ≠ 59 → jg_GV w 0 mm_X12_signToken 50 [.ref 92, mj_U, mj_U, mj_U] τ2 KV := fun hne => jm_s50 (p := p + 1) hB2 (by omega) e7 (by rw [e9]; omega) (fun τ hf h8 h10 => hk τ (jF_tr hf2 hf) (h10.trans e10) (fun h => absurd h hne) (fun _ => Or.inl h8))
  have hsg : jg_GV w 0 mm_X12_signToken 270 [.ref 92, mj_U, mj_U, mj_U] τ2 KV := by
    refine jb_X12_signToken_270 rfl (jb_X12_signToken_275 rfl (jn_ite (fun h => absurd h (by decide)) (fun _ => jb_X12_signToken_287 rfl ?_)))
    rintro _ rfl
    refine hk _ (jF_toI hf2 ⟨rfl, by omega, by omega⟩) (by rw [js_In (Or.inr (by omega))]; exact e10) (fun h => ⟨js_Is, ?_, ?_⟩) (fun h => Or.inr (Or.inr ⟨js_Is, ?_, ?_⟩))
    · rw [js_In (Or.inr (by omega)), e9]; exact h
    · rw [js_In (Or.inr (by omega))]; exact e7
    · rw [js_In (Or.inr (by omega)), e9]; exact h
    · rw [js_In (Or.inr (by omega)), e9]; omega
  have hbad : B p ≠ 59 → jg_G w 0 mm_X12_signToken 275 [.ref 92, mj_U, mj_U, mj_U] [.int (.ofInt 0)] τ2 (jg_QV KV) := fun hne => by
    refine jb_X12_signToken_275 rfl (jn_ite (fun _ => jb_X12_signToken_287 rfl ?_) (fun h => absurd rfl h))
    rintro _ rfl
    exact hk _ (jF_toI hf2 ⟨rfl, by omega, by omega⟩) (by rw [js_In (Or.inr (by omega))]; exact e10) (fun h => absurd h hne) (fun _ => Or.inr (Or.inl js_Is))
  refine jn_ite (fun h => hcm (by omega)) (fun _ => jn_ite (fun h => hcm (by omega)) (fun _ => jn_ite (fun h => hcm (by omega)) (fun _ => jn_ite (fun _ => hsg) (fun h59 => ?_))))
  repeat' refine jn_ite (fun _ => hsg) (fun _ => ?_)
  exact hbad h59
theorem jm_nextToken (hB : kt_Bm σ B n) (hWd : kt_Wd σ) (hp : p ≤ n) (h7 : σ.1 92 7 = (p : Nat)) (hk : ∀ τ, jF kW_nx σ τ → kt_Mt τ (kt_tk B n p) → KV τ) : jg_CV w 1 mm_X12_nextToken [.ref 92] σ KV := by
  have h700 := hB.2.1
  have hrun := kt_ru_le (n := n) (P := kt_bl) (B := B) (f := n - p) (p := p) rfl
  have hsn := hrun.2.1 hp
  have hfr := fun (τ : jg_M) (hf : jF kW_nx σ τ) => And.intro (kt_Bm_fr hB hf (fun q => by unfold kW_nx at q; omega) (fun i q => by unfold kW_nx at q; omega)) (kt_Wd_fr hWd hf (fun i q => by unfold kW_nx at q; omega))
  have hword : ∀ (s : Nat), kt_ru kt_bl B n p = s → s < n → kt_le (B s) = true → ∀ (m q : Nat) (τ : jg_M), q + m = kt_ru kt_le B n s → s ≤ q → kt_ru kt_le B n q = kt_ru kt_le B n s → jF kW_nx σ τ → τ.1 92 10 = (s : Nat) → τ.1 92 7 = (q : Nat) → jg_GV w 1 mm_X12_nextToken 90 [.ref 92] τ KV := by
    intro s hs hsl hle m
    have hrl := kt_ru_le (n := n) (P := kt_le) (B := B) (f := n - s) (p := s) rfl
    have hre := hrl.2.1 (by omega)
    have hlt : s < kt_ru kt_le B n s := by
      have h1 := kt_ru_in (n := n) (P := kt_le) (B := B) hsl hle
      have h2 := (kt_ru_le (n := n) (P := kt_le) (B := B) (f := n - (s + 1)) (p := s + 1) rfl).1
      omega
    have hlet : ∀ i, s ≤ i → i < kt_ru kt_le B n s → 97 ≤ B i ∧ B i ≤ 122 := fun i i1 i2 => of_decide_eq_true (hrl.2.2 i i1 i2).2
    induction m with
    | zero =>
      intro q τ hq hsq hru hf h10 h7
      obtain ⟨hBτ, hWτ⟩ := hfr τ hf
      have hqe : q = kt_ru kt_le B n s := by omega
      refine jb_X12_nextToken_90 rfl ?_
      rw [h7]
      refine jm_isSmall hBτ (by omega) (jn_if (fun _ => ?_) (fun hd => ?_))
      · rw [h10, h7]
        refine jm_wordAt hWτ ⟨by omega, by omega⟩ (fun i i1 i2 => hlet i i1 (by omega)) (fun i i1 i2 => hBτ.2.2.1 i (by omega)) ?_
        generalize hz : (if q - s ≤ 6 then kt_key (kt_lk B s q 6 : Nat) else -1) = z
        rintro _ rfl
        rw [js_Is, js_In (Or.inr (by omega)), js_In (Or.inr (by omega)), h7, h10]
        have hkr : -1 ≤ kt_key (kt_lk B s q 6 : Nat) ∧ kt_key (kt_lk B s q 6 : Nat) ≤ 3 := by
          unfold kt_key
          split
          · omega
          · split
            · omega
            · split
              · omega
              · split <;> omega
        have hzr : -1 ≤ z ∧ z ≤ 3 := by rw [← hz]; split <;> omega
        have hfz : jF kW_nx σ (jg_sI τ 92 9 z) := jF_toI hf ⟨rfl, by omega, by omega⟩
        have h10z : (jg_sI τ 92 9 z).1 92 10 = (s : Nat) := by rw [js_In (Or.inr (by omega))]; exact h10
        have h7z : (jg_sI τ 92 9 z).1 92 7 = (q : Nat) := by rw [js_In (Or.inr (by omega))]; exact h7
        have h9z : (jg_sI τ 92 9 z).1 92 9 = z := js_Is
        generalize hτz : jg_sI τ 92 9 z = τz at *
        have hBz := (hfr τz hfz).1
        have etk6 : q - s ≤ 6 → kt_tk B n p = ((0, s, q, ((kt_lk B s q 6 : Nat) : Int)) : kt_T) := fun h6 => by
          unfold kt_tk
          rw [hs, if_neg (by omega), if_pos hle, ← hqe, if_pos h6]
        have etk7 : ¬ q - s ≤ 6 → kt_tk B n p = ((4, s, q, 0) : kt_T) := fun h6 => by
          unfold kt_tk
          rw [hs, if_neg (by omega), if_pos hle, ← hqe, if_neg h6]
        rw [jr_wr (show jr z by omega), jr_wr (show jr ((q : Int) - (s : Int)) by omega)]
        refine jn_ite (fun hneg => jn_ite (fun h6 => ?_) (fun h6 => ?_)) (fun hpos => ?_)
        · rintro _ rfl
          rw [js_Is]
          refine jn_ite (fun _ => ?_) (fun h => absurd rfl h)
          rw [js_In (Or.inr (by omega)), js_In (Or.inr (by omega)), h10z, h7z]
          refine jm_lettersOf ⟨by omega, by omega⟩ (fun i i1 i2 => hlet i i1 (by omega)) (fun i i1 i2 => by rw [js_In (Or.inl (by omega))]; exact hBz.2.2.1 i (by omega)) ?_
          rintro _ rfl
          have hqs : q - s ≤ 6 := by omega
          rw [if_pos hqs] at hz
          refine hk _ (jF_toI (jF_toI hfz ⟨rfl, by omega, by omega⟩) ⟨rfl, by omega, by omega⟩) ?_
          rw [etk6 hqs]
          refine ⟨?_, fun _ => ?_, fun h => absurd (show (0 : Int) = 3 from h) (by decide), fun _ => ⟨fun hh => ?_, fun _ => ⟨?_, js_Is⟩⟩, fun h => absurd (show (0 : Int) = 1 from h) (by decide), fun h => absurd (show (0 : Int) = 2 from h) (by decide), fun h => absurd (show (0 : Int) = 4 from h) (by decide)⟩
          · rw [js_In (Or.inr (by omega)), js_In (Or.inr (by omega))]; exact h10z
          · rw [js_In (Or.inr (by omega)), js_In (Or.inr (by omega))]; exact h7z
          · have hh' : 0 ≤ kt_key (kt_lk B s q 6 : Nat) := hh
            omega
          · rw [js_In (Or.inr (by omega)), js_Is]
        · rintro _ rfl
          rw [js_Is]
          refine jn_ite (fun h => absurd h (by decide)) (fun _ => ?_)
          refine hk _ (jF_toI hfz ⟨rfl, by omega, by omega⟩) ?_
          rw [etk7 (by omega)]
          refine ⟨?_, fun h => absurd rfl h, fun h => absurd (show (4 : Int) = 3 from h) (by decide), fun h => absurd (show (4 : Int) = 0 from h) (by decide), fun h => absurd (show (4 : Int) = 1 from h) (by decide), fun h => absurd (show (4 : Int) = 2 from h) (by decide), fun _ => Or.inr (Or.inl js_Is)⟩
          rw [js_In (Or.inr (by omega))]; exact h10z
        · rintro _ rfl
          rw [js_Is]
          refine jn_ite (fun h => absurd h (by decide)) (fun _ => ?_)
          refine hk _ (jF_toI hfz ⟨rfl, by omega, by omega⟩) ?_
          have hqs : q - s ≤ 6 := Classical.byContradiction (fun hn => by rw [if_neg hn] at hz; omega)
          rw [if_pos hqs] at hz
          rw [etk6 hqs]
          refine ⟨?_, fun _ => ?_, fun h => absurd (show (0 : Int) = 3 from h) (by decide), fun _ => ⟨fun _ => ⟨js_Is, ?_⟩, fun hh => ?_⟩, fun h => absurd (show (0 : Int) = 1 from h) (by decide), fun h => absurd (show (0 : Int) = 2 from h) (by decide), fun h => absurd (show (0 : Int) = 4 from h) (by decide)⟩
          · rw [js_In (Or.inr (by omega))]; exact h10z
          · rw [js_In (Or.inr (by omega))]; exact h7z
          · rw [js_In (Or.inr (by omega)), h9z, ← hz]
          · have hh' : kt_key (kt_lk B s q 6 : Nat) < 0 := hh
            omega
      · have h1 := kt_ru_in (n := n) (P := kt_le) (B := B) hd.1 hd.2
        have h2 := (kt_ru_le (n := n) (P := kt_le) (B := B) (f := n - (q + 1)) (p := q + 1) rfl).1
        omega
    | succ m ih =>
      intro q τ hq hsq hru hf h10 h7
      obtain ⟨hBτ, hWτ⟩ := hfr τ hf
      have hqn := hrl.2.2 q hsq (by omega)
      refine jb_X12_nextToken_90 rfl ?_
      rw [h7]
      refine jm_isSmall hBτ (by omega) (jn_if (fun h => absurd hqn h) (fun _ => ?_))
      rintro _ rfl
      refine ih (q + 1) _ (by omega) (by omega) (by rw [← kt_ru_in hqn.1 hqn.2]; exact hru) (jF_toI hf ⟨rfl, by omega, by omega⟩) (by rw [js_In (Or.inr (by omega))]; exact h10) (by rw [js_Is, h7]; omega)
  have hnum : ∀ (s : Nat), kt_ru kt_bl B n p = s → s < n → kt_di (B s) = true → ∀ (m q : Nat) (τ : jg_M), q + m = kt_ru kt_di B n s → s ≤ q → kt_ru kt_di B n q = kt_ru kt_di B n s → jF kW_nx σ τ → τ.1 92 10 = (s : Nat) → τ.1 92 7 = (q : Nat) → τ.1 92 8 = 3 → (0 ≤ τ.1 92 9 ∧ τ.1 92 9 ≤ 1100000) → (if τ.1 92 9 < 1000 then τ.1 92 9 else 1000) = kt_nu B s (q - s) → jg_GV w 1 mm_X12_nextToken 213 [.ref 92] τ KV := by
    intro s hs hsl hdi m
    have hrl := kt_ru_le (n := n) (P := kt_di) (B := B) (f := n - s) (p := s) rfl
    have hre := hrl.2.1 (by omega)
    have hdig : ∀ i, s ≤ i → i < kt_ru kt_di B n s → 48 ≤ B i ∧ B i ≤ 57 := fun i i1 i2 => of_decide_eq_true (hrl.2.2 i i1 i2).2
    induction m with
    | zero =>
      intro q τ hq hsq hru hf h10 h7 h8 h9 hv
      obtain ⟨hBτ, hWτ⟩ := hfr τ hf
      have hqe : q = kt_ru kt_di B n s := by omega
      refine jb_X12_nextToken_213 rfl ?_
      rw [h7]
      refine jm_isDigit hBτ (by omega) (jn_if (fun _ => hk τ hf ?_) (fun hd => ?_))
      · have hnl : ¬ kt_le (B s) = true := fun h => by
          have h1 : 97 ≤ B s ∧ B s ≤ 122 := of_decide_eq_true h
          have h2 : 48 ≤ B s ∧ B s ≤ 57 := of_decide_eq_true hdi
          omega
        have etk : kt_tk B n p = ((1, s, q, kt_nu B s (q - s)) : kt_T) := by
          unfold kt_tk
          rw [hs, if_neg (by omega), if_neg hnl, if_pos hdi, ← hqe]
        rw [etk]
        exact ⟨h10, fun _ => h7, fun h => absurd (show (1 : Int) = 3 from h) (by decide), fun h => absurd (show (1 : Int) = 0 from h) (by decide), fun _ => ⟨h8, h9, hv⟩, fun h => absurd (show (1 : Int) = 2 from h) (by decide), fun h => absurd (show (1 : Int) = 4 from h) (by decide)⟩
      · have h1 := kt_ru_in (n := n) (P := kt_di) (B := B) hd.1 hd.2
        have h2 := (kt_ru_le (n := n) (P := kt_di) (B := B) (f := n - (q + 1)) (p := q + 1) rfl).1
        omega
    | succ m ih =>
      intro q τ hq hsq hru hf h10 h7 h8 h9 hv
      obtain ⟨hBτ, hWτ⟩ := hfr τ hf
      have hqn := hrl.2.2 q hsq (by omega)
      have hd := hdig q hsq (by omega)
      have e : kt_nu B s (q + 1 - s) = if kt_nu B s (q - s) * 10 + B q - 48 < 1000 then kt_nu B s (q - s) * 10 + B q - 48 else 1000 := by
        rw [show q + 1 - s = (q - s) + 1 by omega]
        show (if kt_nu B s (q - s) * 10 + B (s + (q - s)) - 48 < 1000 then _ else _) = _
        rw [show s + (q - s) = q by omega]
      refine jb_X12_nextToken_213 rfl ?_
      rw [h7]
      refine jm_isDigit hBτ (by omega) (jn_if (fun h => absurd hqn h) (fun _ => ?_))
      rw [jr_wr (show jr (τ.1 92 9) by omega), show jg_wr (τ.1 92 7) = (q : Int) by rw [h7]; exact jr_wr (by omega), hBτ.2.2.1 q hqn.1]
      generalize hc : τ.1 92 9 = c at *
      have hgo : ∀ v τ1 τ2, (0 ≤ v ∧ v ≤ 1100000) → (if v < 1000 then v else 1000) = kt_nu B s (q + 1 - s) → τ1 = jg_sI τ 92 9 v → τ2 = jg_sI τ1 92 7 (τ1.1 92 7 + 1) → jg_GV w 1 mm_X12_nextToken 213 [.ref 92] τ2 KV := by
        rintro v _ _ hv1 hv2 rfl rfl
        refine ih (q + 1) _ (by omega) (by omega) (by rw [← kt_ru_in hqn.1 hqn.2]; exact hru) (jF_toI (jF_toI hf ⟨rfl, by omega, by omega⟩) ⟨rfl, by omega, by omega⟩) ?_ ?_ ?_ ?_ ?_
        · rw [js_In (Or.inr (by omega)), js_In (Or.inr (by omega))]; exact h10
        · rw [js_Is, js_In (Or.inr (by omega)), h7]; omega
        · rw [js_In (Or.inr (by omega)), js_In (Or.inr (by omega))]; exact h8
        · rw [js_In (Or.inr (by omega)), js_Is]; exact hv1
        · rw [js_In (Or.inr (by omega)), js_Is]; exact hv2
      refine jn_ite (fun hle => ⟨by omega, fun τ1 h1 τ2 h2 => hgo (10 * c + B q - 48) τ1 τ2 (by omega) ?_ h1 h2⟩) (fun hgt => fun τ1 h1 τ2 h2 => hgo c τ1 τ2 h9 ?_ h1 h2)
      · rw [e, ← hv]
        split <;> split <;> split <;> omega
      · rw [e, ← hv]
        split <;> split <;> omega
  have hat : ∀ (τ : jg_M), jF kW_nx σ τ → τ.1 92 7 = (kt_ru kt_bl B n p : Nat) → ∀ τ1, τ1 = jg_sI τ 92 10 (τ.1 92 7) →
      (if jg_wr (τ1.1 92 7) = jg_wr (τ1.1 92 6) then ∀ m102 : jg_M, m102 = jg_sI τ1 92 8 0 → KV m102 else jg_CI w 0 mm_X12_isSmall [.ref 92, .int (.ofInt (τ1.1 92 7))] τ1 (fun (z104 : Int) (m103 : jg_M) => (if jg_wr z104 = 0 then jg_CI w 0 mm_X12_isDigit [.ref 92, .int (.ofInt (m103.1 92 7))] m103 (fun (z106 : Int) (m105 : jg_M) => (if jg_wr z106 = 0 then jg_CV w 0 mm_X12_signToken [.ref 92] m105 (fun (m107 : jg_M) => KV m107) else ∀ m108 : jg_M, m108 = jg_sI m105 92 8 3 → ∀ m109 : jg_M, m109 = jg_sI m108 92 9 0 → jg_GV w 1 mm_X12_nextToken 213 [.ref 92] m109 KV)) else jg_GV w 1 mm_X12_nextToken 90 [.ref 92] m103 KV))) := by
    intro τ hf hpos τ1 hτ1
    have hf1 : jF kW_nx σ τ1 := by rw [hτ1]; exact jF_toI hf ⟨rfl, by omega, by omega⟩
    have h71 : τ1.1 92 7 = (kt_ru kt_bl B n p : Nat) := by rw [hτ1, js_In (Or.inr (by omega))]; exact hpos
    have h101 : τ1.1 92 10 = (kt_ru kt_bl B n p : Nat) := by rw [hτ1, js_Is]; exact hpos
    obtain ⟨hB1, hW1⟩ := hfr τ1 hf1
    generalize hsv : kt_ru kt_bl B n p = s at *
    rw [h71, hB1.1, jr_wr (show jr (s : Int) by omega), jr_wr (show jr (n : Int) by omega)]
    refine jn_ite (fun he => ?_) (fun hne => jm_isSmall hB1 (by omega) (jn_if (fun hnl => ?_) (fun hl => ?_)))
    · rintro _ rfl
      refine hk _ (jF_toI hf1 ⟨rfl, by omega, by omega⟩) ?_
      have etk : kt_tk B n p = ((3, s, s, 0) : kt_T) := by unfold kt_tk; rw [hsv, if_pos (by omega)]
      rw [etk]
      exact ⟨by rw [js_In (Or.inr (by omega))]; exact h101, fun _ => by rw [js_In (Or.inr (by omega))]; exact h71, fun _ => js_Is, fun h => absurd (show (3 : Int) = 0 from h) (by decide), fun h => absurd (show (3 : Int) = 1 from h) (by decide), fun h => absurd (show (3 : Int) = 2 from h) (by decide), fun h => absurd (show (3 : Int) = 4 from h) (by decide)⟩
    · rw [h71]
      have hnl' : ¬ kt_le (B s) = true := fun q => hnl ⟨by omega, q⟩
      refine jm_isDigit hB1 (by omega) (jn_if (fun hnd => ?_) (fun hd => ?_))
      · have hnd' : ¬ kt_di (B s) = true := fun q => hnd ⟨by omega, q⟩
        refine jm_signToken (p := s) hB1 (by omega) h71 (fun τ2 hf2 h10 h59 hne59 => hk _ (jF_tr hf1 hf2) ?_)
        by_cases h : B s = 59
        · have etk : kt_tk B n p = ((2, s, s + 1, 0) : kt_T) := by unfold kt_tk; rw [hsv, if_neg (by omega), if_neg hnl', if_neg hnd', if_pos h]
          rw [etk]
          obtain ⟨g8, g9, g7⟩ := h59 h
          exact ⟨h10.trans h101, fun _ => g7, fun h => absurd (show (2 : Int) = 3 from h) (by decide), fun h => absurd (show (2 : Int) = 0 from h) (by decide), fun h => absurd (show (2 : Int) = 1 from h) (by decide), fun _ => ⟨g8, g9⟩, fun h => absurd (show (2 : Int) = 4 from h) (by decide)⟩
        · have etk : kt_tk B n p = ((4, s, s + 1, 0) : kt_T) := by unfold kt_tk; rw [hsv, if_neg (by omega), if_neg hnl', if_neg hnd', if_neg h]
          rw [etk]
          exact ⟨h10.trans h101, fun h => absurd rfl h, fun h => absurd (show (4 : Int) = 3 from h) (by decide), fun h => absurd (show (4 : Int) = 0 from h) (by decide), fun h => absurd (show (4 : Int) = 1 from h) (by decide), fun h => absurd (show (4 : Int) = 2 from h) (by decide), fun _ => hne59 h⟩
      · rintro _ rfl _ rfl
        refine hnum s rfl (by omega) hd.2 (kt_ru kt_di B n s - s) s _ ?_ (Nat.le_refl s) rfl (jF_toI (jF_toI hf1 ⟨rfl, by omega, by omega⟩) ⟨rfl, by omega, by omega⟩) ?_ ?_ ?_ ?_ ?_
        · have := (kt_ru_le (n := n) (P := kt_di) (B := B) (f := n - s) (p := s) rfl).1
          omega
        · rw [js_In (Or.inr (by omega)), js_In (Or.inr (by omega))]; exact h101
        · rw [js_In (Or.inr (by omega)), js_In (Or.inr (by omega))]; exact h71
        · rw [js_In (Or.inr (by omega)), js_Is]
        · rw [js_Is]; omega
        · rw [js_Is, Nat.sub_self]; rfl
    · have := (kt_ru_le (n := n) (P := kt_le) (B := B) (f := n - s) (p := s) rfl).1
      exact hword s rfl hl.1 hl.2 (kt_ru kt_le B n s - s) s τ1 (by omega) (Nat.le_refl s) rfl hf1 h101 h71
  have hloop : ∀ (m q : Nat) (τ : jg_M), q + m = kt_ru kt_bl B n p → p ≤ q → kt_ru kt_bl B n q = kt_ru kt_bl B n p → jF kW_nx σ τ → τ.1 92 7 = (q : Nat) → jg_GV w 1 mm_X12_nextToken 0 [.ref 92] τ KV := by
    intro m
    induction m with
    | zero =>
      intro q τ hq hpq hru hf h7
      obtain ⟨hBτ, hWτ⟩ := hfr τ hf
      have hbq := hB.2.2.2 q
      have hh := hat τ hf (by rw [h7, ← hq]; rfl)
      refine jb_X12_nextToken_0 rfl ?_
      rw [hBτ.1]
      refine jn_ite (fun _ => hh) (fun hlt => ?_)
      rw [h7, jr_wr (show jr (n : Int) by omega), jr_wr (show jr (q : Int) by omega)] at hlt
      rw [h7, jr_wr (show jr (q : Int) by omega), hBτ.2.2.1 q (by omega), jr_wr (show jr (B q) by omega)]
      rw [h7] at hh
      have hno : B q = 10 ∨ B q = 32 → False := fun h => by
        have h1 := kt_ru_in (n := n) (P := kt_bl) (B := B) (show q < n by omega) (decide_eq_true h)
        have h2 := (kt_ru_le (n := n) (P := kt_bl) (B := B) (f := n - (q + 1)) (p := q + 1) rfl).1
        omega
      refine ⟨by omega, jn_ite (fun h => (hno (Or.inl h)).elim) (fun _ => ⟨by omega, jn_ite (fun h => (hno (Or.inr h)).elim) (fun _ => hh)⟩)⟩
    | succ m ih =>
      intro q τ hq hpq hru hf h7
      obtain ⟨hBτ, hWτ⟩ := hfr τ hf
      have hqn := hrun.2.2 q hpq (by omega)
      have hbq := hB.2.2.2 q
      have hbl : B q = 10 ∨ B q = 32 := of_decide_eq_true hqn.2
      have hgo : ∀ τ', τ' = jg_sI τ 92 7 ((q : Int) + 1) → jg_GV w 1 mm_X12_nextToken 0 [.ref 92] τ' KV := by
        rintro _ rfl
        exact ih (q + 1) _ (by omega) (by omega) (by rw [← kt_ru_in hqn.1 hqn.2]; exact hru) (jF_toI hf ⟨rfl, by omega, by omega⟩) (by rw [js_Is]; omega)
      refine jb_X12_nextToken_0 rfl ?_
      rw [hBτ.1, h7, jr_wr (show jr (n : Int) by omega), jr_wr (show jr (q : Int) by omega), hBτ.2.2.1 q hqn.1, jr_wr (show jr (B q) by omega)]
      refine jn_ite (fun h => by omega) (fun _ => ⟨by omega, jn_ite (fun _ => hgo) (fun h10 => ⟨by omega, jn_ite (fun _ => hgo) (fun h32 => by omega)⟩)⟩)
  exact hloop (kt_ru kt_bl B n p - p) p σ (by omega) (Nat.le_refl p) rfl jF_rf h7
end KTE
