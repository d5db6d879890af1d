/-! GAME, in the reference: who wins -/
section KRH
variable {w : Nat} {σ τ : jg_M} {n m a code t : Nat} {g : gM} {K K' : kr_K} {KV : jg_M → Prop} {KI : Int → jg_M → Prop} {x2 : Int}
/-- whether who is to go wins, if so many have come by a number -/
noncomputable def kr_wt (g : gM) (K : kr_K) (n code j : Nat) : Prop := match kr_rc g n code K with
  | some K' => 0 ≤ kr_wn g j K'
  | none => False
noncomputable def kr_gp (g : gM) (K : kr_K) (j : Nat) (t : Nat) : Bool := match kr_nx g (t : Int) K with
  | some K' => decide (kr_wn g j K' < 0)
  | none => false
def kr_m1 (v : Int) : Int := if v < 0 then -1 else v
theorem kr_wn_s {j : Nat} : kr_wn g (j + 1) K = kr_ff (kr_gp g K j) (g 0 0).toNat 0 := rfl
theorem kr_game (hM : kr_MW σ 0 g) (h0 : 0 < g 0 1) (hNo : kr_No σ K) (hK : kr_ok g K) (hn : n ≤ 4) (hx : 0 ≤ x2 ∧ x2 ≤ 1) (u4 u5 u6 u7 u8 : Value) (hk : ∀ τ, jF kW_gm σ τ → KI (if x2 = 0 then (if kr_wn g n K < 0 then 1 else 0) else kr_wn g n K) τ) : jg_GI w 2 mm_X12_game 36 [.ref 92, .int (.ofInt (n : Int)), .int (.ofInt x2), .int (.ofInt 0), u4, u5, u6, u7, u8] σ KI := by
  have hw := hM.1.1.1
  have hnt : (((g 0 0).toNat : Nat) : Int) = g 0 0 := by omega
  have hpw : ∀ k, k ≤ 4 → (g 0 0).toNat ^ k ≤ 2401 := fun k hk => by
    have h1 : (g 0 0).toNat ^ k ≤ 7 ^ k := Nat.pow_le_pow_left (by omega) k
    have h2 : 7 ^ k ≤ 7 ^ 4 := Nat.pow_le_pow_right (by decide) hk
    have : (7 : Nat) ^ 4 = 2401 := by decide
    omega
  have hpw3 : ∀ k, k ≤ 3 → (g 0 0).toNat ^ k ≤ 343 := fun k hk => by
    have h1 : (g 0 0).toNat ^ k ≤ 7 ^ k := Nat.pow_le_pow_left (by omega) k
    have h2 : 7 ^ k ≤ 7 ^ 3 := Nat.pow_le_pow_right (by decide) hk
    have : (7 : Nat) ^ 3 = 343 := by decide
    omega
  have hfin : ∀ (f1 x4 : Int) (τ : jg_M) (u5 u6 u7 u8 : Value), jg_wr x4 ≤ 0 → f1 = kr_m1 (kr_wn g n K) → jF kW_gm σ τ → jg_GI w 2 mm_X12_game 61 [.ref 92, .int (.ofInt (n : Int)), .int (.ofInt x2), .int (.ofInt f1), .int (.ofInt x4), u5, u6, u7, u8] τ KI := by
    intro f1 x4 τ u5 u6 u7 u8 h4 hf1 hf
    have hr := kr_wn_rng (K := K) (n := n) hM.1.1
    have h := hk τ hf
    have hm : f1 = -1 ∧ kr_wn g n K = -2 ∨ f1 = kr_wn g n K ∧ 0 ≤ f1 ∧ f1 < 7 := by
      unfold kr_m1 at hf1
      split at hf1 <;> omega
    refine jb_X12_game_61 rfl ?_
    rw [jr_wr (show jr x2 by omega), jr_wr (show jr f1 by omega)]
    refine jn_ite (fun _ => jn_ite (fun hz => ?_) (fun hz => ?_)) (fun h => absurd h4 h)
    · rw [if_pos hz] at h
      refine jn_ite (fun h1 => ?_) (fun h1 => ?_)
      · rw [if_neg (by omega)] at h; exact h
      · rw [if_pos (by omega)] at h; exact h
    · rw [if_neg hz] at h
      refine jb_X12_noneAsTwo_0 ?_
      rw [jr_wr (show jr f1 by omega)]
      refine jn_ite (fun h1 => ?_) (fun h1 => ?_)
      · rw [show kr_wn g n K = f1 by omega] at h
        exact h
      · rw [show kr_wn g n K = -2 by omega] at h
        exact h
  -- one row: the least token
  have hrow : ∀ (many code : Nat) (K1 : Option kr_K) (τ : jg_M), 1 ≤ many → many ≤ n → code < (g 0 0).toNat ^ (many - 1) → jF kW_gm σ τ → K1 = kr_rc g (many - 1) code K →
      (∀ c : Nat, c < (g 0 0).toNat ^ many → τ.1 (92 + 40) (c : Int) = jn_b ((kr_rc g many c K).isSome = true)) → (∀ c : Nat, c < (g 0 0).toNat ^ many → (kr_rc g many c K).isSome = true → τ.1 (92 + 41) (c : Int) = jn_b (kr_wt g K many c (n - many))) →
      ∀ (u1 : Int) (x5 : Int), (∀ (f1 : Int) (τ' : jg_M) (u7 u8 : Value), f1 = (match K1 with
          | some K' => kr_m1 (kr_wn g (n - many + 1) K')
          | none => -1) → τ' = jg_sI τ (92 + 42) (code : Int) (jn_b (0 ≤ f1)) → jg_GI w 2 mm_X12_game 90 [.ref 92, .int (.ofInt u1), .int (.ofInt x2), .int (.ofInt f1), .int (.ofInt (many : Int)), .int (.ofInt x5), .int (.ofInt ((code : Int) + 1)), u7, u8] τ' KI) →
      ∀ (m : Nat) (f1 : Int) (u8 : Value), m ≤ (g 0 0).toNat → f1 = (match K1 with
          | some K' => kr_m1 (kr_ff (kr_gp g K' (n - many)) ((g 0 0).toNat - m) m)
          | none => -1) → jg_GI w 2 mm_X12_game 109 [.ref 92, .int (.ofInt u1), .int (.ofInt x2), .int (.ofInt f1), .int (.ofInt (many : Int)), .int (.ofInt x5), .int (.ofInt (code : Int)), .int (.ofInt ((m : Int) - 1)), u8] τ KI := by
    intro many code K1 τ hm1 hmn hcode hf hK1 hcan hwin u1 x5 kk m
    have hMτ := kr_MW_fr hM hf (fun c i hc q => by unfold kW_gm at q; omega)
    have h343 := hpw3 (many - 1) (by omega)
    have hfr : ∀ m f1, m ≤ (g 0 0).toNat → f1 = (match K1 with
        | some K' => kr_m1 (kr_ff (kr_gp g K' (n - many)) ((g 0 0).toNat - m) m)
        | none => -1) → -1 ≤ f1 ∧ f1 < 7 := fun m f1 hm h => by
      cases K1 with
      | none => dsimp only at h; omega
      | some K' =>
        dsimp only at h
        have := kr_ff_rng (p := kr_gp g K' (n - many)) (m := (g 0 0).toNat - m) (i := m)
        unfold kr_m1 at h
        split at h <;> omega
    induction m with
    | zero =>
      intro f1 u8 hm hf1
      have hr := hfr 0 f1 hm hf1
      refine jb_X12_game_109 rfl ?_
      rw [show jg_wr (((0 : Nat) : Int) - 1) = -1 from rfl, jr_wr (show jr f1 by omega), jr_wr (show jr (code : Int) by omega)]
      have hgo : ∀ v, v = jn_b (0 ≤ f1) → ∀ τ', τ' = jg_sI τ (92 + 42) (code : Int) v → jg_GI w 2 mm_X12_game 90 [.ref 92, .int (.ofInt u1), .int (.ofInt x2), .int (.ofInt f1), .int (.ofInt (many : Int)), .int (.ofInt x5), .int (.ofInt ((code : Int) + 1)), .int (.ofInt (((0 : Nat) : Int) - 1)), u8] τ' KI := fun v hv τ' hτ' => by
        refine kk f1 τ' _ _ ?_ (by rw [hτ', hv])
        cases K1 with
        | none => exact hf1
        | some K' => exact hf1
      refine jn_ite (fun _ => jn_ite (fun hneg => ⟨by omega, fun τ' hτ' => hgo _ ?_ τ' hτ'⟩) (fun hpos => ⟨by omega, fun τ' hτ' => hgo _ ?_ τ' hτ'⟩)) (fun h => absurd (by decide) h)
      · rw [jn_b_f (by omega)]; decide
      · rw [jn_b_t (by omega)]; decide
    | succ m ih =>
      intro f1 u8 hm hf1
      have hr := hfr (m + 1) f1 hm hf1
      have hlt : (g 0 0).toNat * code + m < (g 0 0).toNat ^ many := by
        have := kr_up_lt (a := (g 0 0).toNat) (n := many - 1) (t := m) (b := 0) hcode (by omega)
        rw [show many - 1 + 1 = many by omega] at this
        exact this
      have h2401 := hpw many (by omega)
      have hidx : g 0 0 * (code : Int) + (m : Int) = (((g 0 0).toNat * code + m : Nat) : Int) := by
        rw [Int.natCast_add, Int.natCast_mul, hnt]
      have hup : kr_rc g many ((g 0 0).toNat * code + m) K = (kr_rc g (many - 1) code K).bind (fun K' => kr_nx g (m : Int) K') := by
        have := kr_rc_up (g := g) (K := K) (n := many - 1) (code := code) (t := m) (by omega)
        rw [show many - 1 + 1 = many by omega] at this
        exact this
      have hc1 := hcan _ hlt
      have hc2 := hwin _ hlt
      refine jb_X12_game_109 rfl ?_
      rw [show ((m + 1 : Nat) : Int) - 1 = (m : Int) by omega, jr_wr (show jr (m : Int) by omega), hMτ.1.2.2]
      refine jn_ite (fun h => by omega) (fun _ => ?_)
      intro t3 ht3
      rw [hidx] at ht3
      rw [ht3, jr_wr (show jr ((((g 0 0).toNat * code + m : Nat)) : Int) by omega), hc1]
      have hnext : ∀ f2 u, f2 = (match K1 with
          | some K' => kr_m1 (kr_ff (kr_gp g K' (n - many)) ((g 0 0).toNat - m) m)
          | none => -1) → jg_GI w 2 mm_X12_game 109 [.ref 92, .int (.ofInt u1), .int (.ofInt x2), .int (.ofInt f2), .int (.ofInt (many : Int)), .int (.ofInt x5), .int (.ofInt (code : Int)), .int (.ofInt ((m : Int) + -1)), u] τ KI := fun f2 u hf2 => by
        have := ih f2 u (by omega) hf2
        rw [show (m : Int) - 1 = (m : Int) + -1 by omega] at this
        exact this
      have hff : ∀ K', kr_ff (kr_gp g K' (n - many)) ((g 0 0).toNat - m) m = if kr_gp g K' (n - many) m = true then (m : Int) else kr_ff (kr_gp g K' (n - many)) ((g 0 0).toNat - (m + 1)) (m + 1) := fun K' => by
        rw [show (g 0 0).toNat - m = (g 0 0).toNat - (m + 1) + 1 by omega]
        rfl
      refine ⟨by omega, jn_if (fun hno => hnext f1 _ ?_) (fun hyes => ⟨by omega, ?_⟩)⟩
      · rw [hf1]
        cases K1 with
        | none => rfl
        | some K' =>
          dsimp only
          rw [hff K', if_neg]
          intro hg
          rw [hup, ← hK1] at hno
          unfold kr_gp at hg
          cases hq : kr_nx g (m : Int) K' with
          | none => rw [hq] at hg; cases hg
          | some K2 =>
            refine hno ?_
            show (kr_nx g (m : Int) K').isSome = true
            rw [hq]; rfl
      · rw [hc2 hyes]
        have hex : ∃ K' K2, K1 = some K' ∧ kr_nx g (m : Int) K' = some K2 ∧ kr_rc g many ((g 0 0).toNat * code + m) K = some K2 := by
          rw [hup] at hyes ⊢
          rw [← hK1] at hyes ⊢
          cases hq1 : K1 with
          | none => rw [hq1] at hyes; cases hyes
          | some K' =>
            rw [hq1] at hyes
            cases hq : kr_nx g (m : Int) K' with
            | none =>
              have hyes' : (kr_nx g (m : Int) K').isSome = true := hyes
              rw [hq] at hyes'; cases hyes'
            | some K2 => exact ⟨K', K2, rfl, hq, hq⟩
        obtain ⟨K', K2, e1, e2, e3⟩ := hex
        have hwt : kr_wt g K many ((g 0 0).toNat * code + m) (n - many) ↔ 0 ≤ kr_wn g (n - many) K2 := by
          unfold kr_wt
          rw [e3]
        rw [jn_b_eq hwt]
        refine jn_if (fun hlose => hnext (m : Int) _ ?_) (fun hwins => hnext f1 _ ?_)
        · rw [e1]
          dsimp only
          rw [hff K', if_pos]
          · unfold kr_m1
            rw [if_neg (by omega)]
          · unfold kr_gp
            rw [e2]
            exact decide_eq_true (by omega)
        · rw [hf1, e1]
          dsimp only
          rw [hff K', if_neg]
          unfold kr_gp
          rw [e2]
          intro hd
          have := of_decide_eq_true hd
          omega
  have hF : ∀ (many c : Nat), 1 ≤ many → many ≤ n → ∀ f1 : Int, f1 = (match kr_rc g (many - 1) c K with
      | some K' => kr_m1 (kr_wn g (n - many + 1) K')
      | none => -1) → (0 ≤ f1 ↔ kr_wt g K (many - 1) c (n - many + 1)) := fun many c h1 h2 f1 hf1 => by
    unfold kr_wt
    cases hq : kr_rc g (many - 1) c K with
    | none =>
      rw [hq] at hf1
      dsimp only at hf1
      exact ⟨fun h => by omega, fun h => h.elim⟩
    | some K' =>
      rw [hq] at hf1
      dsimp only at hf1 ⊢
      unfold kr_m1 at hf1
      split at hf1
      · exact ⟨fun h => by omega, fun h => by omega⟩
      · exact ⟨fun h => by omega, fun h => by omega⟩
  have hcopy : ∀ (many : Nat), 1 ≤ many → many ≤ n → ∀ (f1 : Int) (τ0 : jg_M), (∀ c : Nat, c < (g 0 0).toNat ^ (many - 1) → τ0.1 (92 + 42) (c : Int) = jn_b (kr_wt g K (many - 1) c (n - many + 1))) → jF kW_gm σ τ0 →
      (∀ (τ' : jg_M) (u5 u6 u7 u8 : Value), jF kW_gm σ τ' → (∀ c : Nat, c < (g 0 0).toNat ^ (many - 1) → τ'.1 (92 + 41) (c : Int) = jn_b (kr_wt g K (many - 1) c (n - many + 1))) → jg_GI w 2 mm_X12_game 61 [.ref 92, .int (.ofInt (n : Int)), .int (.ofInt x2), .int (.ofInt f1), .int (.ofInt ((many : Int) + -1)), u5, u6, u7, u8] τ' KI) →
      ∀ (m c : Nat) (τ : jg_M) (u7 u8 : Value), c + m = (g 0 0).toNat ^ (many - 1) → jF kW_gm σ τ → (∀ i, τ.1 (92 + 42) i = τ0.1 (92 + 42) i) → (∀ j : Nat, j < c → τ.1 (92 + 41) (j : Int) = jn_b (kr_wt g K (many - 1) j (n - many + 1))) → jg_GI w 2 mm_X12_game 186 [.ref 92, .int (.ofInt (n : Int)), .int (.ofInt x2), .int (.ofInt f1), .int (.ofInt (many : Int)), .int (.ofInt (((g 0 0).toNat ^ (many - 1) : Nat) : Int)), .int (.ofInt (c : Int)), u7, u8] τ KI := by
    intro many h1 h2 f1 τ0 h42 hf0 kk m
    have h343 := hpw3 (many - 1) (by omega)
    induction m with
    | zero =>
      intro c τ u7 u8 hc hf he hz
      refine jb_X12_game_186 rfl ?_
      rw [jr_wr (by omega), jr_wr (by omega)]
      exact jn_ite (fun _ => kk τ _ _ _ _ hf (fun j hj => hz j (by omega))) (fun h => by omega)
    | succ m ih =>
      intro c τ u7 u8 hc hf he hz
      refine jb_X12_game_186 rfl ?_
      rw [jr_wr (show jr ((((g 0 0).toNat ^ (many - 1) : Nat)) : Int) by omega), jr_wr (show jr (c : Int) by omega), he, h42 c (by omega)]
      refine jn_ite (fun h => by omega) (fun _ => ⟨by omega, by omega, ?_⟩)
      rintro _ rfl
      have hnar : ∀ P, jg_nar (jn_b P) = jn_b P := fun P => by rcases jn_b_01 P with h | h <;> rw [h] <;> decide
      rw [hnar]
      have := ih (c + 1) (jg_sI τ (92 + 41) (c : Int) (jn_b (kr_wt g K (many - 1) c (n - many + 1)))) u7 u8 (by omega) (jF_toI hf (by unfold kW_gm; omega)) (fun i => by rw [js_In (Or.inl (by omega))]; exact he i) (fun j hj => by
        by_cases hjc : j = c
        · subst hjc; exact js_Is
        · rw [js_In (Or.inr (by omega))]; exact hz j (by omega))
      rw [show ((c + 1 : Nat) : Int) = (c : Int) + 1 by omega] at this
      exact this
  have hcodes : ∀ (many : Nat), 1 ≤ many → many ≤ n →
      (∀ (f1 : Int) (τ' : jg_M) (u5 u6 u7 u8 : Value), (many = 1 → f1 = kr_m1 (kr_wn g n K)) → jF kW_gm σ τ' → (∀ c : Nat, c < (g 0 0).toNat ^ (many - 1) → τ'.1 (92 + 41) (c : Int) = jn_b (kr_wt g K (many - 1) c (n - many + 1))) → jg_GI w 2 mm_X12_game 61 [.ref 92, .int (.ofInt (n : Int)), .int (.ofInt x2), .int (.ofInt f1), .int (.ofInt ((many : Int) + -1)), u5, u6, u7, u8] τ' KI) →
      ∀ (m c : Nat) (f1 : Int) (τ : jg_M) (u7 u8 : Value), c + m = (g 0 0).toNat ^ (many - 1) → jF kW_gm σ τ →
        (∀ c : Nat, c < (g 0 0).toNat ^ many → τ.1 (92 + 40) (c : Int) = jn_b ((kr_rc g many c K).isSome = true)) → (∀ c : Nat, c < (g 0 0).toNat ^ many → (kr_rc g many c K).isSome = true → τ.1 (92 + 41) (c : Int) = jn_b (kr_wt g K many c (n - many))) →
        (∀ j : Nat, j < c → τ.1 (92 + 42) (j : Int) = jn_b (kr_wt g K (many - 1) j (n - many + 1))) → (1 ≤ c → f1 = (match kr_rc g (many - 1) (c - 1) K with
          | some K' => kr_m1 (kr_wn g (n - many + 1) K')
          | none => -1)) →
        jg_GI w 2 mm_X12_game 90 [.ref 92, .int (.ofInt (n : Int)), .int (.ofInt x2), .int (.ofInt f1), .int (.ofInt (many : Int)), .int (.ofInt (((g 0 0).toNat ^ (many - 1) : Nat) : Int)), .int (.ofInt (c : Int)), u7, u8] τ KI := by
    intro many h1 h2 kk m
    have h343 := hpw3 (many - 1) (by omega)
    induction m with
    | zero =>
      intro c f1 τ u7 u8 hc hf hcan hwin hz hf1
      refine jb_X12_game_90 rfl ?_
      rw [jr_wr (by omega), jr_wr (by omega)]
      refine jn_ite (fun _ => ?_) (fun h => by omega)
      have h := hcopy many h1 h2 f1 τ (fun j hj => hz j (by omega)) hf (fun τ' u5 u6 u7 u8 hf' hz' => kk f1 τ' u5 u6 u7 u8 (fun hm => ?_) hf' hz') ((g 0 0).toNat ^ (many - 1)) 0 τ u7 u8 (by omega) hf (fun _ => rfl) (fun j hj => by omega)
      · exact h
      · subst hm
        have hc1 : c = 1 := by
          rw [Nat.pow_zero] at hc
          omega
        have h3 := hf1 (by omega)
        rw [hc1] at h3
        rw [h3]
        show kr_m1 (kr_wn g (n - 1 + 1) K) = _
        rw [show n - 1 + 1 = n by omega]
    | succ m ih =>
      intro c f1 τ u7 u8 hc hf hcan hwin hz hf1
      have hMτ := kr_MW_fr hM hf (fun c i hc q => by unfold kW_gm at q; omega)
      refine jb_X12_game_90 rfl ?_
      rw [jr_wr (by omega), jr_wr (by omega), hMτ.1.2.2]
      refine jn_ite (fun h => by omega) (fun _ => ?_)
      rintro _ rfl
      have h := hrow many c (kr_rc g (many - 1) c K) τ h1 h2 (by omega) hf rfl hcan hwin (n : Int) (((g 0 0).toNat ^ (many - 1) : Nat) : Int) (fun f2 τ' v7 v8 hf2 hτ' => ?_) (g 0 0).toNat (-1) u8 (Nat.le_refl _) ?_
      · rw [hnt] at h
        exact h
      · have hne : ∀ a i, a ≠ 92 + 42 → τ'.1 a i = τ.1 a i := fun a i ha => by rw [hτ', js_In (Or.inl ha)]
        have := ih (c + 1) f2 τ' v7 v8 (by omega) (by rw [hτ']; exact jF_toI hf (by unfold kW_gm; omega)) (fun j hj => by rw [hne _ _ (by omega)]; exact hcan j hj) (fun j hj hs => by rw [hne _ _ (by omega)]; exact hwin j hj hs) (fun j hj => by
          by_cases hjc : j = c
          · subst hjc
            rw [hτ', js_Is]
            exact jn_b_eq (hF many j h1 h2 f2 hf2)
          · rw [hτ', js_In (Or.inr (by omega))]; exact hz j (by omega)) (fun _ => by rw [Nat.add_sub_cancel]; exact hf2)
        rw [show ((c + 1 : Nat) : Int) = (c : Int) + 1 by omega] at this
        exact this
      · cases kr_rc g (many - 1) c K with
        | none => rfl
        | some K' =>
          dsimp only
          rw [Nat.sub_self]
          rfl
  have hlev : ∀ (many : Nat) (f1 : Int) (τ : jg_M) (u5 u6 u7 u8 : Value), many ≤ n → jF kW_gm σ τ → (many = 0 → f1 = kr_m1 (kr_wn g n K)) → (∀ c : Nat, c < (g 0 0).toNat ^ many → (kr_rc g many c K).isSome = true → τ.1 (92 + 41) (c : Int) = jn_b (kr_wt g K many c (n - many))) → jg_GI w 2 mm_X12_game 61 [.ref 92, .int (.ofInt (n : Int)), .int (.ofInt x2), .int (.ofInt f1), .int (.ofInt (many : Int)), u5, u6, u7, u8] τ KI := by
    intro many
    induction many with
    | zero =>
      intro f1 τ u5 u6 u7 u8 hm hf hf1 hwin
      exact hfin f1 _ τ u5 u6 u7 u8 (by decide) (hf1 rfl) hf
    | succ many ihm =>
      intro f1 τ u5 u6 u7 u8 hm hf hf1 hwin
      have hMτ := kr_MW_fr hM hf (fun c i hc q => by unfold kW_gm at q; omega)
      have hNτ := kr_No_fr hNo hf (fun q => by unfold kW_gm at q; omega) (fun i q => by unfold kW_gm at q; omega)
      refine jb_X12_game_61 rfl ?_
      rw [jr_wr (show jr ((many + 1 : Nat) : Int) by omega)]
      refine jn_ite (fun h => by omega) (fun _ => jm_layCome hMτ h0 hNτ hK ⟨by omega, by omega⟩ (fun τ2 hf2 h41 hcan => ?_))
      have hM2 := kr_MW_fr hMτ hf2 (fun c i hc q => by unfold kW_gm at q; omega)
      rw [hM2.1.2.2, ← hnt, show ((many + 1 : Nat) : Int) - 1 = ((many + 1 - 1 : Nat) : Int) by omega]
      refine jm_power (by omega) ?_
      refine hcodes (many + 1) (by omega) hm (fun f2 τ' v5 v6 v7 v8 hf1' hf' hz' => ?_) ((g 0 0).toNat ^ (many + 1 - 1)) 0 f1 τ2 u7 u8 (by omega) (jF_tr hf hf2) hcan (fun c hc hs => by rw [h41]; exact hwin c hc hs) (fun j hj => by omega) (fun h => by omega)
      rw [show ((many + 1 : Nat) : Int) + -1 = (many : Int) by omega]
      refine ihm f2 τ' v5 v6 v7 v8 (by omega) hf' (fun h => hf1' (by omega)) (fun c hc hs => ?_)
      have := hz' c hc
      rw [show n - (many + 1) + 1 = n - many by omega] at this
      exact this
  have hini : ∀ (m i : Nat) (τ : jg_M) (u4 u5 u6 u7 u8 : Value), i + m = 2401 → jF kW_gm σ τ → (∀ c : Nat, c < i → τ.1 (92 + 41) (c : Int) = 0) → jg_GI w 2 mm_X12_game 36 [.ref 92, .int (.ofInt (n : Int)), .int (.ofInt x2), .int (.ofInt (i : Int)), u4, u5, u6, u7, u8] τ KI := by
    intro m
    induction m with
    | zero =>
      intro i τ u4 u5 u6 u7 u8 hi hf hz
      refine jb_X12_game_36 rfl ?_
      rw [jr_wr (by omega)]
      refine jn_ite (fun _ => ?_) (fun h => by omega)
      refine hlev n (-1) τ _ _ _ _ (Nat.le_refl n) hf (fun hn0 => by rw [hn0]; rfl) (fun c hc hs => ?_)
      have h2401 := hpw n hn
      rw [hz c (by omega), jn_b_f]
      unfold kr_wt
      rw [Nat.sub_self]
      cases kr_rc g n c K with
      | none => exact fun q => q
      | some K' => exact fun q => absurd q (by show ¬ (0 : Int) ≤ -2; decide)
    | succ m ih =>
      intro i τ u4 u5 u6 u7 u8 hi hf hz
      refine jb_X12_game_36 rfl ?_
      rw [jr_wr (by omega)]
      refine jn_ite (fun h => by omega) (fun _ => ⟨by omega, ?_⟩)
      rintro _ rfl
      have := ih (i + 1) (jg_sI τ (92 + 41) (i : Int) (jg_nar 0)) u4 u5 u6 u7 u8 (by omega) (jF_toI hf (by unfold kW_gm; omega)) (fun c hc => by
        by_cases hci : c = i
        · subst hci; rw [js_Is]; decide
        · rw [js_In (Or.inr (by omega))]; exact hz c (by omega))
      rw [show ((i + 1 : Nat) : Int) = (i : Int) + 1 by omega] at this
      exact this
  exact hini 2401 0 σ u4 u5 u6 u7 u8 rfl jF_rf (fun c hc => by omega)
end KRH
