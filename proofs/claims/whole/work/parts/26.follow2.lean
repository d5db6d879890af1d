/-! FOLLOW, on both sides, 2 -/
section JFP
variable {w : Nat} {σ : jg_M} {G : Nat} {g : gM} {x r k b c d : Int} {e e' v : Nat} {f f' q q' : Int → Nat} {K : jg_M → Prop} {KI : Int → jg_M → Prop}
theorem jn_pow_lt (hW : jn_GW g) : 2 ^ (g 0 0).toNat < 256 ∧ jg_shl 1 (g 0 0) = ((2 ^ (g 0 0).toNat : Nat) : Int) := by
  have hw := hW.1
  have h1 : 2 ^ (g 0 0).toNat < 256 := by
    have : 2 ^ (g 0 0).toNat < 2 ^ 8 := Nat.pow_lt_pow_right (by omega) (by omega)
    omega
  refine ⟨h1, ?_⟩
  have hb := jb_shl (m := 1) (k := (g 0 0).toNat) (by omega) (by omega)
  rw [show (((g 0 0).toNat : Nat) : Int) = g 0 0 by omega, Nat.one_mul, show ((1 : Nat) : Int) = 1 from rfl] at hb
  exact hb
theorem jn_mW_0 (hW : jn_GW g) (hn : 0 < g 0 1) : jn_mW g e f (jn_up (fun _ => 0) (g 0 3) (2 ^ (g 0 0).toNat)) := by
  have hw := hW.1
  refine ⟨fun x x1 x2 => ?_, fun x x1 x2 => ?_, fun w' hw' x x1 x2 => ?_⟩
  · by_cases hx : x = g 0 3
    · rw [hx, jn_up_s]; exact (jn_pow_lt hW).1
    · rw [jn_up_n hx]; omega
  · rw [jn_up_n (by omega)]
  · by_cases hx : x = g 0 3
    · rw [hx, jn_up_s]; exact hw'.1 hn
    · rw [jn_up_n hx]; exact jn_sub_0
theorem jc_X0_settleFollows (h0 : jg_sh G = (0, 0)) (hG : jn_Gr σ G g) (hW : jn_GW g) (he : σ.1 G 11 = (e : Int)) (he2 : e < 32) (hf : ∀ k, 0 ≤ k → k < 5 → σ.1 (G + 7) k = (f k : Int)) (hf2 : ∀ k, 0 ≤ k → k < 5 → f k < 256)
    (hk : ∀ τ q, jF (fun a _ => a = G + 8) σ τ → (∀ x, 0 ≤ x → x < 5 → τ.1 (G + 8) x = ((q x : Nat) : Int)) → jn_lW g e f q → K τ) : jg_CV w 4 mm_X0_settleFollows [.ref G] σ K := by
  refine jb_X0_settleFollows_0 h0 (jc_fill (jg_sX0_13 h0) (by omega) (fun τ0 hF0 hz => ?_))
  have hw := hW.1
  have hGt : ∀ τ, jF (fun a _ => a = G + 8) σ τ → jn_Gr τ G g ∧ τ.1 G 11 = (e : Int) ∧ ∀ k, 0 ≤ k → k < 5 → τ.1 (G + 7) k = (f k : Int) := fun τ h => ⟨jn_Gr_fr hG h (by omega) (by omega), (h.1 _ _ (by omega)).trans he, fun k h1 h2 => (h.1 _ _ (by omega)).trans (hf k h1 h2)⟩
  have hst : ∀ q : Int → Nat, (0 < g 0 1 → jn_sub (2 ^ (g 0 0).toNat) (q (g 0 3))) → ∀ q' : Int → Nat, (∀ x, 0 ≤ x → x < 5 → jn_sub (q x) (q' x)) → 0 < g 0 1 → jn_sub (2 ^ (g 0 0).toNat) (q' (g 0 3)) := fun q h1 q' h2 h3 => jn_sub_tr (h1 h3) (h2 _ (by omega) (by omega))
  have hin : ∀ (m : Nat) (r b n : Int) (S0 : Nat) (q : Int → Nat) (τ : jg_M), (∀ (b : Int) (τ : jg_M) (q : Int → Nat), jF (fun a _ => a = G + 8) σ τ → (∀ x, 0 ≤ x → x < 5 → τ.1 (G + 8) x = ((q x : Nat) : Int)) → jn_mW g e f q → (0 < g 0 1 → jn_sub (2 ^ (g 0 0).toNat) (q (g 0 3))) → ((b = 0 ∧ jn_cW g e f q) ∨ (b = 1 ∧ S0 < jn_S q)) → jg_GV w 4 mm_X0_settleFollows 31 [.ref G, .int (.ofInt b), .int (.ofInt (n + 1)), .int (.ofInt (g 0 2))] τ K) →
      0 ≤ r → r ≤ g 0 2 → (g 0 2 - r).toNat = m → jF (fun a _ => a = G + 8) σ τ → (∀ x, 0 ≤ x → x < 5 → τ.1 (G + 8) x = ((q x : Nat) : Int)) → jn_mW g e f q → (0 < g 0 1 → jn_sub (2 ^ (g 0 0).toNat) (q (g 0 3))) → S0 ≤ jn_S q → ((b = 0 ∧ ∀ r', 0 ≤ r' → r' < r → r' ≠ g 0 4 → ∀ d, 0 ≤ d → d < jn_len g r' → jn_cW1 g e f q r' d) ∨ (b = 1 ∧ S0 < jn_S q)) → jg_GV w 4 mm_X0_settleFollows 45 [.ref G, .int (.ofInt b), .int (.ofInt n), .int (.ofInt r)] τ K := by
    intro m
    induction m with
    | zero =>
      intro r b n S0 q τ hP h1 h2 h3 h4 h5 h6 h7 h9 h10
      refine jb_X0_settleFollows_45 h0 ?_
      have hr : r = g 0 2 := by omega
      rw [(hGt τ h4).1.1.2.2.1, jr_wr (by omega), jr_wr (by omega)]
      refine jn_ite (fun hc => ?_) (fun hc => by omega)
      rw [hr]
      refine hP b τ q h4 h5 h6 h7 ?_
      rcases h10 with ⟨q1, q2⟩ | q
      · exact Or.inl ⟨q1, h7, fun r' r1 r2 r3 => q2 r' r1 (by omega) r3⟩
      · exact Or.inr q
    | succ m ih =>
      intro r b n S0 q τ hP h1 h2 h3 h4 h5 h6 h7 h9 h10
      refine jb_X0_settleFollows_45 h0 ?_
      obtain ⟨hGτ, heτ, hfτ⟩ := hGt τ h4
      rw [hGτ.1.2.2.1, jr_wr (by omega), jr_wr (by omega)]
      have next : (r = g 0 4 ∨ ∀ d, 0 ≤ d → d < jn_len g r → jn_cW1 g e f q r d) → jg_GV w 4 mm_X0_settleFollows 45 [.ref G, .int (.ofInt b), .int (.ofInt n), .int (.ofInt (r + 1))] τ K := by
        intro hq
        refine ih (r + 1) b n S0 q τ hP (by omega) (by omega) (by omega) h4 h5 h6 h7 h9 ?_
        rcases h10 with ⟨q1, q2⟩ | q
        · refine Or.inl ⟨q1, fun r' r1 r2 r3 => ?_⟩
          by_cases hr : r' = r
          · rw [hr] at r3 ⊢; exact hq.resolve_left r3
          · exact q2 r' r1 (by omega) r3
        · exact Or.inr q
      refine jn_ite (fun hc => by omega) (fun hc => jc_X0_uses h0 hGτ hW (by omega) (jn_if (fun hp => next (Or.inl (by omega))) (fun hp => ?_)))
      refine jc_X0_widenFollowsBy h0 hGτ hW heτ he2 hfτ hf2 h5 h6 (by omega) (fun hq => ?_) (fun τ' q' a1 a2 a3 a4 a5 => ?_)
      · rw [show jg_wr 0 = 0 from rfl]
        exact jn_ite (fun _ => next (Or.inr hq)) (fun hc => absurd rfl hc)
      · rw [show jg_wr 1 = 1 from rfl]
        exact jn_ite (fun hc => by omega) (fun _ => ih (r + 1) 1 n S0 q' τ' hP (by omega) (by omega) (by omega) (jF_tr h4 a1) a2 a3 (hst q h7 q' a4) (by omega) (Or.inr ⟨rfl, by omega⟩))
  have hout : ∀ (m : Nat) (n : Int) (u : Value) (q : Int → Nat) (τ : jg_M), 1275 - jn_S q = m → 0 ≤ n → n ≤ jn_S q → jF (fun a _ => a = G + 8) σ τ → (∀ x, 0 ≤ x → x < 5 → τ.1 (G + 8) x = ((q x : Nat) : Int)) → jn_mW g e f q → (0 < g 0 1 → jn_sub (2 ^ (g 0 0).toNat) (q (g 0 3))) → jg_GV w 4 mm_X0_settleFollows 31 [.ref G, .int (.ofInt 1), .int (.ofInt n), u] τ K := by
    intro m
    induction m using Nat.strongRecOn with
    | ind m ih =>
      intro n u q τ h1 h2 h3 h4 h5 h6 h7
      have hS := jn_S_le h6.1
      refine jb_X0_settleFollows_31 h0 ?_
      rw [show jg_wr 1 = 1 from rfl, jr_wr (by omega)]
      refine jn_ite (fun hc => by omega) (fun hc => jn_ite (fun hc2 => by omega) (fun hc2 => ?_))
      refine hin _ 0 0 n (jn_S q) q τ (fun b τ' q2 a1 a2 a3 a4 a5 => ?_) (by omega) (by omega) rfl h4 h5 h6 h7 (Nat.le_refl _) (Or.inl ⟨rfl, fun r' r1 r2 => by omega⟩)
      have hS2 := jn_S_le a3.1
      rcases a5 with ⟨rfl, a5⟩ | ⟨rfl, a5⟩
      · refine jb_X0_settleFollows_31 h0 ?_
        rw [show jg_wr 0 = 0 from rfl]
        exact jn_ite (fun _ => hk τ' q2 a1 a2 ⟨a5, a3.1, a3.2.1, a3.2.2⟩) (fun hc => absurd rfl hc)
      · exact ih (1275 - jn_S q2) (by omega) (n + 1) _ q2 τ' rfl (by omega) (by omega) a1 a2 a3 a4
  obtain ⟨hGτ, heτ, hfτ⟩ := hGt τ0 hF0
  rw [hGτ.1.1, hGτ.1.2.2.2.1, (jn_pow_lt hW).2]
  refine jc_X0_widen (s := 0) h0 (jg_sX0_13 h0) (by omega) hGτ hW (by omega) (fun h1 h2 => hz _ h1 (by omega)) (fun _ _ => by omega) (jn_pow_lt hW).1 (fun hh => ?_) (fun hh1 hh2 => ?_)
  · have hn : ¬ 0 < g 0 1 := by
      rcases hh with hh | hh
      · omega
      · have := jn_sub_pow.mp hh
        rw [Nat.zero_testBit] at this
        cases this
    refine hout _ 0 _ (fun _ => 0) τ0 rfl (by omega) (by omega) hF0 (fun x x1 x2 => hz x x1 (by omega)) ⟨fun _ _ _ => (by decide : 0 < 256), fun _ _ _ => rfl, fun w' hw' x x1 x2 => by omega⟩ (fun h => absurd h hn)
  · refine hout _ 0 _ (jn_up (fun _ => 0) (g 0 3) (2 ^ (g 0 0).toNat)) _ rfl (by omega) (by omega) (jF_toI hF0 rfl) (fun x x1 x2 => ?_) (jn_mW_0 hW (by omega)) (fun _ => by rw [jn_up_s]; exact jn_sub_rf)
    by_cases hx : x = g 0 3
    · rw [hx, js_Is, jn_up_s, Nat.zero_or]
    · rw [js_In (Or.inr hx), jn_up_n hx]; exact hz x x1 (by omega)
/-- a grammar's arrays in a bank of the reference -/
def jn_Mb (σ : jg_M) (b : Int) (g : gM) : Prop := ((0 ≤ b ∧ b ≤ 1) ∧ σ.1 (92 + 3) b = g 0 0 ∧ σ.1 (92 + 4) b = g 0 1 ∧ σ.1 (92 + 5) b = g 0 2) ∧
  ∀ r, 0 ≤ r → r < g 0 2 → σ.1 (92 + 10) (13 * b + r) = g 3 r ∧ σ.1 (92 + 11) (13 * b + r) = g 4 r ∧ ∀ d, 0 ≤ d → d < g 4 r → σ.1 (92 + 12) (4 * (13 * b + r) + d) = g 5 (r * 4 + d)
theorem jn_Mg_of (h : jn_Mb σ b g) (h1 : σ.1 92 35 = b) (h2 : σ.1 92 33 = g 0 3) (h3 : σ.1 92 34 = g 0 4) : jn_Mg σ b g := ⟨⟨h1, h.1.1, h2, h3, h.1.2⟩, h.2⟩
theorem jn_Mb_of (h : jn_Mg σ b g) : jn_Mb σ b g := ⟨⟨h.1.2.1, h.1.2.2.2.2⟩, h.2⟩
theorem jn_Mb_fr {W : Nat → Int → Prop} {τ : jg_M} (hG : jn_Mb σ b g) (hF : jF W σ τ) (h2 : ∀ (k : Nat) (i : Int), (3 ≤ k ∧ k ≤ 5) ∨ (10 ≤ k ∧ k ≤ 12) → ¬ W (92 + k) i) : jn_Mb τ b g := by
  obtain ⟨⟨a1, a4, a5, a6⟩, h3⟩ := hG
  have f := hF.1
  refine ⟨⟨a1, (f _ _ (h2 3 _ (by decide))).trans a4, (f _ _ (h2 4 _ (by decide))).trans a5, (f _ _ (h2 5 _ (by decide))).trans a6⟩, fun r hr1 hr2 => ?_⟩
  obtain ⟨q1, q2, q3⟩ := h3 r hr1 hr2
  exact ⟨(f _ _ (h2 10 _ (by decide))).trans q1, (f _ _ (h2 11 _ (by decide))).trans q2, fun d hd1 hd2 => (f _ _ (h2 12 _ (by decide))).trans (q3 d hd1 hd2)⟩
/-- the places of layFollow -/
def jW_fo (a : Nat) (i : Int) : Prop := (a = 92 ∧ 33 ≤ i ∧ i ≤ 36) ∨ a = 92 + 25
theorem jm_layFollow (hG : jn_Mb σ b g) (hW : jn_GW g) (hc2 : 0 ≤ c ∧ c ≤ 1) (he : σ.1 (92 + 20) c = (e : Int)) (he2 : e < 32) (hf : ∀ k, 0 ≤ k → k < 5 → σ.1 (92 + 21) (5 * c + k) = (f k : Int)) (hf2 : ∀ k, 0 ≤ k → k < 5 → f k < 256)
    (hk : ∀ τ q, jF jW_fo σ τ → τ.1 92 36 = c → τ.1 92 35 = b → τ.1 92 34 = g 0 4 → τ.1 92 33 = 0 → (∀ x, 0 ≤ x → x < 5 → τ.1 (92 + 25) x = ((q x : Nat) : Int)) → jn_lW g e f q → K τ) : jg_CV w 3 mm_X12_layFollow [.ref 92, .int (.ofInt c), .int (.ofInt b), .int (.ofInt (g 0 4)), .int (.ofInt (g 0 3))] σ K := by
  refine jb_X12_layFollow_0 rfl ?_
  have hw := hW.1
  have hb := hG.1.1
  rintro m1 rfl m2 rfl m3 rfl m4 hm4
  have hF4 : jF jW_fo σ m4 := by
    rw [hm4]
    refine jF_toI (jF_toI (jF_toI (jF_I ?_) ?_) ?_) ?_ <;> exact Or.inl (by omega)
  have h36 : m4.1 92 36 = c := by rw [hm4, js_In (by omega), js_In (by omega), js_In (by omega), js_Is]
  have h35 : m4.1 92 35 = b := by rw [hm4, js_In (by omega), js_In (by omega), js_Is]
  have h34 : m4.1 92 34 = g 0 4 := by rw [hm4, js_In (by omega), js_Is]
  have h33 : m4.1 92 33 = g 0 3 := by rw [hm4, js_Is]
  -- from here on only the row of FOLLOW is written
  have hGt : ∀ τ, jF (fun a _ => a = 92 + 25) m4 τ → jn_Mg τ b g ∧ τ.1 92 36 = c ∧ τ.1 (92 + 20) c = (e : Int) ∧ ∀ k, 0 ≤ k → k < 5 → τ.1 (92 + 21) (5 * c + k) = (f k : Int) := fun τ h => by
    have hMb : jn_Mb τ b g := jn_Mb_fr (jn_Mb_fr hG hF4 (by unfold jW_fo; omega)) h (by omega)
    refine ⟨jn_Mg_of hMb ((h.1 _ _ (by omega)).trans h35) ((h.1 _ _ (by omega)).trans h33) ((h.1 _ _ (by omega)).trans h34), (h.1 _ _ (by omega)).trans h36, ?_, fun k k1 k2 => ?_⟩
    · exact (h.1 _ _ (by omega)).trans ((hF4.1 _ _ (by unfold jW_fo; omega)).trans he)
    · exact (h.1 _ _ (by omega)).trans ((hF4.1 _ _ (by unfold jW_fo; omega)).trans (hf k k1 k2))
  have hst : ∀ q : Int → Nat, (0 < g 0 1 → jn_sub (2 ^ (g 0 0).toNat) (q (g 0 3))) → ∀ q' : Int → Nat, (∀ x, 0 ≤ x → x < 5 → jn_sub (q x) (q' x)) → 0 < g 0 1 → jn_sub (2 ^ (g 0 0).toNat) (q' (g 0 3)) := fun q h1 q' h2 h3 => jn_sub_tr (h1 h3) (h2 _ (by omega) (by omega))
  have hd : ∀ (m : Nat) (d r bb : Int) (u1 u4 u8 u9 : Value) (S0 : Nat) (q : Int → Nat) (τ : jg_M), (∀ (u1 u4 u7 u8 u9 : Value) (bb : Int) (τ : jg_M) (q : Int → Nat), jF (fun a _ => a = 92 + 25) m4 τ → (∀ x, 0 ≤ x → x < 5 → τ.1 (92 + 25) x = ((q x : Nat) : Int)) → jn_mW g e f q → (0 < g 0 1 → jn_sub (2 ^ (g 0 0).toNat) (q (g 0 3))) → S0 ≤ jn_S q → ((bb = 0 ∧ ∀ r', 0 ≤ r' → r' < r + 1 → r' ≠ g 0 4 → ∀ d, 0 ≤ d → d < jn_len g r' → jn_cW1 g e f q r' d) ∨ (bb = 1 ∧ S0 < jn_S q)) → jg_GV w 3 mm_X12_layFollow 85 [.ref 92, u1, .int (.ofInt b), .int (.ofInt (g 0 4)), u4, .int (.ofInt bb), .int (.ofInt (r + 1)), u7, u8, u9] τ K) →
      0 ≤ r → r < g 0 2 → 0 ≤ d → d ≤ jn_len g r → (jn_len g r - d).toNat = m → jF (fun a _ => a = 92 + 25) m4 τ → (∀ x, 0 ≤ x → x < 5 → τ.1 (92 + 25) x = ((q x : Nat) : Int)) → jn_mW g e f q → (0 < g 0 1 → jn_sub (2 ^ (g 0 0).toNat) (q (g 0 3))) → S0 ≤ jn_S q → ((bb = 0 ∧ (∀ r', 0 ≤ r' → r' < r → r' ≠ g 0 4 → ∀ d, 0 ≤ d → d < jn_len g r' → jn_cW1 g e f q r' d) ∧ (r ≠ g 0 4 → ∀ d', 0 ≤ d' → d' < d → jn_cW1 g e f q r d')) ∨ (bb = 1 ∧ S0 < jn_S q)) → jg_GV w 3 mm_X12_layFollow 99 [.ref 92, u1, .int (.ofInt b), .int (.ofInt (g 0 4)), u4, .int (.ofInt bb), .int (.ofInt r), .int (.ofInt d), u8, u9] τ K := by
    intro m
    induction m with
    | zero =>
      intro d r bb u1 u4 u8 u9 S0 q τ hP r1 r2 d1 d2 d3 h4 h5 h6 h7 h9 h10
      refine jb_X12_layFollow_99 rfl (jm_longOf (hGt τ h4).1 hW (by omega) ?_)
      have hl := jn_len_rng (r := r) hW
      rw [jr_wr (by omega), jr_wr (by omega)]
      refine jn_ite (fun _ => hP _ _ _ _ _ bb τ q h4 h5 h6 h7 h9 ?_) (fun hc => by omega)
      rcases h10 with ⟨q1, q2, q3⟩ | q
      · refine Or.inl ⟨q1, fun r' s1 s2 s3 d' t1 t2 => ?_⟩
        by_cases hr : r' = r
        · rw [hr] at s3 t2 ⊢; exact q3 s3 d' t1 (by omega)
        · exact q2 r' s1 (by omega) s3 d' t1 t2
      · exact Or.inr q
    | succ m ih =>
      intro d r bb u1 u4 u8 u9 S0 q τ hP r1 r2 d1 d2 d3 h4 h5 h6 h7 h9 h10
      obtain ⟨hGτ, hcτ, heτ, hfτ⟩ := hGt τ h4
      have hl := jn_len_rng (r := r) hW
      have hrk := (hW.2.1 r r1 r2).1
      have hsy := jn_sym_rng (r := r) (k := d) hW ⟨d1, by omega⟩
      have hmx := jn_mx_rng (r := r) (k := d) hW
      refine jb_X12_layFollow_99 rfl (jm_longOf hGτ hW (by omega) ?_)
      rw [jr_wr (show jr (jn_len g r) by omega), jr_wr (show jr d by omega)]
      refine jn_ite (fun hc => by omega) (fun _ => jm_moveBy hGτ hW (by omega) (by omega) ?_)
      rw [jr_wr (show jr r by omega), jr_wr (show jr (g 0 4) by omega), jr_wr (show jr (jn_mx (jn_sym g r d)) by omega)]
      -- nothing to do at this place
      have next : (r = g 0 4 ∨ jn_cW1 g e f q r d) → ∀ u8 u9 : Value, jg_GV w 3 mm_X12_layFollow 99 [.ref 92, u1, .int (.ofInt b), .int (.ofInt (g 0 4)), u4, .int (.ofInt bb), .int (.ofInt r), .int (.ofInt (d + 1)), u8, u9] τ K := by
        intro hq u8 u9
        refine ih (d + 1) r bb u1 u4 u8 u9 S0 q τ hP r1 r2 (by omega) (by omega) (by omega) h4 h5 h6 h7 h9 ?_
        rcases h10 with ⟨q1, q2, q3⟩ | q
        · refine Or.inl ⟨q1, q2, fun s1 d' t1 t2 => ?_⟩
          by_cases hx : d' = d
          · rw [hx]; exact hq.resolve_left s1
          · exact q3 s1 d' t1 (by omega)
        · exact Or.inr q
      refine jn_ite (fun ho => next (Or.inl ho) _ _) (fun ho => jn_ite (fun hq7 => ?_) (fun hq7 => next (Or.inr (fun h10 => ?_)) _ _))
      · have hns : ¬ jn_sym g r d < 10 := by
          intro hh
          unfold jn_mx at hq7
          rw [if_neg (by omega), if_pos hh] at hq7
          omega
        have hmx2 : jn_mx (jn_sym g r d) - 7 = jn_sym g r d - 10 := by unfold jn_mx; rw [if_neg (by omega), if_neg hns]; omega
        have hTlt := jn_T_lt (e := e) (r := r) (d := d) hW hf2 h6.1 ⟨r1, r2⟩ d1
        have hFlt := jn_F_lt (e := e) (r := r) (k := d + 1) hW hf2 (by omega)
        have hgt := fun hq => jn_or_gt (a := q (jn_sym g r d - 10)) (b := jn_T g e f q r d) hq
        have hSu := jn_S_up (f := q) (v := q (jn_sym g r d - 10) ||| jn_T g e f q r d) (k := jn_sym g r d - 10) (by omega)
        have hqlt := h6.1 (jn_sym g r d - 10) (by omega) (by omega)
        have fin : ∀ (t : Int), t = ((jn_T g e f q r d : Nat) : Int) → (if jg_wr bb = 0 then ((0 : Int) ≤ jg_wr (jn_sym g r d - 10) ∧ jg_wr (jn_sym g r d - 10) < (5 : Int)) ∧ (if jg_wr (jg_and t (jg_xor (τ.1 (92 + 25) (jg_wr (jn_sym g r d - 10))) (-1))) = 0 then ((0 : Int) ≤ jg_wr (jn_sym g r d - 10) ∧ jg_wr (jn_sym g r d - 10) < (5 : Int)) ∧ ((0 : Int) ≤ (jg_wr (jn_sym g r d - 10)) ∧ (jg_wr (jn_sym g r d - 10)) < (5 : Int)) ∧ ∀ m110 : jg_M, m110 = jg_sI τ (92 + 25) (jg_wr (jn_sym g r d - 10)) (jg_or (τ.1 (92 + 25) (jg_wr (jn_sym g r d - 10))) t) → jg_GV w 3 mm_X12_layFollow 99 [.ref 92, u1, .int (.ofInt b), .int (.ofInt (g 0 4)), u4, .int (.ofInt 0), .int (.ofInt r), .int (.ofInt (d + 1)), .int (.ofInt (jn_mx (jn_sym g r d))), .int (.ofInt t)] m110 K else ((0 : Int) ≤ jg_wr (jn_sym g r d - 10) ∧ jg_wr (jn_sym g r d - 10) < (5 : Int)) ∧ ((0 : Int) ≤ (jg_wr (jn_sym g r d - 10)) ∧ (jg_wr (jn_sym g r d - 10)) < (5 : Int)) ∧ ∀ m111 : jg_M, m111 = jg_sI τ (92 + 25) (jg_wr (jn_sym g r d - 10)) (jg_or (τ.1 (92 + 25) (jg_wr (jn_sym g r d - 10))) t) → jg_GV w 3 mm_X12_layFollow 99 [.ref 92, u1, .int (.ofInt b), .int (.ofInt (g 0 4)), u4, .int (.ofInt 1), .int (.ofInt r), .int (.ofInt (d + 1)), .int (.ofInt (jn_mx (jn_sym g r d))), .int (.ofInt t)] m111 K) else ((0 : Int) ≤ jg_wr (jn_sym g r d - 10) ∧ jg_wr (jn_sym g r d - 10) < (5 : Int)) ∧ ((0 : Int) ≤ (jg_wr (jn_sym g r d - 10)) ∧ (jg_wr (jn_sym g r d - 10)) < (5 : Int)) ∧ ∀ m112 : jg_M, m112 = jg_sI τ (92 + 25) (jg_wr (jn_sym g r d - 10)) (jg_or (τ.1 (92 + 25) (jg_wr (jn_sym g r d - 10))) t) → jg_GV w 3 mm_X12_layFollow 99 [.ref 92, u1, .int (.ofInt b), .int (.ofInt (g 0 4)), u4, .int (.ofInt 1), .int (.ofInt r), .int (.ofInt (d + 1)), .int (.ofInt (jn_mx (jn_sym g r d))), .int (.ofInt t)] m112 K) := by
          rintro t rfl
          rw [jr_wr (show jr (jn_sym g r d - 10) by omega), h5 _ (by omega) (by omega), jb_or (by omega) (by omega)]
          have cont : ∀ (b2 : Int) (u8 u9 : Value), ((b2 = 0 ∧ (bb = 0 ∧ jn_sub (jn_T g e f q r d) (q (jn_sym g r d - 10)))) ∨ (b2 = 1 ∧ (bb = 1 ∨ ¬ jn_sub (jn_T g e f q r d) (q (jn_sym g r d - 10))))) → jg_GV w 3 mm_X12_layFollow 99 [.ref 92, u1, .int (.ofInt b), .int (.ofInt (g 0 4)), u4, .int (.ofInt b2), .int (.ofInt r), .int (.ofInt (d + 1)), u8, u9] (jg_sI τ (92 + 25) (jn_sym g r d - 10) ((q (jn_sym g r d - 10) ||| jn_T g e f q r d : Nat) : Int)) K := by
            intro b2 u8 u9 hb2
            have hle : q (jn_sym g r d - 10) ≤ q (jn_sym g r d - 10) ||| jn_T g e f q r d := Nat.left_le_or
            refine ih (d + 1) r b2 u1 u4 u8 u9 S0 (jn_up q (jn_sym g r d - 10) (q (jn_sym g r d - 10) ||| jn_T g e f q r d)) _ hP r1 r2 (by omega) (by omega) (by omega) (jF_toI h4 rfl) (fun x x1 x2 => ?_) (jn_mW_up hW hf2 h6 ⟨r1, r2, ho⟩ ⟨d1, by omega⟩ (by omega)) (hst q h7 _ (fun x x1 x2 => jn_up_sub)) (by omega) ?_
            · by_cases hx : x = jn_sym g r d - 10
              · rw [hx, js_Is, jn_up_s]
              · rw [js_In (Or.inr hx), jn_up_n hx]; exact h5 x x1 x2
            · rcases hb2 with ⟨rfl, rfl, hs⟩ | ⟨rfl, hs⟩
              · have hup : jn_up q (jn_sym g r d - 10) (q (jn_sym g r d - 10) ||| jn_T g e f q r d) = q := by
                  funext x
                  rw [jn_sub_eq hs]
                  unfold jn_up
                  split
                  · rename_i hx; rw [hx]
                  · rfl
                rw [hup]
                rcases h10 with ⟨q1, q2, q3⟩ | ⟨q1, q2⟩
                · refine Or.inl ⟨rfl, q2, fun s1 d' t1 t2 => ?_⟩
                  by_cases hx : d' = d
                  · rw [hx]; exact fun _ => hs
                  · exact q3 s1 d' t1 (by omega)
                · omega
              · refine Or.inr ⟨rfl, ?_⟩
                rcases h10 with ⟨q1, -, -⟩ | ⟨q1, q2⟩
                · have := hgt (hs.resolve_left (by omega))
                  omega
                · omega
          have hbb : bb = 0 ∨ bb = 1 := by
            rcases h10 with ⟨q1, -, -⟩ | ⟨q1, -⟩
            · exact Or.inl q1
            · exact Or.inr q1
          rw [jr_wr (show jr bb by omega)]
          refine jn_ite (fun hz => ⟨by omega, jn_ite (fun hz2 => ⟨by omega, by omega, ?_⟩) (fun hz2 => ⟨by omega, by omega, ?_⟩)⟩) (fun hz => ⟨by omega, by omega, ?_⟩)
          · rintro _ rfl
            rw [jb_andn (by omega) (by omega)] at hz2
            exact cont 0 _ _ (Or.inl ⟨rfl, hz, hz2⟩)
          · rintro _ rfl
            rw [jb_andn (by omega) (by omega)] at hz2
            exact cont 1 _ _ (Or.inr ⟨rfl, Or.inr hz2⟩)
          · rintro _ rfl
            exact cont 1 _ _ (Or.inr ⟨rfl, Or.inl (by omega)⟩)
        rw [hmx2]
        refine jm_firstFrom hGτ hW hcτ hc2 heτ he2 hfτ hf2 (by omega) (by omega) (jm_isEmptyFrom hGτ hW hcτ hc2 heτ he2 (by omega) (by omega) (jn_if (fun hp => ?_) (fun hp => ?_)))
        · intro t ht
          refine fin t ?_
          have h0 := jb_or (m := jn_F g e f r (d + 1)) (n := 0) (by omega) (by omega)
          rw [show ((0 : Nat) : Int) = 0 from rfl] at h0
          rw [ht, h0, Nat.or_zero]
          unfold jn_T
          rw [if_neg hp, Nat.or_zero]
        · rw [jr_wr (show jr (13 * b + r) by omega), (hGτ.2 r r1 r2).1, jr_wr (show jr (g 3 r) by omega)]
          refine ⟨by omega, by omega, fun t ht => ?_⟩
          refine fin t ?_
          rw [ht, h5 _ (by omega) (by omega), jb_or (by omega) (by have := h6.1 (g 3 r) (by omega) (by omega); omega)]
          unfold jn_T
          rw [if_pos hp]
      · unfold jn_mx at hq7
        rw [if_neg (by omega), if_neg (by omega)] at hq7
        omega
  have hr : ∀ (m : Nat) (r bb : Int) (u1 u4 u7 u8 u9 : Value) (S0 : Nat) (q : Int → Nat) (τ : jg_M), (∀ (u1 u4 u6 u7 u8 u9 : Value) (bb : Int) (τ : jg_M) (q : Int → Nat), jF (fun a _ => a = 92 + 25) m4 τ → (∀ x, 0 ≤ x → x < 5 → τ.1 (92 + 25) x = ((q x : Nat) : Int)) → jn_mW g e f q → (0 < g 0 1 → jn_sub (2 ^ (g 0 0).toNat) (q (g 0 3))) → ((bb = 0 ∧ jn_cW g e f q) ∨ (bb = 1 ∧ S0 < jn_S q)) → jg_GV w 3 mm_X12_layFollow 74 [.ref 92, u1, .int (.ofInt b), .int (.ofInt (g 0 4)), u4, .int (.ofInt bb), u6, u7, u8, u9] τ K) →
      0 ≤ r → r ≤ g 0 2 → (g 0 2 - r).toNat = m → jF (fun a _ => a = 92 + 25) m4 τ → (∀ x, 0 ≤ x → x < 5 → τ.1 (92 + 25) x = ((q x : Nat) : Int)) → jn_mW g e f q → (0 < g 0 1 → jn_sub (2 ^ (g 0 0).toNat) (q (g 0 3))) → S0 ≤ jn_S q → ((bb = 0 ∧ ∀ r', 0 ≤ r' → r' < r → r' ≠ g 0 4 → ∀ d, 0 ≤ d → d < jn_len g r' → jn_cW1 g e f q r' d) ∨ (bb = 1 ∧ S0 < jn_S q)) → jg_GV w 3 mm_X12_layFollow 85 [.ref 92, u1, .int (.ofInt b), .int (.ofInt (g 0 4)), u4, .int (.ofInt bb), .int (.ofInt r), u7, u8, u9] τ K := by
    intro m
    induction m with
    | zero =>
      intro r bb u1 u4 u7 u8 u9 S0 q τ hP r1 r2 r3 h4 h5 h6 h7 h9 h10
      obtain ⟨hGτ, hcτ, heτ, hfτ⟩ := hGt τ h4
      refine jb_X12_layFollow_85 rfl ?_
      rw [jr_wr (show jr b by omega), hGτ.1.2.2.2.2.2.2, jr_wr (show jr (g 0 2) by omega), jr_wr (show jr r by omega)]
      refine ⟨by omega, jn_ite (fun _ => hP _ _ _ _ _ _ bb τ q h4 h5 h6 h7 ?_) (fun hc => by omega)⟩
      rcases h10 with ⟨q1, q2⟩ | q
      · exact Or.inl ⟨q1, h7, fun r' s1 s2 s3 => q2 r' s1 (by omega) s3⟩
      · exact Or.inr q
    | succ m ih =>
      intro r bb u1 u4 u7 u8 u9 S0 q τ hP r1 r2 r3 h4 h5 h6 h7 h9 h10
      obtain ⟨hGτ, hcτ, heτ, hfτ⟩ := hGt τ h4
      have hl := jn_len_rng (r := r) hW
      refine jb_X12_layFollow_85 rfl ?_
      rw [jr_wr (show jr b by omega), hGτ.1.2.2.2.2.2.2, jr_wr (show jr (g 0 2) by omega), jr_wr (show jr r by omega)]
      refine ⟨by omega, jn_ite (fun hc => by omega) (fun _ => ?_)⟩
      refine hd _ 0 r bb u1 u4 u8 u9 S0 q τ (fun u1 u4 u7 u8 u9 bb τ q a1 a2 a3 a4 a5 a6 => ih (r + 1) bb u1 u4 u7 u8 u9 S0 q τ hP (by omega) (by omega) (by omega) a1 a2 a3 a4 a5 a6) r1 (by omega) (by omega) (by omega) rfl h4 h5 h6 h7 h9 ?_
      rcases h10 with ⟨q1, q2⟩ | q
      · exact Or.inl ⟨q1, q2, fun _ d' t1 t2 => by omega⟩
      · exact Or.inr q
  have hout : ∀ (m : Nat) (u1 u4 u6 u7 u8 u9 : Value) (q : Int → Nat) (τ : jg_M), 1275 - jn_S q = m → jF (fun a _ => a = 92 + 25) m4 τ → (∀ x, 0 ≤ x → x < 5 → τ.1 (92 + 25) x = ((q x : Nat) : Int)) → jn_mW g e f q → (0 < g 0 1 → jn_sub (2 ^ (g 0 0).toNat) (q (g 0 3))) → jg_GV w 3 mm_X12_layFollow 74 [.ref 92, u1, .int (.ofInt b), .int (.ofInt (g 0 4)), u4, .int (.ofInt 1), u6, u7, u8, u9] τ K := by
    intro m
    induction m using Nat.strongRecOn with
    | ind m ih =>
      intro u1 u4 u6 u7 u8 u9 q τ h1 h4 h5 h6 h7
      have hS := jn_S_le h6.1
      refine jb_X12_layFollow_74 rfl ?_
      rw [show jg_wr 1 = 1 from rfl]
      refine jn_ite (fun hc => by omega) (fun hc => ?_)
      refine hr _ 0 0 u1 u4 u7 u8 u9 (jn_S q) q τ (fun u1 u4 u6 u7 u8 u9 bb τ' q2 a1 a2 a3 a4 a5 => ?_) (by omega) (by omega) rfl h4 h5 h6 h7 (Nat.le_refl _) (Or.inl ⟨rfl, fun r' r1 r2 => by omega⟩)
      have hS2 := jn_S_le a3.1
      rcases a5 with ⟨rfl, a5⟩ | ⟨rfl, a5⟩
      · refine jb_X12_layFollow_74 rfl ?_
        rw [show jg_wr 0 = 0 from rfl]
        refine jn_ite (fun _ => ?_) (fun hc => absurd rfl hc)
        rintro _ rfl
        obtain ⟨hGτ, hcτ, heτ, hfτ⟩ := hGt τ' a1
        refine hk _ q2 (jF_toI (jF_tr hF4 (jF_mono a1 (fun a i h => Or.inr h))) (Or.inl (by omega))) ((js_In (by omega)).trans hcτ) ((js_In (by omega)).trans hGτ.1.1) ((js_In (by omega)).trans hGτ.1.2.2.2.1) js_Is (fun x x1 x2 => (js_In (by omega)).trans (a2 x x1 x2)) ⟨a5, a3.1, a3.2.1, a3.2.2⟩
      · exact ih (1275 - jn_S q2) (by omega) _ _ _ _ _ _ q2 τ' rfl a1 a2 a3 a4
  have hini : ∀ (m : Nat) (x1 : Int) (u1 u6 u7 u8 u9 : Value) (τ : jg_M), 0 ≤ x1 → x1 ≤ 5 → (5 - x1).toNat = m → jF (fun a _ => a = 92 + 25) m4 τ → (∀ x, 0 ≤ x → x < x1 → τ.1 (92 + 25) x = ((if 0 < g 0 1 then jn_up (fun _ => 0) (g 0 3) (2 ^ (g 0 0).toNat) x else 0 : Nat) : Int)) → jg_GV w 3 mm_X12_layFollow 24 [.ref 92, u1, .int (.ofInt b), .int (.ofInt (g 0 4)), .int (.ofInt (g 0 3)), .int (.ofInt x1), u6, u7, u8, u9] τ K := by
    intro m
    induction m with
    | zero =>
      intro x1 u1 u6 u7 u8 u9 τ h1 h2 h3 h4 h6
      refine jb_X12_layFollow_24 rfl ?_
      rw [jr_wr (show jr x1 by omega)]
      refine jn_ite (fun _ => ?_) (fun hc => by omega)
      by_cases hn : 0 < g 0 1
      · refine hout _ _ _ _ _ _ _ (jn_up (fun _ => 0) (g 0 3) (2 ^ (g 0 0).toNat)) τ rfl h4 (fun x q1 q2 => ?_) (jn_mW_0 hW hn) (fun _ => by rw [jn_up_s]; exact jn_sub_rf)
        rw [h6 x q1 (by omega), if_pos hn]
      · refine hout _ _ _ _ _ _ _ (fun _ => 0) τ rfl h4 (fun x q1 q2 => ?_) ⟨fun _ _ _ => (by decide : 0 < 256), fun _ _ _ => rfl, fun w' hw' x x1 x2 => by omega⟩ (fun h => absurd h hn)
        rw [h6 x q1 (by omega), if_neg hn]
    | succ m ih =>
      intro x1 u1 u6 u7 u8 u9 τ h1 h2 h3 h4 h6
      obtain ⟨hGτ, hcτ, heτ, hfτ⟩ := hGt τ h4
      refine jb_X12_layFollow_24 rfl ?_
      rw [jr_wr (show jr x1 by omega), jr_wr (show jr (g 0 3) by omega), jr_wr (show jr b by omega), hGτ.1.2.2.2.2.2.1, jr_wr (show jr (g 0 1) by omega), hGτ.1.2.2.2.2.1, (jn_pow_lt hW).2]
      have go : ∀ v : Int, v = ((if 0 < g 0 1 then jn_up (fun _ => 0) (g 0 3) (2 ^ (g 0 0).toNat) x1 else 0 : Nat) : Int) → jg_GV w 3 mm_X12_layFollow 24 [.ref 92, u1, .int (.ofInt b), .int (.ofInt (g 0 4)), .int (.ofInt (g 0 3)), .int (.ofInt (x1 + 1)), u6, u7, u8, u9] (jg_sI τ (92 + 25) x1 v) K := by
        intro v hv
        refine ih (x1 + 1) u1 u6 u7 u8 u9 _ (by omega) (by omega) (by omega) (jF_toI h4 rfl) (fun x q1 q2 => ?_)
        by_cases hx : x = x1
        · rw [hx, js_Is]; exact hv
        · rw [js_In (Or.inr (by omega))]; exact h6 x q1 (by omega)
      refine jn_ite (fun hc => by omega) (fun _ => jn_ite (fun hq => ⟨by omega, jn_ite (fun hz => ⟨by omega, ?_⟩) (fun hz => ⟨by omega, by omega, ?_⟩)⟩) (fun hq => ⟨by omega, ?_⟩))
      · rintro _ rfl
        exact go 0 (by rw [if_neg (by omega)]; rfl)
      · rintro _ rfl
        exact go _ (by rw [if_pos (by omega), hq, jn_up_s])
      · rintro _ rfl
        refine go 0 ?_
        split
        · rw [jn_up_n hq]; rfl
        · rfl
  exact hini _ 0 _ _ _ _ _ m4 (by omega) (by omega) rfl jF_rf (fun x h1 h2 => by omega)
end JFP
