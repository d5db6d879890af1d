/-! THE REFERENCE'S GRAMMAR: b its bank of grammars, c its bank of tables -/
def jn_Mg (σ : jg_M) (b : Int) (g : gM) : Prop := (σ.1 92 35 = b ∧ (0 ≤ b ∧ b ≤ 1) ∧ σ.1 92 33 = g 0 3 ∧ σ.1 92 34 = g 0 4 ∧ σ.1 (92 + 3) b = g 0 0 ∧ σ.1 (92 + 4) b = g 0 1 ∧ σ.1 (92 + 5) b = g 0 2) ∧
  ∀ r, 0 ≤ r → r < g 0 2 → σ.1 (92 + 10) (13 * b + r) = g 3 r ∧ σ.1 (92 + 11) (13 * b + r) = g 4 r ∧ ∀ d, 0 ≤ d → d < g 4 r → σ.1 (92 + 12) (4 * (13 * b + r) + d) = g 5 (r * 4 + d)
/-- ranks and sides as ranksNow has them -/
def jn_Mk (σ : jg_M) (b : Int) (g : gM) : Prop := ∃ n, σ.1 92 38 = n ∧ (0 ≤ n ∧ n ≤ 3) ∧ ∀ t, 0 ≤ t → t < g 0 0 → (if n = 1 then g 1 t = 0 else σ.1 (92 + 8) (7 * b + t) = g 1 t) ∧ (if n = 2 then g 2 t = 1 else σ.1 (92 + 9) (7 * b + t) = g 2 t)
def jn_mx (s : Int) : Int := if s < 0 then -1 else if s < 10 then s else s - 3
theorem jn_sh92 : jg_sh 92 = (12, 0) := rfl
section JMR
variable {w : Nat} {σ : jg_M} {g : gM} {x y z b c r k : Int} {e : Nat} {f : Int → Nat} {K : Int → jg_M → Prop}
theorem jm_isIn (hx : jr x) (hy : jr y) (hz : jr z) (hk : K (jn_b (y ≤ x ∧ x ≤ z)) σ) : jg_CI w 0 mm_X12_isIn [.int (.ofInt x), .int (.ofInt y), .int (.ofInt z)] σ K := by
  refine jb_X12_isIn_0 ?_
  rw [jr_wr hx, jr_wr hy, jr_wr hz]
  repeat' refine jn_ite (fun hc => ?_) (fun hc => ?_)
  all_goals first | (rw [jn_b_t (by omega)] at hk; exact hk) | (rw [jn_b_f (by omega)] at hk; exact hk)
theorem jm_isOf (he : e < 2147483648) (hx : 0 ≤ x ∧ x < 32) (hk : K (jn_b (e.testBit x.toNat = true)) σ) : jg_CI w 0 mm_X12_isOf [.int (.ofInt (e : Int)), .int (.ofInt x)] σ K := by
  refine jb_X12_isOf_0 ?_
  rw [jb_tstr he hx.1 hx.2, jn_b_wr]
  refine jn_ite (fun hc => ?_) (fun hc => ?_)
  · rw [hc] at hk; exact hk
  · rw [(jn_b_01 _).resolve_right hc] at hk; exact hk
theorem jm_longOf (hG : jn_Mg σ b g) (hW : jn_GW g) (hr : 0 ≤ r ∧ r ≤ g 0 2) (hk : K (jn_len g r) σ) : jg_CI w 0 mm_X12_longOf [.ref 92, .int (.ofInt r)] σ K := by
  refine jb_X12_longOf_0 rfl ?_
  have hw := hW.1
  have hb := hG.1.2.1
  unfold jn_len at hk
  rw [hG.1.1, jr_wr (show jr b by omega), hG.1.2.2.2.2.2.2, jr_wr (show jr (g 0 2) by omega), jr_wr (show jr r by omega), jr_wr (show jr (13 * b + r) by omega)]
  refine ⟨by omega, jn_ite (fun hc => ?_) (fun hc => ?_)⟩
  · rw [if_pos hc] at hk; exact hk
  · rw [if_neg hc, if_pos (by omega)] at hk
    rw [(hG.2 r hr.1 (by omega)).2.1]
    exact ⟨by omega, hk⟩
theorem jm_moveBy (hG : jn_Mg σ b g) (hW : jn_GW g) (hr : 0 ≤ r ∧ r ≤ g 0 2) (hy : 0 ≤ k ∧ k < 10) (hk : K (jn_mx (jn_sym g r k)) σ) : jg_CI w 0 mm_X12_moveBy [.ref 92, .int (.ofInt r), .int (.ofInt k)] σ K := by
  refine jb_X12_moveBy_0 rfl ?_
  have hw := hW.1
  have hb := hG.1.2.1
  have hl := jn_len_rng (r := r) hW
  rw [hG.1.1, jr_wr (show jr b by omega), hG.1.2.2.2.2.2.2, jr_wr (show jr (g 0 2) by omega), jr_wr (show jr r by omega), jr_wr (show jr k by omega)]
  refine ⟨by omega, jn_ite (fun hc => ?_) (fun hc => ?_)⟩
  · have hlen : jn_len g r = 1 := by unfold jn_len; rw [if_pos hc]
    refine jn_ite (fun hc2 => ?_) (fun hc2 => ?_)
    · have : jn_sym g r k = 10 + g 0 3 := by unfold jn_sym; rw [if_neg (by omega), if_pos hc]
      rw [this] at hk
      unfold jn_mx at hk
      rw [if_neg (by omega), if_neg (by omega)] at hk
      rw [hG.1.2.2.1, show 7 + g 0 3 = 10 + g 0 3 - 3 by omega]
      exact hk
    · have : jn_sym g r k = -2 := by unfold jn_sym; rw [if_pos (by omega)]
      rw [this] at hk
      exact hk
  · have hlen : jn_len g r = g 4 r := by unfold jn_len; rw [if_neg hc, if_pos (by omega)]
    intro t ht
    rw [jr_wr (show jr t by omega)]
    have hq := hG.2 r hr.1 (by omega)
    rw [← ht] at hq
    rw [hq.2.1, jr_wr (show jr (g 4 r) by omega)]
    refine ⟨by omega, jn_ite (fun hc2 => ?_) (fun hc2 => ?_)⟩
    · rw [jr_wr (show jr (4 * t + k) by omega), hq.2.2 k (by omega) hc2]
      refine ⟨by omega, fun t2 ht2 => ?_⟩
      have hs : jn_sym g r k = t2 := by unfold jn_sym; rw [if_neg (by omega), if_neg hc, ht2]
      have hs2 := jn_sym_rng (r := r) (k := k) hW ⟨by omega, by omega⟩
      rw [hs] at hk hs2
      unfold jn_mx at hk
      rw [if_neg (by omega)] at hk
      rw [jr_wr (show jr t2 by omega)]
      refine jn_ite (fun hc3 => ?_) (fun hc3 => ?_)
      · rw [if_neg (by omega)] at hk; exact hk
      · rw [if_pos (by omega)] at hk; exact hk
    · have : jn_sym g r k = -2 := by unfold jn_sym; rw [if_pos (by omega)]
      rw [this] at hk
      exact hk
theorem jm_isRuleOf (hG : jn_Mg σ b g) (hW : jn_GW g) (hr : 0 ≤ r ∧ r < g 0 2) (hx : jr x) (hk : K (jn_b (r ≠ g 0 4 ∧ g 3 r = x)) σ) : jg_CI w 0 mm_X12_isRuleOf [.ref 92, .int (.ofInt r), .int (.ofInt x)] σ K := by
  refine jb_X12_isRuleOf_0 rfl ?_
  have hw := hW.1
  have hb := hG.1.2.1
  have h3 := (hW.2.1 r hr.1 hr.2).1
  rw [hG.1.1, hG.1.2.2.2.1, jr_wr (show jr (g 0 4) by omega), jr_wr (show jr r by omega), jr_wr hx, jr_wr (show jr (13 * b + r) by omega), (hG.2 r hr.1 hr.2).1, jr_wr (show jr (g 3 r) by omega)]
  refine jn_ite (fun hc => ?_) (fun hc => ⟨by omega, jn_ite (fun hc2 => ?_) (fun hc2 => ?_)⟩)
  all_goals first | (rw [jn_b_t (by omega)] at hk; exact hk) | (rw [jn_b_f (by omega)] at hk; exact hk)
theorem jm_isEmpty (hc : σ.1 92 36 = c) (hc2 : 0 ≤ c ∧ c ≤ 1) (he : σ.1 (92 + 20) c = (e : Int)) (he2 : e < 32) (hx : -2 ≤ x ∧ x < 12) (hk : K (jn_b (jn_E e (x - 7))) σ) : jg_CI w 1 mm_X12_isEmpty [.ref 92, .int (.ofInt x)] σ K := by
  refine jb_X12_isEmpty_0 rfl ?_
  unfold jn_E at hk
  rw [jr_wr (by omega), hc, jr_wr (show jr c by omega), he]
  refine jn_ite (fun hq => ?_) (fun hq => ⟨by omega, jm_isOf (by omega) (by omega) (jn_if (fun hp => ?_) (fun hp => ?_))⟩)
  · rw [jn_b_f (by omega)] at hk; exact hk
  · rw [jn_b_f (fun q => hp q.2.2)] at hk; exact hk
  · rw [jn_b_t ⟨by omega, by omega, hp⟩] at hk; exact hk
theorem jn_mx_rng (hW : jn_GW g) : -1 ≤ jn_mx (jn_sym g r k) ∧ jn_mx (jn_sym g r k) < 12 := by
  have := jn_sym_jr (r := r) (k := k) hW
  unfold jn_mx
  split
  · omega
  · split <;> omega
theorem jn_mx_E (hW : jn_GW g) (hk : 0 ≤ k ∧ k < jn_len g r) : jn_E e (jn_mx (jn_sym g r k) - 7) ↔ jn_E e (jn_sym g r k - 10) := by
  have h1 := jn_sym_rng (r := r) (k := k) hW hk
  have hw := hW.1
  unfold jn_mx
  rw [if_neg (by omega)]
  split
  · unfold jn_E
    exact ⟨fun q => by omega, fun q => by omega⟩
  · rw [show jn_sym g r k - 3 - 7 = jn_sym g r k - 10 by omega]
theorem jm_isEmptyFrom (hG : jn_Mg σ b g) (hW : jn_GW g) (hc : σ.1 92 36 = c) (hc2 : 0 ≤ c ∧ c ≤ 1) (he : σ.1 (92 + 20) c = (e : Int)) (he2 : e < 32) (hr : 0 ≤ r ∧ r ≤ g 0 2) (hy : 0 ≤ k ∧ k < 10) (hk : K (jn_b (jn_EF g e r k)) σ) : jg_CI w 2 mm_X12_isEmptyFrom [.ref 92, .int (.ofInt r), .int (.ofInt k)] σ K := by
  refine jb_X12_isEmptyFrom_0 rfl ?_
  have hw := hW.1
  have hl := jn_len_rng (r := r) hW
  have hloop : ∀ (n : Nat) (u : Value) (k : Int), 0 ≤ k → k < 10 → (jn_len g r - k).toNat = n → K (jn_b (jn_EF g e r k)) σ → jg_GI w 2 mm_X12_isEmptyFrom 2 [.ref 92, .int (.ofInt r), u, .int (.ofInt k)] σ K := by
    intro n
    induction n with
    | zero =>
      intro u k h1 h2 h3 hk
      refine jb_X12_isEmptyFrom_2 rfl (jm_longOf hG hW hr ?_)
      rw [jr_wr (by omega), jr_wr (by omega)]
      rw [jn_b_t (jn_EF_end (by omega))] at hk
      exact jn_ite (fun _ => hk) (fun hc => by omega)
    | succ n ih =>
      intro u k h1 h2 h3 hk
      refine jb_X12_isEmptyFrom_2 rfl (jm_longOf hG hW hr ?_)
      rw [jr_wr (by omega), jr_wr (by omega)]
      refine jn_ite (fun hc => by omega) (fun hcc => ?_)
      have hs := jn_mx_rng (r := r) (k := k) hW
      have hst := jn_EF_step (e := e) (show k < jn_len g r by omega)
      have hmE := jn_mx_E (e := e) (r := r) (k := k) hW ⟨by omega, by omega⟩
      refine jm_moveBy hG hW hr (by omega) (jm_isEmpty hc hc2 he he2 (by omega) (jn_if (fun hp => ?_) (fun hp => ?_)))
      · rw [jn_b_f (fun q => hp (hmE.mpr (hst.mp q).1))] at hk; exact hk
      · refine ih _ _ (by omega) (by omega) (by omega) ?_
        rw [jn_b_eq (q := jn_EF g e r (k + 1)) (by rw [hst]; exact ⟨fun q => q.2, fun q => ⟨hmE.mp hp, q⟩⟩)] at hk
        exact hk
  exact hloop _ _ k hy.1 hy.2 rfl hk
theorem jm_firstFrom (hG : jn_Mg σ b g) (hW : jn_GW g) (hc : σ.1 92 36 = c) (hc2 : 0 ≤ c ∧ c ≤ 1) (he : σ.1 (92 + 20) c = (e : Int)) (he2 : e < 32) (hf : ∀ k, 0 ≤ k → k < 5 → σ.1 (92 + 21) (5 * c + k) = (f k : Int)) (hf2 : ∀ k, 0 ≤ k → k < 5 → f k < 256) (hr : 0 ≤ r ∧ r ≤ g 0 2) (hy : 0 ≤ k ∧ k < 10) (hk : K (jn_F g e f r k : Int) σ) : jg_CI w 2 mm_X12_firstFrom [.ref 92, .int (.ofInt r), .int (.ofInt k)] σ K := by
  refine jb_X12_firstFrom_0 rfl ?_
  have hw := hW.1
  have hl := jn_len_rng (r := r) hW
  have hloop : ∀ (n : Nat) (u v : Value) (k : Int) (a : Nat), 0 ≤ k → k < 10 → a < 256 → (jn_len g r - k).toNat = n → K ((a ||| jn_F g e f r k : Nat) : Int) σ → jg_GI w 2 mm_X12_firstFrom 5 [.ref 92, .int (.ofInt r), u, .int (.ofInt (a : Int)), .int (.ofInt k), v] σ K := by
    intro n
    induction n with
    | zero =>
      intro u v k a h1 h2 h4 h3 hk
      refine jb_X12_firstFrom_5 rfl (jm_longOf hG hW hr ?_)
      rw [jr_wr (by omega), jr_wr (by omega)]
      rw [jn_F_end (by omega), Nat.or_zero] at hk
      exact jn_ite (fun _ => hk) (fun hc => by omega)
    | succ n ih =>
      intro u v k a h1 h2 h4 h3 hk
      refine jb_X12_firstFrom_5 rfl (jm_longOf hG hW hr ?_)
      rw [jr_wr (by omega), jr_wr (by omega)]
      refine jn_ite (fun hc => by omega) (fun hcc => ?_)
      have hkl : k < jn_len g r := by omega
      have hs := jn_sym_rng (r := r) (k := k) hW ⟨h1, hkl⟩
      have hs2 := jn_mx_rng (r := r) (k := k) hW
      have hmE := jn_mx_E (e := e) (r := r) (k := k) hW ⟨h1, hkl⟩
      refine jm_moveBy hG hW hr (by omega) ?_
      rw [jr_wr (show jr (jn_mx (jn_sym g r k)) by omega)]
      refine jn_ite (fun hp => ?_) (fun hp => ?_)
      · have hns : ¬ jn_sym g r k < 10 := by
          intro q
          unfold jn_mx at hp
          rw [if_neg (by omega), if_pos q] at hp
          omega
        have hmx : jn_mx (jn_sym g r k) = jn_sym g r k - 3 := by unfold jn_mx; rw [if_neg (by omega), if_neg hns]
        rw [hc, hmx, show 5 * c + (jn_sym g r k - 3) - 7 = 5 * c + (jn_sym g r k - 10) by omega, jr_wr (by omega)]
        refine ⟨by omega, fun t ht => ?_⟩
        rw [hf (jn_sym g r k - 10) (by omega) (by omega), jb_or (by omega) (by have := hf2 (jn_sym g r k - 10) (by omega) (by omega); omega)] at ht
        have hb : a ||| f (jn_sym g r k - 10) < 256 := Nat.or_lt_two_pow (n := 8) h4 (hf2 (jn_sym g r k - 10) (by omega) (by omega))
        rw [hmx] at hmE
        refine jm_isEmpty hc hc2 he he2 (by omega) (jn_if (fun hp3 => ?_) (fun hp3 => ?_))
        · rw [jn_F_non hkl hns (fun q => hp3 (hmE.mpr q)), ← ht] at hk
          exact hk
        · rw [jn_F_emp hkl hns (hmE.mp hp3), ← Nat.or_assoc] at hk
          rw [ht]
          exact ih _ _ (k + 1) _ (by omega) (by omega) hb (by omega) hk
      · have hs3 : jn_sym g r k < 10 := by
          apply Classical.byContradiction
          intro q
          unfold jn_mx at hp
          rw [if_neg (by omega), if_neg q] at hp
          omega
        have hmx : jn_mx (jn_sym g r k) = jn_sym g r k := by unfold jn_mx; rw [if_neg (by omega), if_pos hs3]
        rw [jn_F_tok hkl hs3] at hk
        have h5 : 2 ^ (jn_sym g r k).toNat < 256 := Nat.pow_lt_pow_right (by omega) (show (jn_sym g r k).toNat < 8 by omega)
        have h6 := jb_shl (m := 1) (k := (jn_sym g r k).toNat) (by omega) (by omega)
        rw [show (((jn_sym g r k).toNat : Nat) : Int) = jn_sym g r k by omega, Nat.one_mul] at h6
        rw [show ((1 : Nat) : Int) = 1 from rfl] at h6
        rw [hmx, h6, jb_or (by omega) (by omega)]
        intro t ht
        refine jm_isEmpty hc hc2 he he2 (by omega) (jn_if (fun hp3 => ?_) (fun hp3 => ?_))
        · rw [ht]; exact hk
        · have := hp3.1; omega
  refine hloop _ _ _ k 0 hy.1 hy.2 (by omega) rfl ?_
  rw [Nat.zero_or]
  exact hk
theorem jm_rankOf (hG : jn_Mg σ b g) (hM : jn_Mk σ b g) (hW : jn_GW g) (hx : 0 ≤ x ∧ x < g 0 0) (hk : K (g 1 x) σ) : jg_CI w 0 mm_X12_rankOf [.ref 92, .int (.ofInt x)] σ K := by
  refine jb_X12_rankOf_0 rfl ?_
  have hw := hW.1
  have hb := hG.1.2.1
  obtain ⟨n, hn, hn2, hM⟩ := hM
  have hq := (hM x hx.1 hx.2).1
  rw [hn, jr_wr (show jr n by omega), hG.1.1, jr_wr (show jr (7 * b + x) by omega)]
  refine jn_ite (fun hc => ?_) (fun hc => ⟨by omega, ?_⟩)
  · rw [if_pos hc] at hq; rw [hq] at hk; exact hk
  · rw [if_neg hc] at hq; rw [hq]; exact hk
theorem jn_rk_up (hW : jn_GW g) (n : Nat) (h : (n : Int) < jn_len g r) : jn_rk g r (n + 1) = if jn_mx (jn_sym g r n) < 7 then g 1 (jn_sym g r n) else jn_rk g r n := by
  have hs := jn_sym_rng (r := r) (k := (n : Int)) hW ⟨by omega, h⟩
  have hw := hW.1
  show (if 0 ≤ jn_sym g r n ∧ jn_sym g r n < g 0 0 then g 1 (jn_sym g r n) else jn_rk g r n) = _
  unfold jn_mx
  rw [if_neg (show ¬ jn_sym g r n < 0 by omega)]
  by_cases h1 : jn_sym g r n < 10
  · rw [if_pos h1, if_pos (by omega), if_pos (by omega)]
  · rw [if_neg h1, if_neg (by omega), if_neg (by omega)]
theorem jm_ruleRank (hG : jn_Mg σ b g) (hM : jn_Mk σ b g) (hW : jn_GW g) (hr : 0 ≤ r ∧ r ≤ g 0 2) (hk : K (jn_rk g r (jn_len g r).toNat) σ) : jg_CI w 1 mm_X12_ruleRank [.ref 92, .int (.ofInt r)] σ K := by
  refine jb_X12_ruleRank_0 rfl ?_
  have hw := hW.1
  have hl := jn_len_rng (r := r) hW
  have hloop : ∀ (n m : Nat), (m : Int) ≤ jn_len g r → (jn_len g r).toNat - m = n → jg_GI w 1 mm_X12_ruleRank 4 [.ref 92, .int (.ofInt r), .int (.ofInt (jn_rk g r m)), .int (.ofInt (m : Int))] σ K := by
    intro n
    induction n with
    | zero =>
      intro m h1 h2
      refine jb_X12_ruleRank_4 rfl (jm_longOf hG hW hr ?_)
      rw [jr_wr (by omega), jr_wr (by omega)]
      refine jn_ite (fun hc => ?_) (fun hc => by omega)
      rw [show m = (jn_len g r).toNat by omega]
      exact hk
    | succ n ih =>
      intro m h1 h2
      refine jb_X12_ruleRank_4 rfl (jm_longOf hG hW hr ?_)
      rw [jr_wr (by omega), jr_wr (by omega)]
      refine jn_ite (fun hc => by omega) (fun hc => ?_)
      have hs := jn_sym_rng (r := r) (k := (m : Int)) hW ⟨by omega, by omega⟩
      have hs2 := jn_mx_rng (r := r) (k := (m : Int)) hW
      have hu := jn_rk_up (r := r) hW m (by omega)
      refine jm_moveBy hG hW hr (by omega) ?_
      rw [jr_wr (by omega)]
      refine jn_ite (fun hc2 => ?_) (fun hc2 => jm_moveBy hG hW hr (by omega) ?_)
      · rw [if_neg (by omega)] at hu
        rw [← hu, show (m : Int) + 1 = ((m + 1 : Nat) : Int) by omega]
        exact ih (m + 1) (by omega) (by omega)
      · rw [if_pos (by omega)] at hu
        have hmx : jn_mx (jn_sym g r m) = jn_sym g r m := by
          unfold jn_mx at hc2 ⊢
          rw [if_neg (by omega)] at hc2 ⊢
          split
          · rfl
          · rename_i h9; rw [if_neg h9] at hc2; omega
        rw [hmx] at hc2 ⊢
        refine jm_rankOf hG hM hW (by omega) ?_
        rw [← hu, show (m : Int) + 1 = ((m + 1 : Nat) : Int) by omega]
        exact ih (m + 1) (by omega) (by omega)
  exact hloop _ 0 (by omega) rfl
end JMR
