/-! THE GRAMMAR: g 0 0 TOKENS, g 0 1 KINDS, g 0 2 RULES, g 0 3 START, g 0 4 the RULE left out (-1: none); g 1 RANKS, g 2 SIDES of TOKENS; g 3 KINDS, g 4 lengths of RULES; g 5 their SYMBOLS, four places each -/
abbrev gM : Type := Nat → Int → Int
def jn_GW (g : gM) : Prop := ((0 ≤ g 0 0 ∧ g 0 0 ≤ 7) ∧ (0 ≤ g 0 1 ∧ g 0 1 ≤ 5) ∧ (0 ≤ g 0 2 ∧ g 0 2 ≤ 12) ∧ (0 ≤ g 0 3 ∧ g 0 3 < 5 ∧ (g 0 1 = 0 ∨ g 0 3 < g 0 1)) ∧ -1 ≤ g 0 4 ∧ g 0 4 < g 0 2) ∧
  (∀ r, 0 ≤ r → r < g 0 2 → (0 ≤ g 3 r ∧ g 3 r < g 0 1) ∧ (0 ≤ g 4 r ∧ g 4 r ≤ 4) ∧ ∀ d, 0 ≤ d → d < g 4 r → (0 ≤ g 5 (r * 4 + d) ∧ g 5 (r * 4 + d) < g 0 0) ∨ (10 ≤ g 5 (r * 4 + d) ∧ g 5 (r * 4 + d) < 10 + g 0 1)) ∧
  (∀ t, 0 ≤ t → t < g 0 0 → (0 ≤ g 1 t ∧ g 1 t ≤ 9) ∧ 0 ≤ g 2 t ∧ g 2 t ≤ 2)
def jn_Gr (σ : jg_M) (G : Nat) (g : gM) : Prop := (σ.1 G 0 = g 0 0 ∧ σ.1 G 1 = g 0 1 ∧ σ.1 G 2 = g 0 2 ∧ σ.1 G 3 = g 0 3 ∧ σ.1 G 4 = g 0 4) ∧
  (∀ r, 0 ≤ r → r < g 0 2 → σ.1 (G + 4) r = g 3 r ∧ σ.1 (G + 5) r = g 4 r ∧ ∀ d, 0 ≤ d → d < g 4 r → σ.1 (G + 6) (r * 4 + d) = g 5 (r * 4 + d)) ∧
  (∀ t, 0 ≤ t → t < g 0 0 → σ.1 (G + 2) t = g 1 t ∧ σ.1 (G + 3) t = g 2 t)
def jn_len (g : gM) (r : Int) : Int := if r = g 0 2 then 1 else if 0 ≤ r ∧ r < g 0 2 then g 4 r else 0
def jn_sym (g : gM) (r k : Int) : Int := if k < 0 ∨ jn_len g r ≤ k then -2 else if r = g 0 2 then 10 + g 0 3 else g 5 (r * 4 + k)
def jn_E (e : Nat) (x : Int) : Prop := 0 ≤ x ∧ x < 5 ∧ e.testBit x.toNat = true
def jn_EF (g : gM) (e : Nat) (r k : Int) : Prop := ∀ d, k ≤ d → d < jn_len g r → jn_E e (jn_sym g r d - 10)
noncomputable def jn_FF (g : gM) (e : Nat) (f : Int → Nat) (r : Int) : Nat → Int → Nat
  | 0, _ => 0
  | n + 1, k => if jn_sym g r k < 10 then 2 ^ (jn_sym g r k).toNat else f (jn_sym g r k - 10) ||| @ite Nat (jn_E e (jn_sym g r k - 10)) (Classical.propDecidable _) (jn_FF g e f r n (k + 1)) 0
/-- FIRST of what is in a rule from the k-th symbol on -/
noncomputable def jn_F (g : gM) (e : Nat) (f : Int → Nat) (r k : Int) : Nat := jn_FF g e f r (jn_len g r - k).toNat k
section JGR
variable {w : Nat} {σ : jg_M} {G : Nat} {g : gM} {x r k : Int} {e : Nat} {f : Int → Nat} {K : Int → jg_M → Prop}
theorem jn_len_rng (hW : jn_GW g) : 0 ≤ jn_len g r ∧ jn_len g r ≤ 4 := by
  unfold jn_len
  split
  · omega
  · split
    · rename_i h; exact (hW.2.1 r h.1 h.2).2.1
    · omega
theorem jn_sym_rng (hW : jn_GW g) (hk : 0 ≤ k ∧ k < jn_len g r) : (0 ≤ jn_sym g r k ∧ jn_sym g r k < g 0 0) ∨ (10 ≤ jn_sym g r k ∧ jn_sym g r k < 10 + g 0 1) ∨ (r = g 0 2 ∧ jn_sym g r k = 10 + g 0 3) := by
  unfold jn_sym
  rw [if_neg (by omega)]
  split
  · rename_i h; exact Or.inr (Or.inr ⟨h, rfl⟩)
  · rename_i h
    have hk2 := hk.2
    unfold jn_len at hk2
    rw [if_neg h] at hk2
    split at hk2
    · rename_i h2
      rcases (hW.2.1 r h2.1 h2.2).2.2 k hk.1 hk2 with q | q
      · exact Or.inl q
      · exact Or.inr (Or.inl q)
    · omega
theorem jn_sym_jr (hW : jn_GW g) : -2 ≤ jn_sym g r k ∧ jn_sym g r k < 15 := by
  by_cases h : 0 ≤ k ∧ k < jn_len g r
  · have := jn_sym_rng hW h
    have := hW.1
    omega
  · unfold jn_sym
    rw [if_pos (by omega)]
    omega
theorem jn_F_end (h : jn_len g r ≤ k) : jn_F g e f r k = 0 := by
  unfold jn_F
  rw [show (jn_len g r - k).toNat = 0 by omega]
  rfl
theorem jn_F_step (h : k < jn_len g r) : jn_F g e f r k = if jn_sym g r k < 10 then 2 ^ (jn_sym g r k).toNat else f (jn_sym g r k - 10) ||| @ite Nat (jn_E e (jn_sym g r k - 10)) (Classical.propDecidable _) (jn_F g e f r (k + 1)) 0 := by
  unfold jn_F
  rw [show (jn_len g r - k).toNat = (jn_len g r - (k + 1)).toNat + 1 by omega]
  rfl
theorem jn_F_tok (h : k < jn_len g r) (hs : jn_sym g r k < 10) : jn_F g e f r k = 2 ^ (jn_sym g r k).toNat := by rw [jn_F_step h, if_pos hs]
theorem jn_F_emp (h : k < jn_len g r) (hs : ¬ jn_sym g r k < 10) (hE : jn_E e (jn_sym g r k - 10)) : jn_F g e f r k = f (jn_sym g r k - 10) ||| jn_F g e f r (k + 1) := by rw [jn_F_step h, if_neg hs, if_pos hE]
theorem jn_F_non (h : k < jn_len g r) (hs : ¬ jn_sym g r k < 10) (hE : ¬ jn_E e (jn_sym g r k - 10)) : jn_F g e f r k = f (jn_sym g r k - 10) := by rw [jn_F_step h, if_neg hs, if_neg hE, Nat.or_zero]
theorem jn_EF_end (h : jn_len g r ≤ k) : jn_EF g e r k := fun d h1 h2 => by omega
theorem jn_EF_step (h : k < jn_len g r) : jn_EF g e r k ↔ jn_E e (jn_sym g r k - 10) ∧ jn_EF g e r (k + 1) := by
  refine ⟨fun q => ⟨q k (Int.le_refl _) h, fun d h1 h2 => q d (by omega) h2⟩, fun q d h1 h2 => ?_⟩
  by_cases hd : d = k
  · rw [hd]; exact q.1
  · exact q.2 d (by omega) h2
/-- readers of the class -/
theorem jc_X0_hasToken (h0 : jg_sh G = (0, 0)) (hG : jn_Gr σ G g) (hW : jn_GW g) (hx : jr x) (hk : K (jn_b (0 ≤ x ∧ x < g 0 0)) σ) : jg_CI w 0 mm_X0_hasToken [.ref G, .int (.ofInt x)] σ K := by
  refine jb_X0_hasToken_0 h0 ?_
  have hw := hW.1
  rw [jr_wr hx, hG.1.1, jr_wr (show jr (g 0 0) by omega)]
  repeat' refine jn_ite (fun hc => ?_) (fun hc => ?_)
  all_goals first | (rw [jn_b_t (by omega)] at hk; exact hk) | (rw [jn_b_f (by omega)] at hk; exact hk)
theorem jc_X0_hasKind (h0 : jg_sh G = (0, 0)) (hG : jn_Gr σ G g) (hW : jn_GW g) (hx : jr x) (hk : K (jn_b (0 ≤ x ∧ x < g 0 1)) σ) : jg_CI w 0 mm_X0_hasKind [.ref G, .int (.ofInt x)] σ K := by
  refine jb_X0_hasKind_0 h0 ?_
  have hw := hW.1
  rw [jr_wr hx, hG.1.2.1, jr_wr (show jr (g 0 1) by omega)]
  repeat' refine jn_ite (fun hc => ?_) (fun hc => ?_)
  all_goals first | (rw [jn_b_t (by omega)] at hk; exact hk) | (rw [jn_b_f (by omega)] at hk; exact hk)
theorem jc_X0_hasRule (h0 : jg_sh G = (0, 0)) (hG : jn_Gr σ G g) (hW : jn_GW g) (hx : jr x) (hk : K (jn_b (0 ≤ x ∧ x < g 0 2)) σ) : jg_CI w 0 mm_X0_hasRule [.ref G, .int (.ofInt x)] σ K := by
  refine jb_X0_hasRule_0 h0 ?_
  have hw := hW.1
  rw [jr_wr hx, hG.1.2.2.1, jr_wr (show jr (g 0 2) by omega)]
  repeat' refine jn_ite (fun hc => ?_) (fun hc => ?_)
  all_goals first | (rw [jn_b_t (by omega)] at hk; exact hk) | (rw [jn_b_f (by omega)] at hk; exact hk)
def jn_isS (g : gM) (x : Int) : Prop := (0 ≤ x ∧ x < g 0 0) ∨ (10 ≤ x ∧ x < 10 + g 0 1)
theorem jc_X0_hasSymbol (h0 : jg_sh G = (0, 0)) (hG : jn_Gr σ G g) (hW : jn_GW g) (hx : jr x) (hk : K (jn_b (jn_isS g x)) σ) : jg_CI w 1 mm_X0_hasSymbol [.ref G, .int (.ofInt x)] σ K := by
  refine jb_X0_hasSymbol_0 h0 ?_
  have hw := hW.1
  unfold jn_isS at hk
  rw [jr_wr hx]
  refine jn_ite (fun hc => ?_) (fun hc => ?_)
  · refine jc_X0_hasToken h0 hG hW hx ⟨jn_b_rng _, ?_⟩
    rw [jn_b_eq (q := 0 ≤ x ∧ x < g 0 0) (by omega)] at hk
    exact hk
  · refine jc_X0_hasKind h0 hG hW (by omega) ⟨jn_b_rng _, ?_⟩
    rw [jn_b_eq (q := 0 ≤ x - 10 ∧ x - 10 < g 0 1) (by omega)] at hk
    exact hk
theorem jc_X0_hasTerminal (h0 : jg_sh G = (0, 0)) (hG : jn_Gr σ G g) (hW : jn_GW g) (hx : jr x) (hk : K (jn_b (0 ≤ x ∧ x ≤ g 0 0)) σ) : jg_CI w 0 mm_X0_hasTerminal [.ref G, .int (.ofInt x)] σ K := by
  refine jb_X0_hasTerminal_0 h0 ?_
  have hw := hW.1
  rw [jr_wr hx, hG.1.1, jr_wr (show jr (g 0 0) by omega)]
  repeat' refine jn_ite (fun hc => ?_) (fun hc => ?_)
  all_goals first | (rw [jn_b_t (by omega)] at hk; exact hk) | (rw [jn_b_f (by omega)] at hk; exact hk)
theorem jc_X0_uses (h0 : jg_sh G = (0, 0)) (hG : jn_Gr σ G g) (hW : jn_GW g) (hx : jr x) (hk : K (jn_b (0 ≤ x ∧ x ≤ g 0 2 ∧ x ≠ g 0 4)) σ) : jg_CI w 0 mm_X0_uses [.ref G, .int (.ofInt x)] σ K := by
  refine jb_X0_uses_0 h0 ?_
  have hw := hW.1
  rw [jr_wr hx, hG.1.2.2.1, hG.1.2.2.2.2, jr_wr (show jr (g 0 2) by omega), jr_wr (show jr (g 0 4) by omega)]
  repeat' refine jn_ite (fun hc => ?_) (fun hc => ?_)
  all_goals first | (rw [jn_b_t (by omega)] at hk; exact hk) | (rw [jn_b_f (by omega)] at hk; exact hk)
theorem jc_X0_kindOf (h0 : jg_sh G = (0, 0)) (hG : jn_Gr σ G g) (hW : jn_GW g) (hx : jr x) (hk : K (if 0 ≤ x ∧ x < g 0 2 then g 3 x else -1) σ) : jg_CI w 1 mm_X0_kindOf [.ref G, .int (.ofInt x)] σ K := by
  refine jb_X0_kindOf_0 h0 ?_
  have hw := hW.1
  refine jc_X0_hasRule h0 hG hW hx (jn_if (fun hp => ?_) (fun hp => ?_))
  · rw [if_neg hp] at hk; exact hk
  · rw [jr_wr hx, (hG.2.1 x hp.1 hp.2).1]
    rw [if_pos hp] at hk
    exact ⟨by omega, hk⟩
theorem jc_X0_lengthOf (h0 : jg_sh G = (0, 0)) (hG : jn_Gr σ G g) (hW : jn_GW g) (hx : jr x) (hk : K (jn_len g x) σ) : jg_CI w 0 mm_X0_lengthOf [.ref G, .int (.ofInt x)] σ K := by
  refine jb_X0_lengthOf_0 h0 ?_
  have hw := hW.1
  unfold jn_len at hk
  rw [jr_wr hx, hG.1.2.2.1, jr_wr (show jr (g 0 2) by omega)]
  refine jn_ite (fun hc => ?_) (fun hc => ?_)
  · rw [if_pos hc] at hk; exact hk
  · rw [if_neg hc] at hk
    refine jn_ite (fun hc => ?_) (fun hc => jn_ite (fun hc => ?_) (fun hc => jn_ite (fun hc => ?_) (fun hc => ?_)))
    · rw [if_neg (by omega)] at hk; exact hk
    · rw [if_neg (by omega)] at hk; exact hk
    · omega
    · rw [if_pos (by omega)] at hk
      rw [(hG.2.1 x (by omega) (by omega)).2.1]
      exact ⟨by omega, hk⟩
theorem jc_X0_symbolAt (h0 : jg_sh G = (0, 0)) (hG : jn_Gr σ G g) (hW : jn_GW g) (hx : jr x) (hy : jr k) (hk : K (jn_sym g x k) σ) : jg_CI w 1 mm_X0_symbolAt [.ref G, .int (.ofInt x), .int (.ofInt k)] σ K := by
  refine jb_X0_symbolAt_0 h0 ?_
  have hw := hW.1
  have hl := jn_len_rng (r := x) hW
  have hkk := hk
  unfold jn_sym at hk
  rw [jr_wr hx, jr_wr hy]
  refine jn_ite (fun hc => ?_) (fun hc => jc_X0_lengthOf h0 hG hW hx ?_)
  · rw [if_pos (by omega)] at hk; exact hk
  · rw [jr_wr (show jr (jn_len g x) by omega), hG.1.2.2.1, hG.1.2.2.2.1, jr_wr (show jr (g 0 2) by omega)]
    refine jn_ite (fun hc => ?_) (fun hc => ?_)
    · rw [if_pos (by omega)] at hk; exact hk
    · rw [if_neg (by omega)] at hk
      refine jn_ite (fun hc => jn_ite (fun hc => ?_) (fun hc => ?_)) (fun hc => by omega)
      · rw [if_pos hc] at hk; exact hk
      · rw [if_neg hc] at hk
        have hr : 0 ≤ x ∧ x < g 0 2 := by
          rename_i h1 h2 h3
          unfold jn_len at h2
          rw [if_neg hc] at h2
          split at h2
          · assumption
          · omega
        have hlen : jn_len g x = g 4 x := by unfold jn_len; rw [if_neg hc, if_pos hr]
        refine jn_ite (fun hc => by omega) (fun hc => jn_ite (fun hc => by omega) (fun hc => ?_))
        rw [jr_wr (show jr (x * 4 + k) by omega), (hG.2.1 x hr.1 hr.2).2.2 k (by omega) (by omega)]
        exact ⟨by omega, hk⟩
theorem jc_X0_itemAtEnd (h0 : jg_sh G = (0, 0)) (hG : jn_Gr σ G g) (hW : jn_GW g) (hx : jr x) (hk : K (x * 5 + jn_len g x) σ) : jg_CI w 1 mm_X0_itemAtEnd [.ref G, .int (.ofInt x)] σ K :=
  jb_X0_itemAtEnd_0 h0 (jc_X0_lengthOf h0 hG hW hx hk)
theorem jc_X0_rankOfToken (h0 : jg_sh G = (0, 0)) (hG : jn_Gr σ G g) (hW : jn_GW g) (hx : jr x) (hk : K (if 0 ≤ x ∧ x < g 0 0 then g 1 x else 0) σ) : jg_CI w 1 mm_X0_rankOfToken [.ref G, .int (.ofInt x)] σ K := by
  refine jb_X0_rankOfToken_0 h0 ?_
  have hw := hW.1
  refine jc_X0_hasToken h0 hG hW hx (jn_if (fun hp => ?_) (fun hp => ?_))
  · rw [if_neg hp] at hk; exact hk
  · rw [jr_wr hx, (hG.2.2 x hp.1 hp.2).1]
    rw [if_pos hp] at hk
    exact ⟨by omega, hk⟩
theorem jc_X0_sideOfToken (h0 : jg_sh G = (0, 0)) (hG : jn_Gr σ G g) (hW : jn_GW g) (hx : jr x) (hk : K (if 0 ≤ x ∧ x < g 0 0 then g 2 x else 0) σ) : jg_CI w 1 mm_X0_sideOfToken [.ref G, .int (.ofInt x)] σ K := by
  refine jb_X0_sideOfToken_0 h0 ?_
  have hw := hW.1
  refine jc_X0_hasToken h0 hG hW hx (jn_if (fun hp => ?_) (fun hp => ?_))
  · rw [if_neg hp] at hk; exact hk
  · rw [jr_wr hx, (hG.2.2 x hp.1 hp.2).2]
    rw [if_pos hp] at hk
    exact ⟨by omega, hk⟩
/-- the rank of a rule: of its last token -/
def jn_rk (g : gM) (r : Int) : Nat → Int
  | 0 => 0
  | n + 1 => if 0 ≤ jn_sym g r n ∧ jn_sym g r n < g 0 0 then g 1 (jn_sym g r n) else jn_rk g r n
theorem jc_X0_rankOf (h0 : jg_sh G = (0, 0)) (hG : jn_Gr σ G g) (hW : jn_GW g) (hx : jr x) (hk : K (jn_rk g x (jn_len g x).toNat) σ) : jg_CI w 2 mm_X0_rankOf [.ref G, .int (.ofInt x)] σ K := by
  refine jb_X0_rankOf_0 h0 (jc_X0_lengthOf h0 hG hW hx (fun t ht => ?_))
  have hw := hW.1
  have hl := jn_len_rng (r := x) hW
  have hloop : ∀ (n : Nat) (u : Value), n ≤ 4 → K (jn_rk g x n) σ → jg_GI w 2 mm_X0_rankOf 8 [.ref G, .int (.ofInt x), .int (.ofInt ((n : Int) - 1)), u] σ K := by
    intro n
    induction n with
    | zero =>
      intro u _ hk
      refine jb_X0_rankOf_8 h0 ?_
      rw [jr_wr (by omega)]
      exact jn_ite (fun _ => hk) (fun hc => by omega)
    | succ n ih =>
      intro u hn hk
      refine jb_X0_rankOf_8 h0 ?_
      rw [jr_wr (by omega)]
      refine jn_ite (fun hc => by omega) (fun hc => ?_)
      rw [show ((n + 1 : Nat) : Int) - 1 = n by omega]
      have hs := jn_sym_jr (r := x) (k := (n : Int)) hW
      refine jc_X0_symbolAt h0 hG hW hx (by omega) (jc_X0_hasToken h0 hG hW (by omega) (jn_if (fun hp => ?_) (fun hp => ?_)))
      · unfold jn_rk at hk
        rw [if_neg hp] at hk
        exact ih _ (by omega) hk
      · unfold jn_rk at hk
        rw [if_pos hp] at hk
        rw [jr_wr (by omega), (hG.2.2 _ hp.1 hp.2).1]
        exact ⟨by omega, hk⟩
  rw [ht, show jn_len g x - 1 = ((jn_len g x).toNat : Int) - 1 by omega]
  exact hloop _ _ (by omega) hk
theorem jc_X0_isEmpty (h0 : jg_sh G = (0, 0)) (he : σ.1 G 11 = (e : Int)) (he2 : e < 32) (hx : jr x) (hk : K (jn_b (jn_E e x)) σ) : jg_CI w 0 mm_X0_isEmpty [.ref G, .int (.ofInt x)] σ K := by
  refine jb_X0_isEmpty_0 h0 ?_
  unfold jn_E at hk
  rw [jr_wr hx, he]
  refine jn_ite (fun hc => ?_) (fun hc => jn_ite (fun hc => ?_) (fun hc => jn_ite (fun hc => ?_) (fun hc => ?_)))
  · rw [jn_b_f (by omega)] at hk; exact hk
  · rw [jn_b_f (by omega)] at hk; exact hk
  · rw [jb_tst (by omega) (by omega) (by omega)] at hc
    rw [jn_b_f (fun q => hc q.2.2)] at hk; exact hk
  · rw [jb_tst (by omega) (by omega) (by omega)] at hc
    rw [jn_b_t ⟨by omega, by omega, Classical.not_not.mp hc⟩] at hk; exact hk
theorem jc_X0_isEmptyFrom (h0 : jg_sh G = (0, 0)) (hG : jn_Gr σ G g) (hW : jn_GW g) (he : σ.1 G 11 = (e : Int)) (he2 : e < 32) (hx : jr x) (hy : 0 ≤ k ∧ k < 10) (hk : K (jn_b (jn_EF g e x k)) σ) : jg_CI w 2 mm_X0_isEmptyFrom [.ref G, .int (.ofInt x), .int (.ofInt k)] σ K := by
  refine jb_X0_isEmptyFrom_0 h0 ?_
  have hw := hW.1
  have hl := jn_len_rng (r := x) hW
  have hloop : ∀ (n : Nat) (u : Value) (k : Int), 0 ≤ k → k < 10 → (jn_len g x - k).toNat = n → K (jn_b (jn_EF g e x k)) σ → jg_GI w 2 mm_X0_isEmptyFrom 2 [.ref G, .int (.ofInt x), u, .int (.ofInt k)] σ K := by
    intro n
    induction n with
    | zero =>
      intro u k h1 h2 h3 hk
      refine jb_X0_isEmptyFrom_2 h0 (jc_X0_lengthOf h0 hG hW hx ?_)
      rw [jr_wr (by omega), jr_wr (by omega)]
      rw [jn_b_t (jn_EF_end (by omega))] at hk
      exact jn_ite (fun _ => hk) (fun hc => by omega)
    | succ n ih =>
      intro u k h1 h2 h3 hk
      refine jb_X0_isEmptyFrom_2 h0 (jc_X0_lengthOf h0 hG hW hx ?_)
      rw [jr_wr (by omega), jr_wr (by omega)]
      refine jn_ite (fun hc => by omega) (fun hc => ?_)
      have hs := jn_sym_jr (r := x) (k := k) hW
      have hst := jn_EF_step (e := e) (show k < jn_len g x by omega)
      refine jc_X0_symbolAt h0 hG hW hx (by omega) (jc_X0_isEmpty h0 he he2 (by omega) (jn_if (fun hp => ?_) (fun hp => ?_)))
      · rw [jn_b_f (fun q => hp (hst.mp q).1)] at hk; exact hk
      · refine ih _ _ (by omega) (by omega) (by omega) ?_
        rw [jn_b_eq (q := jn_EF g e x (k + 1)) (by rw [hst]; exact ⟨fun q => q.2, fun q => ⟨hp, q⟩⟩)] at hk
        exact hk
  exact hloop _ _ k hy.1 hy.2 rfl hk
theorem jn_FF_lt (hW : jn_GW g) (hf : ∀ k, 0 ≤ k → k < 5 → f k < 256) (hr : ∀ k, 0 ≤ k → k < jn_len g r → jn_sym g r k < 15) : ∀ (n : Nat) (k : Int), 0 ≤ k → (jn_len g r - k).toNat = n → jn_FF g e f r n k < 256 := by
  intro n
  induction n with
  | zero => intro k _ _; unfold jn_FF; omega
  | succ n ih =>
    intro k h1 h2
    unfold jn_FF
    have hw := hW.1
    have hs := jn_sym_rng (r := r) (k := k) hW ⟨h1, by omega⟩
    split
    · have h3 : (jn_sym g r k).toNat < 8 := by omega
      exact Nat.lt_of_lt_of_le (Nat.pow_lt_pow_right (by omega) h3) (by omega)
    · refine Nat.or_lt_two_pow (n := 8) (hf _ (by omega) (by have := hr k h1 (by omega); omega)) ?_
      split
      · exact ih (k + 1) (by omega) (by omega)
      · omega
theorem jn_F_lt (hW : jn_GW g) (hf : ∀ k, 0 ≤ k → k < 5 → f k < 256) (hk : 0 ≤ k) : jn_F g e f r k < 256 := by
  refine jn_FF_lt hW hf (fun k h1 h2 => (jn_sym_jr hW).2) _ k hk rfl
theorem jc_X0_firstFrom (h0 : jg_sh G = (0, 0)) (hG : jn_Gr σ G g) (hW : jn_GW g) (he : σ.1 G 11 = (e : Int)) (he2 : e < 32) (hf : ∀ k, 0 ≤ k → k < 5 → σ.1 (G + 7) k = (f k : Int)) (hf2 : ∀ k, 0 ≤ k → k < 5 → f k < 256) (hx : jr x) (hxr : x < g 0 2 ∨ 0 < g 0 1 ∨ (x = g 0 2 ∧ 1 ≤ k)) (hy : 0 ≤ k ∧ k < 10) (hk : K (jn_F g e f x k : Int) σ) : jg_CI w 2 mm_X0_firstFrom [.ref G, .int (.ofInt x), .int (.ofInt k)] σ K := by
  refine jb_X0_firstFrom_0 h0 ?_
  have hw := hW.1
  have hl := jn_len_rng (r := x) hW
  have hloop : ∀ (n : Nat) (u v t : Value) (k : Int) (a : Nat), (x < g 0 2 ∨ 0 < g 0 1 ∨ (x = g 0 2 ∧ 1 ≤ k)) → 0 ≤ k → k < 10 → a < 256 → (jn_len g x - k).toNat = n → K ((a ||| jn_F g e f x k : Nat) : Int) σ → jg_GI w 2 mm_X0_firstFrom 5 [.ref G, .int (.ofInt x), u, .int (.ofInt (a : Int)), .int (.ofInt k), v, t] σ K := by
    intro n
    induction n with
    | zero =>
      intro u v t k a _ h1 h2 h4 h3 hk
      refine jb_X0_firstFrom_5 h0 (jc_X0_lengthOf h0 hG hW hx ?_)
      rw [jr_wr (by omega), jr_wr (by omega)]
      rw [jn_F_end (by omega), Nat.or_zero] at hk
      exact jn_ite (fun _ => hk) (fun hc => by omega)
    | succ n ih =>
      intro u v t k a hxr h1 h2 h4 h3 hk
      refine jb_X0_firstFrom_5 h0 (jc_X0_lengthOf h0 hG hW hx ?_)
      rw [jr_wr (by omega), jr_wr (by omega)]
      refine jn_ite (fun hc => by omega) (fun hc => ?_)
      have hkl : k < jn_len g x := by omega
      have hs := jn_sym_rng (r := x) (k := k) hW ⟨h1, hkl⟩
      have hs2 := jn_sym_jr (r := x) (k := k) hW
      have hxk : x = g 0 2 → 0 < g 0 1 := by
        intro hq
        have : jn_len g x = 1 := by unfold jn_len; rw [if_pos hq]
        omega
      refine jc_X0_symbolAt h0 hG hW hx (by omega) (jc_X0_hasToken h0 hG hW (by omega) (jn_if (fun hp => ?_) (fun hp => ?_)))
      · intro t1 ht1
        have hns : ¬ jn_sym g x k < 10 := by omega
        refine jc_X0_hasKind h0 hG hW (by omega) (jn_if (fun hp2 => by omega) (fun hp2 => ?_))
        rw [jr_wr (by omega)]
        refine ⟨by omega, fun t2 ht2 => ?_⟩
        rw [hf t1 (by omega) (by omega), jb_or (by omega) (by have := hf2 t1 (by omega) (by omega); omega)] at ht2
        have hb : a ||| f t1 < 256 := Nat.or_lt_two_pow (n := 8) h4 (hf2 t1 (by omega) (by omega))
        refine jc_X0_isEmpty h0 he he2 (by omega) (jn_if (fun hp3 => ?_) (fun hp3 => ?_))
        · rw [jn_F_non hkl hns (by rw [← ht1]; exact hp3), ← ht1, ← ht2] at hk
          exact hk
        · rw [jn_F_emp hkl hns (by rw [← ht1]; exact hp3), ← ht1, ← Nat.or_assoc] at hk
          rw [ht2]
          exact ih _ _ _ (k + 1) _ (by omega) (by omega) (by omega) hb (by omega) hk
      · have hs3 : jn_sym g x k < 10 := by omega
        rw [jn_F_tok hkl hs3] at hk
        have h5 : 2 ^ (jn_sym g x k).toNat < 256 := Nat.pow_lt_pow_right (by omega) (show (jn_sym g x k).toNat < 8 by omega)
        have h6 := jb_shl (m := 1) (k := (jn_sym g x k).toNat) (by omega) (by omega)
        rw [show (((jn_sym g x k).toNat : Nat) : Int) = jn_sym g x k by omega, Nat.one_mul] at h6
        rw [show ((1 : Nat) : Int) = 1 from rfl] at h6
        rw [h6, jb_or (by omega) (by omega)]
        exact hk
  refine hloop _ _ _ _ k 0 hxr hy.1 hy.2 (by omega) rfl ?_
  rw [Nat.zero_or]
  exact hk
theorem jc_X0_followOf (h0 : jg_sh G = (0, 0)) (hG : jn_Gr σ G g) (hW : jn_GW g) (hx : jr x) (hk : K (if 0 ≤ x ∧ x < g 0 1 then σ.1 (G + 8) x else 0) σ) : jg_CI w 1 mm_X0_followOf [.ref G, .int (.ofInt x)] σ K := by
  refine jb_X0_followOf_0 h0 ?_
  have hw := hW.1
  refine jc_X0_hasKind h0 hG hW hx (jn_if (fun hp => ?_) (fun hp => ?_))
  · rw [if_neg hp] at hk; exact hk
  · rw [jr_wr hx]
    rw [if_pos hp] at hk
    exact ⟨by omega, hk⟩
end JGR
