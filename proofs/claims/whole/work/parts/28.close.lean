/-! CLOSING, on both sides -/
noncomputable def jn_cl1 (g : gM) (c : Nat) (x : Int) : Nat := if c &&& jn_A g (10 + x) = 0 then c else c ||| jn_O g x
noncomputable def jn_clk (g : gM) : Nat → Int → Nat → Nat
  | 0, _, c => c
  | m + 1, x, c => jn_clk g m (x + 1) (jn_cl1 g c x)
noncomputable def jn_clr (g : gM) : Nat → Nat → Nat
  | 0, c => c
  | m + 1, c => jn_clr g m (jn_clk g 5 0 c)
noncomputable def jn_clo (g : gM) (c : Nat) : Nat := jn_clr g 5 c
def jn_cC (g : gM) (c : Nat) : Prop := ∀ x, 0 ≤ x → x < 5 → c &&& jn_A g (10 + x) ≠ 0 → jn_sub (jn_O g x) c
/-- a kernel's or a state's items -/
def jn_val (g : gM) (i : Nat) : Prop := jn_r i ≤ g 0 2 ∧ jn_r i ≠ g 0 4 ∧ jn_d i ≤ jn_len g (jn_r i)
def jn_vs (g : gM) (c : Nat) : Prop := c < 4611686018427387904 ∧ ∀ i, c.testBit i = true → jn_val g i
section JCL
variable {w : Nat} {σ : jg_M} {S : Nat} {g : gM} {x r k b s : Int} {c c' : Nat} {K : jg_M → Prop} {KI : Int → jg_M → Prop}
theorem jn_and_ne {a d : Nat} : a &&& d ≠ 0 ↔ ∃ i, a.testBit i = true ∧ d.testBit i = true := by
  constructor
  · intro h
    obtain ⟨i, hi⟩ := Nat.exists_testBit_of_ne_zero h
    rw [Nat.testBit_and, Bool.and_eq_true] at hi
    exact ⟨i, hi⟩
  · rintro ⟨i, h1, h2⟩ h
    have : (a &&& d).testBit i = true := by rw [Nat.testBit_and, h1, h2]; rfl
    rw [h, Nat.zero_testBit] at this
    cases this
theorem jn_and_mono {a a' d : Nat} (h : jn_sub a a') (hn : a &&& d ≠ 0) : a' &&& d ≠ 0 := by
  rw [jn_and_ne] at hn ⊢
  obtain ⟨i, h1, h2⟩ := hn
  exact ⟨i, h i h1, h2⟩
theorem jn_cl1_sub : jn_sub c (jn_cl1 g c x) := by
  unfold jn_cl1
  split
  · exact jn_sub_rf
  · exact jn_sub_l
theorem jn_clk_sub : ∀ {m : Nat} {x : Int} {c : Nat}, jn_sub c (jn_clk g m x c)
  | 0, _, _ => jn_sub_rf
  | m + 1, x, c => jn_sub_tr jn_cl1_sub (jn_clk_sub (m := m) (x := x + 1))
theorem jn_clr_sub : ∀ {m : Nat} {c : Nat}, jn_sub c (jn_clr g m c)
  | 0, _ => jn_sub_rf
  | m + 1, c => jn_sub_tr jn_clk_sub (jn_clr_sub (m := m))
theorem jn_cl1_min (hC : jn_cC g c') (hs : jn_sub c c') (hx : 0 ≤ x ∧ x < 5) : jn_sub (jn_cl1 g c x) c' := by
  unfold jn_cl1
  split
  · exact hs
  · rename_i h
    exact jn_sub_or hs (hC x hx.1 hx.2 (jn_and_mono hs h))
theorem jn_clk_min (hC : jn_cC g c') : ∀ {m : Nat} {x : Int} {c : Nat}, 0 ≤ x → x + m ≤ 5 → jn_sub c c' → jn_sub (jn_clk g m x c) c'
  | 0, _, _, _, _, h => h
  | m + 1, x, c, h1, h2, h => jn_clk_min hC (m := m) (x := x + 1) (by omega) (by omega) (jn_cl1_min hC h ⟨h1, by omega⟩)
theorem jn_clr_min (hC : jn_cC g c') : ∀ {m : Nat} {c : Nat}, jn_sub c c' → jn_sub (jn_clr g m c) c'
  | 0, _, h => h
  | m + 1, c, h => jn_clr_min hC (m := m) (jn_clk_min hC (by omega) (by omega) h)
theorem jn_clo_sub : jn_sub c (jn_clo g c) := jn_clr_sub
theorem jn_clo_min (hC : jn_cC g c') (hs : jn_sub c c') : jn_sub (jn_clo g c) c' := jn_clr_min hC hs
theorem jn_clk_got : ∀ {m : Nat} {x y : Int} {c : Nat}, x ≤ y → y < x + m → c &&& jn_A g (10 + y) ≠ 0 → jn_sub (jn_O g y) (jn_clk g m x c)
  | 0, x, y, c, h1, h2, _ => by omega
  | m + 1, x, y, c, h1, h2, h => by
    by_cases hxy : y = x
    · subst hxy
      unfold jn_clk
      refine jn_sub_tr ?_ (jn_clk_sub (m := m) (x := y + 1))
      unfold jn_cl1
      rw [if_neg h]
      exact jn_sub_r
    · unfold jn_clk
      exact jn_clk_got (m := m) (x := x + 1) (by omega) (by omega) (jn_and_mono jn_cl1_sub h)
noncomputable def jn_in (g : gM) (c : Nat) (x : Int) : Nat := @ite Nat (jn_sub (jn_O g x) c) (Classical.propDecidable _) 1 0
theorem jn_in_mono (h : jn_sub c c') : jn_in g c x ≤ jn_in g c' x := by
  unfold jn_in
  by_cases h1 : jn_sub (jn_O g x) c
  · rw [if_pos h1, if_pos (jn_sub_tr h1 h)]; omega
  · rw [if_neg h1]; omega
theorem jn_in_le : jn_in g c x ≤ 1 := by unfold jn_in; split <;> omega
theorem jn_in_one : jn_in g c x = 1 ↔ jn_sub (jn_O g x) c := by
  unfold jn_in
  by_cases h1 : jn_sub (jn_O g x) c
  · rw [if_pos h1]; exact ⟨fun _ => h1, fun _ => rfl⟩
  · rw [if_neg h1]; exact ⟨fun h => (by cases h), fun h => absurd h h1⟩
noncomputable def jn_cnt (g : gM) (c : Nat) : Nat := jn_in g c 0 + jn_in g c 1 + jn_in g c 2 + jn_in g c 3 + jn_in g c 4
theorem jn_clk_cnt (h : ¬ jn_cC g c) : jn_cnt g c + 1 ≤ jn_cnt g (jn_clk g 5 0 c) := by
  have hs := jn_clk_sub (g := g) (m := 5) (x := 0) (c := c)
  have m0 := jn_in_mono (g := g) (x := 0) hs
  have m1 := jn_in_mono (g := g) (x := 1) hs
  have m2 := jn_in_mono (g := g) (x := 2) hs
  have m3 := jn_in_mono (g := g) (x := 3) hs
  have m4 := jn_in_mono (g := g) (x := 4) hs
  have key : ∃ y : Int, (0 ≤ y ∧ y < 5) ∧ jn_in g c y = 0 ∧ jn_in g (jn_clk g 5 0 c) y = 1 := by
    apply Classical.byContradiction
    intro hq
    refine h (fun y y1 y2 hn => Classical.byContradiction (fun hns => hq ⟨y, ⟨y1, y2⟩, ?_, jn_in_one.mpr (jn_clk_got y1 (by omega) hn)⟩))
    unfold jn_in
    rw [if_neg hns]
  obtain ⟨y, hy, e1, e2⟩ := key
  have : y = 0 ∨ y = 1 ∨ y = 2 ∨ y = 3 ∨ y = 4 := by omega
  unfold jn_cnt
  rcases this with rfl | rfl | rfl | rfl | rfl <;> omega
theorem jn_cl_stay (h : jn_cC g c) : ∀ {m : Nat} {x : Int}, 0 ≤ x → x + m ≤ 5 → jn_clk g m x c = c
  | 0, _, _, _ => rfl
  | m + 1, x, h1, h2 => by
    have e : jn_cl1 g c x = c := by
      unfold jn_cl1
      split
      · rfl
      · rename_i hn; exact jn_sub_eq (h x h1 (by omega) hn)
    unfold jn_clk
    rw [e]
    exact jn_cl_stay h (m := m) (x := x + 1) (by omega) (by omega)
theorem jn_clr_or : ∀ {m n : Nat} {c : Nat}, (jn_cC g c ∨ n ≤ jn_cnt g c) → jn_cC g (jn_clr g m c) ∨ m + n ≤ jn_cnt g (jn_clr g m c)
  | 0, n, c, h => by rw [Nat.zero_add]; exact h
  | m + 1, n, c, h => by
    unfold jn_clr
    by_cases hc : jn_cC g c
    · rw [jn_cl_stay hc (by omega) (by omega)]
      have := jn_clr_or (m := m) (n := n) (c := c) (Or.inl hc)
      rcases this with q | q
      · exact Or.inl q
      · -- closed stays closed
        refine Or.inl ?_
        have hst : ∀ (k : Nat), jn_clr g k c = c := by
          intro k
          induction k with
          | zero => rfl
          | succ k ih => unfold jn_clr; rw [jn_cl_stay hc (by omega) (by omega)]; exact ih
        rw [hst]; exact hc
    · have h1 := jn_clk_cnt hc
      have h2 : n ≤ jn_cnt g c := h.resolve_left hc
      have := jn_clr_or (m := m) (n := n + 1) (c := jn_clk g 5 0 c) (Or.inr (by omega))
      rcases this with q | q
      · exact Or.inl q
      · exact Or.inr (by omega)
theorem jn_clo_cC : jn_cC g (jn_clo g c) := by
  have h := jn_clr_or (g := g) (m := 5) (n := 0) (c := c) (Or.inr (Nat.zero_le _))
  rcases h with h | h
  · exact h
  · intro x x1 x2 _
    have l0 := jn_in_le (g := g) (c := jn_clo g c) (x := 0)
    have l1 := jn_in_le (g := g) (c := jn_clo g c) (x := 1)
    have l2 := jn_in_le (g := g) (c := jn_clo g c) (x := 2)
    have l3 := jn_in_le (g := g) (c := jn_clo g c) (x := 3)
    have l4 := jn_in_le (g := g) (c := jn_clo g c) (x := 4)
    have h : 5 + 0 ≤ jn_cnt g (jn_clo g c) := h
    unfold jn_cnt at h
    have : x = 0 ∨ x = 1 ∨ x = 2 ∨ x = 3 ∨ x = 4 := by omega
    rcases this with rfl | rfl | rfl | rfl | rfl <;> exact jn_in_one.mp (by omega)
theorem jn_it_lt (hW : jn_GW g) {i : Nat} (h : jn_it g i) : i < 61 := by
  have hl := jn_len_rng (r := jn_r i) hW
  have hw := hW.1
  obtain ⟨h1, h2, h3⟩ := h
  by_cases hr : jn_r i = g 0 2
  · have : jn_len g (jn_r i) = 1 := by unfold jn_len; rw [if_pos hr]
    rw [this] at h3
    unfold jn_r jn_d at *
    omega
  · unfold jn_r jn_d at *
    omega
theorem jn_O_val (hW : jn_GW g) {i : Nat} (h : (jn_O g x).testBit i = true) : jn_val g i := by
  have h := (jn_mk_bit.mp h).2
  have hl := jn_len_rng (r := jn_r i) hW
  refine ⟨by omega, h.2.2.1, ?_⟩
  unfold jn_d
  rw [h.1]
  omega
theorem jn_O_lt : jn_O g x < 4611686018427387904 := jn_mk_lt
theorem jn_A_lt : jn_A g s < 4611686018427387904 := jn_mk_lt
theorem jn_cl1_vs (hW : jn_GW g) (h : jn_vs g c) : jn_vs g (jn_cl1 g c x) := by
  unfold jn_cl1
  split
  · exact h
  · refine ⟨Nat.or_lt_two_pow (n := 62) h.1 jn_O_lt, fun i hi => ?_⟩
    rw [Nat.testBit_or, Bool.or_eq_true] at hi
    exact hi.elim (h.2 i) (jn_O_val hW)
theorem jn_clk_vs (hW : jn_GW g) : ∀ {m : Nat} {x : Int} {c : Nat}, jn_vs g c → jn_vs g (jn_clk g m x c)
  | 0, _, _, h => h
  | m + 1, x, c, h => jn_clk_vs hW (m := m) (x := x + 1) (jn_cl1_vs hW h)
theorem jn_clr_vs (hW : jn_GW g) : ∀ {m : Nat} {c : Nat}, jn_vs g c → jn_vs g (jn_clr g m c)
  | 0, _, h => h
  | m + 1, c, h => jn_clr_vs hW (m := m) (jn_clk_vs hW h)
theorem jn_clo_vs (hW : jn_GW g) (h : jn_vs g c) : jn_vs g (jn_clo g c) := jn_clr_vs hW h
/-- closing in the class -/
theorem jc_X7_closed {KL : Int → jg_M → Prop} (h0 : jg_sh S = (7, 0)) (hA : ∀ s, 0 ≤ s → s < 15 → σ.2 (S + 6) s = (jn_A g s : Nat)) (hO : ∀ x, 0 ≤ x → x < 5 → σ.2 (S + 7) x = (jn_O g x : Nat)) (hc : c < 4611686018427387904) (hk : KL (jn_clo g c : Nat) σ) : jg_CL w 0 mm_X7_closed [.ref S, .long (.ofInt (c : Int))] σ KL := by
  refine jb_X7_closed_0 h0 ?_
  have hin : ∀ (m : Nat) (u1 u2 u4 : Value) (x R : Int) (c : Nat), 0 ≤ x → x + m = 5 → c < 4611686018427387904 → (∀ u1 u2 u4 u6, jn_clk g m x c < 4611686018427387904 → jg_GL w 0 mm_X7_closed 5 [.ref S, u1, u2, .long (.ofInt (jn_clk g m x c : Nat)), u4, .int (.ofInt (R + 1)), u6] σ KL) → jg_GL w 0 mm_X7_closed 14 [.ref S, u1, u2, .long (.ofInt (c : Int)), u4, .int (.ofInt R), .int (.ofInt x)] σ KL := by
    intro m
    induction m with
    | zero =>
      intro u1 u2 u4 x R c h1 h2 h3 hP
      refine jb_X7_closed_14 h0 ?_
      rw [jr_wr (show jr x by omega)]
      exact jn_ite (fun _ => hP _ _ _ _ h3) (fun hc => by omega)
    | succ m ih =>
      intro u1 u2 u4 x R c h1 h2 h3 hP
      refine jb_X7_closed_14 h0 ?_
      have hAl := jn_A_lt (g := g) (s := 10 + x)
      have hOl := jn_O_lt (g := g) (x := x)
      rw [jr_wr (show jr x by omega), jr_wr (show jr (10 + x) by omega), hA _ (by omega) (by omega), hO _ h1 (by omega), jb_qand (by omega) (by omega), jb_qor (by omega) (by omega)]
      have hle : c &&& jn_A g (10 + x) ≤ c := Nat.and_le_left
      refine jn_ite (fun hc => by omega) (fun _ => ⟨by omega, jn_ite (fun hz => ?_) (fun hz => ⟨by omega, ?_⟩)⟩)
      · rw [jb_lc, jg_wl_id (by omega), jg_wl_id (by omega)] at hz
        have e : jn_cl1 g c x = c := by unfold jn_cl1; rw [if_pos (by omega)]
        refine ih u1 u2 u4 (x + 1) R c (by omega) (by omega) h3 (fun u1 u2 u4 u6 h9 => ?_)
        have := hP u1 u2 u4 u6
        unfold jn_clk at this
        rw [e] at this
        exact this h9
      · rw [jb_lc, jg_wl_id (by omega), jg_wl_id (by omega)] at hz
        have e : jn_cl1 g c x = c ||| jn_O g x := by unfold jn_cl1; rw [if_neg (by omega)]
        rintro _ rfl
        refine ih u1 u2 u4 (x + 1) R _ (by omega) (by omega) (Nat.or_lt_two_pow (n := 62) h3 hOl) (fun u1 u2 u4 u6 h9 => ?_)
        have := hP u1 u2 u4 u6
        unfold jn_clk at this
        rw [e] at this
        exact this h9
  have hout : ∀ (m : Nat) (u1 u2 u4 u6 : Value) (R : Int) (c : Nat), 0 ≤ R → R + m = 5 → c < 4611686018427387904 → KL (jn_clr g m c : Nat) σ → jg_GL w 0 mm_X7_closed 5 [.ref S, u1, u2, .long (.ofInt (c : Int)), u4, .int (.ofInt R), u6] σ KL := by
    intro m
    induction m with
    | zero =>
      intro u1 u2 u4 u6 R c h1 h2 h3 hk
      refine jb_X7_closed_5 h0 ?_
      rw [jr_wr (show jr R by omega)]
      exact jn_ite (fun _ => hk) (fun hc => by omega)
    | succ m ih =>
      intro u1 u2 u4 u6 R c h1 h2 h3 hk
      refine jb_X7_closed_5 h0 ?_
      rw [jr_wr (show jr R by omega)]
      exact jn_ite (fun hc => by omega) (fun _ => hin 5 _ _ _ 0 R c (by omega) (by omega) h3 (fun u1 u2 u4 u6 h9 => ih u1 u2 u4 u6 (R + 1) _ (by omega) (by omega) h9 hk))
  exact hout 5 _ _ _ _ 0 c (by omega) (by omega) hc hk
/-- a row of truths in the reference -/
def jn_row (τ : jg_M) (A : Nat) (o : Int) (c : Nat) : Prop := ∀ i : Nat, i < 65 → τ.1 A (o + i) = jn_b (c.testBit i = true)
theorem jn_nar_b (p : Prop) : jg_nar (jn_b p) = jn_b p := by rcases jn_b_01 p with h | h <;> rw [h] <;> rfl
theorem jn_sym_it (hW : jn_GW g) {i : Nat} (hv : jn_val g i) (hx : 0 ≤ x ∧ x < 12) : jn_mx (jn_sym g (jn_r i) (jn_d i)) = x ↔ jn_it g i ∧ jn_is g i = (if x < 7 then x else x + 3) := by
  have hl := jn_len_rng (r := jn_r i) hW
  have hw := hW.1
  unfold jn_is
  by_cases h : jn_d i < jn_len g (jn_r i)
  · have hs := jn_sym_rng (r := jn_r i) (k := jn_d i) hW ⟨by unfold jn_d; omega, h⟩
    have hit : jn_it g i := ⟨hv.1, hv.2.1, h⟩
    unfold jn_mx
    rw [if_neg (show ¬ jn_sym g (jn_r i) (jn_d i) < 0 by omega)]
    constructor
    · intro hq
      refine ⟨hit, ?_⟩
      split at hq <;> split <;> omega
    · rintro ⟨-, hq⟩
      rw [hq]
      split <;> split <;> omega
  · have hs : jn_sym g (jn_r i) (jn_d i) = -2 := by unfold jn_sym; rw [if_pos (by omega)]
    rw [hs]
    constructor
    · intro hq
      unfold jn_mx at hq
      rw [if_pos (by omega)] at hq
      omega
    · rintro ⟨hq, -⟩
      exact absurd hq.2.2 h
theorem jm_itemAt (hc : σ.1 92 36 = b) {y : Int} (hk : KI ((65 * ((48 * b) + x)) + y) σ) : jg_CI w 0 mm_X12_itemAt [.ref 92, .int (.ofInt x), .int (.ofInt y)] σ KI := by
  refine jb_X12_itemAt_0 rfl ?_
  rw [hc]
  exact hk
theorem jm_moveAt (hc : σ.1 92 36 = b) {y : Int} (hk : KI ((12 * ((48 * b) + x)) + y) σ) : jg_CI w 0 mm_X12_moveAt [.ref 92, .int (.ofInt x), .int (.ofInt y)] σ KI := by
  refine jb_X12_moveAt_0 rfl ?_
  rw [hc]
  exact hk
theorem jn_divmod {i : Nat} (h : i < 70) : jg_div (i : Int) 5 = jn_r i ∧ jg_rem (i : Int) 5 = jn_d i := by
  refine ⟨?_, ?_⟩
  · rw [jb_div (by omega) (by omega)]; unfold jn_r; omega
  · rw [jb_rem (by omega) (by omega)]; unfold jn_d; omega
/-- closing in the reference: bank b, state s -/
theorem jm_closes {a : Int} (hG : jn_Mg σ a g) (hW : jn_GW g) (hc : σ.1 92 36 = b) (hb : 0 ≤ b ∧ b ≤ 1) (hs : 0 ≤ s ∧ s < 48) (hv : jn_vs g c) (hr : jn_row σ (92 + 14) (65 * (48 * b + s)) c)
    (hk : ∀ τ, jF (fun a i => a = 92 + 15 ∧ 65 * (48 * b + s) ≤ i ∧ i < 65 * (48 * b + s) + 65) σ τ → jn_row τ (92 + 15) (65 * (48 * b + s)) (jn_clo g c) → K τ) : jg_CV w 1 mm_X12_closes [.ref 92, .int (.ofInt s)] σ K := by
  have hw := hW.1
  have ha := hG.1.2.1
  refine jb_X12_closes_0 rfl ?_
  have hGt : ∀ τ, jF (fun a i => a = 92 + 15 ∧ 65 * (48 * b + s) ≤ i ∧ i < 65 * (48 * b + s) + 65) σ τ → jn_Mg τ a g ∧ τ.1 92 36 = b ∧ jn_row τ (92 + 14) (65 * (48 * b + s)) c := fun τ h => ⟨jn_Mg_fr hG h (by omega) (by omega), (h.1 _ _ (by omega)).trans hc, fun i hi => (h.1 _ _ (by omega)).trans (hr i hi)⟩
  have hclo := jn_clo_vs hW hv
  -- the rules of one item
  have hrule : ∀ (m : Nat) (R more : Int) (i : Nat) (X : Int) (dS dI d : Nat) (τ : jg_M), (∀ (u4 u5 : Value) (more : Int) (d : Nat) (τ : jg_M), jF (fun a i => a = 92 + 15 ∧ 65 * (48 * b + s) ≤ i ∧ i < 65 * (48 * b + s) + 65) σ τ → jn_row τ (92 + 15) (65 * (48 * b + s)) d → jn_sub c d → jn_sub d (jn_clo g c) → dI ≤ d → ((more = 0 ∧ d = dS ∧ (7 ≤ X → ∀ r, 0 ≤ r → r < g 0 2 → r ≠ g 0 4 → g 3 r = X - 7 → d.testBit (5 * r.toNat) = true)) ∨ (more = 1 ∧ dS < d)) → jg_GV w 1 mm_X12_closes 46 [.ref 92, .int (.ofInt s), .int (.ofInt more), .int (.ofInt ((i : Int) + 1)), u4, u5] τ K) →
      (7 ≤ X → X < 12 ∧ ∃ j, (jn_clo g c).testBit j = true ∧ (jn_A g (10 + (X - 7))).testBit j = true) → (-1 ≤ X) → 0 ≤ R → R ≤ g 0 2 → (g 0 2 - R).toNat = m → jF (fun a i => a = 92 + 15 ∧ 65 * (48 * b + s) ≤ i ∧ i < 65 * (48 * b + s) + 65) σ τ → jn_row τ (92 + 15) (65 * (48 * b + s)) d → jn_sub c d → jn_sub d (jn_clo g c) → dI ≤ d → ((more = 0 ∧ d = dS ∧ (7 ≤ X → ∀ r, 0 ≤ r → r < R → r ≠ g 0 4 → g 3 r = X - 7 → d.testBit (5 * r.toNat) = true)) ∨ (more = 1 ∧ dS < d)) → jg_GV w 1 mm_X12_closes 85 [.ref 92, .int (.ofInt s), .int (.ofInt more), .int (.ofInt (i : Int)), .int (.ofInt X), .int (.ofInt R)] τ K := by
    intro m
    induction m with
    | zero =>
      intro R more i X dS dI d τ hP hX hX1 r1 r2 r3 hF h15 hcd hdc hd0 hq
      obtain ⟨hGτ, hcτ, hrτ⟩ := hGt τ hF
      refine jb_X12_closes_85 rfl ?_
      rw [hGτ.1.1, jr_wr (show jr a by omega), hGτ.1.2.2.2.2.2.2, jr_wr (show jr (g 0 2) by omega), jr_wr (show jr R by omega)]
      refine ⟨by omega, jn_ite (fun _ => hP _ _ more d τ hF h15 hcd hdc hd0 ?_) (fun hh => by omega)⟩
      rcases hq with ⟨q1, q2, q3⟩ | q
      · exact Or.inl ⟨q1, q2, fun h7 r a1 a2 a3 a4 => q3 h7 r a1 (by omega) a3 a4⟩
      · exact Or.inr q
    | succ m ih =>
      intro R more i X dS dI d τ hP hX hX1 r1 r2 r3 hF h15 hcd hdc hd0 hq
      obtain ⟨hGτ, hcτ, hrτ⟩ := hGt τ hF
      have hrk := (hW.2.1 R (by omega) (by omega)).1
      refine jb_X12_closes_85 rfl ?_
      rw [hGτ.1.1, jr_wr (show jr a by omega), hGτ.1.2.2.2.2.2.2, jr_wr (show jr (g 0 2) by omega), jr_wr (show jr R by omega)]
      refine ⟨by omega, jn_ite (fun hh => by omega) (fun _ => ?_)⟩
      by_cases h7 : 7 ≤ X
      · have hX2 := hX h7
        have next : (R ≠ g 0 4 → g 3 R = X - 7 → d.testBit (5 * R.toNat) = true) → jg_GV w 1 mm_X12_closes 85 [.ref 92, .int (.ofInt s), .int (.ofInt more), .int (.ofInt (i : Int)), .int (.ofInt X), .int (.ofInt (R + 1))] τ K := by
          intro hdone
          refine ih (R + 1) more i X dS dI d τ hP hX hX1 (by omega) (by omega) (by omega) hF h15 hcd hdc hd0 ?_
          rcases hq with ⟨q1, q2, q3⟩ | q
          · refine Or.inl ⟨q1, q2, fun _ r a1 a2 a3 a4 => ?_⟩
            by_cases hr9 : r = R
            · rw [hr9] at a3 a4 ⊢; exact hdone a3 a4
            · exact q3 h7 r a1 (by omega) a3 a4
          · exact Or.inr q
        rw [jr_wr (show jr X by omega)]
        refine jn_ite (fun hh => by omega) (fun _ => jm_isRuleOf hGτ hW (by omega) (by omega) (jn_if (fun hp => next (fun a3 a4 => absurd ⟨a3, a4⟩ hp)) (fun hp => jm_itemAt hcτ ?_)))
        have h5 : 5 * R = ((5 * R.toNat : Nat) : Int) := by omega
        rw [h5, jr_wr (by omega), h15 (5 * R.toNat) (by omega)]
        refine ⟨by omega, jn_if (fun hp2 => jm_itemAt hcτ ?_) (fun hp2 => next (fun _ _ => hp2))⟩
        rw [jr_wr (by omega)]
        refine ⟨by omega, ?_⟩
        rintro _ rfl
        rw [show jg_nar 1 = 1 from rfl]
        have hin5 : (jn_clo g c).testBit (5 * R.toNat) = true := by
          obtain ⟨j, j1, j2⟩ := hX2.2
          refine jn_clo_cC (g := g) (c := c) (X - 7) (by omega) (by omega) (jn_and_ne.mpr ⟨j, j1, j2⟩) _ (jn_mk_bit.mpr ⟨by omega, by omega, ?_, ?_, ?_⟩)
          · unfold jn_r; omega
          · unfold jn_r; omega
          · rw [show jn_r (5 * R.toNat) = R by unfold jn_r; omega]; exact hp.2
        have hgt : d < d ||| 2 ^ (5 * R.toNat) := jn_or_gt (fun hh => hp2 (jn_sub_pow.mp hh))
        refine ih (R + 1) 1 i X dS dI (d ||| 2 ^ (5 * R.toNat)) _ hP hX hX1 (by omega) (by omega) (by omega) (jF_toI hF ⟨rfl, by omega, by omega⟩) (fun j hj => ?_) (jn_sub_tr hcd jn_sub_l) (jn_sub_or hdc (jn_sub_pow.mpr hin5)) (by omega) (Or.inr ⟨rfl, ?_⟩)
        · by_cases hj5 : j = 5 * R.toNat
          · rw [hj5, js_Is, jn_b_t jn_or_bit]
          · rw [js_In (Or.inr (by omega)), h15 j hj]
            refine jn_b_eq ?_
            rw [Nat.testBit_or, Nat.testBit_two_pow, decide_eq_false (by omega), Bool.or_false]
        · rcases hq with ⟨-, q2, -⟩ | ⟨-, q2⟩ <;> omega
      · rw [jr_wr (show jr X by omega)]
        refine jn_ite (fun _ => hP _ _ more d τ hF h15 hcd hdc hd0 ?_) (fun hh => by omega)
        rcases hq with ⟨q1, q2, q3⟩ | q
        · exact Or.inl ⟨q1, q2, fun h9 => absurd h9 h7⟩
        · exact Or.inr q
  -- the items of one pass
  have hitem : ∀ (m : Nat) (i : Nat) (u4 u5 : Value) (more : Int) (d0 d : Nat) (τ : jg_M), (∀ (u3 u4 u5 : Value) (more : Int) (d : Nat) (τ : jg_M), jF (fun a i => a = 92 + 15 ∧ 65 * (48 * b + s) ≤ i ∧ i < 65 * (48 * b + s) + 65) σ τ → jn_row τ (92 + 15) (65 * (48 * b + s)) d → jn_sub c d → jn_sub d (jn_clo g c) → ((more = 0 ∧ jn_cC g d) ∨ (more = 1 ∧ d0 < d)) → jg_GV w 1 mm_X12_closes 38 [.ref 92, .int (.ofInt s), .int (.ofInt more), u3, u4, u5] τ K) →
      i + m = 65 → jF (fun a i => a = 92 + 15 ∧ 65 * (48 * b + s) ≤ i ∧ i < 65 * (48 * b + s) + 65) σ τ → jn_row τ (92 + 15) (65 * (48 * b + s)) d → jn_sub c d → jn_sub d (jn_clo g c) → ((more = 0 ∧ d = d0 ∧ ∀ j, j < i → d.testBit j = true → ∀ X, 7 ≤ X → jn_mx (jn_sym g (jn_r j) (jn_d j)) = X → ∀ r, 0 ≤ r → r < g 0 2 → r ≠ g 0 4 → g 3 r = X - 7 → d.testBit (5 * r.toNat) = true) ∨ (more = 1 ∧ d0 < d)) → jg_GV w 1 mm_X12_closes 46 [.ref 92, .int (.ofInt s), .int (.ofInt more), .int (.ofInt (i : Int)), u4, u5] τ K := by
    intro m
    induction m with
    | zero =>
      intro i u4 u5 more d0 d τ hP hi hF h15 hcd hdc hq
      refine jb_X12_closes_46 rfl ?_
      rw [jr_wr (show jr (i : Int) by omega)]
      refine jn_ite (fun _ => hP _ _ _ more d τ hF h15 hcd hdc ?_) (fun hh => by omega)
      rcases hq with ⟨q1, q2, q3⟩ | q
      · refine Or.inl ⟨q1, fun x x1 x2 hne j hj => ?_⟩
        obtain ⟨j0, h1, h2⟩ := jn_and_ne.mp hne
        have h3 := (jn_mk_bit.mp h2).2
        have h4 := jn_mk_bit.mp hj
        have hv0 := hclo.2 j0 (hdc j0 h1)
        have := q3 j0 (by have := (jn_mk_bit.mp h2).1; omega) h1 (x + 7) (by omega) ((jn_sym_it hW hv0 (by omega)).mpr ⟨h3.1, by rw [if_neg (by omega)]; have := h3.2; omega⟩) (jn_r j) (by unfold jn_r; omega) h4.2.2.1 h4.2.2.2.1 (by have := h4.2.2.2.2; omega)
        have h5 : 5 * (jn_r j).toNat = j := by have := h4.2.1; unfold jn_r; omega
        rw [h5] at this
        exact this
      · exact Or.inr q
    | succ m ih =>
      intro i u4 u5 more d0 d τ hP hi hF h15 hcd hdc hq
      obtain ⟨hGτ, hcτ, hrτ⟩ := hGt τ hF
      refine jb_X12_closes_46 rfl ?_
      have hdm := jn_divmod (i := i) (by omega)
      rw [jr_wr (show jr (i : Int) by omega), hdm.1, hdm.2]
      have go : ∀ (X : Int), (7 ≤ X → X < 12 ∧ ∃ j, (jn_clo g c).testBit j = true ∧ (jn_A g (10 + (X - 7))).testBit j = true) → -1 ≤ X → (d.testBit i = true → ∀ X', 7 ≤ X' → jn_mx (jn_sym g (jn_r i) (jn_d i)) = X' → X' = X) → jg_GV w 1 mm_X12_closes 85 [.ref 92, .int (.ofInt s), .int (.ofInt more), .int (.ofInt (i : Int)), .int (.ofInt X), .int (.ofInt 0)] τ K := by
        intro X hX hX1 hXX
        refine hrule _ 0 more i X d0 d d τ (fun u4 u5 more' d' τ' a1 a2 a3 a4 a5 a6 => ?_) hX hX1 (by omega) (by omega) rfl hF h15 hcd hdc (Nat.le_refl _) ?_
        · rw [show (i : Int) + 1 = ((i + 1 : Nat) : Int) by omega]
          refine ih (i + 1) u4 u5 more' d0 d' τ' hP (by omega) a1 a2 a3 a4 ?_
          rcases a6 with ⟨b1, b2, b3⟩ | b
          · rcases hq with ⟨q1, q2, q3⟩ | ⟨q1, q2⟩
            · refine Or.inl ⟨b1, b2, fun j hj hjb X' hX7 hXe => ?_⟩
              by_cases hji : j = i
              · rw [hji] at hjb hXe
                rw [b2, ← q2] at hjb
                have := hXX hjb X' hX7 hXe
                rw [this] at hX7 ⊢
                exact b3 hX7
              · rw [b2, ← q2] at hjb ⊢
                exact q3 j (by omega) hjb X' hX7 hXe
            · omega
          · exact Or.inr b
        · rcases hq with ⟨q1, q2, q3⟩ | q
          · exact Or.inl ⟨q1, q2, fun _ r c1 c2 => by omega⟩
          · exact Or.inr q
      refine jn_ite (fun hh => by omega) (fun _ => jm_itemAt hcτ ?_)
      rw [jr_wr (by omega), h15 i (by omega)]
      refine ⟨by omega, jn_if (fun hp => go (-1) (fun h7 => by omega) (by omega) (fun hh => absurd hh hp)) (fun hp => ?_)⟩
      have hvi := hclo.2 i (hdc i hp)
      have hmr := jn_mx_rng (r := jn_r i) (k := jn_d i) hW
      refine jm_moveBy hGτ hW ⟨by unfold jn_r; omega, hvi.1⟩ ⟨by unfold jn_d; omega, by unfold jn_d; omega⟩ (go _ (fun h7 => ⟨by omega, i, hdc i hp, ?_⟩) (by omega) (fun _ X' _ h => h.symm))
      have h9 := (jn_sym_it (x := jn_mx (jn_sym g (jn_r i) (jn_d i))) hW hvi (by omega)).mp rfl
      rw [if_neg (by omega)] at h9
      exact jn_mk_bit.mpr ⟨by have := jn_it_lt hW h9.1; omega, h9.1, by have := h9.2; omega⟩
  have hout : ∀ (m : Nat) (u3 u4 u5 : Value) (d : Nat) (τ : jg_M), jn_clo g c - d = m → jF (fun a i => a = 92 + 15 ∧ 65 * (48 * b + s) ≤ i ∧ i < 65 * (48 * b + s) + 65) σ τ → jn_row τ (92 + 15) (65 * (48 * b + s)) d → jn_sub c d → jn_sub d (jn_clo g c) → jg_GV w 1 mm_X12_closes 38 [.ref 92, .int (.ofInt s), .int (.ofInt 1), u3, u4, u5] τ K := by
    intro m
    induction m using Nat.strongRecOn with
    | ind m ih =>
      intro u3 u4 u5 d τ h1 hF h15 hcd hdc
      refine jb_X12_closes_38 rfl ?_
      rw [show jg_wr 1 = 1 from rfl]
      refine jn_ite (fun hh => by omega) (fun _ => ?_)
      refine hitem 65 0 _ _ 0 d d τ (fun u3 u4 u5 more d' τ' a1 a2 a3 a4 a5 => ?_) rfl hF h15 hcd hdc (Or.inl ⟨rfl, rfl, fun j hj => by omega⟩)
      rcases a5 with ⟨rfl, a5⟩ | ⟨rfl, a5⟩
      · refine jb_X12_closes_38 rfl ?_
        rw [show jg_wr 0 = 0 from rfl]
        refine jn_ite (fun _ => hk τ' a1 ?_) (fun hh => absurd rfl hh)
        rw [jn_sub_anti (jn_clo_min a5 a3) a4]
        exact a2
      · have := jn_sub_le a4
        exact ih (jn_clo g c - d') (by omega) _ _ _ d' τ' rfl a1 a2 a3 a4
  have hini : ∀ (m : Nat) (i : Nat) (u3 u4 u5 : Value) (τ : jg_M), i + m = 65 → jF (fun a i => a = 92 + 15 ∧ 65 * (48 * b + s) ≤ i ∧ i < 65 * (48 * b + s) + 65) σ τ → (∀ j : Nat, j < i → τ.1 (92 + 15) (65 * (48 * b + s) + j) = jn_b (c.testBit j = true)) → jg_GV w 1 mm_X12_closes 2 [.ref 92, .int (.ofInt s), .int (.ofInt (i : Int)), u3, u4, u5] τ K := by
    intro m
    induction m with
    | zero =>
      intro i u3 u4 u5 τ hi hF h15
      refine jb_X12_closes_2 rfl ?_
      rw [jr_wr (show jr (i : Int) by omega)]
      exact jn_ite (fun _ => hout _ _ _ _ c τ rfl hF (fun j hj => h15 j (by omega)) jn_sub_rf jn_clo_sub) (fun hh => by omega)
    | succ m ih =>
      intro i u3 u4 u5 τ hi hF h15
      obtain ⟨hGτ, hcτ, hrτ⟩ := hGt τ hF
      refine jb_X12_closes_2 rfl ?_
      rw [jr_wr (show jr (i : Int) by omega)]
      refine jn_ite (fun hh => by omega) (fun _ => jm_itemAt hcτ (jm_itemAt hcτ ?_))
      rw [jr_wr (by omega), hrτ i (by omega), jn_nar_b]
      refine ⟨by omega, by omega, ?_⟩
      rintro _ rfl
      rw [show (i : Int) + 1 = ((i + 1 : Nat) : Int) by omega]
      refine ih (i + 1) _ _ _ _ (by omega) (jF_toI hF ⟨rfl, by omega, by omega⟩) (fun j hj => ?_)
      by_cases hji : j = i
      · rw [hji, js_Is]
      · rw [js_In (Or.inr (by omega))]; exact h15 j (by omega)
  exact hini 65 0 _ _ _ σ rfl jF_rf (fun j hj => by omega)
end JCL
