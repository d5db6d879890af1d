/-! CLOSING, on both sides -/
noncomputable def jn_cl1 (g : gM) (c : Nat) (x : Int) : Nat := if c &&& jn_A g (10 + x) = 0 then c else c ||| jn_O g x
noncomputable def jn_clk (g : gM) : Nat → Int → Nat → Nat
  | 0, _, c => c
  | m + 1, x, c => jn_clk g m (x + 1) (jn_cl1 g c x)
noncomputable def jn_clr (g : gM) : Nat → Nat → Nat
  | 0, c => c
  | m + 1, c => jn_clr g m (jn_clk g 5 0 c)
noncomputable def jn_clo (g : gM) (c : Nat) : Nat := jn_clr g 5 c
def jn_cC (g : gM) (c : Nat) : Prop := ∀ x, 0 ≤ x → x < 5 → c &&& jn_A g (10 + x) ≠ 0 → jn_sub (jn_O g x) c
/-- a kernel's or a state's items -/
def jn_val (g : gM) (i : Nat) : Prop := jn_r i ≤ g 0 2 ∧ jn_r i ≠ g 0 4 ∧ jn_d i ≤ jn_len g (jn_r i)
def jn_vs (g : gM) (c : Nat) : Prop := c < 4611686018427387904 ∧ ∀ i, c.testBit i = true → jn_val g i
section JCL
variable {w : Nat} {σ : jg_M} {S : Nat} {g : gM} {x r k b s : Int} {c c' : Nat} {K : jg_M → Prop} {KI : Int → jg_M → Prop}
theorem jn_and_ne {a d : Nat} : a &&& d ≠ 0 ↔ ∃ i, a.testBit i = true ∧ d.testBit i = true := by
  constructor
  · intro h
    obtain ⟨i, hi⟩ := Nat.exists_testBit_of_ne_zero h
    rw [Nat.testBit_and, Bool.and_eq_true] at hi
    exact ⟨i, hi⟩
  · rintro ⟨i, h1, h2⟩ h
    have : (a &&& d).testBit i = true := by rw [Nat.testBit_and, h1, h2]; rfl
    rw [h, Nat.zero_testBit] at this
    cases this
theorem jn_and_mono {a a' d : Nat} (h : jn_sub a a') (hn : a &&& d ≠ 0) : a' &&& d ≠ 0 := by
  rw [jn_and_ne] at hn ⊢
  obtain ⟨i, h1, h2⟩ := hn
  exact ⟨i, h i h1, h2⟩
theorem jn_cl1_sub : jn_sub c (jn_cl1 g c x) := by
  unfold jn_cl1
  split
  · exact jn_sub_rf
  · exact jn_sub_l
theorem jn_clk_sub : ∀ {m : Nat} {x : Int} {c : Nat}, jn_sub c (jn_clk g m x c)
  | 0, _, _ => jn_sub_rf
  | m + 1, x, c => jn_sub_tr jn_cl1_sub (jn_clk_sub (m := m) (x := x + 1))
theorem jn_clr_sub : ∀ {m : Nat} {c : Nat}, jn_sub c (jn_clr g m c)
  | 0, _ => jn_sub_rf
  | m + 1, c => jn_sub_tr jn_clk_sub (jn_clr_sub (m := m))
theorem jn_cl1_min (hC : jn_cC g c') (hs : jn_sub c c') (hx : 0 ≤ x ∧ x < 5) : jn_sub (jn_cl1 g c x) c' := by
  unfold jn_cl1
  split
  · exact hs
  · rename_i h
    exact jn_sub_or hs (hC x hx.1 hx.2 (jn_and_mono hs h))
theorem jn_clk_min (hC : jn_cC g c') : ∀ {m : Nat} {x : Int} {c : Nat}, 0 ≤ x → x + m ≤ 5 → jn_sub c c' → jn_sub (jn_clk g m x c) c'
  | 0, _, _, _, _, h => h
  | m + 1, x, c, h1, h2, h => jn_clk_min hC (m := m) (x := x + 1) (by omega) (by omega) (jn_cl1_min hC h ⟨h1, by omega⟩)
theorem jn_clr_min (hC : jn_cC g c') : ∀ {m : Nat} {c : Nat}, jn_sub c c' → jn_sub (jn_clr g m c) c'
  | 0, _, h => h
  | m + 1, c, h => jn_clr_min hC (m := m) (jn_clk_min hC (by omega) (by omega) h)
theorem jn_clo_sub : jn_sub c (jn_clo g c) := jn_clr_sub
theorem jn_clo_min (hC : jn_cC g c') (hs : jn_sub c c') : jn_sub (jn_clo g c) c' := jn_clr_min hC hs
theorem jn_clk_got : ∀ {m : Nat} {x y : Int} {c : Nat}, x ≤ y → y < x + m → c &&& jn_A g (10 + y) ≠ 0 → jn_sub (jn_O g y) (jn_clk g m x c)
  | 0, x, y, c, h1, h2, _ => by omega
  | m + 1, x, y, c, h1, h2, h => by
    by_cases hxy : y = x
    · subst hxy
      unfold jn_clk
      refine jn_sub_tr ?_ (jn_clk_sub (m := m) (x := y + 1))
      unfold jn_cl1
      rw [if_neg h]
      exact jn_sub_r
    · unfold jn_clk
      exact jn_clk_got (m := m) (x := x + 1) (by omega) (by omega) (jn_and_mono jn_cl1_sub h)
noncomputable def jn_in (g : gM) (c : Nat) (x : Int) : Nat := @ite Nat (jn_sub (jn_O g x) c) (Classical.propDecidable _) 1 0
theorem jn_in_mono (h : jn_sub c c') : jn_in g c x ≤ jn_in g c' x := by
  unfold jn_in
  by_cases h1 : jn_sub (jn_O g x) c
  · rw [if_pos h1, if_pos (jn_sub_tr h1 h)]; omega
  · rw [if_neg h1]; omega
theorem jn_in_le : jn_in g c x ≤ 1 := by unfold jn_in; split <;> omega
theorem jn_in_one : jn_in g c x = 1 ↔ jn_sub (jn_O g x) c := by
  unfold jn_in
  by_cases h1 : jn_sub (jn_O g x) c
  · rw [if_pos h1]; exact ⟨fun _ => h1, fun _ => rfl⟩
  · rw [if_neg h1]; exact ⟨fun h => (by cases h), fun h => absurd h h1⟩
noncomputable def jn_cnt (g : gM) (c : Nat) : Nat := jn_in g c 0 + jn_in g c 1 + jn_in g c 2 + jn_in g c 3 + jn_in g c 4
theorem jn_clk_cnt (h : ¬ jn_cC g c) : jn_cnt g c + 1 ≤ jn_cnt g (jn_clk g 5 0 c) := by
  have hs := jn_clk_sub (g := g) (m := 5) (x := 0) (c := c)
  have m0 := jn_in_mono (g := g) (x := 0) hs
  have m1 := jn_in_mono (g := g) (x := 1) hs
  have m2 := jn_in_mono (g := g) (x := 2) hs
  have m3 := jn_in_mono (g := g) (x := 3) hs
  have m4 := jn_in_mono (g := g) (x := 4) hs
  have key : ∃ y : Int, (0 ≤ y ∧ y < 5) ∧ jn_in g c y = 0 ∧ jn_in g (jn_clk g 5 0 c) y = 1 := by
    apply Classical.byContradiction
    intro hq
    refine h (fun y y1 y2 hn => Classical.byContradiction (fun hns => hq ⟨y, ⟨y1, y2⟩, ?_, jn_in_one.mpr (jn_clk_got y1 (by omega) hn)⟩))
    unfold jn_in
    rw [if_neg hns]
  obtain ⟨y, hy, e1, e2⟩ := key
  have : y = 0 ∨ y = 1 ∨ y = 2 ∨ y = 3 ∨ y = 4 := by omega
  unfold jn_cnt
  rcases this with rfl | rfl | rfl | rfl | rfl <;> omega
theorem jn_cl_stay (h : jn_cC g c) : ∀ {m : Nat} {x : Int}, 0 ≤ x → x + m ≤ 5 → jn_clk g m x c = c
  | 0, _, _, _ => rfl
  | m + 1, x, h1, h2 => by
    have e : jn_cl1 g c x = c := by
      unfold jn_cl1
      split
      · rfl
      · rename_i hn; exact jn_sub_eq (h x h1 (by omega) hn)
    unfold jn_clk
    rw [e]
    exact jn_cl_stay h (m := m) (x := x + 1) (by omega) (by omega)
theorem jn_clr_or : ∀ {m n : Nat} {c : Nat}, (jn_cC g c ∨ n ≤ jn_cnt g c) → jn_cC g (jn_clr g m c) ∨ m + n ≤ jn_cnt g (jn_clr g m c)
  | 0, n, c, h => by rw [Nat.zero_add]; exact h
  | m + 1, n, c, h => by
    unfold jn_clr
    by_cases hc : jn_cC g c
    · rw [jn_cl_stay hc (by omega) (by omega)]
      have := jn_clr_or (m := m) (n := n) (c := c) (Or.inl hc)
      rcases this with q | q
      · exact Or.inl q
      · -- closed stays closed
        refine Or.inl ?_
        have hst : ∀ (k : Nat), jn_clr g k c = c := by
          intro k
          induction k with
          | zero => rfl
          | succ k ih => unfold jn_clr; rw [jn_cl_stay hc (by omega) (by omega)]; exact ih
        rw [hst]; exact hc
    · have h1 := jn_clk_cnt hc
      have h2 : n ≤ jn_cnt g c := h.resolve_left hc
      have := jn_clr_or (m := m) (n := n + 1) (c := jn_clk g 5 0 c) (Or.inr (by omega))
      rcases this with q | q
      · exact Or.inl q
      · exact Or.inr (by omega)
theorem jn_clo_cC : jn_cC g (jn_clo g c) := by
  have h := jn_clr_or (g := g) (m := 5) (n := 0) (c := c) (Or.inr (Nat.zero_le _))
  rcases h with h | h
  · exact h
  · intro x x1 x2 _
    have l0 := jn_in_le (g := g) (c := jn_clo g c) (x := 0)
    have l1 := jn_in_le (g := g) (c := jn_clo g c) (x := 1)
    have l2 := jn_in_le (g := g) (c := jn_clo g c) (x := 2)
    have l3 := jn_in_le (g := g) (c := jn_clo g c) (x := 3)
    have l4 := jn_in_le (g := g) (c := jn_clo g c) (x := 4)
    have h : 5 + 0 ≤ jn_cnt g (jn_clo g c) := h
    unfold jn_cnt at h
    have : x = 0 ∨ x = 1 ∨ x = 2 ∨ x = 3 ∨ x = 4 := by omega
    rcases this with rfl | rfl | rfl | rfl | rfl <;> exact jn_in_one.mp (by omega)
theorem jn_it_lt (hW : jn_GW g) {i : Nat} (h : jn_it g i) : i < 61 := by
  have hl := jn_len_rng (r := jn_r i) hW
  have hw := hW.1
  obtain ⟨h1, h2, h3⟩ := h
  by_cases hr : jn_r i = g 0 2
  · have : jn_len g (jn_r i) = 1 := by unfold jn_len; rw [if_pos hr]
    rw [this] at h3
    unfold jn_r jn_d at *
    omega
  · unfold jn_r jn_d at *
    omega
theorem jn_O_val (hW : jn_GW g) {i : Nat} (h : (jn_O g x).testBit i = true) : jn_val g i := by
  have h := (jn_mk_bit.mp h).2
  have hl := jn_len_rng (r := jn_r i) hW
  refine ⟨by omega, h.2.2.1, ?_⟩
  unfold jn_d
  rw [h.1]
  omega
theorem jn_O_lt : jn_O g x < 4611686018427387904 := jn_mk_lt
theorem jn_A_lt : jn_A g s < 4611686018427387904 := jn_mk_lt
theorem jn_cl1_vs (hW : jn_GW g) (h : jn_vs g c) : jn_vs g (jn_cl1 g c x) := by
  unfold jn_cl1
  split
  · exact h
  · refine ⟨Nat.or_lt_two_pow (n := 62) h.1 jn_O_lt, fun i hi => ?_⟩
    rw [Nat.testBit_or, Bool.or_eq_true] at hi
    exact hi.elim (h.2 i) (jn_O_val hW)
theorem jn_clk_vs (hW : jn_GW g) : ∀ {m : Nat} {x : Int} {c : Nat}, jn_vs g c → jn_vs g (jn_clk g m x c)
  | 0, _, _, h => h
  | m + 1, x, c, h => jn_clk_vs hW (m := m) (x := x + 1) (jn_cl1_vs hW h)
theorem jn_clr_vs (hW : jn_GW g) : ∀ {m : Nat} {c : Nat}, jn_vs g c → jn_vs g (jn_clr g m c)
  | 0, _, h => h
  | m + 1, c, h => jn_clr_vs hW (m := m) (jn_clk_vs hW h)
theorem jn_clo_vs (hW : jn_GW g) (h : jn_vs g c) : jn_vs g (jn_clo g c) := jn_clr_vs hW h
/-- closing in the class -/
theorem jc_X7_closed {KL : Int → jg_M → Prop} (h0 : jg_sh S = (7, 0)) (hA : ∀ s, 0 ≤ s → s < 15 → σ.2 (S + 6) s = (jn_A g s : Nat)) (hO : ∀ x, 0 ≤ x → x < 5 → σ.2 (S + 7) x = (jn_O g x : Nat)) (hc : c < 4611686018427387904) (hk : KL (jn_clo g c : Nat) σ) : jg_CL w 0 mm_X7_closed [.ref S, .long (.ofInt (c : Int))] σ KL := by
  refine jb_X7_closed_0 h0 ?_
  have hin : ∀ (m : Nat) (u1 u2 u4 : Value) (x R : Int) (c : Nat), 0 ≤ x → x + m = 5 → c < 4611686018427387904 → (∀ u1 u2 u4 u6, jn_clk g m x c < 4611686018427387904 → jg_GL w 0 mm_X7_closed 5 [.ref S, u1, u2, .long (.ofInt (jn_clk g m x c : Nat)), u4, .int (.ofInt (R + 1)), u6] σ KL) → jg_GL w 0 mm_X7_closed 14 [.ref S, u1, u2, .long (.ofInt (c : Int)), u4, .int (.ofInt R), .int (.ofInt x)] σ KL := by
    intro m
    induction m with
    | zero =>
      intro u1 u2 u4 x R c h1 h2 h3 hP
      refine jb_X7_closed_14 h0 ?_
      rw [jr_wr (show jr x by omega)]
      exact jn_ite (fun _ => hP _ _ _ _ h3) (fun hc => by omega)
    | succ m ih =>
      intro u1 u2 u4 x R c h1 h2 h3 hP
      refine jb_X7_closed_14 h0 ?_
      have hAl := jn_A_lt (g := g) (s := 10 + x)
      have hOl := jn_O_lt (g := g) (x := x)
      rw [jr_wr (show jr x by omega), jr_wr (show jr (10 + x) by omega), hA _ (by omega) (by omega), hO _ h1 (by omega), jb_qand (by omega) (by omega), jb_qor (by omega) (by omega)]
      have hle : c &&& jn_A g (10 + x) ≤ c := Nat.and_le_left
      refine jn_ite (fun hc => by omega) (fun _ => ⟨by omega, jn_ite (fun hz => ?_) (fun hz => ⟨by omega, ?_⟩)⟩)
      · rw [jb_lc, jg_wl_id (by omega), jg_wl_id (by omega)] at hz
        have e : jn_cl1 g c x = c := by unfold jn_cl1; rw [if_pos (by omega)]
        refine ih u1 u2 u4 (x + 1) R c (by omega) (by omega) h3 (fun u1 u2 u4 u6 h9 => ?_)
        have := hP u1 u2 u4 u6
        unfold jn_clk at this
        rw [e] at this
        exact this h9
      · rw [jb_lc, jg_wl_id (by omega), jg_wl_id (by omega)] at hz
        have e : jn_cl1 g c x = c ||| jn_O g x := by unfold jn_cl1; rw [if_neg (by omega)]
        rintro _ rfl
        refine ih u1 u2 u4 (x + 1) R _ (by omega) (by omega) (Nat.or_lt_two_pow (n := 62) h3 hOl) (fun u1 u2 u4 u6 h9 => ?_)
        have := hP u1 u2 u4 u6
        unfold jn_clk at this
        rw [e] at this
        exact this h9
  have hout : ∀ (m : Nat) (u1 u2 u4 u6 : Value) (R : Int) (c : Nat), 0 ≤ R → R + m = 5 → c < 4611686018427387904 → KL (jn_clr g m c : Nat) σ → jg_GL w 0 mm_X7_closed 5 [.ref S, u1, u2, .long (.ofInt (c : Int)), u4, .int (.ofInt R), u6] σ KL := by
    intro m
    induction m with
    | zero =>
      intro u1 u2 u4 u6 R c h1 h2 h3 hk
      refine jb_X7_closed_5 h0 ?_
      rw [jr_wr (show jr R by omega)]
      exact jn_ite (fun _ => hk) (fun hc => by omega)
    | succ m ih =>
      intro u1 u2 u4 u6 R c h1 h2 h3 hk
      refine jb_X7_closed_5 h0 ?_
      rw [jr_wr (show jr R by omega)]
      exact jn_ite (fun hc => by omega) (fun _ => hin 5 _ _ _ 0 R c (by omega) (by omega) h3 (fun u1 u2 u4 u6 h9 => ih u1 u2 u4 u6 (R + 1) _ (by omega) (by omega) h9 hk))
  exact hout 5 _ _ _ _ 0 c (by omega) (by omega) hc hk
/-- a row of truths in the reference -/
def jn_row (τ : jg_M) (A : Nat) (o : Int) (c : Nat) : Prop := ∀ i : Nat, i < 65 → τ.1 A (o + i) = jn_b (c.testBit i = true)
end JCL
