/-! A GRAMMAR AS DATA: items, masks, STATES, computed -/
abbrev zz_d : Type := Nat × Nat × List (Nat × List Nat) × Int
def zz_r (d : zz_d) (r : Nat) : Nat × List Nat := d.2.2.1.getD r (0, [])
def zz_n (d : zz_d) : Nat := d.2.2.1.length
/-- the grammar is what the data say -/
def zz_I (g : gM) (d : zz_d) : Prop := (g 0 0 = (d.1 : Nat) ∧ g 0 1 = (d.2.1 : Nat) ∧ g 0 2 = (zz_n d : Nat) ∧ g 0 3 = 0 ∧ g 0 4 = d.2.2.2) ∧ ∀ r : Nat, r < zz_n d → g 3 (r : Int) = ((zz_r d r).1 : Nat) ∧ g 4 (r : Int) = ((zz_r d r).2.length : Nat) ∧ ∀ k : Nat, k < (zz_r d r).2.length → g 5 ((r : Int) * 4 + (k : Int)) = (((zz_r d r).2.getD k 0 : Nat) : Int)
def zz_len (d : zz_d) (r : Nat) : Nat := if r = zz_n d then 1 else (zz_r d r).2.length
def zz_sym (d : zz_d) (r k : Nat) : Nat := if r = zz_n d then 10 else (zz_r d r).2.getD k 0
def zz_out (d : zz_d) (r : Nat) : Bool := decide ((r : Int) = d.2.2.2)
def zz_it (d : zz_d) (i : Nat) : Bool := decide (i / 5 ≤ zz_n d) && (!zz_out d (i / 5) && decide (i % 5 < zz_len d (i / 5)))
def zz_mk (p : Nat → Bool) : Nat → Nat
  | 0 => 0
  | n + 1 => zz_mk p n ||| (if p n = true then 2 ^ n else 0)
def zz_A (d : zz_d) (s : Nat) : Nat := zz_mk (fun i => zz_it d i && Nat.beq (zz_sym d (i / 5) (i % 5)) s) 62
def zz_O (d : zz_d) (x : Nat) : Nat := zz_mk (fun i => Nat.beq (i % 5) 0 && (decide (i / 5 < zz_n d) && (!zz_out d (i / 5) && Nat.beq (zz_r d (i / 5)).1 x))) 62
theorem zz_mkE {P : Nat → Prop} {p : Nat → Bool} : ∀ {n : Nat}, (∀ i, i < n → (P i ↔ p i = true)) → jn_mk P n = zz_mk p n
  | 0, _ => rfl
  | n + 1, h => by
    unfold jn_mk zz_mk
    rw [zz_mkE (fun i hi => h i (by omega))]
    by_cases e : p n = true
    · rw [if_pos ((h n (by omega)).mpr e), if_pos e]
    · rw [if_neg (fun q => e ((h n (by omega)).mp q)), if_neg e]
section ZZA
variable {g : gM} {d : zz_d} {al ol : List Nat} {k0 : Nat}
theorem zz_rN {r : Nat} (h : zz_n d ≤ r) : zz_r d r = (0, []) := by
  unfold zz_r
  rw [List.getD_eq_getElem?_getD, List.getElem?_eq_none h]
  rfl
theorem zz_l (h : zz_I g d) (r : Nat) : jn_len g (r : Int) = (zz_len d r : Nat) := by
  unfold jn_len zz_len
  rw [h.1.2.2.1]
  by_cases e : r = zz_n d
  · rw [if_pos (by omega), if_pos e]; rfl
  · rw [if_neg (by omega), if_neg e]
    by_cases e2 : r < zz_n d
    · rw [if_pos (by omega), (h.2 r e2).2.1]
    · rw [if_neg (by omega), zz_rN (by omega)]; rfl
theorem zz_lt {r k : Nat} (hk : k < zz_len d r) : r = zz_n d ∨ (r < zz_n d ∧ k < (zz_r d r).2.length) := by
  unfold zz_len at hk
  by_cases e : r = zz_n d
  · exact Or.inl e
  · rw [if_neg e] at hk
    rcases Nat.lt_or_ge r (zz_n d) with q | q
    · exact Or.inr ⟨q, hk⟩
    · rw [zz_rN q] at hk
      exact absurd hk (Nat.not_lt_zero k)
theorem zz_s (h : zz_I g d) {r k : Nat} (hk : k < zz_len d r) : jn_sym g (r : Int) (k : Int) = (zz_sym d r k : Nat) := by
  unfold jn_sym
  rw [zz_l h, if_neg (by omega), h.1.2.2.1]
  unfold zz_sym
  rcases zz_lt hk with e | ⟨e, hl⟩
  · rw [if_pos (by omega), if_pos e, h.1.2.2.2.1]; rfl
  · rw [if_neg (by omega), if_neg (by omega)]
    exact (h.2 r e).2.2 k hl
theorem zz_outP (h : zz_I g d) {r : Nat} : (r : Int) ≠ g 0 4 ↔ zz_out d r = false := by
  unfold zz_out
  rw [h.1.2.2.2.2, decide_eq_false_iff_not]
theorem zz_itP (h : zz_I g d) {i : Nat} : jn_it g i ↔ zz_it d i = true := by
  unfold jn_it zz_it jn_r jn_d
  rw [Bool.and_eq_true, Bool.and_eq_true, decide_eq_true_iff, decide_eq_true_iff, Bool.not_eq_true', h.1.2.2.1, zz_outP h, zz_l h]
  constructor
  · rintro ⟨a, b, c⟩; exact ⟨by omega, b, by omega⟩
  · rintro ⟨a, b, c⟩; exact ⟨by omega, b, by omega⟩
theorem zz_itL {i : Nat} (hi : zz_it d i = true) : i % 5 < zz_len d (i / 5) := by
  unfold zz_it at hi
  rw [Bool.and_eq_true, Bool.and_eq_true, decide_eq_true_iff, decide_eq_true_iff] at hi
  exact hi.2.2
theorem zz_itN {i : Nat} (hn : zz_n d ≤ 12) (hi : zz_it d i = true) : i < 62 := by
  have h1 := zz_itL hi
  unfold zz_it at hi
  rw [Bool.and_eq_true, decide_eq_true_iff] at hi
  have h2 := hi.1
  by_cases e : i / 5 = zz_n d
  · have : zz_len d (i / 5) = 1 := if_pos e
    omega
  · omega
theorem zz_is (h : zz_I g d) {i : Nat} (hi : zz_it d i = true) : jn_is g i = (zz_sym d (i / 5) (i % 5) : Nat) := zz_s h (zz_itL hi)
theorem zz_AE (h : zz_I g d) (s : Nat) : jn_A g (s : Int) = zz_A d s := zz_mkE (fun i _ => by
  rw [Bool.and_eq_true, ← zz_itP h]
  constructor
  · rintro ⟨a, b⟩
    rw [zz_is h ((zz_itP h).mp a)] at b
    exact ⟨a, by rw [Nat.beq_eq]; omega⟩
  · rintro ⟨a, b⟩
    rw [Nat.beq_eq] at b
    exact ⟨a, by rw [zz_is h ((zz_itP h).mp a), b]⟩)
theorem zz_OE (h : zz_I g d) (x : Nat) : jn_O g (x : Int) = zz_O d x := zz_mkE (fun i _ => by
  rw [Bool.and_eq_true, Bool.and_eq_true, Bool.and_eq_true, Nat.beq_eq, Nat.beq_eq, decide_eq_true_iff, Bool.not_eq_true', h.1.2.2.1, zz_outP h]
  constructor
  · rintro ⟨a, b, c, e⟩
    have b : ((i / 5 : Nat) : Int) < ((zz_n d : Nat) : Int) := b
    have b : i / 5 < zz_n d := by omega
    have e : g 3 ((i / 5 : Nat) : Int) = (x : Int) := e
    rw [(h.2 _ b).1] at e
    exact ⟨a, b, c, by omega⟩
  · rintro ⟨a, b, c, e⟩
    refine ⟨a, (show ((i / 5 : Nat) : Int) < ((zz_n d : Nat) : Int) by omega), c, ?_⟩
    show g 3 ((i / 5 : Nat) : Int) = (x : Int)
    rw [(h.2 _ b).1, e])
/-- both families of masks -/
def zz_T (g : gM) (al ol : List Nat) : Prop := (∀ s : Nat, s < 15 → jn_A g (s : Int) = al.getD s 0) ∧ ∀ x : Nat, x < 5 → jn_O g (x : Int) = ol.getD x 0
def zz_al (d : zz_d) : List Nat := (List.range 15).map (zz_A d)
def zz_ol (d : zz_d) : List Nat := (List.range 5).map (zz_O d)
theorem zz_rg {f : Nat → Nat} {n s : Nat} (h : s < n) : ((List.range n).map f).getD s 0 = f s := by
  rw [List.getD_eq_getElem?_getD, List.getElem?_map, List.getElem?_range h]
  rfl
theorem zz_T_of (h : zz_I g d) : zz_T g (zz_al d) (zz_ol d) :=
  ⟨fun s hs => by rw [zz_AE h]; exact (zz_rg hs).symm, fun x hx => by rw [zz_OE h]; exact (zz_rg hx).symm⟩
def zz_cl1 (al ol : List Nat) (c x : Nat) : Nat := if c &&& al.getD (10 + x) 0 = 0 then c else c ||| ol.getD x 0
def zz_clk (al ol : List Nat) : Nat → Nat → Nat → Nat
  | 0, _, c => c
  | m + 1, x, c => zz_clk al ol m (x + 1) (zz_cl1 al ol c x)
def zz_clr (al ol : List Nat) : Nat → Nat → Nat
  | 0, c => c
  | m + 1, c => zz_clr al ol m (zz_clk al ol 5 0 c)
def zz_clo (al ol : List Nat) (c : Nat) : Nat := zz_clr al ol 5 c
theorem zz_cl1E (h : zz_T g al ol) {x : Nat} (hx : x < 5) (c : Nat) : jn_cl1 g c (x : Int) = zz_cl1 al ol c x := by
  unfold jn_cl1 zz_cl1
  rw [show (10 + (x : Int)) = ((10 + x : Nat) : Int) by omega, h.1 _ (by omega), h.2 _ hx]
theorem zz_clkE (h : zz_T g al ol) : ∀ (m x c : Nat), x + m ≤ 5 → jn_clk g m (x : Int) c = zz_clk al ol m x c
  | 0, _, _, _ => rfl
  | m + 1, x, c, hm => by
    unfold jn_clk zz_clk
    rw [zz_cl1E h (by omega), show ((x : Int) + 1) = ((x + 1 : Nat) : Int) by omega]
    exact zz_clkE h m (x + 1) _ (by omega)
theorem zz_clrE (h : zz_T g al ol) : ∀ (m c : Nat), jn_clr g m c = zz_clr al ol m c
  | 0, _ => rfl
  | m + 1, c => by
    unfold jn_clr zz_clr
    rw [show jn_clk g 5 0 c = zz_clk al ol 5 0 c from zz_clkE h 5 0 c (by omega)]
    exact zz_clrE h m _
theorem zz_cloE (h : zz_T g al ol) (c : Nat) : jn_clo g c = zz_clo al ol c := zz_clrE h 5 c
/-- STATES: how many, kernels, moves, entries -/
abbrev zz_q : Type := Nat × List (Nat × Nat) × List (Nat × Nat × Nat) × List (Nat × Nat)
def zz_la : List (Nat × Nat) → Nat → Int → Nat
  | [], d0, _ => d0
  | p :: r, d0, j => if j = (p.1 : Int) then p.2 else zz_la r d0 j
def zz_lm : List (Nat × Nat × Nat) → Int → Int → Int
  | [], _, _ => -1
  | p :: r, a, b => if a = (p.1 : Int) ∧ b = (p.2.1 : Int) then (p.2.2 : Int) else zz_lm r a b
def zz_le : List (Nat × Nat) → Int → Int
  | [], _ => -2
  | p :: r, j => if j = (p.1 : Int) then (p.2 : Int) else zz_le r j
def zz_S (k0 : Nat) (q : zz_q) : jn_Q := ((q.1 : Int), zz_la q.2.1 k0, zz_lm q.2.2.1, zz_le q.2.2.2)
def zz_nx (al ol : List Nat) (k s : Nat) : Nat := (zz_clo al ol k &&& al.getD s 0) * 2
def zz_fnd (l : List (Nat × Nat)) (k0 k : Nat) : Nat → Nat → Option Nat
  | 0, _ => none
  | m + 1, j => if zz_la l k0 (j : Int) = k then some j else zz_fnd l k0 k m (j + 1)
theorem zz_fndE {l : List (Nat × Nat)} {k : Nat} : ∀ (m j : Nat), jn_fnd (zz_la l k0) k m (j : Int) = match zz_fnd l k0 k m j with
    | some i => (i : Int)
    | none => -1
  | 0, _ => rfl
  | m + 1, j => by
    unfold jn_fnd zz_fnd
    by_cases e : zz_la l k0 (j : Int) = k
    · rw [if_pos e, if_pos e]
    · rw [if_neg e, if_neg e, show ((j : Int) + 1) = ((j + 1 : Nat) : Int) by omega]
      exact zz_fndE m (j + 1)
def zz_st1 (al ol : List Nat) (k0 : Nat) (q : zz_q) (s x : Nat) : Option zz_q :=
  if zz_nx al ol (zz_la q.2.1 k0 (s : Int)) x = 0 then some q
  else match zz_fnd q.2.1 k0 (zz_nx al ol (zz_la q.2.1 k0 (s : Int)) x) q.1 0 with
    | some j => some (q.1, q.2.1, (s, x, j) :: q.2.2.1, q.2.2.2)
    | none => if q.1 = 48 then none else some (q.1 + 1, (q.1, zz_nx al ol (zz_la q.2.1 k0 (s : Int)) x) :: q.2.1, (s, x, q.1) :: q.2.2.1, (q.1, x) :: q.2.2.2)
theorem zz_nxE (h : zz_T g al ol) (k : Nat) {x : Nat} (hx : x < 15) : jn_nx g k (x : Int) = zz_nx al ol k x := by
  unfold jn_nx zz_nx
  rw [zz_cloE h, h.1 _ hx]
theorem zz_st1E (h : zz_T g al ol) (q : zz_q) (s : Nat) {x : Nat} (hx : x < 15) : jn_st1 g (zz_S k0 q) (s : Int) (x : Int) = (zz_st1 al ol k0 q s x).map (zz_S k0) := by
  obtain ⟨n, kl, ml, el⟩ := q
  unfold jn_st1 zz_st1
  have e1 : jn_nx g ((zz_S k0 (n, kl, ml, el)).2.1 (s : Int)) (x : Int) = zz_nx al ol (zz_la kl k0 (s : Int)) x := zz_nxE h _ hx
  rw [e1]
  have e2 : (zz_S k0 (n, kl, ml, el)).1.toNat = n := rfl
  rw [e2]
  have e3 := zz_fndE (k0 := k0) (l := kl) (k := zz_nx al ol (zz_la kl k0 (s : Int)) x) n 0
  have e3' : jn_fnd (zz_S k0 (n, kl, ml, el)).2.1 (zz_nx al ol (zz_la kl k0 (s : Int)) x) n 0 = _ := e3
  rw [e3']
  dsimp only
  by_cases c1 : zz_nx al ol (zz_la kl k0 (s : Int)) x = 0
  · rw [if_pos c1, if_pos c1]; rfl
  · rw [if_neg c1, if_neg c1]
    cases hf : zz_fnd kl k0 (zz_nx al ol (zz_la kl k0 (s : Int)) x) n 0 with
    | some j =>
      dsimp only
      rw [if_pos (Int.natCast_nonneg j)]
      rfl
    | none =>
      dsimp only
      rw [if_neg (by decide)]
      by_cases c2 : n = 48
      · rw [if_pos (by show ((n : Nat) : Int) = 48; omega), if_pos c2]; rfl
      · rw [if_neg (by show ¬ ((n : Nat) : Int) = 48; omega), if_neg c2]
        rfl
def zz_str (al ol : List Nat) (k0 : Nat) : Nat → zz_q → Nat → Nat → Option zz_q
  | 0, q, _, _ => some q
  | m + 1, q, s, x => match zz_st1 al ol k0 q s x with
    | none => none
    | some q' => zz_str al ol k0 m q' s (x + 1)
theorem zz_strE (h : zz_T g al ol) : ∀ (m : Nat) (q : zz_q) (s x : Nat), x + m ≤ 15 → jn_str g m (zz_S k0 q) (s : Int) (x : Int) = (zz_str al ol k0 m q s x).map (zz_S k0)
  | 0, _, _, _, _ => rfl
  | m + 1, q, s, x, hm => by
    unfold jn_str zz_str
    rw [zz_st1E h q s (by omega)]
    cases hs : zz_st1 al ol k0 q s x with
    | none => rfl
    | some q' =>
      dsimp only [Option.map]
      rw [show ((x : Int) + 1) = ((x + 1 : Nat) : Int) by omega]
      exact zz_strE h m q' s (x + 1) (by omega)
def zz_sta (al ol : List Nat) (k0 : Nat) : Nat → zz_q → Nat → Option zz_q
  | 0, q, _ => some q
  | m + 1, q, s => if s < q.1 then (match zz_str al ol k0 15 q s 0 with
    | none => none
    | some q' => zz_sta al ol k0 m q' (s + 1)) else some q
theorem zz_staE (h : zz_T g al ol) : ∀ (m : Nat) (q : zz_q) (s : Nat), jn_sta g m (zz_S k0 q) (s : Int) = (zz_sta al ol k0 m q s).map (zz_S k0)
  | 0, _, _ => rfl
  | m + 1, q, s => by
    unfold jn_sta zz_sta
    by_cases c : s < q.1
    · rw [if_pos (by show (s : Int) < ((q.1 : Nat) : Int); omega), if_pos c]
      have e := zz_strE (k0 := k0) h 15 q s 0 (by omega)
      rw [show jn_str g 15 (zz_S k0 q) (s : Int) 0 = _ from e]
      cases hs : zz_str al ol k0 15 q s 0 with
      | none => rfl
      | some q' =>
        dsimp only [Option.map]
        rw [show ((s : Int) + 1) = ((s + 1 : Nat) : Int) by omega]
        exact zz_staE h m q' (s + 1)
    · rw [if_neg (by show ¬ (s : Int) < ((q.1 : Nat) : Int); omega), if_neg c]; rfl
def zz_k0 (d : zz_d) : Nat := 2 ^ (5 * zz_n d)
def zz_all (d : zz_d) (al ol : List Nat) : Option zz_q := zz_sta al ol (zz_k0 d) 48 (1, [], [], []) 0
/-- all STATES -/
theorem zz_allE (hI : zz_I g d) (h : zz_T g al ol) : jn_all g = (zz_all d al ol).map (zz_S (zz_k0 d)) := by
  unfold jn_all zz_all
  have e : jn_S0 g = zz_S (zz_k0 d) (1, [], [], []) := by
    unfold jn_S0
    rw [hI.1.2.2.1]
    rfl
  rw [e]
  exact zz_staE h 48 _ 0
end ZZA
