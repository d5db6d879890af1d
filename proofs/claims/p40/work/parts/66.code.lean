/-! SHORTEST: rows as numbers in eights (a shorter one, or of as long the first one, is the less); least values by rounds -/
section JSH
def ka_vp (p : Nat × Nat) : Prop := (p.1 = 0 ∧ p.2 = 0) ∨ (0 < p.1 ∧ 8 ^ (p.1 - 1) ≤ p.2 ∧ p.2 < 8 ^ p.1)
def ka_cat (p q : Nat × Nat) : Nat × Nat := (p.1 + q.1, p.2 * 8 ^ q.1 + q.2)
def ka_no : Nat × Nat := (100, 8 ^ 99)
theorem ka_no_vp : ka_vp ka_no := by
  refine Or.inr ⟨by decide, Nat.le_refl _, ?_⟩
  exact Nat.pow_lt_pow_right (by decide) (by decide)
theorem ka_p8 (n : Nat) : 0 < 8 ^ n := Nat.pow_pos (by decide)
theorem ka_vp_lt {p : Nat × Nat} (h : ka_vp p) : p.2 < 8 ^ p.1 := by
  rcases h with ⟨h1, h2⟩ | ⟨_, _, h⟩
  · rw [h1, h2]; decide
  · exact h
theorem ka_vp_len {p q : Nat × Nat} (hp : ka_vp p) (hq : ka_vp q) (h : p.2 ≤ q.2) : p.1 ≤ q.1 := by
  refine Classical.byContradiction (fun hn => ?_)
  rcases hp with ⟨h1, h2⟩ | ⟨h1, h2, _⟩
  · omega
  · have h3 := ka_vp_lt hq
    have h4 : 8 ^ q.1 ≤ 8 ^ (p.1 - 1) := Nat.pow_le_pow_right (by decide) (by omega)
    omega
theorem ka_vp_eq {p q : Nat × Nat} (hp : ka_vp p) (hq : ka_vp q) (h : p.2 = q.2) : p = q := by
  have h1 := ka_vp_len hp hq (by omega)
  have h2 := ka_vp_len hq hp (by omega)
  exact Prod.ext (by omega) h
theorem ka_vp_cat {p q : Nat × Nat} (hp : ka_vp p) (hq : ka_vp q) : ka_vp (ka_cat p q) := by
  have l1 := ka_vp_lt hp
  have l2 := ka_vp_lt hq
  unfold ka_cat
  rcases hp with ⟨h1, h2⟩ | ⟨h1, h2, h3⟩
  · rw [h1, h2, Nat.zero_mul, Nat.zero_add, Nat.zero_add]
    exact hq
  · refine Or.inr ⟨by show 0 < p.1 + q.1; omega, ?_, ?_⟩
    · show 8 ^ (p.1 + q.1 - 1) ≤ p.2 * 8 ^ q.1 + q.2
      rw [show p.1 + q.1 - 1 = (p.1 - 1) + q.1 by omega, Nat.pow_add]
      exact Nat.le_trans (Nat.mul_le_mul_right _ h2) (Nat.le_add_right _ _)
    · show p.2 * 8 ^ q.1 + q.2 < 8 ^ (p.1 + q.1)
      rw [Nat.pow_add]
      have h5 : (p.2 + 1) * 8 ^ q.1 ≤ 8 ^ p.1 * 8 ^ q.1 := Nat.mul_le_mul_right _ h3
      rw [Nat.succ_mul] at h5
      omega
theorem ka_cat_le {p q p' q' : Nat × Nat} (hp : ka_vp p) (hq : ka_vp q) (hp' : ka_vp p') (hq' : ka_vp q') (h1 : p.2 ≤ p'.2) (h2 : q.2 ≤ q'.2) : (ka_cat p q).2 ≤ (ka_cat p' q').2 ∧ ((ka_cat p q).2 = (ka_cat p' q').2 → p = p' ∧ q = q') := by
  have l := ka_vp_len hq hq' h2
  have e : 8 ^ q.1 ≤ 8 ^ q'.1 := Nat.pow_le_pow_right (by decide) l
  have m1 : p.2 * 8 ^ q.1 ≤ p.2 * 8 ^ q'.1 := Nat.mul_le_mul_left _ e
  have m2 : p.2 * 8 ^ q'.1 ≤ p'.2 * 8 ^ q'.1 := Nat.mul_le_mul_right _ h1
  unfold ka_cat
  refine ⟨by show p.2 * 8 ^ q.1 + q.2 ≤ p'.2 * 8 ^ q'.1 + q'.2; omega, fun h => ?_⟩
  have h' : p.2 * 8 ^ q.1 + q.2 = p'.2 * 8 ^ q'.1 + q'.2 := h
  have hq2 : q.2 = q'.2 := by omega
  have hqe := ka_vp_eq hq hq' hq2
  refine ⟨ka_vp_eq hp hp' ?_, hqe⟩
  have hm : p.2 * 8 ^ q'.1 = p'.2 * 8 ^ q'.1 := by omega
  exact Nat.eq_of_mul_eq_mul_right (ka_p8 _) hm
abbrev ka_Ve : Type := Int → Nat × Nat
def ka_vv (V : ka_Ve) : Prop := ∀ k, ka_vp (V k)
def ka_vl (U V : ka_Ve) : Prop := ∀ k, (U k).2 ≤ (V k).2
noncomputable def ka_sp (tg : Nat → Int) (tr : Nat → ka_Ve → Nat × Nat) (cap i : Nat) (V : ka_Ve) : ka_Ve := fun k => if k = tg i ∧ (tr i V).1 ≤ cap ∧ (tr i V).2 < (V (tg i)).2 then tr i V else V k
noncomputable def ka_pr (tg : Nat → Int) (tr : Nat → ka_Ve → Nat × Nat) (cap : Nat) : Nat → ka_Ve → ka_Ve
  | 0, V => V
  | n + 1, V => ka_sp tg tr cap n (ka_pr tg tr cap n V)
def ka_it (F : ka_Ve → ka_Ve) : Nat → ka_Ve → ka_Ve
  | 0, V => V
  | m + 1, V => F (ka_it F m V)
/-- a process that makes less, by what is least alone -/
def ka_gd (n K : Nat) (tg : Nat → Int) (tr : Nat → ka_Ve → Nat × Nat) (cap : Nat) : Prop := ∀ i, i < n →
  (∀ V, ka_vv V → ka_vp (tr i V)) ∧
  (∀ U V, ka_vv U → ka_vv V → ka_vl U V → (tr i U).2 ≤ (tr i V).2 ∧ ((tr i U).2 = (tr i V).2 → (tr i V).1 ≤ cap → ∀ W, (∀ k, V k = U k → W k = U k) → tr i W = tr i U)) ∧
  (∀ V, (tr i V).1 ≤ cap → 0 ≤ tg i ∧ tg i < K)
variable {n K : Nat} {tg : Nat → Int} {tr : Nat → ka_Ve → Nat × Nat} {cap i m : Nat} {U V W : ka_Ve}
theorem ka_sp_at : ka_sp tg tr cap i V (tg i) = if (tr i V).1 ≤ cap ∧ (tr i V).2 < (V (tg i)).2 then tr i V else V (tg i) := by
  unfold ka_sp
  by_cases h : (tr i V).1 ≤ cap ∧ (tr i V).2 < (V (tg i)).2
  · rw [if_pos ⟨rfl, h⟩, if_pos h]
  · rw [if_neg (fun q => h q.2), if_neg h]
theorem ka_sp_no (h : ¬ ((tr i V).1 ≤ cap ∧ (tr i V).2 < (V (tg i)).2)) : ka_sp tg tr cap i V = V := by
  funext k
  unfold ka_sp
  rw [if_neg (fun q => h q.2)]
theorem ka_sp_vv (hg : ka_gd n K tg tr cap) (hi : i < n) (hV : ka_vv V) : ka_vv (ka_sp tg tr cap i V) ∧ ka_vl (ka_sp tg tr cap i V) V := by
  refine ⟨fun k => ?_, fun k => ?_⟩
  · unfold ka_sp
    split
    · exact (hg i hi).1 V hV
    · exact hV k
  · unfold ka_sp
    split
    · rename_i h
      rw [h.1]
      omega
    · exact Nat.le_refl _
theorem ka_vl_tr (h1 : ka_vl U V) (h2 : ka_vl V W) : ka_vl U W := fun k => Nat.le_trans (h1 k) (h2 k)
theorem ka_vl_eq (hU : ka_vv U) (hV : ka_vv V) (h1 : ka_vl U V) (h2 : ka_vl V U) : U = V := by
  funext k
  exact ka_vp_eq (hU k) (hV k) (Nat.le_antisymm (h1 k) (h2 k))
theorem ka_pr_vv (hg : ka_gd n K tg tr cap) (hV : ka_vv V) : ∀ {i : Nat}, i ≤ n → ka_vv (ka_pr tg tr cap i V) ∧ ka_vl (ka_pr tg tr cap i V) V
  | 0, _ => ⟨hV, fun k => Nat.le_refl _⟩
  | i + 1, hi => by
    have h1 := ka_pr_vv hg hV (i := i) (by omega)
    have h2 := ka_sp_vv hg (show i < n by omega) h1.1
    exact ⟨h2.1, ka_vl_tr h2.2 h1.2⟩
theorem ka_pr_step (hg : ka_gd n K tg tr cap) (hV : ka_vv V) {i : Nat} : ∀ {d : Nat}, i + d ≤ n → ka_vl (ka_pr tg tr cap (i + d) V) (ka_pr tg tr cap i V)
  | 0, _ => fun k => Nat.le_refl _
  | d + 1, h => by
    have h1 := ka_pr_step hg hV (i := i) (d := d) (by omega)
    have h2 := ka_sp_vv hg (show i + d < n by omega) (ka_pr_vv hg hV (i := i + d) (by omega)).1
    exact ka_vl_tr h2.2 h1
theorem ka_pr_ne (hg : ka_gd n K tg tr cap) (hV : ka_vv V) (hi : i < n) (h : ka_pr tg tr cap i V ≠ V) : ka_pr tg tr cap (i + 1) V ≠ V := by
  intro q
  refine h (ka_vl_eq (ka_pr_vv hg hV (by omega)).1 hV (ka_pr_vv hg hV (by omega)).2 ?_)
  have := ka_pr_step hg hV (i := i) (d := 1) (by omega)
  rwa [q] at this
theorem ka_sp_ne (h : (tr i V).1 ≤ cap ∧ (tr i V).2 < (V (tg i)).2) : ka_sp tg tr cap i V ≠ V := by
  intro q
  have := congrFun q (tg i)
  rw [ka_sp_at, if_pos h] at this
  rw [this] at h
  omega
theorem ka_st_op (hg : ka_gd n K tg tr cap) (hV : ka_vv V) (hs : ka_pr tg tr cap n V = V) (hi : i < n) : ka_pr tg tr cap i V = V ∧ ¬ ((tr i V).1 ≤ cap ∧ (tr i V).2 < (V (tg i)).2) := by
  have e1 : ∀ {i : Nat}, i ≤ n → ka_pr tg tr cap i V = V := fun {i} hi => by
    have h1 := ka_pr_vv hg hV (i := i) hi
    have h2 := ka_pr_step hg hV (i := i) (d := n - i) (by omega)
    rw [show i + (n - i) = n by omega, hs] at h2
    exact ka_vl_eq h1.1 hV h1.2 h2
  refine ⟨e1 (by omega), fun h => ?_⟩
  have h3 := e1 (i := i + 1) (by omega)
  unfold ka_pr at h3
  rw [e1 (by omega)] at h3
  exact ka_sp_ne h h3
theorem ka_it_vv (hg : ka_gd n K tg tr cap) (hV : ka_vv V) : ∀ {m : Nat}, ka_vv (ka_it (ka_pr tg tr cap n) m V) ∧ ka_vl (ka_it (ka_pr tg tr cap n) m V) V
  | 0 => ⟨hV, fun k => Nat.le_refl _⟩
  | m + 1 => by
    have h1 := ka_it_vv hg hV (m := m)
    have h2 := ka_pr_vv hg h1.1 (Nat.le_refl n)
    exact ⟨h2.1, ka_vl_tr h2.2 h1.2⟩
theorem ka_it_plus {F : ka_Ve → ka_Ve} : ∀ {d m : Nat}, ka_it F (m + d) V = ka_it F d (ka_it F m V)
  | 0, m => rfl
  | d + 1, m => by
    show F (ka_it F (m + d) V) = F (ka_it F d (ka_it F m V))
    rw [ka_it_plus]
theorem ka_it_st {F : ka_Ve → ka_Ve} (h : F V = V) : ∀ {d : Nat}, ka_it F d V = V
  | 0 => rfl
  | d + 1 => by
    show F (ka_it F d V) = V
    rw [ka_it_st h, h]
/-- the rounds come to an end -/
theorem ka_it_ex (hg : ka_gd n K tg tr cap) : ∀ (s : Nat) {V : ka_Ve}, ka_vv V → jn_sum (fun k => (V (k : Int)).2) K = s → ∃ m, ka_pr tg tr cap n (ka_it (ka_pr tg tr cap n) m V) = ka_it (ka_pr tg tr cap n) m V := by
  intro s
  induction s using Nat.strongRecOn with
  | _ s ih =>
    intro V hV hs
    by_cases he : ka_pr tg tr cap n V = V
    · exact ⟨0, he⟩
    · have h1 := ka_pr_vv hg hV (Nat.le_refl n)
      have hout : ∀ i, i ≤ n → ∀ k, ¬ (0 ≤ k ∧ k < (K : Int)) → ka_pr tg tr cap i V k = V k := by
        intro i
        induction i with
        | zero => intro _ k _; rfl
        | succ i ihi =>
          intro hi k hk
          show ka_sp tg tr cap i (ka_pr tg tr cap i V) k = V k
          rw [← ihi (by omega) k hk]
          unfold ka_sp
          refine if_neg (fun q => hk ?_)
          have := (hg i (by omega)).2.2 _ q.2.1
          rw [q.1]
          exact this
      have hex : ∃ k : Nat, k < K ∧ ka_pr tg tr cap n V (k : Int) ≠ V (k : Int) := by
        refine Classical.byContradiction (fun hn => he (funext fun k => ?_))
        by_cases hk : 0 ≤ k ∧ k < (K : Int)
        · refine Classical.byContradiction (fun hne => hn ⟨k.toNat, by omega, ?_⟩)
          rw [show ((k.toNat : Nat) : Int) = k by omega]
          exact hne
        · exact hout n (Nat.le_refl n) k hk
      obtain ⟨k, hk, hne⟩ := hex
      have hlt : (ka_pr tg tr cap n V (k : Int)).2 < (V (k : Int)).2 := by
        refine Nat.lt_of_le_of_ne (h1.2 _) (fun q => hne (ka_vp_eq (h1.1 _) (hV _) q))
      have hsum : ∀ L : Nat, (jn_sum (fun k => (ka_pr tg tr cap n V (k : Int)).2) L ≤ jn_sum (fun k => (V (k : Int)).2) L) ∧ (k < L → jn_sum (fun k => (ka_pr tg tr cap n V (k : Int)).2) L < jn_sum (fun k => (V (k : Int)).2) L) := by
        intro L
        induction L with
        | zero => exact ⟨Nat.le_refl _, fun h => by omega⟩
        | succ L ihL =>
          have h5 := h1.2 (L : Int)
          unfold jn_sum
          refine ⟨by omega, fun h => ?_⟩
          by_cases hkL : k = L
          · subst hkL; omega
          · have := ihL.2 (by omega); omega
      obtain ⟨m, hm⟩ := ih _ (by rw [← hs]; exact (hsum K).2 hk) h1.1 rfl
      refine ⟨1 + m, ?_⟩
      rw [ka_it_plus]
      exact hm
end JSH
section KAB
variable {n K : Nat} {tg : Nat → Int} {tr : Nat → ka_Ve → Nat × Nat} {cap i m : Nat} {U V W X : ka_Ve}
/-- an operation makes nothing least of what the ones that are least already don't make so -/
theorem ka_live (hg : ka_gd n K tg tr cap) (hU : ka_vv U) (hs : ka_pr tg tr cap n U = U) (hW : ka_vv W) (hUW : ka_vl U W) (hX : ka_vv X) (hUX : ka_vl U X) (hi : i < n) (hsub : ∀ k, W k = U k → X k = U k)
    (hnew : W (tg i) ≠ U (tg i)) (hset : ka_sp tg tr cap i W (tg i) = U (tg i)) : ka_sp tg tr cap i X (tg i) = U (tg i) := by
  have h1 := (hg i hi).2.1 U W hU hW hUW
  have hop := (ka_st_op hg hU hs hi).2
  rw [ka_sp_at] at hset
  by_cases hc : (tr i W).1 ≤ cap ∧ (tr i W).2 < (W (tg i)).2
  · rw [if_pos hc] at hset
    have hlen := ka_vp_len ((hg i hi).1 U hU) ((hg i hi).1 W hW) h1.1
    have h2 : (U (tg i)).2 ≤ (tr i U).2 := Classical.byContradiction (fun q => hop ⟨by omega, by omega⟩)
    have h3 : (tr i U).2 = (tr i W).2 := by rw [hset] at h1 ⊢; omega
    have h4 := h1.2 h3 hc.1
    have h5 : tr i U = U (tg i) := by rw [← h4 W (fun _ q => q), hset]
    have h6 : tr i X = U (tg i) := by rw [h4 X hsub, h5]
    rw [ka_sp_at, h6]
    have h7 := hUX (tg i)
    have hcap : (U (tg i)).1 ≤ cap := by rw [← hset]; exact hc.1
    by_cases hx : (U (tg i)).2 < (X (tg i)).2
    · rw [if_pos ⟨hcap, hx⟩]
    · rw [if_neg (fun q => hx q.2)]
      exact (ka_vp_eq (hU _) (hX _) (by omega)).symm
  · rw [if_neg hc] at hset
    exact absurd hset hnew
theorem ka_low (hg : ka_gd n K tg tr cap) (hU : ka_vv U) (hs : ka_pr tg tr cap n U = U) (hW : ka_vv W) (hUW : ka_vl U W) (hi : i < n) : ka_vl U (ka_sp tg tr cap i W) ∧ ∀ k, W k = U k → ka_sp tg tr cap i W k = U k := by
  have hop := (ka_st_op hg hU hs hi).2
  have h1 := ((hg i hi).2.1 U W hU hW hUW).1
  have hl : ka_vl U (ka_sp tg tr cap i W) := fun k => by
    unfold ka_sp
    split
    · rename_i h
      have hlen := ka_vp_len ((hg i hi).1 U hU) ((hg i hi).1 W hW) h1
      rw [h.1]
      refine Nat.le_trans ?_ h1
      exact Classical.byContradiction (fun q => hop ⟨by omega, by omega⟩)
    · exact hUW k
  refine ⟨hl, fun k hk => ?_⟩
  have h2 := ka_sp_vv hg hi hW
  have h3 := h2.2 k
  rw [hk] at h3
  exact (ka_vp_eq (hU k) (h2.1 k) (Nat.le_antisymm (hl k) h3)).symm
theorem ka_lowP (hg : ka_gd n K tg tr cap) (hU : ka_vv U) (hs : ka_pr tg tr cap n U = U) (hW : ka_vv W) (hUW : ka_vl U W) : ∀ {i : Nat}, i ≤ n → ka_vl U (ka_pr tg tr cap i W) ∧ ∀ k, W k = U k → ka_pr tg tr cap i W k = U k
  | 0, _ => ⟨hUW, fun _ q => q⟩
  | i + 1, hi => by
    have h1 := ka_lowP hg hU hs hW hUW (i := i) (by omega)
    have h2 := ka_low hg hU hs (ka_pr_vv hg hW (i := i) (by omega)).1 h1.1 (i := i) (by omega)
    exact ⟨h2.1, fun k hk => h2.2 k (h1.2 k hk)⟩
/-- a round that makes nothing least is no use for ever -/
theorem ka_dead (hg : ka_gd n K tg tr cap) (hU : ka_vv U) (hs : ka_pr tg tr cap n U = U) (hV : ka_vv V) (hUV : ka_vl U V) (hd : ∀ k, ka_pr tg tr cap n V k = U k → V k = U k) (hW : ka_vv W) (hUW : ka_vl U W) (hWV : ∀ k, W k = U k ↔ V k = U k) : ∀ {i : Nat}, i ≤ n → ∀ k, ka_pr tg tr cap i W k = U k ↔ V k = U k
  | 0, _ => hWV
  | i + 1, hi => fun k => by
    have ih := ka_dead hg hU hs hV hUV hd hW hUW hWV (i := i) (by omega)
    have w1 := ka_pr_vv hg hW (i := i) (by omega)
    have w2 := ka_lowP hg hU hs hW hUW (i := i) (by omega)
    have v1 := ka_pr_vv hg hV (i := i) (by omega)
    have v2 := ka_lowP hg hU hs hV hUV (i := i) (by omega)
    refine ⟨fun h => ?_, fun h => (ka_low hg hU hs w1.1 w2.1 (i := i) (by omega)).2 k ((ih k).mpr h)⟩
    by_cases hk : ka_pr tg tr cap i W k = U k
    · exact (ih k).mp hk
    · have hkt : k = tg i := by
        refine Classical.byContradiction (fun hne => hk ?_)
        have : ka_pr tg tr cap (i + 1) W k = ka_pr tg tr cap i W k := by
          show ka_sp tg tr cap i (ka_pr tg tr cap i W) k = _
          unfold ka_sp
          rw [if_neg (fun q => hne q.1)]
        rw [← this]
        exact h
      subst hkt
      have h2 := ka_live hg hU hs w1.1 w2.1 v1.1 v2.1 (i := i) (by omega) (fun j hj => v2.2 j ((ih j).mp hj)) hk h
      refine hd _ ?_
      have h3 := ka_lowP hg hU hs hV hUV (i := n) (Nat.le_refl n)
      have h4 := ka_pr_step hg hV (i := i + 1) (d := n - (i + 1)) (by omega) (tg i)
      rw [show i + 1 + (n - (i + 1)) = n by omega] at h4
      have h5 : ka_pr tg tr cap (i + 1) V (tg i) = U (tg i) := h2
      rw [h5] at h4
      exact (ka_vp_eq (hU _) ((ka_pr_vv hg hV (Nat.le_refl n)).1 _) (Nat.le_antisymm (h3.1 _) h4)).symm
def ka_un (K : Nat) (U V : ka_Ve) : Nat := jn_ct (fun k => decide (V (k : Int) ≠ U (k : Int))) K
theorem ka_ct_mono {p q : Nat → Bool} (h : ∀ k, p k = true → q k = true) : ∀ {n : Nat}, jn_ct p n ≤ jn_ct q n
  | 0 => Nat.le_refl _
  | n + 1 => by
    have := ka_ct_mono h (n := n)
    unfold jn_ct
    by_cases hp : p n = true
    · rw [if_pos hp, if_pos (h n hp)]; omega
    · rw [if_neg hp]; split <;> omega
theorem ka_ct_lt {p q : Nat → Bool} (h : ∀ k, p k = true → q k = true) {j : Nat} (h1 : p j = false) (h2 : q j = true) : ∀ {n : Nat}, j < n → jn_ct p n < jn_ct q n
  | 0, hj => by omega
  | n + 1, hj => by
    unfold jn_ct
    by_cases he : j = n
    · subst he
      have := ka_ct_mono h (n := j)
      rw [h1, h2]
      simp only [if_true, Bool.false_eq_true, if_false]
      omega
    · have := ka_ct_lt h h1 h2 (n := n) (by omega)
      by_cases hp : p n = true
      · rw [if_pos hp, if_pos (h n hp)]; omega
      · rw [if_neg hp]; split <;> omega
/-- as many rounds as there are rows are enough -/
theorem ka_end (hg : ka_gd n K tg tr cap) (hV : ka_vv V) : ka_pr tg tr cap n (ka_it (ka_pr tg tr cap n) K V) = ka_it (ka_pr tg tr cap n) K V := by
  obtain ⟨N, hN⟩ := ka_it_ex hg _ hV rfl
  generalize hUd : ka_it (ka_pr tg tr cap n) N V = U at hN
  have hU : ka_vv U := by rw [← hUd]; exact (ka_it_vv hg hV).1
  have hlow : ∀ m, ka_vl U (ka_it (ka_pr tg tr cap n) m V) := fun m => by
    by_cases hm : m ≤ N
    · have h := (ka_it_vv hg (ka_it_vv hg hV (m := m)).1 (m := N - m)).2
      rw [← ka_it_plus, show m + (N - m) = N by omega, hUd] at h
      exact h
    · have h : ka_it (ka_pr tg tr cap n) m V = U := by
        rw [show m = N + (m - N) by omega, ka_it_plus, hUd, ka_it_st hN]
      rw [h]
      exact fun k => Nat.le_refl _
  have hout : ∀ m, ∀ k, ¬ (0 ≤ k ∧ k < (K : Int)) → ka_it (ka_pr tg tr cap n) m V k = V k := by
    intro m
    induction m with
    | zero => intro k _; rfl
    | succ m ihm =>
      intro k hk
      rw [← ihm k hk]
      have : ∀ i, i ≤ n → ka_pr tg tr cap i (ka_it (ka_pr tg tr cap n) m V) k = ka_it (ka_pr tg tr cap n) m V k := by
        intro i
        induction i with
        | zero => intro _; rfl
        | succ i ihi =>
          intro hi
          rw [← ihi (by omega)]
          show ka_sp tg tr cap i (ka_pr tg tr cap i (ka_it (ka_pr tg tr cap n) m V)) k = _
          unfold ka_sp
          refine if_neg (fun q => hk ?_)
          have := (hg i (by omega)).2.2 _ q.2.1
          rw [q.1]
          exact this
      exact this n (Nat.le_refl n)
  have hdec : ∀ m, ka_it (ka_pr tg tr cap n) m V ≠ U → ka_un K U (ka_it (ka_pr tg tr cap n) (m + 1) V) < ka_un K U (ka_it (ka_pr tg tr cap n) m V) := by
    intro m hm
    have hVm := (ka_it_vv hg hV (m := m)).1
    have hset := (ka_lowP hg hU hN hVm (hlow m) (Nat.le_refl n)).2
    have hex : ∃ k, ka_pr tg tr cap n (ka_it (ka_pr tg tr cap n) m V) k = U k ∧ ka_it (ka_pr tg tr cap n) m V k ≠ U k := by
      refine Classical.byContradiction (fun hno => hm ?_)
      have hd : ∀ k, ka_pr tg tr cap n (ka_it (ka_pr tg tr cap n) m V) k = U k → ka_it (ka_pr tg tr cap n) m V k = U k := fun k hk => Classical.byContradiction (fun q => hno ⟨k, hk, q⟩)
      have hall : ∀ d, ∀ k, ka_it (ka_pr tg tr cap n) (m + d) V k = U k ↔ ka_it (ka_pr tg tr cap n) m V k = U k := by
        intro d
        induction d with
        | zero => intro k; exact Iff.rfl
        | succ d ihd =>
          exact ka_dead hg hU hN hVm (hlow m) hd (ka_it_vv hg hV (m := m + d)).1 (hlow (m + d)) ihd (Nat.le_refl n)
      have hbig : ka_it (ka_pr tg tr cap n) (m + N) V = U := by
        rw [Nat.add_comm, ka_it_plus, hUd, ka_it_st hN]
      funext k
      exact (hall N k).mp (by rw [hbig])
    obtain ⟨k, hk1, hk2⟩ := hex
    have hkr : 0 ≤ k ∧ k < (K : Int) := by
      refine Classical.byContradiction (fun hk => hk2 ?_)
      have h1 := hout m k hk
      have h2 := hout N k hk
      rw [hUd] at h2
      rw [h1, h2]
    refine ka_ct_lt (j := k.toNat) (fun j hj => ?_) ?_ ?_ (by omega)
    · have hj' := of_decide_eq_true hj
      exact decide_eq_true (fun q => hj' (hset _ q))
    · refine decide_eq_false (fun q => q ?_)
      rw [show ((k.toNat : Nat) : Int) = k by omega]
      exact hk1
    · refine decide_eq_true ?_
      rw [show ((k.toNat : Nat) : Int) = k by omega]
      exact hk2
  have hm : ∀ m, m ≤ K → ka_it (ka_pr tg tr cap n) m V = U ∨ ka_un K U (ka_it (ka_pr tg tr cap n) m V) ≤ K - m := by
    intro m
    induction m with
    | zero => intro _; exact Or.inr jn_ct_le
    | succ m ihm =>
      intro hm
      by_cases he : ka_it (ka_pr tg tr cap n) m V = U
      · refine Or.inl ?_
        show ka_pr tg tr cap n (ka_it (ka_pr tg tr cap n) m V) = U
        rw [he, hN]
      · refine Or.inr ?_
        have h1 := hdec m he
        rcases ihm (by omega) with h2 | h2
        · exact absurd h2 he
        · omega
  have hfin : ka_it (ka_pr tg tr cap n) K V = U := by
    rcases hm K (Nat.le_refl K) with h | h
    · exact h
    · refine Classical.byContradiction (fun hne => ?_)
      have := hdec K hne
      omega
  rw [hfin, hN]
end KAB
