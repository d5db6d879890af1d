/-! SHORTEST: rows in memory and their numbers; of KINDS as a process -/
section KAW
def ka_cd (R : Int → Int) (b : Int) : Nat → Nat
  | 0 => 0
  | n + 1 => ka_cd R b n * 8 + ((R (b + n)).toNat + 1)
def ka_tk (R : Int → Int) (b : Int) (n : Nat) : Prop := ∀ i : Nat, i < n → 0 ≤ R (b + i) ∧ R (b + i) < 7
/-- a row at b of R, its length L, and its number -/
def ka_wd (zN : Int) (R : Int → Int) (b L : Int) (v : Nat × Nat) : Prop := (L < 0 ∧ (-2 ≤ L ∧ L = zN) ∧ v = ka_no) ∨ (L = (v.1 : Nat) ∧ v.1 ≤ 60 ∧ ka_cd R b v.1 = v.2 ∧ ka_tk R b v.1)
variable {zN : Int} {R R' : Int → Int} {b b' L : Int} {n m k : Nat} {v : Nat × Nat}
theorem ka_cd_eq (h : ∀ i : Nat, i < n → R (b + i) = R' (b' + i)) : ka_cd R b n = ka_cd R' b' n := by
  induction n with
  | zero => rfl
  | succ n ih =>
    unfold ka_cd
    rw [ih (fun i hi => h i (by omega)), h n (by omega)]
theorem ka_cd_vp (h : ka_tk R b n) : ka_vp (n, ka_cd R b n) := by
  induction n with
  | zero => exact Or.inl ⟨rfl, rfl⟩
  | succ n ih =>
    have h1 := ih (fun i hi => h i (by omega))
    have h2 := h n (by omega)
    refine Or.inr ⟨by show 0 < n + 1; omega, ?_, ?_⟩
    · show 8 ^ n ≤ ka_cd R b n * 8 + ((R (b + n)).toNat + 1)
      rcases h1 with ⟨a, c⟩ | ⟨a, c, _⟩
      · have a' : n = 0 := a
        subst a'
        show 1 ≤ _
        omega
      · have a' : 0 < n := a
        have c' : 8 ^ (n - 1) ≤ ka_cd R b n := c
        have : 8 ^ n = 8 ^ (n - 1) * 8 := by rw [← Nat.pow_succ, show (n - 1).succ = n by omega]
        omega
    · show ka_cd R b n * 8 + ((R (b + n)).toNat + 1) < 8 ^ (n + 1)
      have c' : ka_cd R b n < 8 ^ n := ka_vp_lt h1
      rw [Nat.pow_succ]
      omega
theorem ka_cd_lt (h : ka_tk R b n) (h' : ka_tk R' b' n) (hk : k < n) (he : ∀ i : Nat, i < k → R (b + i) = R' (b' + i)) (hl : R (b + k) < R' (b' + k)) : ka_cd R b n < ka_cd R' b' n := by
  induction n with
  | zero => omega
  | succ n ih =>
    have q := h n (by omega)
    have q' := h' n (by omega)
    unfold ka_cd
    by_cases hkn : k = n
    · subst hkn
      rw [ka_cd_eq he]
      omega
    · have := ih (fun i hi => h i (by omega)) (fun i hi => h' i (by omega)) (by omega)
      omega
theorem ka_cd_inj (h : ka_tk R b n) (h' : ka_tk R' b' n) (he : ka_cd R b n = ka_cd R' b' n) : ∀ i : Nat, i < n → R (b + i) = R' (b' + i) := by
  induction n with
  | zero => intro i hi; omega
  | succ n ih =>
    have q := h n (by omega)
    have q' := h' n (by omega)
    unfold ka_cd at he
    intro i hi
    by_cases hin : i = n
    · subst hin; omega
    · exact ih (fun i hi => h i (by omega)) (fun i hi => h' i (by omega)) (by omega) i (by omega)
theorem ka_cd_app {u : Nat} {T : Int → Int} {p : Nat} (hu : ka_cd T 0 p = u) (he : ∀ i : Nat, i < n → T ((p : Int) + i) = R (b + i)) : ka_cd T 0 (p + n) = u * 8 ^ n + ka_cd R b n := by
  induction n with
  | zero => rw [Nat.add_zero, hu]; show u = u * 1 + 0; omega
  | succ n ih =>
    show ka_cd T 0 (p + n) * 8 + ((T (0 + ((p + n : Nat) : Int))).toNat + 1) = u * 8 ^ (n + 1) + (ka_cd R b n * 8 + ((R (b + n)).toNat + 1))
    have h1 := ih (fun i hi => he i (by omega))
    have h2 := he n (by omega)
    rw [show (0 : Int) + ((p + n : Nat) : Int) = (p : Int) + n by omega, h2, h1, Nat.pow_succ, Nat.add_mul, ← Nat.mul_assoc, Nat.add_assoc]
theorem ka_wd_vp (h : ka_wd zN R b L v) : ka_vp v := by
  rcases h with ⟨_, _, h⟩ | ⟨_, _, h1, h2⟩
  · rw [h]; exact ka_no_vp
  · have := ka_cd_vp h2
    rw [h1] at this
    exact this
theorem ka_wd_neg (h : ka_wd zN R b L v) (hL : L < 0) : v = ka_no := by
  rcases h with ⟨_, _, h⟩ | ⟨h, _⟩
  · exact h
  · omega
theorem ka_wd_pos (h : ka_wd zN R b L v) (hL : 0 ≤ L) : L = (v.1 : Nat) ∧ v.1 ≤ 60 ∧ ka_cd R b v.1 = v.2 ∧ ka_tk R b v.1 := by
  rcases h with ⟨h, _⟩ | h
  · omega
  · exact h
theorem ka_no1 : ka_no.1 = 100 := rfl
theorem ka_wd_rng (h : ka_wd zN R b L v) : -2 ≤ L ∧ L ≤ 60 := by
  rcases h with ⟨h1, h2, _⟩ | ⟨h1, h2, _⟩ <;> omega
theorem ka_wd_cg (h : ka_wd zN R b L v) (he : ∀ i : Nat, i < v.1 → v.1 ≤ 60 → R' (b' + i) = R (b + i)) : ka_wd zN R' b' L v := by
  rcases h with h | ⟨h1, h2, h3, h4⟩
  · exact Or.inl h
  · refine Or.inr ⟨h1, h2, ?_, fun i hi => ?_⟩
    · rw [← h3]; exact ka_cd_eq (fun i hi => he i hi h2)
    · rw [he i hi h2]; exact h4 i hi
def ka_sv (V : ka_Ve) (x : Int) : Nat × Nat := if x < 10 then (1, x.toNat + 1) else V (x - 10)
def ka_cr (g : gM) (V : ka_Ve) (r : Int) : Nat → Nat × Nat
  | 0 => (0, 0)
  | d + 1 => ka_cat (ka_cr g V r d) (ka_sv V (jn_sym g r d))
def ka_tgK (g : gM) (i : Nat) : Int := g 3 i
def ka_trK (g : gM) (i : Nat) (V : ka_Ve) : Nat × Nat := ka_cr g V i (jn_len g i).toNat
theorem ka_sv_vp {V : ka_Ve} {x : Int} (hV : ka_vv V) (hx : (0 ≤ x ∧ x < 7) ∨ 10 ≤ x) : ka_vp (ka_sv V x) := by
  unfold ka_sv
  split
  · refine Or.inr ⟨by show 0 < 1; decide, ?_, ?_⟩
    · show 8 ^ 0 ≤ x.toNat + 1
      rw [Nat.pow_zero]; omega
    · show x.toNat + 1 < 8 ^ 1
      rw [Nat.pow_one]; omega
  · exact hV _
theorem ka_sv_le {U V : ka_Ve} {x : Int} (h : ka_vl U V) : (ka_sv U x).2 ≤ (ka_sv V x).2 := by
  unfold ka_sv
  split
  · exact Nat.le_refl _
  · exact h _
theorem ka_sv_lo {U V W : ka_Ve} {x : Int} (h : ka_sv U x = ka_sv V x) (hw : ∀ k, V k = U k → W k = U k) : ka_sv W x = ka_sv U x := by
  unfold ka_sv at *
  split
  · rfl
  · rename_i hx
    rw [if_neg hx, if_neg hx] at h
    exact hw _ h.symm
variable {g : gM}
theorem ka_sym_ok {r : Int} {d : Nat} (hW : jn_GW g) (hr : 0 ≤ r ∧ r < g 0 2) (hd : (d : Int) < jn_len g r) : ((0 ≤ jn_sym g r d ∧ jn_sym g r d < 7) ∧ jn_sym g r d < g 0 0) ∨ (10 ≤ jn_sym g r d ∧ jn_sym g r d < 15 ∧ jn_sym g r d < 10 + g 0 1) := by
  have h := jn_sym_rng (r := r) (k := (d : Int)) hW ⟨by omega, hd⟩
  have hw := hW.1
  rcases h with h | h | h
  · exact Or.inl ⟨by omega, h.2⟩
  · exact Or.inr ⟨h.1, by omega, h.2⟩
  · omega
theorem ka_cr_vp {V : ka_Ve} {r : Int} (hW : jn_GW g) (hr : 0 ≤ r ∧ r < g 0 2) (hV : ka_vv V) : ∀ {d : Nat}, (d : Int) ≤ jn_len g r → ka_vp (ka_cr g V r d)
  | 0, _ => Or.inl ⟨rfl, rfl⟩
  | d + 1, h => by
    have h1 := ka_cr_vp hW hr hV (d := d) (by omega)
    have h2 := ka_sym_ok hW hr (d := d) (by omega)
    exact ka_vp_cat h1 (ka_sv_vp hV (by omega))
theorem ka_cr_le {U V : ka_Ve} {r : Int} (hW : jn_GW g) (hr : 0 ≤ r ∧ r < g 0 2) (hU : ka_vv U) (hV : ka_vv V) (h : ka_vl U V) : ∀ {d : Nat}, (d : Int) ≤ jn_len g r → (ka_cr g U r d).2 ≤ (ka_cr g V r d).2 ∧ ((ka_cr g U r d).2 = (ka_cr g V r d).2 → ∀ W : ka_Ve, (∀ k, V k = U k → W k = U k) → ka_cr g W r d = ka_cr g U r d)
  | 0, _ => ⟨Nat.le_refl _, fun _ _ _ => rfl⟩
  | d + 1, hd => by
    have h1 := ka_cr_le hW hr hU hV h (d := d) (by omega)
    have h2 := ka_sym_ok hW hr (d := d) (by omega)
    have h3 := ka_cat_le (ka_cr_vp hW hr hU (d := d) (by omega)) (ka_sv_vp hU (x := jn_sym g r d) (by omega)) (ka_cr_vp hW hr hV (d := d) (by omega)) (ka_sv_vp hV (x := jn_sym g r d) (by omega)) h1.1 (ka_sv_le h)
    refine ⟨h3.1, fun he W hw => ?_⟩
    have h4 := h3.2 he
    show ka_cat (ka_cr g W r d) (ka_sv W (jn_sym g r d)) = ka_cat (ka_cr g U r d) (ka_sv U (jn_sym g r d))
    rw [h1.2 (by rw [h4.1]) W hw, ka_sv_lo h4.2 hw]
theorem ka_gdK (hW : jn_GW g) : ka_gd (g 0 2).toNat 5 (ka_tgK g) (ka_trK g) 40 := fun i hi => by
  have hw := hW.1
  have hr : 0 ≤ (i : Int) ∧ (i : Int) < g 0 2 := by omega
  have hl := jn_len_rng (r := (i : Int)) hW
  refine ⟨fun V hV => ka_cr_vp hW hr hV (by omega), fun U V hU hV h => ?_, fun V _ => ?_⟩
  · have := ka_cr_le hW hr hU hV h (d := (jn_len g i).toNat) (by omega)
    exact ⟨this.1, fun he _ => this.2 he⟩
  · have := (hW.2.1 i hr.1 hr.2).1
    show 0 ≤ g 3 i ∧ g 3 i < ((5 : Nat) : Int)
    omega
theorem ka_cr_len {V : ka_Ve} {r : Int} : ∀ {e d : Nat}, (ka_cr g V r d).1 ≤ (ka_cr g V r (d + e)).1
  | 0, d => Nat.le_refl _
  | e + 1, d => Nat.le_trans (ka_cr_len (e := e)) (by
    show _ ≤ (ka_cr g V r (d + e)).1 + (ka_sv V (jn_sym g r ((d + e : Nat) : Int))).1
    omega)
def ka_V0 : ka_Ve := fun _ => ka_no
theorem ka_V0_vv : ka_vv ka_V0 := fun _ => ka_no_vp
/-- the numbers of SHORTEST of all KINDS -/
noncomputable def ka_VK (g : gM) : ka_Ve := ka_it (ka_pr (ka_tgK g) (ka_trK g) 40 (g 0 2).toNat) 5 ka_V0
end KAW
