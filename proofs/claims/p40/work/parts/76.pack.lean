/-! PACKED: how ACTIONS are laid into PLACES, as one pure process: (used, OFFSETS, ACTIONS of PLACES, STATES of PLACES) -/
abbrev kb_P : Type := Int × (Int → Int) × (Int → Int) × (Int → Int)
section KBA
def kb_rm (ac : Int → Nat → Int) (s : Int) (pa : Int → Int) (o : Nat) : Prop := ∀ t : Nat, t < 8 → ac s t ≠ 0 → pa ((o : Int) + t) = 0
noncomputable def kb_lo (ac : Int → Nat → Int) (s : Int) (pa : Int → Int) : Nat → Nat → Nat
  | 0, o => o
  | n + 1, o => @ite Nat (kb_rm ac s pa o) (Classical.propDecidable _) o (kb_lo ac s pa n (o + 1))
def kb_put (ac : Int → Nat → Int) (s : Int) (o t : Nat) (P : kb_P) : kb_P := if ac s t = 0 then P else (if P.1 < (o : Int) + t + 1 then (o : Int) + t + 1 else P.1, P.2.1, jn_u1 P.2.2.1 ((o : Int) + t) (ac s t), jn_u1 P.2.2.2 ((o : Int) + t) s)
def kb_puts (ac : Int → Nat → Int) (s : Int) (o : Nat) : Nat → kb_P → kb_P
  | 0, P => P
  | t + 1, P => kb_put ac s o t (kb_puts ac s o t P)
noncomputable def kb_of (ac : Int → Nat → Int) (s : Int) (P : kb_P) : Nat := kb_lo ac s P.2.2.1 400 0
noncomputable def kb_lay (ac : Int → Nat → Int) (s : Int) (P : kb_P) : kb_P := kb_puts ac s (kb_of ac s P) 8 (P.1, jn_u1 P.2.1 s (kb_of ac s P : Nat), P.2.2.1, P.2.2.2)
noncomputable def kb_row (ac : Int → Nat → Int) (an : Nat → Nat) (many : Nat) : Nat → kb_P → kb_P
  | 0, P => P
  | s + 1, P => if an s = many then kb_lay ac (s : Int) (kb_row ac an many s P) else kb_row ac an many s P
noncomputable def kb_dn (ac : Int → Nat → Int) (an : Nat → Nat) (n : Nat) : Nat → kb_P → kb_P
  | 0, P => P
  | k + 1, P => kb_row ac an (8 - k) n (kb_dn ac an n k P)
def kb_P0 : kb_P := (0, fun _ => 0, fun _ => 0, fun _ => 0)
def kb_c (an : Nat → Nat) (k s : Nat) : Nat := jn_ct (fun j => decide (an j = 8 - k)) s
def kb_cs (an : Nat → Nat) (n k : Nat) : Nat := jn_sum (fun i => kb_c an i n) k
def kb_In (P : kb_P) (c : Nat) : Prop := (0 ≤ P.1 ∧ P.1 ≤ 8 * (c : Int)) ∧ (∀ i, P.1 ≤ i → P.2.2.1 i = 0) ∧ (∀ i, 0 ≤ P.2.2.1 i ∧ P.2.2.1 i ≤ 3000) ∧ (∀ i, 0 ≤ P.2.2.2 i ∧ P.2.2.2 i < 48) ∧ ∀ s, 0 ≤ P.2.1 s ∧ P.2.1 s ≤ 400
variable {ac : Int → Nat → Int} {an : Nat → Nat} {n m k c o t : Nat} {s : Int} {P : kb_P} {pa : Int → Int}
theorem kb_lo_sp : ∀ {n o r : Nat}, o ≤ r → r < o + n → kb_rm ac s pa r → (o ≤ kb_lo ac s pa n o ∧ kb_lo ac s pa n o ≤ r) ∧ kb_rm ac s pa (kb_lo ac s pa n o) ∧ ∀ j, o ≤ j → j < kb_lo ac s pa n o → ¬ kb_rm ac s pa j
  | 0, o, r, h1, h2, _ => by omega
  | n + 1, o, r, h1, h2, h3 => by
    by_cases h : kb_rm ac s pa o
    · have e : kb_lo ac s pa (n + 1) o = o := if_pos h
      rw [e]
      exact ⟨⟨Nat.le_refl _, h1⟩, h, fun j j1 j2 => by omega⟩
    · have e : kb_lo ac s pa (n + 1) o = kb_lo ac s pa n (o + 1) := if_neg h
      have hor : o ≠ r := fun q => h (q ▸ h3)
      have := kb_lo_sp (n := n) (o := o + 1) (r := r) (by omega) (by omega) h3
      rw [e]
      refine ⟨⟨by omega, this.1.2⟩, this.2.1, fun j j1 j2 => ?_⟩
      by_cases hj : j = o
      · subst hj; exact h
      · exact this.2.2 j (by omega) j2
theorem kb_of_sp (hI : kb_In P c) (hc : c ≤ 47) : ((kb_of ac s P : Nat) : Int) ≤ P.1 ∧ kb_rm ac s P.2.2.1 (kb_of ac s P) ∧ ∀ j, j < kb_of ac s P → ¬ kb_rm ac s P.2.2.1 j := by
  have h1 := hI.1
  have h := kb_lo_sp (ac := ac) (s := s) (pa := P.2.2.1) (n := 400) (o := 0) (r := P.1.toNat) (by omega) (by omega) (fun t ht _ => hI.2.1 _ (by omega))
  unfold kb_of
  exact ⟨by omega, h.2.1, fun j hj => h.2.2 j (by omega) hj⟩
theorem kb_puts_off : ∀ {t : Nat}, (kb_puts ac s o t P).2.1 = P.2.1
  | 0 => rfl
  | t + 1 => by
    show (kb_put ac s o t (kb_puts ac s o t P)).2.1 = _
    unfold kb_put
    split
    · exact kb_puts_off
    · exact kb_puts_off
theorem kb_puts_In (hac : ∀ s t, 0 ≤ ac s t ∧ ac s t ≤ 3000) (hs : 0 ≤ s ∧ s < 48) {b : Int} (ho : (o : Int) + 8 ≤ b) (hb : P.1 ≤ b) (h0 : 0 ≤ P.1) (h1 : ∀ i, P.1 ≤ i → P.2.2.1 i = 0) (h2 : ∀ i, 0 ≤ P.2.2.1 i ∧ P.2.2.1 i ≤ 3000) (h3 : ∀ i, 0 ≤ P.2.2.2 i ∧ P.2.2.2 i < 48) : ∀ {t : Nat}, t ≤ 8 → (0 ≤ (kb_puts ac s o t P).1 ∧ (kb_puts ac s o t P).1 ≤ b) ∧ (∀ i, (kb_puts ac s o t P).1 ≤ i → (kb_puts ac s o t P).2.2.1 i = 0) ∧ (∀ i, 0 ≤ (kb_puts ac s o t P).2.2.1 i ∧ (kb_puts ac s o t P).2.2.1 i ≤ 3000) ∧ ∀ i, 0 ≤ (kb_puts ac s o t P).2.2.2 i ∧ (kb_puts ac s o t P).2.2.2 i < 48
  | 0, _ => ⟨⟨h0, hb⟩, h1, h2, h3⟩
  | t + 1, ht => by
    obtain ⟨q0, q1, q2, q3⟩ := kb_puts_In hac hs ho hb h0 h1 h2 h3 (t := t) (by omega)
    show (0 ≤ (kb_put ac s o t (kb_puts ac s o t P)).1 ∧ (kb_put ac s o t (kb_puts ac s o t P)).1 ≤ b) ∧ (∀ i, (kb_put ac s o t (kb_puts ac s o t P)).1 ≤ i → (kb_put ac s o t (kb_puts ac s o t P)).2.2.1 i = 0) ∧ (∀ i, 0 ≤ (kb_put ac s o t (kb_puts ac s o t P)).2.2.1 i ∧ (kb_put ac s o t (kb_puts ac s o t P)).2.2.1 i ≤ 3000) ∧ ∀ i, 0 ≤ (kb_put ac s o t (kb_puts ac s o t P)).2.2.2 i ∧ (kb_put ac s o t (kb_puts ac s o t P)).2.2.2 i < 48
    generalize kb_puts ac s o t P = Z at *
    unfold kb_put
    split
    · exact ⟨q0, q1, q2, q3⟩
    · dsimp only
      refine ⟨by split <;> omega, fun i hi => ?_, fun i => ?_, fun i => ?_⟩
      · unfold jn_u1
        rw [if_neg (by split at hi <;> omega)]
        exact q1 i (by split at hi <;> omega)
      · unfold jn_u1
        split
        · exact hac s t
        · exact q2 i
      · unfold jn_u1
        split
        · exact hs
        · exact q3 i
theorem kb_lay_In (hac : ∀ s t, 0 ≤ ac s t ∧ ac s t ≤ 3000) (hs : 0 ≤ s ∧ s < 48) (hI : kb_In P c) (hc : c ≤ 47) : kb_In (kb_lay ac s P) (c + 1) := by
  have h := kb_of_sp (ac := ac) (s := s) hI hc
  obtain ⟨i1, i2, i3, i4, i5⟩ := hI
  have := kb_puts_In (P := (P.1, jn_u1 P.2.1 s (kb_of ac s P : Nat), P.2.2.1, P.2.2.2)) (o := kb_of ac s P) (b := 8 * ((c + 1 : Nat) : Int)) hac hs (by omega) (by show P.1 ≤ _; omega) i1.1 i2 i3 i4 (Nat.le_refl 8)
  refine ⟨this.1, this.2.1, this.2.2.1, this.2.2.2, fun j => ?_⟩
  unfold kb_lay
  rw [kb_puts_off]
  show 0 ≤ jn_u1 P.2.1 s _ j ∧ jn_u1 P.2.1 s _ j ≤ 400
  unfold jn_u1
  split
  · omega
  · exact i5 j
theorem kb_cs_le : ∀ {n k : Nat}, k ≤ 8 → kb_cs an n k ≤ n
  | 0, k, _ => by
    have : ∀ k, jn_sum (fun i => kb_c an i 0) k = 0 := fun k => by
      induction k with
      | zero => rfl
      | succ k ih => unfold jn_sum; rw [ih]; rfl
    unfold kb_cs
    rw [this]
    exact Nat.le_refl _
  | n + 1, k, hk => by
    have ih := kb_cs_le (n := n) hk
    have : ∀ k, k ≤ 8 → jn_sum (fun i => kb_c an i (n + 1)) k ≤ jn_sum (fun i => kb_c an i n) k + (if 8 - k < an n then 1 else 0) := fun k hk => by
      induction k with
      | zero => exact Nat.zero_le _
      | succ k ihk =>
        have h1 := ihk (by omega)
        unfold jn_sum
        have h2 : kb_c an k (n + 1) = kb_c an k n + (if an n = 8 - k then 1 else 0) := by
          unfold kb_c
          show jn_ct _ n + _ = _
          by_cases h : an n = 8 - k
          · rw [if_pos h, if_pos (decide_eq_true h)]
          · rw [if_neg h, if_neg (fun q => h (of_decide_eq_true q))]
        rw [h2]
        split at h1 <;> split <;> split <;> omega
    have h2 := this k hk
    unfold kb_cs at *
    split at h2 <;> omega
theorem kb_c_mono {a b : Nat} (h : a ≤ b) : kb_c an k a ≤ kb_c an k b := by
  unfold kb_c
  obtain ⟨d, rfl⟩ := Nat.le.dest h
  induction d with
  | zero => exact Nat.le_refl _
  | succ d ih =>
    refine Nat.le_trans (ih (by omega)) ?_
    show _ ≤ jn_ct _ (a + d) + _
    omega
theorem kb_c_step (h : an m = 8 - k) : kb_c an k (m + 1) = kb_c an k m + 1 := by
  unfold kb_c
  show jn_ct _ m + _ = _
  rw [if_pos (decide_eq_true h)]
theorem kb_c_stay (h : an m ≠ 8 - k) : kb_c an k (m + 1) = kb_c an k m := by
  unfold kb_c
  show jn_ct _ m + _ = _
  rw [if_neg (fun q => h (of_decide_eq_true q))]
  rfl
theorem kb_room (hn : n ≤ 48) (hk : k < 8) (hm : m < n) (h : an m = 8 - k) : kb_cs an n k + kb_c an k m ≤ 47 := by
  have h1 : kb_cs an n (k + 1) ≤ n := kb_cs_le (by omega)
  have h2 : kb_cs an n (k + 1) = kb_cs an n k + kb_c an k n := rfl
  have h3 := kb_c_mono (an := an) (k := k) (show m + 1 ≤ n by omega)
  rw [kb_c_step h] at h3
  omega
theorem kb_row_In (hac : ∀ s t, 0 ≤ ac s t ∧ ac s t ≤ 3000) (hn : n ≤ 48) (hk : k < 8) (hI : kb_In P (kb_cs an n k)) : ∀ {m : Nat}, m ≤ n → kb_In (kb_row ac an (8 - k) m P) (kb_cs an n k + kb_c an k m)
  | 0, _ => hI
  | m + 1, hm => by
    have ih := kb_row_In hac hn hk hI (m := m) (by omega)
    unfold kb_row
    by_cases h : an m = 8 - k
    · rw [if_pos h, kb_c_step h]
      exact kb_lay_In hac (by omega) ih (kb_room hn hk (by omega) h)
    · rw [if_neg h, kb_c_stay h]
      exact ih
theorem kb_dn_In (hac : ∀ s t, 0 ≤ ac s t ∧ ac s t ≤ 3000) (hn : n ≤ 48) : ∀ {k : Nat}, k ≤ 8 → kb_In (kb_dn ac an n k kb_P0) (kb_cs an n k)
  | 0, _ => ⟨⟨Int.le_refl _, by show (0 : Int) ≤ _; omega⟩, fun _ _ => rfl, fun _ => (by decide : (0 : Int) ≤ 0 ∧ (0 : Int) ≤ 3000), fun _ => (by decide : (0 : Int) ≤ 0 ∧ (0 : Int) < 48), fun _ => (by decide : (0 : Int) ≤ 0 ∧ (0 : Int) ≤ 400)⟩
  | k + 1, hk => kb_row_In hac hn (by omega) (kb_dn_In hac hn (k := k) (by omega)) (Nat.le_refl n)
end KBA
