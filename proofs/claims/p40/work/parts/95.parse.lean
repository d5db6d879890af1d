/-! TEXT: its LINES, as a pure function: a FAULT and its place, or what is told and where one is -/
abbrev kt_R : Type := (Int × Int) ⊕ (gM × Nat)
def kt_up (g : gM) (i : Nat) (j v : Int) : gM := fun a b => if a = i ∧ b = j then v else g a b
noncomputable def kt_fs (g : gM) (c : Int) : Nat → Int → Int
  | 0, _ => -1
  | f + 1, s => @ite Int (jn_isS g s ∧ g 6 s = c) (Classical.propDecidable _) s (kt_fs g c f (s + 1))
/-- the SYMBOL of that name -/
noncomputable def kt_fd (g : gM) (c : Int) : Int := kt_fs g c 15 0
def kt_nm (t : kt_T) : Prop := t.1 = 0 ∧ kt_key t.2.2.2 < 0
noncomputable def kt_end (B : Nat → Int) (n : Nat) (g : gM) (p : Nat) : kt_R := if (kt_tk B n p).1 = 2 then .inr (g, (kt_tk B n p).2.2.1) else .inl (1, ((kt_tk B n p).2.1 : Nat))
def kt_aT (g : gM) (v : Int) : gM := kt_up (kt_up g 6 (g 0 0) v) 0 0 (g 0 0 + 1)
def kt_aK (g : gM) (v : Int) : gM := kt_up (kt_up g 6 (10 + g 0 1) v) 0 1 (g 0 1 + 1)
def kt_aB (g : gM) (k : Int) : gM := kt_up (kt_up g 3 (g 0 2) k) 4 (g 0 2) 0
def kt_aS (g : gM) (s : Int) : gM := kt_up (kt_up g 5 (g 0 2 * 4 + g 4 (g 0 2)) s) 4 (g 0 2) (g 4 (g 0 2) + 1)
def kt_sm (g : gM) (i : Int) : Prop := g 3 i = g 3 (g 0 2) ∧ g 4 i = g 4 (g 0 2) ∧ ∀ d, 0 ≤ d → d < g 4 (g 0 2) → g 5 (i * 4 + d) = g 5 (g 0 2 * 4 + d)
def kt_dp (g : gM) : Prop := ∃ i, 0 ≤ i ∧ i < g 0 2 ∧ kt_sm g i
noncomputable def kt_nmL (B : Nat → Int) (n : Nat) (tok : Bool) (g : gM) (k p : Nat) : kt_R :=
  if (if tok = true then 7 ≤ g 0 0 else 5 ≤ g 0 1) then .inl (2, (k : Nat))
  else @ite kt_R (kt_nm (kt_tk B n p)) (Classical.propDecidable _)
    (if 0 ≤ kt_fd g (kt_tk B n p).2.2.2 then .inl (3, ((kt_tk B n p).2.1 : Nat)) else kt_end B n (if tok = true then kt_aT g (kt_tk B n p).2.2.2 else kt_aK g (kt_tk B n p).2.2.2) (kt_tk B n p).2.2.1)
    (.inl (1, ((kt_tk B n p).2.1 : Nat)))
noncomputable def kt_sy (B : Nat → Int) (n : Nat) : Nat → gM → Nat → kt_R
  | 0, _, p => .inl (2, ((kt_tk B n p).2.1 : Nat))
  | f + 1, g, p =>
    if (kt_tk B n p).1 = 2 then @ite kt_R (kt_dp g) (Classical.propDecidable _) (.inl (5, ((kt_tk B n p).2.1 : Nat))) (.inr (kt_up g 0 2 (g 0 2 + 1), (kt_tk B n p).2.2.1))
    else @ite kt_R (kt_nm (kt_tk B n p)) (Classical.propDecidable _)
      (if 4 ≤ g 4 (g 0 2) then .inl (2, ((kt_tk B n p).2.1 : Nat))
       else if kt_fd g (kt_tk B n p).2.2.2 < 0 then .inl (4, ((kt_tk B n p).2.1 : Nat))
       else kt_sy B n f (kt_aS g (kt_fd g (kt_tk B n p).2.2.2)) (kt_tk B n p).2.2.1)
      (.inl (1, ((kt_tk B n p).2.1 : Nat)))
noncomputable def kt_ruL (B : Nat → Int) (n : Nat) (g : gM) (k p : Nat) : kt_R :=
  if 12 ≤ g 0 2 then .inl (2, (k : Nat))
  else @ite kt_R (kt_nm (kt_tk B n p)) (Classical.propDecidable _)
    (if kt_fd g (kt_tk B n p).2.2.2 < 10 then .inl (4, ((kt_tk B n p).2.1 : Nat)) else kt_sy B n 5 (kt_aB g (kt_fd g (kt_tk B n p).2.2.2 - 10)) (kt_tk B n p).2.2.1)
    (.inl (1, ((kt_tk B n p).2.1 : Nat)))
/-- a number: goes on behind it -/
noncomputable def kt_no (B : Nat → Int) (n : Nat) (lo hi : Int) (p : Nat) (k : Int → Nat → kt_R) : kt_R :=
  if (kt_tk B n p).1 = 1 then (if lo ≤ (kt_tk B n p).2.2.2 ∧ (kt_tk B n p).2.2.2 ≤ hi then k (kt_tk B n p).2.2.2 (kt_tk B n p).2.2.1 else .inl (2, ((kt_tk B n p).2.1 : Nat)))
  else .inl (1, ((kt_tk B n p).2.1 : Nat))
noncomputable def kt_raL (B : Nat → Int) (n : Nat) (g : gM) (p : Nat) : kt_R :=
  @ite kt_R (kt_nm (kt_tk B n p)) (Classical.propDecidable _)
    (if 0 ≤ kt_fd g (kt_tk B n p).2.2.2 ∧ kt_fd g (kt_tk B n p).2.2.2 < g 0 0 then
      (if g 1 (kt_fd g (kt_tk B n p).2.2.2) = 0 then kt_no B n 1 9 (kt_tk B n p).2.2.1 (fun v q => kt_no B n 0 2 q (fun v2 q2 => kt_end B n (kt_up (kt_up g 1 (kt_fd g (kt_tk B n p).2.2.2) v) 2 (kt_fd g (kt_tk B n p).2.2.2) v2) q2))
       else .inl (3, ((kt_tk B n p).2.1 : Nat)))
     else .inl (4, ((kt_tk B n p).2.1 : Nat)))
    (.inl (1, ((kt_tk B n p).2.1 : Nat)))
noncomputable def kt_li (B : Nat → Int) (n : Nat) (g : gM) (p : Nat) : kt_R :=
  if (kt_tk B n p).1 = 0 then
    (if kt_key (kt_tk B n p).2.2.2 = 0 then kt_nmL B n true g (kt_tk B n p).2.1 (kt_tk B n p).2.2.1
     else if kt_key (kt_tk B n p).2.2.2 = 1 then kt_nmL B n false g (kt_tk B n p).2.1 (kt_tk B n p).2.2.1
     else if kt_key (kt_tk B n p).2.2.2 = 2 then kt_ruL B n g (kt_tk B n p).2.1 (kt_tk B n p).2.2.1
     else if kt_key (kt_tk B n p).2.2.2 = 3 then kt_raL B n g (kt_tk B n p).2.2.1
     else .inl (1, ((kt_tk B n p).2.1 : Nat)))
  else .inl (1, ((kt_tk B n p).2.1 : Nat))
noncomputable def kt_tx (B : Nat → Int) (n : Nat) : Nat → Int → gM → Nat → (Int × Int) ⊕ (gM × Int)
  | 0, _, _, _ => .inl (0, 0)
  | f + 1, l, g, p => if (kt_tk B n p).1 = 3 then .inr (g, l) else match kt_li B n g p with
    | .inl e => .inl e
    | .inr (g', p') => kt_tx B n f (l + 1) g' p'
def kt_g0 : gM := fun a b => if a = 0 ∧ b = 4 then -1 else 0
/-- what is told so far is in order -/
def kt_ok (g : gM) : Prop := (jn_GW g ∧ g 0 3 = 0 ∧ g 0 4 = -1) ∧ (∀ s, jn_isS g s → 0 ≤ g 6 s ∧ g 6 s < 1073741824) ∧ (∀ s s', jn_isS g s → jn_isS g s' → g 6 s = g 6 s' → s = s') ∧ ∀ t, g 0 0 ≤ t → t < 7 → g 1 t = 0 ∧ g 2 t = 0
section KTF
variable {B : Nat → Int} {n p q k f : Nat} {g g' : gM} {c s : Int} {t : kt_T}
theorem kt_up_at {i : Nat} {j v : Int} : kt_up g i j v i j = v := if_pos ⟨rfl, rfl⟩
theorem kt_up_ne {i a : Nat} {j b v : Int} (h : a ≠ i ∨ b ≠ j) : kt_up g i j v a b = g a b := if_neg (fun q => h.elim (fun h => h q.1) (fun h => h q.2))
theorem kt_tk_le (hp : p ≤ n) : p ≤ (kt_tk B n p).2.1 ∧ (kt_tk B n p).2.1 ≤ (kt_tk B n p).2.2.1 ∧ (kt_tk B n p).2.2.1 ≤ n ∧ ((kt_tk B n p).1 ≠ 3 → p < (kt_tk B n p).2.2.1) ∧ (0 ≤ (kt_tk B n p).1 ∧ (kt_tk B n p).1 ≤ 4) := by
  have h1 := kt_ru_le (n := n) (P := kt_bl) (B := B) (f := n - p) (p := p) rfl
  have h2 := h1.2.1 hp
  unfold kt_tk
  generalize kt_ru kt_bl B n p = s at *
  by_cases hn : n ≤ s
  · rw [if_pos hn]
    exact ⟨h1.1, Nat.le_refl _, h2, fun h => absurd rfl h, by dsimp only; decide⟩
  · rw [if_neg hn]
    by_cases hl : kt_le (B s) = true
    · rw [if_pos hl]
      have h3 := kt_ru_in (n := n) (P := kt_le) (B := B) (show s < n by omega) hl
      have h4 := (kt_ru_le (n := n) (P := kt_le) (B := B) (f := n - (s + 1)) (p := s + 1) rfl)
      have h5 := h4.2.1 (by omega)
      split <;> exact ⟨h1.1, by dsimp only; omega, by dsimp only; omega, fun _ => by dsimp only; omega, by dsimp only; decide⟩
    · rw [if_neg hl]
      by_cases hd : kt_di (B s) = true
      · rw [if_pos hd]
        have h3 := kt_ru_in (n := n) (P := kt_di) (B := B) (show s < n by omega) hd
        have h4 := (kt_ru_le (n := n) (P := kt_di) (B := B) (f := n - (s + 1)) (p := s + 1) rfl)
        have h5 := h4.2.1 (by omega)
        exact ⟨h1.1, by dsimp only; omega, by dsimp only; omega, fun _ => by dsimp only; omega, by dsimp only; decide⟩
      · rw [if_neg hd]
        split <;> exact ⟨h1.1, by dsimp only; omega, by dsimp only; omega, fun _ => by dsimp only; omega, by dsimp only; decide⟩
theorem kt_tk_v0 (hp : p ≤ n) (h : (kt_tk B n p).1 = 0) : 0 ≤ (kt_tk B n p).2.2.2 ∧ (kt_tk B n p).2.2.2 < 1073741824 := by
  unfold kt_tk at h ⊢
  generalize kt_ru kt_bl B n p = s at *
  by_cases hn : n ≤ s
  · rw [if_pos hn] at h; exact absurd (show (3 : Int) = 0 from h) (by decide)
  · rw [if_neg hn] at h ⊢
    by_cases hl : kt_le (B s) = true
    · rw [if_pos hl] at h ⊢
      split at h
      · rename_i h6
        rw [if_pos h6]
        have hr := kt_ru_le (n := n) (P := kt_le) (B := B) (f := n - s) (p := s) rfl
        have := kt_lk_lt (a := s) (q := kt_ru kt_le B n s) (B := B) (fun i i1 i2 => of_decide_eq_true (hr.2.2 i i1 i2).2) (k := 6)
        have h6v : (32 : Nat) ^ 6 = 1073741824 := by decide
        exact ⟨by dsimp only; omega, by dsimp only; omega⟩
      · exact absurd (show (4 : Int) = 0 from h) (by decide)
    · rw [if_neg hl] at h
      split at h
      · exact absurd (show (1 : Int) = 0 from h) (by decide)
      · split at h
        · exact absurd (show (2 : Int) = 0 from h) (by decide)
        · exact absurd (show (4 : Int) = 0 from h) (by decide)
theorem kt_tk_v1 (hp : p ≤ n) (h : (kt_tk B n p).1 = 1) : 0 ≤ (kt_tk B n p).2.2.2 ∧ (kt_tk B n p).2.2.2 ≤ 1000 := by
  unfold kt_tk at h ⊢
  generalize kt_ru kt_bl B n p = s at *
  by_cases hn : n ≤ s
  · rw [if_pos hn] at h; exact absurd (show (3 : Int) = 1 from h) (by decide)
  · rw [if_neg hn] at h ⊢
    by_cases hl : kt_le (B s) = true
    · rw [if_pos hl] at h
      split at h
      · exact absurd (show (0 : Int) = 1 from h) (by decide)
      · exact absurd (show (4 : Int) = 1 from h) (by decide)
    · rw [if_neg hl] at h ⊢
      by_cases hd : kt_di (B s) = true
      · rw [if_pos hd]
        have hr := kt_ru_le (n := n) (P := kt_di) (B := B) (f := n - s) (p := s) rfl
        exact kt_nu_rng (q := kt_ru kt_di B n s) (B := B) (fun i i1 i2 => of_decide_eq_true (hr.2.2 i i1 i2).2) (by omega)
      · rw [if_neg hd] at h
        split at h
        · exact absurd (show (2 : Int) = 1 from h) (by decide)
        · exact absurd (show (4 : Int) = 1 from h) (by decide)
theorem kt_fs_sp : ∀ {f : Nat} {s : Int}, (kt_fs g c f s = -1 ∧ ∀ s', s ≤ s' → s' < s + f → ¬ (jn_isS g s' ∧ g 6 s' = c)) ∨ (s ≤ kt_fs g c f s ∧ kt_fs g c f s < s + f ∧ jn_isS g (kt_fs g c f s) ∧ g 6 (kt_fs g c f s) = c ∧ ∀ s', s ≤ s' → s' < kt_fs g c f s → ¬ (jn_isS g s' ∧ g 6 s' = c))
  | 0, s => Or.inl ⟨rfl, fun s' h1 h2 => by omega⟩
  | f + 1, s => by
    by_cases h : jn_isS g s ∧ g 6 s = c
    · have e : kt_fs g c (f + 1) s = s := if_pos h
      rw [e]
      exact Or.inr ⟨by omega, by omega, h.1, h.2, fun s' h1 h2 => by omega⟩
    · have e : kt_fs g c (f + 1) s = kt_fs g c f (s + 1) := if_neg h
      rw [e]
      rcases kt_fs_sp (f := f) (s := s + 1) with ⟨q1, q2⟩ | ⟨q1, q2, q3, q4, q5⟩
      · refine Or.inl ⟨q1, fun s' h1 h2 => ?_⟩
        by_cases hs : s' = s
        · subst hs; exact h
        · exact q2 s' (by omega) (by omega)
      · refine Or.inr ⟨by omega, by omega, q3, q4, fun s' h1 h2 => ?_⟩
        by_cases hs : s' = s
        · subst hs; exact h
        · exact q5 s' (by omega) h2
theorem kt_fd_sp (hg : jn_GW g) : (kt_fd g c = -1 ∧ ∀ s, jn_isS g s → g 6 s ≠ c) ∨ (jn_isS g (kt_fd g c) ∧ g 6 (kt_fd g c) = c) := by
  have hw := hg.1
  rcases kt_fs_sp (g := g) (c := c) (f := 15) (s := 0) with ⟨q1, q2⟩ | ⟨q1, q2, q3, q4, q5⟩
  · refine Or.inl ⟨q1, fun s hs he => q2 s ?_ ?_ ⟨hs, he⟩⟩ <;> (unfold jn_isS at hs; omega)
  · exact Or.inr ⟨q3, q4⟩
theorem kt_fd_rng (hg : jn_GW g) : -1 ≤ kt_fd g c ∧ kt_fd g c < 15 ∧ (0 ≤ kt_fd g c → jn_isS g (kt_fd g c)) := by
  have hw := hg.1
  rcases kt_fd_sp (c := c) hg with ⟨q, _⟩ | ⟨q1, q2⟩
  · rw [q]; exact ⟨by decide, by decide, fun h => absurd h (by decide)⟩
  · have := q1
    unfold jn_isS at this
    exact ⟨by omega, by omega, fun _ => q1⟩
end KTF
