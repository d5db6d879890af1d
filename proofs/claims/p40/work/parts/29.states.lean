/-! THE STATES: how they are numbered; the class -/
abbrev jn_Q : Type := Int × (Int → Nat) × (Int → Int → Int) × (Int → Int)
noncomputable def jn_nx (g : gM) (k : Nat) (s : Int) : Nat := (jn_clo g k &&& jn_A g s) * 2
def jn_fnd (K : Int → Nat) (k : Nat) : Nat → Int → Int
  | 0, _ => -1
  | m + 1, j => if K j = k then j else jn_fnd K k m (j + 1)
def jn_u1 {α : Type} (f : Int → α) (k : Int) (v : α) : Int → α := fun x => if x = k then v else f x
def jn_u2 (f : Int → Int → Int) (k l v : Int) : Int → Int → Int := fun x y => if x = k ∧ y = l then v else f x y
noncomputable def jn_st1 (g : gM) (S : jn_Q) (s x : Int) : Option jn_Q :=
  if jn_nx g (S.2.1 s) x = 0 then some S
  else if 0 ≤ jn_fnd S.2.1 (jn_nx g (S.2.1 s) x) S.1.toNat 0 then some (S.1, S.2.1, jn_u2 S.2.2.1 s x (jn_fnd S.2.1 (jn_nx g (S.2.1 s) x) S.1.toNat 0), S.2.2.2)
  else if S.1 = 48 then none
  else some (S.1 + 1, jn_u1 S.2.1 S.1 (jn_nx g (S.2.1 s) x), jn_u2 S.2.2.1 s x S.1, jn_u1 S.2.2.2 S.1 x)
noncomputable def jn_str (g : gM) : Nat → jn_Q → Int → Int → Option jn_Q
  | 0, S, _, _ => some S
  | m + 1, S, s, x => match jn_st1 g S s x with
    | none => none
    | some S' => jn_str g m S' s (x + 1)
noncomputable def jn_sta (g : gM) : Nat → jn_Q → Int → Option jn_Q
  | 0, S, _ => some S
  | m + 1, S, s => if s < S.1 then (match jn_str g 15 S s 0 with
    | none => none
    | some S' => jn_sta g m S' (s + 1)) else some S
noncomputable def jn_S0 (g : gM) : jn_Q := (1, fun _ => 2 ^ (5 * (g 0 2).toNat), fun _ _ => -1, fun _ => -2)
/-- all states, if there are not too many -/
noncomputable def jn_all (g : gM) : Option jn_Q := jn_sta g 48 (jn_S0 g) 0
def jn_IQ (g : gM) (S : jn_Q) : Prop := (1 ≤ S.1 ∧ S.1 ≤ 48) ∧ (∀ j, 0 ≤ j → j < S.1 → jn_vs g (S.2.1 j)) ∧ (∀ s x, -1 ≤ S.2.2.1 s x ∧ S.2.2.1 s x < S.1) ∧ (∀ j, -2 ≤ S.2.2.2 j ∧ S.2.2.2 j < 15)
section JST
variable {w : Nat} {σ : jg_M} {A G : Nat} {g : gM} {x r k b s : Int} {c c' e : Nat} {f : Int → Nat} {S S' : jn_Q} {K : jg_M → Prop} {KI : Int → jg_M → Prop}
theorem jn_fnd_rng {Kf : Int → Nat} : ∀ {m : Nat} {j : Int}, jn_fnd Kf c m j = -1 ∨ (j ≤ jn_fnd Kf c m j ∧ jn_fnd Kf c m j < j + m ∧ Kf (jn_fnd Kf c m j) = c)
  | 0, _ => Or.inl rfl
  | m + 1, j => by
    unfold jn_fnd
    by_cases h : Kf j = c
    · rw [if_pos h]; exact Or.inr ⟨by omega, by omega, h⟩
    · rw [if_neg h]
      rcases jn_fnd_rng (Kf := Kf) (m := m) (j := j + 1) with q | q
      · exact Or.inl q
      · exact Or.inr ⟨by omega, by omega, q.2.2⟩
theorem jn_nx_bit {i : Nat} (hW : jn_GW g) : (jn_nx g c s).testBit (i + 1) = true ↔ (jn_clo g c).testBit i = true ∧ jn_it g i ∧ jn_is g i = s := by
  unfold jn_nx
  rw [Nat.testBit_succ, Nat.mul_div_cancel _ (by decide), Nat.testBit_and, Bool.and_eq_true]
  unfold jn_A
  rw [jn_mk_bit]
  exact ⟨fun h => ⟨h.1, h.2.2⟩, fun h => ⟨h.1, by have := jn_it_lt hW h.2.1; omega, h.2⟩⟩
theorem jn_nx_bit0 : (jn_nx g c s).testBit 0 = false := by
  unfold jn_nx
  rw [Nat.testBit_zero, Nat.mul_mod_left]
  rfl
theorem jn_nx_vs (hW : jn_GW g) : jn_vs g (jn_nx g c s) := by
  have hlt : jn_clo g c &&& jn_A g s < 2 ^ 61 := by
    refine Nat.lt_pow_two_of_testBit _ (fun i hi => ?_)
    rw [Nat.testBit_and]
    cases h : (jn_A g s).testBit i with
    | false => rw [Bool.and_false]
    | true =>
      have := jn_it_lt hW (jn_mk_bit.mp h).2.1
      omega
  refine ⟨by unfold jn_nx; omega, fun i hi => ?_⟩
  match i, hi with
  | 0, hi => rw [jn_nx_bit0] at hi; cases hi
  | i + 1, hi =>
    have h := (jn_nx_bit hW).mp hi
    obtain ⟨h1, h2, h3⟩ := h.2.1
    have hl := jn_len_rng (r := jn_r i) hW
    have hd : i % 5 < 4 := by
      unfold jn_d at h3
      omega
    have e1 : jn_r (i + 1) = jn_r i := by unfold jn_r; omega
    have e2 : jn_d (i + 1) = jn_d i + 1 := by unfold jn_d; omega
    unfold jn_val
    rw [e1, e2]
    exact ⟨h1, h2, by omega⟩
theorem jn_A_no (hW : jn_GW g) (h : 7 ≤ s ∧ s < 10) : jn_A g s = 0 := by
  apply Nat.eq_of_testBit_eq
  intro i
  rw [Nat.zero_testBit]
  cases hb : (jn_A g s).testBit i with
  | false => rfl
  | true =>
    have hq := (jn_mk_bit.mp hb).2
    have hs := jn_sym_rng (r := jn_r i) (k := jn_d i) hW ⟨by unfold jn_d; omega, hq.1.2.2⟩
    have hw := hW.1
    have h2 := hq.2
    unfold jn_is at h2
    omega
theorem jn_st1_IQ (hW : jn_GW g) (hI : jn_IQ g S) (hx : 0 ≤ x ∧ x < 15) (h : jn_st1 g S s x = some S') : jn_IQ g S' ∧ S.1 ≤ S'.1 ∧ (∀ j, 0 ≤ j → j < S.1 → S'.2.1 j = S.2.1 j ∧ S'.2.2.2 j = S.2.2.2 j) ∧ (∀ s' x', s' ≠ s ∨ x' ≠ x → S'.2.2.1 s' x' = S.2.2.1 s' x') := by
  obtain ⟨h1, h2, h3, h4⟩ := hI
  unfold jn_st1 at h
  split at h
  · cases h
    exact ⟨⟨h1, h2, h3, h4⟩, by omega, fun _ _ _ => ⟨rfl, rfl⟩, fun _ _ _ => rfl⟩
  · split at h
    · rename_i hf
      cases h
      have hr := jn_fnd_rng (Kf := S.2.1) (c := jn_nx g (S.2.1 s) x) (m := S.1.toNat) (j := 0)
      refine ⟨⟨h1, h2, fun s' x' => ?_, h4⟩, by omega, fun _ _ _ => ⟨rfl, rfl⟩, fun s' x' hq => ?_⟩
      · show -1 ≤ jn_u2 S.2.2.1 s x _ s' x' ∧ jn_u2 S.2.2.1 s x _ s' x' < S.1
        unfold jn_u2
        split
        · omega
        · exact h3 s' x'
      · show jn_u2 S.2.2.1 s x _ s' x' = _
        unfold jn_u2
        rw [if_neg (fun q => hq.elim (fun q2 => q2 q.1) (fun q2 => q2 q.2))]
    · split at h
      · cases h
      · rename_i hf hn
        cases h
        refine ⟨⟨by show 1 ≤ S.1 + 1 ∧ S.1 + 1 ≤ 48; omega, fun j j1 j2 => ?_, fun s' x' => ?_, fun j => ?_⟩, by show S.1 ≤ S.1 + 1; omega, fun j j1 j2 => ⟨?_, ?_⟩, fun s' x' hq => ?_⟩
        · show jn_vs g (jn_u1 S.2.1 S.1 _ j)
          unfold jn_u1
          split
          · exact jn_nx_vs hW
          · exact h2 j j1 (by have : j < S.1 + 1 := j2; omega)
        · show -1 ≤ jn_u2 S.2.2.1 s x _ s' x' ∧ jn_u2 S.2.2.1 s x _ s' x' < S.1 + 1
          unfold jn_u2
          split
          · omega
          · have := h3 s' x'; omega
        · show -2 ≤ jn_u1 S.2.2.2 S.1 x j ∧ jn_u1 S.2.2.2 S.1 x j < 15
          unfold jn_u1
          split
          · omega
          · exact h4 j
        · show jn_u1 S.2.1 S.1 _ j = _
          unfold jn_u1
          rw [if_neg (by omega)]
        · show jn_u1 S.2.2.2 S.1 _ j = _
          unfold jn_u1
          rw [if_neg (by omega)]
        · show jn_u2 S.2.2.1 s x _ s' x' = _
          unfold jn_u2
          rw [if_neg (fun q => hq.elim (fun q2 => q2 q.1) (fun q2 => q2 q.2))]
theorem jn_S0_IQ (hW : jn_GW g) : jn_IQ g (jn_S0 g) := by
  have hw := hW.1
  refine ⟨by show (1 : Int) ≤ 1 ∧ (1 : Int) ≤ 48; omega, fun j j1 j2 => ⟨?_, fun i hi => ?_⟩, fun _ _ => by show -1 ≤ (-1 : Int) ∧ (-1 : Int) < 1; omega, fun _ => by show -2 ≤ (-2 : Int) ∧ (-2 : Int) < 15; omega⟩
  · exact jn_pow62 (by omega)
  · have hi : (2 ^ (5 * (g 0 2).toNat)).testBit i = true := hi
    rw [Nat.testBit_two_pow] at hi
    have hi := of_decide_eq_true hi
    have hl := jn_len_rng (r := jn_r i) hW
    subst hi
    refine ⟨by unfold jn_r; omega, by unfold jn_r; omega, by unfold jn_d; omega⟩
/-- the class' states -/
def jn_RC (τ : jg_M) (A : Nat) (g : gM) (S : jn_Q) : Prop := τ.1 A 0 = S.1 ∧ ∀ j, 0 ≤ j → j < S.1 → τ.2 (A + 1) j = (S.2.1 j : Nat) ∧ τ.2 (A + 2) j = (jn_clo g (S.2.1 j) : Nat) ∧ τ.1 (A + 3) j = S.2.2.2 j
def jn_m2 (v : Int) : Int := if v < 0 then -2 else v
theorem jn_m2_nn {v : Int} (h : 0 ≤ v) : jn_m2 v = v := if_neg (by omega)
theorem jn_u2_s {h : Int → Int → Int} {k l v : Int} : jn_u2 h k l v k l = v := if_pos ⟨rfl, rfl⟩
def jW_ma (A : Nat) (a : Nat) (i : Int) : Prop := (a = A ∧ i = 0) ∨ (A + 1 ≤ a ∧ a ≤ A + 4)
theorem jc_X7_numberOf (h0 : jg_sh A = (7, 0)) (hA : ∀ s, 0 ≤ s → s < 15 → σ.2 (A + 6) s = (jn_A g s : Nat)) (hO : ∀ x, 0 ≤ x → x < 5 → σ.2 (A + 7) x = (jn_O g x : Nat)) {n : Int} {Kf : Int → Nat} {en : Int → Int} (hn : 0 ≤ n ∧ n ≤ 48) (hK : ∀ j, 0 ≤ j → j < n → Kf j < 4611686018427387904)
    (hR : σ.1 A 0 = n ∧ ∀ j, 0 ≤ j → j < n → σ.2 (A + 1) j = (Kf j : Nat) ∧ σ.2 (A + 2) j = (jn_clo g (Kf j) : Nat) ∧ σ.1 (A + 3) j = en j) (hc : c < 4611686018427387904)
    (k1 : 0 ≤ jn_fnd Kf c n.toNat 0 → KI (jn_fnd Kf c n.toNat 0) σ) (k2 : jn_fnd Kf c n.toNat 0 = -1 → n = 48 → KI (-1) σ)
    (k3 : jn_fnd Kf c n.toNat 0 = -1 → n < 48 → ∀ τ, jF (fun a i => (a = A ∧ i = 0) ∨ (A + 1 ≤ a ∧ a ≤ A + 3)) σ τ → (τ.1 A 0 = n + 1 ∧ ∀ j, 0 ≤ j → j < n + 1 → τ.2 (A + 1) j = (jn_u1 Kf n c j : Nat) ∧ τ.2 (A + 2) j = (jn_clo g (jn_u1 Kf n c j) : Nat) ∧ τ.1 (A + 3) j = jn_u1 en n x j) → KI n τ) : jg_CI w 1 mm_X7_numberOf [.ref A, .long (.ofInt (c : Int)), .int (.ofInt x)] σ KI := by
  refine jb_X7_numberOf_0 h0 ?_
  have hloop : ∀ (m : Nat) (j : Int) (u : Value), 0 ≤ j → j + m = n → jn_fnd Kf c n.toNat 0 = jn_fnd Kf c m j → jg_GI w 1 mm_X7_numberOf 3 [.ref A, .long (.ofInt (c : Int)), u, .int (.ofInt x), .int (.ofInt j)] σ KI := by
    intro m
    induction m with
    | zero =>
      intro j u j1 j2 hf
      refine jb_X7_numberOf_3 h0 ?_
      have hf : jn_fnd Kf c n.toNat 0 = -1 := hf
      rw [hR.1, jr_wr (show jr n by omega), jr_wr (show jr j by omega)]
      refine jn_ite (fun _ => jn_ite (fun hlt => ⟨by omega, ?_⟩) (fun hge => k2 hf (by omega))) (fun hh => by omega)
      intro m1 hm1
      have hA1 : ∀ s, 0 ≤ s → s < 15 → m1.2 (A + 6) s = (jn_A g s : Nat) := fun s s1 s2 => by rw [hm1, js_Ln (Or.inl (by omega))]; exact hA s s1 s2
      have hO1 : ∀ x, 0 ≤ x → x < 5 → m1.2 (A + 7) x = (jn_O g x : Nat) := fun s s1 s2 => by rw [hm1, js_Ln (Or.inl (by omega))]; exact hO s s1 s2
      refine jc_X7_closed h0 hA1 hO1 hc ?_
      have e1 : m1.1 A 0 = n := by rw [hm1, js_L1]; exact hR.1
      rw [e1, jr_wr (show jr n by omega)]
      refine ⟨by omega, ?_⟩
      intro m2 hm2
      have e2 : m2.1 A 0 = n := by rw [hm2, js_L1]; exact e1
      rw [e2, jr_wr (show jr n by omega)]
      refine ⟨by omega, ?_⟩
      intro m3 hm3
      have e3 : m3.1 A 0 = n := by rw [hm3, js_In (Or.inl (by omega))]; exact e2
      rw [e3]
      rintro m4 hm4
      have e4 : m4.1 A 0 = n + 1 := by rw [hm4, js_Is]
      rw [e4, show n + 1 - 1 = n by omega]
      refine k3 hf hlt m4 ?_ ⟨e4, fun j q1 q2 => ?_⟩
      · rw [hm4, hm3, hm2, hm1]
        exact jF_toI (jF_toI (jF_toL (jF_L (Or.inr (by omega))) (Or.inr (by omega))) (Or.inr (by omega))) (Or.inl ⟨rfl, rfl⟩)
      · unfold jn_u1
        by_cases hj : j = n
        · rw [if_pos hj, if_pos hj, hj]
          refine ⟨?_, ?_, ?_⟩
          · rw [hm4, hm3, js_I2, js_I2, hm2, js_Ln (Or.inl (by omega)), hm1, js_Ls]
          · rw [hm4, hm3, js_I2, js_I2, hm2, js_Ls]
          · rw [hm4, js_In (Or.inl (by omega)), hm3, js_Is]
        · rw [if_neg hj, if_neg hj]
          obtain ⟨r1, r2, r3⟩ := hR.2 j q1 (by omega)
          refine ⟨?_, ?_, ?_⟩
          · rw [hm4, hm3, js_I2, js_I2, hm2, js_Ln (Or.inl (by omega)), hm1, js_Ln (Or.inr hj)]; exact r1
          · rw [hm4, hm3, js_I2, js_I2, hm2, js_Ln (Or.inr hj), hm1, js_Ln (Or.inl (by omega))]; exact r2
          · rw [hm4, js_In (Or.inl (by omega)), hm3, js_In (Or.inr hj), hm2, hm1, js_L1, js_L1]; exact r3
    | succ m ih =>
      intro j u j1 j2 hf
      refine jb_X7_numberOf_3 h0 ?_
      have hKj := hK j j1 (by omega)
      rw [hR.1, jr_wr (show jr n by omega), jr_wr (show jr j by omega), (hR.2 j j1 (by omega)).1, ]
      refine jn_ite (fun hh => by omega) (fun _ => ⟨by omega, jn_ite (fun hq => ?_) (fun hq => ?_)⟩)
      · rw [jb_lc, jg_wl_id (by omega), jg_wl_id (by omega)] at hq
        have : jn_fnd Kf c (m + 1) j = j := by unfold jn_fnd; rw [if_pos (by omega)]
        rw [hf, this] at k1
        exact k1 j1
      · rw [jb_lc, jg_wl_id (by omega), jg_wl_id (by omega)] at hq
        refine ih (j + 1) u (by omega) (by omega) ?_
        rw [hf]
        show (if Kf j = c then j else jn_fnd Kf c m (j + 1)) = _
        rw [if_neg (by omega)]
  exact hloop n.toNat 0 _ (by omega) (by omega) rfl
theorem jc_X7_make (h0 : jg_sh A = (7, 0)) (h1 : jg_sh G = (0, 0)) (hAG : A = G + 9) (hG : jn_GE σ G g e f) (hW : jn_GW g) (hP : jn_Pr σ A g e f)
    (k0 : g 0 1 = 0 → ∀ τ, jF (jW_ma A) σ τ → τ.1 A 0 = 0 → KI 1 τ) (k1 : 0 < g 0 1 → jn_all g = none → ∀ τ, jF (jW_ma A) σ τ → KI 0 τ)
    (k2 : 0 < g 0 1 → ∀ S, jn_all g = some S → jn_IQ g S → ∀ τ, jF (jW_ma A) σ τ → jn_RC τ A g S → (∀ s x, 0 ≤ s → s < S.1 → 0 ≤ x → x < 15 → τ.1 (A + 4) (s * 15 + x) = jn_m2 (S.2.2.1 s x)) → KI 1 τ) : jg_CI w 2 mm_X7_make [.ref A, .ref G] σ KI := by
  have hw := hW.1
  have hPt : ∀ τ, jF (jW_ma A) σ τ → (∀ s, 0 ≤ s → s < 15 → τ.2 (A + 6) s = (jn_A g s : Nat)) ∧ (∀ x, 0 ≤ x → x < 5 → τ.2 (A + 7) x = (jn_O g x : Nat)) := fun τ h => ⟨fun s s1 s2 => (h.2 _ _ (by unfold jW_ma; omega)).trans (hP.1 s s1 s2), fun s s1 s2 => (h.2 _ _ (by unfold jW_ma; omega)).trans (hP.2.1 s s1 s2)⟩
  refine jb_X7_make_0 h0 h1 ?_
  intro m1 hm1
  have hF1 : jF (jW_ma A) σ m1 := by rw [hm1]; exact jF_I (Or.inl ⟨rfl, rfl⟩)
  have hG1 := jn_GE_fr hG hF1 (by unfold jW_ma; omega) (by unfold jW_ma; omega)
  rw [hG1.1.1.2.2.2.1]
  refine jc_X0_hasKind h1 hG1.1 hW (by omega) (jn_if (fun hp => k0 (by omega) m1 hF1 (by rw [hm1, js_Is])) (fun hp => ?_))
  have hnk : 0 < g 0 1 := by omega
  rw [hG1.1.1.2.2.1, show g 0 2 * 5 = ((5 * (g 0 2).toNat : Nat) : Int) by omega, jn_bit2 (by omega)]
  -- one row of a state
  have hrow : ∀ (m : Nat) (s x : Int) (u1 u4 u5 u6 : Value) (S : jn_Q) (τ : jg_M), (jn_str g m S s x = none → jn_all g = none) → (∀ (u1 u4 u5 u6 : Value) (S' : jn_Q) (τ : jg_M), jn_str g m S s x = some S' → jF (jW_ma A) σ τ → jn_IQ g S' → jn_RC τ A g S' → (∀ s' x', 0 ≤ s' → s' < s + 1 → 0 ≤ x' → x' < 15 → τ.1 (A + 4) (s' * 15 + x') = jn_m2 (S'.2.2.1 s' x')) → S.1 ≤ S'.1 → (∀ s' x', s + 1 ≤ s' → S'.2.2.1 s' x' = -1) → jg_GI w 2 mm_X7_make 35 [.ref A, u1, .int (.ofInt (s + 1)), .int (.ofInt 15), u4, u5, u6] τ KI) →
      x + m = 15 → 0 ≤ x → 0 ≤ s → s < S.1 → jF (jW_ma A) σ τ → jn_IQ g S → jn_RC τ A g S → (∀ s' x', 0 ≤ s' → (s' < s ∨ (s' = s ∧ x' < x)) → 0 ≤ x' → x' < 15 → τ.1 (A + 4) (s' * 15 + x') = jn_m2 (S.2.2.1 s' x')) → (∀ s' x', (s < s' ∨ (s' = s ∧ x ≤ x')) → S.2.2.1 s' x' = -1) → jg_GI w 2 mm_X7_make 51 [.ref A, u1, .int (.ofInt s), .int (.ofInt x), u4, u5, u6] τ KI := by
    intro m
    induction m with
    | zero =>
      intro s x u1 u4 u5 u6 S τ hNone hP9 hx x0 s0 s1 hF hI hR hM hD
      have hI1 := hI.1
      refine jb_X7_make_51 h0 ?_
      rw [jr_wr (show jr x by omega)]
      refine jn_ite (fun _ => ?_) (fun hh => by omega)
      rw [show x = 15 by omega]
      exact hP9 _ _ _ _ S τ rfl hF hI hR (fun s' x' q1 q2 q3 q4 => hM s' x' q1 (by omega) q3 q4) (by omega) (fun s' x' q => hD s' x' (by omega))
    | succ m ih =>
      intro s x u1 u4 u5 u6 S τ hNone hP9 hx x0 s0 s1 hF hI hR hM hD
      have hI1 := hI.1
      obtain ⟨hAτ, hOτ⟩ := hPt τ hF
      have hcl := (jn_clo_vs hW (hI.2.1 s s0 s1)).1
      have hAl := jn_A_lt (g := g) (s := x)
      have hnxv := (jn_nx_vs (g := g) (c := S.2.1 s) (s := x) hW).1
      refine jb_X7_make_51 h0 ?_
      rw [jr_wr (show jr x by omega), jr_wr (show jr s by omega), jr_wr (show jr (s * 15 + x) by omega), (hR.2 s s0 s1).2.1, hAτ x x0 (by omega), jb_qand (by omega) (by omega)]
      have hshl := jb_qshl (m := jn_clo g (S.2.1 s) &&& jn_A g x) (k := 1) (by omega) (by unfold jn_nx at hnxv; omega)
      rw [show ((1 : Nat) : Int) = 1 from rfl, Nat.pow_one] at hshl
      rw [hshl]
      refine jn_ite (fun hh => by omega) (fun _ => ⟨by omega, by omega, ?_⟩)
      intro t ht
      have ht2 : t = (jn_nx g (S.2.1 s) x : Nat) := ht
      rw [ht2]
      -- what goes on with S'
      have go : ∀ (u4 u5 u6 : Value) (S' : jn_Q) (τ' : jg_M) (v : Int), jn_st1 g S s x = some S' → v = jn_m2 (S'.2.2.1 s x) → jF (jW_ma A) σ τ' → jn_RC τ' A g S' → (∀ i, τ'.1 (A + 4) i = τ.1 (A + 4) i) → jg_GI w 2 mm_X7_make 51 [.ref A, u1, .int (.ofInt s), .int (.ofInt (x + 1)), u4, u5, u6] (jg_sI τ' (A + 4) (s * 15 + x) v) KI := by
        intro u4 u5 u6 S' τ' v hst hv hF' hR' h4
        obtain ⟨hI', hle, hsame, hmv⟩ := jn_st1_IQ hW hI ⟨x0, by omega⟩ hst
        have hstr : jn_str g (m + 1) S s x = jn_str g m S' s (x + 1) := by
          show (match jn_st1 g S s x with | none => none | some S' => jn_str g m S' s (x + 1)) = _
          rw [hst]
        refine ih s (x + 1) u1 u4 u5 u6 S' _ (fun h => hNone (hstr.trans h)) (fun v1 v4 v5 v6 S2 τ2 h => ?_) (by omega) (by omega) s0 (by omega) (jF_toI hF' (Or.inr (by omega))) hI' ?_ (fun s' x' q1 q2 q3 q4 => ?_) (fun s' x' q => ?_)
        · have := hP9 v1 v4 v5 v6 S2 τ2 (hstr.trans h)
          intro a1 a2 a3 a4 a5 a6
          exact this a1 a2 a3 a4 (by omega) a6
        · refine ⟨(js_In (Or.inl (by omega))).trans hR'.1, fun j q1 q2 => ?_⟩
          obtain ⟨r1, r2, r3⟩ := hR'.2 j q1 q2
          exact ⟨r1, r2, (js_In (Or.inl (by omega))).trans r3⟩
        · by_cases hq : s' = s ∧ x' = x
          · rw [hq.1, hq.2, js_Is]; exact hv
          · rw [js_In (Or.inr (by omega)), h4, hmv s' x' (by omega)]
            exact hM s' x' q1 (by omega) q3 q4
        · rw [hmv s' x' (by omega)]
          exact hD s' x' (by omega)
      refine jn_ite (fun hz => ⟨by omega, ?_⟩) (fun hz => ?_)
      · rw [jb_lc, jg_wl_id (by omega), jg_wl_id (by omega)] at hz
        rintro _ rfl
        have hst : jn_st1 g S s x = some S := by unfold jn_st1; rw [if_pos (by omega)]
        refine go _ _ _ S τ (-2) hst ?_ hF hR (fun _ => rfl)
        rw [hD s x (by omega)]
        rfl
      · rw [jb_lc, jg_wl_id (by omega), jg_wl_id (by omega)] at hz
        have hnz : ¬ jn_nx g (S.2.1 s) x = 0 := by omega
        have hfr := jn_fnd_rng (Kf := S.2.1) (c := jn_nx g (S.2.1 s) x) (m := S.1.toNat) (j := 0)
        refine jc_X7_numberOf h0 hAτ hOτ (n := S.1) (Kf := S.2.1) (en := S.2.2.2) (by omega) (fun j q1 q2 => (hI.2.1 j q1 q2).1) hR (by omega) (fun hf => ?_) (fun hf hn => ?_) (fun hf hn τ' hF' hR' => ?_)
        · rw [jr_wr (show jr (jn_fnd S.2.1 (jn_nx g (S.2.1 s) x) S.1.toNat 0) by omega)]
          refine jn_ite (fun hh => by omega) (fun _ => ⟨by omega, ?_⟩)
          rintro _ rfl
          have hst : jn_st1 g S s x = some (S.1, S.2.1, jn_u2 S.2.2.1 s x (jn_fnd S.2.1 (jn_nx g (S.2.1 s) x) S.1.toNat 0), S.2.2.2) := by unfold jn_st1; rw [if_neg hnz, if_pos hf]
          refine go _ _ _ _ τ _ hst ?_ hF hR (fun _ => rfl)
          show _ = jn_m2 (jn_u2 S.2.2.1 s x _ s x)
          rw [jn_u2_s]
          exact (jn_m2_nn (by omega)).symm
        · rw [show jg_wr (-1) = -1 from rfl]
          refine jn_ite (fun _ => ?_) (fun hh => absurd rfl hh)
          have hst : jn_st1 g S s x = none := by unfold jn_st1; rw [if_neg hnz, if_neg (by omega), if_pos hn]
          refine k1 hnk (hNone ?_) τ hF
          show (match jn_st1 g S s x with | none => none | some S' => jn_str g m S' s (x + 1)) = none
          rw [hst]
        · rw [jr_wr (show jr S.1 by omega)]
          refine jn_ite (fun hh => by omega) (fun _ => ⟨by omega, ?_⟩)
          rintro _ rfl
          have hst : jn_st1 g S s x = some (S.1 + 1, jn_u1 S.2.1 S.1 (jn_nx g (S.2.1 s) x), jn_u2 S.2.2.1 s x S.1, jn_u1 S.2.2.2 S.1 x) := by unfold jn_st1; rw [if_neg hnz, if_neg (by omega), if_neg (by omega)]
          refine go _ _ _ _ τ' _ hst ?_ (jF_tr hF (jF_mono hF' (fun a i h => h.elim Or.inl (fun h => Or.inr (by omega))))) hR' (fun i => hF'.1 _ _ (by omega))
          show _ = jn_m2 (jn_u2 S.2.2.1 s x _ s x)
          rw [jn_u2_s]
          exact (jn_m2_nn (by omega)).symm
  have hst : ∀ (m : Nat) (s : Int) (u1 u3 u4 u5 u6 : Value) (S : jn_Q) (τ : jg_M), jn_sta g m S s = jn_all g → s + m = 48 → 0 ≤ s → jF (jW_ma A) σ τ → jn_IQ g S → jn_RC τ A g S → (∀ s' x', 0 ≤ s' → s' < s → 0 ≤ x' → x' < 15 → τ.1 (A + 4) (s' * 15 + x') = jn_m2 (S.2.2.1 s' x')) → (∀ s' x', s ≤ s' → S.2.2.1 s' x' = -1) → jg_GI w 2 mm_X7_make 35 [.ref A, u1, .int (.ofInt s), u3, u4, u5, u6] τ KI := by
    intro m
    induction m with
    | zero =>
      intro s u1 u3 u4 u5 u6 S τ hall hs s0 hF hI hR hM hD
      have hI1 := hI.1
      refine jb_X7_make_35 h0 ?_
      rw [hR.1, jr_wr (show jr S.1 by omega), jr_wr (show jr s by omega)]
      have : KI 1 τ := k2 hnk S hall.symm hI τ hF hR (fun s' x' q1 q2 q3 q4 => hM s' x' q1 (by omega) q3 q4)
      exact jn_ite (fun _ => this) (fun _ => jn_ite (fun _ => this) (fun hh => by omega))
    | succ m ih =>
      intro s u1 u3 u4 u5 u6 S τ hall hs s0 hF hI hR hM hD
      have hI1 := hI.1
      refine jb_X7_make_35 h0 ?_
      rw [hR.1, jr_wr (show jr S.1 by omega), jr_wr (show jr s by omega)]
      have e0 : jn_sta g (m + 1) S s = if s < S.1 then (match jn_str g 15 S s 0 with | none => none | some S' => jn_sta g m S' (s + 1)) else some S := rfl
      refine jn_ite (fun hge => ?_) (fun hlt => jn_ite (fun hh => by omega) (fun _ => ?_))
      · rw [e0, if_neg (by omega)] at hall
        exact k2 hnk S hall.symm hI τ hF hR (fun s' x' q1 q2 q3 q4 => hM s' x' q1 (by omega) q3 q4)
      · rw [e0, if_pos (by omega)] at hall
        refine hrow 15 s 0 u1 u4 u5 u6 S τ (fun h => by rw [h] at hall; exact hall.symm) (fun v1 v4 v5 v6 S' τ' h a1 a2 a3 a4 a5 a6 => ?_) (by omega) (by omega) s0 (by omega) hF hI hR (fun s' x' q1 q2 q3 q4 => hM s' x' q1 (by omega) q3 q4) (fun s' x' q => hD s' x' (by omega))
        rw [h] at hall
        exact ih (s + 1) _ _ _ _ _ S' τ' hall (by omega) (by omega) a1 a2 a3 a4 a6
  obtain ⟨hA1, hO1⟩ := hPt m1 hF1
  refine jc_X7_numberOf h0 hA1 hO1 (n := 0) (Kf := fun _ => 0) (en := fun _ => -2) (by omega) (fun j q1 q2 => by omega) ⟨by rw [hm1, js_Is], fun j q1 q2 => by omega⟩ (jn_pow62 (by omega)) (fun hf => ?_) (fun _ hh => by omega) (fun _ _ τ' hF' hR' => ?_)
  · have : jn_fnd (fun _ => 0) (2 ^ (5 * (g 0 2).toNat)) (0 : Int).toNat 0 = -1 := rfl
    omega
  · refine hst 48 0 _ _ _ _ _ (jn_S0 g) τ' rfl (by omega) (by omega) (jF_tr hF1 (jF_mono hF' (fun a i h => h.elim Or.inl (fun h => Or.inr (by omega))))) (jn_S0_IQ hW) ⟨hR'.1, fun j q1 q2 => ?_⟩ (fun s' x' q1 q2 => by omega) (fun _ _ _ => rfl)
    have q2 : j < 1 := q2
    have hj : j = 0 := by omega
    obtain ⟨r1, r2, r3⟩ := hR'.2 j q1 (by omega)
    unfold jn_u1 at r1 r2 r3
    rw [if_pos hj] at r1 r2 r3
    exact ⟨r1, r2, r3⟩
end JST
