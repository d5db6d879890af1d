/-! what holds of all states; BEHIND: the least closed one; the class -/
/-- the states as far as they are made -/
def jn_FPt (g : gM) (S : jn_Q) (s0 x0 : Int) : Prop := (∀ s x, 0 ≤ s → s < S.1 → 0 ≤ x → x < 15 → (s < s0 ∨ (s = s0 ∧ x < x0)) → (jn_nx g (S.2.1 s) x = 0 ∧ S.2.2.1 s x = -1) ∨ (jn_nx g (S.2.1 s) x ≠ 0 ∧ 0 ≤ S.2.2.1 s x ∧ S.2.2.1 s x < S.1 ∧ S.2.1 (S.2.2.1 s x) = jn_nx g (S.2.1 s) x)) ∧
  (∀ j, 1 ≤ j → j < S.1 → (0 ≤ S.2.2.2 j ∧ S.2.2.2 j < 7) ∨ (10 ≤ S.2.2.2 j ∧ S.2.2.2 j < 15)) ∧ S.2.1 0 = 2 ^ (5 * (g 0 2).toNat) ∧ (∀ s x, (s0 < s ∨ (s = s0 ∧ x0 ≤ x)) → S.2.2.1 s x = -1)
/-- the states, all made -/
def jn_FP (g : gM) (S : jn_Q) : Prop := jn_IQ g S ∧ (∀ s x, 0 ≤ s → s < S.1 → 0 ≤ x → x < 15 → (jn_nx g (S.2.1 s) x = 0 ∧ S.2.2.1 s x = -1) ∨ (jn_nx g (S.2.1 s) x ≠ 0 ∧ 0 ≤ S.2.2.1 s x ∧ S.2.2.1 s x < S.1 ∧ S.2.1 (S.2.2.1 s x) = jn_nx g (S.2.1 s) x)) ∧
  (∀ j, 1 ≤ j → j < S.1 → (0 ≤ S.2.2.2 j ∧ S.2.2.2 j < 7) ∨ (10 ≤ S.2.2.2 j ∧ S.2.2.2 j < 15)) ∧ S.2.1 0 = 2 ^ (5 * (g 0 2).toNat)
section JFP1
variable {g : gM} {S S' : jn_Q} {s x : Int}
theorem jn_FP_st1 (hW : jn_GW g) (hI : jn_IQ g S) (hF : jn_FPt g S s x) (hs : 0 ≤ s ∧ s < S.1) (hx : 0 ≤ x ∧ x < 15) (h : jn_st1 g S s x = some S') : jn_IQ g S' ∧ jn_FPt g S' s (x + 1) ∧ S.1 ≤ S'.1 := by
  obtain ⟨hI', hle, hsame, hmv⟩ := jn_st1_IQ hW hI hx h
  have hI1 := hI.1
  obtain ⟨f1, f2, f3, f4⟩ := hF
  refine ⟨hI', ⟨fun s' x' q1 q2 q3 q4 q5 => ?_, fun j j1 j2 => ?_, ?_, fun s' x' q => ?_⟩, hle⟩
  · by_cases hq : s' = s ∧ x' = x
    · obtain ⟨rfl, rfl⟩ := hq
      have hK := (hsame s' hs.1 hs.2).1
      rw [hK]
      have hfr := jn_fnd_rng (Kf := S.2.1) (c := jn_nx g (S.2.1 s') x') (m := S.1.toNat) (j := 0)
      unfold jn_st1 at h
      split at h
      · rename_i hz
        cases h
        exact Or.inl ⟨hz, f4 s' x' (by omega)⟩
      · rename_i hz
        split at h
        · rename_i hf
          cases h
          refine Or.inr ⟨hz, ?_⟩
          show 0 ≤ jn_u2 S.2.2.1 s' x' _ s' x' ∧ jn_u2 S.2.2.1 s' x' _ s' x' < S.1 ∧ S.2.1 (jn_u2 S.2.2.1 s' x' _ s' x') = _
          rw [jn_u2_s]
          rcases hfr with hfr | hfr
          · omega
          · exact ⟨hf, by omega, hfr.2.2⟩
        · split at h
          · cases h
          · cases h
            refine Or.inr ⟨hz, ?_⟩
            show 0 ≤ jn_u2 S.2.2.1 s' x' _ s' x' ∧ jn_u2 S.2.2.1 s' x' _ s' x' < S.1 + 1 ∧ jn_u1 S.2.1 S.1 _ (jn_u2 S.2.2.1 s' x' _ s' x') = _
            rw [jn_u2_s]
            refine ⟨by omega, by omega, ?_⟩
            unfold jn_u1
            rw [if_pos rfl]
    · -- an older place: its state was there already
      have hs' : s' < S.1 := by omega
      rw [hmv s' x' (by omega), (hsame s' q1 hs').1]
      rcases f1 s' x' q1 hs' q3 q4 (by omega) with r | ⟨r1, r2, r3, r4⟩
      · exact Or.inl r
      · exact Or.inr ⟨r1, r2, by omega, by rw [(hsame _ r2 r3).1]; exact r4⟩
  · by_cases hj : j < S.1
    · rw [(hsame j (by omega) hj).2]; exact f2 j j1 hj
    · unfold jn_st1 at h
      split at h
      · cases h; exact absurd j2 hj
      · rename_i hz
        split at h
        · cases h; exact absurd j2 hj
        · split at h
          · cases h
          · cases h
            have j2 : j < S.1 + 1 := j2
            show (0 ≤ jn_u1 S.2.2.2 S.1 x j ∧ jn_u1 S.2.2.2 S.1 x j < 7) ∨ (10 ≤ jn_u1 S.2.2.2 S.1 x j ∧ jn_u1 S.2.2.2 S.1 x j < 15)
            unfold jn_u1
            rw [if_pos (by omega)]
            by_cases h7 : 7 ≤ x ∧ x < 10
            · exfalso
              apply hz
              unfold jn_nx
              rw [jn_A_no hW h7, Nat.and_zero, Nat.zero_mul]
            · omega
  · rw [(hsame 0 (by omega) (by omega)).1]; exact f3
  · rw [hmv s' x' (by omega)]
    exact f4 s' x' (by omega)
theorem jn_FP_str (hW : jn_GW g) : ∀ {m : Nat} {S S' : jn_Q} {x : Int}, jn_IQ g S → jn_FPt g S s x → 0 ≤ s → s < S.1 → 0 ≤ x → x + m = 15 → jn_str g m S s x = some S' → jn_IQ g S' ∧ jn_FPt g S' s 15 ∧ S.1 ≤ S'.1
  | 0, S, S', x, hI, hF, _, _, _, hx, h => by
    cases h
    rw [show (15 : Int) = x by omega]
    exact ⟨hI, hF, by omega⟩
  | m + 1, S, S', x, hI, hF, h1, h2, h3, hx, h => by
    have h : (match jn_st1 g S s x with | none => none | some S' => jn_str g m S' s (x + 1)) = some S' := h
    cases hst : jn_st1 g S s x with
    | none => rw [hst] at h; cases h
    | some S1 =>
      rw [hst] at h
      obtain ⟨a1, a2, a3⟩ := jn_FP_st1 hW hI hF ⟨h1, h2⟩ ⟨h3, by omega⟩ hst
      obtain ⟨b1, b2, b3⟩ := jn_FP_str hW (m := m) a1 a2 h1 (by omega) (by omega) (by omega) h
      exact ⟨b1, b2, by omega⟩
theorem jn_FPt_next (hF : jn_FPt g S s 15) : jn_FPt g S (s + 1) 0 ∨ ∃ s' x', s' = s ∧ 15 ≤ x' ∧ S.2.2.1 s' x' ≠ -1 := by
  obtain ⟨f1, f2, f3, f4⟩ := hF
  exact Or.inl ⟨fun s' x' q1 q2 q3 q4 q5 => f1 s' x' q1 q2 q3 q4 (by omega), f2, f3, fun s' x' q => f4 s' x' (by omega)⟩
theorem jn_FP_sta (hW : jn_GW g) : ∀ {m : Nat} {S S' : jn_Q} {s : Int}, jn_IQ g S → jn_FPt g S s 0 → 0 ≤ s → s + m = 48 → jn_sta g m S s = some S' → jn_FP g S'
  | 0, S, S', s, hI, hF, _, hs, h => by
    cases h
    have := hI.1
    exact ⟨hI, fun s' x' q1 q2 q3 q4 => hF.1 s' x' q1 q2 q3 q4 (by omega), hF.2.1, hF.2.2.1⟩
  | m + 1, S, S', s, hI, hF, h1, hs, h => by
    have h : (if s < S.1 then (match jn_str g 15 S s 0 with | none => none | some S' => jn_sta g m S' (s + 1)) else some S) = some S' := h
    split at h
    · rename_i hlt
      cases hst : jn_str g 15 S s 0 with
      | none => rw [hst] at h; cases h
      | some S1 =>
        rw [hst] at h
        obtain ⟨a1, a2, a3⟩ := jn_FP_str hW (m := 15) hI hF h1 hlt (by omega) (by omega) hst
        rcases jn_FPt_next a2 with a4 | ⟨s', x', q1, q2, q3⟩
        · exact jn_FP_sta hW (m := m) a1 a4 (by omega) (by omega) h
        · exact absurd (a2.2.2.2 s' x' (by omega)) q3
    · rename_i hge
      cases h
      exact ⟨hI, fun s' x' q1 q2 q3 q4 => hF.1 s' x' q1 q2 q3 q4 (by omega), hF.2.1, hF.2.2.1⟩
theorem jn_all_FP (hW : jn_GW g) (h : jn_all g = some S) : jn_FP g S :=
  jn_FP_sta hW (m := 48) (jn_S0_IQ hW) ⟨fun s x q1 q2 q3 q4 q5 => by omega, fun j j1 j2 => by have : j < 1 := j2; omega, rfl, fun _ _ _ => rfl⟩ (by omega) (by omega) h
/-- where an item of a state goes -/
theorem jn_FP_go (hW : jn_GW g) (hF : jn_FP g S) (hs : 0 ≤ s ∧ s < S.1) {i : Nat} (h1 : (jn_clo g (S.2.1 s)).testBit i = true) (h2 : jn_it g i) : (0 ≤ jn_is g i ∧ jn_is g i < 15) ∧ 0 ≤ S.2.2.1 s (jn_is g i) ∧ S.2.2.1 s (jn_is g i) < S.1 ∧ (S.2.1 (S.2.2.1 s (jn_is g i))).testBit (i + 1) = true := by
  have hw := hW.1
  have hsy := jn_sym_rng (r := jn_r i) (k := jn_d i) hW ⟨by unfold jn_d; omega, h2.2.2⟩
  have hr : 0 ≤ jn_is g i ∧ jn_is g i < 15 := by unfold jn_is; omega
  have hb : (jn_nx g (S.2.1 s) (jn_is g i)).testBit (i + 1) = true := (jn_nx_bit hW).mpr ⟨h1, h2, rfl⟩
  rcases hF.2.1 s (jn_is g i) hs.1 hs.2 hr.1 hr.2 with q | ⟨q1, q2, q3, q4⟩
  · rw [q.1, Nat.zero_testBit] at hb; cases hb
  · exact ⟨hr, q2, q3, by rw [q4]; exact hb⟩
end JFP1
noncomputable def jn_LB (g : gM) (e : Nat) (f : Int → Nat) (L : Int → Int → Nat) (s : Int) (i : Nat) : Nat := jn_F g e f (jn_r i) (jn_d i + 1) ||| @ite Nat (jn_EF g e (jn_r i) (jn_d i + 1)) (Classical.propDecidable _) (L s i) 0
def jn_c1 (g : gM) (e : Nat) (f : Int → Nat) (S : jn_Q) (L : Int → Int → Nat) (s : Int) (i : Nat) : Prop := jn_sub (L s i) (L (S.2.2.1 s (jn_is g i)) ((i : Int) + 1)) ∧ ∀ j : Nat, (jn_O g (jn_is g i - 10)).testBit j = true → 10 ≤ jn_is g i → jn_sub (jn_LB g e f L s i) (L s j)
def jn_cL (g : gM) (e : Nat) (f : Int → Nat) (S : jn_Q) (L : Int → Int → Nat) : Prop := jn_sub (2 ^ (g 0 0).toNat) (L 0 (5 * g 0 2)) ∧ ∀ s (i : Nat), 0 ≤ s → s < S.1 → (jn_clo g (S.2.1 s)).testBit i = true → jn_it g i → jn_c1 g e f S L s i
/-- no more than any closed one -/
def jn_mL (g : gM) (e : Nat) (f : Int → Nat) (S : jn_Q) (L : Int → Int → Nat) : Prop := (∀ s i, L s i < 256) ∧ ∀ L', jn_cL g e f S L' → ∀ s i, 0 ≤ s → s < S.1 → 0 ≤ i → i < 62 → jn_sub (L s i) (L' s i)
def jn_lL (g : gM) (e : Nat) (f : Int → Nat) (S : jn_Q) (L : Int → Int → Nat) : Prop := jn_cL g e f S L ∧ jn_mL g e f S L
def jn_v2 (f : Int → Int → Nat) (k l : Int) (v : Nat) : Int → Int → Nat := fun x y => if x = k ∧ y = l then v else f x y
def jn_SF (f : Nat → Nat) : Nat → Nat
  | 0 => 0
  | n + 1 => jn_SF f n + f n
def jn_D (L : Int → Int → Nat) : Nat := jn_SF (fun k => L ((k / 62 : Nat) : Int) ((k % 62 : Nat) : Int)) 2976
section JLK
variable {w : Nat} {σ : jg_M} {A G : Nat} {g : gM} {x r k b s t : Int} {c c' e : Nat} {f : Int → Nat} {S S' : jn_Q} {L L' : Int → Int → Nat} {K : jg_M → Prop} {KI : Int → jg_M → Prop}
theorem jn_SF_up {h : Nat → Nat} {k v : Nat} : ∀ {n : Nat}, k < n → jn_SF (fun j => if j = k then v else h j) n + h k = jn_SF h n + v
  | 0, hk => by omega
  | n + 1, hk => by
    unfold jn_SF
    by_cases hn : n = k
    · have hlow : ∀ {m : Nat}, m ≤ k → jn_SF (fun j => if j = k then v else h j) m = jn_SF h m := by
        intro m
        induction m with
        | zero => intro _; rfl
        | succ m ih => intro hm; unfold jn_SF; rw [ih (by omega), if_neg (by omega)]
      rw [if_pos hn, hlow (by omega), hn]
      omega
    · rw [if_neg hn]
      have := jn_SF_up (h := h) (k := k) (v := v) (n := n) (by omega)
      omega
theorem jn_SF_le {h : Nat → Nat} {B : Nat} (hB : ∀ j, h j ≤ B) : ∀ {n : Nat}, jn_SF h n ≤ n * B
  | 0 => by unfold jn_SF; omega
  | n + 1 => by
    unfold jn_SF
    have := jn_SF_le hB (n := n)
    have := hB n
    rw [Nat.succ_mul]
    omega
theorem jn_D_up {v : Nat} (hs : 0 ≤ s ∧ s < 48) (hi : 0 ≤ x ∧ x < 62) : jn_D (jn_v2 L s x v) + L s x = jn_D L + v := by
  have := jn_SF_up (h := fun k => L ((k / 62 : Nat) : Int) ((k % 62 : Nat) : Int)) (k := (s * 62 + x).toNat) (v := v) (n := 2976) (by omega)
  have e1 : (((s * 62 + x).toNat / 62 : Nat) : Int) = s := by omega
  have e2 : (((s * 62 + x).toNat % 62 : Nat) : Int) = x := by omega
  have e3 : (fun j : Nat => if j = (s * 62 + x).toNat then v else L ((j / 62 : Nat) : Int) ((j % 62 : Nat) : Int)) = fun j : Nat => jn_v2 L s x v ((j / 62 : Nat) : Int) ((j % 62 : Nat) : Int) := by
    funext j
    unfold jn_v2
    by_cases hj : j = (s * 62 + x).toNat
    · rw [if_pos hj, if_pos (by omega)]
    · rw [if_neg hj, if_neg (by omega)]
  rw [e3] at this
  rw [e1, e2] at this
  exact this
theorem jn_D_le (h : ∀ s i, L s i < 256) : jn_D L ≤ 758880 := by
  have := jn_SF_le (h := fun k => L ((k / 62 : Nat) : Int) ((k % 62 : Nat) : Int)) (B := 255) (fun j => by have := h ((j / 62 : Nat) : Int) ((j % 62 : Nat) : Int); omega) (n := 2976)
  exact this
theorem jn_v2_s {v : Nat} : jn_v2 L s x v s x = v := if_pos ⟨rfl, rfl⟩
theorem jn_v2_n {v : Nat} (h : t ≠ s ∨ k ≠ x) : jn_v2 L s x v t k = L t k := if_neg (fun q => h.elim (fun h => h q.1) (fun h => h q.2))
theorem jn_v2_sub {v : Nat} : jn_sub (L t k) (jn_v2 L s x (L s x ||| v) t k) := by
  by_cases h : t = s ∧ k = x
  · rw [h.1, h.2, jn_v2_s]; exact jn_sub_l
  · rw [jn_v2_n (by omega)]; exact jn_sub_rf
theorem jn_mL_up {v : Nat} (hm : jn_mL g e f S L) (hv : v < 256) (h : ∀ L', jn_cL g e f S L' → jn_sub v (L' s x)) (hs : 0 ≤ s ∧ s < S.1) (hx : 0 ≤ x ∧ x < 62) : jn_mL g e f S (jn_v2 L s x (L s x ||| v)) := by
  refine ⟨fun s' i' => ?_, fun L' hL' s' i' q1 q2 q3 q4 => ?_⟩
  · by_cases hq : s' = s ∧ i' = x
    · rw [hq.1, hq.2, jn_v2_s]; exact Nat.or_lt_two_pow (n := 8) (hm.1 _ _) hv
    · rw [jn_v2_n (by omega)]; exact hm.1 _ _
  · by_cases hq : s' = s ∧ i' = x
    · rw [hq.1, hq.2, jn_v2_s]; exact jn_sub_or (hm.2 L' hL' s x hs.1 hs.2 hx.1 hx.2) (h L' hL')
    · rw [jn_v2_n (by omega)]; exact hm.2 L' hL' s' i' q1 q2 q3 q4
theorem jn_LB_lt (hW : jn_GW g) (hf : ∀ k, 0 ≤ k → k < 5 → f k < 256) (hL : ∀ s i, L s i < 256) {i : Nat} : jn_LB g e f L s i < 256 := by
  unfold jn_LB
  refine Nat.or_lt_two_pow (n := 8) (jn_F_lt hW hf (by unfold jn_d; omega)) ?_
  split
  · exact hL _ _
  · omega
theorem jn_LB_mono {i : Nat} (h : jn_sub (L s i) (L' s i)) : jn_sub (jn_LB g e f L s i) (jn_LB g e f L' s i) := by
  unfold jn_LB
  refine jn_sub_or jn_sub_l (jn_sub_tr ?_ jn_sub_r)
  by_cases hE : jn_EF g e (jn_r i) (jn_d i + 1)
  · rw [if_pos hE, if_pos hE]; exact h
  · rw [if_neg hE, if_neg hE]; exact jn_sub_rf
theorem jn_lL_uniq (h1 : jn_lL g e f S L) (h2 : jn_lL g e f S L') (hs : 0 ≤ s ∧ s < S.1) (hx : 0 ≤ x ∧ x < 62) : L s x = L' s x := jn_sub_anti (h1.2.2 L' h2.1 s x hs.1 hs.2 hx.1 hx.2) (h2.2.2 L h1.1 s x hs.1 hs.2 hx.1 hx.2)
/-- readers of the class' states -/
theorem jc_inBits (hm : c < 4611686018427387904) (hx : jr x) (hk : KI (jn_b (0 ≤ x ∧ c.testBit x.toNat = true)) σ) : jg_CI w 0 mm_X11_inBits [.long (.ofInt (c : Int)), .int (.ofInt x)] σ KI := by
  refine jb_X11_inBits_0 ?_
  rw [jr_wr hx]
  refine jn_ite (fun hc => ?_) (fun hc => jn_ite (fun hc2 => ?_) (fun hc2 => jn_ite (fun hc3 => ?_) (fun hc3 => ?_)))
  · rw [jn_b_f (by omega)] at hk; exact hk
  · rw [jn_b_f (fun q => ?_)] at hk
    · exact hk
    · rw [Nat.testBit_lt_two_pow (Nat.lt_of_lt_of_le (show c < 2 ^ 62 from hm) (Nat.pow_le_pow_right (by omega) (by omega)))] at q
      cases q.2
  · rw [jb_tsq (by omega) (by omega) (by omega)] at hc3
    rw [jn_b_f (fun q => hc3 q.2)] at hk; exact hk
  · rw [jb_tsq (by omega) (by omega) (by omega)] at hc3
    rw [jn_b_t ⟨by omega, Classical.not_not.mp hc3⟩] at hk; exact hk
theorem jc_X7_has {n : Int} (h0 : jg_sh A = (7, 0)) (hn : σ.1 A 0 = n) (hn2 : 0 ≤ n ∧ n ≤ 48) (hx : jr x) (hk : KI (jn_b (0 ≤ x ∧ x < n)) σ) : jg_CI w 0 mm_X7_has [.ref A, .int (.ofInt x)] σ KI := by
  refine jb_X7_has_0 h0 ?_
  rw [jr_wr hx, hn, jr_wr (show jr n by omega)]
  repeat' refine jn_ite (fun hc => ?_) (fun hc => ?_)
  all_goals first | (rw [jn_b_t (by omega)] at hk; exact hk) | (rw [jn_b_f (by omega)] at hk; exact hk)
theorem jc_X7_moveBy {n : Int} (h0 : jg_sh A = (7, 0)) (hn : σ.1 A 0 = n) (hn2 : 0 ≤ n ∧ n ≤ 48) (hs : jr s) (hx : jr x) (hk : KI (if (0 ≤ s ∧ s < n) ∧ 0 ≤ x ∧ x < 15 then σ.1 (A + 4) (s * 15 + x) else -2) σ) : jg_CI w 1 mm_X7_moveBy [.ref A, .int (.ofInt s), .int (.ofInt x)] σ KI := by
  refine jb_X7_moveBy_0 h0 (jc_X7_has h0 hn hn2 hs (jn_if (fun hp => ?_) (fun hp => ?_)))
  · rw [if_neg (by omega)] at hk; exact hk
  · rw [jr_wr hx]
    refine jn_ite (fun hc => ?_) (fun hc => jn_ite (fun hc2 => ?_) (fun hc2 => ?_))
    · rw [if_neg (by omega)] at hk; exact hk
    · rw [if_pos (by omega)] at hk
      rw [jr_wr (by omega)]
      exact ⟨by omega, hk⟩
    · rw [if_neg (by omega)] at hk; exact hk
theorem jc_X7_behind {n : Int} (h0 : jg_sh A = (7, 0)) (hn : σ.1 A 0 = n) (hn2 : 0 ≤ n ∧ n ≤ 48) (hs : jr s) (hx : jr x) (hk : KI (if (0 ≤ s ∧ s < n) ∧ 0 ≤ x ∧ x < 62 then σ.1 (A + 5) (s * 62 + x) else 0) σ) : jg_CI w 1 mm_X7_behind [.ref A, .int (.ofInt s), .int (.ofInt x)] σ KI := by
  refine jb_X7_behind_0 h0 (jc_X7_has h0 hn hn2 hs (jn_if (fun hp => ?_) (fun hp => ?_)))
  · rw [if_neg (by omega)] at hk; exact hk
  · rw [jr_wr hx]
    refine jn_ite (fun hc => ?_) (fun hc => jn_ite (fun hc2 => ?_) (fun hc2 => ?_))
    · rw [if_neg (by omega)] at hk; exact hk
    · rw [if_neg (by omega)] at hk; exact hk
    · rw [if_pos (by omega)] at hk
      rw [jr_wr (by omega)]
      exact ⟨by omega, hk⟩
/-- the class' states with all that belongs to them -/
def jn_Fx (σ : jg_M) (A : Nat) (g : gM) (e : Nat) (f : Int → Nat) (S : jn_Q) : Prop := jn_RC σ A g S ∧ (∀ s x, 0 ≤ s → s < S.1 → 0 ≤ x → x < 15 → σ.1 (A + 4) (s * 15 + x) = jn_m2 (S.2.2.1 s x)) ∧ jn_Pr σ A g e f
def jn_LM (σ : jg_M) (A : Nat) (L : Int → Int → Nat) : Prop := ∀ s i, 0 ≤ s → s < 48 → 0 ≤ i → i < 62 → σ.1 (A + 5) (s * 62 + i) = (L s i : Nat)
theorem jn_Fx_fr {W : Nat → Int → Prop} {τ : jg_M} (h : jn_Fx σ A g e f S) (hF : jF W σ τ) (hn : ∀ a i, (a = A ∨ (A + 1 ≤ a ∧ a ≤ A + 4) ∨ (A + 6 ≤ a ∧ a ≤ A + 9)) → ¬ W a i) : jn_Fx τ A g e f S := by
  obtain ⟨⟨h1, h2⟩, h3, ⟨p1, p2, p3, p4, p5⟩⟩ := h
  refine ⟨⟨(hF.1 _ _ (hn _ _ (by omega))).trans h1, fun j j1 j2 => ?_⟩, fun s x s1 s2 x1 x2 => (hF.1 _ _ (hn _ _ (by omega))).trans (h3 s x s1 s2 x1 x2), ⟨fun s s1 s2 => (hF.2 _ _ (hn _ _ (by omega))).trans (p1 s s1 s2), fun s s1 s2 => (hF.2 _ _ (hn _ _ (by omega))).trans (p2 s s1 s2), fun i hi => ?_, (hF.2 _ _ (hn _ _ (by omega))).trans p4, (hF.1 _ _ (hn _ _ (by omega))).trans p5⟩⟩
  · obtain ⟨r1, r2, r3⟩ := h2 j j1 j2
    exact ⟨(hF.2 _ _ (hn _ _ (by omega))).trans r1, (hF.2 _ _ (hn _ _ (by omega))).trans r2, (hF.1 _ _ (hn _ _ (by omega))).trans r3⟩
  · obtain ⟨r1, r2⟩ := p3 i hi
    rw [hF.1 _ _ (hn _ _ (by omega)), hF.1 _ _ (hn _ _ (by omega))]
    exact ⟨r1, r2⟩
theorem jc_X7_widen {v : Nat} (h0 : jg_sh A = (7, 0)) (hX : jn_Fx σ A g e f S) (hF : jn_FP g S) (hM : jn_LM σ A L) (hm : jn_mL g e f S L) (hs : 0 ≤ s ∧ s < S.1) (hx : 0 ≤ x ∧ x < 62) (hv : v < 256) (hq : ∀ L', jn_cL g e f S L' → jn_sub v (L' s x))
    (k0 : jn_sub v (L s x) → KI 0 σ) (k1 : ∀ τ, jF (fun a _ => a = A + 5) σ τ → jn_LM τ A (jn_v2 L s x (L s x ||| v)) → jn_mL g e f S (jn_v2 L s x (L s x ||| v)) → jn_D L < jn_D (jn_v2 L s x (L s x ||| v)) → KI 1 τ) : jg_CI w 1 mm_X7_widen [.ref A, .int (.ofInt s), .int (.ofInt x), .int (.ofInt (v : Int))] σ KI := by
  have hI1 := hF.1.1
  have hL := hm.1 s x
  have ho : L s x ||| v < 256 := Nat.or_lt_two_pow (n := 8) hL hv
  refine jb_X7_widen_0 h0 (jc_X7_has h0 hX.1.1 (by omega) (by omega) (jn_if (fun hp => by omega) (fun hp => ?_)))
  rw [jr_wr (show jr x by omega)]
  refine jn_ite (fun hc => by omega) (fun _ => jn_ite (fun _ => ?_) (fun hc => by omega))
  intro t ht
  rw [ht, jr_wr (show jr (s * 62 + x) by omega), hM s x hs.1 (by omega) hx.1 hx.2, jb_or (by omega) (by omega), jr_wr (by omega), jr_wr (by omega)]
  refine ⟨by omega, by omega, jn_ite (fun hc => k0 (jn_eq_sub (by omega))) (fun hc => ⟨by omega, by omega, ?_⟩)⟩
  rintro _ rfl
  have hns : ¬ jn_sub v (L s x) := fun q => hc (by rw [jn_sub_eq q])
  have hgt := jn_or_gt hns
  have hD := jn_D_up (L := L) (s := s) (x := x) (v := L s x ||| v) (by omega) hx
  refine k1 _ (jF_I rfl) (fun s' i' q1 q2 q3 q4 => ?_) (jn_mL_up hm hv hq hs hx) (by omega)
  by_cases h9 : s' = s ∧ i' = x
  · rw [h9.1, h9.2, js_Is, jn_v2_s]
  · rw [js_In (Or.inr (by omega)), jn_v2_n (by omega)]
    exact hM s' i' q1 q2 q3 q4
theorem jc_X7_spreadFrom (h0 : jg_sh A = (7, 0)) (hW : jn_GW g) (hf2 : ∀ k, 0 ≤ k → k < 5 → f k < 256) (hX : jn_Fx σ A g e f S) (hF : jn_FP g S) (hM : jn_LM σ A L) (hm : jn_mL g e f S L) (hs : 0 ≤ s ∧ s < S.1) {i : Nat} (hi : (jn_clo g (S.2.1 s)).testBit i = true) (hit : jn_it g i)
    (k0 : jn_c1 g e f S L s i → KI 0 σ) (k1 : ∀ τ L', jF (fun a _ => a = A + 5) σ τ → jn_LM τ A L' → jn_mL g e f S L' → (∀ s x, jn_sub (L s x) (L' s x)) → jn_D L < jn_D L' → KI 1 τ) : jg_CI w 2 mm_X7_spreadFrom [.ref A, .int (.ofInt s), .int (.ofInt (i : Int))] σ KI := by
  have hI1 := hF.1.1
  have hw := hW.1
  have hi61 := jn_it_lt hW hit
  obtain ⟨g1, g2, g3, g4⟩ := jn_FP_go hW hF hs hi hit
  obtain ⟨p1, p2, p3, p4, p5⟩ := hX.2.2
  obtain ⟨p8, p9⟩ := (p3 i (by omega)).1 hit
  refine jb_X7_spreadFrom_0 h0 ?_
  rw [jr_wr (show jr (i : Int) by omega), p8]
  refine ⟨by omega, fun t1 ht1 => ?_⟩
  rw [ht1]
  refine jc_X7_behind h0 hX.1.1 (by omega) (by omega) (by omega) ?_
  rw [if_pos (by omega), hM s i hs.1 (by omega) (by omega) (by omega)]
  refine jc_X7_moveBy h0 hX.1.1 (by omega) (by omega) (by omega) ?_
  rw [if_pos (by omega), hX.2.1 s _ hs.1 hs.2 g1.1 g1.2, jn_m2_nn g2]
  -- behind the first widening
  have rest : ∀ (z : Int) (τ : jg_M) (L1 : Int → Int → Nat), jF (fun a _ => a = A + 5) σ τ → jn_LM τ A L1 → jn_mL g e f S L1 → (∀ s x, jn_sub (L s x) (L1 s x)) → ((z = 0 ∧ τ = σ ∧ L1 = L ∧ jn_sub (L s i) (L (S.2.2.1 s (jn_is g i)) ((i : Int) + 1))) ∨ (z = 1 ∧ jn_D L < jn_D L1)) →
      ∀ t108 : Int, t108 = (jn_is g i - 10) → (if jg_wr t108 < 0 then ((jg_wr z = 0 ∨ jg_wr z = 1) ∧ KI z τ) else (if jg_wr t108 < 5 then jg_CI w 0 mm_X11_inBits [.long (.ofInt (τ.2 A 11)), .int (.ofInt (i : Int))] τ (fun (z110 : Int) (m109 : jg_M) => (if jg_wr z110 = 0 then ((0 : Int) ≤ (i : Int) ∧ (i : Int) < (62 : Int)) ∧ ∀ t111 : Int, t111 = (m109.1 (A + 9) (i : Int)) → jg_GI w 2 mm_X7_spreadFrom 86 [.ref A, .int (.ofInt s), .int (.ofInt (i : Int)), .int (.ofInt (jn_is g i)), .int (.ofInt (L s i : Nat)), .int (.ofInt z), .int (.ofInt t108), .int (.ofInt t111), .int (.ofInt 0)] m109 KI else ((0 : Int) ≤ (i : Int) ∧ (i : Int) < (62 : Int)) ∧ ∀ t112 : Int, t112 = (jg_or (m109.1 (A + 9) (i : Int)) (L s i : Nat)) → jg_GI w 2 mm_X7_spreadFrom 86 [.ref A, .int (.ofInt s), .int (.ofInt (i : Int)), .int (.ofInt (jn_is g i)), .int (.ofInt (L s i : Nat)), .int (.ofInt z), .int (.ofInt t108), .int (.ofInt t112), .int (.ofInt 0)] m109 KI)) else ((jg_wr z = 0 ∨ jg_wr z = 1) ∧ KI z τ))) := by
    intro z τ L1 hFτ hM1 hm1 hsub hz t108 ht8
    have hXτ := jn_Fx_fr hX hFτ (fun a i h => by omega)
    have hFlt := jn_F_lt (e := e) (r := jn_r i) (k := jn_d i + 1) hW hf2 (by unfold jn_d; omega)
    have hLlt := hm.1 s i
    -- the rules of the kind
    have hloop : ∀ (m : Nat) (R : Nat) (u2 u3 u4 : Value) (z : Int) (τ : jg_M) (L1 : Int → Int → Nat), 10 ≤ jn_is g i → R + m = ((g 0 2).toNat + 1) → jF (fun a _ => a = A + 5) σ τ → jn_LM τ A L1 → jn_mL g e f S L1 → (∀ s x, jn_sub (L s x) (L1 s x)) → ((z = 0 ∧ τ = σ ∧ L1 = L ∧ jn_sub (L s i) (L (S.2.2.1 s (jn_is g i)) ((i : Int) + 1)) ∧ ∀ j : Nat, j < 5 * R → (jn_O g (jn_is g i - 10)).testBit j = true → jn_sub (jn_LB g e f L s i) (L s j)) ∨ (z = 1 ∧ jn_D L < jn_D L1)) → jg_GI w 2 mm_X7_spreadFrom 86 [.ref A, .int (.ofInt s), u2, u3, u4, .int (.ofInt z), .int (.ofInt (jn_is g i - 10)), .int (.ofInt (jn_LB g e f L s i : Nat)), .int (.ofInt ((5 * R : Nat) : Int))] τ KI := by
      intro m
      induction m with
      | zero =>
        intro R u2 u3 u4 z τ L1 h10 hR hFτ hM1 hm1 hsub hz
        have hXτ := jn_Fx_fr hX hFτ (fun a i h => by omega)
        refine jb_X7_spreadFrom_86 h0 ?_
        rw [hXτ.2.2.2.2.2.2, jr_wr (by omega), jr_wr (by omega)]
        refine jn_ite (fun _ => ?_) (fun hc => by omega)
        rcases hz with ⟨rfl, rfl, -, z4, z5⟩ | ⟨rfl, z2⟩
        · refine ⟨Or.inl rfl, k0 ⟨z4, fun j hj _ => z5 j ?_ hj⟩⟩
          have h9 := (jn_mk_bit.mp hj).2.2.1
          unfold jn_r at h9
          omega
        · exact ⟨Or.inr rfl, k1 τ L1 hFτ hM1 hm1 hsub z2⟩
      | succ m ih =>
        intro R u2 u3 u4 z τ L1 h10 hR hFτ hM1 hm1 hsub hz
        have hXτ := jn_Fx_fr hX hFτ (fun a i h => by omega)
        obtain ⟨-, p2', -, -, p5'⟩ := hXτ.2.2
        refine jb_X7_spreadFrom_86 h0 ?_
        rw [p5', jr_wr (show jr (g 0 2 * 5 + 2) by omega), jr_wr (show jr ((5 * R : Nat) : Int) by omega), jr_wr (show jr (jn_is g i - 10) by omega), p2' _ (by omega) (by omega)]
        have next : (¬ (jn_O g (jn_is g i - 10)).testBit (5 * R) = true ∨ z = 1 ∨ jn_sub (jn_LB g e f L s i) (L1 s ((5 * R : Nat) : Int))) → jg_GI w 2 mm_X7_spreadFrom 86 [.ref A, .int (.ofInt s), u2, u3, u4, .int (.ofInt z), .int (.ofInt (jn_is g i - 10)), .int (.ofInt (jn_LB g e f L s i : Nat)), .int (.ofInt (((5 * R : Nat) : Int) + 5))] τ KI := by
          intro hno
          rw [show ((5 * R : Nat) : Int) + 5 = ((5 * (R + 1) : Nat) : Int) by omega]
          refine ih (R + 1) u2 u3 u4 z τ L1 h10 (by omega) hFτ hM1 hm1 hsub ?_
          rcases hz with ⟨z1, z2, z3, z4, z5⟩ | z1
          · refine Or.inl ⟨z1, z2, z3, z4, fun j hj hb => ?_⟩
            by_cases hlt : j < 5 * R
            · exact z5 j hlt hb
            · have h5 := (jn_mk_bit.mp hb).2.1
              have hjR : j = 5 * R := by omega
              rw [hjR] at hb ⊢
              rcases hno with q | q | q
              · exact absurd hb q
              · omega
              · rw [z3] at q; exact q
          · exact Or.inr z1
        refine jn_ite (fun hc => by omega) (fun _ => ⟨by omega, jc_inBits jn_O_lt (by omega) (jn_if (fun hp => next (Or.inl (fun q => hp ⟨by omega, by rw [Int.toNat_natCast]; exact q⟩))) (fun hp => ?_))⟩)
        rw [Int.toNat_natCast] at hp
        have hR62 := (jn_mk_bit.mp hp.2).1
        refine jc_X7_widen h0 hXτ hF hM1 hm1 hs ⟨by omega, by omega⟩ (jn_LB_lt hW hf2 hm.1) (fun L' hL' => ?_) (fun hq => ?_) (fun τ' a1 a2 a3 a4 => ?_)
        · exact jn_sub_tr (jn_LB_mono (hm.2 L' hL' s i hs.1 hs.2 (by omega) (by omega))) ((hL'.2 s i hs.1 hs.2 hi hit).2 _ hp.2 h10)
        · rw [show jg_wr 0 = 0 from rfl]
          exact jn_ite (fun _ => next (Or.inr (Or.inr hq))) (fun hc => absurd rfl hc)
        · rw [show jg_wr 1 = 1 from rfl]
          refine jn_ite (fun hc => by omega) (fun _ => ?_)
          rw [show ((5 * R : Nat) : Int) + 5 = ((5 * (R + 1) : Nat) : Int) by omega]
          refine ih (R + 1) u2 u3 u4 1 τ' _ h10 (by omega) (jF_tr hFτ a1) a2 a3 (fun s' x' => jn_sub_tr (hsub s' x') jn_v2_sub) (Or.inr ⟨rfl, ?_⟩)
          rcases hz with ⟨-, -, z3, -, -⟩ | ⟨-, z1⟩
          · rw [z3] at a4 ⊢; exact a4
          · omega
    have hz01 : jg_wr z = 0 ∨ jg_wr z = 1 := by
      rcases hz with ⟨rfl, -⟩ | ⟨rfl, -⟩
      · exact Or.inl rfl
      · exact Or.inr rfl
    rw [jr_wr (show jr t108 by omega)]
    refine jn_ite (fun hc => ⟨hz01, ?_⟩) (fun hc => jn_ite (fun hc5 => ?_) (fun hc5 => ?_))
    · rcases hz with ⟨rfl, rfl, -, z4⟩ | ⟨rfl, z2⟩
      · exact k0 ⟨z4, fun j hj h10 => by omega⟩
      · exact k1 τ L1 hFτ hM1 hm1 hsub z2
    · obtain ⟨-, -, p3', p4', -⟩ := hXτ.2.2
      rw [p4']
      have h9' := ((p3' i (by omega)).1 hit).2
      have start : ∀ (t : Int), t = (jn_LB g e f L s i : Nat) → jg_GI w 2 mm_X7_spreadFrom 86 [.ref A, .int (.ofInt s), .int (.ofInt (i : Int)), .int (.ofInt (jn_is g i)), .int (.ofInt (L s i : Nat)), .int (.ofInt z), .int (.ofInt t108), .int (.ofInt t), .int (.ofInt 0)] τ KI := by
        rintro t rfl
        rw [ht8]
        refine hloop _ 0 _ _ _ z τ L1 (by omega) (Nat.zero_add _) hFτ hM1 hm1 hsub ?_
        rcases hz with ⟨z1, z2, z3, z4⟩ | z1
        · exact Or.inl ⟨z1, z2, z3, z4, fun j hj => by omega⟩
        · exact Or.inr z1
      refine jc_inBits jn_mk63 (by omega) (jn_if (fun hp => ⟨by omega, fun t ht => start t ?_⟩) (fun hp => ⟨by omega, fun t ht => start t ?_⟩))
      · rw [ht, h9']
        unfold jn_LB
        rw [if_neg (fun q => hp ⟨by omega, jn_mk_bit.mpr ⟨by rw [Int.toNat_natCast]; omega, by rw [Int.toNat_natCast]; exact ⟨hit, q⟩⟩⟩), Nat.or_zero]
      · have hE := (jn_mk_bit.mp hp.2).2
        rw [Int.toNat_natCast] at hE
        rw [ht, h9', jb_or (by omega) (by omega)]
        unfold jn_LB
        rw [if_pos hE.2]
    · omega
  refine jc_X7_widen h0 hX hF hM hm ⟨g2, g3⟩ ⟨by omega, by omega⟩ (hm.1 s i) (fun L' hL' => jn_sub_tr (hm.2 L' hL' s i hs.1 hs.2 (by omega) (by omega)) (hL'.2 s i hs.1 hs.2 hi hit).1) (fun hq => ?_) (fun τ a1 a2 a3 a4 => ?_)
  · exact rest 0 σ L jF_rf hM hm (fun _ _ => jn_sub_rf) (Or.inl ⟨rfl, rfl, rfl, hq⟩)
  · exact rest 1 τ _ a1 a2 a3 (fun s' x' => jn_v2_sub) (Or.inr ⟨rfl, a4⟩)
end JLK
