/-! What INCLUDES what, in the reference -/
def jn_M0 (σ : jg_M) (g : gM) (e : Nat) (S : jn_Q) : Prop := jn_Mg σ 0 g ∧ σ.1 92 36 = 0 ∧ (σ.1 (92 + 20) 0 = (e : Nat) ∧ e < 32) ∧ jn_RK σ 0 g S
theorem jn_M0_fr {W : Nat → Int → Prop} {σ τ : jg_M} {g : gM} {e : Nat} {S : jn_Q} (h : jn_M0 σ g e S) (hF : jF W σ τ) (hn : ∀ i, ¬ W 92 i) (hn2 : ∀ (k : Nat) (i : Int), (3 ≤ k ∧ k ≤ 17) ∨ k = 20 → ¬ W (92 + k) i) : jn_M0 τ g e S := by
  obtain ⟨h1, h2, h3, h4⟩ := h
  refine ⟨jn_Mg_fr h1 hF ⟨hn _, hn _, hn _⟩ (fun k i hk => hn2 k i (by omega)), (hF.1 _ _ (hn _)).trans h2, ⟨(hF.1 _ _ (hn2 20 _ (by omega))).trans h3.1, h3.2⟩, jn_RK_fr h4 hF (fun a i ha => ?_)⟩
  have := hn2 (a - 92) i (by omega)
  rwa [show 92 + (a - 92) = a by omega] at this
def jn_IM (τ : jg_M) (R : Nat → Nat → Prop) : Prop := ∀ m j : Nat, m < 240 → j < 8 → ∃ v : Nat, τ.1 (92 + 27) (8 * (m : Int) + j) = (v : Nat) ∧ v < 1073741824 ∧ ∀ b, b < 30 → (v.testBit b = true ↔ R m (30 * j + b))
def jn_Im (g : gM) (e : Nat) (S : jn_Q) (s0 r0 : Int) (d0 m t : Nat) : Prop := ∃ r d, jn_Ir g e S r d m t ∧ (((t / 5 : Nat) : Int) < s0 ∨ (((t / 5 : Nat) : Int) = s0 ∧ (r < r0 ∨ (r = r0 ∧ d < d0))))
def jn_ll (g : gM) (S : jn_Q) (j : Nat) : Bool := decide (((j % 12 : Nat) : Int) < g 0 2) && jn_mv S (5 * (j / 12) + (g 3 ((j % 12 : Nat) : Int)).toNat)
section JMI
variable {w : Nat} {σ : jg_M} {g : gM} {r s k x : Int} {e t0 m : Nat} {f fo : Int → Nat} {S : jn_Q} {R R' : Nat → Nat → Prop} {K : jg_M → Prop} {KI : Int → jg_M → Prop}
theorem jn_IM_fr {W : Nat → Int → Prop} {τ : jg_M} (h : jn_IM σ R) (hF : jF W σ τ) (hn : ∀ i, ¬ W (92 + 27) i) : jn_IM τ R := fun m j hm hj => by
  obtain ⟨v, h1, h2, h3⟩ := h m j hm hj
  exact ⟨v, (hF.1 _ _ (hn _)).trans h1, h2, h3⟩
theorem jn_IM_eq {τ : jg_M} (h : jn_IM τ R) (hq : ∀ m t, m < 240 → t < 240 → (R m t ↔ R' m t)) : jn_IM τ R' := fun m j hm hj => by
  obtain ⟨v, h1, h2, h3⟩ := h m j hm hj
  exact ⟨v, h1, h2, fun b hb => (h3 b hb).trans (hq m _ hm (by omega))⟩
theorem jn_sy_mx2 (h : (0 ≤ x ∧ x < 7) ∨ (10 ≤ x ∧ x < 15)) : jn_sy (jn_mx x) = x ∧ 0 ≤ jn_mx x ∧ jn_mx x < 12 ∧ (jn_mx x < 7 ↔ x < 10) ∧ (10 ≤ x → jn_mx x = x - 3) := by
  have hm : jn_mx x = if x < 10 then x else x - 3 := if_neg (by omega)
  rw [hm]
  unfold jn_sy
  rcases h with h | h
  · rw [if_pos (show x < 10 by omega), if_pos (show x < 7 by omega)]; omega
  · rw [if_neg (show ¬ x < 10 by omega), if_neg (show ¬ x - 3 < 7 by omega)]; omega
theorem jm_kindMove (hM : jn_M0 σ g e S) (hF : jn_FP g S) (hs : 0 ≤ s ∧ s < S.1) (hk2 : 0 ≤ k ∧ k < 5) (hk : KI (S.2.2.1 s (10 + k)) σ) : jg_CI w 0 mm_X12_kindMove [.ref 92, .int (.ofInt s), .int (.ofInt k)] σ KI := by
  have hI1 := hF.1.1
  have h := hM.2.2.2.2.2 s (7 + k) hs.1 hs.2 (by omega) (by omega)
  rw [show 12 * (48 * 0 + s) + (7 + k) = 12 * s + 7 + k by omega, show jn_sy (7 + k) = 10 + k by unfold jn_sy; rw [if_neg (by omega)]; omega] at h
  refine jb_X12_kindMove_0 rfl ?_
  rw [jr_wr (show jr (12 * s + 7 + k) by omega), h]
  exact ⟨by omega, hk⟩
theorem jm_isMove (hM : jn_M0 σ g e S) (hF : jn_FP g S) (hm : ((m / 5 : Nat) : Int) < S.1) (hk : KI (jn_b (jn_mv S m = true)) σ) : jg_CI w 1 mm_X12_isMove [.ref 92, .int (.ofInt (m : Int))] σ KI := by
  have hI1 := hF.1.1
  refine jb_X12_isMove_0 rfl ?_
  rw [jb_div (by omega) (by omega), jb_rem (by omega) (by omega), show (m : Int) / 5 = ((m / 5 : Nat) : Int) by omega, show (m : Int) % 5 = ((m % 5 : Nat) : Int) by omega]
  refine jm_kindMove hM hF ⟨by omega, hm⟩ (by omega) ?_
  have hb := hF.1.2.2.1 ((m / 5 : Nat) : Int) (10 + ((m % 5 : Nat) : Int))
  rw [jr_wr (by omega)]
  refine jn_ite (fun h => ?_) (fun h => ?_)
  · rw [jn_b_f (fun q => by have := (jn_mv_iff.mp q).2; omega)] at hk; exact hk
  · rw [jn_b_t (jn_mv_iff.mpr ⟨hm, by omega⟩)] at hk; exact hk
theorem jm_wayBy {d : Nat} (hM : jn_M0 σ g e S) (hW : jn_GW g) (hF : jn_FP g S) (hr : 0 ≤ r ∧ r < g 0 2) (hd : (d : Int) ≤ jn_len g r) (hw2 : ∀ d' : Nat, d' ≤ d → 0 ≤ jn_wy g S s r d' ∧ jn_wy g S s r d' < S.1) (hk : KI (jn_wy g S s r d) σ) : jg_CI w 1 mm_X12_wayBy [.ref 92, .int (.ofInt s), .int (.ofInt r), .int (.ofInt (d : Int))] σ KI := by
  have hw := hW.1
  have hI1 := hF.1.1
  have hl := jn_len_rng (r := r) hW
  have hloop : ∀ (n d' : Nat), d' + n = d → jg_GI w 1 mm_X12_wayBy 6 [.ref 92, .int (.ofInt s), .int (.ofInt r), .int (.ofInt (d : Int)), .int (.ofInt (jn_wy g S s r d')), .int (.ofInt (d' : Int))] σ KI := by
    intro n
    induction n with
    | zero =>
      intro d' hdn
      refine jb_X12_wayBy_6 rfl ?_
      rw [jr_wr (by omega), jr_wr (by omega)]
      exact jn_ite (fun _ => by rwa [show d' = d by omega]) (fun h => by omega)
    | succ n ih =>
      intro d' hdn
      have hy := hw2 d' (by omega)
      have hs := jn_sym_rng (r := r) (k := (d' : Int)) hW ⟨by omega, by omega⟩
      obtain ⟨x1, x2, x3, -⟩ := jn_sy_mx2 (x := jn_sym g r d') (by omega)
      refine jb_X12_wayBy_6 rfl ?_
      rw [jr_wr (by omega), jr_wr (by omega), jr_wr (by omega)]
      refine jn_ite (fun h => by omega) (fun _ => jn_ite (fun h => by omega) (fun _ => jm_moveBy hM.1 hW ⟨hr.1, by omega⟩ (by omega) ?_))
      rw [jr_wr (by omega)]
      refine ⟨by omega, ?_⟩
      rintro _ rfl
      have h := hM.2.2.2.2.2 (jn_wy g S s r d') (jn_mx (jn_sym g r d')) hy.1 hy.2 x2 x3
      rw [x1, show 12 * (48 * 0 + jn_wy g S s r d') + jn_mx (jn_sym g r d') = 12 * jn_wy g S s r d' + jn_mx (jn_sym g r d') by omega] at h
      rw [h, show (d' : Int) + 1 = ((d' + 1 : Nat) : Int) by omega]
      exact ih (d' + 1) (by omega)
  exact jb_X12_wayBy_0 rfl (hloop d 0 (by omega))
theorem jm_isIncluded (hI : jn_IM σ R) (hm : m < 240) (ht : t0 < 240) (hk : KI (jn_b (R m t0)) σ) : jg_CI w 1 mm_X12_isIncluded [.ref 92, .int (.ofInt (m : Int)), .int (.ofInt (t0 : Int))] σ KI := by
  obtain ⟨v, h1, h2, h3⟩ := hI m (t0 / 30) hm (by omega)
  refine jb_X12_isIncluded_0 rfl ?_
  rw [jb_div (by omega) (by omega), jb_rem (by omega) (by omega), jr_wr (show jr (8 * (m : Int) + (t0 : Int) / 30) by omega), show (t0 : Int) / 30 = ((t0 / 30 : Nat) : Int) by omega, h1]
  refine ⟨by omega, jm_isOf (by omega) (by omega) ⟨jn_b_rng _, ?_⟩⟩
  rw [jn_b_eq (q := R m t0) (by
    rw [show ((t0 : Int) % 30).toNat = t0 % 30 by omega, h3 (t0 % 30) (by omega), show 30 * (t0 / 30) + t0 % 30 = t0 by omega])]
  exact hk
theorem jn_IM_set (hI : jn_IM σ R) (hm : m < 240) (ht : t0 < 240) : jn_IM (jg_sI σ (92 + 27) (8 * (m : Int) + (t0 : Int) / 30) (jg_or (σ.1 (92 + 27) (8 * (m : Int) + (t0 : Int) / 30)) (jg_shl 1 ((t0 : Int) % 30)))) (fun m' t' => R m' t' ∨ (m' = m ∧ t' = t0)) := fun m' j hm' hj => by
  obtain ⟨v, h1, h2, h3⟩ := hI m' j hm' hj
  by_cases hmj : m' = m ∧ j = t0 / 30
  · have hp : 1 * 2 ^ (t0 % 30) < 2147483648 := by
      have := Nat.pow_lt_pow_right (a := 2) (n := 31) (by omega) (show t0 % 30 < 31 by omega)
      omega
    have hp2 : 2 ^ (t0 % 30) < 1073741824 := Nat.pow_lt_pow_right (a := 2) (n := 30) (by omega) (show t0 % 30 < 30 by omega)
    rw [hmj.1, hmj.2, show (t0 : Int) / 30 = ((t0 / 30 : Nat) : Int) by omega, show (t0 : Int) % 30 = ((t0 % 30 : Nat) : Int) by omega, js_Is]
    rw [hmj.1, hmj.2] at h1
    rw [h1, show jg_shl 1 ((t0 % 30 : Nat) : Int) = ((1 * 2 ^ (t0 % 30) : Nat) : Int) from jb_shl (m := 1) (by omega) hp, jb_or (by omega) hp, Nat.one_mul]
    refine ⟨_, rfl, Nat.or_lt_two_pow (n := 30) h2 hp2, fun b hb => ?_⟩
    rw [Nat.testBit_or, Bool.or_eq_true, h3 b hb, Nat.testBit_two_pow, decide_eq_true_iff, hmj.1, hmj.2]
    exact ⟨fun q => q.elim Or.inl (fun q => Or.inr ⟨rfl, by omega⟩), fun q => q.elim Or.inl (fun q => Or.inr (by omega))⟩
  · rw [js_In (Or.inr (by omega))]
    refine ⟨v, h1, h2, fun b hb => (h3 b hb).trans ⟨Or.inl, fun q => q.elim id (fun q => absurd ⟨q.1, by omega⟩ hmj)⟩⟩
theorem jn_ll_iff {j : Nat} : jn_ll g S j = true ↔ ((j % 12 : Nat) : Int) < g 0 2 ∧ jn_mv S (5 * (j / 12) + (g 3 ((j % 12 : Nat) : Int)).toNat) = true := by
  unfold jn_ll
  rw [Bool.and_eq_true, decide_eq_true_iff]
end JMI
