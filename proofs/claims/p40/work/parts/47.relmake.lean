/-! The RELATIONS in the class -/
theorem jn_Ib_0 {g : gM} {e : Nat} {S : jn_Q} {m t : Nat} : ¬ jn_Ib g e S 0 0 0 m t := by
  rintro ⟨r, d, q1, q2⟩
  have := q1.1.1
  omega
theorem jn_ct_0 {p : Nat → Bool} {n : Nat} (h : ∀ i, i < n → ¬ p i = true) : jn_ct p n = 0 := by
  have := jn_ct_skip (p := p) (k := 0) (d := n) (fun j _ hj => h j (by omega))
  rw [Nat.zero_add] at this
  exact this
theorem jn_pc_0 {R : Nat → Nat → Prop} (h : ∀ m t, ¬ R m t) : jn_pc R = 0 := jn_ct_0 (fun i _ q => h _ _ ((@decide_eq_true_iff _ (Classical.propDecidable _)).mp q))
section JRM
variable {w : Nat} {σ : jg_M} {A T : Nat} {g : gM} {e : Nat} {f fo : Int → Nat} {S : jn_Q} {L : Int → Int → Nat} {K : jg_M → Prop}
theorem jn_ib_0 {τ : jg_M} {a : Nat} {i j : Int} (hz : ∀ k, 0 ≤ k → k < 960 → τ.2 a k = 0) (hi : 0 ≤ i ∧ i < 240) (hj : 0 ≤ j ∧ j < 240) : ¬ jn_ib τ a i j := by
  unfold jn_ib
  rw [hz _ (by omega) (by omega), jn_lb_0]
  exact fun q => by cases q
theorem jc_X4_make (h0 : jg_sh A = (4, 0)) (h1 : jg_sh T = (8, 0)) (h2 : jg_sh (T + 10) = (7, 0)) (h3 : jg_sh (T + 1) = (0, 0)) (hAT : T + 22 ≤ A) (hW : jn_GW g) (hn0 : 0 < g 0 1) (ho : g 0 4 = -1) (hB : jn_TB σ T g e f S L fo) (hF : jn_FP g S)
    (hk : ∀ τ a, jF (fun b _ => A ≤ b ∧ b ≤ A + 5) σ τ → jn_NM τ A S 240 → jn_RS τ A g e S 240 → jn_AF τ A S a → jn_lA g e S a → K τ) : jg_CV w 5 mm_X4_make [.ref A, .ref T] σ K := by
  refine jb_X4_make_0 h0 h1 ?_
  rintro _ rfl _ rfl _ rfl _ rfl
  have hF0 : jF (fun b _ => A ≤ b ∧ b ≤ A + 5) σ (jg_sI (jg_sI (jg_sI (jg_sI σ A 0 0) A 1 0) A 2 0) A 3 0) := jF_tr (jF_I (by omega)) (jF_tr (jF_I (by omega)) (jF_tr (jF_I (by omega)) (jF_I (by omega))))
  refine jc_fill (jg_sX4_6 h0) (by omega) (fun τ1 a1 a2 => jc_fillL (jg_sX4_8 h0) (by omega) (fun τ2 b1 b2 => ?_))
  have hF2 : jF (fun b _ => A ≤ b ∧ b ≤ A + 5) σ τ2 := jF_tr hF0 (jF_tr (jF_mono a1 (fun a i h => by omega)) (jF_mono b1 (fun a i h => by omega)))
  have hB2 := jn_TB_fr hB hF2 (fun a i h => by omega)
  have hfld : ∀ i, i = 0 ∨ i = 1 ∨ i = 2 ∨ i = 3 → τ2.1 A i = 0 := fun i hi => by
    rw [b1.1 _ _ (by omega), a1.1 _ _ (by omega)]
    rcases hi with rfl | rfl | rfl | rfl
    · rw [js_In (Or.inr (by omega)), js_In (Or.inr (by omega)), js_In (Or.inr (by omega)), js_Is]
    · rw [js_In (Or.inr (by omega)), js_In (Or.inr (by omega)), js_Is]
    · rw [js_In (Or.inr (by omega)), js_Is]
    · rw [js_Is]
  refine jc_X4_numberMoves h0 h1 h2 hAT hB2.2.1 hF (hfld 0 (by omega)) (fun i i1 i2 => (b1.1 _ _ (by omega)).trans (a2 i i1 i2)) (fun τ3 c1 c2 => ?_)
  have hF3 := jF_tr hF2 (jF_mono c1 (fun a i h => (by omega : A ≤ a ∧ a ≤ A + 5)))
  have hB3 := jn_TB_fr hB hF3 (fun a i h => by omega)
  have hRS3 : jn_RS τ3 A g e S 0 := by
    refine ⟨⟨fun m t m1 t1 m2 t2 => ⟨fun q => absurd q (jn_ib_0 (fun k k1 k2 => (c1.2 _ _ (by omega)).trans (b2 k k1 k2)) (jn_nu_lt m1) (jn_nu_lt t1)), fun q => absurd q jn_Ib_0⟩, ?_⟩, ?_, ?_⟩
    · rw [c1.1 _ _ (by omega), hfld 2 (by omega), jn_pc_0 (fun m t => jn_Ib_0)]
      rfl
    · rw [c1.1 _ _ (by omega), hfld 1 (by omega)]
      rfl
    · rw [c1.1 _ _ (by omega), hfld 3 (by omega)]
      rfl
  refine jc_X4_makeB h0 h1 h2 h3 hAT hW hn0 ho hB3 hF c2 hRS3 (fun τ4 d1 d2 => ?_)
  have hB4 := jn_TB_fr hB3 d1 (fun a i h => by unfold jW_re; omega)
  have hN4 := jn_NM_fr c2 d1 (by unfold jW_re; omega) (fun a i h => by unfold jW_re; omega)
  refine jc_X4_settleAfters h0 h1 h2 h3 hAT hW hB4 hF hN4 d2.1 (fun τ5 a e1 e2 e3 => ?_)
  exact hk τ5 a (jF_tr hF3 (jF_tr (jF_mono d1 (fun a i h => by unfold jW_re at h; omega)) (jF_mono e1 (fun a i h => by omega)))) (jn_NM_fr hN4 e1 (by omega) (fun a i h => by omega)) ⟨jn_RI_fr d2.1 e1 (by omega) (fun i => by omega), (e1.1 _ _ (by omega)).trans d2.2.1, (e1.1 _ _ (by omega)).trans d2.2.2⟩ e2 e3
theorem jc_X4_make0 (h0 : jg_sh A = (4, 0)) (h1 : jg_sh T = (8, 0)) (h2 : jg_sh (T + 10) = (7, 0)) (h3 : jg_sh (T + 1) = (0, 0)) (hAT : T + 22 ≤ A) (hW : jn_GW g) (hG : jn_Gr σ (T + 1) g) (hn : σ.1 (T + 10) 0 = 0)
    (hk : ∀ τ, jF (fun b _ => A ≤ b ∧ b ≤ A + 5) σ τ → (∀ i, i = 0 ∨ i = 1 ∨ i = 2 ∨ i = 3 → τ.1 A i = 0) → (∀ i, 0 ≤ i → i < 240 → τ.1 (A + 3) i = -1) → K τ) : jg_CV w 5 mm_X4_make [.ref A, .ref T] σ K := by
  have hw := hW.1
  refine jb_X4_make_0 h0 h1 ?_
  rintro _ rfl _ rfl _ rfl _ rfl
  have hF0 : jF (fun b _ => A ≤ b ∧ b ≤ A + 5) σ (jg_sI (jg_sI (jg_sI (jg_sI σ A 0 0) A 1 0) A 2 0) A 3 0) := jF_tr (jF_I (by omega)) (jF_tr (jF_I (by omega)) (jF_tr (jF_I (by omega)) (jF_I (by omega))))
  refine jc_fill (jg_sX4_6 h0) (by omega) (fun τ1 a1 a2 => jc_fillL (jg_sX4_8 h0) (by omega) (fun τ2 b1 b2 => ?_))
  have hF2 : jF (fun b _ => A ≤ b ∧ b ≤ A + 5) σ τ2 := jF_tr hF0 (jF_tr (jF_mono a1 (fun a i h => by omega)) (jF_mono b1 (fun a i h => by omega)))
  have hG2 : jn_Gr τ2 (T + 1) g := jn_Gr_fr hG hF2 (fun i _ => by omega) (fun k i _ _ => by omega)
  have hn2 : τ2.1 (T + 10) 0 = 0 := (hF2.1 _ _ (by omega)).trans hn
  have hfld : ∀ i, i = 0 ∨ i = 1 ∨ i = 2 ∨ i = 3 → τ2.1 A i = 0 := fun i hi => by
    rw [b1.1 _ _ (by omega), a1.1 _ _ (by omega)]
    rcases hi with rfl | rfl | rfl | rfl
    · rw [js_In (Or.inr (by omega)), js_In (Or.inr (by omega)), js_In (Or.inr (by omega)), js_Is]
    · rw [js_In (Or.inr (by omega)), js_In (Or.inr (by omega)), js_Is]
    · rw [js_In (Or.inr (by omega)), js_Is]
    · rw [js_Is]
  have hnum : ∀ i, 0 ≤ i → i < 240 → τ2.1 (A + 3) i = -1 := fun i i1 i2 => (b1.1 _ _ (by omega)).trans (a2 i i1 i2)
  refine jb_X4_numberMoves_0 h0 h1 (jb_X4_numberMoves_2 h0 h1 ?_)
  rw [hn2, show jg_wr 0 = 0 from rfl]
  refine jn_ite (fun _ => jb_X4_make_43 h0 h1 ?_) (fun h => by omega)
  rw [hfld 0 (by omega), show jg_wr 0 = 0 from rfl]
  refine jn_ite (fun _ => jb_X4_settleAfters_0 h0 h1 (jb_X4_settleAfters_2 h0 h1 ?_)) (fun h => by omega)
  rw [hfld 0 (by omega), show jg_wr 0 = 0 from rfl]
  refine jn_ite (fun _ => jc_X4_numberOf h0 (by omega) (by rw [hG2.1.2.2.2.1]; omega) ?_) (fun h => by omega)
  rw [hG2.1.2.2.2.1]
  rw [show (if ((0 : Int) ≤ 0 ∧ (0 : Int) < 48) ∧ 0 ≤ g 0 3 ∧ g 0 3 < 5 then τ2.1 (A + 3) (0 * 5 + g 0 3) else -1) = -1 by rw [if_pos ⟨by omega, by omega, by omega⟩]; exact hnum _ (by omega) (by omega), show jg_wr (-1) = -1 from rfl]
  refine jn_ite (fun _ => jb_X4_settleAfters_75 h0 h1 ?_) (fun h => by omega)
  rw [show jg_wr 1 = 1 from rfl, show jg_wr 0 = 0 from rfl]
  refine jn_ite (fun h => by omega) (fun _ => jn_ite (fun h => by omega) (fun _ => jb_X4_settleAfters_91 h0 h1 ?_))
  rw [hfld 0 (by omega), show jg_wr 0 = 0 from rfl]
  refine jn_ite (fun _ => jb_X4_settleAfters_75 h0 h1 ?_) (fun h => by omega)
  rw [show jg_wr 0 = 0 from rfl]
  exact jn_ite (fun _ => hk τ2 hF2 hfld hnum) (fun h => absurd rfl h)
end JRM
