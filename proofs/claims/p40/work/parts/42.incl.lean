/-! What INCLUDES what, in the class, 2 -/
noncomputable def jn_pc (R : Nat → Nat → Prop) : Nat := jn_ct (fun i => @decide (R (i / 240) (i % 240)) (Classical.propDecidable _)) 57600
theorem jn_ct_eq {p q : Nat → Bool} : ∀ {n : Nat}, (∀ i, i < n → (p i = true ↔ q i = true)) → jn_ct p n = jn_ct q n
  | 0, _ => rfl
  | n + 1, h => by
    have h1 := jn_ct_eq (n := n) (fun i hi => h i (by omega))
    have h2 := h n (by omega)
    by_cases hp : p n = true
    · rw [jn_ct_t hp, jn_ct_t (h2.mp hp), h1]
    · rw [jn_ct_f hp, jn_ct_f (fun q => hp (h2.mpr q)), h1]
theorem jn_ct_add {p q : Nat → Bool} {k : Nat} (h0 : ¬ p k = true) (hq : ∀ i, q i = true ↔ p i = true ∨ i = k) : ∀ {n : Nat}, k < n → jn_ct q n = jn_ct p n + 1
  | 0, h => by omega
  | n + 1, h => by
    by_cases hk : k = n
    · have h1 : jn_ct q n = jn_ct p n := jn_ct_eq (fun i hi => by
        rw [hq]
        exact ⟨fun q => q.elim id (fun q => by omega), Or.inl⟩)
      rw [← hk, jn_ct_t ((hq k).mpr (Or.inr rfl)), jn_ct_f h0, hk, h1]
    · have h1 := jn_ct_add h0 hq (n := n) (by omega)
      by_cases hp : p n = true
      · rw [jn_ct_t hp, jn_ct_t ((hq n).mpr (Or.inl hp)), h1]
      · rw [jn_ct_f hp, jn_ct_f (fun q => ((hq n).mp q).elim hp (fun q => hk q.symm)), h1]
theorem jn_pc_eq {R R' : Nat → Nat → Prop} (h : ∀ m t, m < 240 → t < 240 → (R m t ↔ R' m t)) : jn_pc R = jn_pc R' :=
  jn_ct_eq (fun i hi => by
    rw [@decide_eq_true_iff _ (Classical.propDecidable _), @decide_eq_true_iff _ (Classical.propDecidable _)]
    exact h _ _ (by omega) (by omega))
theorem jn_pc_add {R R' : Nat → Nat → Prop} {m0 t0 : Nat} (hm : m0 < 240) (ht : t0 < 240) (h0 : ¬ R m0 t0) (h : ∀ m t, R' m t ↔ R m t ∨ (m = m0 ∧ t = t0)) : jn_pc R' = jn_pc R + 1 := by
  refine jn_ct_add (k := 240 * m0 + t0) ?_ (fun i => ?_) (by omega)
  · rw [@decide_eq_true_iff _ (Classical.propDecidable _), show (240 * m0 + t0) / 240 = m0 by omega, show (240 * m0 + t0) % 240 = t0 by omega]
    exact h0
  · rw [@decide_eq_true_iff _ (Classical.propDecidable _), @decide_eq_true_iff _ (Classical.propDecidable _), h]
    exact ⟨fun q => q.elim Or.inl (fun q => Or.inr (by omega)), fun q => q.elim Or.inl (fun q => Or.inr (by omega))⟩
/-- the moves numbered, those below M -/
def jn_NM (τ : jg_M) (A : Nat) (S : jn_Q) (M : Nat) : Prop := τ.1 A 0 = (jn_nu S M : Nat) ∧ (∀ m : Nat, m < 240 → τ.1 (A + 3) (m : Int) = if m < M ∧ jn_mv S m = true then ((jn_nu S m : Nat) : Int) else -1) ∧ ∀ m : Nat, m < M → jn_mv S m = true → τ.1 (A + 1) (jn_nu S m : Nat) = ((m / 5 : Nat) : Int) ∧ τ.1 (A + 2) (jn_nu S m : Nat) = ((m % 5 : Nat) : Int)
theorem jn_NM_fr {W : Nat → Int → Prop} {σ τ : jg_M} {A : Nat} {S : jn_Q} {M : Nat} (h : jn_NM σ A S M) (hF : jF W σ τ) (h0 : ¬ W A 0) (hn : ∀ a i, A + 1 ≤ a ∧ a ≤ A + 3 → ¬ W a i) : jn_NM τ A S M := by
  obtain ⟨h1, h2, h3⟩ := h
  refine ⟨(hF.1 _ _ h0).trans h1, fun m hm => (hF.1 _ _ (hn _ _ (by omega))).trans (h2 m hm), fun m hm hv => ?_⟩
  rw [hF.1 _ _ (hn _ _ (by omega)), hF.1 _ _ (hn _ _ (by omega))]
  exact h3 m hm hv
def jn_RI (τ : jg_M) (A : Nat) (S : jn_Q) (R : Nat → Nat → Prop) : Prop := (∀ m t, m < 240 → t < 240 → jn_mv S m = true → jn_mv S t = true → (jn_ib τ (A + 5) (jn_nu S m : Nat) (jn_nu S t : Nat) ↔ R m t)) ∧ τ.1 A 2 = (jn_pc R : Nat)
theorem jn_RI_fr {W : Nat → Int → Prop} {σ τ : jg_M} {A : Nat} {S : jn_Q} {R : Nat → Nat → Prop} (h : jn_RI σ A S R) (hF : jF W σ τ) (h0 : ¬ W A 2) (hn : ∀ i, ¬ W (A + 5) i) : jn_RI τ A S R := by
  refine ⟨fun m t m1 t1 m2 t2 => ?_, (hF.1 _ _ h0).trans h.2⟩
  unfold jn_ib
  rw [hF.2 _ _ (hn _)]
  exact h.1 m t m1 t1 m2 t2
theorem jn_RI_eq {τ : jg_M} {A : Nat} {S : jn_Q} {R R' : Nat → Nat → Prop} (h : jn_RI τ A S R) (hq : ∀ m t, m < 240 → t < 240 → (R m t ↔ R' m t)) : jn_RI τ A S R' :=
  ⟨fun m t m1 t1 m2 t2 => (h.1 m t m1 t1 m2 t2).trans (hq m t m1 t1), by rw [← jn_pc_eq hq]; exact h.2⟩
section JNI
variable {w : Nat} {σ : jg_M} {A T : Nat} {g : gM} {r s k : Int} {e : Nat} {f : Int → Nat} {S : jn_Q} {R : Nat → Nat → Prop} {K : jg_M → Prop} {KI : Int → jg_M → Prop}
theorem jn_nu_lt {m : Nat} (hm : m < 240) : 0 ≤ ((jn_nu S m : Nat) : Int) ∧ ((jn_nu S m : Nat) : Int) < 240 := by
  have := jn_nu_le (S := S) (m := m)
  omega
theorem jc_X4_numberMoves (h0 : jg_sh A = (4, 0)) (h1 : jg_sh T = (8, 0)) (h2 : jg_sh (T + 10) = (7, 0)) (hAT : T + 22 ≤ A) (hX : jn_Fx σ (T + 10) g e f S) (hF : jn_FP g S) (hc : σ.1 A 0 = 0) (hz : ∀ i, 0 ≤ i → i < 240 → σ.1 (A + 3) i = -1)
    (hk : ∀ τ, jF (fun a i => (a = A ∧ i = 0) ∨ (A + 1 ≤ a ∧ a ≤ A + 3)) σ τ → jn_NM τ A S 240 → K τ) : jg_CV w 2 mm_X4_numberMoves [.ref A, .ref T] σ K := by
  have hI1 := hF.1.1
  have hXt : ∀ τ, jF (fun a i => (a = A ∧ i = 0) ∨ (A + 1 ≤ a ∧ a ≤ A + 3)) σ τ → jn_Fx τ (T + 10) g e f S := fun τ h => jn_Fx_fr hX h (fun a i h => by omega)
  have hin : ∀ (m : Nat) (s : Int) (k : Nat) (τ : jg_M), (∀ (u3 : Value) (τ : jg_M), jF (fun a i => (a = A ∧ i = 0) ∨ (A + 1 ≤ a ∧ a ≤ A + 3)) σ τ → jn_NM τ A S (5 * s + 5).toNat → jg_GV w 2 mm_X4_numberMoves 2 [.ref A, .ref T, .int (.ofInt (s + 1)), u3] τ K) →
      0 ≤ s → s < S.1 → k + m = 5 → jF (fun a i => (a = A ∧ i = 0) ∨ (A + 1 ≤ a ∧ a ≤ A + 3)) σ τ → jn_NM τ A S (5 * s + k).toNat → jg_GV w 2 mm_X4_numberMoves 15 [.ref A, .ref T, .int (.ofInt s), .int (.ofInt (k : Int))] τ K := by
    intro m
    induction m with
    | zero =>
      intro s k τ hP s0 s1 hkm hFτ hN
      refine jb_X4_numberMoves_15 h0 h1 ?_
      rw [jr_wr (by omega)]
      exact jn_ite (fun _ => hP _ τ hFτ (by rwa [show k = 5 by omega, show (5 * s + ((5 : Nat) : Int)).toNat = (5 * s + 5).toNat by omega] at hN)) (fun h => by omega)
    | succ m ih =>
      intro s k τ hP s0 s1 hkm hFτ hN
      have hXτ := hXt τ hFτ
      have hmv := jn_mv_iff (S := S) (m := (5 * s + k).toNat)
      rw [show (((5 * s + (k : Int)).toNat / 5 : Nat) : Int) = s by omega, show (((5 * s + (k : Int)).toNat % 5 : Nat) : Int) = (k : Int) by omega] at hmv
      have hb := hF.1.2.2.1 s (10 + (k : Int))
      have hstep : (5 * s + ((k + 1 : Nat) : Int)).toNat = (5 * s + (k : Int)).toNat + 1 := by omega
      refine jb_X4_numberMoves_15 h0 h1 ?_
      rw [jr_wr (show jr (k : Int) by omega)]
      refine jn_ite (fun h => by omega) (fun _ => jc_X7_moveBy h2 hXτ.1.1 (by omega) (by omega) (by omega) ?_)
      rw [show (if (0 ≤ s ∧ s < S.1) ∧ 0 ≤ 10 + (k : Int) ∧ 10 + (k : Int) < 15 then τ.1 (T + 10 + 4) (s * 15 + (10 + (k : Int))) else -2) = jn_m2 (S.2.2.1 s (10 + (k : Int))) by rw [if_pos ⟨⟨s0, s1⟩, by omega, by omega⟩, hXτ.2.1 s (10 + (k : Int)) s0 s1 (by omega) (by omega)]]
      have hj : jr (jn_m2 (S.2.2.1 s (10 + (k : Int)))) ∧ (jn_m2 (S.2.2.1 s (10 + (k : Int))) < 0 ↔ S.2.2.1 s (10 + (k : Int)) < 0) := by
        unfold jn_m2
        split <;> omega
      rw [jr_wr hj.1, show (k : Int) + 1 = ((k + 1 : Nat) : Int) by omega]
      refine jn_ite (fun hneg => ?_) (fun hpos => ?_)
      · have hno : ¬ jn_mv S (5 * s + (k : Int)).toNat = true := fun q => by
          have := (hmv.mp q).2
          omega
        refine ih s (k + 1) τ hP s0 s1 (by omega) hFτ ?_
        rw [hstep]
        refine ⟨by rw [hN.1]; unfold jn_nu; rw [jn_ct_f hno], fun m hm => ?_, fun m hm hv => hN.2.2 m ?_ hv⟩
        · rw [hN.2.1 m hm]
          by_cases hmm : m = (5 * s + (k : Int)).toNat
          · rw [hmm, if_neg (by omega), if_neg (fun q => hno q.2)]
          · by_cases hlt : m < (5 * s + (k : Int)).toNat ∧ jn_mv S m = true
            · rw [if_pos hlt, if_pos ⟨by omega, hlt.2⟩]
            · rw [if_neg hlt, if_neg (fun q => hlt ⟨by omega, q.2⟩)]
        · have : m ≠ (5 * s + (k : Int)).toNat := fun q => hno (q ▸ hv)
          omega
      · have hyes : jn_mv S (5 * s + (k : Int)).toNat = true := hmv.mpr ⟨s1, by omega⟩
        have hnu := jn_nu_lt (S := S) (m := (5 * s + (k : Int)).toNat) (by omega)
        rw [hN.1, jr_wr (show jr ((jn_nu S (5 * s + (k : Int)).toNat : Nat) : Int) by omega), jr_wr (show jr (s * 5 + (k : Int)) by omega)]
        refine jn_ite (fun h => by omega) (fun _ => ⟨by omega, ?_⟩)
        rintro _ rfl
        rw [js_In (Or.inl (by omega)), hN.1, jr_wr (show jr ((jn_nu S (5 * s + (k : Int)).toNat : Nat) : Int) by omega)]
        refine ⟨by omega, ?_⟩
        rintro _ rfl
        rw [js_In (Or.inl (by omega)), js_In (Or.inl (by omega)), hN.1, jr_wr (show jr ((jn_nu S (5 * s + (k : Int)).toNat : Nat) : Int) by omega)]
        refine ⟨by omega, ?_⟩
        rintro _ rfl
        rw [js_In (Or.inl (by omega)), js_In (Or.inl (by omega)), js_In (Or.inl (by omega)), hN.1]
        rintro _ rfl
        have hFn : jF (fun a i => (a = A ∧ i = 0) ∨ (A + 1 ≤ a ∧ a ≤ A + 3)) σ (jg_sI (jg_sI (jg_sI (jg_sI τ (A + 3) (s * 5 + (k : Int)) ((jn_nu S (5 * s + (k : Int)).toNat : Nat) : Int)) (A + 1) ((jn_nu S (5 * s + (k : Int)).toNat : Nat) : Int) s) (A + 2) ((jn_nu S (5 * s + (k : Int)).toNat : Nat) : Int) (k : Int)) A 0 (((jn_nu S (5 * s + (k : Int)).toNat : Nat) : Int) + 1)) :=
          jF_tr hFτ (jF_tr (jF_I (Or.inr (by omega))) (jF_tr (jF_I (Or.inr (by omega))) (jF_tr (jF_I (Or.inr (by omega))) (jF_I (Or.inl ⟨rfl, rfl⟩)))))
        refine ih s (k + 1) _ hP s0 s1 (by omega) hFn ?_
        rw [hstep]
        refine ⟨by rw [js_Is]; unfold jn_nu; rw [jn_ct_t hyes]; rfl, fun m hm => ?_, fun m hm hv => ?_⟩
        · rw [js_In (Or.inl (by omega)), js_In (Or.inl (by omega)), js_In (Or.inl (by omega))]
          by_cases hmm : m = (5 * s + (k : Int)).toNat
          · rw [show (m : Int) = s * 5 + (k : Int) by omega, js_Is, hmm, if_pos ⟨by omega, hyes⟩]
          · rw [js_In (Or.inr (by omega)), hN.2.1 m hm]
            by_cases hlt : m < (5 * s + (k : Int)).toNat ∧ jn_mv S m = true
            · rw [if_pos hlt, if_pos ⟨by omega, hlt.2⟩]
            · rw [if_neg hlt, if_neg (fun q => hlt ⟨by omega, q.2⟩)]
        · by_cases hmm : m = (5 * s + (k : Int)).toNat
          · rw [hmm, js_In (Or.inl (by omega)), js_In (Or.inl (by omega)), js_Is, js_In (Or.inl (by omega)), js_Is]
            omega
          · have hlt : jn_nu S m < jn_nu S (5 * s + (k : Int)).toNat := jn_ct_lt hv (by omega)
            rw [js_In (Or.inl (by omega)), js_In (Or.inl (by omega)), js_In (Or.inr (by omega)), js_In (Or.inl (by omega)), js_In (Or.inl (by omega)), js_In (Or.inr (by omega)), js_In (Or.inl (by omega)), js_In (Or.inl (by omega))]
            exact hN.2.2 m (by omega) hv
  have hout : ∀ (m : Nat) (s : Int) (u3 : Value) (τ : jg_M), 0 ≤ s → s + m = S.1 → jF (fun a i => (a = A ∧ i = 0) ∨ (A + 1 ≤ a ∧ a ≤ A + 3)) σ τ → jn_NM τ A S (5 * s).toNat → jg_GV w 2 mm_X4_numberMoves 2 [.ref A, .ref T, .int (.ofInt s), u3] τ K := by
    intro m
    induction m with
    | zero =>
      intro s u3 τ s0 s1 hFτ hN
      refine jb_X4_numberMoves_2 h0 h1 ?_
      rw [(hXt τ hFτ).1.1, jr_wr (by omega), jr_wr (by omega)]
      refine jn_ite (fun _ => hk τ hFτ ?_) (fun h => by omega)
      have hno : ∀ m : Nat, (5 * s).toNat ≤ m → ¬ jn_mv S m = true := fun m hm q => by
        have := (jn_mv_iff.mp q).1
        omega
      have hnu : ∀ d : Nat, jn_nu S ((5 * s).toNat + d) = jn_nu S (5 * s).toNat := fun d => by
        induction d with
        | zero => rfl
        | succ d ih =>
          unfold jn_nu at *
          rw [show (5 * s).toNat + (d + 1) = ((5 * s).toNat + d) + 1 by omega, jn_ct_f (hno _ (by omega)), ih]
      have h240 := hnu (240 - (5 * s).toNat)
      rw [show (5 * s).toNat + (240 - (5 * s).toNat) = 240 by omega] at h240
      refine ⟨by rw [hN.1, h240], fun m hm => ?_, fun m hm hv => hN.2.2 m (Classical.byContradiction (fun q => hno m (by omega) hv)) hv⟩
      rw [hN.2.1 m hm]
      by_cases hlt : m < (5 * s).toNat ∧ jn_mv S m = true
      · rw [if_pos hlt, if_pos ⟨hm, hlt.2⟩]
      · rw [if_neg hlt, if_neg (fun q => hlt ⟨Classical.byContradiction (fun q2 => hno m (by omega) q.2), q.2⟩)]
    | succ m ih =>
      intro s u3 τ s0 s1 hFτ hN
      refine jb_X4_numberMoves_2 h0 h1 ?_
      rw [(hXt τ hFτ).1.1, jr_wr (by omega), jr_wr (by omega)]
      refine jn_ite (fun h => by omega) (fun _ => ?_)
      refine hin 5 s 0 τ (fun u3 τ q1 q2 => ih (s + 1) u3 τ (by omega) (by omega) q1 (by rwa [show (5 * (s + 1)).toNat = (5 * s + 5).toNat by omega])) s0 (by omega) rfl hFτ ?_
      rwa [show (5 * s + ((0 : Nat) : Int)).toNat = (5 * s).toNat by omega]
  refine jb_X4_numberMoves_0 h0 h1 (hout S.1.toNat 0 _ σ (by omega) (by omega) jF_rf ⟨by rw [hc]; rfl, fun m hm => ?_, fun m hm => by omega⟩)
  rw [hz _ (by omega) (by omega), if_neg (by omega)]
theorem jc_inc {m0 t0 : Nat} (h0 : jg_sh A = (4, 0)) (hm : m0 < 240) (ht : t0 < 240) (hvm : jn_mv S m0 = true) (hvt : jn_mv S t0 = true) (hR : jn_RI σ A S R)
    (hk : ∀ τ, jF (fun a k => a = A + 5 ∨ (a = A ∧ k = 2)) σ τ → jn_RI τ A S (fun m t => R m t ∨ (m = m0 ∧ t = t0)) → K τ) : jg_CV w 2 mm_X4_include [.ref A, .int (.ofInt ((jn_nu S m0 : Nat) : Int)), .int (.ofInt ((jn_nu S t0 : Nat) : Int))] σ K := by
  refine jc_X4_include h0 (jn_nu_lt hm) (jn_nu_lt ht) (fun hb => hk σ jF_rf (jn_RI_eq hR (fun m t _ _ => ⟨Or.inl, fun q => q.elim id (fun q => ?_)⟩))) (fun hb τ a1 a2 a3 => hk τ a1 ⟨fun m t m1 t1 m2 t2 => ?_, ?_⟩)
  · rw [q.1, q.2]
    exact (hR.1 m0 t0 hm ht hvm hvt).mp hb
  · have hnm := jn_nu_lt (S := S) m1
    have hnt := jn_nu_lt (S := S) t1
    rw [a3 _ _ hnm.1 hnm.2 hnt.1 hnt.2, hR.1 m t m1 t1 m2 t2]
    refine ⟨fun q => q.elim Or.inl (fun q => Or.inr ⟨jn_ct_inj m2 hvm (by have := q.1; unfold jn_nu at this; omega), jn_ct_inj t2 hvt (by have := q.2; unfold jn_nu at this; omega)⟩), fun q => q.elim Or.inl (fun q => Or.inr (by rw [q.1, q.2]; exact ⟨rfl, rfl⟩))⟩
  · rw [a2, hR.2, jn_pc_add (R' := fun m t => R m t ∨ (m = m0 ∧ t = t0)) hm ht (fun q => hb ((hR.1 m0 t0 hm ht hvm hvt).mpr q)) (fun m t => Iff.rfl)]
    rfl
end JNI
