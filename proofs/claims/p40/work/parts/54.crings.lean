/-! Rings, in the class -/
section JCR
variable {w : Nat} {σ : jg_M} {A N : Nat} {S : jn_Q} {R : Nat → Nat → Prop} {K : jg_M → Prop} {KI : Int → jg_M → Prop}
def jn_RC2 (τ : jg_M) (A : Nat) (S : jn_Q) (R : Nat → Nat → Prop) : Prop := ∀ m t, m < 240 → t < 240 → jn_mv S m = true → jn_mv S t = true → (jn_ib τ (A + 6) (jn_nu S m : Nat) (jn_nu S t : Nat) ↔ R m t)
theorem jn_RC2_eq {τ : jg_M} {R' : Nat → Nat → Prop} (h : jn_RC2 τ A S R) (hq : ∀ m t, m < 240 → t < 240 → jn_mv S m = true → jn_mv S t = true → (R m t ↔ R' m t)) : jn_RC2 τ A S R' := fun m t m1 t1 m2 t2 => (h m t m1 t1 m2 t2).trans (hq m t m1 t1 m2 t2)
theorem jn_wf_mv {p : Nat → Prop} (hR : ∀ m t, R m t → p m ∧ p t) : ∀ {k m t : Nat}, jn_wf R k m t → p m ∧ p t
  | 0, m, t, h => hR m t h
  | k + 1, m, t, h => h.elim (fun q => jn_wf_mv hR q) (fun q => ⟨(jn_wf_mv hR q.1).1, (jn_wf_mv hR q.2).2⟩)
theorem jn_wf_on {p : Nat → Prop} (hR : ∀ m t, R m t → p m ∧ p t) {k m t : Nat} (hk : ¬ p k) : jn_wf R (k + 1) m t ↔ jn_wf R k m t :=
  ⟨fun q => q.elim id (fun q => absurd (jn_wf_mv hR q.1).2 hk), Or.inl⟩
theorem jn_ib_wd {a : Nat} {i k j x y : Int} (hi : 0 ≤ i ∧ i < 240) (hj : 0 ≤ j ∧ j < 4) (hx : 0 ≤ x ∧ x < 240) (hy : 0 ≤ y ∧ y < 240) : jn_ib (jg_sL σ a (i * 4 + j) (jg_qor (σ.2 a (i * 4 + j)) (σ.2 a (k * 4 + j)))) a x y ↔ (if x = i ∧ y / 64 = j then jn_ib σ a i y ∨ jn_ib σ a k y else jn_ib σ a x y) := by
  unfold jn_ib
  by_cases h : x = i ∧ y / 64 = j
  · rw [if_pos h, h.1, h.2, js_Ls, jn_lb_or, Bool.or_eq_true]
  · rw [if_neg h, js_Ln (Or.inr (by omega))]
theorem jc_X4_reachBySteps (h0 : jg_sh A = (4, 0)) (hN : jn_NM σ A S 240) (hR : jn_RI σ A S R) (hRm : ∀ m t, R m t → jn_mv S m = true ∧ jn_mv S t = true)
    (hk : ∀ τ, jF (fun a _ => a = A + 6) σ τ → jn_RC2 τ A S (jn_wf R 240) → K τ) : jg_CV w 2 mm_X4_reachBySteps [.ref A] σ K := by
  have hle := jn_nu_le (S := S) (m := 240)
  have hNt : ∀ τ, jF (fun a _ => a = A + 6) σ τ → jn_NM τ A S 240 := fun τ h => jn_NM_fr hN h (by omega) (fun a i h => by omega)
  have hwd : ∀ (n j k m : Nat) (τ : jg_M), (∀ (u3 : Value) (τ : jg_M), jF (fun a _ => a = A + 6) σ τ → jn_RC2 τ A S (fun m' t => if m' < m + 1 then jn_st (jn_wf R k) k m' t else jn_wf R k m' t) → jg_GV w 2 mm_X4_reachBySteps 28 [.ref A, .int (.ofInt ((jn_nu S k : Nat) : Int)), .int (.ofInt (((jn_nu S m : Nat) : Int) + 1)), u3] τ K) →
      k < 240 → m < 240 → jn_mv S k = true → jn_mv S m = true → jn_wf R k m k → j + n = 4 → jF (fun a _ => a = A + 6) σ τ → jn_RC2 τ A S (fun m' t => if m' < m ∨ (m' = m ∧ jn_nu S t / 64 < j) then jn_st (jn_wf R k) k m' t else jn_wf R k m' t) → jg_GV w 2 mm_X4_reachBySteps 50 [.ref A, .int (.ofInt ((jn_nu S k : Nat) : Int)), .int (.ofInt ((jn_nu S m : Nat) : Int)), .int (.ofInt (j : Int))] τ K := by
    intro n
    induction n with
    | zero =>
      intro j k m τ hP hk2 hm2 hvk hvm hmk hj hFτ hC
      refine jb_X4_reachBySteps_50 h0 ?_
      rw [jr_wr (by omega)]
      refine jn_ite (fun _ => hP _ τ hFτ (jn_RC2_eq hC (fun m' t hm' ht _ _ => ?_))) (fun h => by omega)
      have hnt := jn_nu_le (S := S) (m := t)
      by_cases h1 : m' < m + 1
      · rw [if_pos h1, if_pos (by omega)]
      · rw [if_neg h1, if_neg (by omega)]
    | succ n ih =>
      intro j k m τ hP hk2 hm2 hvk hvm hmk hj hFτ hC
      have hnk := jn_nu_lt (S := S) hk2
      have hnm := jn_nu_lt (S := S) hm2
      refine jb_X4_reachBySteps_50 h0 ?_
      rw [jr_wr (show jr (j : Int) by omega), jr_wr (show jr (((jn_nu S m : Nat) : Int) * 4 + (j : Int)) by omega), jr_wr (show jr (((jn_nu S k : Nat) : Int) * 4 + (j : Int)) by omega)]
      refine jn_ite (fun h => by omega) (fun _ => ⟨by omega, by omega, by omega, ?_⟩)
      rintro _ rfl
      rw [show (j : Int) + 1 = ((j + 1 : Nat) : Int) by omega]
      refine ih (j + 1) k m _ hP hk2 hm2 hvk hvm hmk (by omega) (jF_tr hFτ (jF_L rfl)) (fun m' t hm' ht hvm' hvt => ?_)
      have hnm' := jn_nu_lt (S := S) hm'
      have hnt := jn_nu_lt (S := S) ht
      rw [jn_ib_wd hnm (by omega) hnm' hnt]
      by_cases h1 : ((jn_nu S m' : Nat) : Int) = ((jn_nu S m : Nat) : Int) ∧ ((jn_nu S t : Nat) : Int) / 64 = (j : Int)
      · have hmm : m' = m := jn_ct_inj hvm' hvm (by have := h1.1; unfold jn_nu at this; omega)
        rw [if_pos h1, hC m t hm2 ht hvm hvt, hC k t hk2 ht hvk hvt, hmm]
        dsimp only
        rw [if_neg (show ¬ (m < m ∨ (m = m ∧ jn_nu S t / 64 < j)) by omega), if_pos (show m < m ∨ (m = m ∧ jn_nu S t / 64 < j + 1) by omega)]
        have hkk : (if k < m ∨ (k = m ∧ jn_nu S t / 64 < j) then jn_st (jn_wf R k) k k t else jn_wf R k k t) ↔ jn_wf R k k t := by
          split
          · exact ⟨fun q => q.elim id (fun q => q.2), Or.inl⟩
          · exact Iff.rfl
        rw [hkk]
        exact ⟨fun q => q.elim Or.inl (fun q => Or.inr ⟨hmk, q⟩), fun q => q.elim Or.inl (fun q => Or.inr q.2)⟩
      · rw [if_neg h1, hC m' t hm' ht hvm' hvt]
        dsimp only
        by_cases h2 : m' < m ∨ (m' = m ∧ jn_nu S t / 64 < j)
        · rw [if_pos h2, if_pos (by omega)]
        · have h3 : ¬ (m' < m ∨ (m' = m ∧ jn_nu S t / 64 < j + 1)) := fun q => by
            have : m' = m := by omega
            rw [this] at h1
            omega
          rw [if_neg h2, if_neg h3]
  have hmm : ∀ (n m k : Nat) (u3 : Value) (τ : jg_M), (∀ (u2 u3 : Value) (τ : jg_M), jF (fun a _ => a = A + 6) σ τ → jn_RC2 τ A S (jn_wf R (k + 1)) → jg_GV w 2 mm_X4_reachBySteps 18 [.ref A, .int (.ofInt (((jn_nu S k : Nat) : Int) + 1)), u2, u3] τ K) →
      k < 240 → jn_mv S k = true → m + n = 240 → jF (fun a _ => a = A + 6) σ τ → jn_RC2 τ A S (fun m' t => if m' < m then jn_st (jn_wf R k) k m' t else jn_wf R k m' t) → jg_GV w 2 mm_X4_reachBySteps 28 [.ref A, .int (.ofInt ((jn_nu S k : Nat) : Int)), .int (.ofInt ((jn_nu S m : Nat) : Int)), u3] τ K := by
    intro n
    induction n with
    | zero =>
      intro m k u3 τ hP hk2 hvk hm hFτ hC
      refine jb_X4_reachBySteps_28 h0 ?_
      rw [(hNt τ hFτ).1, show m = 240 by omega, jr_wr (by omega)]
      refine jn_ite (fun _ => hP _ _ τ hFτ (jn_RC2_eq hC (fun m' t hm' ht _ _ => ?_))) (fun h => by omega)
      rw [if_pos (by omega)]
      exact Iff.rfl
    | succ n ih =>
      intro m k u3 τ hP hk2 hvk hm hFτ hC
      by_cases hv : jn_mv S m = true
      · have hn1 : jn_nu S (m + 1) = jn_nu S m + 1 := jn_ct_t hv
        have hn2 : jn_nu S m < jn_nu S 240 := jn_ct_lt hv (by omega)
        have hcm := hC m k (by omega) hk2 hv hvk
        dsimp only at hcm
        rw [if_neg (show ¬ m < m by omega)] at hcm
        refine jb_X4_reachBySteps_28 h0 ?_
        rw [(hNt τ hFτ).1, jr_wr (by omega), jr_wr (by omega)]
        refine jn_ite (fun h => by omega) (fun _ => jc_X4_inRow (jg_sX4_9 h0) (jn_nu_lt (by omega)) (jn_nu_lt hk2) (jn_if (fun hp => ?_) (fun hp => ?_)))
        · rw [show ((jn_nu S m : Nat) : Int) + 1 = ((jn_nu S (m + 1) : Nat) : Int) by omega]
          refine ih (m + 1) k u3 τ hP hk2 hvk (by omega) hFτ (jn_RC2_eq hC (fun m' t hm' ht _ _ => ?_))
          by_cases h1 : m' < m
          · rw [if_pos h1, if_pos (by omega)]
          · by_cases h2 : m' = m
            · rw [if_neg h1, if_pos (by omega), h2]
              exact ⟨Or.inl, fun q => q.elim id (fun q => absurd (hcm.mpr q.1) hp)⟩
            · rw [if_neg h1, if_neg (by omega)]
        · refine hwd 4 0 k m τ (fun u3 τ q1 q2 => ?_) hk2 (by omega) hvk hv (hcm.mp hp) rfl hFτ (jn_RC2_eq hC (fun m' t hm' ht _ _ => ?_))
          · rw [show ((jn_nu S m : Nat) : Int) + 1 = ((jn_nu S (m + 1) : Nat) : Int) by omega]
            exact ih (m + 1) k u3 τ hP hk2 hvk (by omega) q1 q2
          · by_cases h1 : m' < m
            · rw [if_pos h1, if_pos (Or.inl h1)]
            · rw [if_neg h1, if_neg (by omega)]
      · have hn1 : jn_nu S (m + 1) = jn_nu S m := jn_ct_f hv
        rw [← hn1]
        refine ih (m + 1) k u3 τ hP hk2 hvk (by omega) hFτ (jn_RC2_eq hC (fun m' t hm' ht hvm' _ => ?_))
        have : m' ≠ m := fun q => hv (q ▸ hvm')
        by_cases h1 : m' < m
        · rw [if_pos h1, if_pos (by omega)]
        · rw [if_neg h1, if_neg (by omega)]
  have hkk : ∀ (n k : Nat) (u2 u3 : Value) (τ : jg_M), k + n = 240 → jF (fun a _ => a = A + 6) σ τ → jn_RC2 τ A S (jn_wf R k) → jg_GV w 2 mm_X4_reachBySteps 18 [.ref A, .int (.ofInt ((jn_nu S k : Nat) : Int)), u2, u3] τ K := by
    intro n
    induction n with
    | zero =>
      intro k u2 u3 τ hk2 hFτ hC
      refine jb_X4_reachBySteps_18 h0 ?_
      rw [show k = 240 by omega] at hC
      rw [(hNt τ hFτ).1, show k = 240 by omega, jr_wr (by omega)]
      exact jn_ite (fun _ => hk τ hFτ hC) (fun h => by omega)
    | succ n ih =>
      intro k u2 u3 τ hk2 hFτ hC
      by_cases hv : jn_mv S k = true
      · have hn1 : jn_nu S (k + 1) = jn_nu S k + 1 := jn_ct_t hv
        have hn2 : jn_nu S k < jn_nu S 240 := jn_ct_lt hv (by omega)
        refine jb_X4_reachBySteps_18 h0 ?_
        rw [(hNt τ hFτ).1, jr_wr (by omega), jr_wr (by omega)]
        refine jn_ite (fun h => by omega) (fun _ => ?_)
        have := hmm 240 0 k u3 τ (fun u2 u3 τ q1 q2 => ?_) (by omega) hv rfl hFτ (jn_RC2_eq hC (fun m' t _ _ _ _ => by rw [if_neg (show ¬ m' < 0 by omega)]))
        · exact this
        · rw [show ((jn_nu S k : Nat) : Int) + 1 = ((jn_nu S (k + 1) : Nat) : Int) by omega]
          exact ih (k + 1) u2 u3 τ (by omega) q1 q2
      · have hn1 : jn_nu S (k + 1) = jn_nu S k := jn_ct_f hv
        rw [← hn1]
        exact ih (k + 1) u2 u3 τ (by omega) hFτ (jn_RC2_eq hC (fun m' t _ _ _ _ => (jn_wf_on (p := fun j => jn_mv S j = true) hRm hv).symm))
  refine jb_X4_reachBySteps_0 h0 ?_
  rintro _ rfl
  refine hkk 240 0 _ _ _ rfl ⟨fun _ _ _ => rfl, fun a i ha => if_neg (fun q => ha q.1)⟩ (fun m t m1 t1 m2 t2 => ?_)
  show _ ↔ R m t
  rw [← hR.1 m t m1 t1 m2 t2]
  have hnm := jn_nu_lt (S := S) m1
  have hnt := jn_nu_lt (S := S) t1
  have hcp : (jg_cL σ (A + 5) 0 (A + 6) 0 960).2 (A + 6) (((jn_nu S m : Nat) : Int) * 4 + ((jn_nu S t : Nat) : Int) / 64) = σ.2 (A + 5) (((jn_nu S m : Nat) : Int) * 4 + ((jn_nu S t : Nat) : Int) / 64) := by
    show (if A + 6 = A + 6 ∧ (0 : Int) ≤ _ ∧ _ < (0 : Int) + 960 then σ.2 (A + 5) (0 + (_ - 0)) else _) = _
    rw [if_pos ⟨rfl, by omega, by omega⟩, show (0 : Int) + (((jn_nu S m : Nat) : Int) * 4 + ((jn_nu S t : Nat) : Int) / 64 - 0) = ((jn_nu S m : Nat) : Int) * 4 + ((jn_nu S t : Nat) : Int) / 64 by omega]
  unfold jn_ib
  rw [hcp]
end JCR
