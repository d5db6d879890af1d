/-! Rings, in the class, 2 -/
section JCS
variable {w : Nat} {σ : jg_M} {A N : Nat} {S : jn_Q} {R : Nat → Nat → Prop} {K : jg_M → Prop} {KI : Int → jg_M → Prop}
theorem jc_X4_leadsRing {m : Nat} (h0 : jg_sh A = (4, 0)) (hN : jn_NM σ A S 240) (hC : jn_RC2 σ A S R) (hRm : ∀ m t, R m t → jn_mv S m = true ∧ jn_mv S t = true) (hm : m < 240) (hv : jn_mv S m = true)
    (hk : KI (jn_b (jn_ld R 240 m = true)) σ) : jg_CI w 2 mm_X4_leadsRing [.ref A, .int (.ofInt ((jn_nu S m : Nat) : Int))] σ KI := by
  have hle := jn_nu_le (S := S) (m := 240)
  have hnm := jn_nu_lt (S := S) hm
  have hloop : ∀ (n t : Nat), t + n = 240 → (∀ t', t' < t → jn_mu R m t' → m < t') → jg_GI w 2 mm_X4_leadsRing 4 [.ref A, .int (.ofInt ((jn_nu S m : Nat) : Int)), .int (.ofInt (jn_b (∃ t', t' < t ∧ jn_mu R m t'))), .int (.ofInt ((jn_nu S t : Nat) : Int))] σ KI := by
    intro n
    induction n with
    | zero =>
      intro t ht hall
      refine jb_X4_leadsRing_4 h0 ?_
      have ht2 : t = 240 := by omega
      subst ht2
      rw [hN.1, jr_wr (by omega)]
      refine jn_ite (fun _ => ⟨jn_b_rng _, ?_⟩) (fun h => by omega)
      rw [jn_b_eq (show jn_ld R 240 m = true ↔ ∃ t', t' < 240 ∧ jn_mu R m t' from jn_ld_iff.trans ⟨fun q => q.1, fun q => ⟨q, hall⟩⟩)] at hk
      exact hk
    | succ n ih =>
      intro t ht hall
      have skip : ¬ jn_mu R m t → jg_GI w 2 mm_X4_leadsRing 4 [.ref A, .int (.ofInt ((jn_nu S m : Nat) : Int)), .int (.ofInt (jn_b (∃ t', t' < t ∧ jn_mu R m t'))), .int (.ofInt ((jn_nu S (t + 1) : Nat) : Int))] σ KI := fun hno => by
        have := ih (t + 1) (by omega) (fun t' h hmu => hall t' (by
          have : t' ≠ t := fun q => hno (q ▸ hmu)
          omega) hmu)
        rw [jn_b_eq (q := ∃ t', t' < t ∧ jn_mu R m t') ⟨fun ⟨t', q1, q2⟩ => ⟨t', by
          have : t' ≠ t := fun q => hno (q ▸ q2)
          omega, q2⟩, fun ⟨t', q1, q2⟩ => ⟨t', by omega, q2⟩⟩] at this
        exact this
      by_cases hvt : jn_mv S t = true
      · have hn1 : jn_nu S (t + 1) = jn_nu S t + 1 := jn_ct_t hvt
        have hn2 : jn_nu S t < jn_nu S 240 := jn_ct_lt hvt (by omega)
        have hnt := jn_nu_lt (S := S) (show t < 240 by omega)
        rw [show ((jn_nu S (t + 1) : Nat) : Int) = ((jn_nu S t : Nat) : Int) + 1 by omega] at skip
        refine jb_X4_leadsRing_4 h0 ?_
        rw [hN.1, jr_wr (show jr ((jn_nu S 240 : Nat) : Int) by omega), jr_wr (show jr ((jn_nu S t : Nat) : Int) by omega), jr_wr (show jr ((jn_nu S m : Nat) : Int) by omega)]
        refine jn_ite (fun h => by omega) (fun _ => jn_ite (fun heq => skip (fun q => q.1 (jn_ct_inj hvt hv (by unfold jn_nu at heq; omega)))) (fun hne => ?_))
        refine jc_X4_inRow (jg_sX4_9 h0) hnm hnt (jn_if (fun hp => skip (fun q => hp ((hC m t hm (by omega) hv hvt).mpr q.2.1))) (fun hp => ?_))
        refine jc_X4_inRow (jg_sX4_9 h0) hnt hnm (jn_if (fun hp2 => skip (fun q => hp2 ((hC t m (by omega) hm hvt hv).mpr q.2.2))) (fun hp2 => ?_))
        have hmu : jn_mu R m t := ⟨fun q => hne (by rw [q]), (hC m t hm (by omega) hv hvt).mp hp, (hC t m (by omega) hm hvt hv).mp hp2⟩
        have hord := jn_ct_ord (p := jn_mv S) hv hvt
        refine jn_ite (fun hle => ?_) (fun hgt => ?_)
        · have hmt : m < t := hord.mp (by unfold jn_nu at hle hne; omega)
          have := ih (t + 1) (by omega) (fun t' h hmu' => by
            by_cases htt : t' = t
            · omega
            · exact hall t' (by omega) hmu')
          rw [jn_b_t ⟨t, by omega, hmu⟩, show ((jn_nu S (t + 1) : Nat) : Int) = ((jn_nu S t : Nat) : Int) + 1 by omega] at this
          exact this
        · have hmt : ¬ m < t := fun q => by
            have := hord.mpr q
            unfold jn_nu at hgt
            omega
          rw [jn_b_f (fun q => hmt ((jn_ld_iff.mp q).2 t (by omega) hmu))] at hk
          exact hk
      · have hn1 : jn_nu S (t + 1) = jn_nu S t := jn_ct_f hvt
        rw [hn1] at skip
        exact skip (fun q => hvt (hRm _ _ q.2.1).2)
  have := hloop 240 0 rfl (fun t' h => by omega)
  rw [jn_b_f (fun ⟨t', q, _⟩ => by omega)] at this
  exact jb_X4_leadsRing_0 h0 this
theorem jc_X4_rings (h0 : jg_sh A = (4, 0)) (hN : jn_NM σ A S 240) (hR : jn_RI σ A S R) (hRm : ∀ m t, R m t → jn_mv S m = true ∧ jn_mv S t = true)
    (hk : ∀ τ, jF (fun a _ => a = A + 6) σ τ → KI (jn_ct (jn_ld (jn_wf R 240) 240) 240 : Nat) τ) : jg_CI w 3 mm_X4_rings [.ref A] σ KI := by
  have hle := jn_nu_le (S := S) (m := 240)
  refine jb_X4_rings_0 h0 (jc_X4_reachBySteps h0 hN hR hRm (fun τ a1 a2 => ?_))
  have hNτ := jn_NM_fr hN a1 (by omega) (fun a i h => by omega)
  have hloop : ∀ (n m : Nat), m + n = 240 → jg_GI w 3 mm_X4_rings 8 [.ref A, .int (.ofInt ((jn_ct (jn_ld (jn_wf R 240) 240) m : Nat) : Int)), .int (.ofInt ((jn_nu S m : Nat) : Int))] τ KI := by
    intro n
    induction n with
    | zero =>
      intro m hm
      refine jb_X4_rings_8 h0 ?_
      rw [hNτ.1, show m = 240 by omega, jr_wr (by omega)]
      exact jn_ite (fun _ => hk τ a1) (fun h => by omega)
    | succ n ih =>
      intro m hm
      have := ih (m + 1) (by omega)
      by_cases hv : jn_mv S m = true
      · have hn1 : jn_nu S (m + 1) = jn_nu S m + 1 := jn_ct_t hv
        have hn2 : jn_nu S m < jn_nu S 240 := jn_ct_lt hv (by omega)
        rw [show ((jn_nu S (m + 1) : Nat) : Int) = ((jn_nu S m : Nat) : Int) + 1 by omega] at this
        refine jb_X4_rings_8 h0 ?_
        rw [hNτ.1, jr_wr (by omega), jr_wr (by omega)]
        refine jn_ite (fun h => by omega) (fun _ => jc_X4_leadsRing h0 hNτ a2 (fun m t => jn_wf_mv (p := fun j => jn_mv S j = true) hRm) (by omega) hv (jn_if (fun hp => ?_) (fun hp => ?_)))
        · rw [jn_ct_f hp] at this
          exact this
        · rw [jn_ct_t hp] at this
          exact this
      · have hn1 : jn_nu S (m + 1) = jn_nu S m := jn_ct_f hv
        rw [hn1, jn_ct_f (fun q => by
          obtain ⟨t, -, h2⟩ := (jn_ld_iff.mp q).1
          exact hv (jn_wf_mv (p := fun j => jn_mv S j = true) hRm h2.2.1).1)] at this
        exact this
  exact hloop 240 0 rfl
end JCS
