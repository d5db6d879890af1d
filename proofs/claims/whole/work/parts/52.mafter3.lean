/-! AFTER in the reference, 3 -/
section JML3
variable {w : Nat} {σ : jg_M} {g : gM} {r s k x : Int} {e t0 m : Nat} {f fo : Int → Nat} {S : jn_Q} {a a' : Nat → Nat} {K : jg_M → Prop} {KI : Int → jg_M → Prop}
theorem jm_layAfterD (hM : jn_M0 σ g e S) (hW : jn_GW g) (hn0 : 0 < g 0 1) (hst : g 0 3 = 0) (ho : g 0 4 = -1) (hF : jn_FP g S) (hI : jn_IM σ (jn_Ib g e S 240 0 0)) (hR : jn_RL σ g e S 0 0 0 0) {u2 u3 : Value}
    (hk : ∀ τ a, jF jW_la σ τ → jn_M0 τ g e S → jn_IM τ (jn_Ib g e S 240 0 0) → jn_RL τ g e S 240 240 0 0 → jn_AM τ S a → jn_lA g e S a → jg_CV w 2 mm_X12_layRings [.ref 92] τ K) : jg_GV w 4 mm_X12_layAfter 46 [.ref 92, .int (.ofInt 0), u2, u3] σ K := by
  have hw := hW.1
  have hI1 := hF.1.1
  have hMt : ∀ τ, jF (fun b i => b = 92 + 26 ∨ (b = 92 + 28 ∧ i < 4)) σ τ → jn_M0 τ g e S ∧ jn_IM τ (jn_Ib g e S 240 0 0) := fun τ h => ⟨jn_M0_fr hM h (fun i => by omega) (fun k i hk => by omega), jn_IM_fr hI h (fun i => by omega)⟩
  have hloop : ∀ (n m : Nat) (u2 u3 : Value) (τ : jg_M), (m : Int) + n = 5 * S.1 → jF (fun b i => b = 92 + 26 ∨ (b = 92 + 28 ∧ i < 4)) σ τ → jn_RL τ g e S m m 0 0 → (∀ j : Nat, j < m → τ.1 (92 + 26) (j : Int) = ((if jn_mv S j = true then jn_ab g S j else 0 : Nat) : Int)) → jg_GV w 4 mm_X12_layAfter 46 [.ref 92, .int (.ofInt (m : Int)), u2, u3] τ K := by
    intro n
    induction n with
    | zero =>
      intro m u2 u3 τ hm hFτ hR hA
      obtain ⟨hMτ, hIτ⟩ := hMt τ hFτ
      have hno : ∀ j : Nat, m ≤ j → ¬ jn_mv S j = true := fun j hj q => by
        have := (jn_mv_iff.mp q).1
        omega
      refine jb_X12_layAfter_46 rfl ?_
      rw [hMτ.2.2.2.1, jr_wr (by omega), jr_wr (by omega)]
      refine jn_ite (fun _ => ?_) (fun h => by omega)
      have hR2 : jn_RL τ g e S 240 240 0 0 := by
        obtain ⟨r0, r1, r2, r3⟩ := hR
        refine ⟨?_, ?_, ?_, r3⟩
        · have := jn_ct_skip (p := jn_mv S) (k := m) (d := 240 - m) (fun j j1 _ => hno j j1)
          rw [show m + (240 - m) = 240 by omega] at this
          rw [r0]
          unfold jn_nu
          rw [this]
        · have := jn_ct_skip (p := jn_rp e S) (k := 5 * m) (d := 1200 - 5 * m) (fun j j1 _ q => hno _ (by omega) (jn_rp_iff.mp q).1)
          rw [show 5 * m + (1200 - 5 * m) = 5 * 240 + 0 by omega] at this
          rw [r1, this]
          rfl
        · have := jn_ct_skip (p := jn_pd (jn_Ib g e S 240 0 0)) (k := 240 * m) (d := 57600 - 240 * m) (fun j j1 j2 q => by
            have h9 := (jn_Ib_mv hW hn0 ho hF (jn_pd_iff.mp q)).1
            exact hno _ (by omega) h9)
          rw [show 240 * m + (57600 - 240 * m) = 240 * 240 + 0 by omega] at this
          rw [r2, this]
          rfl
      refine jm_layAfterC (a := fun j => if jn_mv S j = true then jn_ab g S j else 0) hMτ hW hn0 hF hIτ (fun j hj => hA j (by omega)) ⟨fun j => ?_, fun j hj hv => ?_, fun a' ha' j hj hv => ?_⟩ (fun υ a q1 q2 q3 => ?_)
      · dsimp only
        split
        · exact jn_ab_lt hW
        · decide
      · dsimp only
        rw [if_pos hv]; exact jn_sub_rf
      · dsimp only
        rw [if_pos hv]; exact (ha' j hj hv).1
      · have hFυ : jF (fun b i => b = 92 + 26 ∨ (b = 92 + 28 ∧ i < 4)) σ υ := jF_tr hFτ (jF_mono q1 (fun a i h => Or.inl h))
        obtain ⟨hMυ, hIυ⟩ := hMt υ hFυ
        refine hk υ a (jF_mono hFυ (fun a i h => by unfold jW_la; omega)) hMυ hIυ ?_ q2 q3
        obtain ⟨r0, r1, r2, r3⟩ := hR2
        exact ⟨(q1.1 _ _ (by omega)).trans r0, (q1.1 _ _ (by omega)).trans r1, (q1.1 _ _ (by omega)).trans r2, (q1.1 _ _ (by omega)).trans r3⟩
    | succ n ih =>
      intro m u2 u3 τ hm hFτ hR hA
      obtain ⟨hMτ, hIτ⟩ := hMt τ hFτ
      obtain ⟨r0, r1, r2, r3⟩ := hR
      refine jb_X12_layAfter_46 rfl ?_
      rw [hMτ.2.2.2.1, jr_wr (show jr (5 * S.1) by omega), jr_wr (show jr (m : Int) by omega)]
      refine jn_ite (fun h => by omega) (fun _ => ⟨by omega, ?_⟩)
      rintro _ rfl
      have hF1 : jF (fun b i => b = 92 + 26 ∨ (b = 92 + 28 ∧ i < 4)) σ (jg_sI τ (92 + 26) (m : Int) 0) := jF_tr hFτ (jF_I (Or.inl rfl))
      obtain ⟨hM1, hI1'⟩ := hMt _ hF1
      refine jm_isMove hM1 hF (by omega) (jn_if (fun hv => ?_) (fun hv => ?_))
      · rw [show (m : Int) + 1 = ((m + 1 : Nat) : Int) by omega]
        refine ih (m + 1) u2 u3 _ (by omega) hF1 ⟨?_, ?_, ?_, by rw [js_In (Or.inl (by omega))]; exact r3⟩ (fun j hj => ?_)
        · rw [js_In (Or.inl (by omega)), r0]
          unfold jn_nu
          rw [jn_ct_f hv]
        · rw [js_In (Or.inl (by omega)), r1]
          have := jn_ct_skip (p := jn_rp e S) (k := 5 * m) (d := 5) (fun j j1 j2 q => hv (by
            have := (jn_rp_iff.mp q).1
            rwa [show j / 5 = m by omega] at this))
          rw [show 5 * (m + 1) + 0 = 5 * m + 5 by omega, this]
          rfl
        · rw [js_In (Or.inl (by omega)), r2]
          have := jn_ct_skip (p := jn_pd (jn_Ib g e S 240 0 0)) (k := 240 * m) (d := 240) (fun j j1 j2 q => hv (by
            have h9 := jn_pd_iff.mp q
            rw [show j / 240 = m by omega] at h9
            exact (jn_Ib_mv hW hn0 ho hF h9).1))
          rw [show 240 * (m + 1) + 0 = 240 * m + 240 by omega, this]
          rfl
        · by_cases hjm : j = m
          · rw [hjm, js_Is, if_neg hv]; rfl
          · rw [js_In (Or.inr (by omega))]; exact hA j (by omega)
      · rintro _ rfl
        have hF2 : jF (fun b i => b = 92 + 26 ∨ (b = 92 + 28 ∧ i < 4)) σ (jg_sI (jg_sI τ (92 + 26) (m : Int) 0) (92 + 28) 0 ((jg_sI τ (92 + 26) (m : Int) 0).1 (92 + 28) 0 + 1)) := jF_tr hF1 (jF_I (Or.inr ⟨rfl, by omega⟩))
        obtain ⟨hM2, hI2⟩ := hMt _ hF2
        have hmv := jn_mv_iff.mp hv
        rw [jb_div (by omega) (by omega), jb_rem (by omega) (by omega), show (m : Int) / 5 = ((m / 5 : Nat) : Int) by omega, show (m : Int) % 5 = ((m % 5 : Nat) : Int) by omega]
        refine jm_kindMove hM2 hF ⟨by omega, hmv.1⟩ (by omega) ?_
        refine jm_layAfterB (u3 := mj_U) hM2 hW hn0 hst hF hI2 hmv.1 hv ⟨?_, ?_, ?_, ?_⟩ ?_ (fun υ u2 u3 q1 q2 q3 => ?_)
        · rw [js_Is, js_In (Or.inl (by omega)), r0]
          unfold jn_nu
          rw [jn_ct_t hv]; rfl
        · rw [js_In (Or.inr (by omega)), js_In (Or.inl (by omega)), r1]
        · rw [js_In (Or.inr (by omega)), js_In (Or.inl (by omega)), r2]
        · rw [js_In (Or.inr (by omega)), js_In (Or.inl (by omega)), r3]
        · rw [js_In (Or.inl (by omega)), js_Is]
        · rw [show (m : Int) + 1 = ((m + 1 : Nat) : Int) by omega]
          refine ih (m + 1) u2 u3 υ (by omega) (jF_tr hF2 (jF_mono q1 (fun a i h => by omega))) q2 (fun j hj => ?_)
          by_cases hjm : j = m
          · rw [hjm, if_pos hv]; exact q3
          · rw [q1.1 _ _ (by omega), js_In (Or.inl (by omega)), js_In (Or.inr (by omega))]
            exact hA j (by omega)
  exact hloop (5 * S.1).toNat 0 u2 u3 σ (by omega) jF_rf hR (fun j hj => by omega)
end JML3
