/-! AFTER and RELATIONS in the reference, all -/
def jW_lf (a : Nat) (i : Int) : Prop := (a = 92 ∧ 33 ≤ i ∧ i ≤ 36) ∨ (92 + 26 ≤ a ∧ a ≤ 92 + 28)
section JMZ
variable {w : Nat} {σ : jg_M} {g : gM} {e m : Nat} {S : jn_Q} {a : Nat → Nat} {K : jg_M → Prop}
/-- the fields set, the relations cleared -/
theorem jm_layAfterE (hG : jn_Mb σ 0 g) (ho : g 0 4 = -1) (hst : g 0 3 = 0)
    (hk : ∀ τ, jF jW_lf σ τ → jn_Mg τ 0 g → τ.1 92 36 = 0 → (∀ i, 0 ≤ i → i < 5 → τ.1 (92 + 28) i = 0) → jg_CV w 3 mm_X12_layIncludes [.ref 92] τ (fun υ => jg_GV w 4 mm_X12_layAfter 46 [.ref 92, .int (.ofInt 0), mj_U, mj_U] υ K)) : jg_CV w 4 mm_X12_layAfter [.ref 92] σ K := by
  refine jb_X12_layAfter_0 rfl ?_
  rintro _ rfl _ rfl _ rfl _ rfl
  have hF0 : jF jW_lf σ (jg_sI (jg_sI (jg_sI (jg_sI σ 92 36 0) 92 35 0) 92 34 (-1)) 92 33 0) := jF_tr (jF_I (Or.inl ⟨rfl, by omega, by omega⟩)) (jF_tr (jF_I (Or.inl ⟨rfl, by omega, by omega⟩)) (jF_tr (jF_I (Or.inl ⟨rfl, by omega, by omega⟩)) (jF_I (Or.inl ⟨rfl, by omega, by omega⟩))))
  have hb := jn_Mb_fr hG hF0 (fun k i hk => by unfold jW_lf; omega)
  have hG0 : jn_Mg (jg_sI (jg_sI (jg_sI (jg_sI σ 92 36 0) 92 35 0) 92 34 (-1)) 92 33 0) 0 g := jn_Mg_of hb (by rw [js_In (Or.inr (by omega)), js_In (Or.inr (by omega)), js_Is]) (by rw [js_Is, hst]) (by rw [js_In (Or.inr (by omega)), js_Is, ho])
  have h36 : (jg_sI (jg_sI (jg_sI (jg_sI σ 92 36 0) 92 35 0) 92 34 (-1)) 92 33 0).1 92 36 = 0 := by rw [js_In (Or.inr (by omega)), js_In (Or.inr (by omega)), js_In (Or.inr (by omega)), js_Is]
  generalize jg_sI (jg_sI (jg_sI (jg_sI σ 92 36 0) 92 35 0) 92 34 (-1)) 92 33 0 = σ0 at *
  have hloop : ∀ (n i : Nat) (τ : jg_M), i + n = 5 → jF (fun a _ => a = 92 + 28) σ0 τ → (∀ j : Int, 0 ≤ j → j < i → τ.1 (92 + 28) j = 0) → jg_GV w 4 mm_X12_layAfter 22 [.ref 92, .int (.ofInt (i : Int)), mj_U, mj_U] τ K := by
    intro n
    induction n with
    | zero =>
      intro i τ hi hFτ hz
      refine jb_X12_layAfter_22 rfl ?_
      rw [jr_wr (by omega)]
      exact jn_ite (fun _ => hk τ (jF_tr hF0 (jF_mono hFτ (fun a i h => by unfold jW_lf; omega))) (jn_Mg_fr hG0 hFτ (by omega) (fun k i hk => by omega)) ((hFτ.1 _ _ (by omega)).trans h36) (fun j j0 j1 => hz j j0 (by omega))) (fun h => by omega)
    | succ n ih =>
      intro i τ hi hFτ hz
      refine jb_X12_layAfter_22 rfl ?_
      rw [jr_wr (by omega)]
      refine jn_ite (fun h => by omega) (fun _ => ⟨by omega, ?_⟩)
      rintro _ rfl
      rw [show (i : Int) + 1 = ((i + 1 : Nat) : Int) by omega]
      refine ih (i + 1) _ (by omega) (jF_tr hFτ (jF_I rfl)) (fun j j0 j1 => ?_)
      by_cases hji : j = i
      · rw [hji, js_Is]
      · rw [js_In (Or.inr (by omega))]
        exact hz j j0 (by omega)
  exact hloop 5 0 σ0 rfl jF_rf (fun j j0 j1 => by omega)
theorem jm_layAfter (hG : jn_Mb σ 0 g) (hW : jn_GW g) (hn0 : 0 < g 0 1) (ho : g 0 4 = -1) (hst : g 0 3 = 0) (he : σ.1 (92 + 20) 0 = (e : Nat)) (he2 : e < 32) (hR : jn_RK σ 0 g S) (hF : jn_FP g S)
    (hk : ∀ τ a, jF jW_lf σ τ → jn_M0 τ g e S → (τ.1 (92 + 28) 0 = (jn_nu S 240 : Nat) ∧ τ.1 (92 + 28) 1 = (jn_ct (jn_rp e S) 1200 : Nat) ∧ τ.1 (92 + 28) 2 = (jn_pc (jn_Ib g e S 240 0 0) : Nat) ∧ τ.1 (92 + 28) 3 = (jn_ct (jn_lk g S) 2880 : Nat) ∧ τ.1 (92 + 28) 4 = (jn_ct (jn_ld (jn_wf (jn_Ib g e S 240 0 0) 240) 240) 240 : Nat)) → jn_AM τ S a → jn_lA g e S a → K τ) : jg_CV w 4 mm_X12_layAfter [.ref 92] σ K := by
  have hI1 := hF.1.1
  refine jm_layAfterE hG ho hst (fun τ1 a1 a2 a3 a4 => ?_)
  have hM1 : jn_M0 τ1 g e S := ⟨a2, a3, ⟨(a1.1 _ _ (by unfold jW_lf; omega)).trans he, he2⟩, jn_RK_fr hR a1 (fun a i h => by unfold jW_lf; omega)⟩
  refine jm_layIncludes hM1 hW hn0 ho hF (a4 3 (by omega) (by omega)) (fun τ2 b1 b2 b3 => ?_)
  have hM2 : jn_M0 τ2 g e S := jn_M0_fr hM1 b1 (fun i => by unfold jW_mi; omega) (fun k i hk => by unfold jW_mi; omega)
  refine jm_layAfterD hM2 hW hn0 hst ho hF b2 ⟨?_, ?_, ?_, b3⟩ (fun τ3 a c1 c2 c3 c4 c5 c6 => ?_)
  · exact (b1.1 _ _ (by unfold jW_mi; omega)).trans (a4 0 (by omega) (by omega))
  · exact (b1.1 _ _ (by unfold jW_mi; omega)).trans (a4 1 (by omega) (by omega))
  · exact (b1.1 _ _ (by unfold jW_mi; omega)).trans (a4 2 (by omega) (by omega))
  obtain ⟨r0, r1, r2, r3⟩ := c4
  have h4 : τ3.1 (92 + 28) 4 = 0 := (c1.1 _ _ (by unfold jW_la; omega)).trans ((b1.1 _ _ (by unfold jW_mi; omega)).trans (a4 4 (by omega) (by omega)))
  have hRm : ∀ m t, jn_Ib g e S 240 0 0 m t → m < 5 * S.1.toNat ∧ t < 5 * S.1.toNat := fun m t q => by
    obtain ⟨q1, -, q3, -⟩ := jn_Ib_mv hW hn0 ho hF q
    have h1 := (jn_mv_iff.mp q1).1
    have h2 := (jn_mv_iff.mp q3).1
    omega
  refine jm_layRings (N := S.1.toNat) (R := jn_Ib g e S 240 0 0) (fun m t q => (hRm m t q).1) (by rw [c2.2.2.2.1]; omega) (by omega) c3 h4 (fun τ4 d1 d2 => ?_)
  refine hk τ4 a (jF_tr a1 (jF_tr (jF_mono b1 (fun a i h => by unfold jW_mi at h; unfold jW_lf; omega)) (jF_tr (jF_mono c1 (fun a i h => by unfold jW_la at h; unfold jW_lf; omega)) (jF_mono d1 (fun a i h => by unfold jW_ri at h; unfold jW_lf; omega))))) (jn_M0_fr c2 d1 (fun i => by unfold jW_ri; omega) (fun k i hk => by unfold jW_ri; omega)) ⟨(d1.1 _ _ (by unfold jW_ri; omega)).trans r0, (d1.1 _ _ (by unfold jW_ri; omega)).trans r1, (d1.1 _ _ (by unfold jW_ri; omega)).trans r2, ?_, ?_⟩ (fun m hm => (d1.1 _ _ (by unfold jW_ri; omega)).trans (c5 m hm)) c6
  · rw [d1.1 _ _ (by unfold jW_ri; omega), r3, ← jn_lk_ll hW 48]
  · rw [d2, jn_ring_eq (N := 5 * S.1.toNat) (by omega) hRm]
end JMZ
