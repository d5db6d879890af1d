/-! The reference's tables, with actions; and AFTER where there are no STATES -/
def jW_lt (c : Int) (a : Nat) (i : Int) : Prop := (a = 92 ∧ ((33 ≤ i ∧ i ≤ 36) ∨ i = 38)) ∨ jW_ef c a i ∨ jW_ls c a i ∨ jW_ac c a i
def jn_MT (σ : jg_M) (a c : Int) (g : gM) : Prop := jn_Mg σ a g ∧ (σ.1 92 36 = c ∧ 0 ≤ c ∧ c ≤ 1) ∧ ∃ e f, jn_lEF g e f ∧ σ.1 (92 + 20) c = ((e : Nat) : Int) ∧ (∀ k, 0 ≤ k → k < 5 → σ.1 (92 + 21) (5 * c + k) = ((f k : Nat) : Int)) ∧
  ((g 0 1 = 0 ∧ σ.1 (92 + 13) c = 0 ∧ σ.1 (92 + 22) c = 0) ∨ (0 < g 0 1 ∧ ∃ S L, jn_all g = some S ∧ jn_lL g e f S L ∧ jn_RK σ c g S ∧ jn_LMm σ c S L ∧ jn_MC σ c g S L (fun _ => 0) 0))
theorem jn_AP_fo {g : gM} {S : jn_Q} {L : Int → Int → Nat} {fo fo' : Int → Nat} {s t : Int} : jn_AP g S L fo 0 s t = jn_AP g S L fo' 0 s t := rfl
section JMT
variable {w : Nat} {σ : jg_M} {g : gM} {a c : Int} {K : jg_M → Prop} {KI : Int → jg_M → Prop}
theorem jm_layTables (hG : jn_Mb σ a g) (hW : jn_GW g) (ha : 0 ≤ a ∧ a ≤ 1) (hc2 : 0 ≤ c ∧ c ≤ 1) (hst : g 0 3 = 0) (hrk : ∀ t, 0 ≤ t → t < g 0 0 → σ.1 (92 + 8) (7 * a + t) = g 1 t ∧ σ.1 (92 + 9) (7 * a + t) = g 2 t)
    (k0 : 0 < g 0 1 → jn_all g = none → ∀ τ, jF (jW_lt c) σ τ → KI 0 τ) (k1 : (g 0 1 = 0 ∨ (0 < g 0 1 ∧ ∃ S, jn_all g = some S)) → ∀ τ, jF (jW_lt c) σ τ → jn_MT τ a c g → KI 1 τ) : jg_CI w 5 mm_X12_layTables [.ref 92, .int (.ofInt c), .int (.ofInt a), .int (.ofInt (g 0 4))] σ KI := by
  refine jb_X12_layTables_0 rfl ?_
  rintro _ rfl _ rfl
  have hF0 : jF (jW_lt c) σ (jg_sI (jg_sI σ 92 33 0) 92 38 0) := jF_tr (jF_I (Or.inl ⟨rfl, by omega⟩)) (jF_I (Or.inl ⟨rfl, by omega⟩))
  have hG0 := jn_Mb_fr hG hF0 (fun k i hk => by unfold jW_lt jW_ef jW_ls jW_ac; omega)
  have h33 : (jg_sI (jg_sI σ 92 33 0) 92 38 0).1 92 33 = g 0 3 := by rw [js_In (Or.inr (by omega)), js_Is, hst]
  have h38 : (jg_sI (jg_sI σ 92 33 0) 92 38 0).1 92 38 = 0 := js_Is
  refine jm_layAll hG0 hW ha hc2 h33 (fun n0 hn τ1 a1 a2 a3 => ?_) (fun hh τ1 a1 a2 => ?_) <;>
    have hF1 : jF (jW_lt c) σ τ1 := jF_tr hF0 (jF_mono a1 (fun a i h => by
      rcases h with h | h | h
      · exact Or.inl ⟨h.1, by omega⟩
      · exact Or.inr (Or.inl h)
      · exact Or.inr (Or.inr (Or.inl h))))
  · rw [show jg_wr 0 = 0 from rfl]
    exact jn_ite (fun _ => k0 n0 hn τ1 hF1) (fun h => absurd rfl h)
  · rw [show jg_wr 1 = 1 from rfl]
    refine jn_ite (fun h => by omega) (fun _ => ?_)
    obtain ⟨q1, q2, e, f, q3, q4, q5, q6⟩ := a2
    have h38' : τ1.1 92 38 = 0 := (a1.1 _ _ (by unfold jW_al jW_ef jW_ls; omega)).trans h38
    have hfin : ∀ τ, jF (jW_ac c) τ1 τ → jF (jW_lt c) σ τ ∧ jn_Mg τ a g ∧ (τ.1 92 36 = c ∧ 0 ≤ c ∧ c ≤ 1) ∧ τ.1 (92 + 20) c = ((e : Nat) : Int) ∧ ∀ k, 0 ≤ k → k < 5 → τ.1 (92 + 21) (5 * c + k) = ((f k : Nat) : Int) := fun τ h => ⟨jF_tr hF1 (jF_mono h (fun a i h => Or.inr (Or.inr (Or.inr h)))), jn_Mg_fr q1 h (by unfold jW_ac; omega) (fun k i hk => by unfold jW_ac; omega), ⟨(h.1 _ _ (by unfold jW_ac; omega)).trans q2.1, q2.2⟩, (h.1 _ _ (by unfold jW_ac; omega)).trans q4, fun k k1 k2 => (h.1 _ _ (by unfold jW_ac; omega)).trans (q5 k k1 k2)⟩
    rcases q6 with ⟨n0, n1⟩ | ⟨n0, S, L, s1, s2, s3, s4⟩
    · refine jm_layActions0 q2.1 hc2 n1 (fun τ2 b1 b2 => ?_)
      obtain ⟨p1, p2, p3, p4, p5⟩ := hfin τ2 b1
      exact k1 hh τ2 p1 ⟨p2, p3, e, f, q3, p4, p5, Or.inl ⟨n0, (b1.1 _ _ (by unfold jW_ac; omega)).trans n1, b2⟩⟩
    · have hMk : jn_Mk τ1 a g := ⟨0, h38', by omega, fun t t1 t2 => by
        have hF01 : jF (jW_lt c) σ τ1 := hF1
        rw [if_neg (by omega), if_neg (by omega), hF01.1 _ _ (by unfold jW_lt jW_ef jW_ls jW_ac; omega), hF01.1 _ _ (by unfold jW_lt jW_ef jW_ls jW_ac; omega)]
        exact hrk t t1 t2⟩
      have hMB : jn_MB τ1 a c g S L (fun _ => 0) 0 := ⟨q1, hMk, ⟨q2.1, hc2, by rw [h38']; omega⟩, s3, s4, fun h => absurd rfl h, s2.2.1, fun _ _ _ => (by decide : 0 < 256)⟩
      refine jm_layActions hMB hW (jn_all_FP hW s1) (fun τ2 b1 b2 => ?_)
      obtain ⟨p1, p2, p3, p4, p5⟩ := hfin τ2 b1
      exact k1 hh τ2 p1 ⟨p2, p3, e, f, q3, p4, p5, Or.inr ⟨n0, S, L, s1, s2, jn_RK_fr s3 b1 (fun a i h => by unfold jW_ac; omega), fun s i s1' s2' i1 i2 => (b1.1 _ _ (by unfold jW_ac; omega)).trans (s4 s i s1' s2' i1 i2), b2⟩⟩
theorem jm_layAfter0 (hG : jn_Mb σ 0 g) (ho : g 0 4 = -1) (hst : g 0 3 = 0) (hn : σ.1 (92 + 13) 0 = 0)
    (hk : ∀ τ, jF jW_lf σ τ → (∀ i, 0 ≤ i → i < 5 → τ.1 (92 + 28) i = 0) → K τ) : jg_CV w 4 mm_X12_layAfter [.ref 92] σ K := by
  refine jm_layAfterE hG ho hst (fun τ1 a1 a2 a3 a4 => ?_)
  have hn1 : τ1.1 (92 + 13) 0 = 0 := (a1.1 _ _ (by unfold jW_lf; omega)).trans hn
  have hz0 : ∀ (n i : Nat) (τ : jg_M), i + n = 1920 → jF (fun a _ => a = 92 + 27) τ1 τ → (∀ j : Int, 0 ≤ j → j < i → τ.1 (92 + 27) j = 0) → jg_GV w 3 mm_X12_layIncludes 2 [.ref 92, .int (.ofInt (i : Int)), mj_U, mj_U, mj_U, mj_U, mj_U, mj_U] τ (fun υ => jg_GV w 4 mm_X12_layAfter 46 [.ref 92, .int (.ofInt 0), mj_U, mj_U] υ K) := by
    intro n
    induction n with
    | zero =>
      intro i τ hi hFτ hj
      have hn2 : τ.1 (92 + 13) 0 = 0 := (hFτ.1 _ _ (by omega)).trans hn1
      refine jb_X12_layIncludes_2 rfl ?_
      rw [jr_wr (by omega)]
      refine jn_ite (fun _ => jb_X12_layIncludes_24 rfl ?_) (fun h => by omega)
      rw [hn2, show jg_wr 0 = 0 from rfl]
      refine jn_ite (fun _ => jb_X12_layAfter_46 rfl ?_) (fun h => by omega)
      rw [hn2, show jg_wr (5 * 0) = 0 from rfl, show jg_wr 0 = 0 from rfl]
      refine jn_ite (fun _ => jb_X12_layAfter_271 rfl ?_) (fun h => by omega)
      rw [show jg_wr 1 = 1 from rfl]
      refine jn_ite (fun h => by omega) (fun _ => jb_X12_layAfter_279 rfl ?_)
      rw [hn2, show jg_wr (5 * 0) = 0 from rfl, show jg_wr 0 = 0 from rfl]
      refine jn_ite (fun _ => jb_X12_layAfter_271 rfl ?_) (fun h => by omega)
      rw [show jg_wr 0 = 0 from rfl]
      refine jn_ite (fun _ => ?_) (fun h => absurd rfl h)
      refine jm_layRings (N := 0) (R := fun _ _ => False) (fun _ _ h => h.elim) hn2 (by omega) (fun m j hm hj8 => ⟨0, hj _ (by omega) (by omega), by omega, fun b hb => by rw [Nat.zero_testBit]; exact ⟨fun q => (by cases q), fun q => q.elim⟩⟩) ((hFτ.1 _ _ (by omega)).trans (a4 4 (by omega) (by omega))) (fun τ4 d1 d2 => ?_)
      refine hk τ4 (jF_tr a1 (jF_tr (jF_mono hFτ (fun a i h => by unfold jW_lf; omega)) (jF_mono d1 (fun a i h => by unfold jW_ri at h; unfold jW_lf; omega)))) (fun i i1 i2 => ?_)
      by_cases h4 : i = 4
      · rw [h4, d2]; rfl
      · rw [d1.1 _ _ (by unfold jW_ri; omega), hFτ.1 _ _ (by omega)]
        exact a4 i i1 i2
    | succ n ih =>
      intro i τ hi hFτ hj
      refine jb_X12_layIncludes_2 rfl ?_
      rw [jr_wr (by omega)]
      refine jn_ite (fun h => by omega) (fun _ => ⟨by omega, ?_⟩)
      rintro _ rfl
      rw [show (i : Int) + 1 = ((i + 1 : Nat) : Int) by omega]
      refine ih (i + 1) _ (by omega) (jF_tr hFτ (jF_I rfl)) (fun j j0 j1 => ?_)
      by_cases hji : j = i
      · rw [hji, js_Is]
      · rw [js_In (Or.inr (by omega))]
        exact hj j j0 (by omega)
  exact jb_X12_layIncludes_0 rfl (hz0 1920 0 τ1 rfl jF_rf (fun j j0 j1 => by omega))
end JMT
