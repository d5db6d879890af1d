/-! The TABLES in the class -/
theorem jn_lEF_of {g : gM} {e : Nat} {f : Int → Nat} (hW : jn_GW g) (he2 : e < 32) (hE : jn_cE g e) (hEm : ∀ e', jn_cE g e' → jn_sub e e') (hf2 : ∀ x, 0 ≤ x → x < 5 → f x < 256) (hz : ∀ x, g 0 1 ≤ x → x < 5 → f x = 0) (hF : jn_cF g e f) (hFm : ∀ f', jn_cF g e f' → ∀ x, 0 ≤ x → x < g 0 1 → jn_sub (f x) (f' x)) : jn_lEF g e f :=
  ⟨⟨hE, hF, he2, hf2, hz⟩, fun e' f' h1 h2 => ⟨hEm e' h1, hFm f' (fun r r1 r2 r3 => jn_sub_tr (jn_F_mono hW (hEm e' h1) (fun _ _ _ => jn_sub_rf) ⟨r1, r2⟩ _ 0 (by omega) rfl) (h2 r r1 r2 r3))⟩⟩
noncomputable def jn_AP (g : gM) (S : jn_Q) (L : Int → Int → Nat) (fo : Int → Nat) (y s t : Int) : Int × Nat := jn_acs g S s t (jn_rm g S L fo y s t)
def jn_TC (σ : jg_M) (T : Nat) (g : gM) (S : jn_Q) (L : Int → Int → Nat) (fo : Int → Nat) (y : Int) : Prop := ∀ s t, 0 ≤ s → s < 48 → 0 ≤ t → t < 8 →
  (s < S.1 ∧ t ≤ g 0 0 → σ.1 (T + 20) (s * 8 + t) = (jn_AP g S L fo y s t).1 ∧ σ.1 (T + 21) (s * 8 + t) = ((jn_AP g S L fo y s t).2 : Nat)) ∧
  (¬ (s < S.1 ∧ t ≤ g 0 0) → σ.1 (T + 20) (s * 8 + t) = 0 ∧ σ.1 (T + 21) (s * 8 + t) = 0)
def jn_TI (σ : jg_M) (T : Nat) (g : gM) (S : jn_Q) (L : Int → Int → Nat) (fo : Int → Nat) (y s t : Int) (z : Prop) : Prop := ∀ s' t', 0 ≤ s' → s' < 48 → 0 ≤ t' → t' < 8 →
  (t' ≤ g 0 0 ∧ (s' < s ∨ (s' = s ∧ t' < t)) → σ.1 (T + 20) (s' * 8 + t') = (jn_AP g S L fo y s' t').1 ∧ σ.1 (T + 21) (s' * 8 + t') = ((jn_AP g S L fo y s' t').2 : Nat)) ∧
  (¬ (t' ≤ g 0 0 ∧ (s' < s ∨ (s' = s ∧ t' < t))) → σ.1 (T + 20) (s' * 8 + t') = 0 ∧ (t' ≤ g 0 0 ∧ s' = s ∧ z → σ.1 (T + 21) (s' * 8 + t') = (jn_rm g S L fo y s' t' : Nat)) ∧ (¬ (t' ≤ g 0 0 ∧ s' = s ∧ z) → σ.1 (T + 21) (s' * 8 + t') = 0))
/-- what the tables in the class are -/
def jn_TR (σ : jg_M) (T : Nat) (g : gM) (y : Int) : Prop := ∃ e f fo, jn_lEF g e f ∧ jn_lW g e f fo ∧ jn_GE σ (T + 1) g e f ∧ (∀ k, 0 ≤ k → k < 5 → σ.1 (T + 1 + 8) k = (fo k : Nat)) ∧
  ((g 0 1 = 0 ∧ σ.1 (T + 10) 0 = 0 ∧ ∀ i, 0 ≤ i → i < 384 → σ.1 (T + 20) i = 0 ∧ σ.1 (T + 21) i = 0) ∨
   (0 < g 0 1 ∧ ∃ S L, jn_all g = some S ∧ jn_lL g e f S L ∧ jn_TB σ T g e f S L fo ∧ jn_TC σ T g S L fo y))
def jW_tm (T : Nat) (a : Nat) (i : Int) : Prop := (a = T + 1 ∧ i = 11) ∨ a = T + 1 + 7 ∨ a = T + 1 + 8 ∨ (a = T + 10 ∧ (i = 0 ∨ i = 6 ∨ i = 11)) ∨ (T + 11 ≤ a ∧ a ≤ T + 21)
section JMK
variable {w : Nat} {σ : jg_M} {A G T : Nat} {g : gM} {x r k a b s t y : Int} {c : Int} {e m : Nat} {f fo : Int → Nat} {S S' : jn_Q} {L L' : Int → Int → Nat} {K : jg_M → Prop} {KI : Int → jg_M → Prop}
theorem jn_rm_lt : jn_rm g S L fo y s t < 4096 := jn_mk_lt
theorem jn_rm_nr {i : Nat} (h : (jn_rm g S L fo y s t).testBit i = true) : (i : Int) < g 0 2 := (jn_mk_bit.mp h).2.1
theorem jc_X8_makeA (h0 : jg_sh T = (8, 0)) (h1 : jg_sh (T + 1) = (0, 0)) (h2 : jg_sh (T + 10) = (7, 0)) (h3 : jg_sh (T + 20) = (20, 384)) (hW : jn_GW g) (hB : jn_TB σ T g e f S L fo) (hF : jn_FP g S) (hy : jr y) (hz : ∀ i, 0 ≤ i → i < 384 → σ.1 (T + 20) i = 0 ∧ σ.1 (T + 21) i = 0)
    (hk : ∀ τ, jF (fun a _ => a = T + 20 ∨ a = T + 21) σ τ → jn_TC τ T g S L fo y → KI 1 τ) : jg_GI w 5 mm_X8_make 91 [.ref T, .int (.ofInt y), .int (.ofInt 0), mj_U] σ KI := by
  have hI1 := hF.1.1
  have hw := hW.1
  have hBt : ∀ τ, jF (fun a _ => a = T + 20 ∨ a = T + 21) σ τ → jn_TB τ T g e f S L fo := fun τ h => jn_TB_fr hB h (fun a i h => by omega)
  have hin : ∀ (m : Nat) (s t : Int) (τ : jg_M), (∀ (u3 : Value) (τ : jg_M), jF (fun a _ => a = T + 20 ∨ a = T + 21) σ τ → jn_TI τ T g S L fo y (s + 1) 0 False → jg_GI w 5 mm_X8_make 91 [.ref T, .int (.ofInt y), .int (.ofInt (s + 1)), u3] τ KI) →
      0 ≤ s → s < S.1 → 0 ≤ t → t + m = g 0 0 + 1 → jF (fun a _ => a = T + 20 ∨ a = T + 21) σ τ → jn_TI τ T g S L fo y s t True → jg_GI w 5 mm_X8_make 110 [.ref T, .int (.ofInt y), .int (.ofInt s), .int (.ofInt t)] τ KI := by
    intro m
    induction m with
    | zero =>
      intro s t τ hP s0 s1 t0 t1 hFτ hI
      refine jb_X8_make_110 h0 ?_
      rw [(hBt τ hFτ).1.1.1.1, jr_wr (by omega), jr_wr (by omega)]
      refine jn_ite (fun _ => hP _ τ hFτ (fun s' t' q1 q2 q3 q4 => ?_)) (fun hh => by omega)
      obtain ⟨p1, p2⟩ := hI s' t' q1 q2 q3 q4
      refine ⟨fun h => p1 (by omega), fun h => ?_⟩
      obtain ⟨p3, p4, p5⟩ := p2 (by omega)
      exact ⟨p3, fun q => q.2.2.elim, fun _ => p5 (by omega)⟩
    | succ m ih =>
      intro s t τ hP s0 s1 t0 t1 hFτ hI
      refine jb_X8_make_110 h0 ?_
      rw [(hBt τ hFτ).1.1.1.1, jr_wr (by omega), jr_wr (by omega)]
      refine jn_ite (fun hh => by omega) (fun _ => ?_)
      have hst := ((hI s t s0 (by omega) t0 (by omega)).2 (by omega)).2.1 ⟨by omega, rfl, trivial⟩
      refine jc_X8_decide h0 h1 h2 h3 hW (hBt τ hFτ) hF ⟨s0, s1⟩ ⟨t0, by omega⟩ jn_rm_lt (fun i hi => jn_rm_nr hi) hst (fun υ a1 a2 a3 => ?_)
      refine ih s (t + 1) υ hP s0 s1 (by omega) (by omega) (jF_tr hFτ (jF_mono a1 (fun a i h => h.1))) (fun s' t' q1 q2 q3 q4 => ?_)
      by_cases hh : s' = s ∧ t' = t
      · rw [hh.1, hh.2]
        exact ⟨fun _ => ⟨a2, a3⟩, fun h => absurd ⟨by omega, Or.inr ⟨rfl, by omega⟩⟩ h⟩
      · obtain ⟨p1, p2⟩ := hI s' t' q1 q2 q3 q4
        rw [a1.1 _ _ (by omega), a1.1 _ _ (by omega)]
        exact ⟨fun h => p1 (by omega), fun h => p2 (by omega)⟩
  have hout : ∀ (m : Nat) (s : Int) (u3 : Value) (τ : jg_M), 0 ≤ s → s + m = S.1 → jF (fun a _ => a = T + 20 ∨ a = T + 21) σ τ → jn_TI τ T g S L fo y s 0 False → jg_GI w 5 mm_X8_make 91 [.ref T, .int (.ofInt y), .int (.ofInt s), u3] τ KI := by
    intro m
    induction m with
    | zero =>
      intro s u3 τ s0 s1 hFτ hI
      refine jb_X8_make_91 h0 ?_
      rw [(hBt τ hFτ).2.1.1.1, jr_wr (by omega), jr_wr (by omega)]
      refine jn_ite (fun _ => hk τ hFτ (fun s' t' q1 q2 q3 q4 => ?_)) (fun hh => by omega)
      obtain ⟨p1, p2⟩ := hI s' t' q1 q2 q3 q4
      exact ⟨fun h => p1 (by omega), fun h => ⟨(p2 (by omega)).1, (p2 (by omega)).2.2 (fun q => q.2.2)⟩⟩
    | succ m ih =>
      intro s u3 τ s0 s1 hFτ hI
      refine jb_X8_make_91 h0 ?_
      rw [(hBt τ hFτ).2.1.1.1, jr_wr (by omega), jr_wr (by omega)]
      refine jn_ite (fun hh => by omega) (fun _ => ?_)
      refine jc_X8_gatherReduces h0 h1 h2 hW (hBt τ hFτ) hF ⟨s0, by omega⟩ hy (fun t t1 t2 => ((hI s t s0 (by omega) t1 (by omega)).2 (by omega)).2.2 (fun q => q.2.2)) (fun υ a1 a2 => ?_)
      refine hin (g 0 0 + 1).toNat s 0 υ (fun u3 τ' q1 q2 => ih (s + 1) u3 τ' (by omega) (by omega) q1 q2) s0 (by omega) (by omega) (by omega) (jF_tr hFτ (jF_mono a1 (fun a i h => Or.inr h.1))) (fun s' t' q1 q2 q3 q4 => ?_)
      obtain ⟨p1, p2⟩ := hI s' t' q1 q2 q3 q4
      rw [a1.1 (T + 20) _ (by omega)]
      by_cases hh : s' = s ∧ t' ≤ g 0 0
      · refine ⟨fun h => by omega, fun h => ⟨(p2 h).1, fun _ => ?_, fun q => absurd ⟨hh.2, hh.1, trivial⟩ q⟩⟩
        rw [hh.1]
        exact a2 t' q3 hh.2
      · rw [a1.1 (T + 21) _ (by omega)]
        exact ⟨p1, fun h => ⟨(p2 h).1, fun q => absurd ⟨q.2.1, q.1⟩ hh, fun _ => (p2 h).2.2 (fun q => q.2.2)⟩⟩
  refine hout S.1.toNat 0 _ σ (by omega) (by omega) jF_rf (fun s' t' q1 q2 q3 q4 => ⟨fun h => by omega, fun _ => ?_⟩)
  have := hz (s' * 8 + t') (by omega) (by omega)
  exact ⟨this.1, fun q => q.2.2.elim, fun _ => this.2⟩
theorem jc_X8_make (h0 : jg_sh T = (8, 0)) (h1 : jg_sh (T + 1) = (0, 0)) (h2 : jg_sh (T + 10) = (7, 0)) (h3 : jg_sh (T + 20) = (20, 384)) (h4 : jg_sh (T + 21) = (20, 384)) (hW : jn_GW g) (hG : jn_Gr σ (T + 1) g) (hy : jr y)
    (k0 : 0 < g 0 1 → jn_all g = none → ∀ τ, jF (jW_tm T) σ τ → KI 0 τ) (k1 : (g 0 1 = 0 ∨ (0 < g 0 1 ∧ ∃ S, jn_all g = some S)) → ∀ τ, jF (jW_tm T) σ τ → jn_TR τ T g y → KI 1 τ) : jg_CI w 5 mm_X8_make [.ref T, .int (.ofInt y)] σ KI := by
  have hw := hW.1
  have hpl := jn_pow_lt hW
  refine jb_X8_make_0 h0 (jc_X0_settleEmpties h1 hG hW (fun τ1 e b1 b2 b3 b4 b5 => ?_))
  have hG1 : jn_Gr τ1 (T + 1) g := jn_Gr_fr hG b1 (fun i _ => by omega) (fun k i _ _ => by omega)
  refine jc_X0_settleFirsts h1 hG1 hW b2 b3 (fun τ2 f c1 c2 c3 c4 c5 c6 => ?_)
  have hG2 : jn_Gr τ2 (T + 1) g := jn_Gr_fr hG1 c1 (fun i _ => by omega) (fun k i _ _ => by omega)
  have hE2 : τ2.1 (T + 1) 11 = (e : Int) := (c1.1 _ _ (by omega)).trans b2
  refine jc_X0_settleFollows h1 hG2 hW hE2 b3 c2 c3 (fun τ3 fo d1 d2 d3 => ?_)
  have hEF := jn_lEF_of hW b3 b4 b5 c3 c4 c5 c6
  have hGE3 : jn_GE τ3 (T + 1) g e f := ⟨jn_Gr_fr hG2 d1 (fun i _ => by omega) (fun k i _ _ => by omega), (d1.1 _ _ (by omega)).trans hE2, fun k k1 k2 => (d1.1 _ _ (by omega)).trans (c2 k k1 k2), b3, c3⟩
  refine jc_fill h3 (by omega) (fun τ4 e1 e2 => jc_fill h4 (by omega) (fun τ5 f1 f2 => ?_))
  have h34 : jF (jW_tm T) τ3 τ5 := jF_tr (jF_mono e1 (fun a i h => by unfold jW_tm; omega)) (jF_mono f1 (fun a i h => by unfold jW_tm; omega))
  have h03 : jF (jW_tm T) σ τ3 := jF_tr (jF_mono b1 (fun a i h => by unfold jW_tm; omega)) (jF_tr (jF_mono c1 (fun a i h => by unfold jW_tm; omega)) (jF_mono d1 (fun a i h => by unfold jW_tm; omega)))
  have h35 : jF (fun a _ => a = T + 20 ∨ a = T + 21) τ3 τ5 := jF_tr (jF_mono e1 (fun a i h => by omega)) (jF_mono f1 (fun a i h => by omega))
  have hGE5 : jn_GE τ5 (T + 1) g e f := jn_GE_fr hGE3 h35 (fun i _ => by omega) (fun k i _ _ => by omega)
  refine jc_X7_prepareItems h2 h1 (by omega) hGE5 hW (fun τ6 g1 g2 => ?_)
  have hGE6 : jn_GE τ6 (T + 1) g e f := jn_GE_fr hGE5 g1 (fun i _ => by unfold jW_pr; omega) (fun k i _ _ => by unfold jW_pr; omega)
  have h56 : jF (jW_tm T) τ5 τ6 := jF_mono g1 (fun a i h => by unfold jW_pr at h; unfold jW_tm; omega)
  have hz6 : ∀ i, 0 ≤ i → i < 384 → τ6.1 (T + 20) i = 0 ∧ τ6.1 (T + 21) i = 0 := fun i i1 i2 => ⟨(g1.1 _ _ (by unfold jW_pr; omega)).trans ((f1.1 _ _ (by omega)).trans (e2 i i1 i2)), (g1.1 _ _ (by unfold jW_pr; omega)).trans (f2 i i1 i2)⟩
  have hfo6 : ∀ k, 0 ≤ k → k < 5 → τ6.1 (T + 1 + 8) k = (fo k : Nat) := fun k k1 k2 => (g1.1 _ _ (by unfold jW_pr; omega)).trans ((h35.1 _ _ (by omega)).trans (d2 k k1 k2))
  have h06 := jF_tr h03 (jF_tr h34 h56)
  refine jc_X7_make h2 h1 (by omega) hGE6 hW g2 (fun n0 τ7 i1 i2 => ?_) (fun n0 hn τ7 i1 => ?_) (fun n0 S hS hI τ7 i1 i2 i3 => ?_) <;>
    have h07 : jF (jW_tm T) σ τ7 := jF_tr h06 (jF_mono i1 (fun a i h => by unfold jW_ma at h; unfold jW_tm; omega))
  · have hGE7 : jn_GE τ7 (T + 1) g e f := jn_GE_fr hGE6 i1 (fun i _ => by unfold jW_ma; omega) (fun k i _ _ => by unfold jW_ma; omega)
    rw [show jg_wr 1 = 1 from rfl, hGE7.1.1.2.2.1, hGE7.1.1.1, hpl.2]
    refine jn_ite (fun h => by omega) (fun _ => jc_X7_spread0 h2 i2 (by omega) (fun τ8 j1 => ?_))
    have h8 : τ8.1 (T + 10) 0 = 0 := (j1.1 _ _ (by omega)).trans i2
    refine jb_X8_make_91 h0 ?_
    rw [h8, show jg_wr 0 = 0 from rfl]
    refine jn_ite (fun _ => k1 (Or.inl n0) τ8 (jF_tr h07 (jF_mono j1 (fun a i h => by unfold jW_tm; omega))) ⟨e, f, fo, hEF, d3, jn_GE_fr hGE7 j1 (fun i _ => by omega) (fun k i _ _ => by omega), fun k k1 k2 => ?_, Or.inl ⟨n0, h8, fun i q1 q2 => ?_⟩⟩) (fun h => absurd (Int.le_refl 0) h)
    · exact (j1.1 _ _ (by omega)).trans ((i1.1 _ _ (by unfold jW_ma; omega)).trans (hfo6 k k1 k2))
    · rw [j1.1 _ _ (by omega), j1.1 _ _ (by omega), i1.1 _ _ (by unfold jW_ma; omega), i1.1 _ _ (by unfold jW_ma; omega)]
      exact hz6 i q1 q2
  · rw [show jg_wr 0 = 0 from rfl]
    exact jn_ite (fun _ => k0 n0 hn τ7 h07) (fun h => absurd rfl h)
  · have hGE7 : jn_GE τ7 (T + 1) g e f := jn_GE_fr hGE6 i1 (fun i _ => by unfold jW_ma; omega) (fun k i _ _ => by unfold jW_ma; omega)
    rw [show jg_wr 1 = 1 from rfl, hGE7.1.1.2.2.1, hGE7.1.1.1, hpl.2]
    have hPr7 : jn_Pr τ7 (T + 10) g e f := by
      obtain ⟨p1, p2, p3, p4, p5⟩ := g2
      refine ⟨fun s s1 s2 => (i1.2 _ _ (by unfold jW_ma; omega)).trans (p1 s s1 s2), fun x x1 x2 => (i1.2 _ _ (by unfold jW_ma; omega)).trans (p2 x x1 x2), fun i hi => ?_, (i1.2 _ _ (by unfold jW_ma; omega)).trans p4, (i1.1 _ _ (by unfold jW_ma; omega)).trans p5⟩
      rw [i1.1 _ _ (by unfold jW_ma; omega), i1.1 _ _ (by unfold jW_ma; omega)]
      exact p3 i hi
    have hFP := jn_all_FP hW hS
    have hX7 : jn_Fx τ7 (T + 10) g e f S := ⟨i2, i3, hPr7⟩
    refine jn_ite (fun h => by omega) (fun _ => jc_X7_spread h2 hW c3 hX7 hFP (fun τ8 L j1 j2 j3 => ?_))
    have hGE8 : jn_GE τ8 (T + 1) g e f := jn_GE_fr hGE7 j1 (fun i _ => by omega) (fun k i _ _ => by omega)
    have hfo8 : ∀ k, 0 ≤ k → k < 5 → τ8.1 (T + 1 + 8) k = (fo k : Nat) := fun k k1 k2 => (j1.1 _ _ (by omega)).trans ((i1.1 _ _ (by unfold jW_ma; omega)).trans (hfo6 k k1 k2))
    have hTB : jn_TB τ8 T g e f S L fo := ⟨hGE8, jn_Fx_fr hX7 j1 (fun a i h => by omega), j2, hfo8, j3.2.1, d3.2.1⟩
    refine jc_X8_makeA h0 h1 h2 h3 hW hTB hFP hy (fun i q1 q2 => ?_) (fun τ9 m1 m2 => ?_)
    · rw [j1.1 _ _ (by omega), j1.1 _ _ (by omega), i1.1 _ _ (by unfold jW_ma; omega), i1.1 _ _ (by unfold jW_ma; omega)]
      exact hz6 i q1 q2
    · exact k1 (Or.inr ⟨n0, S, hS⟩) τ9 (jF_tr h07 (jF_tr (jF_mono j1 (fun a i h => by unfold jW_tm; omega)) (jF_mono m1 (fun a i h => by unfold jW_tm; omega)))) ⟨e, f, fo, hEF, d3, jn_GE_fr hGE8 m1 (fun i _ => by omega) (fun k i _ _ => by omega), fun k k1 k2 => (m1.1 _ _ (by omega)).trans (hfo8 k k1 k2), Or.inr ⟨n0, S, L, hS, j3, jn_TB_fr hTB m1 (fun a i h => by omega), m2⟩⟩
end JMK
