/-! ONE choice of what the tables of a grammar are, for both sides -/
noncomputable def kg_EF (g : gM) : Nat × (Int → Nat) := Classical.epsilon (fun p => jn_lEF g p.1 p.2)
noncomputable def kg_e (g : gM) : Nat := (kg_EF g).1
noncomputable def kg_f (g : gM) : Int → Nat := (kg_EF g).2
noncomputable def kg_fo (g : gM) : Int → Nat := Classical.epsilon (fun q => jn_lW g (kg_e g) (kg_f g) q)
noncomputable def kg_S (g : gM) : jn_Q := (jn_all g).getD (jn_S0 g)
noncomputable def kg_L (g : gM) : Int → Int → Nat := Classical.epsilon (fun L => jn_lL g (kg_e g) (kg_f g) (kg_S g) L)
noncomputable def kg_A (g : gM) : Nat → Nat := Classical.epsilon (fun a => jn_lA g (kg_e g) (kg_S g) a)
/-- ACTION and the RULES left out -/
noncomputable def kg_ap (g : gM) (y s t : Int) : Int × Nat := jn_AP g (kg_S g) (kg_L g) (kg_fo g) y s t
section KGA
variable {g : gM} {e : Nat} {f f' fo fo' : Int → Nat} {S : jn_Q} {L L' : Int → Int → Nat} {a : Nat → Nat} {y s t : Int}
theorem kg_S_eq (h : jn_all g = some S) : S = kg_S g := by unfold kg_S; rw [h]; rfl
theorem kg_EF_ok (hW : jn_GW g) (h : jn_lEF g e f) : jn_lEF g (kg_e g) (kg_f g) ∧ e = kg_e g ∧ ∀ x, 0 ≤ x → x < 5 → f x = kg_f g x := by
  have h1 : jn_lEF g (kg_e g) (kg_f g) := Classical.epsilon_spec (p := fun p : Nat × (Int → Nat) => jn_lEF g p.1 p.2) ⟨(e, f), h⟩
  exact ⟨h1, jn_lEF_uniq hW h h1⟩
theorem kg_FF (hW : jn_GW g) (h : ∀ x, 0 ≤ x → x < 5 → f x = f' x) (r : Int) : ∀ (n : Nat) (k : Int), jn_FF g e f r n k = jn_FF g e f' r n k
  | 0, _ => rfl
  | n + 1, k => by
    have hs := jn_sym_jr (r := r) (k := k) hW
    unfold jn_FF
    by_cases h1 : jn_sym g r k < 10
    · rw [if_pos h1, if_pos h1]
    · rw [if_neg h1, if_neg h1, h _ (by omega) (by omega), kg_FF hW h r n (k + 1)]
theorem kg_F (hW : jn_GW g) (h : ∀ x, 0 ≤ x → x < 5 → f x = f' x) : jn_F g e f = jn_F g e f' := funext fun r => funext fun k => kg_FF hW h r _ _
theorem kg_lW (hW : jn_GW g) (h : ∀ x, 0 ≤ x → x < 5 → f x = f' x) : jn_lW g e f fo = jn_lW g e f' fo := by
  have hT : ∀ w, jn_T g e f w = jn_T g e f' w := fun w => funext fun r => funext fun d => by
    unfold jn_T
    rw [kg_F hW h]
  have hc : jn_cW g e f = jn_cW g e f' := funext fun w => by
    unfold jn_cW jn_cW1
    rw [hT]
  unfold jn_lW
  rw [hc]
theorem kg_lL (hW : jn_GW g) (h : ∀ x, 0 ≤ x → x < 5 → f x = f' x) : jn_lL g e f S L = jn_lL g e f' S L := by
  have hB : ∀ L, jn_LB g e f L = jn_LB g e f' L := fun L => funext fun s => funext fun i => by
    unfold jn_LB
    rw [kg_F hW h]
  have hc : jn_cL g e f S = jn_cL g e f' S := funext fun L => by
    unfold jn_cL jn_c1
    rw [hB]
  unfold jn_lL jn_mL
  rw [hc]
theorem kg_fo_ok (hW : jn_GW g) (h : jn_lEF g e f) (hw : jn_lW g e f fo) : jn_lW g (kg_e g) (kg_f g) (kg_fo g) ∧ ∀ x, 0 ≤ x → x < 5 → fo x = kg_fo g x := by
  obtain ⟨h1, h2, h3⟩ := kg_EF_ok hW h
  rw [kg_lW hW h3, h2] at hw
  have h4 : jn_lW g (kg_e g) (kg_f g) (kg_fo g) := Classical.epsilon_spec (p := fun q => jn_lW g (kg_e g) (kg_f g) q) ⟨fo, hw⟩
  exact ⟨h4, jn_lW_uniq hw h4⟩
theorem kg_L_ok (hW : jn_GW g) (h : jn_lEF g e f) (hS : jn_all g = some S) (hl : jn_lL g e f S L) : jn_lL g (kg_e g) (kg_f g) (kg_S g) (kg_L g) ∧ ∀ s x, 0 ≤ s → s < S.1 → 0 ≤ x → x < 62 → L s x = kg_L g s x := by
  obtain ⟨h1, h2, h3⟩ := kg_EF_ok hW h
  have hSe := kg_S_eq hS
  subst hSe
  rw [kg_lL hW h3, h2] at hl
  have h4 : jn_lL g (kg_e g) (kg_f g) (kg_S g) (kg_L g) := Classical.epsilon_spec (p := fun L => jn_lL g (kg_e g) (kg_f g) (kg_S g) L) ⟨L, hl⟩
  exact ⟨h4, fun s x s0 s1 x0 x1 => jn_lL_uniq hl h4 ⟨s0, s1⟩ ⟨x0, x1⟩⟩
theorem kg_A_ok (h : jn_lA g (kg_e g) (kg_S g) a) : jn_lA g (kg_e g) (kg_S g) (kg_A g) ∧ ∀ m, m < 240 → jn_mv (kg_S g) m = true → a m = kg_A g m := by
  have h4 : jn_lA g (kg_e g) (kg_S g) (kg_A g) := Classical.epsilon_spec (p := fun a => jn_lA g (kg_e g) (kg_S g) a) ⟨a, h⟩
  exact ⟨h4, fun m hm hv => jn_lA_uniq h h4 hm hv⟩
/-- what is in a state where all rows of BEHIND are alike -/
theorem kg_AP (hW : jn_GW g) (hl : ∀ x, 0 ≤ x → x < 62 → L s x = L' s x) (hf : ∀ x, 0 ≤ x → x < 5 → fo x = fo' x) : jn_AP g S L fo y s t = jn_AP g S L' fo' y s t := by
  unfold jn_AP
  have hw := hW.1
  have hr : jn_rm g S L fo y s t = jn_rm g S L' fo' y s t := by
    unfold jn_rm
    refine jn_mk_eq (fun i hi => ?_)
    unfold jn_rd
    by_cases h1 : (i : Int) < g 0 2
    · have hlen := jn_len_rng (r := (i : Int)) hW
      have h3 := (hW.2.1 (i : Int) (by omega) h1).1
      rw [hl ((i : Int) * 5 + jn_len g i) (by omega) (by omega), hf (g 3 i) (by omega) (by omega)]
    · exact ⟨fun q => absurd q.1 h1, fun q => absurd q.1 h1⟩
  rw [hr]
end KGA
/-- what the class' tables ARE, in the one choice -/
def kg_CT (σ : jg_M) (T : Nat) (g : gM) (y : Int) : Prop := jn_GE σ (T + 1) g (kg_e g) (kg_f g) ∧ (∀ k, 0 ≤ k → k < 5 → σ.1 (T + 1 + 8) k = (kg_fo g k : Nat)) ∧
  ((g 0 1 = 0 ∧ σ.1 (T + 10) 0 = 0 ∧ ∀ i, 0 ≤ i → i < 384 → σ.1 (T + 20) i = 0 ∧ σ.1 (T + 21) i = 0) ∨
   (0 < g 0 1 ∧ jn_all g = some (kg_S g) ∧ jn_FP g (kg_S g) ∧ (∀ s i, kg_L g s i < 256) ∧ jn_Fx σ (T + 10) g (kg_e g) (kg_f g) (kg_S g) ∧ (∀ s i, 0 ≤ s → s < (kg_S g).1 → 0 ≤ i → i < 62 → σ.1 (T + 15) (s * 62 + i) = (kg_L g s i : Nat)) ∧ jn_TC σ T g (kg_S g) (kg_L g) (kg_fo g) y))
/-- what the reference's tables ARE -/
def kg_MT (σ : jg_M) (c : Int) (g : gM) (y : Int) : Prop := σ.1 (92 + 20) c = ((kg_e g : Nat) : Int) ∧ (∀ k, 0 ≤ k → k < 5 → σ.1 (92 + 21) (5 * c + k) = ((kg_f g k : Nat) : Int)) ∧
  ((g 0 1 = 0 ∧ σ.1 (92 + 13) c = 0 ∧ σ.1 (92 + 22) c = 0) ∨ (0 < g 0 1 ∧ jn_all g = some (kg_S g) ∧ jn_FP g (kg_S g) ∧ jn_RK σ c g (kg_S g) ∧ jn_LMm σ c (kg_S g) (kg_L g) ∧ jn_MC σ c g (kg_S g) (kg_L g) (kg_fo g) y))
section KGB
variable {σ : jg_M} {T : Nat} {g : gM} {y a c : Int} {S : jn_Q} {L : Int → Int → Nat} {fo : Int → Nat}
theorem kg_Pb {τ : jg_M} {A : Nat} {e : Nat} {f f' : Int → Nat} (hW : jn_GW g) (hf : ∀ x, 0 ≤ x → x < 5 → f x = f' x) (h : jn_Pr τ A g e f) : jn_Pr τ A g e f' := by
  unfold jn_Pr at h ⊢
  rw [← kg_F hW hf]
  exact h
theorem kg_TC (hW : jn_GW g) (hS : S.1 ≤ 48) {L' : Int → Int → Nat} {fo' : Int → Nat} (hl : ∀ s x, 0 ≤ s → s < S.1 → 0 ≤ x → x < 62 → L s x = L' s x) (hf : ∀ x, 0 ≤ x → x < 5 → fo x = fo' x) (h : jn_TC σ T g S L fo y) : jn_TC σ T g S L' fo' y := by
  intro s t s0 s1 t0 t1
  refine ⟨fun q => ?_, fun q => (h s t s0 s1 t0 t1).2 q⟩
  have := (h s t s0 s1 t0 t1).1 q
  rw [kg_AP (y := y) (t := t) (S := S) hW (fun x x0 x1 => hl s x s0 q.1 x0 x1) hf] at this
  exact this
theorem kg_CT_of (hW : jn_GW g) (h : jn_TR σ T g y) : kg_CT σ T g y := by
  obtain ⟨e, f, fo, h1, h2, h3, h4, h5⟩ := h
  obtain ⟨q1, q2, q3⟩ := kg_EF_ok hW h1
  obtain ⟨q4, q5⟩ := kg_fo_ok hW h1 h2
  have hlt := q1.1.2.2.2.1
  refine ⟨⟨h3.1, by rw [← q2]; exact h3.2.1, fun k k0 k1 => by rw [← q3 k k0 k1]; exact h3.2.2.1 k k0 k1, by rw [← q2]; exact h3.2.2.2.1, fun k k0 k1 => by rw [← q3 k k0 k1]; exact h3.2.2.2.2 k k0 k1⟩, fun k k0 k1 => by rw [← q5 k k0 k1]; exact h4 k k0 k1, ?_⟩
  rcases h5 with h5 | ⟨g0, S, L, s1, s2, s3, s4⟩
  · exact Or.inl h5
  · refine Or.inr ⟨g0, ?_⟩
    have hSe := kg_S_eq s1
    obtain ⟨q6, q7⟩ := kg_L_ok hW h1 s1 s2
    rw [← hSe]
    have hFP := jn_all_FP hW s1
    have hI := hFP.1.1
    refine ⟨s1, hFP, fun s i => q6.2.1 s i, ?_, fun s i s0 s1 i0 i1 => ?_, kg_TC hW hI.2 q7 q5 s4⟩
    · obtain ⟨b1, b2, b3⟩ := s3.2.1
      refine ⟨b1, b2, ?_⟩
      rw [← q2]
      exact kg_Pb hW q3 b3
    · rw [← q7 s i s0 s1 i0 i1]
      exact s3.2.2.1 s i s0 (by omega) i0 i1
theorem kg_ls_eq {lm lm' : Nat → Nat} : ∀ {k : Nat}, (∀ c, c ≤ k / 16 → lm c = lm' c) → jn_ls lm k = jn_ls lm' k
  | 0, _ => rfl
  | k + 1, h => by
    unfold jn_ls
    rw [kg_ls_eq (fun c hc => h c (by omega)), h (k / 16) (by omega)]
end KGB
section KGC
variable {σ : jg_M} {g : gM} {y a c : Int} {S : jn_Q} {L L' : Int → Int → Nat} {fo fo' : Int → Nat}
theorem kg_lm (hW : jn_GW g) (hl : ∀ s x, 0 ≤ s → s < S.1 → 0 ≤ x → x < 62 → L s x = L' s x) (hf : ∀ x, 0 ≤ x → x < 5 → fo x = fo' x) : jn_lm g S L fo y = jn_lm g S L' fo' y := funext fun cell => by
  unfold jn_lm
  by_cases h : ((cell / 8 : Nat) : Int) < S.1 ∧ ((cell % 8 : Nat) : Int) ≤ g 0 0
  · rw [if_pos h, if_pos h, kg_AP hW (fun x x0 x1 => hl _ x (by omega) h.1 x0 x1) hf]
  · rw [if_neg h, if_neg h]
theorem kg_MC (hW : jn_GW g) (hl : ∀ s x, 0 ≤ s → s < S.1 → 0 ≤ x → x < 62 → L s x = L' s x) (hf : ∀ x, 0 ≤ x → x < 5 → fo x = fo' x) (h : jn_MC σ c g S L fo y) : jn_MC σ c g S L' fo' y := by
  refine ⟨fun s t s0 s1 t0 t1 => ?_, ?_⟩
  · rw [h.1 s t s0 s1 t0 t1, kg_AP hW (fun x x0 x1 => hl s x s0 s1 x0 x1) hf]
  · rw [← kg_lm hW hl hf]
    exact h.2
theorem kg_MC0 (h : jn_MC σ c g S L fo 0) : jn_MC σ c g S L fo' 0 := by
  have e : jn_lm g S L fo 0 = jn_lm g S L fo' 0 := rfl
  exact ⟨fun s t s0 s1 t0 t1 => h.1 s t s0 s1 t0 t1, by rw [← e]; exact h.2⟩
theorem kg_LMm (hl : ∀ s x, 0 ≤ s → s < S.1 → 0 ≤ x → x < 62 → L s x = L' s x) (h : jn_LMm σ c S L) : jn_LMm σ c S L' := fun s i s0 s1 i0 i1 => by
  rw [← hl s i s0 s1 i0 i1]
  exact h s i s0 s1 i0 i1
theorem kg_MT_of (hW : jn_GW g) (h : jn_MT σ a c g) : kg_MT σ c g 0 := by
  obtain ⟨_, _, e, f, h1, h2, h3, h4⟩ := h
  obtain ⟨q1, q2, q3⟩ := kg_EF_ok hW h1
  refine ⟨by rw [← q2]; exact h2, fun k k0 k1 => by rw [← q3 k k0 k1]; exact h3 k k0 k1, ?_⟩
  rcases h4 with h4 | ⟨g0, S, L, s1, s2, s3, s4, s5⟩
  · exact Or.inl h4
  · refine Or.inr ⟨g0, ?_⟩
    have hSe := kg_S_eq s1
    obtain ⟨q6, q7⟩ := kg_L_ok hW h1 s1 s2
    rw [← hSe]
    exact ⟨s1, jn_all_FP hW s1, s3, kg_LMm q7 s4, kg_MC0 (kg_MC hW q7 (fun _ _ _ => rfl) s5)⟩
end KGC
