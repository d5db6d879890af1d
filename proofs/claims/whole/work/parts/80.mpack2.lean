/-! PACKED, in the reference: all of it -/
section KBF
variable {w : Nat} {σ τ : jg_M} {n m k c o t : Nat} {g : gM} {S : jn_Q} {L : Int → Int → Nat} {s x : Int} {P : kb_P} {D D' : Int → Prop} {fo : Int → Nat} {KV : jg_M → Prop}
theorem kb_MM_mono (h : kb_MM σ D P) (hd : ∀ j, D' j → D j) : kb_MM σ D' P := ⟨h.1, fun s hs => h.2.1 s (hd s hs), h.2.2⟩
theorem kb_lay_off {ac : Int → Nat → Int} {j : Int} (h : j ≠ s) : (kb_lay ac s P).2.1 j = P.2.1 j := by
  unfold kb_lay
  rw [kb_puts_off]
  show jn_u1 P.2.1 s _ j = _
  unfold jn_u1
  exact if_neg h
theorem kb_row_off {ac : Int → Nat → Int} {an : Nat → Nat} {j : Nat} (h : an j ≠ k) : ∀ {m : Nat}, (kb_row ac an k m P).2.1 (j : Int) = P.2.1 (j : Int)
  | 0 => rfl
  | m + 1 => by
    unfold kb_row
    by_cases hm : an m = k
    · rw [if_pos hm, kb_lay_off (fun q => h (by rw [show j = m by omega]; exact hm))]
      exact kb_row_off h
    · rw [if_neg hm]
      exact kb_row_off h
theorem kb_dn_off {ac : Int → Nat → Int} {an : Nat → Nat} {j : Nat} (h : an j = 0) : ∀ {k : Nat}, k ≤ 8 → (kb_dn ac an n k kb_P0).2.1 (j : Int) = 0
  | 0, _ => rfl
  | k + 1, hk => by
    show (kb_row ac an (8 - k) n (kb_dn ac an n k kb_P0)).2.1 (j : Int) = 0
    rw [kb_row_off (by omega)]
    exact kb_dn_off h (by omega)
def kb_D (g : gM) (S : jn_Q) (L : Int → Int → Nat) (k s : Nat) (j : Int) : Prop := (0 ≤ j ∧ j < S.1) ∧ (8 - k < kb_an g S L j.toNat ∨ (kb_an g S L j.toNat = 8 - k ∧ j < s))
theorem jm_zeros (kk : ∀ τ, jF kW_pm σ τ → kb_MM τ (fun _ => False) kb_P0 → ∀ u, jg_GV w 2 mm_X12_layPacked 30 [.ref 92, .int (.ofInt 8), u] τ KV) : jg_CV w 2 mm_X12_layPacked [.ref 92] σ KV := by
  have hloop : ∀ (m k : Nat) (τ : jg_M) (u : Value), k + m = 1000 → jF kW_pm σ τ → (∀ i : Int, 0 ≤ i → i < k → τ.1 (92 + 35) i = 0) → jg_GV w 2 mm_X12_layPacked 2 [.ref 92, .int (.ofInt (k : Int)), u] τ KV := by
    intro m
    induction m with
    | zero =>
      intro k τ u hk hf hz
      refine jb_X12_layPacked_2 rfl ?_
      rw [jr_wr (by omega)]
      refine jn_ite (fun _ => ?_) (fun h => by omega)
      rintro _ rfl
      refine kk _ (jF_toI hf (by unfold kW_pm; omega)) ⟨js_Is, fun j hj => hj.elim, fun i i0 i1 => ⟨?_, fun h => absurd rfl h⟩⟩ _
      rw [js_In (Or.inl (by omega))]
      exact hz i i0 (by omega)
    | succ m ih =>
      intro k τ u hk hf hz
      refine jb_X12_layPacked_2 rfl ?_
      rw [jr_wr (by omega)]
      refine jn_ite (fun h => by omega) (fun _ => ⟨by omega, ?_⟩)
      rintro _ rfl
      have := ih (k + 1) (jg_sI τ (92 + 35) (k : Int) 0) u (by omega) (jF_toI hf (by unfold kW_pm; omega)) (fun i i0 i1 => by
        by_cases hik : i = k
        · rw [hik]; exact js_Is
        · rw [js_In (Or.inr hik)]; exact hz i i0 (by omega))
      rw [show ((k + 1 : Nat) : Int) = (k : Int) + 1 by omega] at this
      exact this
  exact jb_X12_layPacked_0 rfl (hloop 1000 0 σ _ rfl jF_rf (fun i i0 i1 => by omega))
theorem jm_layPacked0 (hn : σ.1 (92 + 13) 0 = 0) (hk : ∀ τ, jF kW_pm σ τ → kb_MM τ (fun _ => False) kb_P0 → KV τ) : jg_CV w 2 mm_X12_layPacked [.ref 92] σ KV := by
  refine jm_zeros (fun τ hf hM => ?_)
  have hloop : ∀ (m : Nat) (u : Value), m ≤ 9 → jg_GV w 2 mm_X12_layPacked 30 [.ref 92, .int (.ofInt ((m : Int) - 1)), u] τ KV := by
    intro m
    induction m with
    | zero =>
      intro u _
      refine jb_X12_layPacked_30 rfl ?_
      rw [jr_wr (by omega)]
      exact jn_ite (fun _ => hk τ hf hM) (fun h => by omega)
    | succ m ih =>
      intro u hm
      refine jb_X12_layPacked_30 rfl ?_
      rw [jr_wr (by omega)]
      refine jn_ite (fun h => by omega) (fun _ => jb_X12_layPacked_36 rfl ?_)
      rw [hf.1 _ _ (fun q => by unfold kW_pm at q; omega), hn, show jg_wr 0 = 0 from rfl]
      refine jn_ite (fun _ => ?_) (fun h => absurd (Int.le_refl 0) h)
      have := ih (.int (.ofInt 0)) (by omega)
      rw [show ((m + 1 : Nat) : Int) - 1 + -1 = (m : Int) - 1 by omega]
      exact this
  intro u
  exact hloop 9 u (Nat.le_refl 9)
theorem jm_layPacked (hW : jn_GW g) (hnt : σ.1 (92 + 3) 0 = g 0 0) (hn : σ.1 (92 + 13) 0 = S.1) (hF : jn_FP g S) (hC : jn_MC σ 0 g S L fo 0) (hk : ∀ τ, jF kW_pm σ τ → kb_MM τ (fun j => 0 ≤ j ∧ j < S.1) (kb_dn (kb_ac g S L) (kb_an g S L) S.1.toNat 8 kb_P0) → KV τ) : jg_CV w 2 mm_X12_layPacked [.ref 92] σ KV := by
  have hI1 := hF.1.1
  have hfr : ∀ τ, jF kW_pm σ τ → τ.1 (92 + 3) 0 = g 0 0 ∧ τ.1 (92 + 13) 0 = S.1 ∧ jn_MC τ 0 g S L fo 0 := fun τ hf => ⟨(hf.1 _ _ (fun q => by unfold kW_pm at q; omega)).trans hnt, (hf.1 _ _ (fun q => by unfold kW_pm at q; omega)).trans hn, kb_MC_fr hC hf⟩
  have hac := kb_ac_rng (L := L) hF
  have hdn := fun (k : Nat) (hk : k ≤ 8) => kb_dn_In (an := kb_an g S L) (n := S.1.toNat) hac (by omega) hk
  have hcs8 : kb_cs (kb_an g S L) S.1.toNat 8 ≤ S.1.toNat := kb_cs_le (Nat.le_refl 8)
  refine jm_zeros (fun τ hf hM u => ?_)
  have hin : ∀ (m s k : Nat) (τ : jg_M), (s : Int) + m = S.1 → k < 8 → jF kW_pm σ τ → kb_MM τ (kb_D g S L k s) (kb_row (kb_ac g S L) (kb_an g S L) (8 - k) s (kb_dn (kb_ac g S L) (kb_an g S L) S.1.toNat k kb_P0)) → (∀ τ u, jF kW_pm σ τ → kb_MM τ (kb_D g S L (k + 1) 0) (kb_dn (kb_ac g S L) (kb_an g S L) S.1.toNat (k + 1) kb_P0) → jg_GV w 2 mm_X12_layPacked 30 [.ref 92, .int (.ofInt (((8 - k : Nat) : Int) + (-1))), u] τ KV) →
      jg_GV w 2 mm_X12_layPacked 36 [.ref 92, .int (.ofInt ((8 - k : Nat) : Int)), .int (.ofInt (s : Int))] τ KV := by
    intro m
    induction m with
    | zero =>
      intro s k τ hs hk8 hf hM kk
      obtain ⟨f1, f2, f3⟩ := hfr τ hf
      refine jb_X12_layPacked_36 rfl ?_
      rw [f2, jr_wr (by omega), jr_wr (by omega)]
      refine jn_ite (fun _ => kk τ _ hf ?_) (fun h => by omega)
      rw [show s = S.1.toNat by omega] at hM
      exact kb_MM_mono hM (fun j hj => ⟨hj.1, by have := hj.2; have := hj.1; omega⟩)
    | succ m ih =>
      intro s k τ hs hk8 hf hM kk
      obtain ⟨f1, f2, f3⟩ := hfr τ hf
      have hrI := kb_row_In (an := kb_an g S L) hac (show S.1.toNat ≤ 48 by omega) hk8 (hdn k (by omega)) (m := s) (by omega)
      have hle := kb_an_le (g := g) (S := S) (L := L) (k := s)
      refine jb_X12_layPacked_36 rfl ?_
      rw [f2, jr_wr (show jr S.1 by omega), jr_wr (show jr (s : Int) by omega)]
      refine jn_ite (fun h => by omega) (fun _ => jm_actionsOf hW f1 hF f3 ⟨by omega, by omega⟩ ?_)
      show (if jg_wr ((kb_an g S L s : Nat) : Int) = jg_wr ((8 - k : Nat) : Int) then _ else _)
      rw [jr_wr (show jr ((kb_an g S L s : Nat) : Int) by omega), jr_wr (show jr ((8 - k : Nat) : Int) by omega)]
      refine jn_ite (fun he => ?_) (fun he => ?_)
      · have hrm := kb_room (an := kb_an g S L) (n := S.1.toNat) (m := s) (by omega) hk8 (by omega) (by omega)
        refine jm_lays hW f1 hF f3 hM hrI (by omega) ⟨by omega, by omega⟩ (kb_of_sp hrI hrm) (fun τ2 hf2 hM2 => ?_)
        have := ih (s + 1) k τ2 (by omega) hk8 (jF_tr hf hf2) (by
          unfold kb_row
          rw [if_pos (by omega)]
          exact kb_MM_mono hM2 (fun j hj => by
            rcases Classical.em (j = (s : Int)) with q | q
            · exact Or.inr q
            · exact Or.inl ⟨hj.1, by have := hj.2; have := hj.1; omega⟩)) kk
        rw [show ((s + 1 : Nat) : Int) = (s : Int) + 1 by omega] at this
        exact this
      · have := ih (s + 1) k τ (by omega) hk8 hf (by
          unfold kb_row
          rw [if_neg (by omega)]
          exact kb_MM_mono hM (fun j hj => ⟨hj.1, by
            have h1 := hj.2
            have h2 := hj.1
            by_cases hjs : j = (s : Int)
            · subst hjs
              rw [Int.toNat_natCast] at h1 ⊢
              omega
            · omega⟩)) kk
        rw [show ((s + 1 : Nat) : Int) = (s : Int) + 1 by omega] at this
        exact this
  generalize hP8 : kb_dn (kb_ac g S L) (kb_an g S L) S.1.toNat 8 kb_P0 = P8 at *
  have hI8 : kb_In P8 (kb_cs (kb_an g S L) S.1.toNat 8) := hP8 ▸ hdn 8 (Nat.le_refl 8)
  have hlast : ∀ (m s : Nat) (τ : jg_M), (s : Int) + m = S.1 → jF kW_pm σ τ → kb_MM τ (kb_D g S L 8 s) P8 → jg_GV w 2 mm_X12_layPacked 36 [.ref 92, .int (.ofInt 0), .int (.ofInt (s : Int))] τ KV := by
    intro m
    induction m with
    | zero =>
      intro s τ hs hf hM
      obtain ⟨f1, f2, f3⟩ := hfr τ hf
      refine jb_X12_layPacked_36 rfl ?_
      rw [f2, jr_wr (by omega), jr_wr (by omega)]
      refine jn_ite (fun _ => jb_X12_layPacked_30 rfl ?_) (fun h => by omega)
      refine jn_ite (fun _ => hk τ hf ?_) (fun h => absurd (show jg_wr (0 + -1) < 0 by decide) h)
      exact kb_MM_mono hM (fun j hj => ⟨hj, by omega⟩)
    | succ m ih =>
      intro s τ hs hf hM
      obtain ⟨f1, f2, f3⟩ := hfr τ hf
      have hle := kb_an_le (g := g) (S := S) (L := L) (k := s)
      refine jb_X12_layPacked_36 rfl ?_
      rw [f2, jr_wr (show jr S.1 by omega), jr_wr (show jr (s : Int) by omega)]
      refine jn_ite (fun h => by omega) (fun _ => jm_actionsOf hW f1 hF f3 ⟨by omega, by omega⟩ ?_)
      show (if jg_wr ((kb_an g S L s : Nat) : Int) = jg_wr 0 then _ else _)
      rw [jr_wr (show jr ((kb_an g S L s : Nat) : Int) by omega), show jg_wr 0 = 0 from rfl]
      refine jn_ite (fun he => ?_) (fun he => ?_)
      · have hz : ∀ t : Nat, t < 8 → kb_ac g S L (s : Int) t = 0 := fun t ht => by
          have hct : jn_ct (jn_an g S L (fun _ => 0) 0 (s : Int)) 8 = 0 := by
            have : kb_an g S L s = 0 := by omega
            exact this
          have := ka_ct_none hct t ht
          unfold kb_ac
          rw [this]
          rfl
        have hr0 : kb_rm (kb_ac g S L) (s : Int) P8.2.2.1 0 := fun t ht h => absurd (hz t ht) h
        have hof : kb_of (kb_ac g S L) (s : Int) P8 = 0 := if_pos hr0
        refine jm_lays hW f1 hF f3 hM hI8 (by omega) ⟨by omega, by omega⟩ (by rw [hof]; exact ⟨hI8.1.1, hr0, fun j hj => by omega⟩) (fun τ2 hf2 hM2 => ?_)
        have e : kb_lay (kb_ac g S L) (s : Int) P8 = (P8.1, jn_u1 P8.2.1 (s : Int) 0, P8.2.2.1, P8.2.2.2) := by
          unfold kb_lay
          rw [hof]
          exact kb_puts_no (m := 0) (n := 8) (fun t _ ht => hz t (by omega))
        have eo : P8.2.1 (s : Int) = 0 := hP8 ▸ kb_dn_off (by omega) (Nat.le_refl 8)
        rw [e] at hM2
        have := ih (s + 1) τ2 (by omega) (jF_tr hf hf2) ⟨hM2.1, fun j hj => by
          have hDj : kb_D g S L 8 s j ∨ j = (s : Int) := by
            rcases Classical.em (j = (s : Int)) with q | q
            · exact Or.inr q
            · exact Or.inl ⟨hj.1, by have := hj.2; have := hj.1; omega⟩
          have h3 : τ2.1 (92 + 34) j = jn_u1 P8.2.1 (s : Int) 0 j := hM2.2.1 j hDj
          rw [h3]
          unfold jn_u1
          split
          · rename_i hq
            rw [hq, eo]
          · rfl, hM2.2.2⟩
        rw [show ((s + 1 : Nat) : Int) = (s : Int) + 1 by omega] at this
        exact this
      · have := ih (s + 1) τ (by omega) hf (kb_MM_mono hM (fun j hj => ⟨hj.1, by
            have h1 := hj.2
            have h2 := hj.1
            by_cases hjs : j = (s : Int)
            · subst hjs
              rw [Int.toNat_natCast] at h1 ⊢
              omega
            · omega⟩))
        rw [show ((s + 1 : Nat) : Int) = (s : Int) + 1 by omega] at this
        exact this
  have hout : ∀ (m k : Nat) (τ : jg_M) (u : Value), k + m = 8 → jF kW_pm σ τ → kb_MM τ (kb_D g S L k 0) (kb_dn (kb_ac g S L) (kb_an g S L) S.1.toNat k kb_P0) → jg_GV w 2 mm_X12_layPacked 30 [.ref 92, .int (.ofInt ((8 - k : Nat) : Int)), u] τ KV := by
    intro m
    induction m with
    | zero =>
      intro k τ u hk8 hf hM
      refine jb_X12_layPacked_30 rfl ?_
      rw [jr_wr (by omega)]
      rw [show k = 8 by omega] at hM ⊢
      rw [hP8] at hM
      refine jn_ite (fun h => by omega) (fun _ => hlast S.1.toNat 0 τ (by omega) hf hM)
    | succ m ih =>
      intro k τ u hk8 hf hM
      refine jb_X12_layPacked_30 rfl ?_
      rw [jr_wr (by omega)]
      refine jn_ite (fun h => by omega) (fun _ => ?_)
      refine hin S.1.toNat 0 k τ (by omega) (by omega) hf hM (fun τ2 u2 hf2 hM2 => ?_)
      rw [show ((8 - k : Nat) : Int) + -1 = ((8 - (k + 1) : Nat) : Int) by omega]
      exact ih (k + 1) τ2 u2 (by omega) hf2 hM2
  exact hout 8 0 τ u rfl hf (kb_MM_mono hM (fun j hj => by
    have h1 := hj.2
    have h2 := hj.1
    have h3 := kb_an_le (g := g) (S := S) (L := L) (k := j.toNat)
    omega))
end KBF
