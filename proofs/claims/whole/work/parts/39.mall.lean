/-! The TABLES in the reference -/
theorem jn_CO_skip {τ : jg_M} {c : Int} {lm : Nat → Nat} {k d : Nat} (h : jn_CO τ c lm k) (hn : ∀ j, k ≤ j → j < k + d → ¬ (lm (j / 16)).testBit (j % 16) = true) : jn_CO τ c lm (k + d) := by
  refine ⟨by rw [jn_ls_skip hn]; exact h.1, fun hc j hj hb => h.2 hc j ?_ hb⟩
  apply Classical.byContradiction
  intro hge
  exact hn j (by omega) hj hb
def jn_MC (σ : jg_M) (c : Int) (g : gM) (S : jn_Q) (L : Int → Int → Nat) (fo : Int → Nat) (y : Int) : Prop := (∀ s t, 0 ≤ s → s < S.1 → 0 ≤ t → t ≤ g 0 0 → σ.1 (92 + 19) (8 * (48 * c + s) + t) = (jn_AP g S L fo y s t).1) ∧ jn_CO σ c (jn_lm g S L fo y) 6144
def jW_ac (c : Int) (a : Nat) (i : Int) : Prop := (a = 92 + 22 ∧ i = c) ∨ (a = 92 + 23 ∧ c = 0) ∨ (a = 92 + 19 ∧ 384 * c ≤ i ∧ i < 384 * c + 384)
def jW_lk (c : Int) (a : Nat) (i : Int) : Prop := a = 92 + 18 ∧ 3120 * c ≤ i ∧ i < 3120 * c + 3120
def jW_al (c : Int) (a : Nat) (i : Int) : Prop := (a = 92 ∧ 34 ≤ i ∧ i ≤ 36) ∨ jW_ef c a i ∨ jW_ls c a i
/-- what the reference's tables are, but for the actions -/
def jn_MQ (σ : jg_M) (a c : Int) (g : gM) : Prop := jn_Mg σ a g ∧ (σ.1 92 36 = c ∧ 0 ≤ c ∧ c ≤ 1) ∧ ∃ e f, jn_lEF g e f ∧ σ.1 (92 + 20) c = ((e : Nat) : Int) ∧ (∀ k, 0 ≤ k → k < 5 → σ.1 (92 + 21) (5 * c + k) = ((f k : Nat) : Int)) ∧
  ((g 0 1 = 0 ∧ σ.1 (92 + 13) c = 0) ∨ (0 < g 0 1 ∧ ∃ S L, jn_all g = some S ∧ jn_lL g e f S L ∧ jn_RK σ c g S ∧ jn_LMm σ c S L))
section JML
variable {w : Nat} {σ : jg_M} {g : gM} {x r k a b s t y : Int} {c : Int} {e m : Nat} {f fo : Int → Nat} {S S' : jn_Q} {L L' : Int → Int → Nat} {lm : Nat → Nat} {K : jg_M → Prop} {KI : Int → jg_M → Prop}
theorem jm_layActions0 (hc : σ.1 92 36 = c) (hc2 : 0 ≤ c ∧ c ≤ 1) (hn : σ.1 (92 + 13) c = 0) (hk : ∀ τ, jF (jW_ac c) σ τ → τ.1 (92 + 22) c = 0 → K τ) : jg_CV w 3 mm_X12_layActions [.ref 92] σ K := by
  refine jb_X12_layActions_0 rfl ?_
  rw [hc, jr_wr (show jr c by omega)]
  refine ⟨by omega, ?_⟩
  rintro _ rfl
  refine jb_X12_layActions_12 rfl ?_
  rw [js_In (Or.inl (by omega)), hc, jr_wr (show jr c by omega), js_In (Or.inl (by omega)), hn, show jg_wr 0 = 0 from rfl]
  exact ⟨by omega, jn_ite (fun _ => hk _ (jF_I (Or.inl ⟨rfl, rfl⟩)) js_Is) (fun h => absurd (Int.le_refl 0) h)⟩
theorem jm_layActions (hB : jn_MB σ a c g S L fo y) (hW : jn_GW g) (hF : jn_FP g S) (hk : ∀ τ, jF (jW_ac c) σ τ → jn_MC τ c g S L fo y → K τ) : jg_CV w 3 mm_X12_layActions [.ref 92] σ K := by
  have hw := hW.1
  have hI1 := hF.1.1
  have hc := hB.2.2.1
  have ha := hB.1.1.2.1
  have hBt : ∀ τ, jF (jW_ac c) σ τ → jn_MB τ a c g S L fo y := fun τ h => jn_MB_fr hB h (fun i => by unfold jW_ac; omega) (fun k i hk => by unfold jW_ac; omega)
  have hin : ∀ (m : Nat) (s t : Int) (τ : jg_M), (∀ (u2 : Value) (τ : jg_M), jF (jW_ac c) σ τ → (∀ s' t', 0 ≤ s' → s' < s + 1 → 0 ≤ t' → t' ≤ g 0 0 → τ.1 (92 + 19) (8 * (48 * c + s') + t') = (jn_AP g S L fo y s' t').1) → jn_CO τ c (jn_lm g S L fo y) (16 * (8 * (s + 1).toNat)) → jg_GV w 3 mm_X12_layActions 12 [.ref 92, .int (.ofInt (s + 1)), u2] τ K) →
      0 ≤ s → s < S.1 → 0 ≤ t → t + m = g 0 0 + 1 → jF (jW_ac c) σ τ → (∀ s' t', 0 ≤ s' → (s' < s ∨ (s' = s ∧ t' < t)) → 0 ≤ t' → t' ≤ g 0 0 → τ.1 (92 + 19) (8 * (48 * c + s') + t') = (jn_AP g S L fo y s' t').1) → jn_CO τ c (jn_lm g S L fo y) (16 * (8 * s + t).toNat) → jg_GV w 3 mm_X12_layActions 27 [.ref 92, .int (.ofInt s), .int (.ofInt t)] τ K := by
    intro m
    induction m with
    | zero =>
      intro s t τ hP s0 s1 t0 t1 hFτ hA hO
      have hBτ := hBt τ hFτ
      refine jb_X12_layActions_27 rfl ?_
      rw [hBτ.1.1.1, jr_wr (show jr a by omega), hBτ.1.1.2.2.2.2.1, jr_wr (by omega), jr_wr (by omega)]
      refine ⟨by omega, jn_ite (fun _ => hP _ τ hFτ (fun s' t' q1 q2 q3 q4 => hA s' t' q1 (by omega) q3 q4) ?_) (fun hh => by omega)⟩
      have h9 := jn_CO_skip (d := 16 * (8 * (s + 1).toNat) - 16 * (8 * s + t).toNat) hO (fun j j1 j2 => by
        unfold jn_lm
        rw [if_neg (by omega), Nat.zero_testBit]
        exact fun q => by cases q)
      rwa [show 16 * (8 * s + t).toNat + (16 * (8 * (s + 1).toNat) - 16 * (8 * s + t).toNat) = 16 * (8 * (s + 1).toNat) by omega] at h9
    | succ m ih =>
      intro s t τ hP s0 s1 t0 t1 hFτ hA hO
      have hBτ := hBt τ hFτ
      refine jb_X12_layActions_27 rfl ?_
      rw [hBτ.1.1.1, jr_wr (show jr a by omega), hBτ.1.1.2.2.2.2.1, jr_wr (show jr (g 0 0) by omega), jr_wr (show jr t by omega), hBτ.2.2.1.1, jr_wr (show jr (8 * (48 * c + s) + t) by omega)]
      refine ⟨by omega, jn_ite (fun hh => by omega) (fun _ => jm_actionOf (cell := (8 * s + t).toNat) hBτ hW hF ⟨s0, s1⟩ ⟨t0, by omega⟩ (by omega) hO (fun υ q1 q2 => ⟨by omega, ?_⟩))⟩
      rintro _ rfl
      refine ih s (t + 1) _ hP s0 s1 (by omega) (by omega) (jF_tr hFτ (jF_tr (jF_mono q1 (fun a i h => by unfold jW_co at h; unfold jW_ac; omega)) (jF_I (Or.inr (Or.inr ⟨rfl, by omega, by omega⟩))))) (fun s' t' p1 p2 p3 p4 => ?_) ?_
      · by_cases hh : s' = s ∧ t' = t
        · rw [hh.1, hh.2, js_Is]
        · rw [js_In (Or.inr (by omega)), q1.1 _ _ (by unfold jW_co; omega)]
          exact hA s' t' p1 (by omega) p3 p4
      · rw [show 16 * (8 * s + (t + 1)).toNat = 16 * ((8 * s + t).toNat + 1) by omega]
        exact ⟨by rw [js_In (Or.inl (by omega))]; exact q2.1, fun hc0 j hj hb => by rw [js_In (Or.inl (by omega))]; exact q2.2 hc0 j hj hb⟩
  have hout : ∀ (m : Nat) (s : Int) (u2 : Value) (τ : jg_M), 0 ≤ s → s + m = S.1 → jF (jW_ac c) σ τ → (∀ s' t', 0 ≤ s' → s' < s → 0 ≤ t' → t' ≤ g 0 0 → τ.1 (92 + 19) (8 * (48 * c + s') + t') = (jn_AP g S L fo y s' t').1) → jn_CO τ c (jn_lm g S L fo y) (16 * (8 * s.toNat)) → jg_GV w 3 mm_X12_layActions 12 [.ref 92, .int (.ofInt s), u2] τ K := by
    intro m
    induction m with
    | zero =>
      intro s u2 τ s0 s1 hFτ hA hO
      have hBτ := hBt τ hFτ
      refine jb_X12_layActions_12 rfl ?_
      rw [hBτ.2.2.1.1, jr_wr (show jr c by omega), hBτ.2.2.2.1.1, jr_wr (by omega), jr_wr (by omega)]
      refine ⟨by omega, jn_ite (fun _ => hk τ hFτ ⟨fun s' t' q1 q2 q3 q4 => hA s' t' q1 (by omega) q3 q4, ?_⟩) (fun hh => by omega)⟩
      have h9 := jn_CO_skip (d := 6144 - 16 * (8 * s.toNat)) hO (fun j j1 j2 => by
        unfold jn_lm
        rw [if_neg (by omega), Nat.zero_testBit]
        exact fun q => by cases q)
      rwa [show 16 * (8 * s.toNat) + (6144 - 16 * (8 * s.toNat)) = 6144 by omega] at h9
    | succ m ih =>
      intro s u2 τ s0 s1 hFτ hA hO
      have hBτ := hBt τ hFτ
      refine jb_X12_layActions_12 rfl ?_
      rw [hBτ.2.2.1.1, jr_wr (show jr c by omega), hBτ.2.2.2.1.1, jr_wr (by omega), jr_wr (by omega)]
      refine ⟨by omega, jn_ite (fun hh => by omega) (fun _ => ?_)⟩
      exact hin (g 0 0 + 1).toNat s 0 τ (fun u2 τ q1 q2 q3 => ih (s + 1) u2 τ (by omega) (by omega) q1 q2 q3) s0 (by omega) (by omega) (by omega) hFτ (fun s' t' q1 q2 q3 q4 => hA s' t' q1 (by omega) q3 q4) (by rwa [show (8 * s + 0).toNat = 8 * s.toNat by omega])
  refine jb_X12_layActions_0 rfl ?_
  rw [hc.1, jr_wr (show jr c by omega)]
  refine ⟨by omega, ?_⟩
  rintro _ rfl
  exact hout S.1.toNat 0 _ _ (by omega) (by omega) (jF_I (Or.inl ⟨rfl, rfl⟩)) (fun s' t' q1 q2 => by omega) ⟨js_Is, fun _ j hj => by omega⟩
theorem jm_layAll (hG : jn_Mb σ a g) (hW : jn_GW g) (ha : 0 ≤ a ∧ a ≤ 1) (hc2 : 0 ≤ c ∧ c ≤ 1) (h33 : σ.1 92 33 = g 0 3)
    (k0 : 0 < g 0 1 → jn_all g = none → ∀ τ, jF (jW_al c) σ τ → jn_Mg τ a g → τ.1 92 36 = c → KI 0 τ) (k1 : (g 0 1 = 0 ∨ (0 < g 0 1 ∧ ∃ S, jn_all g = some S)) → ∀ τ, jF (jW_al c) σ τ → jn_MQ τ a c g → KI 1 τ) : jg_CI w 4 mm_X12_layAll [.ref 92, .int (.ofInt c), .int (.ofInt a), .int (.ofInt (g 0 4))] σ KI := by
  have hw := hW.1
  refine jb_X12_layAll_0 rfl ?_
  rintro _ rfl _ rfl _ rfl
  have hF0 : jF (jW_al c) σ (jg_sI (jg_sI (jg_sI σ 92 36 c) 92 35 a) 92 34 (g 0 4)) := jF_tr (jF_I (Or.inl ⟨rfl, by omega, by omega⟩)) (jF_tr (jF_I (Or.inl ⟨rfl, by omega, by omega⟩)) (jF_I (Or.inl ⟨rfl, by omega, by omega⟩)))
  have hMb0 := jn_Mb_fr hG hF0 (fun k i hk => by unfold jW_al jW_ef jW_ls; omega)
  have hG0 : jn_Mg (jg_sI (jg_sI (jg_sI σ 92 36 c) 92 35 a) 92 34 (g 0 4)) a g := jn_Mg_of hMb0 (by rw [js_In (Or.inr (by omega)), js_Is]) (by rw [js_In (Or.inr (by omega)), js_In (Or.inr (by omega)), js_In (Or.inr (by omega))]; exact h33) js_Is
  have hc0 : (jg_sI (jg_sI (jg_sI σ 92 36 c) 92 35 a) 92 34 (g 0 4)).1 92 36 = c := by rw [js_In (Or.inr (by omega)), js_In (Or.inr (by omega)), js_Is]
  refine jm_layFirsts hG0 hW hc0 hc2 (fun τ1 e f a1 a2 a3 a4 => ?_)
  have hG1 : jn_Mg τ1 a g := jn_Mg_fr hG0 a1 (by unfold jW_ef; omega) (fun k i hk => by unfold jW_ef; omega)
  have hc1 : τ1.1 92 36 = c := (a1.1 _ _ (by unfold jW_ef; omega)).trans hc0
  have hF1 : jF (jW_al c) σ τ1 := jF_tr hF0 (jF_mono a1 (fun a i h => Or.inr (Or.inl h)))
  refine jm_layStates hG1 hW hc1 hc2 (fun n0 τ2 b1 b2 => ?_) (fun n0 hn τ2 b1 => ?_) (fun n0 S hS hI τ2 b1 b2 b3 => ?_) <;>
    have hF2 : jF (jW_al c) σ τ2 := jF_tr hF1 (jF_mono b1 (fun a i h => Or.inr (Or.inr h))) <;>
    have hG2 : jn_Mg τ2 a g := jn_Mg_fr hG1 b1 (by unfold jW_ls; omega) (fun k i hk => by unfold jW_ls; omega) <;>
    have hc3 : τ2.1 92 36 = c := (b1.1 _ _ (by unfold jW_ls; omega)).trans hc1
  · rw [show jg_wr 1 = 1 from rfl]
    refine jn_ite (fun h => by omega) (fun _ => jm_layLooks0 hG2 hc3 hc2 b2 (k1 (Or.inl n0) τ2 hF2 ⟨hG2, ⟨hc3, hc2⟩, e, f, a4, (b1.1 _ _ (by unfold jW_ls; omega)).trans a2, fun k k1 k2 => (b1.1 _ _ (by unfold jW_ls; omega)).trans (a3 k k1 k2), Or.inl ⟨n0, b2⟩⟩))
  · rw [show jg_wr 0 = 0 from rfl]
    exact jn_ite (fun _ => k0 n0 hn τ2 hF2 hG2 hc3) (fun h => absurd rfl h)
  · rw [show jg_wr 1 = 1 from rfl]
    have hRK : jn_RK τ2 c g S := ⟨b2.1, fun j j1 j2 => ⟨(b2.2 j j1 j2).1, (b2.2 j j1 j2).2.1, (b2.2 j j1 j2).2.2.1⟩, b3⟩
    have he3 : τ2.1 (92 + 20) c = ((e : Nat) : Int) := (b1.1 _ _ (by unfold jW_ls; omega)).trans a2
    have hf3 : ∀ k, 0 ≤ k → k < 5 → τ2.1 (92 + 21) (5 * c + k) = ((f k : Nat) : Int) := fun k k1 k2 => (b1.1 _ _ (by unfold jW_ls; omega)).trans (a3 k k1 k2)
    refine jn_ite (fun h => by omega) (fun _ => jm_layLooks hG2 hW hc3 hc2 he3 a4.1.2.2.1 hf3 a4.1.2.2.2.1 hRK (jn_all_FP hW hS) (fun j j1 j2 => (b2.2 j j1 j2).2.2.2) (fun τ3 L d1 d2 d3 => ?_))
    refine k1 (Or.inr ⟨n0, S, hS⟩) τ3 (jF_tr hF2 (jF_mono d1 (fun a i h => by unfold jW_al jW_ls; omega))) ⟨jn_Mg_fr hG2 d1 (by omega) (fun k i hk => by omega), ⟨(d1.1 _ _ (by omega)).trans hc3, hc2⟩, e, f, a4, (d1.1 _ _ (by omega)).trans he3, fun k k1 k2 => (d1.1 _ _ (by omega)).trans (hf3 k k1 k2), Or.inr ⟨n0, S, L, hS, d3, jn_RK_fr hRK d1 (fun a i h => by omega), d2⟩⟩
end JML
