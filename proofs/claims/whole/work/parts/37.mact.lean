/-! The ACTIONS and CONFLICTS in the reference -/
def jn_ls (lm : Nat → Nat) : Nat → Nat
  | 0 => 0
  | k + 1 => jn_ls lm k + (if (lm (k / 16)).testBit (k % 16) then 1 else 0)
theorem jn_ls_mono {lm : Nat → Nat} {j : Nat} : ∀ {d : Nat}, jn_ls lm j ≤ jn_ls lm (j + d)
  | 0 => Nat.le_refl _
  | d + 1 => by
    have h := jn_ls_mono (lm := lm) (j := j) (d := d)
    show _ ≤ jn_ls lm (j + d) + _
    omega
theorem jn_ls_t {lm : Nat → Nat} {k : Nat} (h : (lm (k / 16)).testBit (k % 16) = true) : jn_ls lm (k + 1) = jn_ls lm k + 1 := by
  show jn_ls lm k + _ = _
  rw [if_pos h]
theorem jn_ls_f {lm : Nat → Nat} {k : Nat} (h : ¬ (lm (k / 16)).testBit (k % 16) = true) : jn_ls lm (k + 1) = jn_ls lm k := by
  show jn_ls lm k + _ = _
  rw [if_neg h]; rfl
theorem jn_ls_lt {lm : Nat → Nat} {j k : Nat} (h : (lm (j / 16)).testBit (j % 16) = true) (hk : j < k) : jn_ls lm j < jn_ls lm k := by
  have h1 := jn_ls_t h
  have h2 := jn_ls_mono (lm := lm) (j := j + 1) (d := k - (j + 1))
  rw [show j + 1 + (k - (j + 1)) = k by omega] at h2
  omega
theorem jn_ls_skip {lm : Nat → Nat} {k : Nat} : ∀ {d : Nat}, (∀ j, k ≤ j → j < k + d → ¬ (lm (j / 16)).testBit (j % 16) = true) → jn_ls lm (k + d) = jn_ls lm k
  | 0, _ => rfl
  | d + 1, h => by
    rw [show k + (d + 1) = (k + d) + 1 by omega, jn_ls_f (h (k + d) (by omega) (by omega))]
    exact jn_ls_skip (fun j h1 h2 => h j h1 (by omega))
theorem jn_ls_up {lm : Nat → Nat} {k : Nat} : ∀ {d : Nat}, jn_ls lm (k + d) ≤ jn_ls lm k + d
  | 0 => Nat.le_refl _
  | d + 1 => by
    have h := jn_ls_up (lm := lm) (k := k) (d := d)
    show jn_ls lm (k + d) + _ ≤ _
    split <;> omega
theorem jn_ls_cell {lm : Nat → Nat} (hl : ∀ c, lm c < 4096) : ∀ {c : Nat}, jn_ls lm (16 * c) ≤ 12 * c
  | 0 => Nat.le_refl _
  | c + 1 => by
    have h := jn_ls_cell hl (c := c)
    have h2 := jn_ls_up (lm := lm) (k := 16 * c) (d := 12)
    have h3 : jn_ls lm (16 * c + 12 + 4) = jn_ls lm (16 * c + 12) := jn_ls_skip (fun j h1 h2 => by
      have : (lm (j / 16)).testBit (j % 16) = false := Nat.testBit_lt_two_pow (Nat.lt_of_lt_of_le (show lm (j / 16) < 2 ^ 12 from hl _) (Nat.pow_le_pow_right (by omega) (by omega)))
      rw [this]
      exact fun q => by cases q)
    rw [show 16 * (c + 1) = 16 * c + 12 + 4 by omega, h3]
    omega
def jn_CO (τ : jg_M) (c : Int) (lm : Nat → Nat) (k : Nat) : Prop := τ.1 (92 + 22) c = (jn_ls lm k : Nat) ∧ (c = 0 → ∀ j, j < k → (lm (j / 16)).testBit (j % 16) = true → τ.1 (92 + 23) (jn_ls lm j : Nat) = (j : Nat))
def jW_co (c : Int) (a : Nat) (i : Int) : Prop := (a = 92 + 22 ∧ i = c) ∨ (a = 92 + 23 ∧ c = 0)
def jn_MB (σ : jg_M) (a c : Int) (g : gM) (S : jn_Q) (L : Int → Int → Nat) (fo : Int → Nat) (y : Int) : Prop :=
  jn_Mg σ a g ∧ jn_Mk σ a g ∧ (σ.1 92 36 = c ∧ (0 ≤ c ∧ c ≤ 1) ∧ (σ.1 92 38 = 3 ↔ y ≠ 0)) ∧ jn_RK σ c g S ∧ jn_LMm σ c S L ∧ (y ≠ 0 → ∀ k, 0 ≤ k → k < 5 → σ.1 (92 + 25) k = (fo k : Nat)) ∧ (∀ s i, L s i < 256) ∧ ∀ k, 0 ≤ k → k < 5 → fo k < 256
section JMA
variable {w : Nat} {σ : jg_M} {g : gM} {x r k a b s t y : Int} {c : Int} {e m : Nat} {f fo : Int → Nat} {S S' : jn_Q} {L L' : Int → Int → Nat} {lm : Nat → Nat} {K : jg_M → Prop} {KI : Int → jg_M → Prop}
theorem jn_MB_fr {W : Nat → Int → Prop} {τ : jg_M} (h : jn_MB σ a c g S L fo y) (hF : jF W σ τ) (hn : ∀ i, ¬ W 92 i) (hn2 : ∀ (k : Nat) (i : Int), (3 ≤ k ∧ k ≤ 18) ∨ k = 25 → ¬ W (92 + k) i) : jn_MB τ a c g S L fo y := by
  obtain ⟨h1, ⟨n, h2, h3, h4⟩, ⟨h5, h6, h7⟩, h8, h9, h10, h11, h12⟩ := h
  refine ⟨jn_Mg_fr h1 hF ⟨hn _, hn _, hn _⟩ (fun k i hk => hn2 k i (by omega)), ⟨n, (hF.1 _ _ (hn _)).trans h2, h3, fun t t1 t2 => ?_⟩, ⟨(hF.1 _ _ (hn _)).trans h5, h6, ?_⟩, jn_RK_fr h8 hF (fun a i ha => ?_), fun s i s1 s2 i1 i2 => (hF.1 _ _ (hn2 18 _ (by omega))).trans (h9 s i s1 s2 i1 i2), fun q k k1 k2 => (hF.1 _ _ (hn2 25 _ (by omega))).trans (h10 q k k1 k2), h11, h12⟩
  · rw [hF.1 _ _ (hn2 8 _ (by omega)), hF.1 _ _ (hn2 9 _ (by omega))]
    exact h4 t t1 t2
  · rw [hF.1 _ _ (hn _)]; exact h7
  · have := hn2 (a - 92) i (by omega)
    rwa [show 92 + (a - 92) = a by omega] at this
theorem jm_isReduced {R : Nat} (hB : jn_MB σ a c g S L fo y) (hW : jn_GW g) (hF : jn_FP g S) (hs : 0 ≤ s ∧ s < S.1) (ht : 0 ≤ t ∧ t ≤ g 0 0) (hR : (R : Int) < g 0 2)
    (hk : KI (jn_b (jn_rd g S L fo y s t R)) σ) : jg_CI w 1 mm_X12_isReduced [.ref 92, .int (.ofInt s), .int (.ofInt t), .int (.ofInt (R : Int))] σ KI := by
  obtain ⟨h1, ⟨n38, q38, q382, -⟩, ⟨h5, h6, h7⟩, h8, h9, h10, h11, h12⟩ := hB
  have hI1 := hF.1.1
  have hw := hW.1
  have ha := h1.1.2.1
  have hl := jn_len_rng (r := (R : Int)) hW
  have hkd := hW.2.1 (R : Int) (by omega) hR
  refine jb_X12_isReduced_0 rfl ?_
  rw [h1.1.2.2.2.1, jr_wr (show jr (R : Int) by omega), jr_wr (show jr (g 0 4) by omega)]
  refine jn_ite (fun hq => ?_) (fun hq => ?_)
  · rw [jn_b_f (fun q => q.2.1 hq)] at hk
    exact hk
  refine jm_longOf h1 hW ⟨by omega, by omega⟩ (jm_itemAt (b := c) h5 ?_)
  have hcl := (h8.2.1 s hs.1 hs.2).2.1 (5 * (R : Int) + jn_len g R).toNat (by omega)
  rw [show 65 * (48 * c + s) + ((5 * (R : Int) + jn_len g R).toNat : Int) = 65 * (48 * c + s) + (5 * (R : Int) + jn_len g R) by omega] at hcl
  rw [jr_wr (show jr (65 * (48 * c + s) + (5 * (R : Int) + jn_len g R)) by omega), hcl]
  have hcm : (5 * (R : Int) + jn_len g R) = ((R : Int) * 5 + jn_len g R) := by omega
  rw [hcm]
  refine ⟨by omega, jn_if (fun hp => ?_) (fun hp => ?_)⟩
  · rw [jn_b_f (fun q => hp q.2.2.1)] at hk
    exact hk
  have hrd : ∀ v : Nat, (if y = 0 then L s ((R : Int) * 5 + jn_len g R) else fo (g 3 R)) = v → (jn_rd g S L fo y s t R ↔ v.testBit t.toNat = true) := by
    rintro v rfl
    exact ⟨fun q => q.2.2.2, fun q => ⟨hR, hq, hp, q⟩⟩
  have hb3 : jg_wr (σ.1 92 38) = 3 ↔ y ≠ 0 := by
    rw [← h7]
    rw [jr_wr (by omega)]
  refine jn_ite (fun h3 => ?_) (fun h3 => ?_)
  · have hy : y ≠ 0 := hb3.mp h3
    rw [h1.1.1, jr_wr (show jr (13 * a + (R : Int)) by omega), (h1.2 (R : Int) (by omega) hR).1, jr_wr (show jr (g 3 (R : Int)) by omega), h10 hy _ (by omega) (by omega)]
    have hf := h12 (g 3 (R : Int)) (by omega) (by omega)
    refine ⟨by omega, by omega, jm_isOf (by omega) (by omega) ⟨jn_b_rng _, ?_⟩⟩
    rw [jn_b_eq (hrd _ (if_neg hy))] at hk
    exact hk
  · have hy : y = 0 := Classical.byContradiction (fun q => h3 (hb3.mpr q))
    refine jm_longOf h1 hW ⟨by omega, by omega⟩ (jm_itemAt (b := c) h5 ?_)
    rw [hcm, jr_wr (show jr (65 * (48 * c + s) + ((R : Int) * 5 + jn_len g R)) by omega), h9 s _ hs.1 hs.2 (by omega) (by omega)]
    have hLb := h11 s ((R : Int) * 5 + jn_len g R)
    refine ⟨by omega, jm_isOf (by omega) (by omega) ⟨jn_b_rng _, ?_⟩⟩
    rw [jn_b_eq (hrd _ (if_pos hy))] at hk
    exact hk
theorem jm_leavesOut {cell R : Nat} (hc : σ.1 92 36 = c) (hc2 : 0 ≤ c ∧ c ≤ 1) (hl : ∀ c, lm c < 4096) (hO : jn_CO σ c lm (16 * cell + R)) (hcell : (cell : Int) = 8 * s + t) (hb : cell < 384) (hR : R < 12) (hbit : (lm cell).testBit R = true)
    (hk : ∀ τ, jF (jW_co c) σ τ → jn_CO τ c lm (16 * cell + R + 1) → K τ) : jg_CV w 0 mm_X12_leavesOut [.ref 92, .int (.ofInt s), .int (.ofInt t), .int (.ofInt (R : Int))] σ K := by
  have h1 := jn_ls_cell hl (c := cell)
  have h2 := jn_ls_up (lm := lm) (k := 16 * cell) (d := R)
  have h3 : jn_ls lm (16 * cell + R + 1) = jn_ls lm (16 * cell + R) + 1 := jn_ls_t (by
    rw [show (16 * cell + R) / 16 = cell by omega, show (16 * cell + R) % 16 = R by omega]; exact hbit)
  obtain ⟨o1, o2⟩ := hO
  refine jb_X12_leavesOut_0 rfl ?_
  rw [hc]
  refine jn_ite (fun h0 => ?_) (fun h0 => ?_)
  · have hc0 : c = 0 := by rw [jr_wr (by omega)] at h0; exact h0
    subst hc0
    rw [o1, jr_wr (show jr ((jn_ls lm (16 * cell + R) : Nat) : Int) by omega)]
    refine ⟨by omega, ?_⟩
    rintro _ rfl
    rw [js_In (Or.inl (by omega)), hc, show jg_wr 0 = 0 from rfl, js_In (Or.inl (by omega)), o1]
    refine ⟨by omega, by omega, ?_⟩
    rintro _ rfl
    refine hk _ (jF_tr (jF_I (Or.inr ⟨rfl, rfl⟩)) (jF_I (Or.inl ⟨rfl, rfl⟩))) ⟨by rw [js_Is, h3]; rfl, fun _ j hj hjb => ?_⟩
    rw [js_In (Or.inl (by omega))]
    by_cases hjk : j = 16 * cell + R
    · rw [hjk, js_Is]; omega
    · have := jn_ls_lt hjb (show j < 16 * cell + R by omega)
      rw [js_In (Or.inr (by omega))]
      exact o2 rfl j (by omega) hjb
  · have hc0 : c ≠ 0 := fun q => h0 (by rw [q]; rfl)
    rw [jr_wr (show jr c by omega), o1]
    refine ⟨by omega, by omega, ?_⟩
    rintro _ rfl
    exact hk _ (jF_I (Or.inl ⟨rfl, rfl⟩)) ⟨by rw [js_Is, h3]; rfl, fun q => absurd q hc0⟩
theorem jm_actLast {cell : Nat} {u4 u8 u9 u10 : Value} {win go q6 q7 : Int} (hB : jn_MB σ a c g S L fo y) (hW : jn_GW g) (hF : jn_FP g S) (hs : 0 ≤ s ∧ s < S.1) (ht : 0 ≤ t ∧ t ≤ g 0 0) (hl : ∀ c, lm c < 4096) (hcell : (cell : Int) = 8 * s + t) (hb : cell < 384) (hwin : -1 ≤ win ∧ win < 12) (h6 : 0 ≤ q6 ∧ q6 ≤ 3) (h7 : jr q7)
    (hbit : ∀ R : Nat, (lm cell).testBit R = true ↔ (jn_rm g S L fo y s t).testBit R = true ∧ ¬ ((R : Int) = win ∧ q7 = 0)) (hO : jn_CO σ c lm (16 * cell))
    (hk : ∀ τ, jF (jW_co c) σ τ → jn_CO τ c lm (16 * (cell + 1)) → KI (if q6 = 0 then 0 else if q6 = 1 then 1000 + go else if q6 = 2 then 2000 + win else 3000) τ) : jg_GI w 2 mm_X12_actionOf 276 [.ref 92, .int (.ofInt s), .int (.ofInt t), .int (.ofInt win), u4, .int (.ofInt go), .int (.ofInt q6), .int (.ofInt q7), u8, u9, u10] σ KI := by
  have hw := hW.1
  have hloop : ∀ (m R : Nat) (τ : jg_M), (R : Int) + m = g 0 2 → jF (jW_co c) σ τ → jn_CO τ c lm (16 * cell + R) → jg_GI w 2 mm_X12_actionOf 279 [.ref 92, .int (.ofInt s), .int (.ofInt t), .int (.ofInt win), u4, .int (.ofInt go), .int (.ofInt q6), .int (.ofInt q7), .int (.ofInt (R : Int)), u9, u10] τ KI := by
    intro m
    induction m with
    | zero =>
      intro R τ hR hFτ hOτ
      have hBτ := jn_MB_fr hB hFτ (fun i => by unfold jW_co; omega) (fun k i hk => by unfold jW_co; omega)
      have ha := hBτ.1.1.2.1
      have hsk : jn_ls lm (16 * cell + R + (16 - R)) = jn_ls lm (16 * cell + R) := jn_ls_skip (fun j j1 j2 => by
        rw [show j / 16 = cell by omega]
        exact fun q => by
          have := (jn_mk_bit.mp ((hbit _).mp q).1).2.1
          omega)
      have hO2 : jn_CO τ c lm (16 * (cell + 1)) := by
        rw [show 16 * cell + R + (16 - R) = 16 * (cell + 1) by omega] at hsk
        refine ⟨by rw [hsk]; exact hOτ.1, fun hc0 j hj hjb => hOτ.2 hc0 j ?_ hjb⟩
        apply Classical.byContradiction
        intro hge
        rw [show j / 16 = cell by omega] at hjb
        have := (jn_mk_bit.mp ((hbit _).mp hjb).1).2.1
        omega
      have hfin := hk τ hFτ hO2
      refine jb_X12_actionOf_279 rfl ?_
      rw [hBτ.1.1.1, jr_wr (show jr a by omega), hBτ.1.1.2.2.2.2.2.2, jr_wr (show jr (g 0 2) by omega), jr_wr (show jr (R : Int) by omega), jr_wr (show jr q6 by omega)]
      refine ⟨by omega, jn_ite (fun _ => jn_ite (fun z0 => ?_) (fun z0 => jn_ite (fun z1 => ?_) (fun z1 => jn_ite (fun z2 => ?_) (fun z2 => ?_)))) (fun h => by omega)⟩
      · rw [if_pos z0] at hfin; exact hfin
      · rw [if_neg z0, if_pos z1] at hfin; exact hfin
      · rw [if_neg z0, if_neg z1, if_pos z2] at hfin; exact hfin
      · rw [if_neg z0, if_neg z1, if_neg z2] at hfin; exact hfin
    | succ m ih =>
      intro R τ hR hFτ hOτ
      have hBτ := jn_MB_fr hB hFτ (fun i => by unfold jW_co; omega) (fun k i hk => by unfold jW_co; omega)
      have ha := hBτ.1.1.2.1
      have hmb : (jn_rm g S L fo y s t).testBit R = true ↔ jn_rd g S L fo y s t R := by
        unfold jn_rm
        rw [jn_mk_bit]
        exact ⟨fun q => q.2, fun q => ⟨by omega, q⟩⟩
      have next : ∀ τ, jF (jW_co c) σ τ → jn_CO τ c lm (16 * cell + R + 1) → jg_GI w 2 mm_X12_actionOf 323 [.ref 92, .int (.ofInt s), .int (.ofInt t), .int (.ofInt win), u4, .int (.ofInt go), .int (.ofInt q6), .int (.ofInt q7), .int (.ofInt (R : Int)), u9, u10] τ KI := fun τ q1 q2 => by
        refine jb_X12_actionOf_323 rfl ?_
        rw [show (R : Int) + 1 = ((R + 1 : Nat) : Int) by omega]
        exact ih (R + 1) τ (by omega) q1 q2
      have skip : ¬ (lm cell).testBit R = true → jn_CO τ c lm (16 * cell + R + 1) := fun hno => by
        have hf : ¬ (lm ((16 * cell + R) / 16)).testBit ((16 * cell + R) % 16) = true := by
          rw [show (16 * cell + R) / 16 = cell by omega, show (16 * cell + R) % 16 = R by omega]; exact hno
        refine ⟨by rw [jn_ls_f hf]; exact hOτ.1, fun hc0 j hj hjb => hOτ.2 hc0 j ?_ hjb⟩
        have : j ≠ 16 * cell + R := fun q => hf (q ▸ hjb)
        omega
      refine jb_X12_actionOf_279 rfl ?_
      rw [hBτ.1.1.1, jr_wr (show jr a by omega), hBτ.1.1.2.2.2.2.2.2, jr_wr (show jr (g 0 2) by omega), jr_wr (show jr (R : Int) by omega), jr_wr (show jr win by omega), jr_wr h7]
      have hout : (lm cell).testBit R = true → jg_GI w 2 mm_X12_actionOf 315 [.ref 92, .int (.ofInt s), .int (.ofInt t), .int (.ofInt win), u4, .int (.ofInt go), .int (.ofInt q6), .int (.ofInt q7), .int (.ofInt (R : Int)), u9, u10] τ KI := fun hy => by
        refine jb_X12_actionOf_315 rfl (jm_leavesOut hBτ.2.2.1.1 hBτ.2.2.1.2.1 hl hOτ hcell hb (by omega) hy (fun υ q1 q2 => next υ (jF_tr hFτ q1) q2))
      refine ⟨by omega, jn_ite (fun h => by omega) (fun _ => jm_isReduced hBτ hW hF hs ht (by omega) (jn_if (fun hp => ?_) (fun hp => ?_)))⟩
      · exact next τ hFτ (skip (fun q => hp (hmb.mp ((hbit R).mp q).1)))
      · refine jn_ite (fun hw => jn_ite (fun h70 => ?_) (fun h70 => ?_)) (fun hw => ?_)
        · exact next τ hFτ (skip (fun q => ((hbit R).mp q).2 ⟨hw, h70⟩))
        · exact hout ((hbit R).mpr ⟨hmb.mpr hp, fun q => h70 q.2⟩)
        · exact hout ((hbit R).mpr ⟨hmb.mpr hp, fun q => hw q.1⟩)
  exact jb_X12_actionOf_276 rfl (hloop (g 0 2).toNat 0 σ (by omega) jF_rf hO)
end JMA
