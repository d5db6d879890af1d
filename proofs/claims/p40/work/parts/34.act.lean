/-! Which RULES REDUCE, and the ACTIONS, in the class -/
def jn_rd (g : gM) (S : jn_Q) (L : Int → Int → Nat) (fo : Int → Nat) (y s t : Int) (r : Nat) : Prop := (r : Int) < g 0 2 ∧ (r : Int) ≠ g 0 4 ∧ (jn_clo g (S.2.1 s)).testBit ((r : Int) * 5 + jn_len g r).toNat = true ∧ (if y = 0 then L s ((r : Int) * 5 + jn_len g r) else fo (g 3 r)).testBit t.toNat = true
noncomputable def jn_rm (g : gM) (S : jn_Q) (L : Int → Int → Nat) (fo : Int → Nat) (y s t : Int) : Nat := jn_mk (jn_rd g S L fo y s t) 12
def jn_tr (g : gM) (t : Int) : Int := if 0 ≤ t ∧ t < g 0 0 then g 1 t else 0
def jn_ts (g : gM) (t : Int) : Int := if 0 ≤ t ∧ t < g 0 0 then g 2 t else 0
def jn_rr (g : gM) (r : Int) : Int := jn_rk g r (jn_len g r).toNat
def jn_ac1 (g : gM) (go t : Int) (m : Nat) : Int × Nat :=
  if m = 0 then (if go < 0 then 0 else 1000 + go, 0)
  else if 0 ≤ go ∧ (jn_rr g (jn_lo m : Nat) = 0 ∨ jn_tr g t = 0) then (1000 + go, m)
  else (if go < 0 ∨ jn_tr g t < jn_rr g (jn_lo m : Nat) then 2000 + (jn_lo m : Nat) else if jn_rr g (jn_lo m : Nat) < jn_tr g t then 1000 + go else if jn_ts g t = 0 then 2000 + (jn_lo m : Nat) else if jn_ts g t = 1 then 1000 + go else 0, m ^^^ 2 ^ jn_lo m)
def jn_go (g : gM) (S : jn_Q) (s t : Int) : Int := if t = g 0 0 then -1 else S.2.2.1 s t
noncomputable def jn_acs (g : gM) (S : jn_Q) (s t : Int) (m : Nat) : Int × Nat := @ite _ (t = g 0 0 ∧ (jn_clo g (S.2.1 s)).testBit (g 0 2 * 5 + 1).toNat = true) (Classical.propDecidable _) (3000, m) (jn_ac1 g (jn_go g S s t) t m)
/-- the tables' parts behind the actions -/
def jn_TB (σ : jg_M) (T : Nat) (g : gM) (e : Nat) (f : Int → Nat) (S : jn_Q) (L : Int → Int → Nat) (fo : Int → Nat) : Prop :=
  jn_GE σ (T + 1) g e f ∧ jn_Fx σ (T + 10) g e f S ∧ jn_LM σ (T + 10) L ∧ (∀ k, 0 ≤ k → k < 5 → σ.1 (T + 1 + 8) k = (fo k : Nat)) ∧ (∀ s i, L s i < 256) ∧ ∀ k, 0 ≤ k → k < 5 → fo k < 256
theorem jn_TB_fr {W : Nat → Int → Prop} {σ τ : jg_M} {T : Nat} {g : gM} {e : Nat} {f : Int → Nat} {S : jn_Q} {L : Int → Int → Nat} {fo : Int → Nat} (h : jn_TB σ T g e f S L fo) (hF : jF W σ τ) (hn : ∀ a i, T + 1 ≤ a ∧ a ≤ T + 19 → ¬ W a i) : jn_TB τ T g e f S L fo := by
  obtain ⟨h1, h2, h3, h4, h5, h6⟩ := h
  exact ⟨jn_GE_fr h1 hF (fun i _ => hn _ _ (by omega)) (fun k i k1 k2 => hn _ _ (by omega)), jn_Fx_fr h2 hF (fun a i h => hn _ _ (by omega)), fun s i s1 s2 i1 i2 => (hF.1 _ _ (hn _ _ (by omega))).trans (h3 s i s1 s2 i1 i2), fun k k1 k2 => (hF.1 _ _ (hn _ _ (by omega))).trans (h4 k k1 k2), h5, h6⟩
section JAC
variable {w : Nat} {σ : jg_M} {A G T : Nat} {g : gM} {x r k a b s t y : Int} {c : Int} {e : Nat} {f fo : Int → Nat} {S S' : jn_Q} {L L' : Int → Int → Nat} {K : jg_M → Prop} {KI : Int → jg_M → Prop}
theorem jc_X7_hasItem (h0 : jg_sh A = (7, 0)) (hW : jn_GW g) (hR : jn_RC σ A g S) (hF : jn_FP g S) (hs : jr s) (hx : jr x) (hk : KI (jn_b ((0 ≤ s ∧ s < S.1) ∧ 0 ≤ x ∧ (jn_clo g (S.2.1 s)).testBit x.toNat = true)) σ) : jg_CI w 1 mm_X7_hasItem [.ref A, .int (.ofInt s), .int (.ofInt x)] σ KI := by
  have hI1 := hF.1.1
  refine jb_X7_hasItem_0 h0 (jc_X7_has h0 hR.1 (by omega) hs (jn_if (fun hp => ?_) (fun hp => ?_)))
  · rw [jn_b_f (fun q => hp q.1)] at hk
    exact hk
  · have hv := jn_clo_vs hW (hF.1.2.1 s hp.1 hp.2)
    rw [jr_wr hs, (hR.2 s hp.1 hp.2).2.1]
    refine ⟨by omega, jc_inBits hv.1 hx (jn_if (fun hq => ?_) (fun hq => ?_))⟩
    · rw [jn_b_f (fun q => hq q.2)] at hk
      exact hk
    · rw [jn_b_t ⟨hp, hq⟩] at hk
      exact hk
theorem jc_X8_gatherReduces (h0 : jg_sh T = (8, 0)) (h1 : jg_sh (T + 1) = (0, 0)) (h2 : jg_sh (T + 10) = (7, 0)) (hW : jn_GW g) (hB : jn_TB σ T g e f S L fo) (hF : jn_FP g S) (hs : 0 ≤ s ∧ s < S.1) (hy : jr y)
    (hz : ∀ t, 0 ≤ t → t ≤ g 0 0 → σ.1 (T + 21) (s * 8 + t) = 0)
    (hk : ∀ τ, jF (fun a i => a = T + 21 ∧ s * 8 ≤ i ∧ i ≤ s * 8 + g 0 0) σ τ → (∀ t, 0 ≤ t → t ≤ g 0 0 → τ.1 (T + 21) (s * 8 + t) = (jn_rm g S L fo y s t : Nat)) → K τ) : jg_CV w 2 mm_X8_gatherReduces [.ref T, .int (.ofInt s), .int (.ofInt y)] σ K := by
  have hI1 := hF.1.1
  have hw := hW.1
  have hBt : ∀ τ, jF (fun a i => a = T + 21 ∧ s * 8 ≤ i ∧ i ≤ s * 8 + g 0 0) σ τ → jn_TB τ T g e f S L fo := fun τ h => jn_TB_fr hB h (fun a i h => by omega)
  have hrng : ∀ N t : Nat, ∀ t' : Int, jn_mk (fun r => r < N ∧ jn_rd g S L fo y s t' r) 12 < 4096 := fun N t t' => jn_mk_lt
  have hin : ∀ (m : Nat) (t : Nat) (R : Nat) (v : Nat) (u4 : Value) (τ : jg_M), (∀ (u4 u5 u6 : Value) (τ : jg_M), jF (fun a i => a = T + 21 ∧ s * 8 ≤ i ∧ i ≤ s * 8 + g 0 0) σ τ → (∀ t, 0 ≤ t → t ≤ g 0 0 → τ.1 (T + 21) (s * 8 + t) = (jn_mk (fun r => r < R + 1 ∧ jn_rd g S L fo y s t r) 12 : Nat)) → jg_GV w 2 mm_X8_gatherReduces 2 [.ref T, .int (.ofInt s), .int (.ofInt y), .int (.ofInt ((R : Int) + 1)), u4, u5, u6] τ K) →
      R < 12 → v < 256 → (∀ t : Int, 0 ≤ t → t ≤ g 0 0 → (jn_rd g S L fo y s t R ↔ v.testBit t.toNat = true)) → (t : Int) + m = g 0 0 + 1 → jF (fun a i => a = T + 21 ∧ s * 8 ≤ i ∧ i ≤ s * 8 + g 0 0) σ τ → (∀ t' : Int, 0 ≤ t' → t' ≤ g 0 0 → τ.1 (T + 21) (s * 8 + t') = (jn_mk (fun r => r < (if t' < t then R + 1 else R) ∧ jn_rd g S L fo y s t' r) 12 : Nat)) → jg_GV w 2 mm_X8_gatherReduces 73 [.ref T, .int (.ofInt s), .int (.ofInt y), .int (.ofInt (R : Int)), u4, .int (.ofInt (v : Int)), .int (.ofInt (t : Int))] τ K := by
    intro m
    induction m with
    | zero =>
      intro t R v u4 τ hP hR hv hrd ht hFτ hc
      refine jb_X8_gatherReduces_73 h0 ?_
      rw [(hBt τ hFτ).1.1.1.1, jr_wr (by omega), jr_wr (by omega)]
      refine jn_ite (fun _ => hP _ _ _ τ hFτ (fun t' t1 t2 => ?_)) (fun hh => by omega)
      rw [hc t' t1 t2, if_pos (by omega)]
    | succ m ih =>
      intro t R v u4 τ hP hR hv hrd ht hFτ hc
      refine jb_X8_gatherReduces_73 h0 ?_
      rw [(hBt τ hFτ).1.1.1.1, jr_wr (show jr (t : Int) by omega), jr_wr (show jr (g 0 0) by omega), jr_wr (show jr (v : Int) by omega), jr_wr (show jr (s * 8 + (t : Int)) by omega)]
      refine jn_ite (fun hh => by omega) (fun _ => jc_inBits (by omega) (by omega) (jn_if (fun hp => ?_) (fun hp => ⟨by omega, by omega, ?_⟩)))
      · rw [show (t : Int) + 1 = ((t + 1 : Nat) : Int) by omega]
        refine ih (t + 1) R v u4 τ hP hR hv hrd (by omega) hFτ (fun t' t1 t2 => ?_)
        rw [hc t' t1 t2]
        refine jn_mk_ex (fun r _ => ?_)
        by_cases htt : t' = t
        · rw [if_neg (by omega), if_pos (by omega)]
          have : ¬ jn_rd g S L fo y s t' R := fun q => hp ⟨by omega, by rw [← htt]; exact (hrd t' t1 t2).mp q⟩
          exact ⟨fun q => ⟨by omega, q.2⟩, fun q => ⟨by
            have : r ≠ R := fun hr => this (hr ▸ q.2)
            omega, q.2⟩⟩
        · by_cases hlt : t' < t
          · rw [if_pos (by omega), if_pos (by omega)]
          · rw [if_neg (by omega), if_neg (by omega)]
      · rintro _ rfl
        have hct := hc (t : Int) (by omega) (by omega)
        rw [if_neg (by omega)] at hct
        have hM : jn_mk (fun r => r < R ∧ jn_rd g S L fo y s (t : Int) r) 12 < 4096 := jn_mk_lt
        have h2R : 1 * 2 ^ R < 2147483648 := by
          have := Nat.pow_lt_pow_right (a := 2) (n := 12) (by omega) hR
          omega
        rw [hct, show jg_shl 1 (R : Int) = ((1 * 2 ^ R : Nat) : Int) from jb_shl (m := 1) (by omega) h2R, jb_or (by omega) h2R, Nat.one_mul, jn_mk_add hR]
        rw [show (t : Int) + 1 = ((t + 1 : Nat) : Int) by omega]
        refine ih (t + 1) R v u4 _ hP hR hv hrd (by omega) (jF_tr hFτ (jF_I ⟨rfl, by omega, by omega⟩)) (fun t' t1 t2 => ?_)
        by_cases htt : t' = t
        · rw [htt, js_Is, if_pos (by omega)]
          refine jn_mk_ex (fun r _ => ?_)
          have hq := (hrd (t : Int) (by omega) (by omega)).mpr hp.2
          exact ⟨fun q => q.elim (fun q => ⟨by omega, q.2⟩) (fun q => ⟨by omega, q ▸ hq⟩), fun q => by
            by_cases hr : r = R
            · exact Or.inr hr
            · exact Or.inl ⟨by omega, q.2⟩⟩
        · rw [js_In (Or.inr (by omega)), hc t' t1 t2]
          refine jn_mk_ex (fun r _ => ?_)
          by_cases hlt : t' < t
          · rw [if_pos (by omega), if_pos (by omega)]
          · rw [if_neg (by omega), if_neg (by omega)]
  have hout : ∀ (m : Nat) (R : Nat) (u4 u5 u6 : Value) (τ : jg_M), (R : Int) + m = g 0 2 → jF (fun a i => a = T + 21 ∧ s * 8 ≤ i ∧ i ≤ s * 8 + g 0 0) σ τ → (∀ t, 0 ≤ t → t ≤ g 0 0 → τ.1 (T + 21) (s * 8 + t) = (jn_mk (fun r => r < R ∧ jn_rd g S L fo y s t r) 12 : Nat)) → jg_GV w 2 mm_X8_gatherReduces 2 [.ref T, .int (.ofInt s), .int (.ofInt y), .int (.ofInt (R : Int)), u4, u5, u6] τ K := by
    intro m
    induction m with
    | zero =>
      intro R u4 u5 u6 τ hR hFτ hc
      refine jb_X8_gatherReduces_2 h0 ?_
      rw [(hBt τ hFτ).1.1.1.2.2.1, jr_wr (by omega), jr_wr (by omega)]
      refine jn_ite (fun _ => hk τ hFτ (fun t t1 t2 => ?_)) (fun hh => by omega)
      rw [hc t t1 t2]
      exact jn_mk_ex (fun r _ => ⟨fun q => q.2, fun q => ⟨by have := q.1; omega, q⟩⟩)
    | succ m ih =>
      intro R u4 u5 u6 τ hR hFτ hc
      have hBτ := hBt τ hFτ
      have hlr := jn_len_rng (r := (R : Int)) hW
      have next : ∀ u4 u5 u6 τ, jF (fun a i => a = T + 21 ∧ s * 8 ≤ i ∧ i ≤ s * 8 + g 0 0) σ τ → (∀ t, 0 ≤ t → t ≤ g 0 0 → τ.1 (T + 21) (s * 8 + t) = (jn_mk (fun r => r < R + 1 ∧ jn_rd g S L fo y s t r) 12 : Nat)) → jg_GV w 2 mm_X8_gatherReduces 2 [.ref T, .int (.ofInt s), .int (.ofInt y), .int (.ofInt ((R : Int) + 1)), u4, u5, u6] τ K := fun u4 u5 u6 τ q1 q2 => by
        rw [show (R : Int) + 1 = ((R + 1 : Nat) : Int) by omega]
        exact ih (R + 1) u4 u5 u6 τ (by omega) q1 q2
      refine jb_X8_gatherReduces_2 h0 ?_
      rw [hBτ.1.1.1.2.2.1, jr_wr (by omega), jr_wr (by omega)]
      refine jn_ite (fun hh => by omega) (fun _ => jc_X0_itemAtEnd h1 hBτ.1.1 hW (by omega) (jc_X7_hasItem h2 hW hBτ.2.1.1 hF (by omega) (by omega) (jn_if (fun hp => ?_) (fun hp => ?_))))
      · refine next _ _ _ τ hFτ (fun t t1 t2 => ?_)
        rw [hc t t1 t2]
        refine jn_mk_ex (fun r _ => ⟨fun q => ⟨by omega, q.2⟩, fun q => ⟨?_, q.2⟩⟩)
        have : r ≠ R := fun hr => hp ⟨hs, by omega, by
          have := q.2.2.2.1
          rw [hr] at this
          exact this⟩
        omega
      · have hval := (jn_clo_vs hW (hF.1.2.1 s hs.1 hs.2)).2 _ hp.2.2
        have hrR : jn_r ((R : Int) * 5 + jn_len g R).toNat = (R : Int) := by unfold jn_r; omega
        have hne : (R : Int) ≠ g 0 4 := by
          have := hval.2.1
          rw [hrR] at this
          exact this
        have hk3 := hW.2.1 (R : Int) (by omega) (by omega)
        have hc0 : ∀ t' : Int, 0 ≤ t' → t' ≤ g 0 0 → τ.1 (T + 21) (s * 8 + t') = (jn_mk (fun r => r < (if t' < ((0 : Nat) : Int) then R + 1 else R) ∧ jn_rd g S L fo y s t' r) 12 : Nat) := fun t' t1 t2 => by
          rw [hc t' t1 t2, if_neg (by omega)]
        rw [jr_wr hy]
        refine jn_ite (fun hy0 => ?_) (fun hy0 => ?_)
        · refine jc_X7_behind h2 hBτ.2.1.1.1 (by omega) (by omega) (by omega) ?_
          rw [if_pos ⟨hs, by omega, by omega⟩, hBτ.2.2.1 s _ (by omega) (by omega) (by omega) (by omega)]
          refine hin (g 0 0 + 1).toNat 0 R _ _ τ next (by omega) (hBτ.2.2.2.2.1 _ _) (fun t t1 t2 => ?_) (by omega) hFτ hc0
          unfold jn_rd
          rw [if_pos hy0]
          exact ⟨fun q => q.2.2.2, fun q => ⟨by omega, hne, hp.2.2, q⟩⟩
        · refine jc_X0_kindOf h1 hBτ.1.1 hW (by omega) ?_
          rw [if_pos (by omega)]
          refine jc_X0_followOf h1 hBτ.1.1 hW (by omega) ?_
          rw [if_pos (by omega), hBτ.2.2.2.1 _ (by omega) (by omega)]
          refine hin (g 0 0 + 1).toNat 0 R _ _ τ next (by omega) (hBτ.2.2.2.2.2 _ (by omega) (by omega)) (fun t t1 t2 => ?_) (by omega) hFτ hc0
          unfold jn_rd
          rw [if_neg hy0]
          exact ⟨fun q => q.2.2.2, fun q => ⟨by omega, hne, hp.2.2, q⟩⟩
  refine jb_X8_gatherReduces_0 h0 (hout (g 0 2).toNat 0 _ _ _ σ (by omega) jF_rf (fun t t1 t2 => ?_))
  rw [hz t t1 t2]
  have h00 : jn_mk (fun r => r < 0 ∧ jn_rd g S L fo y s t r) 12 = 0 := jn_bits (fun i => by
    rw [jn_mk_bit, Nat.zero_testBit]
    exact ⟨fun q => by omega, fun q => by cases q⟩)
  rw [h00]
  rfl
end JAC
