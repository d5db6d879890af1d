/-! What INCLUDES what, in the reference, 2 -/
section JMJ
variable {w : Nat} {σ : jg_M} {g : gM} {r s k x s0 r0 : Int} {e t0 m d0 m0 : Nat} {f fo : Int → Nat} {S : jn_Q} {R R' : Nat → Nat → Prop} {K : jg_M → Prop} {KI : Int → jg_M → Prop}
theorem jn_Im_on (h : jn_Ir g e S r0 d0 m0 t0) (hs : ((t0 / 5 : Nat) : Int) = s0) {m t : Nat} : jn_Im g e S s0 r0 (d0 + 1) m t ↔ jn_Im g e S s0 r0 d0 m t ∨ (m = m0 ∧ t = t0) := by
  constructor
  · rintro ⟨r, d, q1, q2⟩
    by_cases hh : ((t / 5 : Nat) : Int) = s0 ∧ r = r0 ∧ d = d0
    · obtain ⟨h1, h2, h3⟩ := hh
      rw [h2, h3] at q1
      have e3 := q1.1.2.2
      have e4 := h.1.2.2
      have ht : t = t0 := by omega
      refine Or.inr ⟨?_, ht⟩
      have e1 := q1.2.2.2.2.2
      have e2 := h.2.2.2.2.2
      rw [ht] at e1
      omega
    · exact Or.inl ⟨r, d, q1, by omega⟩
  · rintro (⟨r, d, q1, q2⟩ | ⟨q1, q2⟩)
    · exact ⟨r, d, q1, by omega⟩
    · rw [q1, q2]
      exact ⟨r0, d0, h, by omega⟩
theorem jn_Im_off (h : ∀ m t : Nat, ((t / 5 : Nat) : Int) = s0 → ¬ jn_Ir g e S r0 d0 m t) {m t : Nat} : jn_Im g e S s0 r0 (d0 + 1) m t ↔ jn_Im g e S s0 r0 d0 m t := by
  constructor
  · rintro ⟨r, d, q1, q2⟩
    by_cases hh : ((t / 5 : Nat) : Int) = s0 ∧ r = r0 ∧ d = d0
    · obtain ⟨h1, h2, h3⟩ := hh
      rw [h2, h3] at q1
      exact absurd q1 (h m t h1)
    · exact ⟨r, d, q1, by omega⟩
  · rintro ⟨r, d, q1, q2⟩
    exact ⟨r, d, q1, by omega⟩
theorem jn_Im_rule (h : ∀ d m t : Nat, d0 ≤ d → ((t / 5 : Nat) : Int) = s0 → ¬ jn_Ir g e S r0 d m t) {m t : Nat} : jn_Im g e S s0 r0 d0 m t ↔ jn_Im g e S s0 (r0 + 1) 0 m t := by
  constructor
  · rintro ⟨r, d, q1, q2⟩
    exact ⟨r, d, q1, by omega⟩
  · rintro ⟨r, d, q1, q2⟩
    by_cases hh : ((t / 5 : Nat) : Int) = s0 ∧ r = r0
    · obtain ⟨h1, h2⟩ := hh
      refine ⟨r, d, q1, Or.inr ⟨h1, Or.inr ⟨h2, Classical.byContradiction (fun hd => ?_)⟩⟩⟩
      rw [h2] at q1
      exact h d m t (by omega) h1 q1
    · exact ⟨r, d, q1, by omega⟩
theorem jn_Im_state (h : ∀ (r : Int) (d m t : Nat), r0 ≤ r → ¬ jn_Ir g e S r d m t) {m t : Nat} : jn_Im g e S s0 r0 0 m t ↔ jn_Im g e S (s0 + 1) 0 0 m t := by
  constructor
  · rintro ⟨r, d, q1, q2⟩
    exact ⟨r, d, q1, by omega⟩
  · rintro ⟨r, d, q1, q2⟩
    refine ⟨r, d, q1, ?_⟩
    have hr := q1.1.1
    by_cases hh : ((t / 5 : Nat) : Int) = s0
    · refine Or.inr ⟨hh, Or.inl (Classical.byContradiction (fun hd => h r d m t (by omega) q1))⟩
    · omega
def jW_mi (a : Nat) (i : Int) : Prop := a = 92 + 27 ∨ (a = 92 + 28 ∧ i = 3)
theorem jm_layIncludes (hM : jn_M0 σ g e S) (hW : jn_GW g) (hn0 : 0 < g 0 1) (ho : g 0 4 = -1) (hF : jn_FP g S) (hz : σ.1 (92 + 28) 3 = 0)
    (hk : ∀ τ, jF jW_mi σ τ → jn_IM τ (jn_Ib g e S 240 0 0) → τ.1 (92 + 28) 3 = (jn_ct (jn_ll g S) 576 : Nat) → K τ) : jg_CV w 3 mm_X12_layIncludes [.ref 92] σ K := by
  have hw := hW.1
  have hI1 := hF.1.1
  have hMt : ∀ τ, jF jW_mi σ τ → jn_M0 τ g e S := fun τ h => jn_M0_fr hM h (fun i => by unfold jW_mi; omega) (fun k i hk => by unfold jW_mi; omega)
  -- the symbols of a rule
  have hd : ∀ (n d : Nat) (s r : Int) (u5 u6 u7 : Value) (τ : jg_M), (∀ (u4 u3 u5 u6 u7 : Value) (τ : jg_M), jF jW_mi σ τ → jn_IM τ (jn_Im g e S s (r + 1) 0) → τ.1 (92 + 28) 3 = (jn_ct (jn_ll g S) (12 * s + r + 1).toNat : Nat) → jg_GV w 3 mm_X12_layIncludes 36 [.ref 92, .int (.ofInt s), .int (.ofInt (r + 1)), u3, u4, u5, u6, u7] τ K) →
      0 ≤ s → s < S.1 → 0 ≤ r → r < g 0 2 → (d : Int) + n = jn_len g r → jF jW_mi σ τ → jn_IM τ (jn_Im g e S s r d) → τ.1 (92 + 28) 3 = (jn_ct (jn_ll g S) (12 * s + r).toNat : Nat) → jg_GV w 3 mm_X12_layIncludes 56 [.ref 92, .int (.ofInt s), .int (.ofInt r), .int (.ofInt (g 3 r)), .int (.ofInt (d : Int)), u5, u6, u7] τ K := by
    intro n
    induction n with
    | zero =>
      intro d s r u5 u6 u7 τ hP s0 s1 r0 r1 hdn hFτ hI hc
      have hMτ := hMt τ hFτ
      have hl := jn_len_rng (r := r) hW
      have hkd := (hW.2.1 r r0 r1).1
      have hb := hF.1.2.2.1 s (10 + g 3 r)
      have hll : jn_ll g S (12 * s + r).toNat = true ↔ 0 ≤ S.2.2.1 s (10 + g 3 r) := by
        rw [jn_ll_iff, show (((12 * s + r).toNat % 12 : Nat) : Int) = r by omega, jn_mv_iff, show (((5 * ((12 * s + r).toNat / 12) + (g 3 r).toNat) / 5 : Nat) : Int) = s by omega, show (((5 * ((12 * s + r).toNat / 12) + (g 3 r).toNat) % 5 : Nat) : Int) = g 3 r by omega]
        exact ⟨fun q => q.2.2, fun q => ⟨r1, s1, q⟩⟩
      have hIn : jn_IM τ (jn_Im g e S s (r + 1) 0) := jn_IM_eq hI (fun m t _ _ => jn_Im_rule (fun d' m' t' hd' _ q => by
        have := q.2.2.1
        omega))
      refine jb_X12_layIncludes_56 rfl (jm_longOf hMτ.1 hW ⟨r0, by omega⟩ ?_)
      rw [jr_wr (by omega), jr_wr (by omega)]
      refine jn_ite (fun _ => jm_kindMove hMτ hF ⟨s0, s1⟩ (by omega) ?_) (fun h => by omega)
      rw [jr_wr (by omega), hc]
      refine jn_ite (fun hneg => ?_) (fun hpos => ?_) <;> rintro _ rfl
      · refine hP _ _ _ _ _ _ (jF_tr hFτ (jF_I (Or.inr ⟨rfl, rfl⟩))) (jn_IM_fr (W := fun a i => a = 92 + 28) hIn (jF_I rfl) (fun i => by omega)) ?_
        rw [js_Is, show (12 * s + r + 1).toNat = (12 * s + r).toNat + 1 by omega, jn_ct_f (fun q => by have := hll.mp q; omega)]
        omega
      · refine hP _ _ _ _ _ _ (jF_tr hFτ (jF_I (Or.inr ⟨rfl, rfl⟩))) (jn_IM_fr (W := fun a i => a = 92 + 28) hIn (jF_I rfl) (fun i => by omega)) ?_
        rw [js_Is, show (12 * s + r + 1).toNat = (12 * s + r).toNat + 1 by omega, jn_ct_t (hll.mpr (by omega))]
        omega
    | succ n ih =>
      intro d s r u5 u6 u7 τ hP s0 s1 r0 r1 hdn hFτ hI hc
      have hMτ := hMt τ hFτ
      have hl := jn_len_rng (r := r) hW
      have hkd := (hW.2.1 r r0 r1).1
      have hb := hF.1.2.2.1 s (10 + g 3 r)
      have hll : jn_ll g S (12 * s + r).toNat = true ↔ 0 ≤ S.2.2.1 s (10 + g 3 r) := by
        rw [jn_ll_iff, show (((12 * s + r).toNat % 12 : Nat) : Int) = r by omega, jn_mv_iff, show (((5 * ((12 * s + r).toNat / 12) + (g 3 r).toNat) / 5 : Nat) : Int) = s by omega, show (((5 * ((12 * s + r).toNat / 12) + (g 3 r).toNat) % 5 : Nat) : Int) = g 3 r by omega]
        exact ⟨fun q => q.2.2, fun q => ⟨r1, s1, q⟩⟩
      have hto : ((((5 * s + g 3 r).toNat / 5 : Nat)) : Int) = s ∧ ((((5 * s + g 3 r).toNat % 5 : Nat)) : Int) = g 3 r := by omega
      have hmvt : jn_mv S (5 * s + g 3 r).toNat = true ↔ 0 ≤ S.2.2.1 s (10 + g 3 r) := by
        rw [jn_mv_iff, hto.1, hto.2]
        exact ⟨fun q => q.2, fun q => ⟨s1, q⟩⟩
      refine jb_X12_layIncludes_56 rfl (jm_longOf hMτ.1 hW ⟨r0, by omega⟩ ?_)
      rw [jr_wr (by omega), jr_wr (by omega)]
      refine jn_ite (fun h => by omega) (fun _ => jm_kindMove hMτ hF ⟨s0, s1⟩ (by omega) ?_)
      rw [jr_wr (show jr (S.2.2.1 s (10 + g 3 r)) by omega)]
      refine jn_ite (fun hneg => jm_kindMove hMτ hF ⟨s0, s1⟩ (by omega) ?_) (fun hpos => ?_)
      · rw [jr_wr (show jr (S.2.2.1 s (10 + g 3 r)) by omega), hc]
        refine jn_ite (fun _ => ?_) (fun h => by omega)
        rintro _ rfl
        have hIn : jn_IM τ (jn_Im g e S s (r + 1) 0) := jn_IM_eq hI (fun m t _ _ => jn_Im_rule (fun d' m' t' hd' ht' q => by
          have h1 := q.1.2.2
          have h2 := q.2.1
          rw [show t' = (5 * s + g 3 r).toNat by omega] at h2
          have := hmvt.mp h2
          omega))
        refine hP _ _ _ _ _ _ (jF_tr hFτ (jF_I (Or.inr ⟨rfl, rfl⟩))) (jn_IM_fr (W := fun a i => a = 92 + 28) hIn (jF_I rfl) (fun i => by omega)) ?_
        rw [js_Is, show (12 * s + r + 1).toNat = (12 * s + r).toNat + 1 by omega, jn_ct_f (fun q => by have := hll.mp q; omega)]
        omega
      · have hru := (jn_mv_rule hW hn0 hF ⟨s0, s1⟩ (k := g 3 r) (by omega) (by omega)).2 r r0 r1 (by omega) rfl
        have hwy : ∀ d' : Nat, (d' : Int) ≤ jn_len g r → 0 ≤ jn_wy g S s r d' ∧ jn_wy g S s r d' < S.1 := fun d' hd' => (jn_wy_ok hW hF ⟨s0, s1⟩ ⟨r0, r1, by omega⟩ hru (d := d') hd').1
        have hy := hwy d (by omega)
        have hy2 := hwy (d + 1) (by omega)
        have hsr := jn_sym_rng (r := r) (k := (d : Int)) hW ⟨by omega, by omega⟩
        obtain ⟨x1, x2, x3, x4, x5⟩ := jn_sy_mx2 (x := jn_sym g r d) (by omega)
        have next : ∀ (u5 u6 u7 : Value) τ, jF jW_mi σ τ → jn_IM τ (jn_Im g e S s r (d + 1)) → τ.1 (92 + 28) 3 = (jn_ct (jn_ll g S) (12 * s + r).toNat : Nat) → jg_GV w 3 mm_X12_layIncludes 56 [.ref 92, .int (.ofInt s), .int (.ofInt r), .int (.ofInt (g 3 r)), .int (.ofInt ((d : Int) + 1)), u5, u6, u7] τ K := fun u5 u6 u7 τ q1 q2 q3 => by
          rw [show (d : Int) + 1 = ((d + 1 : Nat) : Int) by omega]
          exact ih (d + 1) s r u5 u6 u7 τ hP s0 s1 r0 r1 (by omega) q1 q2 q3
        refine jm_moveBy hMτ.1 hW ⟨r0, by omega⟩ (by omega) ?_
        rw [jr_wr (show jr (jn_mx (jn_sym g r d)) by omega)]
        refine jn_ite (fun hlt => next _ _ _ τ hFτ (jn_IM_eq hI (fun m t _ _ => (jn_Im_off (fun m' t' _ q => by
          have := q.2.2.2.1
          omega)).symm)) hc) (fun hge => ?_)
        refine jm_isEmptyFrom hMτ.1 hW hMτ.2.1 (by omega) hMτ.2.2.1.1 hMτ.2.2.1.2 ⟨r0, by omega⟩ (by omega) (jn_if (fun hp => ?_) (fun hp => ?_))
        · exact next _ _ _ τ hFτ (jn_IM_eq hI (fun m t _ _ => (jn_Im_off (fun m' t' _ q => hp q.2.2.2.2.1)).symm)) hc
        · refine jm_wayBy hMτ hW hF ⟨r0, r1⟩ (by omega) (fun d' hd' => hwy d' (by omega)) ?_
          rintro _ rfl _ rfl
          rw [jb_div (by omega) (by omega), jb_rem (by omega) (by omega)]
          have hm0 : (((5 * jn_wy g S s r d + (jn_sym g r d - 10)).toNat : Nat) : Int) = 5 * jn_wy g S s r d + jn_mx (jn_sym g r d) - 7 := by omega
          have ht0 : (((5 * s + g 3 r).toNat : Nat) : Int) = 5 * s + g 3 r := by omega
          have hset := jn_IM_set (m := (5 * jn_wy g S s r d + (jn_sym g r d - 10)).toNat) (t0 := (5 * s + g 3 r).toNat) hI (by omega) (by omega)
          rw [hm0, ht0] at hset
          rw [jr_wr (show jr (8 * (5 * jn_wy g S s r d + jn_mx (jn_sym g r d) - 7) + (5 * s + g 3 r) / 30) by omega)]
          refine ⟨by omega, by omega, ?_⟩
          rintro _ rfl
          have hIr : jn_Ir g e S r d (5 * jn_wy g S s r d + (jn_sym g r d - 10)).toNat (5 * s + g 3 r).toNat := ⟨⟨r0, r1, by omega⟩, hmvt.mpr (by omega), by omega, by omega, hp, by rw [hto.1]; omega⟩
          refine next _ _ _ _ (jF_tr hFτ (jF_I (Or.inl rfl))) (jn_IM_eq hset (fun m t _ _ => (jn_Im_on hIr hto.1).symm)) ?_
          rw [js_In (Or.inl (by omega))]
          exact hc
  have hr : ∀ (n : Nat) (s r : Int) (u3 u4 u5 u6 u7 : Value) (τ : jg_M), (∀ (u2 u3 u4 u5 u6 u7 : Value) (τ : jg_M), jF jW_mi σ τ → jn_IM τ (jn_Im g e S (s + 1) 0 0) → τ.1 (92 + 28) 3 = (jn_ct (jn_ll g S) (12 * (s + 1)).toNat : Nat) → jg_GV w 3 mm_X12_layIncludes 24 [.ref 92, .int (.ofInt (s + 1)), u2, u3, u4, u5, u6, u7] τ K) →
      0 ≤ s → s < S.1 → 0 ≤ r → r + n = g 0 2 → jF jW_mi σ τ → jn_IM τ (jn_Im g e S s r 0) → τ.1 (92 + 28) 3 = (jn_ct (jn_ll g S) (12 * s + r).toNat : Nat) → jg_GV w 3 mm_X12_layIncludes 36 [.ref 92, .int (.ofInt s), .int (.ofInt r), u3, u4, u5, u6, u7] τ K := by
    intro n
    induction n with
    | zero =>
      intro s r u3 u4 u5 u6 u7 τ hP s0 s1 r0 hrn hFτ hI hc
      have hMτ := hMt τ hFτ
      refine jb_X12_layIncludes_36 rfl ?_
      rw [hMτ.1.1.2.2.2.2.2.2, jr_wr (by omega), jr_wr (by omega)]
      refine jn_ite (fun _ => hP _ _ _ _ _ _ τ hFτ (jn_IM_eq hI (fun m t _ _ => jn_Im_state (fun r' d' m' t' hr' q => by
        have := q.1.2.1
        omega))) ?_) (fun h => by omega)
      rw [hc]
      have := jn_ct_skip (p := jn_ll g S) (k := (12 * s + r).toNat) (d := (12 - r).toNat) (fun j j1 j2 q => by
        have := (jn_ll_iff.mp q).1
        omega)
      rw [show (12 * s + r).toNat + (12 - r).toNat = (12 * (s + 1)).toNat by omega] at this
      rw [this]
    | succ n ih =>
      intro s r u3 u4 u5 u6 u7 τ hP s0 s1 r0 hrn hFτ hI hc
      have hMτ := hMt τ hFτ
      have hl := jn_len_rng (r := r) hW
      have h9 := (hMτ.1.2 r r0 (by omega)).1
      rw [show 13 * 0 + r = r by omega] at h9
      refine jb_X12_layIncludes_36 rfl ?_
      rw [hMτ.1.1.2.2.2.2.2.2, jr_wr (show jr (g 0 2) by omega), jr_wr (show jr r by omega)]
      refine jn_ite (fun h => by omega) (fun _ => ⟨by omega, ?_⟩)
      rintro _ rfl
      rw [h9]
      refine hd (jn_len g r).toNat 0 s r u5 u6 u7 τ (fun u4 u3 u5 u6 u7 τ q1 q2 q3 => ih s (r + 1) u3 u4 u5 u6 u7 τ hP s0 s1 (by omega) (by omega) q1 q2 (by rwa [show (12 * s + (r + 1)).toNat = (12 * s + r + 1).toNat by omega])) s0 s1 r0 (by omega) (by omega) hFτ hI hc
  have hs : ∀ (n : Nat) (s : Int) (u2 u3 u4 u5 u6 u7 : Value) (τ : jg_M), 0 ≤ s → s + n = S.1 → jF jW_mi σ τ → jn_IM τ (jn_Im g e S s 0 0) → τ.1 (92 + 28) 3 = (jn_ct (jn_ll g S) (12 * s).toNat : Nat) → jg_GV w 3 mm_X12_layIncludes 24 [.ref 92, .int (.ofInt s), u2, u3, u4, u5, u6, u7] τ K := by
    intro n
    induction n with
    | zero =>
      intro s u2 u3 u4 u5 u6 u7 τ s0 hsn hFτ hI hc
      have hMτ := hMt τ hFτ
      refine jb_X12_layIncludes_24 rfl ?_
      rw [hMτ.2.2.2.1, jr_wr (by omega), jr_wr (by omega)]
      refine jn_ite (fun _ => hk τ hFτ (jn_IM_eq hI (fun m t _ ht => ?_)) ?_) (fun h => by omega)
      · constructor
        · rintro ⟨r, d, q1, q2⟩
          exact ⟨r, d, q1, Or.inl ht⟩
        · rintro ⟨r, d, q1, q2⟩
          refine ⟨r, d, q1, Or.inl ?_⟩
          have := (jn_mv_iff.mp q1.2.1).1
          omega
      · rw [hc]
        have := jn_ct_skip (p := jn_ll g S) (k := (12 * s).toNat) (d := 576 - (12 * s).toNat) (fun j j1 j2 q => by
          have h1 := jn_ll_iff.mp q
          have h2 := (jn_mv_iff.mp h1.2).1
          have h3 := (hW.2.1 ((j % 12 : Nat) : Int) (by omega) h1.1).1
          omega)
        rw [show (12 * s).toNat + (576 - (12 * s).toNat) = 576 by omega] at this
        rw [this]
    | succ n ih =>
      intro s u2 u3 u4 u5 u6 u7 τ s0 hsn hFτ hI hc
      have hMτ := hMt τ hFτ
      refine jb_X12_layIncludes_24 rfl ?_
      rw [hMτ.2.2.2.1, jr_wr (by omega), jr_wr (by omega)]
      refine jn_ite (fun h => by omega) (fun _ => ?_)
      exact hr (g 0 2).toNat s 0 u3 u4 u5 u6 u7 τ (fun u2 u3 u4 u5 u6 u7 τ q1 q2 q3 => ih (s + 1) u2 u3 u4 u5 u6 u7 τ (by omega) (by omega) q1 q2 q3) s0 (by omega) (by omega) (by omega) hFτ hI (by rwa [show (12 * s + 0).toNat = (12 * s).toNat by omega])
  have hz0 : ∀ (n i : Nat) (τ : jg_M), i + n = 1920 → jF jW_mi σ τ → (∀ j : Int, 0 ≤ j → j < i → τ.1 (92 + 27) j = 0) → τ.1 (92 + 28) 3 = 0 → jg_GV w 3 mm_X12_layIncludes 2 [.ref 92, .int (.ofInt (i : Int)), mj_U, mj_U, mj_U, mj_U, mj_U, mj_U] τ K := by
    intro n
    induction n with
    | zero =>
      intro i τ hi hFτ hj h3
      refine jb_X12_layIncludes_2 rfl ?_
      rw [jr_wr (by omega)]
      refine jn_ite (fun _ => hs S.1.toNat 0 _ _ _ _ _ _ τ (by omega) (by omega) hFτ (fun m j hm hj8 => ⟨0, hj _ (by omega) (by omega), by omega, fun b hb => ?_⟩) (by rw [h3]; rfl)) (fun h => by omega)
      rw [Nat.zero_testBit]
      refine ⟨fun q => (by cases q), fun q => ?_⟩
      obtain ⟨r, d, q1, q2⟩ := q
      have := q1.1.1
      omega
    | succ n ih =>
      intro i τ hi hFτ hj h3
      refine jb_X12_layIncludes_2 rfl ?_
      rw [jr_wr (by omega)]
      refine jn_ite (fun h => by omega) (fun _ => ⟨by omega, ?_⟩)
      rintro _ rfl
      rw [show (i : Int) + 1 = ((i + 1 : Nat) : Int) by omega]
      refine ih (i + 1) _ (by omega) (jF_tr hFτ (jF_I (Or.inl rfl))) (fun j j0 j1 => ?_) (by rw [js_In (Or.inl (by omega))]; exact h3)
      by_cases hji : j = i
      · rw [hji, js_Is]
      · rw [js_In (Or.inr (by omega))]
        exact hj j j0 (by omega)
  exact jb_X12_layIncludes_0 rfl (hz0 1920 0 σ rfl jF_rf (fun j j0 j1 => by omega) hz)
end JMJ
