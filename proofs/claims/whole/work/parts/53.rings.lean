/-! Rings, in the reference -/
def jn_st (R : Nat → Nat → Prop) (k m t : Nat) : Prop := R m t ∨ (R m k ∧ R k t)
def jn_wf (R : Nat → Nat → Prop) : Nat → Nat → Nat → Prop
  | 0 => R
  | k + 1 => jn_st (jn_wf R k) k
def jn_mu (R : Nat → Nat → Prop) (m t : Nat) : Prop := t ≠ m ∧ R m t ∧ R t m
noncomputable def jn_ld (R : Nat → Nat → Prop) (N m : Nat) : Bool := @decide ((∃ t, t < N ∧ jn_mu R m t) ∧ ∀ t, t < N → jn_mu R m t → m < t) (Classical.propDecidable _)
theorem jn_ld_iff {R : Nat → Nat → Prop} {N m : Nat} : jn_ld R N m = true ↔ (∃ t, t < N ∧ jn_mu R m t) ∧ ∀ t, t < N → jn_mu R m t → m < t := @decide_eq_true_iff _ (Classical.propDecidable _)
def jW_ri (a : Nat) (i : Int) : Prop := a = 92 + 27 ∨ (a = 92 + 28 ∧ i = 4)
section JRI
variable {w : Nat} {σ : jg_M} {g : gM} {r s x : Int} {e N m k : Nat} {S : jn_Q} {R : Nat → Nat → Prop} {K : jg_M → Prop}
theorem jn_IM_word (hI : jn_IM σ R) {R' : Nat → Nat → Prop} {v : Nat} {j0 : Nat} (hj0 : j0 < 8) (hv : v < 1073741824) (hvb : ∀ b, b < 30 → (v.testBit b = true ↔ R' m (30 * j0 + b))) (hsame : ∀ m' t, m' < 240 → t < 240 → ¬ (m' = m ∧ t / 30 = j0) → (R m' t ↔ R' m' t)) : jn_IM (jg_sI σ (92 + 27) (8 * (m : Int) + j0) (v : Nat)) R' := fun m' j hm' hj => by
  by_cases h : m' = m ∧ j = j0
  · rw [h.1, h.2, js_Is]
    exact ⟨v, rfl, hv, hvb⟩
  · rw [js_In (Or.inr (by omega))]
    obtain ⟨u, h1, h2, h3⟩ := hI m' j hm' hj
    refine ⟨u, h1, h2, fun b hb => (h3 b hb).trans ?_⟩
    by_cases ht : 30 * j + b < 240
    · exact hsame m' _ hm' ht (fun q => h ⟨q.1, by omega⟩)
    · omega
theorem jn_wf_lt (hR : ∀ m t, R m t → m < N) : ∀ {k m t : Nat}, jn_wf R k m t → m < N
  | 0, m, t, h => hR m t h
  | k + 1, m, t, h => h.elim (fun q => jn_wf_lt hR q) (fun q => jn_wf_lt hR q.1)
theorem jm_layRings (hRm : ∀ m t, R m t → m < 5 * N) (hn : σ.1 (92 + 13) 0 = (N : Nat)) (hN : N ≤ 48) (hI : jn_IM σ R) (hz : σ.1 (92 + 28) 4 = 0)
    (hk : ∀ τ, jF jW_ri σ τ → τ.1 (92 + 28) 4 = (jn_ct (jn_ld (jn_wf R (5 * N)) (5 * N)) (5 * N) : Nat) → K τ) : jg_CV w 2 mm_X12_layRings [.ref 92] σ K := by
  have hwd : ∀ (n j k m : Nat) (u5 : Value) (τ : jg_M), (∀ (u4 u5 : Value) (τ : jg_M), jF jW_ri σ τ → τ.1 (92 + 28) 4 = 0 → jn_IM τ (fun m' t => if m' < m + 1 then jn_st (jn_wf R k) k m' t else jn_wf R k m' t) → jg_GV w 2 mm_X12_layRings 18 [.ref 92, .int (.ofInt ((5 * N : Nat) : Int)), .int (.ofInt (k : Int)), .int (.ofInt ((m : Int) + 1)), u4, u5] τ K) →
      k < 5 * N → m < 5 * N → jn_wf R k m k → j + n = 8 → jF jW_ri σ τ → τ.1 (92 + 28) 4 = 0 → jn_IM τ (fun m' t => if m' < m ∨ (m' = m ∧ t < 30 * j) then jn_st (jn_wf R k) k m' t else jn_wf R k m' t) → jg_GV w 2 mm_X12_layRings 38 [.ref 92, .int (.ofInt ((5 * N : Nat) : Int)), .int (.ofInt (k : Int)), .int (.ofInt (m : Int)), .int (.ofInt (j : Int)), u5] τ K := by
    intro n
    induction n with
    | zero =>
      intro j k m u5 τ hP hk5 hm5 hmk hj hFτ h4 hIτ
      refine jb_X12_layRings_38 rfl ?_
      rw [jr_wr (by omega)]
      refine jn_ite (fun _ => hP _ _ τ hFτ h4 (jn_IM_eq hIτ (fun m' t hm' ht => ?_))) (fun h => by omega)
      by_cases h1 : m' < m + 1
      · rw [if_pos h1, if_pos (by omega)]
      · rw [if_neg h1, if_neg (by omega)]
    | succ n ih =>
      intro j k m u5 τ hP hk5 hm5 hmk hj hFτ h4 hIτ
      obtain ⟨v1, p1, p2, p3⟩ := hIτ m j (by omega) (by omega)
      obtain ⟨v2, q1, q2, q3⟩ := hIτ k j (by omega) (by omega)
      have hor : v1 ||| v2 < 1073741824 := Nat.or_lt_two_pow (n := 30) p2 q2
      refine jb_X12_layRings_38 rfl ?_
      rw [jr_wr (show jr (j : Int) by omega), jr_wr (show jr (8 * (m : Int) + (j : Int)) by omega), jr_wr (show jr (8 * (k : Int) + (j : Int)) by omega), p1, q1, jb_or (by omega) (by omega)]
      refine jn_ite (fun h => by omega) (fun _ => ⟨by omega, by omega, by omega, ?_⟩)
      rintro _ rfl
      rw [show (j : Int) + 1 = ((j + 1 : Nat) : Int) by omega]
      refine ih (j + 1) k m u5 _ hP hk5 hm5 hmk (by omega) (jF_tr hFτ (jF_I (Or.inl rfl))) (by rw [js_In (Or.inl (by omega))]; exact h4) (jn_IM_word hIτ (by omega) hor (fun b hb => ?_) (fun m' t hm' ht hne => ?_))
      · rw [Nat.testBit_or, Bool.or_eq_true, p3 b hb, q3 b hb]
        dsimp only
        rw [if_neg (show ¬ (m < m ∨ (m = m ∧ 30 * j + b < 30 * j)) by omega), if_pos (show m < m ∨ (m = m ∧ 30 * j + b < 30 * (j + 1)) by omega)]
        have hkk : (if k < m ∨ (k = m ∧ 30 * j + b < 30 * j) then jn_st (jn_wf R k) k k (30 * j + b) else jn_wf R k k (30 * j + b)) ↔ jn_wf R k k (30 * j + b) := by
          split
          · exact ⟨fun q => q.elim id (fun q => q.2), Or.inl⟩
          · exact Iff.rfl
        rw [hkk]
        exact ⟨fun q => q.elim Or.inl (fun q => Or.inr ⟨hmk, q⟩), fun q => q.elim Or.inl (fun q => Or.inr q.2)⟩
      · by_cases h1 : m' < m ∨ (m' = m ∧ t < 30 * j)
        · rw [if_pos h1, if_pos (by omega)]
        · rw [if_neg h1, if_neg (by omega)]
  have hmm : ∀ (n m k : Nat) (u4 u5 : Value) (τ : jg_M), (∀ (u3 u4 u5 : Value) (τ : jg_M), jF jW_ri σ τ → τ.1 (92 + 28) 4 = 0 → jn_IM τ (jn_wf R (k + 1)) → jg_GV w 2 mm_X12_layRings 11 [.ref 92, .int (.ofInt ((5 * N : Nat) : Int)), .int (.ofInt ((k : Int) + 1)), u3, u4, u5] τ K) →
      k < 5 * N → m + n = 5 * N → jF jW_ri σ τ → τ.1 (92 + 28) 4 = 0 → jn_IM τ (fun m' t => if m' < m then jn_st (jn_wf R k) k m' t else jn_wf R k m' t) → jg_GV w 2 mm_X12_layRings 18 [.ref 92, .int (.ofInt ((5 * N : Nat) : Int)), .int (.ofInt (k : Int)), .int (.ofInt (m : Int)), u4, u5] τ K := by
    intro n
    induction n with
    | zero =>
      intro m k u4 u5 τ hP hk5 hm hFτ h4 hIτ
      refine jb_X12_layRings_18 rfl ?_
      rw [jr_wr (by omega), jr_wr (by omega)]
      refine jn_ite (fun _ => hP _ _ _ τ hFτ h4 (jn_IM_eq hIτ (fun m' t hm' ht => ?_))) (fun h => by omega)
      by_cases h1 : m' < m
      · rw [if_pos h1]; exact Iff.rfl
      · rw [if_neg h1]
        exact ⟨Or.inl, fun q => q.elim id (fun q => absurd (jn_wf_lt hRm q.1) (by omega))⟩
    | succ n ih =>
      intro m k u4 u5 τ hP hk5 hm hFτ h4 hIτ
      refine jb_X12_layRings_18 rfl ?_
      rw [jr_wr (by omega), jr_wr (by omega)]
      refine jn_ite (fun h => by omega) (fun _ => jm_isIncluded hIτ (by omega) (by omega) ?_)
      rw [if_neg (show ¬ m < m by omega)]
      refine jn_if (fun hp => ?_) (fun hp => ?_)
      · rw [show (m : Int) + 1 = ((m + 1 : Nat) : Int) by omega]
        refine ih (m + 1) k u4 u5 τ hP hk5 (by omega) hFτ h4 (jn_IM_eq hIτ (fun m' t hm' ht => ?_))
        by_cases h1 : m' < m
        · rw [if_pos h1, if_pos (by omega)]
        · by_cases h2 : m' = m
          · rw [if_neg h1, if_pos (by omega), h2]
            exact ⟨Or.inl, fun q => q.elim id (fun q => absurd q.1 hp)⟩
          · rw [if_neg h1, if_neg (by omega)]
      · refine hwd 8 0 k m u5 τ (fun u4 u5 τ q1 q2 q3 => ?_) hk5 (by omega) hp rfl hFτ h4 (jn_IM_eq hIτ (fun m' t hm' ht => ?_))
        · rw [show (m : Int) + 1 = ((m + 1 : Nat) : Int) by omega]
          exact ih (m + 1) k u4 u5 τ hP hk5 (by omega) q1 q2 q3
        · by_cases h1 : m' < m
          · rw [if_pos h1, if_pos (Or.inl h1)]
          · rw [if_neg h1, if_neg (by omega)]
  have hto : ∀ (n t m : Nat) (x3 : Int) (R2 : Nat → Nat → Prop) (τ : jg_M), (∀ (u3 u4 u5 : Value) (υ : jg_M), jF jW_ri σ υ → υ.1 (92 + 28) 4 = τ.1 (92 + 28) 4 + (if jn_ld R2 (5 * N) m = true then 1 else 0) → jn_IM υ R2 → jg_GV w 2 mm_X12_layRings 92 [.ref 92, .int (.ofInt ((5 * N : Nat) : Int)), .int (.ofInt ((m : Int) + 1)), u3, u4, u5] υ K) →
      jr (τ.1 (92 + 28) 4) → m < 5 * N → t + n = 5 * N → 0 ≤ x3 → x3 ≤ t → (0 < x3 ↔ ∃ t', t' < t ∧ jn_mu R2 m t') → jF jW_ri σ τ → jn_IM τ R2 → jg_GV w 2 mm_X12_layRings 105 [.ref 92, .int (.ofInt ((5 * N : Nat) : Int)), .int (.ofInt (m : Int)), .int (.ofInt x3), .int (.ofInt (jn_b (∀ t', t' < t → jn_mu R2 m t' → m < t'))), .int (.ofInt (t : Int))] τ K := by
    intro n
    induction n with
    | zero =>
      intro t m x3 R2 τ hP hj4 hm ht h0 h1 h2 hFτ hIτ
      have hFn : ∀ v, jF jW_ri σ (jg_sI τ (92 + 28) 4 v) := fun v => jF_tr hFτ (jF_I (Or.inr ⟨rfl, rfl⟩))
      have hIn : ∀ v, jn_IM (jg_sI τ (92 + 28) 4 v) R2 := fun v => jn_IM_fr (W := fun a _ => a = 92 + 28) hIτ (jF_I rfl) (fun i => by omega)
      have htN : t = 5 * N := by omega
      subst htN
      refine jb_X12_layRings_105 rfl ?_
      rw [jr_wr (by omega), jr_wr (by omega)]
      refine jn_ite (fun _ => jn_ite (fun hx => ?_) (fun hx => jn_if (fun hp => ?_) (fun hp => ?_))) (fun h => by omega)
      · rintro _ rfl
        refine hP _ _ _ _ (hFn _) ?_ (hIn _)
        rw [js_Is, if_neg (fun q => by have := h2.mpr (jn_ld_iff.mp q).1; omega)]
      · rintro _ rfl
        refine hP _ _ _ _ (hFn _) ?_ (hIn _)
        rw [js_Is, if_neg (fun q => hp (jn_ld_iff.mp q).2)]
      · rintro _ rfl
        refine hP _ _ _ _ (hFn _) ?_ (hIn _)
        rw [js_Is, if_pos (jn_ld_iff.mpr ⟨h2.mp (by omega), hp⟩)]
    | succ n ih =>
      intro t m x3 R2 τ hP hj4 hm ht h0 h1 h2 hFτ hIτ
      have skip : ¬ jn_mu R2 m t → jg_GV w 2 mm_X12_layRings 105 [.ref 92, .int (.ofInt ((5 * N : Nat) : Int)), .int (.ofInt (m : Int)), .int (.ofInt x3), .int (.ofInt (jn_b (∀ t', t' < t → jn_mu R2 m t' → m < t'))), .int (.ofInt ((t : Int) + 1))] τ K := fun hno => by
        have := ih (t + 1) m x3 R2 τ hP hj4 hm (by omega) h0 (by omega) (h2.trans ⟨fun ⟨t', q1, q2⟩ => ⟨t', by omega, q2⟩, fun ⟨t', q1, q2⟩ => ⟨t', by
          have : t' ≠ t := fun q => hno (q ▸ q2)
          omega, q2⟩⟩) hFτ hIτ
        rw [jn_b_eq (q := ∀ t', t' < t → jn_mu R2 m t' → m < t') ⟨fun q t' h => q t' (by omega), fun q t' h hmu => q t' (by
          have : t' ≠ t := fun q => hno (q ▸ hmu)
          omega) hmu⟩] at this
        rwa [show ((t + 1 : Nat) : Int) = (t : Int) + 1 by omega] at this
      refine jb_X12_layRings_105 rfl ?_
      rw [jr_wr (show jr ((5 * N : Nat) : Int) by omega), jr_wr (show jr (t : Int) by omega), jr_wr (show jr (m : Int) by omega)]
      refine jn_ite (fun h => by omega) (fun _ => jn_ite (fun heq => skip (fun q => q.1 (by omega))) (fun hne => jm_isIncluded hIτ (by omega) (by omega) (jn_if (fun hp => skip (fun q => hp q.2.1)) (fun hp => jm_isIncluded hIτ (by omega) (by omega) (jn_if (fun hp2 => skip (fun q => hp2 q.2.2)) (fun hp2 => ?_))))))
      have hmu : jn_mu R2 m t := ⟨fun q => hne (by omega), hp, hp2⟩
      have go : ∀ z, z = jn_b (∀ t', t' < t + 1 → jn_mu R2 m t' → m < t') → jg_GV w 2 mm_X12_layRings 105 [.ref 92, .int (.ofInt ((5 * N : Nat) : Int)), .int (.ofInt (m : Int)), .int (.ofInt (x3 + 1)), .int (.ofInt z), .int (.ofInt ((t : Int) + 1))] τ K := by
        rintro _ rfl
        rw [show (t : Int) + 1 = ((t + 1 : Nat) : Int) by omega]
        exact ih (t + 1) m (x3 + 1) R2 τ hP hj4 hm (by omega) (by omega) (by omega) ⟨fun _ => ⟨t, by omega, hmu⟩, fun _ => by omega⟩ hFτ hIτ
      refine jn_if (fun hq => go 0 (jn_b_f (fun q => hq (fun t' h => q t' (by omega)))).symm) (fun hq => jn_ite (fun hle => go 0 (jn_b_f (fun q => by have := q t (by omega) hmu; omega)).symm) (fun hgt => go 1 (jn_b_t (fun t' h hmu' => ?_)).symm))
      by_cases htt : t' = t
      · omega
      · exact hq t' (by omega) hmu'
  have hrm : ∀ (n m : Nat) (u3 u4 u5 : Value) (R2 : Nat → Nat → Prop) (τ : jg_M), R2 = jn_wf R (5 * N) → m + n = 5 * N → jF jW_ri σ τ → τ.1 (92 + 28) 4 = (jn_ct (jn_ld R2 (5 * N)) m : Nat) → jn_IM τ R2 → jg_GV w 2 mm_X12_layRings 92 [.ref 92, .int (.ofInt ((5 * N : Nat) : Int)), .int (.ofInt (m : Int)), u3, u4, u5] τ K := by
    intro n
    induction n with
    | zero =>
      intro m u3 u4 u5 R2 τ hR2 hm hFτ h4 hIτ
      refine jb_X12_layRings_92 rfl ?_
      rw [jr_wr (by omega), jr_wr (by omega)]
      refine jn_ite (fun _ => hk τ hFτ ?_) (fun h => by omega)
      rw [h4, hR2, show m = 5 * N by omega]
    | succ n ih =>
      intro m u3 u4 u5 R2 τ hR2 hm hFτ h4 hIτ
      have hle := jn_ct_le (p := jn_ld R2 (5 * N)) (n := m)
      refine jb_X12_layRings_92 rfl ?_
      rw [jr_wr (by omega), jr_wr (by omega)]
      refine jn_ite (fun h => by omega) (fun _ => ?_)
      have := hto (5 * N) 0 m 0 R2 τ (fun u3 u4 u5 υ q1 q2 q3 => by
        rw [show (m : Int) + 1 = ((m + 1 : Nat) : Int) by omega]
        refine ih (m + 1) u3 u4 u5 R2 υ hR2 (by omega) q1 ?_ q3
        rw [q2, h4]
        by_cases h : jn_ld R2 (5 * N) m = true
        · rw [if_pos h, jn_ct_t h]; rfl
        · rw [if_neg h, jn_ct_f h]; omega) (by omega) (by omega) (by omega) (by omega) (by omega) ⟨fun h => by omega, fun ⟨t', q, _⟩ => by omega⟩ hFτ hIτ
      rw [jn_b_t (fun t' h => by omega)] at this
      exact this
  have hkk : ∀ (n k : Nat) (u3 u4 u5 : Value) (τ : jg_M), k + n = 5 * N → jF jW_ri σ τ → τ.1 (92 + 28) 4 = 0 → jn_IM τ (jn_wf R k) → jg_GV w 2 mm_X12_layRings 11 [.ref 92, .int (.ofInt ((5 * N : Nat) : Int)), .int (.ofInt (k : Int)), u3, u4, u5] τ K := by
    intro n
    induction n with
    | zero =>
      intro k u3 u4 u5 τ hk5 hFτ h4 hIτ
      refine jb_X12_layRings_11 rfl ?_
      rw [jr_wr (by omega), jr_wr (by omega)]
      rw [show k = 5 * N by omega] at hIτ ⊢
      exact jn_ite (fun _ => hrm (5 * N) 0 u3 u4 u5 _ τ rfl (by omega) hFτ (by rw [h4]; rfl) hIτ) (fun h => by omega)
    | succ n ih =>
      intro k u3 u4 u5 τ hk5 hFτ h4 hIτ
      refine jb_X12_layRings_11 rfl ?_
      rw [jr_wr (by omega), jr_wr (by omega)]
      refine jn_ite (fun h => by omega) (fun _ => ?_)
      refine hmm (5 * N) 0 k u4 u5 τ (fun u3 u4 u5 τ q1 q2 q3 => ?_) (by omega) (by omega) hFτ h4 (jn_IM_eq hIτ (fun m' t hm' ht => by rw [if_neg (show ¬ m' < 0 by omega)]))
      rw [show (k : Int) + 1 = ((k + 1 : Nat) : Int) by omega]
      exact ih (k + 1) u3 u4 u5 τ (by omega) q1 q2 q3
  refine jb_X12_layRings_0 rfl ?_
  rintro _ rfl
  rw [hn, show 5 * ((N : Nat) : Int) = ((5 * N : Nat) : Int) by omega]
  exact hkk (5 * N) 0 _ _ _ σ (by omega) jF_rf hz hI
end JRI
