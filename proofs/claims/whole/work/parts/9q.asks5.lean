/-! Asking, in both: one CONFLICT, one ITEM of a KERNEL -/
noncomputable def kv_cf (g : gM) (i : Int) : Nat := Classical.epsilon (fun j => j < 6144 ∧ (kv_lm g (j / 16)).testBit (j % 16) = true ∧ ((jn_ls (kv_lm g) j : Nat) : Int) = i)
noncomputable def kv_conf (g : gM) (i k : Int) : Int := if (0 ≤ i ∧ i < kv_confs g) ∧ 0 ≤ k ∧ k ≤ 3 then (if k = 0 then ((kv_cf g i / 128 : Nat) : Int) else if k = 1 then ((kv_cf g i / 16 % 8 : Nat) : Int) else if k = 2 then kr_ac g ((kv_cf g i / 128 : Nat) : Int) ((kv_cf g i / 16 % 8 : Nat) : Int) else ((kv_cf g i % 16 : Nat) : Int)) else -1
noncomputable def kv_ki (g : gM) (s k : Int) : Nat := Classical.epsilon (fun i => i < 62 ∧ ((kg_S g).2.1 s).testBit i = true ∧ ((jn_ct ((kg_S g).2.1 s).testBit i : Nat) : Int) = k)
noncomputable def kv_item (g : gM) (s k : Int) : Int := if (0 ≤ s ∧ s < ku_n g) ∧ 0 ≤ k then (if ((jn_ct ((kg_S g).2.1 s).testBit 62 : Nat) : Int) ≤ k then -2 else ((kv_ki g s k / 5 : Nat) : Int) * 10 + ((kv_ki g s k % 5 : Nat) : Int)) else -1
section KVE
variable {w : Nat} {σ τ : jg_M} {T : Nat} {g : gM} {n x y s t r k L b i : Int} {lm : Nat → Nat} {p : Nat → Bool} {KV : jg_M → Prop} {KI : Int → jg_M → Prop}
theorem kv_ls_ex : ∀ {n : Nat} {i : Nat}, i < jn_ls lm n → ∃ j, j < n ∧ (lm (j / 16)).testBit (j % 16) = true ∧ jn_ls lm j = i
  | 0, i, h => absurd h (Nat.not_lt_zero _)
  | n + 1, i, h => by
    by_cases hb : (lm (n / 16)).testBit (n % 16) = true
    · rw [jn_ls_t hb] at h
      by_cases he : i = jn_ls lm n
      · exact ⟨n, by omega, hb, he.symm⟩
      · obtain ⟨j, j1, j2, j3⟩ := kv_ls_ex (n := n) (i := i) (by omega)
        exact ⟨j, by omega, j2, j3⟩
    · rw [jn_ls_f hb] at h
      obtain ⟨j, j1, j2, j3⟩ := kv_ls_ex h
      exact ⟨j, by omega, j2, j3⟩
theorem kv_cf_sp (hi : 0 ≤ i ∧ i < kv_confs g) : kv_cf g i < 6144 ∧ (kv_lm g (kv_cf g i / 16)).testBit (kv_cf g i % 16) = true ∧ ((jn_ls (kv_lm g) (kv_cf g i) : Nat) : Int) = i := by
  unfold kv_confs at hi
  have hex : ∃ j, j < 6144 ∧ (kv_lm g (j / 16)).testBit (j % 16) = true ∧ ((jn_ls (kv_lm g) j : Nat) : Int) = i := by
    obtain ⟨j, j1, j2, j3⟩ := kv_ls_ex (lm := kv_lm g) (n := 6144) (i := i.toNat) (by omega)
    exact ⟨j, j1, j2, by omega⟩
  exact Classical.epsilon_spec hex
theorem kv_cf_in {c : Nat} (hi : 0 ≤ i ∧ i < kv_confs g) (h1 : ((jn_ls (kv_lm g) (16 * c) : Nat) : Int) ≤ i) (h2 : i < ((jn_ls (kv_lm g) (16 * (c + 1)) : Nat) : Int)) : kv_cf g i / 16 = c := by
  obtain ⟨j1, j2, j3⟩ := kv_cf_sp hi
  generalize kv_cf g i = j at *
  have a1 : 16 * c ≤ j := Classical.byContradiction (fun q => by
    have := jn_ls_lt j2 (show j < 16 * c by omega)
    omega)
  have a2 : j < 16 * (c + 1) := Classical.byContradiction (fun q => by
    have := jn_ls_mono (lm := kv_lm g) (j := 16 * (c + 1)) (d := j - 16 * (c + 1))
    rw [show 16 * (c + 1) + (j - 16 * (c + 1)) = j by omega] at this
    omega)
  omega
theorem kv_cf_eq {j : Nat} (hi : 0 ≤ i ∧ i < kv_confs g) (hb : (kv_lm g (j / 16)).testBit (j % 16) = true) (hj : ((jn_ls (kv_lm g) j : Nat) : Int) = i) : kv_cf g i = j := by
  obtain ⟨j1, j2, j3⟩ := kv_cf_sp hi
  generalize kv_cf g i = j' at *
  rcases Nat.lt_trichotomy j j' with h | h | h
  · have := jn_ls_lt hb h; omega
  · exact h.symm
  · have := jn_ls_lt j2 h; omega
theorem kv_lm_in {c : Nat} (h : kv_lm g c ≠ 0) : 0 < ku_n g ∧ ((c / 8 : Nat) : Int) < ku_n g ∧ ((c % 8 : Nat) : Int) ≤ g 0 0 ∧ ∀ r : Nat, (kv_lm g c).testBit r = true → (r : Int) < g 0 2 := by
  unfold kv_lm at h ⊢
  unfold ku_n
  by_cases h0 : g 0 1 = 0
  · rw [if_pos h0] at h; exact absurd rfl h
  · rw [if_neg h0] at h ⊢
    rw [if_neg h0]
    unfold jn_lm at h ⊢
    by_cases hc : ((c / 8 : Nat) : Int) < (kg_S g).1 ∧ ((c % 8 : Nat) : Int) ≤ g 0 0
    · rw [if_pos hc]
      refine ⟨by omega, hc.1, hc.2, fun r hr => ?_⟩
      unfold jn_AP at hr
      exact jn_rm_nr (jn_acs_sub jn_rm_lt r hr)
    · rw [if_neg hc] at h; exact absurd rfl h
theorem kv_bit_ne {m r : Nat} (h : m.testBit r = true) : m ≠ 0 := fun e => by rw [e, Nat.zero_testBit] at h; cases h
theorem jc_conflict (h : ku_CG σ T g) (hi : jr i) (hk0 : jr k) (hk : KI (kv_conf g i k) σ) : jg_CI w 2 mm_X11_conflict [.ref 0, .int (.ofInt i), .int (.ofInt k)] σ KI := by
  have sh := ku_sh h.1.1
  have hw := h.2.1.1.1.1.1
  have hL := ku_TL h
  obtain ⟨n1, n2, n3⟩ := ku_CN h
  unfold kv_conf at hk
  refine jb_X11_conflict_0 rfl ?_
  rw [h.1.2.1]
  intro r er
  rw [show r = T by omega]
  refine ⟨sh.1, jc_X8_cellOfConflict sh.1 hL hi (fun hno => ?_) (fun c hc h1 h2 => ?_)⟩
  · rw [if_neg (fun q => by have := q.1; unfold kv_confs at this; omega)] at hk
    exact jn_ite (fun h => absurd h (by decide)) (fun _ => hk)
  have hmono := jn_ls_mono (lm := kv_lm g) (j := 16 * (c + 1)) (d := 6144 - 16 * (c + 1))
  rw [show 16 * (c + 1) + (6144 - 16 * (c + 1)) = 6144 by omega] at hmono
  have hin : 0 ≤ i ∧ i < kv_confs g := by unfold kv_confs; omega
  have hcf := kv_cf_in hin h1 h2
  obtain ⟨j1, j2, j3⟩ := kv_cf_sp hin
  rw [hcf] at j2
  have hcell := kv_lm_in (kv_bit_ne j2)
  obtain ⟨_, n5, _, n6⟩ := n3 hcell.1
  rw [jr_wr (show jr (c : Int) by omega), jr_wr hk0, jb_div (by omega) (by omega), jb_rem (by omega) (by omega), show (c : Int) / 8 = ((c / 8 : Nat) : Int) by omega, show (c : Int) % 8 = ((c % 8 : Nat) : Int) by omega]
  have e1 : kv_cf g i / 128 = c / 8 := by omega
  have e2 : kv_cf g i / 16 % 8 = c % 8 := by omega
  rw [e1, e2] at hk
  refine jn_ite (fun _ => jn_ite (fun e => ?_) (fun e0 => jn_ite (fun e => ?_) (fun e1' => jn_ite (fun e => ?_) (fun e2' => jn_ite (fun e => ?_) (fun e3' => ?_))))) (fun h => by omega)
  · rw [if_pos ⟨hin, by omega, by omega⟩, if_pos e] at hk; exact hk
  · rw [if_pos ⟨hin, by omega, by omega⟩, if_neg e0, if_pos e] at hk; exact hk
  · rw [if_pos ⟨hin, by omega, by omega⟩, if_neg e0, if_neg e1', if_pos e] at hk
    rw [h.1.2.1]
    intro r2 er2
    rw [show r2 = T by omega]
    refine ⟨sh.1, jc_X8_actionFor sh.1 sh.2.1 n1 n2 (by omega) (by omega) ?_⟩
    rw [if_pos (show (0 ≤ ((c / 8 : Nat) : Int) ∧ ((c / 8 : Nat) : Int) < ku_n g) ∧ 0 ≤ ((c % 8 : Nat) : Int) ∧ ((c % 8 : Nat) : Int) < 8 by omega), n6.2.2.2 _ _ (by omega) (by omega) (by omega) hcell.2.2.1]
    exact hk
  · rw [if_pos ⟨hin, by omega, by omega⟩, if_neg e0, if_neg e1', if_neg e2'] at hk
    rw [h.1.2.1]
    intro r2 er2
    rw [show r2 = T by omega]
    refine ⟨sh.1, jc_X8_ruleOfConflict (nr := g 0 2) sh.1 hL h.2.2.1.1.1.1.2.2.1 (by omega) hcell.2.2.2 (by omega) h1 h2 (fun r hb hr => ?_)⟩
    have hr16 : r < 16 := by have := hcell.2.2.2 r hb; omega
    have := kv_cf_eq (j := 16 * c + r) hin (by rw [show (16 * c + r) / 16 = c by omega, show (16 * c + r) % 16 = r by omega]; exact hb) hr
    rw [show ((kv_cf g i % 16 : Nat) : Int) = (r : Int) by omega] at hk
    exact hk
  · rw [if_neg (fun q => by omega)] at hk; exact hk
theorem jm_conflict (h : ku_MG σ g) (hi : jr i) (hk0 : jr k) (hk : ∀ τ, jF kW_ge σ τ → τ.1 92 2 = 0 → KI (kv_conf g i k) τ) : jg_CI w 1 mm_X12_conflict [.ref 92, .int (.ofInt i), .int (.ofInt k)] σ KI := by
  have hw := h.1.1.1.1.1
  refine jb_X12_conflict_0 rfl ?_
  intro τ hτ
  have h2 := ku_ge2 hτ
  have hM := ku_MG_ge h h2.1
  obtain ⟨n1, n2, n3⟩ := ku_MN hM
  have hCO := ku_CO hM
  replace hk := hk τ h2.1 h2.2
  unfold kv_conf at hk
  have hle : jn_ls (kv_lm g) 6144 ≤ 6144 := by
    have : ∀ n, jn_ls (kv_lm g) n ≤ n := fun n => by
      induction n with
      | zero => exact Nat.le_refl 0
      | succ n ih =>
        show jn_ls (kv_lm g) n + _ ≤ _
        split <;> omega
    exact this 6144
  rw [jr_wr hi, hCO.1, jr_wr (show jr ((jn_ls (kv_lm g) 6144 : Nat) : Int) by omega)]
  refine jn_ite (fun hneg => ?_) (fun hpos => jn_ite (fun hge => ?_) (fun hlt => jm_isIn hk0 (by omega) (by omega) (jn_if (fun hno => ?_) (fun hyk => ?_))))
  · rw [if_neg (fun q => by omega)] at hk; exact hk
  · rw [if_neg (fun q => by have := q.1; unfold kv_confs at this; omega)] at hk; exact hk
  · rw [if_neg (fun q => hno q.2)] at hk; exact hk
  have hin : 0 ≤ i ∧ i < kv_confs g := by unfold kv_confs; omega
  rw [if_pos ⟨hin, hyk⟩] at hk
  obtain ⟨j1, j2, j3⟩ := kv_cf_sp hin
  have hcell := kv_lm_in (kv_bit_ne j2)
  obtain ⟨_, n5, _, _, n6⟩ := n3 hcell.1
  have h23 := hCO.2 rfl (kv_cf g i) j1 j2
  rw [j3] at h23
  rw [h23]
  generalize kv_cf g i = j at *
  have hi4 : i < 4608 := by
    have hl : ∀ c, kv_lm g c < 4096 := fun c => by
      unfold kv_lm
      by_cases h0 : g 0 1 = 0
      · rw [if_pos h0]; show 0 < 4096; decide
      · rw [if_neg h0]; exact jn_lm_lt
    have : ∀ c, jn_ls (kv_lm g) (16 * c) ≤ 12 * c := fun c => by
      induction c with
      | zero => exact Nat.le_refl 0
      | succ c ih =>
        rw [jn_ls_next hl]
        have := jn_ct_le (p := (kv_lm g c).testBit) (n := 12)
        omega
    have := this 384
    rw [show 16 * 384 = 6144 from rfl] at this
    omega
  refine ⟨by omega, ?_⟩
  rw [jb_div (by omega) (by omega), jb_div (by omega) (by omega), jb_rem (by omega) (by omega), jb_rem (by omega) (by omega)]
  rintro _ rfl
  refine ⟨by omega, ?_⟩
  rintro _ rfl
  rw [jr_wr hk0, show (j : Int) / 128 = ((j / 128 : Nat) : Int) by omega, show (j : Int) / 16 % 8 = ((j / 16 % 8 : Nat) : Int) by omega, show (j : Int) % 16 = ((j % 16 : Nat) : Int) by omega]
  refine jn_ite (fun e => ?_) (fun e0 => jn_ite (fun e => ?_) (fun e1 => jn_ite (fun e => ?_) (fun e2 => ⟨by omega, ?_⟩)))
  · rw [if_pos e] at hk; exact hk
  · rw [if_neg e0, if_pos e] at hk; exact hk
  · rw [if_neg e0, if_neg e1, if_pos e] at hk
    rw [jr_wr (show jr (8 * ((j / 128 : Nat) : Int) + ((j / 16 % 8 : Nat) : Int)) by omega), n6 _ _ (by omega) (by omega) (by omega) (by omega)]
    exact ⟨by omega, hk⟩
  · rw [if_neg e0, if_neg e1, if_neg e2] at hk; exact hk
theorem kv_ct_ex : ∀ {n : Nat} {i : Nat}, i < jn_ct p n → ∃ j, j < n ∧ p j = true ∧ jn_ct p j = i
  | 0, i, h => absurd h (Nat.not_lt_zero _)
  | n + 1, i, h => by
    by_cases hb : p n = true
    · rw [jn_ct_t hb] at h
      by_cases he : i = jn_ct p n
      · exact ⟨n, by omega, hb, he.symm⟩
      · obtain ⟨j, j1, j2, j3⟩ := kv_ct_ex (n := n) (i := i) (by omega)
        exact ⟨j, by omega, j2, j3⟩
    · rw [jn_ct_f hb] at h
      obtain ⟨j, j1, j2, j3⟩ := kv_ct_ex h
      exact ⟨j, by omega, j2, j3⟩
theorem kv_ki_eq {j : Nat} (hj : j < 62) (hb : ((kg_S g).2.1 s).testBit j = true) (hc : ((jn_ct ((kg_S g).2.1 s).testBit j : Nat) : Int) = k) : kv_ki g s k = j := by
  have hex : ∃ i, i < 62 ∧ ((kg_S g).2.1 s).testBit i = true ∧ ((jn_ct ((kg_S g).2.1 s).testBit i : Nat) : Int) = k := ⟨j, hj, hb, hc⟩
  obtain ⟨q1, q2, q3⟩ := Classical.epsilon_spec hex
  have e : kv_ki g s k = Classical.epsilon (fun i => i < 62 ∧ ((kg_S g).2.1 s).testBit i = true ∧ ((jn_ct ((kg_S g).2.1 s).testBit i : Nat) : Int) = k) := rfl
  rw [← e] at q1 q2 q3
  generalize kv_ki g s k = i at *
  rcases Nat.lt_trichotomy j i with h | h | h
  · have := jn_ct_lt hb h; omega
  · exact h.symm
  · have := jn_ct_lt q2 h; omega
theorem jc_item (h : ku_CG σ T g) (hs : jr s) (hk0 : jr k) (hk : KI (kv_item g s k) σ) : jg_CI w 2 mm_X11_item [.ref 0, .int (.ofInt s), .int (.ofInt k)] σ KI := by
  have sh := ku_sh h.1.1
  obtain ⟨n1, n2, n3⟩ := ku_CN h
  unfold kv_item at hk
  refine jb_X11_item_0 rfl ?_
  rw [h.1.2.1]
  intro r er
  rw [show r = T by omega]
  refine ⟨sh.1, jc_X7_has sh.2.1 n1 n2 hs (jn_if (fun hno => ?_) (fun hyes => ?_))⟩
  · rw [if_neg (fun q => hno q.1)] at hk; exact hk
  rw [jr_wr hk0]
  refine jn_ite (fun hpos => ?_) (fun hneg => ?_)
  · rw [if_pos ⟨hyes, hpos⟩] at hk
    obtain ⟨n4, n5, nF, _⟩ := n3 (by omega)
    rw [h.1.2.1]
    intro r2 er2
    rw [show r2 = T by omega]
    rcases h.2.2.1.2.2 with q | q
    · omega
    · refine ⟨sh.1, jc_X7_kernelItem sh.2.1 q.2.2.2.2.1.1 nF (by omega) ⟨hpos, by omega⟩ (fun hle => ?_) (fun i i62 hb hc => ?_)⟩
      · rw [if_pos hle] at hk; exact hk
      · have hlt := jn_ct_lt hb i62
        rw [if_neg (by omega), kv_ki_eq i62 hb hc] at hk; exact hk
  · rw [if_neg (fun q => hneg q.2)] at hk; exact hk
theorem jm_item (h : ku_MG σ g) (hs : jr s) (hk0 : jr k) (hk : ∀ τ, jF kW_ge σ τ → τ.1 92 2 = 0 → KI (kv_item g s k) τ) : jg_CI w 1 mm_X12_item [.ref 92, .int (.ofInt s), .int (.ofInt k)] σ KI := by
  refine jb_X12_item_0 rfl ?_
  intro τ hτ
  have h2 := ku_ge2 hτ
  have hM := ku_MG_ge h h2.1
  obtain ⟨n1, n2, n3⟩ := ku_MN hM
  replace hk := hk τ h2.1 h2.2
  unfold kv_item at hk
  refine jm_isState n1 (by omega) (jn_if (fun hno => ?_) (fun hyes => ?_)) <;> rw [jr_wr hs] at *
  · rw [if_neg (fun q => hno q.1)] at hk; exact hk
  rw [jr_wr hk0]
  refine jn_ite (fun hpos => ?_) (fun hneg => ?_)
  · rw [if_pos ⟨hyes, hpos⟩] at hk
    obtain ⟨n4, n5, nF, _⟩ := n3 (by omega)
    rcases hM.2.1.2.2 with q | q
    · omega
    · refine jm_item24 q.2.2.2.1 nF (by omega) ⟨hpos, by omega⟩ (fun hle => ?_) (fun i i62 hb hc => ?_)
      · rw [if_pos hle] at hk; exact hk
      · have hlt := jn_ct_lt hb i62
        rw [if_neg (by omega), kv_ki_eq i62 hb hc] at hk
        rw [show 10 * ((i / 5 : Nat) : Int) + ((i % 5 : Nat) : Int) = ((i / 5 : Nat) : Int) * 10 + ((i % 5 : Nat) : Int) by omega]
        exact hk
  · rw [if_neg (fun q => hneg q.2)] at hk; exact hk
end KVE
