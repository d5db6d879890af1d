/-! Asking, in both: one CONFLICT, one ITEM of a KERNEL -/
noncomputable def kv_cf (g : gM) (i : Int) : Nat := Classical.epsilon (fun j => j < 6144 ∧ (kv_lm g (j / 16)).testBit (j % 16) = true ∧ ((jn_ls (kv_lm g) j : Nat) : Int) = i)
noncomputable def kv_conf (g : gM) (i k : Int) : Int := if (0 ≤ i ∧ i < kv_confs g) ∧ 0 ≤ k ∧ k ≤ 3 then (if k = 0 then ((kv_cf g i / 128 : Nat) : Int) else if k = 1 then ((kv_cf g i / 16 % 8 : Nat) : Int) else if k = 2 then kr_ac g ((kv_cf g i / 128 : Nat) : Int) ((kv_cf g i / 16 % 8 : Nat) : Int) else ((kv_cf g i % 16 : Nat) : Int)) else -1
section KVE
variable {w : Nat} {σ τ : jg_M} {T : Nat} {g : gM} {n x y s t r k L b i : Int} {lm : Nat → Nat} {p : Nat → Bool} {KV : jg_M → Prop} {KI : Int → jg_M → Prop}
theorem kv_ls_ex : ∀ {n : Nat} {i : Nat}, i < jn_ls lm n → ∃ j, j < n ∧ (lm (j / 16)).testBit (j % 16) = true ∧ jn_ls lm j = i
  | 0, i, h => absurd h (Nat.not_lt_zero _)
  | n + 1, i, h => by
    by_cases hb : (lm (n / 16)).testBit (n % 16) = true
    · rw [jn_ls_t hb] at h
      by_cases he : i = jn_ls lm n
      · exact ⟨n, by omega, hb, he.symm⟩
      · obtain ⟨j, j1, j2, j3⟩ := kv_ls_ex (n := n) (i := i) (by omega)
        exact ⟨j, by omega, j2, j3⟩
    · rw [jn_ls_f hb] at h
      obtain ⟨j, j1, j2, j3⟩ := kv_ls_ex h
      exact ⟨j, by omega, j2, j3⟩
theorem kv_cf_sp (hi : 0 ≤ i ∧ i < kv_confs g) : kv_cf g i < 6144 ∧ (kv_lm g (kv_cf g i / 16)).testBit (kv_cf g i % 16) = true ∧ ((jn_ls (kv_lm g) (kv_cf g i) : Nat) : Int) = i := by
  unfold kv_confs at hi
  have hex : ∃ j, j < 6144 ∧ (kv_lm g (j / 16)).testBit (j % 16) = true ∧ ((jn_ls (kv_lm g) j : Nat) : Int) = i := by
    obtain ⟨j, j1, j2, j3⟩ := kv_ls_ex (lm := kv_lm g) (n := 6144) (i := i.toNat) (by omega)
    exact ⟨j, j1, j2, by omega⟩
  exact Classical.epsilon_spec hex
theorem kv_cf_in {c : Nat} (hi : 0 ≤ i ∧ i < kv_confs g) (h1 : ((jn_ls (kv_lm g) (16 * c) : Nat) : Int) ≤ i) (h2 : i < ((jn_ls (kv_lm g) (16 * (c + 1)) : Nat) : Int)) : kv_cf g i / 16 = c := by
  obtain ⟨j1, j2, j3⟩ := kv_cf_sp hi
  generalize kv_cf g i = j at *
  have a1 : 16 * c ≤ j := Classical.byContradiction (fun q => by
    have := jn_ls_lt j2 (show j < 16 * c by omega)
    omega)
  have a2 : j < 16 * (c + 1) := Classical.byContradiction (fun q => by
    have := jn_ls_mono (lm := kv_lm g) (j := 16 * (c + 1)) (d := j - 16 * (c + 1))
    rw [show 16 * (c + 1) + (j - 16 * (c + 1)) = j by omega] at this
    omega)
  omega
theorem kv_cf_eq {j : Nat} (hi : 0 ≤ i ∧ i < kv_confs g) (hb : (kv_lm g (j / 16)).testBit (j % 16) = true) (hj : ((jn_ls (kv_lm g) j : Nat) : Int) = i) : kv_cf g i = j := by
  obtain ⟨j1, j2, j3⟩ := kv_cf_sp hi
  generalize kv_cf g i = j' at *
  rcases Nat.lt_trichotomy j j' with h | h | h
  · have := jn_ls_lt hb h; omega
  · exact h.symm
  · have := jn_ls_lt j2 h; omega
theorem kv_lm_in {c : Nat} (h : kv_lm g c ≠ 0) : 0 < ku_n g ∧ ((c / 8 : Nat) : Int) < ku_n g ∧ ((c % 8 : Nat) : Int) ≤ g 0 0 ∧ ∀ r : Nat, (kv_lm g c).testBit r = true → (r : Int) < g 0 2 := by
  unfold kv_lm at h ⊢
  unfold ku_n
  by_cases h0 : g 0 1 = 0
  · rw [if_pos h0] at h; exact absurd rfl h
  · rw [if_neg h0] at h ⊢
    rw [if_neg h0]
    unfold jn_lm at h ⊢
    by_cases hc : ((c / 8 : Nat) : Int) < (kg_S g).1 ∧ ((c % 8 : Nat) : Int) ≤ g 0 0
    · rw [if_pos hc]
      refine ⟨by omega, hc.1, hc.2, fun r hr => ?_⟩
      unfold jn_AP at hr
      exact jn_rm_nr (jn_acs_sub jn_rm_lt r hr)
    · rw [if_neg hc] at h; exact absurd rfl h
theorem kv_bit_ne {m r : Nat} (h : m.testBit r = true) : m ≠ 0 := fun e => by rw [e, Nat.zero_testBit] at h; cases h
theorem jc_conflict (h : ku_CG σ T g) (hi : jr i) (hk0 : jr k) (hk : KI (kv_conf g i k) σ) : jg_CI w 2 mm_X11_conflict [.ref 0, .int (.ofInt i), .int (.ofInt k)] σ KI := by
  have sh := ku_sh h.1.1
  have hw := h.2.1.1.1.1.1
  have hL := ku_TL h
  obtain ⟨n1, n2, n3⟩ := ku_CN h
  unfold kv_conf at hk
  refine jb_X11_conflict_0 rfl ?_
  rw [h.1.2.1]
  intro r er
  rw [show r = T by omega]
  refine ⟨sh.1, jc_X8_cellOfConflict sh.1 hL hi (fun hno => ?_) (fun c hc h1 h2 => ?_)⟩
  · rw [if_neg (fun q => by have := q.1; unfold kv_confs at this; omega)] at hk
    exact jn_ite (fun h => absurd h (by decide)) (fun _ => hk)
  have hmono := jn_ls_mono (lm := kv_lm g) (j := 16 * (c + 1)) (d := 6144 - 16 * (c + 1))
  rw [show 16 * (c + 1) + (6144 - 16 * (c + 1)) = 6144 by omega] at hmono
  have hin : 0 ≤ i ∧ i < kv_confs g := by unfold kv_confs; omega
  have hcf := kv_cf_in hin h1 h2
  obtain ⟨j1, j2, j3⟩ := kv_cf_sp hin
  rw [hcf] at j2
  have hcell := kv_lm_in (kv_bit_ne j2)
  obtain ⟨_, n5, _, n6⟩ := n3 hcell.1
  rw [jr_wr (show jr (c : Int) by omega), jr_wr hk0, jb_div (by omega) (by omega), jb_rem (by omega) (by omega), show (c : Int) / 8 = ((c / 8 : Nat) : Int) by omega, show (c : Int) % 8 = ((c % 8 : Nat) : Int) by omega]
  have e1 : kv_cf g i / 128 = c / 8 := by omega
  have e2 : kv_cf g i / 16 % 8 = c % 8 := by omega
  rw [e1, e2] at hk
  refine jn_ite (fun _ => jn_ite (fun e => ?_) (fun e0 => jn_ite (fun e => ?_) (fun e1' => jn_ite (fun e => ?_) (fun e2' => jn_ite (fun e => ?_) (fun e3' => ?_))))) (fun h => by omega)
  · rw [if_pos ⟨hin, by omega, by omega⟩, if_pos e] at hk; exact hk
  · rw [if_pos ⟨hin, by omega, by omega⟩, if_neg e0, if_pos e] at hk; exact hk
  · rw [if_pos ⟨hin, by omega, by omega⟩, if_neg e0, if_neg e1', if_pos e] at hk
    rw [h.1.2.1]
    intro r2 er2
    rw [show r2 = T by omega]
    refine ⟨sh.1, jc_X8_actionFor sh.1 sh.2.1 n1 n2 (by omega) (by omega) ?_⟩
    rw [if_pos (show (0 ≤ ((c / 8 : Nat) : Int) ∧ ((c / 8 : Nat) : Int) < ku_n g) ∧ 0 ≤ ((c % 8 : Nat) : Int) ∧ ((c % 8 : Nat) : Int) < 8 by omega), n6.2.2.2 _ _ (by omega) (by omega) (by omega) hcell.2.2.1]
    exact hk
  · rw [if_pos ⟨hin, by omega, by omega⟩, if_neg e0, if_neg e1', if_neg e2'] at hk
    rw [h.1.2.1]
    intro r2 er2
    rw [show r2 = T by omega]
    refine ⟨sh.1, jc_X8_ruleOfConflict (nr := g 0 2) sh.1 hL h.2.2.1.1.1.1.2.2.1 (by omega) hcell.2.2.2 (by omega) h1 h2 (fun r hb hr => ?_)⟩
    have hr16 : r < 16 := by have := hcell.2.2.2 r hb; omega
    have := kv_cf_eq (j := 16 * c + r) hin (by rw [show (16 * c + r) / 16 = c by omega, show (16 * c + r) % 16 = r by omega]; exact hb) hr
    rw [show ((kv_cf g i % 16 : Nat) : Int) = (r : Int) by omega] at hk
    exact hk
  · rw [if_neg (fun q => by omega)] at hk; exact hk
end KVE
