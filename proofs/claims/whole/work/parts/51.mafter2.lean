/-! AFTER in the reference, 2 -/
noncomputable def jn_pd (R : Nat → Nat → Prop) (i : Nat) : Bool := @decide (R (i / 240) (i % 240)) (Classical.propDecidable _)
theorem jn_pd_iff {R : Nat → Nat → Prop} {i : Nat} : jn_pd R i = true ↔ R (i / 240) (i % 240) := @decide_eq_true_iff _ (Classical.propDecidable _)
def jn_RL (τ : jg_M) (g : gM) (e : Nat) (S : jn_Q) (n m k t : Nat) : Prop := τ.1 (92 + 28) 0 = (jn_nu S n : Nat) ∧ τ.1 (92 + 28) 1 = (jn_ct (jn_rp e S) (5 * m + k) : Nat) ∧ τ.1 (92 + 28) 2 = (jn_ct (jn_pd (jn_Ib g e S 240 0 0)) (240 * m + t) : Nat) ∧ τ.1 (92 + 28) 3 = (jn_ct (jn_ll g S) 576 : Nat)
def jW_la (a : Nat) (i : Int) : Prop := (92 + 26 ≤ a ∧ a ≤ 92 + 27) ∨ (a = 92 + 28 ∧ i < 4)
section JML2
variable {w : Nat} {σ : jg_M} {g : gM} {r s k x : Int} {e t0 m : Nat} {f fo : Int → Nat} {S : jn_Q} {a a' : Nat → Nat} {K : jg_M → Prop} {KI : Int → jg_M → Prop}
theorem jn_M0_la {τ : jg_M} (h : jn_M0 σ g e S) (hF : jF jW_la σ τ) : jn_M0 τ g e S := jn_M0_fr h hF (fun i => by unfold jW_la; omega) (fun k i hk => by unfold jW_la; omega)
/-- the rounds -/
theorem jm_layAfterC (hM : jn_M0 σ g e S) (hW : jn_GW g) (hn0 : 0 < g 0 1) (hF : jn_FP g S) (hI : jn_IM σ (jn_Ib g e S 240 0 0)) (hA : jn_AM σ S a) (hm : jn_mA g e S a) {u2 u3 : Value}
    (hk : ∀ τ a, jF (fun b _ => b = 92 + 26) σ τ → jn_AM τ S a → jn_lA g e S a → jg_CV w 2 mm_X12_layRings [.ref 92] τ K) : jg_GV w 4 mm_X12_layAfter 271 [.ref 92, .int (.ofInt 1), u2, u3] σ K := by
  have hI1 := hF.1.1
  have hMt : ∀ τ, jF (fun b _ => b = 92 + 26) σ τ → jn_M0 τ g e S ∧ jn_IM τ (jn_Ib g e S 240 0 0) := fun τ h => ⟨jn_M0_fr hM h (fun i => by omega) (fun k i hk => by omega), jn_IM_fr hI h (fun i => by omega)⟩
  have hin : ∀ (n t : Nat) (z : Int) (u3 : Value) (D0 : Nat) (τ : jg_M) (a : Nat → Nat), (∀ (u2 u3 : Value) (z : Int) (τ : jg_M) (a : Nat → Nat), jF (fun b _ => b = 92 + 26) σ τ → jn_AM τ S a → jn_mA g e S a → ((z = 0 ∧ jn_cA g e S a) ∨ (z = 1 ∧ D0 < jn_SF a 240)) → jg_GV w 4 mm_X12_layAfter 271 [.ref 92, .int (.ofInt z), u2, u3] τ K) →
      (t : Int) + n = 5 * S.1 → jF (fun b _ => b = 92 + 26) σ τ → jn_AM τ S a → jn_mA g e S a → ((z = 0 ∧ jn_SF a 240 = D0 ∧ ∀ m, m < t → jn_mv S m = true → jn_sub (jn_as g e S a m) (a m)) ∨ (z = 1 ∧ D0 < jn_SF a 240)) → jg_GV w 4 mm_X12_layAfter 279 [.ref 92, .int (.ofInt z), .int (.ofInt (t : Int)), u3] τ K := by
    intro n
    induction n with
    | zero =>
      intro t z u3 D0 τ a hP ht hFτ hA hm hz
      obtain ⟨hMτ, hIτ⟩ := hMt τ hFτ
      refine jb_X12_layAfter_279 rfl ?_
      rw [hMτ.2.2.2.1, jr_wr (by omega), jr_wr (by omega)]
      refine jn_ite (fun _ => hP _ _ z τ a hFτ hA hm ?_) (fun h => by omega)
      rcases hz with ⟨z1, -, z3⟩ | z1
      · refine Or.inl ⟨z1, fun m hm' hv => ⟨hm.2.1 m hm' hv, z3 m ?_ hv⟩⟩
        have := (jn_mv_iff.mp hv).1
        omega
      · exact Or.inr z1
    | succ n ih =>
      intro t z u3 D0 τ a hP ht hFτ hA hm hz
      obtain ⟨hMτ, hIτ⟩ := hMt τ hFτ
      have hz01 : z = 0 ∨ z = 1 := by rcases hz with ⟨q, -⟩ | ⟨q, -⟩ <;> omega
      have hor0 : jg_or z 0 = z := by
        rw [jn_or01 hz01 (Or.inl rfl)]
        rcases hz01 with rfl | rfl <;> rfl
      have hor1 : jg_or z 1 = 1 := by
        rw [jn_or01 hz01 (Or.inr rfl)]
        exact if_neg (fun q => by omega)
      refine jb_X12_layAfter_279 rfl ?_
      rw [hMτ.2.2.2.1, jr_wr (by omega), jr_wr (by omega), show (t : Int) + 1 = ((t + 1 : Nat) : Int) by omega]
      refine jn_ite (fun h => by omega) (fun _ => jm_isMove hMτ hF (by omega) (jn_if (fun hv => ?_) (fun hv => ?_)))
      · rintro _ rfl
        rw [hor0]
        refine ih (t + 1) z u3 D0 τ a hP (by omega) hFτ hA hm ?_
        rcases hz with ⟨z1, z2, z3⟩ | z1
        · exact Or.inl ⟨z1, z2, fun m hm' hvm => z3 m (by
            have : m ≠ t := fun q => hv (q ▸ hvm)
            omega) hvm⟩
        · exact Or.inr z1
      · refine jm_moreAfter hMτ hW hn0 hF hIτ hA hm.1 (by omega) hv (fun υ q1 q2 => ?_)
        have hup := jn_mA_up hF hm (show t < 240 by omega) hv
        have hSF := jn_au_SF (a := a) (v := a t ||| jn_as g e S a t) (show t < 240 by omega)
        have hge : a t ≤ a t ||| jn_as g e S a t := jn_sub_le jn_sub_l
        have hFn : jF (fun b _ => b = 92 + 26) σ υ := jF_tr hFτ (jF_mono q1 (fun a i h => h.1))
        have hAn : jn_AM υ S (jn_au a t (a t ||| jn_as g e S a t)) := fun j hj => by
          unfold jn_au
          by_cases hjt : j = t
          · rw [if_pos hjt, hjt]; exact q2
          · rw [if_neg hjt, q1.1 _ _ (by omega)]; exact hA j hj
        refine jn_if (fun heq => ?_) (fun hne => ?_) <;> rintro _ rfl
        · have heq' : a t ||| jn_as g e S a t = a t := (Classical.not_not.mp heq).symm
          have hau : jn_au a t (a t ||| jn_as g e S a t) = a := funext (fun j => by
            unfold jn_au
            split
            · rename_i q; rw [heq', q]
            · rfl)
          rw [hau] at hAn
          rw [hor0]
          refine ih (t + 1) z u3 D0 υ a hP (by omega) hFn hAn hm ?_
          rcases hz with ⟨z1, z2, z3⟩ | z1
          · refine Or.inl ⟨z1, z2, fun m hm' hvm => ?_⟩
            by_cases hmt : m = t
            · rw [hmt]; exact jn_eq_sub heq'
            · exact z3 m (by omega) hvm
          · exact Or.inr z1
        · rw [hor1]
          refine ih (t + 1) 1 u3 D0 υ _ hP (by omega) hFn hAn hup (Or.inr ⟨rfl, ?_⟩)
          rcases hz with ⟨-, z2, -⟩ | ⟨-, z1⟩ <;> omega
  have hout : ∀ (n : Nat) (u2 u3 : Value) (τ : jg_M) (a : Nat → Nat), 61200 - jn_SF a 240 = n → jF (fun b _ => b = 92 + 26) σ τ → jn_AM τ S a → jn_mA g e S a → jg_GV w 4 mm_X12_layAfter 271 [.ref 92, .int (.ofInt 1), u2, u3] τ K := by
    intro n
    induction n using Nat.strongRecOn with
    | ind n ih =>
      intro u2 u3 τ a hn hFτ hA hm
      have hD : jn_SF a 240 ≤ 240 * 255 := jn_SF_le (fun j => by have := hm.1 j; omega)
      refine jb_X12_layAfter_271 rfl ?_
      rw [show jg_wr 1 = 1 from rfl]
      refine jn_ite (fun h => by omega) (fun _ => ?_)
      refine hin (5 * S.1).toNat 0 0 u3 (jn_SF a 240) τ a (fun u2 u3 z τ' a' q1 q2 q3 q4 => ?_) (by omega) hFτ hA hm (Or.inl ⟨rfl, rfl, fun m hm' => by omega⟩)
      have hD' : jn_SF a' 240 ≤ 240 * 255 := jn_SF_le (fun j => by have := q3.1 j; omega)
      rcases q4 with ⟨rfl, q4⟩ | ⟨rfl, q4⟩
      · refine jb_X12_layAfter_271 rfl ?_
        rw [show jg_wr 0 = 0 from rfl]
        exact jn_ite (fun _ => hk τ' a' q1 q2 ⟨q4, q3⟩) (fun h => absurd rfl h)
      · exact ih (61200 - jn_SF a' 240) (by omega) u2 u3 τ' a' rfl q1 q2 q3
  exact hout _ u2 u3 σ a rfl jF_rf hA hm
/-- one move's row: its tokens, and how many it reads and is included by -/
theorem jm_layAfterB {u3 : Value} (hM : jn_M0 σ g e S) (hW : jn_GW g) (hn0 : 0 < g 0 1) (hst : g 0 3 = 0) (hF : jn_FP g S) (hI : jn_IM σ (jn_Ib g e S 240 0 0)) (hmn : ((m / 5 : Nat) : Int) < S.1) (hv : jn_mv S m = true) (hR : jn_RL σ g e S (m + 1) m 0 0) (h0 : σ.1 (92 + 26) (m : Int) = 0)
    (hk : ∀ τ (u2 u3 : Value), jF (fun b i => (b = 92 + 26 ∧ i = (m : Int)) ∨ (b = 92 + 28 ∧ i < 4)) σ τ → jn_RL τ g e S (m + 1) (m + 1) 0 0 → τ.1 (92 + 26) (m : Int) = (jn_ab g S m : Nat) → jg_GV w 4 mm_X12_layAfter 46 [.ref 92, .int (.ofInt ((m : Int) + 1)), u2, u3] τ K) : jg_GV w 4 mm_X12_layAfter 99 [.ref 92, .int (.ofInt (m : Int)), .int (.ofInt (jn_qm S m)), .int (.ofInt 0)] σ K := by
  have hw := hW.1
  have hI1 := hF.1.1
  have hmv := jn_mv_iff.mp hv
  have hq : 0 ≤ jn_qm S m ∧ jn_qm S m < S.1 := ⟨hmv.2, (hF.1.2.2.1 _ _).2⟩
  have hpl := jn_pow_lt hW
  have hMt : ∀ τ, jF (fun b i => (b = 92 + 26 ∧ i = (m : Int)) ∨ (b = 92 + 28 ∧ i < 4)) σ τ → jn_M0 τ g e S ∧ jn_IM τ (jn_Ib g e S 240 0 0) := fun τ h => ⟨jn_M0_fr hM h (fun i => by omega) (fun k i hk => by omega), jn_IM_fr hI h (fun i => by omega)⟩
  have h222 : ∀ (n t : Nat) (u2 : Value) (τ : jg_M), (t : Int) + n = 5 * S.1 → jF (fun b i => (b = 92 + 26 ∧ i = (m : Int)) ∨ (b = 92 + 28 ∧ i < 4)) σ τ → jn_RL τ g e S (m + 1) (m + 1) 0 0 ∨ (τ.1 (92 + 28) 0 = (jn_nu S (m + 1) : Nat) ∧ τ.1 (92 + 28) 1 = (jn_ct (jn_rp e S) (5 * (m + 1)) : Nat) ∧ τ.1 (92 + 28) 2 = (jn_ct (jn_pd (jn_Ib g e S 240 0 0)) (240 * m + t) : Nat) ∧ τ.1 (92 + 28) 3 = (jn_ct (jn_ll g S) 576 : Nat)) → (τ.1 (92 + 28) 2 = (jn_ct (jn_pd (jn_Ib g e S 240 0 0)) (240 * m + t) : Nat)) → τ.1 (92 + 26) (m : Int) = (jn_ab g S m : Nat) → jg_GV w 4 mm_X12_layAfter 222 [.ref 92, .int (.ofInt (m : Int)), u2, .int (.ofInt (t : Int))] τ K := by
    intro n
    induction n with
    | zero =>
      intro t u2 τ ht hFτ hR h2 ha
      obtain ⟨hMτ, hIτ⟩ := hMt τ hFτ
      refine jb_X12_layAfter_222 rfl ?_
      rw [hMτ.2.2.2.1, jr_wr (by omega), jr_wr (by omega)]
      refine jn_ite (fun _ => hk τ _ _ hFτ ?_ ha) (fun h => by omega)
      rcases hR with hR | ⟨r0, r1, r2, r3⟩
      · exact hR
      · refine ⟨r0, r1, ?_, r3⟩
        rw [r2]
        have := jn_ct_skip (p := jn_pd (jn_Ib g e S 240 0 0)) (k := 240 * m + t) (d := 240 - t) (fun j j1 j2 q => by
          obtain ⟨r, d, q1, -⟩ := jn_pd_iff.mp q
          have := (jn_mv_iff.mp q1.2.1).1
          omega)
        rw [show 240 * m + t + (240 - t) = 240 * (m + 1) + 0 by omega] at this
        rw [this]
    | succ n ih =>
      intro t u2 τ ht hFτ hR h2 ha
      obtain ⟨hMτ, hIτ⟩ := hMt τ hFτ
      have hR' : τ.1 (92 + 28) 0 = (jn_nu S (m + 1) : Nat) ∧ τ.1 (92 + 28) 1 = (jn_ct (jn_rp e S) (5 * (m + 1)) : Nat) ∧ τ.1 (92 + 28) 3 = (jn_ct (jn_ll g S) 576 : Nat) := by
        rcases hR with ⟨r0, r1, -, r3⟩ | ⟨r0, r1, -, r3⟩
        · exact ⟨r0, r1, r3⟩
        · exact ⟨r0, r1, r3⟩
      have hpd : jn_pd (jn_Ib g e S 240 0 0) (240 * m + t) = true ↔ jn_Ib g e S 240 0 0 m t := by
        rw [jn_pd_iff, show (240 * m + t) / 240 = m by omega, show (240 * m + t) % 240 = t by omega]
      refine jb_X12_layAfter_222 rfl ?_
      rw [hMτ.2.2.2.1, jr_wr (by omega), jr_wr (by omega), show (t : Int) + 1 = ((t + 1 : Nat) : Int) by omega]
      refine jn_ite (fun h => by omega) (fun _ => jm_isIncluded hIτ (by omega) (by omega) (jn_if (fun hp => ?_) (fun hp => ?_))) <;> rintro _ rfl
      · have h2n : (jg_sI τ (92 + 28) 2 (τ.1 (92 + 28) 2 + 0)).1 (92 + 28) 2 = (jn_ct (jn_pd (jn_Ib g e S 240 0 0)) (240 * m + (t + 1)) : Nat) := by
          rw [js_Is, h2, show 240 * m + (t + 1) = (240 * m + t) + 1 by omega, jn_ct_f (fun q => hp (hpd.mp q))]
          omega
        refine ih (t + 1) u2 _ (by omega) (jF_tr hFτ (jF_I (Or.inr ⟨rfl, by omega⟩))) (Or.inr ⟨?_, ?_, h2n, ?_⟩) h2n (by rw [js_In (Or.inl (by omega))]; exact ha)
        · rw [js_In (Or.inr (by omega))]; exact hR'.1
        · rw [js_In (Or.inr (by omega))]; exact hR'.2.1
        · rw [js_In (Or.inr (by omega))]; exact hR'.2.2
      · have h2n : (jg_sI τ (92 + 28) 2 (τ.1 (92 + 28) 2 + 1)).1 (92 + 28) 2 = (jn_ct (jn_pd (jn_Ib g e S 240 0 0)) (240 * m + (t + 1)) : Nat) := by
          rw [js_Is, h2, show 240 * m + (t + 1) = (240 * m + t) + 1 by omega, jn_ct_t (hpd.mpr hp)]
          rfl
        refine ih (t + 1) u2 _ (by omega) (jF_tr hFτ (jF_I (Or.inr ⟨rfl, by omega⟩))) (Or.inr ⟨?_, ?_, h2n, ?_⟩) h2n (by rw [js_In (Or.inl (by omega))]; exact ha)
        · rw [js_In (Or.inr (by omega))]; exact hR'.1
        · rw [js_In (Or.inr (by omega))]; exact hR'.2.1
        · rw [js_In (Or.inr (by omega))]; exact hR'.2.2
  have h168 : ∀ (n k : Nat) (τ : jg_M), (k : Int) + n = g 0 1 → jF (fun b i => (b = 92 + 26 ∧ i = (m : Int)) ∨ (b = 92 + 28 ∧ i < 4)) σ τ → jn_RL τ g e S (m + 1) m k 0 → τ.1 (92 + 26) (m : Int) = (jn_ab g S m : Nat) → jg_GV w 4 mm_X12_layAfter 168 [.ref 92, .int (.ofInt (m : Int)), .int (.ofInt (jn_qm S m)), .int (.ofInt (k : Int))] τ K := by
    intro n
    induction n with
    | zero =>
      intro k τ hkn hFτ hR ha
      obtain ⟨hMτ, hIτ⟩ := hMt τ hFτ
      obtain ⟨r0, r1, r2, r3⟩ := hR
      refine jb_X12_layAfter_168 rfl ?_
      rw [hMτ.1.1.2.2.2.2.2.1, jr_wr (by omega), jr_wr (by omega)]
      refine jn_ite (fun _ => h222 (5 * S.1).toNat 0 _ τ (by omega) hFτ (Or.inr ⟨r0, ?_, r2, r3⟩) r2 ha) (fun h => by omega)
      rw [r1]
      have := jn_ct_skip (p := jn_rp e S) (k := 5 * m + k) (d := 5 - k) (fun j j1 j2 q => by
        have h1 := jn_rp_iff.mp q
        have hj : j / 5 = m := by omega
        rw [hj] at h1
        have := (jn_mv_rule hW hn0 hF hq (k := ((j % 5 : Nat) : Int)) (by omega) h1.2.2).1
        omega)
      rw [show 5 * m + k + (5 - k) = 5 * (m + 1) by omega] at this
      rw [this]
    | succ n ih =>
      intro k τ hkn hFτ hR ha
      obtain ⟨hMτ, hIτ⟩ := hMt τ hFτ
      obtain ⟨r0, r1, r2, r3⟩ := hR
      have he := hMτ.2.2.1
      have hrp : jn_rp e S (5 * m + k) = true ↔ e.testBit k = true ∧ 0 ≤ S.2.2.1 (jn_qm S m) (10 + (k : Int)) := by
        rw [jn_rp_iff, show (5 * m + k) / 5 = m by omega, show (5 * m + k) % 5 = k by omega]
        exact ⟨fun q => q.2, fun q => ⟨hv, q⟩⟩
      have hb := hF.1.2.2.1 (jn_qm S m) (10 + (k : Int))
      have step : ∀ (z : Int) (υ : jg_M), z = (if jn_rp e S (5 * m + k) = true then 1 else 0) → υ = jg_sI τ (92 + 28) 1 (τ.1 (92 + 28) 1 + z) → jg_GV w 4 mm_X12_layAfter 168 [.ref 92, .int (.ofInt (m : Int)), .int (.ofInt (jn_qm S m)), .int (.ofInt ((k : Int) + 1))] υ K := by
        rintro z _ hz rfl
        rw [show (k : Int) + 1 = ((k + 1 : Nat) : Int) by omega]
        refine ih (k + 1) _ (by omega) (jF_tr hFτ (jF_I (Or.inr ⟨rfl, by omega⟩))) ⟨by rw [js_In (Or.inr (by omega))]; exact r0, ?_, by rw [js_In (Or.inr (by omega))]; exact r2, by rw [js_In (Or.inr (by omega))]; exact r3⟩ (by rw [js_In (Or.inl (by omega))]; exact ha)
        rw [js_Is, r1, hz, show 5 * m + (k + 1) = (5 * m + k) + 1 by omega]
        by_cases h : jn_rp e S (5 * m + k) = true
        · rw [if_pos h, jn_ct_t h]; rfl
        · rw [if_neg h, jn_ct_f h]; omega
      refine jb_X12_layAfter_168 rfl ?_
      rw [hMτ.1.1.2.2.2.2.2.1, jr_wr (show jr (g 0 1) by omega), jr_wr (show jr (k : Int) by omega), he.1]
      refine jn_ite (fun h => by omega) (fun _ => jm_isOf (by omega) (by omega) (jn_if (fun hp => ?_) (fun hp => jm_kindMove hMτ hF hq (by omega) ?_)))
      · exact fun υ hυ => step 0 υ (by rw [if_neg (fun q => hp (by rw [Int.toNat_natCast]; exact (hrp.mp q).1))]) hυ
      · rw [Int.toNat_natCast] at hp
        rw [jr_wr (show jr (S.2.2.1 (jn_qm S m) (10 + (k : Int))) by omega)]
        exact jn_ite (fun hneg υ hυ => step 0 υ (by rw [if_neg (fun q => by have := (hrp.mp q).2; omega)]) hυ) (fun hpos υ hυ => step 1 υ (by rw [if_pos (hrp.mpr ⟨hp, by omega⟩)]) hυ)
  have h99 : ∀ (n t : Nat) (τ : jg_M), (t : Int) + n = g 0 0 → jF (fun b i => (b = 92 + 26 ∧ i = (m : Int)) ∨ (b = 92 + 28 ∧ i < 4)) σ τ → jn_RL τ g e S (m + 1) m 0 0 → τ.1 (92 + 26) (m : Int) = ((jn_mk (fun i => i < t ∧ 0 ≤ S.2.2.1 (jn_qm S m) (i : Int)) 8 : Nat) : Int) → jg_GV w 4 mm_X12_layAfter 99 [.ref 92, .int (.ofInt (m : Int)), .int (.ofInt (jn_qm S m)), .int (.ofInt (t : Int))] τ K := by
    intro n
    induction n with
    | zero =>
      intro t τ ht hFτ hR ha
      obtain ⟨hMτ, hIτ⟩ := hMt τ hFτ
      have htk : jn_mk (fun i => i < t ∧ 0 ≤ S.2.2.1 (jn_qm S m) (i : Int)) 8 = jn_tk g S (jn_qm S m) := jn_mk_eq (fun i _ => ⟨fun q => ⟨by omega, q.2⟩, fun q => ⟨by omega, q.2⟩⟩)
      have htl : jn_tk g S (jn_qm S m) < 256 := jn_tk_lt
      rw [htk] at ha
      refine jb_X12_layAfter_99 rfl ?_
      rw [hMτ.1.1.2.2.2.2.1, jr_wr (show jr (g 0 0) by omega), jr_wr (show jr (t : Int) by omega), jr_wr (show jr (m : Int) by omega), ha, hpl.2, jb_or (by omega) (by omega)]
      refine jn_ite (fun _ => jn_ite (fun hm0 => ⟨by omega, by omega, ?_⟩) (fun hm0 => ?_)) (fun h => by omega)
      · rintro _ rfl
        refine h168 (g 0 1).toNat 0 _ (by omega) (jF_tr hFτ (jF_I (Or.inl ⟨rfl, rfl⟩))) ?_ ?_
        · obtain ⟨r0, r1, r2, r3⟩ := hR
          exact ⟨by rw [js_In (Or.inl (by omega))]; exact r0, by rw [js_In (Or.inl (by omega))]; exact r1, by rw [js_In (Or.inl (by omega))]; exact r2, by rw [js_In (Or.inl (by omega))]; exact r3⟩
        · rw [js_Is]
          unfold jn_ab
          rw [if_pos (by omega)]
      · refine h168 (g 0 1).toNat 0 τ (by omega) hFτ hR ?_
        rw [ha]
        unfold jn_ab
        rw [if_neg (by omega), Nat.or_zero]
    | succ n ih =>
      intro t τ ht hFτ hR ha
      obtain ⟨hMτ, hIτ⟩ := hMt τ hFτ
      obtain ⟨r0, r1, r2, r3⟩ := hR
      have hlt : jn_mk (fun i => i < t ∧ 0 ≤ S.2.2.1 (jn_qm S m) (i : Int)) 8 < 256 := jn_mk_lt
      have hm2 := hF.1.2.2.1 (jn_qm S m) (t : Int)
      have h16 := hMτ.2.2.2.2.2 (jn_qm S m) (t : Int) hq.1 hq.2 (by omega) (by omega)
      rw [show jn_sy (t : Int) = t from if_pos (by omega), show 12 * (48 * 0 + jn_qm S m) + (t : Int) = 12 * jn_qm S m + t by omega] at h16
      refine jb_X12_layAfter_99 rfl ?_
      rw [hMτ.1.1.2.2.2.2.1, jr_wr (show jr (g 0 0) by omega), jr_wr (show jr (t : Int) by omega), jr_wr (show jr (m : Int) by omega), jr_wr (show jr (12 * jn_qm S m + (t : Int)) by omega), h16, jr_wr (show jr (S.2.2.1 (jn_qm S m) (t : Int)) by omega), ha, show (t : Int) + 1 = ((t + 1 : Nat) : Int) by omega]
      have hRn : ∀ v, jn_RL (jg_sI τ (92 + 26) (m : Int) v) g e S (m + 1) m 0 0 := fun v => ⟨by rw [js_In (Or.inl (by omega))]; exact r0, by rw [js_In (Or.inl (by omega))]; exact r1, by rw [js_In (Or.inl (by omega))]; exact r2, by rw [js_In (Or.inl (by omega))]; exact r3⟩
      refine jn_ite (fun h => by omega) (fun _ => ⟨by omega, by omega, jn_ite (fun hneg => ⟨by omega, ?_⟩) (fun hpos => ⟨by omega, ?_⟩)⟩) <;> rintro _ rfl
      · refine ih (t + 1) _ (by omega) (jF_tr hFτ (jF_I (Or.inl ⟨rfl, rfl⟩))) (hRn _) ?_
        have h0r := jb_or (m := jn_mk (fun i => i < t ∧ 0 ≤ S.2.2.1 (jn_qm S m) (i : Int)) 8) (n := 0) (by omega) (by omega)
        rw [Nat.or_zero] at h0r
        rw [js_Is]
        refine Eq.trans h0r ?_
        refine jn_mk_ex (fun i _ => ⟨fun q => ⟨by omega, q.2⟩, fun q => ⟨?_, q.2⟩⟩)
        have : i ≠ t := fun hit => by have := q.2; rw [hit] at this; omega
        omega
      · have h2t : 1 * 2 ^ t < 2147483648 := by
          have := Nat.pow_lt_pow_right (a := 2) (n := 8) (by omega) (show t < 8 by omega)
          omega
        refine ih (t + 1) _ (by omega) (jF_tr hFτ (jF_I (Or.inl ⟨rfl, rfl⟩))) (hRn _) ?_
        rw [js_Is, show jg_shl 1 (t : Int) = ((1 * 2 ^ t : Nat) : Int) from jb_shl (m := 1) (by omega) h2t, jb_or (by omega) h2t, Nat.one_mul, jn_mk_add (by omega)]
        refine jn_mk_ex (fun i _ => ⟨fun q => q.elim (fun q => ⟨by omega, q.2⟩) (fun q => ⟨by omega, by rw [q]; omega⟩), fun q => ?_⟩)
        by_cases hit : i = t
        · exact Or.inr hit
        · exact Or.inl ⟨by omega, q.2⟩
  refine h99 (g 0 0).toNat 0 σ (by omega) jF_rf hR ?_
  rw [h0, show jn_mk (fun i => i < 0 ∧ 0 ≤ S.2.2.1 (jn_qm S m) (i : Int)) 8 = 0 from jn_bits (fun i => by
    rw [jn_mk_bit, Nat.zero_testBit]
    exact ⟨fun q => by omega, fun q => by cases q⟩)]
  rfl
end JML2
