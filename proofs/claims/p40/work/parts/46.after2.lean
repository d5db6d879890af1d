/-! AFTER in the class, 2 -/
section JAG
variable {w : Nat} {σ : jg_M} {A T : Nat} {g : gM} {r s k : Int} {e t0 m : Nat} {f fo : Int → Nat} {S : jn_Q} {L : Int → Int → Nat} {a a' : Nat → Nat} {K : jg_M → Prop} {KI : Int → jg_M → Prop}
theorem jc_X4_aftersRead (h0 : jg_sh A = (4, 0)) (h1 : jg_sh T = (8, 0)) (h2 : jg_sh (T + 10) = (7, 0)) (h3 : jg_sh (T + 1) = (0, 0)) (hB : jn_TB σ T g e f S L fo) (hF : jn_FP g S) (hN : jn_NM σ A S 240) (ha : jn_AF σ A S a) (ha2 : ∀ m, a m < 256) (hm : m < 240) (hv : jn_mv S m = true)
    (hk : KI (jn_orf (jn_rh e S a m) 5 : Nat) σ) : jg_CI w 2 mm_X4_aftersRead [.ref A, .ref T, .int (.ofInt ((jn_nu S m : Nat) : Int))] σ KI := by
  have hI1 := hF.1.1
  have hnu := jn_nu_lt (S := S) hm
  have hmv := jn_mv_iff.mp hv
  have hq := hF.1.2.2.1 ((m / 5 : Nat) : Int) (10 + ((m % 5 : Nat) : Int))
  have hqe : S.2.2.1 ((m / 5 : Nat) : Int) (10 + ((m % 5 : Nat) : Int)) = jn_qm S m := rfl
  rw [hqe] at hq
  have hq0 : 0 ≤ jn_qm S m := hmv.2
  have hloop : ∀ (n k : Nat) (u6 : Value), k + n = 5 → jg_GI w 2 mm_X4_aftersRead 29 [.ref A, .ref T, .int (.ofInt ((jn_nu S m : Nat) : Int)), .int (.ofInt (jn_qm S m)), .int (.ofInt ((jn_orf (jn_rh e S a m) k : Nat) : Int)), .int (.ofInt (k : Int)), u6] σ KI := by
    intro n
    induction n with
    | zero =>
      intro k u6 hkn
      refine jb_X4_aftersRead_29 h0 h1 ?_
      rw [jr_wr (by omega)]
      exact jn_ite (fun _ => by rwa [show k = 5 by omega]) (fun h => by omega)
    | succ n ih =>
      intro k u6 hkn
      have hlt : jn_orf (jn_rh e S a m) k < 256 := jn_orf_lt (fun _ => jn_rh_lt ha2)
      have hs : jn_orf (jn_rh e S a m) (k + 1) = jn_orf (jn_rh e S a m) k ||| jn_rh e S a m k := rfl
      have hnum := hN.2.1 (5 * jn_qm S m + k).toNat (by omega)
      have hnl := jn_nu_lt (S := S) (m := (5 * jn_qm S m + k).toNat) (by omega)
      rw [show (((5 * jn_qm S m + (k : Int)).toNat : Nat) : Int) = jn_qm S m * 5 + k by omega] at hnum
      have next : ∀ (u6 : Value), ¬ (e.testBit k = true ∧ jn_mv S (5 * jn_qm S m + k).toNat = true) → jg_GI w 2 mm_X4_aftersRead 29 [.ref A, .ref T, .int (.ofInt ((jn_nu S m : Nat) : Int)), .int (.ofInt (jn_qm S m)), .int (.ofInt ((jn_orf (jn_rh e S a m) k : Nat) : Int)), .int (.ofInt ((k : Int) + 1)), u6] σ KI := fun u6 hno => by
        rw [show (k : Int) + 1 = ((k + 1 : Nat) : Int) by omega]
        have := ih (k + 1) u6 (by omega)
        rw [hs, show jn_rh e S a m k = 0 from if_neg hno, Nat.or_zero] at this
        exact this
      refine jb_X4_aftersRead_29 h0 h1 ?_
      rw [jr_wr (by omega)]
      refine jn_ite (fun h => by omega) (fun _ => jc_X4_numberOf h0 (by omega) (by omega) ?_)
      rw [show (if (0 ≤ jn_qm S m ∧ jn_qm S m < 48) ∧ 0 ≤ (k : Int) ∧ (k : Int) < 5 then σ.1 (A + 3) (jn_qm S m * 5 + (k : Int)) else -1) = σ.1 (A + 3) (jn_qm S m * 5 + (k : Int)) from if_pos ⟨by omega, by omega, by omega⟩]
      by_cases hyes : jn_mv S (5 * jn_qm S m + k).toNat = true
      · rw [if_pos ⟨by omega, hyes⟩] at hnum
        rw [hnum, jr_wr (by omega)]
        refine jn_ite (fun h => by omega) (fun _ => jn_ite (fun h => by omega) (fun _ => jc_X0_isEmpty h3 hB.1.2.1 hB.1.2.2.2.1 (by omega) (jn_if (fun hp => next _ (fun q => hp ⟨by omega, by omega, by rw [Int.toNat_natCast]; exact q.1⟩)) (fun hp => ⟨by omega, ?_⟩))))
        rintro _ rfl
        have hev : e.testBit k = true := by have := hp.2.2; rwa [Int.toNat_natCast] at this
        rw [ha _ (by omega) hyes]
        have ha9 := ha2 (5 * jn_qm S m + (k : Int)).toNat
        rw [jb_or (by omega) (by omega), show (k : Int) + 1 = ((k + 1 : Nat) : Int) by omega]
        have := ih (k + 1) (.int (.ofInt ((jn_nu S (5 * jn_qm S m + (k : Int)).toNat : Nat) : Int))) (by omega)
        rw [hs, show jn_rh e S a m k = a (5 * jn_qm S m + k).toNat from if_pos ⟨hev, hyes⟩] at this
        exact this
      · rw [if_neg (fun q => hyes q.2)] at hnum
        rw [hnum, show jg_wr (-1) = -1 from rfl]
        exact jn_ite (fun _ => next _ (fun q => hyes q.2)) (fun h => by omega)
  refine jb_X4_aftersRead_0 h0 h1 ?_
  rw [jr_wr (by omega), (hN.2.2 m hm hv).1, (hN.2.2 m hm hv).2]
  refine ⟨by omega, by omega, jc_X7_moveBy h2 hB.2.1.1.1 (by omega) (by omega) (by omega) ?_⟩
  rw [if_pos ⟨⟨by omega, hmv.1⟩, by omega, by omega⟩, hB.2.1.2.1 _ _ (by omega) hmv.1 (by omega) (by omega), jn_m2_nn hmv.2]
  exact hloop 5 0 _ rfl
theorem jc_X4_aftersIncluded (h0 : jg_sh A = (4, 0)) (hN : jn_NM σ A S 240) (hR : jn_RI σ A S (jn_Ib g e S 240 0 0)) (ha : jn_AF σ A S a) (ha2 : ∀ m, a m < 256) (hm : m < 240) (hv : jn_mv S m = true)
    (hk : KI (jn_orf (jn_ih g e S a m) 240 : Nat) σ) : jg_CI w 2 mm_X4_aftersIncluded [.ref A, .int (.ofInt ((jn_nu S m : Nat) : Int))] σ KI := by
  have hnu := jn_nu_lt (S := S) hm
  have hle := jn_nu_le (S := S) (m := 240)
  have hloop : ∀ (n t : Nat), t + n = 240 → jg_GI w 2 mm_X4_aftersIncluded 4 [.ref A, .int (.ofInt ((jn_nu S m : Nat) : Int)), .int (.ofInt ((jn_orf (jn_ih g e S a m) t : Nat) : Int)), .int (.ofInt ((jn_nu S t : Nat) : Int))] σ KI := by
    intro n
    induction n with
    | zero =>
      intro t ht
      refine jb_X4_aftersIncluded_4 h0 ?_
      rw [hN.1, show t = 240 by omega, jr_wr (by omega)]
      exact jn_ite (fun _ => hk) (fun h => by omega)
    | succ n ih =>
      intro t ht
      have hlt : jn_orf (jn_ih g e S a m) t < 256 := jn_orf_lt (fun _ => jn_ih_lt ha2)
      have hs : jn_orf (jn_ih g e S a m) (t + 1) = jn_orf (jn_ih g e S a m) t ||| jn_ih g e S a m t := rfl
      have := ih (t + 1) (by omega)
      by_cases hvt : jn_mv S t = true
      · have hn1 : jn_nu S (t + 1) = jn_nu S t + 1 := jn_ct_t hvt
        have hn2 : jn_nu S t < jn_nu S 240 := jn_ct_lt hvt (by omega)
        rw [show ((jn_nu S (t + 1) : Nat) : Int) = ((jn_nu S t : Nat) : Int) + 1 by omega, hs] at this
        refine jb_X4_aftersIncluded_4 h0 ?_
        rw [hN.1, jr_wr (by omega), jr_wr (by omega)]
        refine jn_ite (fun h => by omega) (fun _ => jc_X4_inRow (jg_sX4_8 h0) hnu (jn_nu_lt (by omega)) (jn_if (fun hp => ?_) (fun hp => ⟨by omega, ?_⟩)))
        · rw [show jn_ih g e S a m t = 0 from if_neg (fun q => hp ((hR.1 m t hm (by omega) hv hvt).mpr q.2)), Nat.or_zero] at this
          exact this
        · rintro _ rfl
          have ha9 := ha2 t
          rw [ha t (by omega) hvt, jb_or (by omega) (by omega)]
          rw [show jn_ih g e S a m t = a t from if_pos ⟨hvt, (hR.1 m t hm (by omega) hv hvt).mp hp⟩] at this
          exact this
      · have hn1 : jn_nu S (t + 1) = jn_nu S t := jn_ct_f hvt
        rw [hn1, hs, show jn_ih g e S a m t = 0 from if_neg (fun q => hvt q.1), Nat.or_zero] at this
        exact this
  exact jb_X4_aftersIncluded_0 h0 (hloop 240 0 rfl)
theorem jn_au_SF {v : Nat} (hm : m < 240) : jn_SF (jn_au a m v) 240 + a m = jn_SF a 240 + v := jn_SF_up hm
theorem jn_AF_up {v : Nat} {τ : jg_M} (h : jn_AF τ A S a) (hm : m < 240) (hv : jn_mv S m = true) : jn_AF (jg_sI τ (A + 4) (jn_nu S m : Nat) (v : Nat)) A S (jn_au a m v) := fun j hj hvj => by
  unfold jn_au
  by_cases hjm : j = m
  · rw [if_pos hjm, hjm, js_Is]
  · rw [if_neg hjm, js_In (Or.inr (fun q => hjm (jn_ct_inj hvj hv (by unfold jn_nu at q; omega))))]
    exact h j hj hvj
theorem jc_X4_settleAfters (h0 : jg_sh A = (4, 0)) (h1 : jg_sh T = (8, 0)) (h2 : jg_sh (T + 10) = (7, 0)) (h3 : jg_sh (T + 1) = (0, 0)) (hAT : T + 22 ≤ A) (hW : jn_GW g) (hB : jn_TB σ T g e f S L fo) (hF : jn_FP g S) (hN : jn_NM σ A S 240) (hR : jn_RI σ A S (jn_Ib g e S 240 0 0))
    (hk : ∀ τ a, jF (fun b _ => b = A + 4) σ τ → jn_AF τ A S a → jn_lA g e S a → K τ) : jg_CV w 3 mm_X4_settleAfters [.ref A, .ref T] σ K := by
  have hw := hW.1
  have hI1 := hF.1.1
  have hle := jn_nu_le (S := S) (m := 240)
  have hpl := jn_pow_lt hW
  have hBt : ∀ τ, jF (fun b _ => b = A + 4) σ τ → jn_TB τ T g e f S L fo ∧ jn_NM τ A S 240 ∧ jn_RI τ A S (jn_Ib g e S 240 0 0) := fun τ h => ⟨jn_TB_fr hB h (fun a i h => by omega), jn_NM_fr hN h (by omega) (fun a i h => by omega), jn_RI_fr hR h (by omega) (fun i => by omega)⟩
  -- one round
  have hin : ∀ (n t : Nat) (u2 u6 : Value) (z c : Int) (D0 : Nat) (τ : jg_M) (a : Nat → Nat), (∀ (u2 u5 u6 : Value) (z : Int) (τ : jg_M) (a : Nat → Nat), jF (fun b _ => b = A + 4) σ τ → jn_AF τ A S a → jn_mA g e S a → ((z = 0 ∧ jn_cA g e S a) ∨ (z = 1 ∧ D0 < jn_SF a 240)) → jg_GV w 3 mm_X4_settleAfters 75 [.ref A, .ref T, u2, .int (.ofInt z), .int (.ofInt (c + 1)), u5, u6] τ K) →
      t + n = 240 → jF (fun b _ => b = A + 4) σ τ → jn_AF τ A S a → jn_mA g e S a → ((z = 0 ∧ jn_SF a 240 = D0 ∧ ∀ m, m < t → jn_mv S m = true → jn_sub (jn_as g e S a m) (a m)) ∨ (z = 1 ∧ D0 < jn_SF a 240)) → jg_GV w 3 mm_X4_settleAfters 91 [.ref A, .ref T, u2, .int (.ofInt z), .int (.ofInt c), .int (.ofInt ((jn_nu S t : Nat) : Int)), u6] τ K := by
    intro n
    induction n with
    | zero =>
      intro t u2 u6 z c D0 τ a hP ht hFτ hA hm hz
      refine jb_X4_settleAfters_91 h0 h1 ?_
      rw [(hBt τ hFτ).2.1.1, show t = 240 by omega, jr_wr (by omega)]
      refine jn_ite (fun _ => hP _ _ _ z τ a hFτ hA hm ?_) (fun h => by omega)
      rcases hz with ⟨z1, -, z3⟩ | z1
      · exact Or.inl ⟨z1, fun m hm' hv => ⟨hm.2.1 m hm' hv, z3 m (by omega) hv⟩⟩
      · exact Or.inr z1
    | succ n ih =>
      intro t u2 u6 z c D0 τ a hP ht hFτ hA hm hz
      by_cases hv : jn_mv S t = true
      · obtain ⟨hBτ, hNτ, hRτ⟩ := hBt τ hFτ
        have hn1 : jn_nu S (t + 1) = jn_nu S t + 1 := jn_ct_t hv
        have hn2 : jn_nu S t < jn_nu S 240 := jn_ct_lt hv (by omega)
        have hal := hm.1 t
        have hr1 : jn_orf (jn_rh e S a t) 5 < 256 := jn_orf_lt (fun _ => jn_rh_lt hm.1)
        have hr2 : jn_orf (jn_ih g e S a t) 240 < 256 := jn_orf_lt (fun _ => jn_ih_lt hm.1)
        have hr3 : a t ||| jn_orf (jn_rh e S a t) 5 < 256 := Nat.or_lt_two_pow (n := 8) hal hr1
        have hr4 : a t ||| jn_as g e S a t < 256 := Nat.or_lt_two_pow (n := 8) hal (jn_as_lt hm.1)
        refine jb_X4_settleAfters_91 h0 h1 ?_
        rw [hNτ.1, jr_wr (show jr ((jn_nu S t : Nat) : Int) by omega), jr_wr (show jr ((jn_nu S 240 : Nat) : Int) by omega)]
        refine jn_ite (fun h => by omega) (fun _ => ⟨by omega, jc_X4_aftersRead h0 h1 h2 h3 hBτ hF hNτ hA hm.1 (by omega) hv (jc_X4_aftersIncluded h0 hNτ hRτ hA hm.1 (by omega) hv ?_)⟩)
        rw [hA t (by omega) hv, jb_or (by omega) (by omega), jb_or (by omega) (by omega), show a t ||| jn_orf (jn_rh e S a t) 5 ||| jn_orf (jn_ih g e S a t) 240 = a t ||| jn_as g e S a t from Nat.or_assoc _ _ _]
        rintro _ rfl
        have hup := jn_mA_up hF hm (show t < 240 by omega) hv
        have hSF := jn_au_SF (a := a) (v := a t ||| jn_as g e S a t) (show t < 240 by omega)
        have hge : a t ≤ a t ||| jn_as g e S a t := jn_sub_le jn_sub_l
        have hFn : jF (fun b _ => b = A + 4) σ (jg_sI τ (A + 4) ((jn_nu S t : Nat) : Int) ((a t ||| jn_as g e S a t : Nat) : Int)) := jF_tr hFτ (jF_I rfl)
        have hAn := jn_AF_up (v := a t ||| jn_as g e S a t) hA (show t < 240 by omega) hv
        rw [show ((jn_nu S t : Nat) : Int) + 1 = ((jn_nu S (t + 1) : Nat) : Int) by omega]
        rcases hz with ⟨rfl, z2, z3⟩ | ⟨rfl, z2⟩
        · rw [show jg_wr 0 = 0 from rfl]
          refine jn_ite (fun _ => ⟨by omega, ?_⟩) (fun h => absurd rfl h)
          rw [jr_wr (show jr ((a t ||| jn_as g e S a t : Nat) : Int) by omega), jr_wr (show jr ((a t : Nat) : Int) by omega)]
          refine jn_ite (fun heq => ⟨by omega, ?_⟩) (fun hne => ⟨by omega, ?_⟩) <;> rintro _ rfl
          · have heq' : a t ||| jn_as g e S a t = a t := by omega
            have hau : jn_au a t (a t ||| jn_as g e S a t) = a := funext (fun j => by
              unfold jn_au
              split
              · rename_i q; rw [heq', q]
              · rfl)
            rw [hau] at hAn hup
            refine ih (t + 1) u2 _ 0 c D0 _ a hP (by omega) hFn hAn hup (Or.inl ⟨rfl, z2, fun m hm' hvm => ?_⟩)
            by_cases hmt : m = t
            · rw [hmt]; exact jn_eq_sub heq'
            · exact z3 m (by omega) hvm
          · refine ih (t + 1) u2 _ 1 c D0 _ _ hP (by omega) hFn hAn hup (Or.inr ⟨rfl, by omega⟩)
        · rw [show jg_wr 1 = 1 from rfl]
          refine jn_ite (fun h => by omega) (fun _ => ⟨by omega, ?_⟩)
          rintro _ rfl
          exact ih (t + 1) u2 _ 1 c D0 _ _ hP (by omega) hFn hAn hup (Or.inr ⟨rfl, by omega⟩)
      · have hn1 : jn_nu S (t + 1) = jn_nu S t := jn_ct_f hv
        rw [← hn1]
        refine ih (t + 1) u2 u6 z c D0 τ a hP (by omega) hFτ hA hm ?_
        rcases hz with ⟨z1, z2, z3⟩ | z1
        · exact Or.inl ⟨z1, z2, fun m hm' hvm => z3 m (by
            have : m ≠ t := fun q => hv (q ▸ hvm)
            omega) hvm⟩
        · exact Or.inr z1
  have hout : ∀ (n : Nat) (c : Int) (u2 u5 u6 : Value) (τ : jg_M) (a : Nat → Nat), 61200 - jn_SF a 240 = n → 0 ≤ c → c ≤ jn_SF a 240 → jF (fun b _ => b = A + 4) σ τ → jn_AF τ A S a → jn_mA g e S a → jg_GV w 3 mm_X4_settleAfters 75 [.ref A, .ref T, u2, .int (.ofInt 1), .int (.ofInt c), u5, u6] τ K := by
    intro n
    induction n using Nat.strongRecOn with
    | ind n ih =>
      intro c u2 u5 u6 τ a hn hc hc2 hFτ hA hm
      have hD : jn_SF a 240 ≤ 240 * 255 := jn_SF_le (fun j => by have := hm.1 j; omega)
      refine jb_X4_settleAfters_75 h0 h1 ?_
      rw [show jg_wr 1 = 1 from rfl, jr_wr (by omega)]
      refine jn_ite (fun h => by omega) (fun _ => jn_ite (fun h => by omega) (fun _ => ?_))
      refine hin 240 0 u2 u6 0 c (jn_SF a 240) τ a (fun u2 u5 u6 z τ' a' q1 q2 q3 q4 => ?_) rfl hFτ hA hm (Or.inl ⟨rfl, rfl, fun m hm' => by omega⟩)
      have hD' : jn_SF a' 240 ≤ 240 * 255 := jn_SF_le (fun j => by have := q3.1 j; omega)
      rcases q4 with ⟨rfl, q4⟩ | ⟨rfl, q4⟩
      · refine jb_X4_settleAfters_75 h0 h1 ?_
        rw [show jg_wr 0 = 0 from rfl]
        exact jn_ite (fun _ => hk τ' a' q1 q2 ⟨q4, q3⟩) (fun h => absurd rfl h)
      · exact ih (61200 - jn_SF a' 240) (by omega) (c + 1) u2 u5 u6 τ' a' rfl (by omega) (by omega) q1 q2 q3
  have hfirst : ∀ (n t : Nat) (u3 u4 u5 u6 : Value) (τ : jg_M), t + n = 240 → jF (fun b _ => b = A + 4) σ τ → (∀ m, m < t → jn_mv S m = true → τ.1 (A + 4) (jn_nu S m : Nat) = (jn_tk g S (jn_qm S m) : Nat)) → jg_GV w 3 mm_X4_settleAfters 2 [.ref A, .ref T, .int (.ofInt ((jn_nu S t : Nat) : Int)), u3, u4, u5, u6] τ K := by
    intro n
    induction n with
    | zero =>
      intro t u3 u4 u5 u6 τ ht hFτ hA
      obtain ⟨hBτ, hNτ, hRτ⟩ := hBt τ hFτ
      refine jb_X4_settleAfters_2 h0 h1 ?_
      rw [hNτ.1, show t = 240 by omega, jr_wr (by omega)]
      refine jn_ite (fun _ => jc_X4_numberOf h0 (by omega) (by rw [hBτ.1.1.1.2.2.2.1]; omega) ?_) (fun h => by omega)
      rw [hBτ.1.1.1.2.2.2.1, hBτ.1.1.1.1]
      have hnum := hNτ.2.1 (g 0 3).toNat (by omega)
      have hnl := jn_nu_lt (S := S) (m := (g 0 3).toNat) (by omega)
      rw [show (((g 0 3).toNat : Nat) : Int) = 0 * 5 + g 0 3 by omega] at hnum
      rw [show (if ((0 : Int) ≤ 0 ∧ (0 : Int) < 48) ∧ 0 ≤ g 0 3 ∧ g 0 3 < 5 then τ.1 (A + 3) (0 * 5 + g 0 3) else -1) = τ.1 (A + 3) (0 * 5 + g 0 3) from if_pos ⟨by omega, by omega, by omega⟩]
      by_cases hv : jn_mv S (g 0 3).toNat = true
      · rw [if_pos ⟨by omega, hv⟩] at hnum
        rw [hnum, jr_wr (by omega)]
        refine jn_ite (fun h => by omega) (fun _ => jn_ite (fun h => by omega) (fun _ => ⟨by omega, by omega, ?_⟩))
        rintro _ rfl
        have htl : jn_tk g S (jn_qm S (g 0 3).toNat) < 256 := jn_tk_lt
        rw [hA _ (by omega) hv, hpl.2, jb_or (by omega) (by omega)]
        refine hout _ 0 _ _ _ _ (jn_ab g S) rfl (by omega) (by omega) (jF_tr hFτ (jF_I rfl)) (fun m hm hvm => ?_) (jn_mA_0 hW)
        unfold jn_ab
        by_cases hms : m = (g 0 3).toNat
        · rw [if_pos (by omega), hms, js_Is]
        · rw [if_neg (by omega), Nat.or_zero, js_In (Or.inr (fun q => hms (jn_ct_inj hvm hv (by unfold jn_nu at q; omega))))]
          exact hA m (by omega) hvm
      · rw [if_neg (fun q => hv q.2)] at hnum
        rw [hnum, show jg_wr (-1) = -1 from rfl]
        refine jn_ite (fun _ => hout _ 0 _ _ _ τ (jn_ab g S) rfl (by omega) (by omega) hFτ (fun m hm hvm => ?_) (jn_mA_0 hW)) (fun h => by omega)
        have hms : m ≠ (g 0 3).toNat := fun q => hv (q ▸ hvm)
        unfold jn_ab
        rw [if_neg (by omega), Nat.or_zero]
        exact hA m (by omega) hvm
    | succ n ih =>
      intro t u3 u4 u5 u6 τ ht hFτ hA
      obtain ⟨hBτ, hNτ, hRτ⟩ := hBt τ hFτ
      by_cases hv : jn_mv S t = true
      · have hn1 : jn_nu S (t + 1) = jn_nu S t + 1 := jn_ct_t hv
        have hn2 : jn_nu S t < jn_nu S 240 := jn_ct_lt hv (by omega)
        refine jb_X4_settleAfters_2 h0 h1 ?_
        rw [hNτ.1, jr_wr (show jr ((jn_nu S t : Nat) : Int) by omega), jr_wr (show jr ((jn_nu S 240 : Nat) : Int) by omega)]
        refine jn_ite (fun h => by omega) (fun _ => jc_X4_tokensFrom h0 h1 h2 hW hBτ hF hNτ (by omega) hv ⟨by omega, ?_⟩)
        rintro _ rfl
        rw [show ((jn_nu S t : Nat) : Int) + 1 = ((jn_nu S (t + 1) : Nat) : Int) by omega]
        refine ih (t + 1) u3 u4 u5 u6 _ (by omega) (jF_tr hFτ (jF_I rfl)) (fun m hm hvm => ?_)
        by_cases hmt : m = t
        · rw [hmt, js_Is]
        · rw [js_In (Or.inr (fun q => hmt (jn_ct_inj hvm hv (by unfold jn_nu at q; omega))))]
          exact hA m (by omega) hvm
      · have hn1 : jn_nu S (t + 1) = jn_nu S t := jn_ct_f hv
        rw [← hn1]
        exact ih (t + 1) u3 u4 u5 u6 τ (by omega) hFτ (fun m hm hvm => hA m (by
          have : m ≠ t := fun q => hv (q ▸ hvm)
          omega) hvm)
  exact jb_X4_settleAfters_0 h0 h1 (hfirst 240 0 _ _ _ _ σ rfl jF_rf (fun m hm => by omega))
end JAG
