/-! ASK, in the class -/
section KQB
variable {w : Nat} {σ τ : jg_M} {T a n d : Nat} {g : gM} {N : kn_N} {K : kr_K} {B : Int → Nat → Prop} {x l i p : Int} {KV : jg_M → Prop} {KI : Int → jg_M → Prop}
theorem kp_S_at (ha : g 0 0 ≤ 7) (hn : n ≤ 4) (hd : d < 7 ^ n) : kp_S g 0 0 K (jg_pl (n : Int) + (d : Int)) ↔ (∀ k, k < n → kr_dg 7 n d k < (g 0 0).toNat) ∧ kr_sK g (fun k => ((kr_dg 7 n d k : Nat) : Int)) n K = true := by
  constructor
  · rintro ⟨j, e, ⟨h1, h2⟩, h3, h4, h5⟩
    rw [Nat.zero_add, Nat.zero_mul, Nat.zero_add] at h5
    obtain ⟨q1, q2⟩ := kp_pl_inj (by omega) hn h2 hd h5.symm
    subst q1
    subst q2
    exact ⟨h3, h4⟩
  · rintro ⟨h1, h2⟩
    exact ⟨n, d, ⟨by omega, hd⟩, h1, h2, by rw [Nat.zero_add, Nat.zero_mul, Nat.zero_add]⟩
/-- a place of a row of these TOKENS -/
theorem kq_worst (hW : jn_GW g) (h0 : 0 < g 0 0) (hn : 1 ≤ n ∧ n ≤ 3) (hLC : kp_LC σ g) {code : Nat} (hc : code < (g 0 0).toNat ^ n) (hk : KI (kq_w g N n code : Nat) σ) : jg_CI w 1 mm_X10_leftAtWorst [.ref 78, .int (.ofInt (jg_pl (n : Int) + (kq_c (g 0 0).toNat 7 n code : Nat))), .int (.ofInt (jn_mk (kp_mi g N) 12 : Nat))] σ KI := by
  have hw := hW.1
  have hok := kq_ok_of (b := (g 0 0).toNat) (by omega) hc
  have hlt := kq_c_lt (b' := 7) (a := (g 0 0).toNat) (by omega) hok
  have hpl := kp_pl_lt (l := n) (by omega)
  have h12 : (2 : Nat) ^ 12 = 4096 := rfl
  have hlt1 : jn_mk (kp_mi g N) 12 < 2 ^ 12 := jn_mk_lt
  have hlt2 : jn_mk (kp_B g (jg_pl (n : Int) + (kq_c (g 0 0).toNat 7 n code : Nat))) 12 < 2 ^ 12 := jn_mk_lt
  refine jb_X10_leftAtWorst_0 rfl (jc_withoutsAt hLC.2 ⟨by omega, by omega⟩ ?_)
  rw [jb_and (by omega) (by omega)]
  have hand : jn_mk (kp_B g (jg_pl (n : Int) + (kq_c (g 0 0).toNat 7 n code : Nat))) 12 &&& jn_mk (kp_mi g N) 12 < 4096 := Nat.lt_of_le_of_lt Nat.and_le_left (by omega)
  have e1 : jn_ct (jn_mk (kp_B g (jg_pl (n : Int) + (kq_c (g 0 0).toNat 7 n code : Nat))) 12 &&& jn_mk (kp_mi g N) 12).testBit 12 = jn_ct (kq_y g N n code) 12 := by
    refine jn_ct_eq (fun r hr => ?_)
    rw [Nat.testBit_and, Bool.and_eq_true, jn_mk_bit, jn_mk_bit]
    rw [kq_y_iff]
    have o0 : kp_o g (r : Int) 0 0 = g 0 0 := kp_o_0 (by decide)
    have hdg := kq_dg_c (b' := 7) (a := (g 0 0).toNat) (by omega) hok
    have hdl : ∀ k, k < n → kr_dg 7 n (kq_c (g 0 0).toNat 7 n code) k < (g 0 0).toNat := fun k hk => by rw [hdg k hk]; exact kr_dg_lt (by omega)
    have hS := kp_S_at (g := kp_o g (r : Int)) (K := kr_I (kp_o g (r : Int))) (n := n) (d := kq_c (g 0 0).toNat 7 n code) (by rw [o0]; omega) (by omega) hlt
    rw [o0] at hS
    have hsK : kr_sK (kp_o g (r : Int)) (fun k => ((kr_dg 7 n (kq_c (g 0 0).toNat 7 n code) k : Nat) : Int)) n (kr_I (kp_o g (r : Int))) = kr_se (kp_o g (r : Int)) (fun k => ((kr_dg (g 0 0).toNat n code k : Nat) : Int)) n := kr_sK_cg (fun i hi => by rw [hdg i hi])
    rw [hsK] at hS
    constructor
    · rintro ⟨⟨_, q1⟩, _, q2⟩
      exact ⟨q2, (hS.mp q1.2).2⟩
    · rintro ⟨q1, q2⟩
      exact ⟨⟨hr, q1.1, hS.mpr ⟨hdl, q2⟩⟩, hr, q1⟩
  have e2 : jn_ct (jn_mk (kp_mi g N) 12).testBit 12 = jn_ct (kq_m g N) 12 := by
    refine jn_ct_eq (fun r hr => ?_)
    rw [jn_mk_bit]
    rw [kq_m_iff]
    exact ⟨fun q => q.2, fun q => ⟨hr, q⟩⟩
  refine jc_bitCount hand (jc_bitCount (by omega) ?_)
  rw [e1, e2]
  have hle := kq_y_le (g := g) (N := N) (n := n) (c := code) (m := 12)
  have hl12 := jn_ct_le (p := kq_m g N) (n := 12)
  rw [jr_wr (show jr ((jn_ct (kq_y g N n code) 12 : Nat) : Int) by omega), jr_wr (show jr (((jn_ct (kq_m g N) 12 : Nat) : Int) - ((jn_ct (kq_y g N n code) 12 : Nat) : Int)) by omega)]
  have e3 : (if ((jn_ct (kq_y g N n code) 12 : Nat) : Int) < ((jn_ct (kq_m g N) 12 : Nat) : Int) - ((jn_ct (kq_y g N n code) 12 : Nat) : Int) then ((jn_ct (kq_m g N) 12 : Nat) : Int) - ((jn_ct (kq_y g N n code) 12 : Nat) : Int) else ((jn_ct (kq_y g N n code) 12 : Nat) : Int)) = ((kq_w g N n code : Nat) : Int) := by
    unfold kq_w
    split <;> split <;> omega
  rw [e3]
  exact hk
theorem jc_numberOf {l : Nat} (hn : l ≤ 4) (hd : d < 7 ^ l) (hk : KI (kq_c 7 10 l d : Nat) σ) : jg_CI w 0 mm_X10_numberOf [.int (.ofInt (jg_pl (l : Int) + (d : Int))), .int (.ofInt (l : Int))] σ KI := by
  refine jb_X10_numberOf_0 ?_
  have h7 : 7 ^ l ≤ 2401 := Nat.le_trans (Nat.pow_le_pow_right (by decide) hn) (by decide)
  rw [jr_wr (show jr (l : Int) by omega)]
  refine jn_ite (fun h => by omega) (fun _ => jn_ite (fun _ => ⟨by omega, ?_⟩) (fun h => by omega))
  rintro _ rfl
  have hloop : ∀ (m k p c wt : Nat) (u0 : Value), k + m = l → c < 2147483648 → wt ≤ 10 ^ k → p ≤ 10 ^ k → KI ((p + wt * kq_c 7 10 m c : Nat) : Int) σ →
      jg_GI w 0 mm_X10_numberOf 27 [u0, .int (.ofInt (l : Int)), .int (.ofInt (c : Int)), .int (.ofInt (p : Int)), .int (.ofInt (wt : Int)), .int (.ofInt (k : Int))] σ KI := by
    intro m
    induction m with
    | zero =>
      intro k p c wt u0 hkm hc hwt hp f1
      refine jb_X10_numberOf_27 ?_
      rw [jr_wr (show jr (l : Int) by omega), jr_wr (show jr (k : Int) by omega)]
      refine jn_ite (fun _ => f1) (fun h => by omega)
    | succ m ih =>
      intro k p c wt u0 hkm hc hwt hp f1
      refine jb_X10_numberOf_27 ?_
      have hdv : jg_div (c : Int) 7 = ((c / 7 : Nat) : Int) := by rw [jb_div (by omega) (by decide)]; omega
      have hr : jg_rem (c : Int) 7 = ((c % 7 : Nat) : Int) := by rw [jb_rem (by omega) (by decide)]; omega
      have h10 : 10 ^ (k + 1) = 10 ^ k * 10 := Nat.pow_succ 10 k
      rw [jr_wr (show jr (l : Int) by omega), jr_wr (show jr (k : Int) by omega), hdv, hr]
      refine jn_ite (fun h => by omega) (fun _ => ?_)
      rintro _ rfl _ rfl _ rfl
      have hmul : c % 7 * wt ≤ 6 * 10 ^ k := Nat.mul_le_mul (by omega) hwt
      have key := ih (k + 1) (p + c % 7 * wt) (c / 7) (wt * 10) u0 (by omega) (by omega) (by omega) (by omega) (by
        rw [show p + c % 7 * wt + wt * 10 * kq_c 7 10 m (c / 7) = p + wt * kq_c 7 10 (m + 1) c by
          show _ = p + wt * (c % 7 + 10 * kq_c 7 10 m (c / 7))
          rw [Nat.mul_add, Nat.mul_comm wt (c % 7), ← Nat.mul_assoc, Nat.add_assoc]]
        exact f1)
      rw [show ((p + c % 7 * wt : Nat) : Int) = (p : Int) + ((c % 7 : Nat) : Int) * (wt : Int) by rw [Int.natCast_add, Int.natCast_mul], show ((wt * 10 : Nat) : Int) = (wt : Int) * 10 by omega, show ((k + 1 : Nat) : Int) = (k : Int) + 1 by omega] at key
      exact key
  have key := hloop l 0 0 d 1 (.int (.ofInt (jg_pl (l : Int) + (d : Int)))) (by omega) (by omega) (Nat.le_refl _) (by omega) (by
    rw [Nat.zero_add, Nat.one_mul]; exact hk)
  rw [show jg_pl (l : Int) + (d : Int) - jg_pl (l : Int) = (d : Int) by omega]
  exact key
theorem jc_bestQuestion (hW : jn_GW g) (h0 : 0 < g 0 0) (hn : 1 ≤ n ∧ n ≤ 3) (hLC : kp_LC σ g) (hk : KI (jg_pl (n : Int) + (kq_c (g 0 0).toNat 7 n (kq_best g N n) : Nat)) σ) : jg_CI w 2 mm_X10_bestQuestion [.ref 78, .int (.ofInt (n : Int)), .int (.ofInt (g 0 0)), .int (.ofInt (jn_mk (kp_mi g N) 12 : Nat))] σ KI := by
  have hw := hW.1
  have ha : 0 < (g 0 0).toNat := by omega
  have hga : g 0 0 = (((g 0 0).toNat : Nat) : Int) := by omega
  have hpl := kp_pl_lt (l := n) (by omega)
  have hpl1 : jg_pl (((n : Nat) : Int) + 1) = jg_pl (n : Int) + ((7 ^ n : Nat) : Int) := by
    rcases (by omega : n = 1 ∨ n = 2 ∨ n = 3) with q | q | q <;> subst q <;> decide
  have hA : (g 0 0).toNat ^ n ≤ 343 := kq_pow_lt (by omega) hn.2
  have hApos : 0 < (g 0 0).toNat ^ n := Nat.pow_pos ha
  refine jb_X10_bestQuestion_0 rfl ?_
  rw [jr_wr (show jr (n : Int) by omega)]
  refine jn_ite (fun h => by omega) (fun _ => jn_ite (fun _ => ⟨by omega, ?_⟩) (fun h => by omega))
  rintro _ rfl
  have hloop : ∀ (m d c : Nat), d + m = 7 ^ n → c ≤ (g 0 0).toNat ^ n → (∀ c', c' < c → kq_c (g 0 0).toNat 7 n c' < d) → (c < (g 0 0).toNat ^ n → d ≤ kq_c (g 0 0).toNat 7 n c) →
      jg_GI w 2 mm_X10_bestQuestion 23 [.ref 78, .int (.ofInt (n : Int)), .int (.ofInt (g 0 0)), .int (.ofInt (jn_mk (kp_mi g N) 12 : Nat)), .int (.ofInt (jg_pl (n : Int) + (kq_c (g 0 0).toNat 7 n (kq_b (kq_w g N n) c) : Nat))), .int (.ofInt (jg_pl (n : Int) + (d : Int)))] σ KI := by
    intro m
    induction m with
    | zero =>
      intro d c hdm hc hlo hhi
      refine jb_X10_bestQuestion_23 rfl ?_
      rw [jr_wr (show jr ((n : Int) + 1) by omega), hpl1, jr_wr (show jr (jg_pl (n : Int) + ((7 ^ n : Nat) : Int)) by omega), jr_wr (show jr (jg_pl (n : Int) + (d : Int)) by omega)]
      refine ⟨by omega, jn_ite (fun _ => ?_) (fun h => by omega)⟩
      have hce : c = (g 0 0).toNat ^ n := by
        rcases Nat.lt_or_ge c ((g 0 0).toNat ^ n) with q | q
        · have h1 := hhi q
          have h2 := kq_c_lt (b' := 7) (a := (g 0 0).toNat) (by omega) (kq_ok_of ha q)
          omega
        · omega
      rw [hce]
      exact hk
    | succ m ih =>
      intro d c hdm hc hlo hhi
      have hd7 : d < 7 ^ n := by omega
      have h7n : 7 ^ n ≤ 343 := kq_pow_lt (Nat.le_refl 7) hn.2
      refine jb_X10_bestQuestion_23 rfl ?_
      rw [jr_wr (show jr ((n : Int) + 1) by omega), hpl1, jr_wr (show jr (jg_pl (n : Int) + ((7 ^ n : Nat) : Int)) by omega), jr_wr (show jr (jg_pl (n : Int) + (d : Int)) by omega)]
      refine ⟨by omega, jn_ite (fun h => by omega) (fun _ => jc_numberOf (by omega) hd7 ?_)⟩
      have h77 := kq_ok_of (b := 7) (by decide) hd7
      have hnlt : kq_c 7 10 n d < 10 ^ n := kq_c_lt (b' := 10) (a := 7) (by decide) h77
      have h10n : 10 ^ n ≤ 1000 := Nat.le_trans (Nat.pow_le_pow_right (by decide) hn.2) (by decide)
      have hokd : kp_ok (g 0 0).toNat n (kq_c 7 10 n d) ↔ kq_ok 7 (g 0 0).toNat n d := kq_ok10.trans (kq_ok_c (by decide) (by decide) hd7)
      have hplv : kp_pl (n : Int) (kq_c 7 10 n d : Nat) = jg_pl (n : Int) + (d : Int) := by
        unfold kp_pl
        rw [Int.toNat_natCast, Int.toNat_natCast, kq_7c, kq_inv (a := 7) (by decide) h77]
      have hpo : ∀ KI2 : Int → jg_M → Prop, (¬ kq_ok 7 (g 0 0).toNat n d → KI2 (-1) σ) → (kq_ok 7 (g 0 0).toNat n d → KI2 (jg_pl (n : Int) + (d : Int)) σ) → jg_CI w 0 mm_X10_placeOf [.int (.ofInt (n : Int)), .int (.ofInt (kq_c 7 10 n d : Nat)), .int (.ofInt (g 0 0))] σ KI2 := fun KI2 f0 f1 => by
        rw [hga]
        refine jc_placeOf (by omega) (by omega) (by omega) (fun hno => f0 (fun q => hno ⟨by omega, by omega, ?_⟩)) (fun hyes => ?_)
        · rw [Int.toNat_natCast, Int.toNat_natCast]; exact hokd.mpr q
        · rw [hplv]
          refine f1 (hokd.mp ?_)
          have := hyes.2.2
          rw [Int.toNat_natCast, Int.toNat_natCast] at this
          exact this
      refine hpo _ (fun hno => ?_) (fun hyes => ?_)
      · have hne : c < (g 0 0).toNat ^ n → d ≠ kq_c (g 0 0).toNat 7 n c := fun hc' he => hno (by
          rw [he]
          exact kq_okc (by omega) (kq_ok_of ha hc'))
        have key := ih (d + 1) c (by omega) hc (fun c' h => Nat.lt_succ_of_lt (hlo c' h)) (fun h => by have h1 := hhi h; have h2 := hne h; omega)
        rw [show jg_pl (n : Int) + ((d + 1 : Nat) : Int) = jg_pl (n : Int) + (d : Int) + 1 by omega] at key
        refine jn_ite (fun h => ?_) (fun _ => key)
        have h' : jg_wr (-1) = jg_pl (n : Int) + (d : Int) := h
        have : jg_wr (-1) = -1 := rfl
        omega
      · have hcode : kq_c 7 (g 0 0).toNat n d < (g 0 0).toNat ^ n := kq_c_lt (Nat.le_refl _) hyes
        have hdc : kq_c (g 0 0).toNat 7 n (kq_c 7 (g 0 0).toNat n d) = d := kq_inv (Nat.le_refl _) hyes
        have hcc : c = kq_c 7 (g 0 0).toNat n d := by
          generalize hcd : kq_c 7 (g 0 0).toNat n d = cd at *
          rcases Nat.lt_trichotomy c cd with q | q | q
          · have h1 := kq_mono (b' := 7) (a := (g 0 0).toNat) (by omega) ha (kq_ok_of ha (show c < _ by omega)) (kq_ok_of ha hcode) q
            have h2 := hhi (by omega)
            omega
          · exact q
          · have := hlo cd q
            omega
        have hdc' : kq_c (g 0 0).toNat 7 n c = d := by rw [hcc]; exact hdc
        have hclt : c < (g 0 0).toNat ^ n := by rw [hcc]; exact hcode
        have hnext : c + 1 < (g 0 0).toNat ^ n → d + 1 ≤ kq_c (g 0 0).toNat 7 n (c + 1) := fun h => by
          have := kq_mono (b' := 7) (a := (g 0 0).toNat) (by omega) ha (kq_ok_of ha hclt) (kq_ok_of ha h) (Nat.lt_succ_self c)
          omega
        have hlo' : ∀ c', c' < c + 1 → kq_c (g 0 0).toNat 7 n c' < d + 1 := fun c' h => by
          rcases Nat.lt_or_ge c' c with q | q
          · exact Nat.lt_succ_of_lt (hlo c' q)
          · have : c' = c := by omega
            rw [this, hdc']; exact Nat.lt_succ_self d
        have key := ih (d + 1) (c + 1) (by omega) hclt hlo' hnext
        rw [show jg_pl (n : Int) + ((d + 1 : Nat) : Int) = jg_pl (n : Int) + (d : Int) + 1 by omega] at key
        have hbl : kq_b (kq_w g N n) c < (g 0 0).toNat ^ n := by
          rcases Nat.eq_zero_or_pos c with q | q
          · rw [q]; exact hApos
          · have := kq_b_lt (f := kq_w g N n) q
            omega
        have hkb : kq_b (kq_w g N n) (c + 1) = if kq_w g N n c < kq_w g N n (kq_b (kq_w g N n) c) then c else kq_b (kq_w g N n) c := rfl
        have hwl : ∀ z, kq_w g N n z ≤ 12 := fun z => by
          have h1 := jn_ct_le (p := kq_m g N) (n := 12)
          have h2 := jn_ct_le (p := kq_y g N n z) (n := 12)
          unfold kq_w
          split <;> omega
        rw [jr_wr (show jr (jg_pl (n : Int) + (d : Int)) by omega)]
        refine jn_ite (fun _ => ?_) (fun h => absurd rfl h)
        have hwd := kq_worst (w := w) (N := N) hW h0 hn hLC (KI := fun (z106 : Int) (m105 : jg_M) => jg_CI w 1 mm_X10_leftAtWorst [.ref 78, .int (.ofInt (jg_pl (n : Int) + (kq_c (g 0 0).toNat 7 n (kq_b (kq_w g N n) c) : Nat))), .int (.ofInt (jn_mk (kp_mi g N) 12 : Nat))] m105 (fun (z108 : Int) (m107 : jg_M) => (if jg_wr z108 ≤ jg_wr z106 then jg_GI w 2 mm_X10_bestQuestion 23 [.ref 78, .int (.ofInt (n : Int)), .int (.ofInt (g 0 0)), .int (.ofInt (jn_mk (kp_mi g N) 12 : Nat)), .int (.ofInt (jg_pl (n : Int) + (kq_c (g 0 0).toNat 7 n (kq_b (kq_w g N n) c) : Nat))), .int (.ofInt (jg_pl (n : Int) + (d : Int) + 1))] m107 KI else jg_GI w 2 mm_X10_bestQuestion 23 [.ref 78, .int (.ofInt (n : Int)), .int (.ofInt (g 0 0)), .int (.ofInt (jn_mk (kp_mi g N) 12 : Nat)), .int (.ofInt (jg_pl (n : Int) + (d : Int))), .int (.ofInt (jg_pl (n : Int) + (d : Int) + 1))] m107 KI))) hclt ?_
        · rw [hdc'] at hwd
          exact hwd
        · refine kq_worst hW h0 hn hLC hbl ?_
          have l1 := hwl c
          have l2 := hwl (kq_b (kq_w g N n) c)
          rw [jr_wr (show jr ((kq_w g N n c : Nat) : Int) by omega), jr_wr (show jr ((kq_w g N n (kq_b (kq_w g N n) c) : Nat) : Int) by omega)]
          refine jn_ite (fun hle => ?_) (fun hgt => ?_)
          · rw [hkb, if_neg (by omega)] at key
            exact key
          · rw [hkb, if_pos (by omega), hdc'] at key
            exact key
  have key := hloop (7 ^ n) 0 0 (by omega) (Nat.zero_le _) (fun c' h => absurd h (Nat.not_lt_zero c')) (fun _ => Nat.zero_le _)
  have hz : kq_c (g 0 0).toNat 7 n (kq_b (kq_w g N n) 0) = 0 := by
    show kq_c (g 0 0).toNat 7 n 0 = 0
    have : ∀ n, kq_c (g 0 0).toNat 7 n 0 = 0 := fun n => by
      induction n with
      | zero => rfl
      | succ n ih =>
        show 0 % (g 0 0).toNat + 7 * kq_c (g 0 0).toNat 7 n (0 / (g 0 0).toNat) = 0
        rw [Nat.zero_mod, Nat.zero_div, ih]
    exact this n
  rw [hz, show jg_pl (n : Int) + ((0 : Nat) : Int) = jg_pl (n : Int) by omega] at key
  exact key
theorem jc_ask {n : Int} (h : ku_CG σ T g) (hL : σ.1 78 0 = 0 ∨ (σ.1 78 0 = 1 ∧ kp_LC σ g)) (hN : kn_C kp_pl σ N) (hP : kp_N g N) (hl : kn_lt N 0) (hn : jr n) (hx : jr x) (hk : ∀ τ, jF (kW_ln (30 - T)) σ τ → ((τ.1 78 0 = σ.1 78 0 ∧ τ = σ) ∨ (τ.1 78 0 = 1 ∧ kp_LC τ g)) → KI (kv_ask g N n x) τ) : jg_CI w 14 mm_X11_ask [.ref 0, .int (.ofInt n), .int (.ofInt x)] σ KI := by
  have hT := h.1.1
  have sh := ku_sh hT
  have sh' := ku_sh (T := 30 - T) (by omega)
  have hW := h.2.1.1.1.1
  have hw := hW.1
  have hs := hk σ jF_rf (Or.inl ⟨rfl, rfl⟩)
  refine jb_X11_ask_0 rfl ?_
  rw [jr_wr hn, jr_wr hx]
  have hno : ¬ ((1 ≤ n ∧ n ≤ 3) ∧ 0 ≤ x ∧ x ≤ 1) → KI (-1) σ := fun q => by
    unfold kv_ask at hs
    rw [if_neg q] at hs
    exact hs
  refine jn_ite (fun q => hno (by omega)) (fun _ => jn_ite (fun q => hno (by omega)) (fun _ => jn_ite (fun q => hno (by omega)) (fun _ => jn_ite (fun _ => ?_) (fun q => hno (by omega)))))
  have hin : (1 ≤ n ∧ n ≤ 3) ∧ 0 ≤ x ∧ x ≤ 1 := by omega
  rw [h.1.2.1, h.1.2.2]
  intro r1 e1
  rw [show r1 = T by omega]
  refine ⟨sh.1, ?_⟩
  rw [show σ.1 (T + 1) 0 = g 0 0 from h.2.1.2.1.1]
  rintro _ rfl
  rw [jr_wr (show jr (g 0 0) by omega)]
  refine jn_ite (fun hz => ?_) (fun hnz => ?_)
  · unfold kv_ask at hs
    rw [if_pos hin, if_pos hz] at hs
    exact hs
  intro r3 e3
  rw [show r3 = T by omega]
  refine ⟨sh.1, ?_⟩
  intro r2 e2
  rw [show r2 = 30 - T by omega]
  refine ⟨sh'.1, jc_learn h (by omega) hL (fun τ hf v0 hLC => ?_)⟩
  have hNτ : kn_C kp_pl τ N := by
    obtain ⟨⟨a1, a2⟩, ⟨b1, b2, b3⟩, cc⟩ := hN
    exact ⟨⟨(hf.1 _ _ (by unfold kW_ln; omega)).trans a1, a2⟩, ⟨(hf.1 _ _ (by unfold kW_ln; omega)).trans b1, b2, b3⟩, fun i hi => ⟨fun q => ⟨(hf.1 _ _ (by unfold kW_ln; omega)).trans ((cc i hi).1 q).1, (hf.1 _ _ (by unfold kW_ln; omega)).trans ((cc i hi).1 q).2⟩, fun q => ⟨(hf.1 _ _ (by unfold kW_ln; omega)).trans ((cc i hi).2 q).1, (hf.1 _ _ (by unfold kW_ln; omega)).trans ((cc i hi).2 q).2.1, (hf.1 _ _ (by unfold kW_ln; omega)).trans ((cc i hi).2 q).2.2⟩⟩⟩
  have hend := hk τ hf (Or.inr ⟨v0, hLC⟩)
  unfold kv_ask at hend
  rw [if_pos hin, if_neg hnz] at hend
  refine jc_missingBy hNτ hP hl hW hLC ?_
  have hnn : ((n.toNat : Nat) : Int) = n := by omega
  have hbest : kq_best g N n.toNat < (g 0 0).toNat ^ n.toNat := kq_b_lt (Nat.pow_pos (by omega))
  have hbq := jc_bestQuestion (w := w) (σ := τ) (g := g) (N := N) (n := n.toNat) (KI := fun (z109 : Int) (m108 : jg_M) => (if x = 1 then jg_CI w 1 mm_X10_leftAtWorst [.ref 78, .int (.ofInt z109), .int (.ofInt (jn_mk (kp_mi g N) 12 : Nat))] m108 (fun (z111 : Int) (m110 : jg_M) => KI z111 m110) else jg_CI w 0 mm_X10_numberOf [.int (.ofInt z109), .int (.ofInt n)] m108 (fun (z113 : Int) (m112 : jg_M) => KI z113 m112))) hW (by omega) (by omega) hLC ?_
  · rw [hnn] at hbq
    exact hbq
  · refine jn_ite (fun h1 => ?_) (fun h1 => ?_)
    · rw [if_pos h1] at hend
      exact kq_worst hW (by omega) (by omega) hLC hbest hend
    · rw [if_neg h1] at hend
      have hok := kq_ok_of (b := (g 0 0).toNat) (by omega) hbest
      have hnum := jc_numberOf (w := w) (σ := τ) (l := n.toNat) (d := kq_c (g 0 0).toNat 7 n.toNat (kq_best g N n.toNat)) (KI := fun z m => KI z m) (by omega) (kq_c_lt (by omega) hok) (by
        rw [kq_cc (a := (g 0 0).toNat) (by omega) hok]
        exact hend)
      rw [hnn] at hnum ⊢
      exact hnum
end KQB
