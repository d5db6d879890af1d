/-! MISSING, in both -/
/-- the RULE is one of those that are MISSING -/
def kp_mi (g : gM) (N : kn_N) (r : Nat) : Prop := kp_may g r ∧ ∀ i, kn_is N i → (kr_se (kp_o g (r : Int)) (fun k => ((kr_dg 10 (N.2 i).1.toNat (N.2 i).2.1.toNat k : Nat) : Int)) (N.2 i).1.toNat = true ↔ (N.2 i).2.2 = 1)
section KPD
variable {w : Nat} {σ τ : jg_M} {G T T' n c a m : Nat} {g : gM} {N : kn_N} {K K' : kr_K} {B : Int → Nat → Prop} {x l i p : Int} {KV : jg_M → Prop} {KI : Int → jg_M → Prop}
theorem jb_andx {m n c : Nat} (hm : m < 2147483648) (hn : n < 2147483648) (hc : ∀ i, c.testBit i = (m.testBit i && !n.testBit i)) : jg_and m (jg_xor n (-1)) = (c : Int) := by
  have hlow : ∀ (k i : Nat), k < 2147483648 → 31 ≤ i → k.testBit i = false := fun k i hk hi => Nat.testBit_lt_two_pow (Nat.lt_of_lt_of_le (show k < 2 ^ 31 by omega) (Nat.pow_le_pow_right (by omega) (by omega)))
  have hc31 : c < 2147483648 := Nat.lt_pow_two_of_testBit c (n := 31) (fun i hi => by rw [hc i, hlow m i hm hi]; rfl)
  have hbit : ∀ (k i : Nat), k < 2147483648 → (Int32.ofInt (k : Int)).toBitVec.getLsbD i = k.testBit i := fun k i hk => by
    rw [← BitVec.testBit_toNat, jb_nI (by omega)]
  have hall : (Int32.ofInt (-1)).toBitVec = BitVec.allOnes 32 := by decide
  refine jb_toI ?_ hc31
  unfold jg_xor
  rw [Int32.ofInt_toInt]
  show ((Int32.ofInt (m : Int)).toBitVec &&& ((Int32.ofInt (n : Int)).toBitVec ^^^ (Int32.ofInt (-1)).toBitVec)).toNat = c
  rw [hall]
  apply Nat.eq_of_testBit_eq
  intro i
  rw [BitVec.testBit_toNat, hc i]
  by_cases hi : i < 32
  · simp only [BitVec.getLsbD_and, BitVec.getLsbD_xor, BitVec.getLsbD_allOnes, hbit m i hm, hbit n i hn, decide_eq_true hi]
    cases m.testBit i <;> cases n.testBit i <;> rfl
  · rw [BitVec.getLsbD_of_ge _ _ (by omega), hlow m i hm (by omega)]
    rfl
/-- digits by ten and by seven are the same -/
theorem kp_7_dg (ha : a ≤ 7) : ∀ {n c : Nat}, kp_ok a n c → ∀ k, k < n → kr_dg 7 n (kp_7 n c) k = kr_dg 10 n c k
  | 0, _, _, k, hk => absurd hk (Nat.not_lt_zero k)
  | n + 1, c, h, k, hk => by
    have h0 := h.1
    have e : kp_7 (n + 1) c = 7 * kp_7 n (c / 10) + c % 10 := Nat.add_comm _ _
    by_cases hkn : k = n
    · subst hkn
      rw [e, kr_dg_end (show c % 10 < 7 by omega), kp_dg_low]
    · rw [e, kr_dg_up (show c % 10 < 7 by omega) (by omega), kp_dg_up (by omega)]
      exact kp_7_dg ha h.2 k (by omega)
theorem kp_pl_inj {j l e f : Nat} (hj : j ≤ 4) (hl : l ≤ 4) (he : e < 7 ^ j) (hf : f < 7 ^ l) (h : jg_pl (j : Int) + (e : Int) = jg_pl (l : Int) + (f : Int)) : j = l ∧ e = f := by
  have v0 : jg_pl ((0 : Nat) : Int) = 0 := rfl
  have v1 : jg_pl ((1 : Nat) : Int) = 1 := rfl
  have v2 : jg_pl ((2 : Nat) : Int) = 8 := rfl
  have v3 : jg_pl ((3 : Nat) : Int) = 57 := rfl
  have v4 : jg_pl ((4 : Nat) : Int) = 400 := rfl
  have p0 : 7 ^ 0 = 1 := rfl
  have p1 : 7 ^ 1 = 7 := rfl
  have p2 : 7 ^ 2 = 49 := rfl
  have p3 : 7 ^ 3 = 343 := rfl
  have p4 : 7 ^ 4 = 2401 := rfl
  rcases (by omega : j = 0 ∨ j = 1 ∨ j = 2 ∨ j = 3 ∨ j = 4) with q | q | q | q | q <;> subst q <;> rcases (by omega : l = 0 ∨ l = 1 ∨ l = 2 ∨ l = 3 ∨ l = 4) with q | q | q | q | q <;> subst q <;> omega
theorem kp_S_row (ha : g 0 0 ≤ 7) (h : kp_row g l x) : kp_S g 0 0 K (kp_pl l x) ↔ kr_sK g (fun k => ((kr_dg 10 l.toNat x.toNat k : Nat) : Int)) l.toNat K = true := by
  have hl := h.1
  have hok := h.2.2
  have h7 := kp_7_lt (a := (g 0 0).toNat) (by omega) hok
  have hdg := kp_7_dg (a := (g 0 0).toNat) (by omega) hok
  have hpe : kp_pl l x = jg_pl ((l.toNat : Nat) : Int) + (kp_7 l.toNat x.toNat : Nat) := by unfold kp_pl; rw [show ((l.toNat : Nat) : Int) = l by omega]
  constructor
  · rintro ⟨j, e, ⟨h1, h2⟩, h3, h4, h5⟩
    rw [Nat.zero_add, Nat.zero_mul, Nat.zero_add, hpe] at h5
    obtain ⟨q1, q2⟩ := kp_pl_inj (by omega) (by omega) h2 h7 h5.symm
    subst q1
    subst q2
    rw [kr_sK_cg (gv' := fun k => ((kr_dg 7 l.toNat (kp_7 l.toNat x.toNat) k : Nat) : Int)) (fun i hi => by rw [hdg i hi])]
    exact h4
  · intro hs
    refine ⟨l.toNat, kp_7 l.toNat x.toNat, ⟨by omega, h7⟩, fun k hk => ?_, ?_, ?_⟩
    · rw [hdg k hk]
      exact (kp_ok_iff.mp hok).2 k hk
    · rw [kr_sK_cg (gv' := fun k => ((kr_dg 10 l.toNat x.toNat k : Nat) : Int)) (fun i hi => by rw [hdg i hi])]
      exact hs
    · rw [Nat.zero_add, Nat.zero_mul, Nat.zero_add]; exact hpe
/-- what the desk has marked is what is asked of the RULE -/
theorem kp_B_row {r : Nat} (hW : jn_GW g) (h : kp_row g l x) (hm : kp_may g r) : kp_B g (kp_pl l x) r ↔ kr_se (kp_o g (r : Int)) (fun k => ((kr_dg 10 l.toNat x.toNat k : Nat) : Int)) l.toNat = true := by
  have hw := hW.1
  have o0 : kp_o g (r : Int) 0 0 = g 0 0 := kp_o_0 (by decide)
  have h' : kp_row (kp_o g (r : Int)) l x := by unfold kp_row; rw [o0]; exact h
  unfold kp_B kr_se
  rw [kp_S_row (by rw [o0]; omega) h']
  exact ⟨fun q => q.2, fun q => ⟨hm, q⟩⟩
theorem jc_withoutsAt (hM : kp_MK σ B) (hp : 0 ≤ p ∧ p < 2801) (hk : KI (jn_mk (B p) 12 : Nat) σ) : jg_CI w 0 mm_X10_withoutsAt [.ref 78, .int (.ofInt p)] σ KI := by
  refine jb_X10_withoutsAt_0 rfl ?_
  rw [jr_wr (show jr p by omega), show σ.1 (78 + 1) p = (jn_mk (B p) 12 : Nat) from hM p hp.1 hp.2]
  exact jn_ite (fun q => by omega) (fun _ => jn_ite (fun q => by omega) (fun _ => ⟨by omega, hk⟩))
theorem jc_missingBy (hN : kn_C kp_pl σ N) (hP : kp_N g N) (hl : kn_lt N 0) (hW : jn_GW g) (hLC : kp_LC σ g) (hk : KI (jn_mk (kp_mi g N) 12 : Nat) σ) : jg_CI w 2 mm_X10_missingBy [.ref 78, .ref 74] σ KI := by
  have hw := hW.1
  obtain ⟨⟨a1, a2⟩, ⟨b1, b2, b3⟩, cc⟩ := id hN
  have hkb := kn_kb_le a2 b2 hl
  have h24 : (2 : Nat) ^ 24 = 16777216 := rfl
  have h12 : (2 : Nat) ^ 12 = 4096 := rfl
  have hkn : jn_mk (kn_is N) 24 < 2 ^ 24 := jn_mk_lt
  refine jb_X10_missingBy_0 rfl rfl (jc_knownNotes hN hP hl hW ?_)
  rintro _ rfl
  rw [hLC.1]
  have hin : ∀ (k r : Nat), k < 24 → kn_is N k → kp_row g (N.2 k).1 (N.2 k).2.1 ∧ ((N.2 k).2.2 = 0 ∨ (N.2 k).2.2 = 1) := fun k r hk hi => by
    have := hi.1
    rcases hP k (by omega) with q | q
    · have := hi.2.2
      omega
    · exact q
  have hloop : ∀ (m e : Nat) (u5 : Value), e + m = 24 → jg_GI w 2 mm_X10_missingBy 13 [.ref 78, .ref 74, .int (.ofInt (jn_mk (kn_is N) 24 : Nat)), .int (.ofInt (jn_mk (fun r => kp_may g r ∧ ∀ i, i < e → kn_is N i → (kr_se (kp_o g (r : Int)) (fun k => ((kr_dg 10 (N.2 i).1.toNat (N.2 i).2.1.toNat k : Nat) : Int)) (N.2 i).1.toNat = true ↔ (N.2 i).2.2 = 1)) 12 : Nat)), .int (.ofInt (e : Int)), u5] σ KI := by
    intro m
    induction m with
    | zero =>
      intro e u5 he
      refine jb_X10_missingBy_13 rfl rfl ?_
      rw [jr_wr (show jr (e : Int) by omega)]
      refine jn_ite (fun _ => ?_) (fun q => by omega)
      rw [jn_mk_eq (Q := kp_mi g N) (fun r hr => ⟨fun q => ⟨q.1, fun i hi => q.2 i (by have := hi.1; omega) hi⟩, fun q => ⟨q.1, fun i _ hi => q.2 i hi⟩⟩)]
      exact hk
    | succ m ih =>
      intro e u5 he
      have hlt : jn_mk (fun r => kp_may g r ∧ ∀ i, i < e → kn_is N i → (kr_se (kp_o g (r : Int)) (fun k => ((kr_dg 10 (N.2 i).1.toNat (N.2 i).2.1.toNat k : Nat) : Int)) (N.2 i).1.toNat = true ↔ (N.2 i).2.2 = 1)) 12 < 2 ^ 12 := jn_mk_lt
      refine jb_X10_missingBy_13 rfl rfl ?_
      rw [jr_wr (show jr (e : Int) by omega), jr_wr (show jr ((jn_mk (kn_is N) 24 : Nat) : Int) by omega)]
      refine jn_ite (fun q => by omega) (fun _ => jc_inBits (by omega) (by omega) (jn_if (fun hno => ?_) (fun hyes => ⟨by omega, ?_⟩)))
      · have hni : ¬ kn_is N e := fun q => hno ⟨by omega, by rw [Int.toNat_natCast]; exact jn_mk_bit.mpr ⟨by omega, q⟩⟩
        have := ih (e + 1) u5 (by omega)
        rw [jn_mk_eq (n := 12) (Q := fun r => kp_may g r ∧ ∀ i, i < e → kn_is N i → (kr_se (kp_o g (r : Int)) (fun k => ((kr_dg 10 (N.2 i).1.toNat (N.2 i).2.1.toNat k : Nat) : Int)) (N.2 i).1.toNat = true ↔ (N.2 i).2.2 = 1)) (fun r hr => ⟨fun q => ⟨q.1, fun i h1 hi => q.2 i (by omega) hi⟩, fun q => ⟨q.1, fun i h1 hi => q.2 i (by
          by_cases hie : i = e
          · rw [hie] at hi; exact absurd hi hni
          · omega) hi⟩⟩), show ((e + 1 : Nat) : Int) = (e : Int) + 1 by omega] at this
        exact this
      · have hi : kn_is N e := by
          have := (jn_mk_bit.mp hyes.2).2
          rw [Int.toNat_natCast] at this
          exact this
        obtain ⟨hrow, hsaid⟩ := hin e 0 (by omega) hi
        have hpr := kp_pl_rng (a := (g 0 0).toNat) (by omega) hrow.1 hrow.2.2
        have hpe : kp_pl (N.2 e).1 (N.2 e).2.1 = jg_pl (N.2 e).1 + (kp_7 (N.2 e).1.toNat (N.2 e).2.1.toNat : Nat) := rfl
        have hne : (N.2 e).1 ≠ -1 := by have := hrow.1.1; omega
        have hlt2 : jn_mk (kp_B g (kp_pl (N.2 e).1 (N.2 e).2.1)) 12 < 2 ^ 12 := jn_mk_lt
        have hc := (cc e (by have := hi.1; omega)).2 hne
        have hBr : ∀ r : Nat, kp_may g r → (kp_B g (kp_pl (N.2 e).1 (N.2 e).2.1) r ↔ kr_se (kp_o g (r : Int)) (fun k => ((kr_dg 10 (N.2 e).1.toNat (N.2 e).2.1.toNat k : Nat) : Int)) (N.2 e).1.toNat = true) := fun r hm => kp_B_row hW hrow hm
        rw [show σ.1 (74 + 1) (e : Int) = kp_pl (N.2 e).1 (N.2 e).2.1 from hc.1]
        refine jc_withoutsAt hLC.2 (by omega) ⟨by omega, ?_⟩
        rw [show σ.1 (74 + 2) (e : Int) = (N.2 e).2.2 from hc.2.1, jr_wr (show jr (N.2 e).2.2 by omega)]
        have hstep : ∀ (r : Nat), (kp_may g r ∧ ∀ i, i < e + 1 → kn_is N i → (kr_se (kp_o g (r : Int)) (fun k => ((kr_dg 10 (N.2 i).1.toNat (N.2 i).2.1.toNat k : Nat) : Int)) (N.2 i).1.toNat = true ↔ (N.2 i).2.2 = 1)) ↔ ((kp_may g r ∧ ∀ i, i < e → kn_is N i → (kr_se (kp_o g (r : Int)) (fun k => ((kr_dg 10 (N.2 i).1.toNat (N.2 i).2.1.toNat k : Nat) : Int)) (N.2 i).1.toNat = true ↔ (N.2 i).2.2 = 1)) ∧ (kp_B g (kp_pl (N.2 e).1 (N.2 e).2.1) r ↔ (N.2 e).2.2 = 1)) := fun r => by
          constructor
          · rintro ⟨q1, q2⟩
            exact ⟨⟨q1, fun i h1 hi => q2 i (by omega) hi⟩, (hBr r q1).trans (q2 e (by omega) hi)⟩
          · rintro ⟨⟨q1, q2⟩, q3⟩
            refine ⟨q1, fun i h1 hi' => ?_⟩
            by_cases hie : i = e
            · subst hie
              exact (hBr r q1).symm.trans q3
            · exact q2 i (by omega) hi'
        have key := fun u => ih (e + 1) u (by omega)
        rw [show ((e + 1 : Nat) : Int) = (e : Int) + 1 by omega, jn_mk_eq (n := 12) (fun r hr => hstep r)] at key
        refine jn_ite (fun h0 => ?_) (fun h0 => ?_)
        · rw [jb_andx (c := jn_mk (fun r => (kp_may g r ∧ ∀ i, i < e → kn_is N i → (kr_se (kp_o g (r : Int)) (fun k => ((kr_dg 10 (N.2 i).1.toNat (N.2 i).2.1.toNat k : Nat) : Int)) (N.2 i).1.toNat = true ↔ (N.2 i).2.2 = 1)) ∧ (kp_B g (kp_pl (N.2 e).1 (N.2 e).2.1) r ↔ (N.2 e).2.2 = 1)) 12) (by omega) (by omega) (fun i => by
            rw [Bool.eq_iff_iff, Bool.and_eq_true, Bool.not_eq_true', Bool.eq_false_iff, jn_mk_bit, jn_mk_bit]
            constructor
            · rintro ⟨q1, q2, q3⟩
              exact ⟨⟨q1, q2⟩, fun z => by have := q3.mp (jn_mk_bit.mp z).2; omega⟩
            · rintro ⟨⟨q1, q2⟩, q3⟩
              exact ⟨q1, q2, fun z => absurd (jn_mk_bit.mpr ⟨q1, z⟩) q3, fun z => by omega⟩)]
          rintro _ rfl
          exact key _
        · rw [jb_and (by omega) (by omega), show jn_mk (fun r => kp_may g r ∧ ∀ i, i < e → kn_is N i → (kr_se (kp_o g (r : Int)) (fun k => ((kr_dg 10 (N.2 i).1.toNat (N.2 i).2.1.toNat k : Nat) : Int)) (N.2 i).1.toNat = true ↔ (N.2 i).2.2 = 1)) 12 &&& jn_mk (kp_B g (kp_pl (N.2 e).1 (N.2 e).2.1)) 12 = jn_mk (fun r => (kp_may g r ∧ ∀ i, i < e → kn_is N i → (kr_se (kp_o g (r : Int)) (fun k => ((kr_dg 10 (N.2 i).1.toNat (N.2 i).2.1.toNat k : Nat) : Int)) (N.2 i).1.toNat = true ↔ (N.2 i).2.2 = 1)) ∧ (kp_B g (kp_pl (N.2 e).1 (N.2 e).2.1) r ↔ (N.2 e).2.2 = 1)) 12 by
            apply Nat.eq_of_testBit_eq
            intro i
            rw [Bool.eq_iff_iff, Nat.testBit_and, Bool.and_eq_true, jn_mk_bit, jn_mk_bit, jn_mk_bit]
            constructor
            · rintro ⟨⟨q1, q2⟩, _, q3⟩
              exact ⟨q1, q2, fun _ => by omega, fun _ => q3⟩
            · rintro ⟨q1, q2, q3⟩
              exact ⟨⟨q1, q2⟩, q1, q3.mpr (by omega)⟩]
          rintro _ rfl
          exact key _
  have key := hloop 24 0 mj_U rfl
  rw [jn_mk_eq (n := 12) (Q := kp_may g) (fun r hr => ⟨fun q => q.1, fun q => ⟨q, fun i h => absurd h (Nat.not_lt_zero i)⟩⟩)] at key
  exact key
theorem jc_missing (h : ku_CG σ T g) (hL : σ.1 78 0 = 0 ∨ (σ.1 78 0 = 1 ∧ kp_LC σ g)) (hN : kn_C kp_pl σ N) (hP : kp_N g N) (hl : kn_lt N 0) (hk : ∀ τ, jF (kW_ln (30 - T)) σ τ → τ.1 78 0 = 1 → kp_LC τ g → KI (jn_mk (kp_mi g N) 12 : Nat) τ) : jg_CI w 14 mm_X11_missing [.ref 0] σ KI := by
  have hT := h.1.1
  have sh := ku_sh hT
  have sh' := ku_sh (T := 30 - T) (by omega)
  have hW := h.2.1.1.1.1
  refine jb_X11_missing_0 rfl ?_
  rw [h.1.2.1, h.1.2.2]
  intro r1 e1
  rw [show r1 = T by omega]
  refine ⟨sh.1, ?_⟩
  intro r2 e2
  rw [show r2 = 30 - T by omega]
  refine ⟨sh'.1, jc_learn h (by omega) hL (fun τ hf v0 hLC => ?_)⟩
  have hNτ : kn_C kp_pl τ N := by
    obtain ⟨⟨a1, a2⟩, ⟨b1, b2, b3⟩, cc⟩ := hN
    exact ⟨⟨(hf.1 _ _ (by unfold kW_ln; omega)).trans a1, a2⟩, ⟨(hf.1 _ _ (by unfold kW_ln; omega)).trans b1, b2, b3⟩, fun i hi => ⟨fun q => ⟨(hf.1 _ _ (by unfold kW_ln; omega)).trans ((cc i hi).1 q).1, (hf.1 _ _ (by unfold kW_ln; omega)).trans ((cc i hi).1 q).2⟩, fun q => ⟨(hf.1 _ _ (by unfold kW_ln; omega)).trans ((cc i hi).2 q).1, (hf.1 _ _ (by unfold kW_ln; omega)).trans ((cc i hi).2 q).2.1, (hf.1 _ _ (by unfold kW_ln; omega)).trans ((cc i hi).2 q).2.2⟩⟩⟩
  exact jc_missingBy hNτ hP hl hW hLC (hk τ hf v0 hLC)
end KPD
