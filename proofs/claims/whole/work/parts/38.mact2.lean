/-! The ACTIONS and CONFLICTS in the reference, 2 -/
theorem jn_xlo {m i : Nat} (h : m.testBit (jn_lo m) = true) : (m ^^^ 2 ^ jn_lo m).testBit i = true ↔ m.testBit i = true ∧ i ≠ jn_lo m := by
  rw [Nat.testBit_xor]
  by_cases hi : i = jn_lo m
  · rw [hi, h, Nat.testBit_two_pow_self]
    exact ⟨fun q => (by cases q), fun q => absurd rfl q.2⟩
  · rw [Nat.testBit_two_pow_of_ne (fun q => hi q.symm), Bool.xor_false]
    exact ⟨fun q => ⟨q, hi⟩, fun q => q.1⟩
theorem jn_acs_sub {g : gM} {S : jn_Q} {s t : Int} {m : Nat} (hm : m < 4096) : jn_sub (jn_acs g S s t m).2 m := by
  by_cases ha : t = g 0 0 ∧ (jn_clo g (S.2.1 s)).testBit (g 0 2 * 5 + 1).toNat = true
  · rw [jn_acs_acc ha]; exact jn_sub_rf
  · rw [jn_acs_not ha]
    unfold jn_ac1
    split
    · exact jn_sub_0
    · rename_i h0
      split
      · exact jn_sub_rf
      · intro i hi
        exact ((jn_xlo (jn_lo_all hm h0).2.2.2).mp hi).1
noncomputable def jn_lm (g : gM) (S : jn_Q) (L : Int → Int → Nat) (fo : Int → Nat) (y : Int) (cell : Nat) : Nat :=
  if ((cell / 8 : Nat) : Int) < S.1 ∧ ((cell % 8 : Nat) : Int) ≤ g 0 0 then (jn_AP g S L fo y ((cell / 8 : Nat) : Int) ((cell % 8 : Nat) : Int)).2 else 0
section JMB
variable {w : Nat} {σ : jg_M} {g : gM} {x r k a b s t y : Int} {c : Int} {e m : Nat} {f fo : Int → Nat} {S S' : jn_Q} {L L' : Int → Int → Nat} {lm : Nat → Nat} {K : jg_M → Prop} {KI : Int → jg_M → Prop}
theorem jn_lm_lt {cell : Nat} : jn_lm g S L fo y cell < 4096 := by
  unfold jn_lm
  split
  · exact Nat.lt_of_le_of_lt (jn_sub_le (jn_acs_sub jn_rm_lt)) jn_rm_lt
  · decide
theorem jn_lm_at {cell : Nat} (hc : (cell : Int) = 8 * s + t) (hs : 0 ≤ s ∧ s < S.1) (ht : 0 ≤ t ∧ t < 8 ∧ t ≤ g 0 0) : jn_lm g S L fo y cell = (jn_AP g S L fo y s t).2 := by
  unfold jn_lm
  rw [show ((cell / 8 : Nat) : Int) = s by omega, show ((cell % 8 : Nat) : Int) = t by omega, if_pos ⟨hs.2, ht.2.2⟩]
theorem jm_actionOf {cell : Nat} (hB : jn_MB σ a c g S L fo y) (hW : jn_GW g) (hF : jn_FP g S) (hs : 0 ≤ s ∧ s < S.1) (ht : 0 ≤ t ∧ t ≤ g 0 0) (hcell : (cell : Int) = 8 * s + t) (hO : jn_CO σ c (jn_lm g S L fo y) (16 * cell))
    (hk : ∀ τ, jF (jW_co c) σ τ → jn_CO τ c (jn_lm g S L fo y) (16 * (cell + 1)) → KI (jn_AP g S L fo y s t).1 τ) : jg_CI w 2 mm_X12_actionOf [.ref 92, .int (.ofInt s), .int (.ofInt t)] σ KI := by
  have hw := hW.1
  have hI1 := hF.1.1
  have ha := hB.1.1.2.1
  have h7 := hB.2.2.1
  have hlm := jn_lm_at (y := y) (L := L) (fo := fo) hcell hs ⟨ht.1, by omega, ht.2⟩
  have hmv := hF.1.2.2.1 s t
  have hgo : -1 ≤ jn_go g S s t ∧ jn_go g S s t < 48 := by
    unfold jn_go
    split <;> omega
  -- the end, from what is chosen
  have fin : ∀ (u4 u8 u9 u10 : Value) (win q6 q7 : Int), -1 ≤ win → win < 12 → 0 ≤ q6 → q6 ≤ 3 → (q7 = 0 ∨ q7 = 1) → (if q6 = 0 then 0 else if q6 = 1 then 1000 + jn_go g S s t else if q6 = 2 then 2000 + win else 3000) = (jn_AP g S L fo y s t).1 →
      (∀ R : Nat, (jn_AP g S L fo y s t).2.testBit R = true ↔ (jn_rm g S L fo y s t).testBit R = true ∧ ¬ ((R : Int) = win ∧ q7 = 0)) → jg_GI w 2 mm_X12_actionOf 276 [.ref 92, .int (.ofInt s), .int (.ofInt t), .int (.ofInt win), u4, .int (.ofInt (jn_go g S s t)), .int (.ofInt q6), .int (.ofInt q7), u8, u9, u10] σ KI := fun u4 u8 u9 u10 win q6 q7 p1 p2 p3 p4 p5 p6 p7 => by
    refine jm_actLast hB hW hF hs ht (fun _ => jn_lm_lt) hcell (by omega) ⟨p1, p2⟩ ⟨p3, p4⟩ (by omega) (fun R => ?_) hO (fun τ q1 q2 => ?_)
    · rw [hlm]; exact p7 R
    · rw [p6]; exact hk τ q1 q2
  -- where the token goes is known
  have h118 : ∀ (win : Int) (u5 u6 u7 u8 u9 u10 : Value), ((win = -1 ∧ jn_rm g S L fo y s t = 0) ∨ (win = (jn_lo (jn_rm g S L fo y s t) : Nat) ∧ jn_rm g S L fo y s t ≠ 0)) → jg_G w 2 mm_X12_actionOf 118 [.ref 92, .int (.ofInt s), .int (.ofInt t), .int (.ofInt win), .int (.ofInt (jn_b (t = g 0 0 ∧ (jn_clo g (S.2.1 s)).testBit (g 0 2 * 5 + 1).toNat = true))), u5, u6, u7, u8, u9, u10] [.int (.ofInt (jn_go g S s t))] σ (jg_QI KI) := by
    intro win u5 u6 u7 u8 u9 u10 hwin
    have hwr : -1 ≤ win ∧ win < 12 := by
      rcases hwin with ⟨q, -⟩ | ⟨q, q2⟩
      · omega
      · have := (jn_lo_all (jn_rm_lt (g := g) (S := S) (L := L) (fo := fo) (y := y) (s := s) (t := t)) q2).2.2.1
        omega
    refine jb_X12_actionOf_118 rfl ?_
    rw [jr_wr (show jr win by omega), jr_wr (show jr (jn_go g S s t) by omega)]
    refine jn_if (fun hacc => ?_) (fun hacc => ?_)
    · have hAP : jn_AP g S L fo y s t = jn_ac1 g (jn_go g S s t) t (jn_rm g S L fo y s t) := jn_acs_not hacc
      rw [jn_b_f hacc]
      rcases hwin with ⟨w1, w2⟩ | ⟨w1, w2⟩
      · have hAP2 : jn_AP g S L fo y s t = (if jn_go g S s t < 0 then 0 else 1000 + jn_go g S s t, 0) := by
          rw [hAP]; unfold jn_ac1; exact if_pos w2
        have hbits : ∀ R : Nat, (jn_AP g S L fo y s t).2.testBit R = true ↔ (jn_rm g S L fo y s t).testBit R = true ∧ ¬ ((R : Int) = win ∧ (0 : Int) = 0) := fun R => by
          rw [hAP2, w2, Nat.zero_testBit]
          exact ⟨fun q => (by cases q), fun q => (by cases q.1)⟩
        refine jn_ite (fun _ => jn_ite (fun hg => jb_X12_actionOf_147 rfl ?_) (fun hg => jb_X12_actionOf_147 rfl ?_)) (fun h => by omega)
        · rw [show jg_wr 0 = 0 from rfl]
          refine jn_ite (fun h => by omega) (fun _ => fin _ _ _ _ win 0 0 hwr.1 hwr.2 (by omega) (by omega) (Or.inl rfl) ?_ hbits)
          rw [hAP2, if_pos rfl]
          exact (if_pos hg).symm
        · rw [show jg_wr 1 = 1 from rfl]
          refine jn_ite (fun h => by omega) (fun _ => fin _ _ _ _ win 1 0 hwr.1 hwr.2 (by omega) (by omega) (Or.inl rfl) ?_ hbits)
          rw [hAP2, if_neg (by omega), if_pos rfl]
          exact (if_neg hg).symm
      · obtain ⟨-, -, l3, l4⟩ := jn_lo_all (jn_rm_lt (g := g) (S := S) (L := L) (fo := fo) (y := y) (s := s) (t := t)) w2
        have hrlo : ((jn_lo (jn_rm g S L fo y s t) : Nat) : Int) < g 0 2 := jn_rm_nr l4
        have hxb : ∀ (v : Int), jn_AP g S L fo y s t = (v, jn_rm g S L fo y s t ^^^ 2 ^ jn_lo (jn_rm g S L fo y s t)) → ∀ R : Nat, (jn_AP g S L fo y s t).2.testBit R = true ↔ (jn_rm g S L fo y s t).testBit R = true ∧ ¬ ((R : Int) = win ∧ (0 : Int) = 0) := fun v hv R => by
          rw [hv]
          dsimp only
          rw [jn_xlo l4]
          exact ⟨fun q => ⟨q.1, fun q2 => q.2 (by omega)⟩, fun q => ⟨q.1, fun q2 => q.2 ⟨by omega, rfl⟩⟩⟩
        refine jn_ite (fun h => by omega) (fun _ => jb_X12_actionOf_147 rfl ?_)
        rw [show jg_wr 2 = 2 from rfl, jr_wr (show jr (jn_go g S s t) by omega)]
        refine jn_ite (fun _ => jn_ite (fun hg => ?_) (fun hg => ?_)) (fun h => absurd rfl h)
        · have hv : jn_AP g S L fo y s t = (2000 + ((jn_lo (jn_rm g S L fo y s t) : Nat) : Int), jn_rm g S L fo y s t ^^^ 2 ^ jn_lo (jn_rm g S L fo y s t)) := by
            rw [hAP]
            unfold jn_ac1
            rw [if_neg w2, if_neg (by omega), if_pos (Or.inl hg)]
          refine fin _ _ _ _ win 2 0 hwr.1 hwr.2 (by omega) (by omega) (Or.inl rfl) ?_ (hxb _ hv)
          rw [hv, if_neg (by omega), if_neg (by omega), if_pos rfl, w1]
        · have htn : ¬ t = g 0 0 := fun q => hg (by unfold jn_go; rw [if_pos q]; decide)
          have htt : jn_tr g t = g 1 t := if_pos ⟨ht.1, by omega⟩
          have hss : jn_ts g t = g 2 t := if_pos ⟨ht.1, by omega⟩
          have hrt := jn_tr_rng (t := t) hW
          have hst := jn_ts_rng (t := t) hW
          have hrr := jn_rr_rng (r := ((jn_lo (jn_rm g S L fo y s t) : Nat) : Int)) hW
          rw [w1]
          refine jm_ruleRank hB.1 hB.2.1 hW ⟨by omega, by omega⟩ (jm_rankOf hB.1 hB.2.1 hW ⟨ht.1, by omega⟩ ?_)
          have h204 : ∀ v : Int, v = jn_ts g t → jg_G w 2 mm_X12_actionOf 204 [.ref 92, .int (.ofInt s), .int (.ofInt t), .int (.ofInt ((jn_lo (jn_rm g S L fo y s t) : Nat) : Int)), .int (.ofInt 0), .int (.ofInt (jn_go g S s t)), .int (.ofInt 2), .int (.ofInt 0), .int (.ofInt (jn_rr g ((jn_lo (jn_rm g S L fo y s t) : Nat) : Int))), .int (.ofInt (jn_tr g t)), u10] [.int (.ofInt v)] σ (jg_QI KI) := by
            rintro _ rfl
            have hsh : (jn_rr g ((jn_lo (jn_rm g S L fo y s t) : Nat) : Int) = 0 ∨ jn_tr g t = 0) → jg_GI w 2 mm_X12_actionOf 216 [.ref 92, .int (.ofInt s), .int (.ofInt t), .int (.ofInt ((jn_lo (jn_rm g S L fo y s t) : Nat) : Int)), .int (.ofInt 0), .int (.ofInt (jn_go g S s t)), .int (.ofInt 2), .int (.ofInt 0), .int (.ofInt (jn_rr g ((jn_lo (jn_rm g S L fo y s t) : Nat) : Int))), .int (.ofInt (jn_tr g t)), .int (.ofInt (jn_ts g t))] σ KI := fun hq => by
              have hv : jn_AP g S L fo y s t = (1000 + jn_go g S s t, jn_rm g S L fo y s t) := by
                rw [hAP]
                unfold jn_ac1
                rw [if_neg w2, if_pos ⟨by omega, hq⟩]
              refine jb_X12_actionOf_216 rfl (jb_X12_actionOf_221 rfl ?_)
              rw [show jg_wr 1 = 1 from rfl]
              refine jn_ite (fun h => by omega) (fun _ => jb_X12_actionOf_274 rfl (fin _ _ _ _ _ 1 1 (by omega) (by omega) (by omega) (by omega) (Or.inr rfl) ?_ (fun R => ?_)))
              · rw [hv, if_neg (by omega), if_pos rfl]
              · rw [hv]
                exact ⟨fun q => ⟨q, fun q2 => absurd q2.2 (by omega)⟩, fun q => q.1⟩
            refine jb_X12_actionOf_204 rfl ?_
            rw [jr_wr (show jr (jn_rr g ((jn_lo (jn_rm g S L fo y s t) : Nat) : Int)) by omega), jr_wr (show jr (jn_tr g t) by omega)]
            refine jn_ite (fun h => hsh (Or.inl h)) (fun hr0 => jn_ite (fun h => hsh (Or.inr h)) (fun ht0 => jb_X12_actionOf_221 rfl ?_))
            rw [show jg_wr 0 = 0 from rfl, jr_wr (show jr (jn_rr g ((jn_lo (jn_rm g S L fo y s t) : Nat) : Int)) by omega), jr_wr (show jr (jn_tr g t) by omega), jr_wr (show jr (jn_ts g t) by omega)]
            have hv : jn_AP g S L fo y s t = (if jn_go g S s t < 0 ∨ jn_tr g t < jn_rr g ((jn_lo (jn_rm g S L fo y s t) : Nat) : Int) then 2000 + ((jn_lo (jn_rm g S L fo y s t) : Nat) : Int) else if jn_rr g ((jn_lo (jn_rm g S L fo y s t) : Nat) : Int) < jn_tr g t then 1000 + jn_go g S s t else if jn_ts g t = 0 then 2000 + ((jn_lo (jn_rm g S L fo y s t) : Nat) : Int) else if jn_ts g t = 1 then 1000 + jn_go g S s t else 0, jn_rm g S L fo y s t ^^^ 2 ^ jn_lo (jn_rm g S L fo y s t)) := by
              rw [hAP]
              unfold jn_ac1
              rw [if_neg w2, if_neg (by omega)]
            have hxb2 := hxb _ hv
            rw [w1] at hxb2
            refine jn_ite (fun _ => jn_ite (fun hle => jn_ite (fun hle2 => jn_ite (fun hs0 => ?_) (fun hs0 => jn_ite (fun hs1 => ?_) (fun hs1 => ?_))) (fun hle2 => ?_)) (fun hle => ?_)) (fun h => absurd rfl h)
            · refine jb_X12_actionOf_274 rfl (fin _ _ _ _ _ 2 0 (by omega) (by omega) (by omega) (by omega) (Or.inl rfl) ?_ hxb2)
              rw [hv, if_neg (by omega), if_neg (by omega), if_pos rfl, if_neg (by omega), if_neg (by omega), if_pos hs0]
            · refine jb_X12_actionOf_274 rfl (fin _ _ _ _ _ 1 0 (by omega) (by omega) (by omega) (by omega) (Or.inl rfl) ?_ hxb2)
              rw [hv, if_neg (by omega), if_pos rfl, if_neg (by omega), if_neg (by omega), if_neg hs0, if_pos hs1]
            · refine jb_X12_actionOf_274 rfl (fin _ _ _ _ _ 0 0 (by omega) (by omega) (by omega) (by omega) (Or.inl rfl) ?_ hxb2)
              rw [hv, if_pos rfl, if_neg (by omega), if_neg (by omega), if_neg hs0, if_neg hs1]
            · refine jb_X12_actionOf_274 rfl (fin _ _ _ _ _ 1 0 (by omega) (by omega) (by omega) (by omega) (Or.inl rfl) ?_ hxb2)
              rw [hv, if_neg (by omega), if_pos rfl, if_neg (by omega), if_pos (by omega)]
            · refine jb_X12_actionOf_274 rfl (fin _ _ _ _ _ 2 0 (by omega) (by omega) (by omega) (by omega) (Or.inl rfl) ?_ hxb2)
              rw [hv, if_neg (by omega), if_neg (by omega), if_pos rfl, if_pos (by omega)]
          obtain ⟨n, n1, n2, n3⟩ := hB.2.1
          obtain ⟨m1, m2⟩ := n3 t ht.1 (by omega)
          rw [show jn_rk g ((jn_lo (jn_rm g S L fo y s t) : Nat) : Int) (jn_len g ((jn_lo (jn_rm g S L fo y s t) : Nat) : Int)).toNat = jn_rr g ((jn_lo (jn_rm g S L fo y s t) : Nat) : Int) from rfl, ← htt, n1, jr_wr (show jr n by omega), hB.1.1.1, jr_wr (show jr (7 * a + t) by omega)]
          refine jn_ite (fun h2 => h204 1 ?_) (fun h2 => ⟨by omega, h204 _ ?_⟩)
          · rw [if_pos h2] at m2
            rw [hss]; exact m2.symm
          · rw [if_neg h2] at m2
            rw [hss]; exact m2
    · have hAP : jn_AP g S L fo y s t = (3000, jn_rm g S L fo y s t) := jn_acs_acc hacc
      rw [jn_b_t hacc]
      refine jb_X12_actionOf_147 rfl ?_
      rw [show jg_wr 3 = 3 from rfl]
      refine jn_ite (fun h => by omega) (fun _ => fin _ _ _ _ win 3 1 hwr.1 hwr.2 (by omega) (by omega) (Or.inr rfl) ?_ (fun R => ?_))
      · rw [hAP, if_neg (by omega), if_neg (by omega), if_neg (by omega)]
      · rw [hAP]
        exact ⟨fun q => ⟨q, fun q2 => absurd q2.2 (by omega)⟩, fun q => q.1⟩
  -- whether it accepts is known
  have h88 : ∀ (win z : Int) (u4 u5 u6 u7 u8 u9 u10 : Value), ((win = -1 ∧ jn_rm g S L fo y s t = 0) ∨ (win = (jn_lo (jn_rm g S L fo y s t) : Nat) ∧ jn_rm g S L fo y s t ≠ 0)) → z = jn_b (t = g 0 0 ∧ (jn_clo g (S.2.1 s)).testBit (g 0 2 * 5 + 1).toNat = true) → jg_G w 2 mm_X12_actionOf 88 [.ref 92, .int (.ofInt s), .int (.ofInt t), .int (.ofInt win), u4, u5, u6, u7, u8, u9, u10] [.int (.ofInt z)] σ (jg_QI KI) := by
    rintro win _ u4 u5 u6 u7 u8 u9 u10 hwin rfl
    refine jb_X12_actionOf_88 rfl ?_
    rw [hB.1.1.1, jr_wr (show jr a by omega), hB.1.1.2.2.2.2.1, jr_wr (show jr (g 0 0) by omega), jr_wr (show jr t by omega)]
    have h9 := h118 win u5 u6 u7 u8 u9 u10 hwin
    refine ⟨by omega, jn_ite (fun hge => ?_) (fun hlt => ?_)⟩
    · rw [show jn_go g S s t = -1 from if_pos (by omega)] at h9
      exact h9
    · refine jm_moveAt (b := c) h7.1 ?_
      have hm := hB.2.2.2.1.2.2 s t hs.1 hs.2 ht.1 (by omega)
      rw [show jn_sy t = t from if_pos (by omega)] at hm
      rw [jr_wr (show jr (12 * (48 * c + s) + t) by omega), hm]
      rw [show jn_go g S s t = S.2.2.1 s t from if_neg (by omega)] at h9
      exact ⟨by omega, h9⟩
  have hloop : ∀ (j : Nat) (win : Int) (u5 u6 u7 u8 u9 u10 : Value), (j : Int) ≤ g 0 2 → ((win = -1 ∧ ∀ i, j ≤ i → ¬ (jn_rm g S L fo y s t).testBit i = true) ∨ (∃ l : Nat, win = l ∧ l < 12 ∧ j ≤ l ∧ (jn_rm g S L fo y s t).testBit l = true ∧ ∀ i, j ≤ i → i < l → ¬ (jn_rm g S L fo y s t).testBit i = true)) → jg_GI w 2 mm_X12_actionOf 15 [.ref 92, .int (.ofInt s), .int (.ofInt t), .int (.ofInt win), .int (.ofInt ((j : Int) - 1)), u5, u6, u7, u8, u9, u10] σ KI := by
    intro j
    induction j with
    | zero =>
      intro win u5 u6 u7 u8 u9 u10 hj hwin
      have hwin2 : (win = -1 ∧ jn_rm g S L fo y s t = 0) ∨ (win = (jn_lo (jn_rm g S L fo y s t) : Nat) ∧ jn_rm g S L fo y s t ≠ 0) := by
        rcases hwin with ⟨q1, q2⟩ | ⟨l, q1, q2, q3, q4, q5⟩
        · refine Or.inl ⟨q1, jn_bits (fun i => ?_)⟩
          rw [Nat.zero_testBit]
          exact ⟨fun q => absurd q (q2 i (Nat.zero_le _)), fun q => (by cases q)⟩
        · have hne : jn_rm g S L fo y s t ≠ 0 := fun q => by rw [q, Nat.zero_testBit] at q4; cases q4
          obtain ⟨-, -, l3, l4⟩ := jn_lo_all (jn_rm_lt (g := g) (S := S) (L := L) (fo := fo) (y := y) (s := s) (t := t)) hne
          refine Or.inr ⟨?_, hne⟩
          have h1 : ¬ jn_lo (jn_rm g S L fo y s t) < l := fun q => q5 _ (Nat.zero_le _) q l4
          have h2 : ¬ l < jn_lo (jn_rm g S L fo y s t) := fun q => by rw [jn_lo_lt q] at q4; cases q4
          omega
      refine jb_X12_actionOf_15 rfl ?_
      rw [jr_wr (show jr (((0 : Nat) : Int) - 1) by omega), hB.1.1.1, jr_wr (show jr a by omega), hB.1.1.2.2.2.2.1, hB.1.1.2.2.2.2.2.2, jr_wr (show jr (g 0 0) by omega), jr_wr (show jr t by omega)]
      refine jn_ite (fun _ => ⟨by omega, jn_ite (fun hte => ⟨by omega, jm_itemAt (b := c) h7.1 ?_⟩) (fun hte => jb_X12_actionOf_87 rfl (h88 win 0 _ _ _ _ _ _ _ hwin2 (jn_b_f (fun q => hte q.1)).symm))⟩) (fun h => by omega)
      have hcl := (hB.2.2.2.1.2.1 s hs.1 hs.2).2.1 (g 0 2 * 5 + 1).toNat (by omega)
      rw [show 65 * (48 * c + s) + ((g 0 2 * 5 + 1).toNat : Int) = 65 * (48 * c + s) + (5 * g 0 2 + 1) by omega] at hcl
      rw [jr_wr (show jr (65 * (48 * c + s) + (5 * g 0 2 + 1)) by omega), hcl]
      exact ⟨by omega, jn_if (fun hp => jb_X12_actionOf_87 rfl (h88 win 0 _ _ _ _ _ _ _ hwin2 (jn_b_f (fun q => hp q.2)).symm)) (fun hp => h88 win 1 _ _ _ _ _ _ _ hwin2 (jn_b_t ⟨hte, hp⟩).symm)⟩
    | succ j ih =>
      intro win u5 u6 u7 u8 u9 u10 hj hwin
      have hmb : (jn_rm g S L fo y s t).testBit j = true ↔ jn_rd g S L fo y s t j := by
        unfold jn_rm
        rw [jn_mk_bit]
        exact ⟨fun q => q.2, fun q => ⟨by omega, q⟩⟩
      refine jb_X12_actionOf_15 rfl ?_
      rw [show ((j + 1 : Nat) : Int) - 1 = j by omega, jr_wr (show jr (j : Int) by omega)]
      refine jn_ite (fun h => by omega) (fun _ => jm_isReduced hB hW hF hs ht (by omega) (jn_if (fun hp => ?_) (fun hp => ?_)))
      · refine jb_X12_actionOf_37 rfl ?_
        rw [show (j : Int) + -1 = (j : Int) - 1 by omega]
        refine ih win _ _ _ _ _ _ (by omega) ?_
        rcases hwin with ⟨q1, q2⟩ | ⟨l, q1, q2, q3, q4, q5⟩
        · refine Or.inl ⟨q1, fun i hi => ?_⟩
          by_cases hij : i = j
          · rw [hij]; exact fun q => hp (hmb.mp q)
          · exact q2 i (by omega)
        · refine Or.inr ⟨l, q1, q2, by omega, q4, fun i hi hil => ?_⟩
          by_cases hij : i = j
          · rw [hij]; exact fun q => hp (hmb.mp q)
          · exact q5 i (by omega) hil
      · refine jb_X12_actionOf_37 rfl ?_
        rw [show (j : Int) + -1 = (j : Int) - 1 by omega]
        exact ih (j : Int) _ _ _ _ _ _ (by omega) (Or.inr ⟨j, rfl, by omega, Nat.le_refl _, hmb.mpr hp, fun i h1 h2 => by omega⟩)
  refine jb_X12_actionOf_0 rfl ?_
  rw [hB.1.1.1, jr_wr (show jr a by omega), hB.1.1.2.2.2.2.2.2]
  refine ⟨by omega, ?_⟩
  rintro _ rfl
  have := hloop (g 0 2).toNat (-1) mj_U mj_U mj_U mj_U mj_U mj_U (by omega) (Or.inl ⟨rfl, fun i hi q => by
    have := jn_rm_nr q
    omega⟩)
  rw [show ((g 0 2).toNat : Int) = g 0 2 by omega] at this
  exact this
end JMB
