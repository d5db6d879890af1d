/-! LIFTED METHODS, 1: from a method's entry, and from each loop's head, what must hold for its run to end with Q (printed by wip/whole/gen/gen18.py) -/
set_option maxRecDepth 100000 in
set_option maxHeartbeats 4000000 in
theorem jb_X4_settleAfters_75 {w : Nat} {a0 : Nat} {a1 : Nat} {u2 : Value} {x3 : Int} {x4 : Int} {u5 : Value} {u6 : Value} {σ : jg_M} {Q : jg_M → Prop} (h0 : jg_sh a0 = (4, 0)) (h1 : jg_sh a1 = (8, 0)) (h : (if jg_wr x3 = 0 then Q σ else (if 1000000 ≤ jg_wr x4 then Q σ else jg_GV w 3 mm_X4_settleAfters 91 [.ref a0, .ref a1, u2, .int (.ofInt 0), .int (.ofInt x4), .int (.ofInt 0), u6] σ Q))) : jg_GV w 3 mm_X4_settleAfters 75 [.ref a0, .ref a1, u2, .int (.ofInt x3), .int (.ofInt x4), u5, u6] σ Q := by
  show jg_G w 3 mm_X4_settleAfters 75 [.ref a0, .ref a1, u2, .int (.ofInt x3), .int (.ofInt x4), u5, u6] [] σ (jg_QV Q)
  refine jg_A (pc' := 76) rfl rfl (fun _ _ _ => rfl) ?_
  refine jg_ifeq (pc' := 79) rfl rfl (fun hc => ?_) (fun hc => ?_)
  · have h := jg_t h (show jg_wr x3 = 0 from hc)
    exact jg_vret rfl rfl h
  · have h := jg_f h (show ¬ (jg_wr x3 = 0) from hc)
    refine jg_A (pc' := 81) rfl rfl (fun _ _ _ => rfl) ?_
    refine jg_A (pc' := 83) rfl rfl (fun _ _ _ => rfl) ?_
    refine jg_cge (pc' := 86) rfl rfl (fun hc => ?_) (fun hc => ?_)
    · have h := jg_t h (show 1000000 ≤ jg_wr x4 from hc)
      exact jg_vret rfl rfl h
    · have h := jg_f h (show ¬ (1000000 ≤ jg_wr x4) from hc)
      refine jg_A (pc' := 87) rfl rfl (fun _ _ _ => rfl) ?_
      refine jg_A (pc' := 88) (ls' := [.ref a0, .ref a1, u2, .int (.ofInt 0), .int (.ofInt x4), u5, u6]) rfl rfl (fun _ _ _ => rfl) ?_
      refine jg_A (pc' := 89) rfl rfl (fun _ _ _ => rfl) ?_
      refine jg_A (pc' := 91) (ls' := [.ref a0, .ref a1, u2, .int (.ofInt 0), .int (.ofInt x4), .int (.ofInt 0), u6]) rfl rfl (fun _ _ _ => rfl) ?_
      exact h
set_option maxRecDepth 100000 in
set_option maxHeartbeats 4000000 in
theorem jb_X4_settleAfters_91 {w : Nat} {a0 : Nat} {a1 : Nat} {u2 : Value} {x3 : Int} {x4 : Int} {x5 : Int} {u6 : Value} {σ : jg_M} {Q : jg_M → Prop} (h0 : jg_sh a0 = (4, 0)) (h1 : jg_sh a1 = (8, 0)) (h : (if jg_wr (σ.1 a0 0) ≤ jg_wr x5 then jg_GV w 3 mm_X4_settleAfters 75 [.ref a0, .ref a1, u2, .int (.ofInt x3), .int (.ofInt (x4 + 1)), .int (.ofInt x5), u6] σ Q else ((0 : Int) ≤ jg_wr x5 ∧ jg_wr x5 < (240 : Int)) ∧ jg_CI w 2 mm_X4_aftersRead [.ref a0, .ref a1, .int (.ofInt x5)] σ (fun (z102 : Int) (m101 : jg_M) => jg_CI w 2 mm_X4_aftersIncluded [.ref a0, .int (.ofInt x5)] m101 (fun (z104 : Int) (m103 : jg_M) => ∀ t105 : Int, t105 = (jg_or (jg_or (σ.1 (a0 + 4) (jg_wr x5)) z102) z104) → (if jg_wr x3 = 0 then ((0 : Int) ≤ jg_wr x5 ∧ jg_wr x5 < (240 : Int)) ∧ (if jg_wr t105 = jg_wr (m103.1 (a0 + 4) (jg_wr x5)) then ((0 : Int) ≤ (jg_wr x5) ∧ (jg_wr x5) < (240 : Int)) ∧ ∀ m106 : jg_M, m106 = jg_sI m103 (a0 + 4) (jg_wr x5) t105 → jg_GV w 3 mm_X4_settleAfters 91 [.ref a0, .ref a1, u2, .int (.ofInt 0), .int (.ofInt x4), .int (.ofInt (x5 + 1)), .int (.ofInt t105)] m106 Q else ((0 : Int) ≤ (jg_wr x5) ∧ (jg_wr x5) < (240 : Int)) ∧ ∀ m107 : jg_M, m107 = jg_sI m103 (a0 + 4) (jg_wr x5) t105 → jg_GV w 3 mm_X4_settleAfters 91 [.ref a0, .ref a1, u2, .int (.ofInt 1), .int (.ofInt x4), .int (.ofInt (x5 + 1)), .int (.ofInt t105)] m107 Q) else ((0 : Int) ≤ (jg_wr x5) ∧ (jg_wr x5) < (240 : Int)) ∧ ∀ m108 : jg_M, m108 = jg_sI m103 (a0 + 4) (jg_wr x5) t105 → jg_GV w 3 mm_X4_settleAfters 91 [.ref a0, .ref a1, u2, .int (.ofInt 1), .int (.ofInt x4), .int (.ofInt (x5 + 1)), .int (.ofInt t105)] m108 Q))))) : jg_GV w 3 mm_X4_settleAfters 91 [.ref a0, .ref a1, u2, .int (.ofInt x3), .int (.ofInt x4), .int (.ofInt x5), u6] σ Q := by
  show jg_G w 3 mm_X4_settleAfters 91 [.ref a0, .ref a1, u2, .int (.ofInt x3), .int (.ofInt x4), .int (.ofInt x5), u6] [] σ (jg_QV Q)
  refine jg_A (pc' := 93) rfl rfl (fun _ _ _ => rfl) ?_
  refine jg_A (pc' := 94) rfl rfl (fun _ _ _ => rfl) ?_
  refine jg_getI (pc' := 97) (bi := 0) rfl h0 (by decide) (Or.inl rfl) rfl rfl ?_
  refine jg_cge (pc' := 100) rfl rfl (fun hc => ?_) (fun hc => ?_)
  · have h := jg_t h (show jg_wr (σ.1 a0 0) ≤ jg_wr x5 from hc)
    refine jg_iinc (pc' := 164) (ls' := [.ref a0, .ref a1, u2, .int (.ofInt x3), .int (.ofInt (x4 + 1)), .int (.ofInt x5), u6]) rfl rfl rfl rfl ?_
    refine jg_goto rfl ?_
    exact h
  · have h := jg_f h (show ¬ (jg_wr (σ.1 a0 0) ≤ jg_wr x5) from hc)
    refine jg_A (pc' := 101) rfl rfl (fun _ _ _ => rfl) ?_
    refine jg_getO (pc' := 104) (k := 4) rfl h0 (by decide) rfl rfl ?_
    refine jg_A (pc' := 106) rfl rfl (fun _ _ _ => rfl) ?_
    obtain ⟨hg, h⟩ := h
    refine jg_iald (pc' := 107) rfl (jg_sX4_7 h0) hg rfl ?_
    refine jg_A (pc' := 108) rfl rfl (fun _ _ _ => rfl) ?_
    refine jg_A (pc' := 109) rfl rfl (fun _ _ _ => rfl) ?_
    refine jg_A (pc' := 111) rfl rfl (fun _ _ _ => rfl) ?_
    refine jg_calX (M1 := mm_X4_aftersRead) (hy := 2) (pc' := 114) rfl jm_X4_aftersRead (by decide) rfl h0 (by decide) ⟨Nat.le_of_ble_eq_true rfl, rfl⟩ (Nat.le_of_ble_eq_true rfl) rfl h (jg_kI (fun z102 m101 h => ?_))
    refine jg_ior (pc' := 115) rfl rfl ?_
    refine jg_A (pc' := 116) rfl rfl (fun _ _ _ => rfl) ?_
    refine jg_A (pc' := 118) rfl rfl (fun _ _ _ => rfl) ?_
    refine jg_calX (M1 := mm_X4_aftersIncluded) (hy := 2) (pc' := 121) rfl jm_X4_aftersIncluded (by decide) rfl h0 (by decide) ⟨Nat.le_of_ble_eq_true rfl, rfl⟩ (Nat.le_of_ble_eq_true rfl) rfl h (jg_kI (fun z104 m103 h => ?_))
    refine jg_ior (pc' := 122) rfl rfl ?_
    refine jg_nm (F := fun t105 => jg_G w 3 mm_X4_settleAfters 122 [.ref a0, .ref a1, u2, .int (.ofInt x3), .int (.ofInt x4), .int (.ofInt x5), u6] [.int (.ofInt t105)] m103 (jg_QV Q)) (jg_or (jg_or (σ.1 (a0 + 4) (jg_wr x5)) z102) z104) (fun t105 ht105 => ?_)
    have h := h t105 ht105
    refine jg_A (pc' := 124) (ls' := [.ref a0, .ref a1, u2, .int (.ofInt x3), .int (.ofInt x4), .int (.ofInt x5), .int (.ofInt t105)]) rfl rfl (fun _ _ _ => rfl) ?_
    refine jg_A (pc' := 125) rfl rfl (fun _ _ _ => rfl) ?_
    refine jg_ifne (pc' := 128) rfl rfl (fun hc => ?_) (fun hc => ?_)
    · have h := jg_t h (show jg_wr x3 = 0 from hc)
      refine jg_A (pc' := 130) rfl rfl (fun _ _ _ => rfl) ?_
      refine jg_A (pc' := 131) rfl rfl (fun _ _ _ => rfl) ?_
      refine jg_getO (pc' := 134) (k := 4) rfl h0 (by decide) rfl rfl ?_
      refine jg_A (pc' := 136) rfl rfl (fun _ _ _ => rfl) ?_
      obtain ⟨hg, h⟩ := h
      refine jg_iald (pc' := 137) rfl (jg_sX4_7 h0) hg rfl ?_
      refine jg_ceq (pc' := 140) rfl rfl (fun hc => ?_) (fun hc => ?_)
      · have h := jg_t h (show jg_wr t105 = jg_wr (m103.1 (a0 + 4) (jg_wr x5)) from hc)
        refine jg_A (pc' := 145) rfl rfl (fun _ _ _ => rfl) ?_
        refine jg_A (pc' := 146) (ls' := [.ref a0, .ref a1, u2, .int (.ofInt 0), .int (.ofInt x4), .int (.ofInt x5), .int (.ofInt t105)]) rfl rfl (fun _ _ _ => rfl) ?_
        refine jg_A (pc' := 147) rfl rfl (fun _ _ _ => rfl) ?_
        refine jg_getO (pc' := 150) (k := 4) rfl h0 (by decide) rfl rfl ?_
        refine jg_A (pc' := 152) rfl rfl (fun _ _ _ => rfl) ?_
        refine jg_A (pc' := 154) rfl rfl (fun _ _ _ => rfl) ?_
        obtain ⟨hg, h⟩ := h
        refine jg_iast (pc' := 155) rfl (jg_sX4_7 h0) hg rfl (fun m106 hm106 => ?_)
        have h := h m106 hm106
        refine jg_iinc (pc' := 158) (ls' := [.ref a0, .ref a1, u2, .int (.ofInt 0), .int (.ofInt x4), .int (.ofInt (x5 + 1)), .int (.ofInt t105)]) rfl rfl rfl rfl ?_
        refine jg_goto rfl ?_
        exact h
      · have h := jg_f h (show ¬ (jg_wr t105 = jg_wr (m103.1 (a0 + 4) (jg_wr x5))) from hc)
        refine jg_A (pc' := 141) rfl rfl (fun _ _ _ => rfl) ?_
        refine jg_goto rfl ?_
        refine jg_A (pc' := 146) (ls' := [.ref a0, .ref a1, u2, .int (.ofInt 1), .int (.ofInt x4), .int (.ofInt x5), .int (.ofInt t105)]) rfl rfl (fun _ _ _ => rfl) ?_
        refine jg_A (pc' := 147) rfl rfl (fun _ _ _ => rfl) ?_
        refine jg_getO (pc' := 150) (k := 4) rfl h0 (by decide) rfl rfl ?_
        refine jg_A (pc' := 152) rfl rfl (fun _ _ _ => rfl) ?_
        refine jg_A (pc' := 154) rfl rfl (fun _ _ _ => rfl) ?_
        obtain ⟨hg, h⟩ := h
        refine jg_iast (pc' := 155) rfl (jg_sX4_7 h0) hg rfl (fun m107 hm107 => ?_)
        have h := h m107 hm107
        refine jg_iinc (pc' := 158) (ls' := [.ref a0, .ref a1, u2, .int (.ofInt 1), .int (.ofInt x4), .int (.ofInt (x5 + 1)), .int (.ofInt t105)]) rfl rfl rfl rfl ?_
        refine jg_goto rfl ?_
        exact h
    · have h := jg_f h (show ¬ (jg_wr x3 = 0) from hc)
      refine jg_A (pc' := 141) rfl rfl (fun _ _ _ => rfl) ?_
      refine jg_goto rfl ?_
      refine jg_A (pc' := 146) (ls' := [.ref a0, .ref a1, u2, .int (.ofInt 1), .int (.ofInt x4), .int (.ofInt x5), .int (.ofInt t105)]) rfl rfl (fun _ _ _ => rfl) ?_
      refine jg_A (pc' := 147) rfl rfl (fun _ _ _ => rfl) ?_
      refine jg_getO (pc' := 150) (k := 4) rfl h0 (by decide) rfl rfl ?_
      refine jg_A (pc' := 152) rfl rfl (fun _ _ _ => rfl) ?_
      refine jg_A (pc' := 154) rfl rfl (fun _ _ _ => rfl) ?_
      obtain ⟨hg, h⟩ := h
      refine jg_iast (pc' := 155) rfl (jg_sX4_7 h0) hg rfl (fun m108 hm108 => ?_)
      have h := h m108 hm108
      refine jg_iinc (pc' := 158) (ls' := [.ref a0, .ref a1, u2, .int (.ofInt 1), .int (.ofInt x4), .int (.ofInt (x5 + 1)), .int (.ofInt t105)]) rfl rfl rfl rfl ?_
      refine jg_goto rfl ?_
      exact h
set_option maxRecDepth 100000 in
set_option maxHeartbeats 4000000 in
theorem jb_X4_tokensFrom_0 {w : Nat} {a0 : Nat} {a1 : Nat} {x2 : Int} {σ : jg_M} {Q : Int → jg_M → Prop} (h0 : jg_sh a0 = (4, 0)) (h1 : jg_sh a1 = (8, 0)) (h : ((0 : Int) ≤ jg_wr x2 ∧ jg_wr x2 < (240 : Int)) ∧ ((0 : Int) ≤ jg_wr x2 ∧ jg_wr x2 < (240 : Int)) ∧ jg_CI w 1 mm_X7_moveBy [.ref (a1 + 10), .int (.ofInt (σ.1 (a0 + 1) (jg_wr x2))), .int (.ofInt (10 + (σ.1 (a0 + 2) (jg_wr x2))))] σ (fun (z102 : Int) (m101 : jg_M) => jg_GI w 2 mm_X4_tokensFrom 29 [.ref a0, .ref a1, .int (.ofInt x2), .int (.ofInt z102), .int (.ofInt 0), .int (.ofInt 0)] m101 Q)) : jg_CI w 2 mm_X4_tokensFrom [.ref a0, .ref a1, .int (.ofInt x2)] σ Q := by
  show jg_G w 2 mm_X4_tokensFrom 0 [.ref a0, .ref a1, .int (.ofInt x2), mj_U, mj_U, mj_U] [] σ (jg_QI Q)
  refine jg_A (pc' := 1) rfl rfl (fun _ _ _ => rfl) ?_
  refine jg_getO (pc' := 4) (k := 10) rfl h1 (by decide) rfl rfl ?_
  refine jg_A (pc' := 5) rfl rfl (fun _ _ _ => rfl) ?_
  refine jg_getO (pc' := 8) (k := 1) rfl h0 (by decide) rfl rfl ?_
  refine jg_A (pc' := 9) rfl rfl (fun _ _ _ => rfl) ?_
  obtain ⟨hg, h⟩ := h
  refine jg_iald (pc' := 10) rfl (jg_sX4_4 h0) hg rfl ?_
  refine jg_A (pc' := 12) rfl rfl (fun _ _ _ => rfl) ?_
  refine jg_A (pc' := 13) rfl rfl (fun _ _ _ => rfl) ?_
  refine jg_getO (pc' := 16) (k := 2) rfl h0 (by decide) rfl rfl ?_
  refine jg_A (pc' := 17) rfl rfl (fun _ _ _ => rfl) ?_
  obtain ⟨hg, h⟩ := h
  refine jg_iald (pc' := 18) rfl (jg_sX4_5 h0) hg rfl ?_
  refine jg_iadd (pc' := 19) rfl rfl ?_
  refine jg_calX (M1 := mm_X7_moveBy) (hy := 1) (pc' := 22) rfl jm_X7_moveBy (by decide) rfl (jg_sX8_1 h1) (by decide) ⟨Nat.le_of_ble_eq_true rfl, rfl⟩ (Nat.le_of_ble_eq_true rfl) rfl h (jg_kI (fun z102 m101 h => ?_))
  refine jg_A (pc' := 23) (ls' := [.ref a0, .ref a1, .int (.ofInt x2), .int (.ofInt z102), mj_U, mj_U]) rfl rfl (fun _ _ _ => rfl) ?_
  refine jg_A (pc' := 24) rfl rfl (fun _ _ _ => rfl) ?_
  refine jg_A (pc' := 26) (ls' := [.ref a0, .ref a1, .int (.ofInt x2), .int (.ofInt z102), .int (.ofInt 0), mj_U]) rfl rfl (fun _ _ _ => rfl) ?_
  refine jg_A (pc' := 27) rfl rfl (fun _ _ _ => rfl) ?_
  refine jg_A (pc' := 29) (ls' := [.ref a0, .ref a1, .int (.ofInt x2), .int (.ofInt z102), .int (.ofInt 0), .int (.ofInt 0)]) rfl rfl (fun _ _ _ => rfl) ?_
  exact h
set_option maxRecDepth 100000 in
set_option maxHeartbeats 4000000 in
theorem jb_X4_tokensFrom_29 {w : Nat} {u0 : Value} {a1 : Nat} {u2 : Value} {x3 : Int} {x4 : Int} {x5 : Int} {σ : jg_M} {Q : Int → jg_M → Prop} (h1 : jg_sh a1 = (8, 0)) (h : (if jg_wr (σ.1 (a1 + 1) 0) ≤ jg_wr x5 then Q x4 σ else jg_CI w 1 mm_X7_moveBy [.ref (a1 + 10), .int (.ofInt x3), .int (.ofInt x5)] σ (fun (z102 : Int) (m101 : jg_M) => (if jg_wr z102 < 0 then jg_GI w 2 mm_X4_tokensFrom 29 [u0, .ref a1, u2, .int (.ofInt x3), .int (.ofInt x4), .int (.ofInt (x5 + 1))] m101 Q else ∀ t103 : Int, t103 = (jg_or x4 (jg_shl 1 x5)) → jg_GI w 2 mm_X4_tokensFrom 29 [u0, .ref a1, u2, .int (.ofInt x3), .int (.ofInt t103), .int (.ofInt (x5 + 1))] m101 Q)))) : jg_GI w 2 mm_X4_tokensFrom 29 [u0, .ref a1, u2, .int (.ofInt x3), .int (.ofInt x4), .int (.ofInt x5)] σ Q := by
  show jg_G w 2 mm_X4_tokensFrom 29 [u0, .ref a1, u2, .int (.ofInt x3), .int (.ofInt x4), .int (.ofInt x5)] [] σ (jg_QI Q)
  refine jg_A (pc' := 31) rfl rfl (fun _ _ _ => rfl) ?_
  refine jg_A (pc' := 32) rfl rfl (fun _ _ _ => rfl) ?_
  refine jg_getO (pc' := 35) (k := 1) rfl h1 (by decide) rfl rfl ?_
  refine jg_getI (pc' := 38) (bi := 0) rfl (jg_sX8_0 h1) (by decide) (Or.inl rfl) rfl rfl ?_
  refine jg_cge (pc' := 41) rfl rfl (fun hc => ?_) (fun hc => ?_)
  · have h := jg_t h (show jg_wr (σ.1 (a1 + 1) 0) ≤ jg_wr x5 from hc)
    refine jg_A (pc' := 71) rfl rfl (fun _ _ _ => rfl) ?_
    exact jg_iret rfl rfl h
  · have h := jg_f h (show ¬ (jg_wr (σ.1 (a1 + 1) 0) ≤ jg_wr x5) from hc)
    refine jg_A (pc' := 42) rfl rfl (fun _ _ _ => rfl) ?_
    refine jg_getO (pc' := 45) (k := 10) rfl h1 (by decide) rfl rfl ?_
    refine jg_A (pc' := 46) rfl rfl (fun _ _ _ => rfl) ?_
    refine jg_A (pc' := 48) rfl rfl (fun _ _ _ => rfl) ?_
    refine jg_calX (M1 := mm_X7_moveBy) (hy := 1) (pc' := 51) rfl jm_X7_moveBy (by decide) rfl (jg_sX8_1 h1) (by decide) ⟨Nat.le_of_ble_eq_true rfl, rfl⟩ (Nat.le_of_ble_eq_true rfl) rfl h (jg_kI (fun z102 m101 h => ?_))
    refine jg_iflt (pc' := 54) rfl rfl (fun hc => ?_) (fun hc => ?_)
    · have h := jg_t h (show jg_wr z102 < 0 from hc)
      refine jg_iinc (pc' := 66) (ls' := [u0, .ref a1, u2, .int (.ofInt x3), .int (.ofInt x4), .int (.ofInt (x5 + 1))]) rfl rfl rfl rfl ?_
      refine jg_goto rfl ?_
      exact h
    · have h := jg_f h (show ¬ (jg_wr z102 < 0) from hc)
      refine jg_A (pc' := 56) rfl rfl (fun _ _ _ => rfl) ?_
      refine jg_A (pc' := 57) rfl rfl (fun _ _ _ => rfl) ?_
      refine jg_A (pc' := 59) rfl rfl (fun _ _ _ => rfl) ?_
      refine jg_ishl (pc' := 60) rfl rfl ?_
      refine jg_ior (pc' := 61) rfl rfl ?_
      refine jg_nm (F := fun t103 => jg_G w 2 mm_X4_tokensFrom 61 [u0, .ref a1, u2, .int (.ofInt x3), .int (.ofInt x4), .int (.ofInt x5)] [.int (.ofInt t103)] m101 (jg_QI Q)) (jg_or x4 (jg_shl 1 x5)) (fun t103 ht103 => ?_)
      have h := h t103 ht103
      refine jg_A (pc' := 63) (ls' := [u0, .ref a1, u2, .int (.ofInt x3), .int (.ofInt t103), .int (.ofInt x5)]) rfl rfl (fun _ _ _ => rfl) ?_
      refine jg_iinc (pc' := 66) (ls' := [u0, .ref a1, u2, .int (.ofInt x3), .int (.ofInt t103), .int (.ofInt (x5 + 1))]) rfl rfl rfl rfl ?_
      refine jg_goto rfl ?_
      exact h
set_option maxRecDepth 100000 in
set_option maxHeartbeats 4000000 in
theorem jb_X4_aftersRead_0 {w : Nat} {a0 : Nat} {a1 : Nat} {x2 : Int} {σ : jg_M} {Q : Int → jg_M → Prop} (h0 : jg_sh a0 = (4, 0)) (h1 : jg_sh a1 = (8, 0)) (h : ((0 : Int) ≤ jg_wr x2 ∧ jg_wr x2 < (240 : Int)) ∧ ((0 : Int) ≤ jg_wr x2 ∧ jg_wr x2 < (240 : Int)) ∧ jg_CI w 1 mm_X7_moveBy [.ref (a1 + 10), .int (.ofInt (σ.1 (a0 + 1) (jg_wr x2))), .int (.ofInt (10 + (σ.1 (a0 + 2) (jg_wr x2))))] σ (fun (z102 : Int) (m101 : jg_M) => jg_GI w 2 mm_X4_aftersRead 29 [.ref a0, .ref a1, .int (.ofInt x2), .int (.ofInt z102), .int (.ofInt 0), .int (.ofInt 0), mj_U] m101 Q)) : jg_CI w 2 mm_X4_aftersRead [.ref a0, .ref a1, .int (.ofInt x2)] σ Q := by
  show jg_G w 2 mm_X4_aftersRead 0 [.ref a0, .ref a1, .int (.ofInt x2), mj_U, mj_U, mj_U, mj_U] [] σ (jg_QI Q)
  refine jg_A (pc' := 1) rfl rfl (fun _ _ _ => rfl) ?_
  refine jg_getO (pc' := 4) (k := 10) rfl h1 (by decide) rfl rfl ?_
  refine jg_A (pc' := 5) rfl rfl (fun _ _ _ => rfl) ?_
  refine jg_getO (pc' := 8) (k := 1) rfl h0 (by decide) rfl rfl ?_
  refine jg_A (pc' := 9) rfl rfl (fun _ _ _ => rfl) ?_
  obtain ⟨hg, h⟩ := h
  refine jg_iald (pc' := 10) rfl (jg_sX4_4 h0) hg rfl ?_
  refine jg_A (pc' := 12) rfl rfl (fun _ _ _ => rfl) ?_
  refine jg_A (pc' := 13) rfl rfl (fun _ _ _ => rfl) ?_
  refine jg_getO (pc' := 16) (k := 2) rfl h0 (by decide) rfl rfl ?_
  refine jg_A (pc' := 17) rfl rfl (fun _ _ _ => rfl) ?_
  obtain ⟨hg, h⟩ := h
  refine jg_iald (pc' := 18) rfl (jg_sX4_5 h0) hg rfl ?_
  refine jg_iadd (pc' := 19) rfl rfl ?_
  refine jg_calX (M1 := mm_X7_moveBy) (hy := 1) (pc' := 22) rfl jm_X7_moveBy (by decide) rfl (jg_sX8_1 h1) (by decide) ⟨Nat.le_of_ble_eq_true rfl, rfl⟩ (Nat.le_of_ble_eq_true rfl) rfl h (jg_kI (fun z102 m101 h => ?_))
  refine jg_A (pc' := 23) (ls' := [.ref a0, .ref a1, .int (.ofInt x2), .int (.ofInt z102), mj_U, mj_U, mj_U]) rfl rfl (fun _ _ _ => rfl) ?_
  refine jg_A (pc' := 24) rfl rfl (fun _ _ _ => rfl) ?_
  refine jg_A (pc' := 26) (ls' := [.ref a0, .ref a1, .int (.ofInt x2), .int (.ofInt z102), .int (.ofInt 0), mj_U, mj_U]) rfl rfl (fun _ _ _ => rfl) ?_
  refine jg_A (pc' := 27) rfl rfl (fun _ _ _ => rfl) ?_
  refine jg_A (pc' := 29) (ls' := [.ref a0, .ref a1, .int (.ofInt x2), .int (.ofInt z102), .int (.ofInt 0), .int (.ofInt 0), mj_U]) rfl rfl (fun _ _ _ => rfl) ?_
  exact h
set_option maxRecDepth 100000 in
set_option maxHeartbeats 4000000 in
theorem jb_X4_aftersRead_29 {w : Nat} {a0 : Nat} {a1 : Nat} {u2 : Value} {x3 : Int} {x4 : Int} {x5 : Int} {u6 : Value} {σ : jg_M} {Q : Int → jg_M → Prop} (h0 : jg_sh a0 = (4, 0)) (h1 : jg_sh a1 = (8, 0)) (h : (if 5 ≤ jg_wr x5 then Q x4 σ else jg_CI w 0 mm_X4_numberOf [.ref a0, .int (.ofInt x3), .int (.ofInt x5)] σ (fun (z102 : Int) (m101 : jg_M) => (if jg_wr z102 < 0 then jg_GI w 2 mm_X4_aftersRead 29 [.ref a0, .ref a1, u2, .int (.ofInt x3), .int (.ofInt x4), .int (.ofInt (x5 + 1)), .int (.ofInt z102)] m101 Q else (if 240 ≤ jg_wr z102 then jg_GI w 2 mm_X4_aftersRead 29 [.ref a0, .ref a1, u2, .int (.ofInt x3), .int (.ofInt x4), .int (.ofInt (x5 + 1)), .int (.ofInt z102)] m101 Q else jg_CI w 0 mm_X0_isEmpty [.ref (a1 + 1), .int (.ofInt x5)] m101 (fun (z104 : Int) (m103 : jg_M) => (if jg_wr z104 = 0 then jg_GI w 2 mm_X4_aftersRead 29 [.ref a0, .ref a1, u2, .int (.ofInt x3), .int (.ofInt x4), .int (.ofInt (x5 + 1)), .int (.ofInt z102)] m103 Q else ((0 : Int) ≤ jg_wr z102 ∧ jg_wr z102 < (240 : Int)) ∧ ∀ t105 : Int, t105 = (jg_or x4 (m103.1 (a0 + 4) (jg_wr z102))) → jg_GI w 2 mm_X4_aftersRead 29 [.ref a0, .ref a1, u2, .int (.ofInt x3), .int (.ofInt t105), .int (.ofInt (x5 + 1)), .int (.ofInt z102)] m103 Q))))))) : jg_GI w 2 mm_X4_aftersRead 29 [.ref a0, .ref a1, u2, .int (.ofInt x3), .int (.ofInt x4), .int (.ofInt x5), u6] σ Q := by
  show jg_G w 2 mm_X4_aftersRead 29 [.ref a0, .ref a1, u2, .int (.ofInt x3), .int (.ofInt x4), .int (.ofInt x5), u6] [] σ (jg_QI Q)
  refine jg_A (pc' := 31) rfl rfl (fun _ _ _ => rfl) ?_
  refine jg_A (pc' := 32) rfl rfl (fun _ _ _ => rfl) ?_
  refine jg_cge (pc' := 35) rfl rfl (fun hc => ?_) (fun hc => ?_)
  · have h := jg_t h (show 5 ≤ jg_wr x5 from hc)
    refine jg_A (pc' := 89) rfl rfl (fun _ _ _ => rfl) ?_
    exact jg_iret rfl rfl h
  · have h := jg_f h (show ¬ (5 ≤ jg_wr x5) from hc)
    refine jg_A (pc' := 36) rfl rfl (fun _ _ _ => rfl) ?_
    refine jg_A (pc' := 37) rfl rfl (fun _ _ _ => rfl) ?_
    refine jg_A (pc' := 39) rfl rfl (fun _ _ _ => rfl) ?_
    refine jg_calX (M1 := mm_X4_numberOf) (hy := 0) (pc' := 42) rfl jm_X4_numberOf (by decide) rfl h0 (by decide) ⟨Nat.le_of_ble_eq_true rfl, rfl⟩ (Nat.le_of_ble_eq_true rfl) rfl h (jg_kI (fun z102 m101 h => ?_))
    refine jg_A (pc' := 44) (ls' := [.ref a0, .ref a1, u2, .int (.ofInt x3), .int (.ofInt x4), .int (.ofInt x5), .int (.ofInt z102)]) rfl rfl (fun _ _ _ => rfl) ?_
    refine jg_A (pc' := 46) rfl rfl (fun _ _ _ => rfl) ?_
    refine jg_iflt (pc' := 49) rfl rfl (fun hc => ?_) (fun hc => ?_)
    · have h := jg_t h (show jg_wr z102 < 0 from hc)
      refine jg_iinc (pc' := 84) (ls' := [.ref a0, .ref a1, u2, .int (.ofInt x3), .int (.ofInt x4), .int (.ofInt (x5 + 1)), .int (.ofInt z102)]) rfl rfl rfl rfl ?_
      refine jg_goto rfl ?_
      exact h
    · have h := jg_f h (show ¬ (jg_wr z102 < 0) from hc)
      refine jg_A (pc' := 51) rfl rfl (fun _ _ _ => rfl) ?_
      refine jg_A (pc' := 54) rfl rfl (fun _ _ _ => rfl) ?_
      refine jg_cge (pc' := 57) rfl rfl (fun hc => ?_) (fun hc => ?_)
      · have h := jg_t h (show 240 ≤ jg_wr z102 from hc)
        refine jg_iinc (pc' := 84) (ls' := [.ref a0, .ref a1, u2, .int (.ofInt x3), .int (.ofInt x4), .int (.ofInt (x5 + 1)), .int (.ofInt z102)]) rfl rfl rfl rfl ?_
        refine jg_goto rfl ?_
        exact h
      · have h := jg_f h (show ¬ (240 ≤ jg_wr z102) from hc)
        refine jg_A (pc' := 58) rfl rfl (fun _ _ _ => rfl) ?_
        refine jg_getO (pc' := 61) (k := 1) rfl h1 (by decide) rfl rfl ?_
        refine jg_A (pc' := 63) rfl rfl (fun _ _ _ => rfl) ?_
        refine jg_calX (M1 := mm_X0_isEmpty) (hy := 0) (pc' := 66) rfl jm_X0_isEmpty (by decide) rfl (jg_sX8_0 h1) (by decide) ⟨Nat.le_of_ble_eq_true rfl, rfl⟩ (Nat.le_of_ble_eq_true rfl) rfl h (jg_kI (fun z104 m103 h => ?_))
        refine jg_ifeq (pc' := 69) rfl rfl (fun hc => ?_) (fun hc => ?_)
        · have h := jg_t h (show jg_wr z104 = 0 from hc)
          refine jg_iinc (pc' := 84) (ls' := [.ref a0, .ref a1, u2, .int (.ofInt x3), .int (.ofInt x4), .int (.ofInt (x5 + 1)), .int (.ofInt z102)]) rfl rfl rfl rfl ?_
          refine jg_goto rfl ?_
          exact h
        · have h := jg_f h (show ¬ (jg_wr z104 = 0) from hc)
          refine jg_A (pc' := 71) rfl rfl (fun _ _ _ => rfl) ?_
          refine jg_A (pc' := 72) rfl rfl (fun _ _ _ => rfl) ?_
          refine jg_getO (pc' := 75) (k := 4) rfl h0 (by decide) rfl rfl ?_
          refine jg_A (pc' := 77) rfl rfl (fun _ _ _ => rfl) ?_
          obtain ⟨hg, h⟩ := h
          refine jg_iald (pc' := 78) rfl (jg_sX4_7 h0) hg rfl ?_
          refine jg_ior (pc' := 79) rfl rfl ?_
          refine jg_nm (F := fun t105 => jg_G w 2 mm_X4_aftersRead 79 [.ref a0, .ref a1, u2, .int (.ofInt x3), .int (.ofInt x4), .int (.ofInt x5), .int (.ofInt z102)] [.int (.ofInt t105)] m103 (jg_QI Q)) (jg_or x4 (m103.1 (a0 + 4) (jg_wr z102))) (fun t105 ht105 => ?_)
          have h := h t105 ht105
          refine jg_A (pc' := 81) (ls' := [.ref a0, .ref a1, u2, .int (.ofInt x3), .int (.ofInt t105), .int (.ofInt x5), .int (.ofInt z102)]) rfl rfl (fun _ _ _ => rfl) ?_
          refine jg_iinc (pc' := 84) (ls' := [.ref a0, .ref a1, u2, .int (.ofInt x3), .int (.ofInt t105), .int (.ofInt (x5 + 1)), .int (.ofInt z102)]) rfl rfl rfl rfl ?_
          refine jg_goto rfl ?_
          exact h
set_option maxRecDepth 100000 in
set_option maxHeartbeats 4000000 in
theorem jb_X4_aftersIncluded_0 {w : Nat} {a0 : Nat} {x1 : Int} {σ : jg_M} {Q : Int → jg_M → Prop} (h0 : jg_sh a0 = (4, 0)) (h : jg_GI w 2 mm_X4_aftersIncluded 4 [.ref a0, .int (.ofInt x1), .int (.ofInt 0), .int (.ofInt 0)] σ Q) : jg_CI w 2 mm_X4_aftersIncluded [.ref a0, .int (.ofInt x1)] σ Q := by
  show jg_G w 2 mm_X4_aftersIncluded 0 [.ref a0, .int (.ofInt x1), mj_U, mj_U] [] σ (jg_QI Q)
  refine jg_A (pc' := 1) rfl rfl (fun _ _ _ => rfl) ?_
  refine jg_A (pc' := 2) (ls' := [.ref a0, .int (.ofInt x1), .int (.ofInt 0), mj_U]) rfl rfl (fun _ _ _ => rfl) ?_
  refine jg_A (pc' := 3) rfl rfl (fun _ _ _ => rfl) ?_
  refine jg_A (pc' := 4) (ls' := [.ref a0, .int (.ofInt x1), .int (.ofInt 0), .int (.ofInt 0)]) rfl rfl (fun _ _ _ => rfl) ?_
  exact h
set_option maxRecDepth 100000 in
set_option maxHeartbeats 4000000 in
theorem jb_X4_aftersIncluded_4 {w : Nat} {a0 : Nat} {x1 : Int} {x2 : Int} {x3 : Int} {σ : jg_M} {Q : Int → jg_M → Prop} (h0 : jg_sh a0 = (4, 0)) (h : (if jg_wr (σ.1 a0 0) ≤ jg_wr x3 then Q x2 σ else jg_CI w 1 mm_X4_inRow [.ref (a0 + 5), .int (.ofInt x1), .int (.ofInt x3)] σ (fun (z102 : Int) (m101 : jg_M) => (if jg_wr z102 = 0 then jg_GI w 2 mm_X4_aftersIncluded 4 [.ref a0, .int (.ofInt x1), .int (.ofInt x2), .int (.ofInt (x3 + 1))] m101 Q else ((0 : Int) ≤ jg_wr x3 ∧ jg_wr x3 < (240 : Int)) ∧ ∀ t103 : Int, t103 = (jg_or x2 (m101.1 (a0 + 4) (jg_wr x3))) → jg_GI w 2 mm_X4_aftersIncluded 4 [.ref a0, .int (.ofInt x1), .int (.ofInt t103), .int (.ofInt (x3 + 1))] m101 Q)))) : jg_GI w 2 mm_X4_aftersIncluded 4 [.ref a0, .int (.ofInt x1), .int (.ofInt x2), .int (.ofInt x3)] σ Q := by
  show jg_G w 2 mm_X4_aftersIncluded 4 [.ref a0, .int (.ofInt x1), .int (.ofInt x2), .int (.ofInt x3)] [] σ (jg_QI Q)
  refine jg_A (pc' := 5) rfl rfl (fun _ _ _ => rfl) ?_
  refine jg_A (pc' := 6) rfl rfl (fun _ _ _ => rfl) ?_
  refine jg_getI (pc' := 9) (bi := 0) rfl h0 (by decide) (Or.inl rfl) rfl rfl ?_
  refine jg_cge (pc' := 12) rfl rfl (fun hc => ?_) (fun hc => ?_)
  · have h := jg_t h (show jg_wr (σ.1 a0 0) ≤ jg_wr x3 from hc)
    refine jg_A (pc' := 40) rfl rfl (fun _ _ _ => rfl) ?_
    exact jg_iret rfl rfl h
  · have h := jg_f h (show ¬ (jg_wr (σ.1 a0 0) ≤ jg_wr x3) from hc)
    refine jg_A (pc' := 13) rfl rfl (fun _ _ _ => rfl) ?_
    refine jg_getO (pc' := 16) (k := 5) rfl h0 (by decide) rfl rfl ?_
    refine jg_A (pc' := 17) rfl rfl (fun _ _ _ => rfl) ?_
    refine jg_A (pc' := 18) rfl rfl (fun _ _ _ => rfl) ?_
    refine jg_calS (M1 := mm_X4_inRow) (hy := 1) (pc' := 21) rfl (Or.inl rfl) jm_X4_inRow (by decide) rfl ⟨Nat.le_of_ble_eq_true rfl, rfl⟩ (Nat.le_of_ble_eq_true rfl) rfl h (jg_kI (fun z102 m101 h => ?_))
    refine jg_ifeq (pc' := 24) rfl rfl (fun hc => ?_) (fun hc => ?_)
    · have h := jg_t h (show jg_wr z102 = 0 from hc)
      refine jg_iinc (pc' := 36) (ls' := [.ref a0, .int (.ofInt x1), .int (.ofInt x2), .int (.ofInt (x3 + 1))]) rfl rfl rfl rfl ?_
      refine jg_goto rfl ?_
      exact h
    · have h := jg_f h (show ¬ (jg_wr z102 = 0) from hc)
      refine jg_A (pc' := 25) rfl rfl (fun _ _ _ => rfl) ?_
      refine jg_A (pc' := 26) rfl rfl (fun _ _ _ => rfl) ?_
      refine jg_getO (pc' := 29) (k := 4) rfl h0 (by decide) rfl rfl ?_
      refine jg_A (pc' := 30) rfl rfl (fun _ _ _ => rfl) ?_
      obtain ⟨hg, h⟩ := h
      refine jg_iald (pc' := 31) rfl (jg_sX4_7 h0) hg rfl ?_
      refine jg_ior (pc' := 32) rfl rfl ?_
      refine jg_nm (F := fun t103 => jg_G w 2 mm_X4_aftersIncluded 32 [.ref a0, .int (.ofInt x1), .int (.ofInt x2), .int (.ofInt x3)] [.int (.ofInt t103)] m101 (jg_QI Q)) (jg_or x2 (m101.1 (a0 + 4) (jg_wr x3))) (fun t103 ht103 => ?_)
      have h := h t103 ht103
      refine jg_A (pc' := 33) (ls' := [.ref a0, .int (.ofInt x1), .int (.ofInt t103), .int (.ofInt x3)]) rfl rfl (fun _ _ _ => rfl) ?_
      refine jg_iinc (pc' := 36) (ls' := [.ref a0, .int (.ofInt x1), .int (.ofInt t103), .int (.ofInt (x3 + 1))]) rfl rfl rfl rfl ?_
      refine jg_goto rfl ?_
      exact h
set_option maxRecDepth 100000 in
set_option maxHeartbeats 4000000 in
theorem jb_X4_afterMove_0 {w : Nat} {a0 : Nat} {x1 : Int} {x2 : Int} {σ : jg_M} {Q : Int → jg_M → Prop} (h0 : jg_sh a0 = (4, 0)) (h : jg_CI w 0 mm_X4_numberOf [.ref a0, .int (.ofInt x1), .int (.ofInt x2)] σ (fun (z102 : Int) (m101 : jg_M) => (if jg_wr z102 < 0 then Q (-2) m101 else (if jg_wr (m101.1 a0 0) ≤ jg_wr z102 then Q (-2) m101 else ((0 : Int) ≤ jg_wr z102 ∧ jg_wr z102 < (240 : Int)) ∧ Q (m101.1 (a0 + 4) (jg_wr z102)) m101)))) : jg_CI w 1 mm_X4_afterMove [.ref a0, .int (.ofInt x1), .int (.ofInt x2)] σ Q := by
  show jg_G w 1 mm_X4_afterMove 0 [.ref a0, .int (.ofInt x1), .int (.ofInt x2), mj_U] [] σ (jg_QI Q)
  refine jg_A (pc' := 1) rfl rfl (fun _ _ _ => rfl) ?_
  refine jg_A (pc' := 2) rfl rfl (fun _ _ _ => rfl) ?_
  refine jg_A (pc' := 3) rfl rfl (fun _ _ _ => rfl) ?_
  refine jg_calX (M1 := mm_X4_numberOf) (hy := 0) (pc' := 6) rfl jm_X4_numberOf (by decide) rfl h0 (by decide) ⟨Nat.le_of_ble_eq_true rfl, rfl⟩ (Nat.le_of_ble_eq_true rfl) rfl h (jg_kI (fun z102 m101 h => ?_))
  refine jg_A (pc' := 7) (ls' := [.ref a0, .int (.ofInt x1), .int (.ofInt x2), .int (.ofInt z102)]) rfl rfl (fun _ _ _ => rfl) ?_
  refine jg_A (pc' := 8) rfl rfl (fun _ _ _ => rfl) ?_
  refine jg_iflt (pc' := 11) rfl rfl (fun hc => ?_) (fun hc => ?_)
  · have h := jg_t h (show jg_wr z102 < 0 from hc)
    refine jg_A (pc' := 30) rfl rfl (fun _ _ _ => rfl) ?_
    exact jg_iret rfl rfl h
  · have h := jg_f h (show ¬ (jg_wr z102 < 0) from hc)
    refine jg_A (pc' := 12) rfl rfl (fun _ _ _ => rfl) ?_
    refine jg_A (pc' := 13) rfl rfl (fun _ _ _ => rfl) ?_
    refine jg_getI (pc' := 16) (bi := 0) rfl h0 (by decide) (Or.inl rfl) rfl rfl ?_
    refine jg_cge (pc' := 19) rfl rfl (fun hc => ?_) (fun hc => ?_)
    · have h := jg_t h (show jg_wr (m101.1 a0 0) ≤ jg_wr z102 from hc)
      refine jg_A (pc' := 30) rfl rfl (fun _ _ _ => rfl) ?_
      exact jg_iret rfl rfl h
    · have h := jg_f h (show ¬ (jg_wr (m101.1 a0 0) ≤ jg_wr z102) from hc)
      refine jg_A (pc' := 20) rfl rfl (fun _ _ _ => rfl) ?_
      refine jg_getO (pc' := 23) (k := 4) rfl h0 (by decide) rfl rfl ?_
      refine jg_A (pc' := 24) rfl rfl (fun _ _ _ => rfl) ?_
      obtain ⟨hg, h⟩ := h
      refine jg_iald (pc' := 25) rfl (jg_sX4_7 h0) hg rfl ?_
      refine jg_goto rfl ?_
      exact jg_iret rfl rfl h
set_option maxRecDepth 100000 in
set_option maxHeartbeats 4000000 in
theorem jb_X4_rings_0 {w : Nat} {a0 : Nat} {σ : jg_M} {Q : Int → jg_M → Prop} (h0 : jg_sh a0 = (4, 0)) (h : jg_CV w 2 mm_X4_reachBySteps [.ref a0] σ (fun (m101 : jg_M) => jg_GI w 3 mm_X4_rings 8 [.ref a0, .int (.ofInt 0), .int (.ofInt 0)] m101 Q)) : jg_CI w 3 mm_X4_rings [.ref a0] σ Q := by
  show jg_G w 3 mm_X4_rings 0 [.ref a0, mj_U, mj_U] [] σ (jg_QI Q)
  refine jg_A (pc' := 1) rfl rfl (fun _ _ _ => rfl) ?_
  refine jg_calX (M1 := mm_X4_reachBySteps) (hy := 2) (pc' := 4) rfl jm_X4_reachBySteps (by decide) rfl h0 (by decide) ⟨Nat.le_of_ble_eq_true rfl, rfl⟩ (Nat.le_of_ble_eq_true rfl) rfl h (jg_kV (fun m101 h => ?_))
  refine jg_A (pc' := 5) rfl rfl (fun _ _ _ => rfl) ?_
  refine jg_A (pc' := 6) (ls' := [.ref a0, .int (.ofInt 0), mj_U]) rfl rfl (fun _ _ _ => rfl) ?_
  refine jg_A (pc' := 7) rfl rfl (fun _ _ _ => rfl) ?_
  refine jg_A (pc' := 8) (ls' := [.ref a0, .int (.ofInt 0), .int (.ofInt 0)]) rfl rfl (fun _ _ _ => rfl) ?_
  exact h
set_option maxRecDepth 100000 in
set_option maxHeartbeats 4000000 in
theorem jb_X4_rings_8 {w : Nat} {a0 : Nat} {x1 : Int} {x2 : Int} {σ : jg_M} {Q : Int → jg_M → Prop} (h0 : jg_sh a0 = (4, 0)) (h : (if jg_wr (σ.1 a0 0) ≤ jg_wr x2 then Q x1 σ else jg_CI w 2 mm_X4_leadsRing [.ref a0, .int (.ofInt x2)] σ (fun (z102 : Int) (m101 : jg_M) => (if jg_wr z102 = 0 then jg_GI w 3 mm_X4_rings 8 [.ref a0, .int (.ofInt x1), .int (.ofInt (x2 + 1))] m101 Q else jg_GI w 3 mm_X4_rings 8 [.ref a0, .int (.ofInt (x1 + 1)), .int (.ofInt (x2 + 1))] m101 Q)))) : jg_GI w 3 mm_X4_rings 8 [.ref a0, .int (.ofInt x1), .int (.ofInt x2)] σ Q := by
  show jg_G w 3 mm_X4_rings 8 [.ref a0, .int (.ofInt x1), .int (.ofInt x2)] [] σ (jg_QI Q)
  refine jg_A (pc' := 9) rfl rfl (fun _ _ _ => rfl) ?_
  refine jg_A (pc' := 10) rfl rfl (fun _ _ _ => rfl) ?_
  refine jg_getI (pc' := 13) (bi := 0) rfl h0 (by decide) (Or.inl rfl) rfl rfl ?_
  refine jg_cge (pc' := 16) rfl rfl (fun hc => ?_) (fun hc => ?_)
  · have h := jg_t h (show jg_wr (σ.1 a0 0) ≤ jg_wr x2 from hc)
    refine jg_A (pc' := 34) rfl rfl (fun _ _ _ => rfl) ?_
    exact jg_iret rfl rfl h
  · have h := jg_f h (show ¬ (jg_wr (σ.1 a0 0) ≤ jg_wr x2) from hc)
    refine jg_A (pc' := 17) rfl rfl (fun _ _ _ => rfl) ?_
    refine jg_A (pc' := 18) rfl rfl (fun _ _ _ => rfl) ?_
    refine jg_calX (M1 := mm_X4_leadsRing) (hy := 2) (pc' := 21) rfl jm_X4_leadsRing (by decide) rfl h0 (by decide) ⟨Nat.le_of_ble_eq_true rfl, rfl⟩ (Nat.le_of_ble_eq_true rfl) rfl h (jg_kI (fun z102 m101 h => ?_))
    refine jg_ifeq (pc' := 24) rfl rfl (fun hc => ?_) (fun hc => ?_)
    · have h := jg_t h (show jg_wr z102 = 0 from hc)
      refine jg_iinc (pc' := 30) (ls' := [.ref a0, .int (.ofInt x1), .int (.ofInt (x2 + 1))]) rfl rfl rfl rfl ?_
      refine jg_goto rfl ?_
      exact h
    · have h := jg_f h (show ¬ (jg_wr z102 = 0) from hc)
      refine jg_iinc (pc' := 27) (ls' := [.ref a0, .int (.ofInt (x1 + 1)), .int (.ofInt x2)]) rfl rfl rfl rfl ?_
      refine jg_iinc (pc' := 30) (ls' := [.ref a0, .int (.ofInt (x1 + 1)), .int (.ofInt (x2 + 1))]) rfl rfl rfl rfl ?_
      refine jg_goto rfl ?_
      exact h
set_option maxRecDepth 100000 in
set_option maxHeartbeats 4000000 in
theorem jb_X4_reachBySteps_0 {w : Nat} {a0 : Nat} {σ : jg_M} {Q : jg_M → Prop} (h0 : jg_sh a0 = (4, 0)) (h : ∀ m101 : jg_M, m101 = jg_cL σ (a0 + 5) (0) (a0 + 6) (0) (960) → jg_GV w 2 mm_X4_reachBySteps 18 [.ref a0, .int (.ofInt 0), mj_U, mj_U] m101 Q) : jg_CV w 2 mm_X4_reachBySteps [.ref a0] σ Q := by
  show jg_G w 2 mm_X4_reachBySteps 0 [.ref a0, mj_U, mj_U, mj_U] [] σ (jg_QV Q)
  refine jg_A (pc' := 1) rfl rfl (fun _ _ _ => rfl) ?_
  refine jg_getO (pc' := 4) (k := 5) rfl h0 (by decide) rfl rfl ?_
  refine jg_A (pc' := 5) rfl rfl (fun _ _ _ => rfl) ?_
  refine jg_A (pc' := 6) rfl rfl (fun _ _ _ => rfl) ?_
  refine jg_getO (pc' := 9) (k := 6) rfl h0 (by decide) rfl rfl ?_
  refine jg_A (pc' := 10) rfl rfl (fun _ _ _ => rfl) ?_
  refine jg_A (pc' := 13) rfl rfl (fun _ _ _ => rfl) ?_
  refine jg_cpL (pc' := 16) rfl (by decide) (Nat.le_of_ble_eq_true rfl) (jg_sX4_8 h0) (jg_sX4_9 h0) (by decide) rfl (fun m101 hm101 => ?_)
  have h := h m101 hm101
  refine jg_A (pc' := 17) rfl rfl (fun _ _ _ => rfl) ?_
  refine jg_A (pc' := 18) (ls' := [.ref a0, .int (.ofInt 0), mj_U, mj_U]) rfl rfl (fun _ _ _ => rfl) ?_
  exact h
set_option maxRecDepth 100000 in
set_option maxHeartbeats 4000000 in
theorem jb_X4_reachBySteps_18 {w : Nat} {a0 : Nat} {x1 : Int} {u2 : Value} {u3 : Value} {σ : jg_M} {Q : jg_M → Prop} (h0 : jg_sh a0 = (4, 0)) (h : (if jg_wr (σ.1 a0 0) ≤ jg_wr x1 then Q σ else jg_GV w 2 mm_X4_reachBySteps 28 [.ref a0, .int (.ofInt x1), .int (.ofInt 0), u3] σ Q)) : jg_GV w 2 mm_X4_reachBySteps 18 [.ref a0, .int (.ofInt x1), u2, u3] σ Q := by
  show jg_G w 2 mm_X4_reachBySteps 18 [.ref a0, .int (.ofInt x1), u2, u3] [] σ (jg_QV Q)
  refine jg_A (pc' := 19) rfl rfl (fun _ _ _ => rfl) ?_
  refine jg_A (pc' := 20) rfl rfl (fun _ _ _ => rfl) ?_
  refine jg_getI (pc' := 23) (bi := 0) rfl h0 (by decide) (Or.inl rfl) rfl rfl ?_
  refine jg_cge (pc' := 26) rfl rfl (fun hc => ?_) (fun hc => ?_)
  · have h := jg_t h (show jg_wr (σ.1 a0 0) ≤ jg_wr x1 from hc)
    exact jg_vret rfl rfl h
  · have h := jg_f h (show ¬ (jg_wr (σ.1 a0 0) ≤ jg_wr x1) from hc)
    refine jg_A (pc' := 27) rfl rfl (fun _ _ _ => rfl) ?_
    refine jg_A (pc' := 28) (ls' := [.ref a0, .int (.ofInt x1), .int (.ofInt 0), u3]) rfl rfl (fun _ _ _ => rfl) ?_
    exact h
set_option maxRecDepth 100000 in
set_option maxHeartbeats 4000000 in
theorem jb_X4_reachBySteps_28 {w : Nat} {a0 : Nat} {x1 : Int} {x2 : Int} {u3 : Value} {σ : jg_M} {Q : jg_M → Prop} (h0 : jg_sh a0 = (4, 0)) (h : (if jg_wr (σ.1 a0 0) ≤ jg_wr x2 then jg_GV w 2 mm_X4_reachBySteps 18 [.ref a0, .int (.ofInt (x1 + 1)), .int (.ofInt x2), u3] σ Q else jg_CI w 1 mm_X4_inRow [.ref (a0 + 6), .int (.ofInt x2), .int (.ofInt x1)] σ (fun (z102 : Int) (m101 : jg_M) => (if jg_wr z102 = 0 then jg_GV w 2 mm_X4_reachBySteps 28 [.ref a0, .int (.ofInt x1), .int (.ofInt (x2 + 1)), u3] m101 Q else jg_GV w 2 mm_X4_reachBySteps 50 [.ref a0, .int (.ofInt x1), .int (.ofInt x2), .int (.ofInt 0)] m101 Q)))) : jg_GV w 2 mm_X4_reachBySteps 28 [.ref a0, .int (.ofInt x1), .int (.ofInt x2), u3] σ Q := by
  show jg_G w 2 mm_X4_reachBySteps 28 [.ref a0, .int (.ofInt x1), .int (.ofInt x2), u3] [] σ (jg_QV Q)
  refine jg_A (pc' := 29) rfl rfl (fun _ _ _ => rfl) ?_
  refine jg_A (pc' := 30) rfl rfl (fun _ _ _ => rfl) ?_
  refine jg_getI (pc' := 33) (bi := 0) rfl h0 (by decide) (Or.inl rfl) rfl rfl ?_
  refine jg_cge (pc' := 36) rfl rfl (fun hc => ?_) (fun hc => ?_)
  · have h := jg_t h (show jg_wr (σ.1 a0 0) ≤ jg_wr x2 from hc)
    refine jg_iinc (pc' := 93) (ls' := [.ref a0, .int (.ofInt (x1 + 1)), .int (.ofInt x2), u3]) rfl rfl rfl rfl ?_
    refine jg_goto rfl ?_
    exact h
  · have h := jg_f h (show ¬ (jg_wr (σ.1 a0 0) ≤ jg_wr x2) from hc)
    refine jg_A (pc' := 37) rfl rfl (fun _ _ _ => rfl) ?_
    refine jg_getO (pc' := 40) (k := 6) rfl h0 (by decide) rfl rfl ?_
    refine jg_A (pc' := 41) rfl rfl (fun _ _ _ => rfl) ?_
    refine jg_A (pc' := 42) rfl rfl (fun _ _ _ => rfl) ?_
    refine jg_calS (M1 := mm_X4_inRow) (hy := 1) (pc' := 45) rfl (Or.inl rfl) jm_X4_inRow (by decide) rfl ⟨Nat.le_of_ble_eq_true rfl, rfl⟩ (Nat.le_of_ble_eq_true rfl) rfl h (jg_kI (fun z102 m101 h => ?_))
    refine jg_ifeq (pc' := 48) rfl rfl (fun hc => ?_) (fun hc => ?_)
    · have h := jg_t h (show jg_wr z102 = 0 from hc)
      refine jg_iinc (pc' := 87) (ls' := [.ref a0, .int (.ofInt x1), .int (.ofInt (x2 + 1)), u3]) rfl rfl rfl rfl ?_
      refine jg_goto rfl ?_
      exact h
    · have h := jg_f h (show ¬ (jg_wr z102 = 0) from hc)
      refine jg_A (pc' := 49) rfl rfl (fun _ _ _ => rfl) ?_
      refine jg_A (pc' := 50) (ls' := [.ref a0, .int (.ofInt x1), .int (.ofInt x2), .int (.ofInt 0)]) rfl rfl (fun _ _ _ => rfl) ?_
      exact h
set_option maxRecDepth 100000 in
set_option maxHeartbeats 4000000 in
theorem jb_X4_reachBySteps_50 {w : Nat} {a0 : Nat} {x1 : Int} {x2 : Int} {x3 : Int} {σ : jg_M} {Q : jg_M → Prop} (h0 : jg_sh a0 = (4, 0)) (h : (if 4 ≤ jg_wr x3 then jg_GV w 2 mm_X4_reachBySteps 28 [.ref a0, .int (.ofInt x1), .int (.ofInt (x2 + 1)), .int (.ofInt x3)] σ Q else ((0 : Int) ≤ jg_wr ((x2 * 4) + x3) ∧ jg_wr ((x2 * 4) + x3) < (960 : Int)) ∧ ((0 : Int) ≤ jg_wr ((x1 * 4) + x3) ∧ jg_wr ((x1 * 4) + x3) < (960 : Int)) ∧ ((0 : Int) ≤ (jg_wr ((x2 * 4) + x3)) ∧ (jg_wr ((x2 * 4) + x3)) < (960 : Int)) ∧ ∀ m101 : jg_M, m101 = jg_sL σ (a0 + 6) (jg_wr ((x2 * 4) + x3)) (jg_qor (σ.2 (a0 + 6) (jg_wr ((x2 * 4) + x3))) (σ.2 (a0 + 6) (jg_wr ((x1 * 4) + x3)))) → jg_GV w 2 mm_X4_reachBySteps 50 [.ref a0, .int (.ofInt x1), .int (.ofInt x2), .int (.ofInt (x3 + 1))] m101 Q)) : jg_GV w 2 mm_X4_reachBySteps 50 [.ref a0, .int (.ofInt x1), .int (.ofInt x2), .int (.ofInt x3)] σ Q := by
  show jg_G w 2 mm_X4_reachBySteps 50 [.ref a0, .int (.ofInt x1), .int (.ofInt x2), .int (.ofInt x3)] [] σ (jg_QV Q)
  refine jg_A (pc' := 51) rfl rfl (fun _ _ _ => rfl) ?_
  refine jg_A (pc' := 52) rfl rfl (fun _ _ _ => rfl) ?_
  refine jg_cge (pc' := 55) rfl rfl (fun hc => ?_) (fun hc => ?_)
  · have h := jg_t h (show 4 ≤ jg_wr x3 from hc)
    refine jg_iinc (pc' := 87) (ls' := [.ref a0, .int (.ofInt x1), .int (.ofInt (x2 + 1)), .int (.ofInt x3)]) rfl rfl rfl rfl ?_
    refine jg_goto rfl ?_
    exact h
  · have h := jg_f h (show ¬ (4 ≤ jg_wr x3) from hc)
    refine jg_A (pc' := 56) rfl rfl (fun _ _ _ => rfl) ?_
    refine jg_getO (pc' := 59) (k := 6) rfl h0 (by decide) rfl rfl ?_
    refine jg_A (pc' := 60) rfl rfl (fun _ _ _ => rfl) ?_
    refine jg_A (pc' := 61) rfl rfl (fun _ _ _ => rfl) ?_
    refine jg_imul (pc' := 62) rfl rfl ?_
    refine jg_A (pc' := 63) rfl rfl (fun _ _ _ => rfl) ?_
    refine jg_iadd (pc' := 64) rfl rfl ?_
    refine jg_A (pc' := 65) rfl rfl (fun _ _ _ => rfl) ?_
    obtain ⟨hg, h⟩ := h
    refine jg_lald (pc' := 66) rfl (jg_sX4_9 h0) hg rfl ?_
    refine jg_A (pc' := 67) rfl rfl (fun _ _ _ => rfl) ?_
    refine jg_getO (pc' := 70) (k := 6) rfl h0 (by decide) rfl rfl ?_
    refine jg_A (pc' := 71) rfl rfl (fun _ _ _ => rfl) ?_
    refine jg_A (pc' := 72) rfl rfl (fun _ _ _ => rfl) ?_
    refine jg_imul (pc' := 73) rfl rfl ?_
    refine jg_A (pc' := 74) rfl rfl (fun _ _ _ => rfl) ?_
    refine jg_iadd (pc' := 75) rfl rfl ?_
    obtain ⟨hg, h⟩ := h
    refine jg_lald (pc' := 76) rfl (jg_sX4_9 h0) hg rfl ?_
    refine jg_lor (pc' := 77) rfl rfl ?_
    obtain ⟨hg, h⟩ := h
    refine jg_last (pc' := 78) rfl (jg_sX4_9 h0) hg rfl (fun m101 hm101 => ?_)
    have h := h m101 hm101
    refine jg_iinc (pc' := 81) (ls' := [.ref a0, .int (.ofInt x1), .int (.ofInt x2), .int (.ofInt (x3 + 1))]) rfl rfl rfl rfl ?_
    refine jg_goto rfl ?_
    exact h
set_option maxRecDepth 100000 in
set_option maxHeartbeats 4000000 in
theorem jb_X4_leadsRing_0 {w : Nat} {a0 : Nat} {x1 : Int} {σ : jg_M} {Q : Int → jg_M → Prop} (h0 : jg_sh a0 = (4, 0)) (h : jg_GI w 2 mm_X4_leadsRing 4 [.ref a0, .int (.ofInt x1), .int (.ofInt 0), .int (.ofInt 0)] σ Q) : jg_CI w 2 mm_X4_leadsRing [.ref a0, .int (.ofInt x1)] σ Q := by
  show jg_G w 2 mm_X4_leadsRing 0 [.ref a0, .int (.ofInt x1), mj_U, mj_U] [] σ (jg_QI Q)
  refine jg_A (pc' := 1) rfl rfl (fun _ _ _ => rfl) ?_
  refine jg_A (pc' := 2) (ls' := [.ref a0, .int (.ofInt x1), .int (.ofInt 0), mj_U]) rfl rfl (fun _ _ _ => rfl) ?_
  refine jg_A (pc' := 3) rfl rfl (fun _ _ _ => rfl) ?_
  refine jg_A (pc' := 4) (ls' := [.ref a0, .int (.ofInt x1), .int (.ofInt 0), .int (.ofInt 0)]) rfl rfl (fun _ _ _ => rfl) ?_
  exact h
set_option maxRecDepth 100000 in
set_option maxHeartbeats 4000000 in
theorem jb_X4_leadsRing_4 {w : Nat} {a0 : Nat} {x1 : Int} {x2 : Int} {x3 : Int} {σ : jg_M} {Q : Int → jg_M → Prop} (h0 : jg_sh a0 = (4, 0)) (h : (if jg_wr (σ.1 a0 0) ≤ jg_wr x3 then ((jg_wr x2 = 0 ∨ jg_wr x2 = 1) ∧ Q x2 σ) else (if jg_wr x3 = jg_wr x1 then jg_GI w 2 mm_X4_leadsRing 4 [.ref a0, .int (.ofInt x1), .int (.ofInt x2), .int (.ofInt (x3 + 1))] σ Q else jg_CI w 1 mm_X4_inRow [.ref (a0 + 6), .int (.ofInt x1), .int (.ofInt x3)] σ (fun (z102 : Int) (m101 : jg_M) => (if jg_wr z102 = 0 then jg_GI w 2 mm_X4_leadsRing 4 [.ref a0, .int (.ofInt x1), .int (.ofInt x2), .int (.ofInt (x3 + 1))] m101 Q else jg_CI w 1 mm_X4_inRow [.ref (a0 + 6), .int (.ofInt x3), .int (.ofInt x1)] m101 (fun (z104 : Int) (m103 : jg_M) => (if jg_wr z104 = 0 then jg_GI w 2 mm_X4_leadsRing 4 [.ref a0, .int (.ofInt x1), .int (.ofInt x2), .int (.ofInt (x3 + 1))] m103 Q else (if jg_wr x1 ≤ jg_wr x3 then jg_GI w 2 mm_X4_leadsRing 4 [.ref a0, .int (.ofInt x1), .int (.ofInt 1), .int (.ofInt (x3 + 1))] m103 Q else Q 0 m103)))))))) : jg_GI w 2 mm_X4_leadsRing 4 [.ref a0, .int (.ofInt x1), .int (.ofInt x2), .int (.ofInt x3)] σ Q := by
  show jg_G w 2 mm_X4_leadsRing 4 [.ref a0, .int (.ofInt x1), .int (.ofInt x2), .int (.ofInt x3)] [] σ (jg_QI Q)
  refine jg_A (pc' := 5) rfl rfl (fun _ _ _ => rfl) ?_
  refine jg_A (pc' := 6) rfl rfl (fun _ _ _ => rfl) ?_
  refine jg_getI (pc' := 9) (bi := 0) rfl h0 (by decide) (Or.inl rfl) rfl rfl ?_
  refine jg_cge (pc' := 12) rfl rfl (fun hc => ?_) (fun hc => ?_)
  · have h := jg_t h (show jg_wr (σ.1 a0 0) ≤ jg_wr x3 from hc)
    refine jg_A (pc' := 57) rfl rfl (fun _ _ _ => rfl) ?_
    exact jg_zret rfl rfl h.1 h.2
  · have h := jg_f h (show ¬ (jg_wr (σ.1 a0 0) ≤ jg_wr x3) from hc)
    refine jg_A (pc' := 13) rfl rfl (fun _ _ _ => rfl) ?_
    refine jg_A (pc' := 14) rfl rfl (fun _ _ _ => rfl) ?_
    refine jg_ceq (pc' := 17) rfl rfl (fun hc => ?_) (fun hc => ?_)
    · have h := jg_t h (show jg_wr x3 = jg_wr x1 from hc)
      refine jg_iinc (pc' := 53) (ls' := [.ref a0, .int (.ofInt x1), .int (.ofInt x2), .int (.ofInt (x3 + 1))]) rfl rfl rfl rfl ?_
      refine jg_goto rfl ?_
      exact h
    · have h := jg_f h (show ¬ (jg_wr x3 = jg_wr x1) from hc)
      refine jg_A (pc' := 18) rfl rfl (fun _ _ _ => rfl) ?_
      refine jg_getO (pc' := 21) (k := 6) rfl h0 (by decide) rfl rfl ?_
      refine jg_A (pc' := 22) rfl rfl (fun _ _ _ => rfl) ?_
      refine jg_A (pc' := 23) rfl rfl (fun _ _ _ => rfl) ?_
      refine jg_calS (M1 := mm_X4_inRow) (hy := 1) (pc' := 26) rfl (Or.inl rfl) jm_X4_inRow (by decide) rfl ⟨Nat.le_of_ble_eq_true rfl, rfl⟩ (Nat.le_of_ble_eq_true rfl) rfl h (jg_kI (fun z102 m101 h => ?_))
      refine jg_ifeq (pc' := 29) rfl rfl (fun hc => ?_) (fun hc => ?_)
      · have h := jg_t h (show jg_wr z102 = 0 from hc)
        refine jg_iinc (pc' := 53) (ls' := [.ref a0, .int (.ofInt x1), .int (.ofInt x2), .int (.ofInt (x3 + 1))]) rfl rfl rfl rfl ?_
        refine jg_goto rfl ?_
        exact h
      · have h := jg_f h (show ¬ (jg_wr z102 = 0) from hc)
        refine jg_A (pc' := 30) rfl rfl (fun _ _ _ => rfl) ?_
        refine jg_getO (pc' := 33) (k := 6) rfl h0 (by decide) rfl rfl ?_
        refine jg_A (pc' := 34) rfl rfl (fun _ _ _ => rfl) ?_
        refine jg_A (pc' := 35) rfl rfl (fun _ _ _ => rfl) ?_
        refine jg_calS (M1 := mm_X4_inRow) (hy := 1) (pc' := 38) rfl (Or.inl rfl) jm_X4_inRow (by decide) rfl ⟨Nat.le_of_ble_eq_true rfl, rfl⟩ (Nat.le_of_ble_eq_true rfl) rfl h (jg_kI (fun z104 m103 h => ?_))
        refine jg_ifeq (pc' := 41) rfl rfl (fun hc => ?_) (fun hc => ?_)
        · have h := jg_t h (show jg_wr z104 = 0 from hc)
          refine jg_iinc (pc' := 53) (ls' := [.ref a0, .int (.ofInt x1), .int (.ofInt x2), .int (.ofInt (x3 + 1))]) rfl rfl rfl rfl ?_
          refine jg_goto rfl ?_
          exact h
        · have h := jg_f h (show ¬ (jg_wr z104 = 0) from hc)
          refine jg_A (pc' := 42) rfl rfl (fun _ _ _ => rfl) ?_
          refine jg_A (pc' := 43) rfl rfl (fun _ _ _ => rfl) ?_
          refine jg_cge (pc' := 46) rfl rfl (fun hc => ?_) (fun hc => ?_)
          · have h := jg_t h (show jg_wr x1 ≤ jg_wr x3 from hc)
            refine jg_A (pc' := 49) rfl rfl (fun _ _ _ => rfl) ?_
            refine jg_A (pc' := 50) (ls' := [.ref a0, .int (.ofInt x1), .int (.ofInt 1), .int (.ofInt x3)]) rfl rfl (fun _ _ _ => rfl) ?_
            refine jg_iinc (pc' := 53) (ls' := [.ref a0, .int (.ofInt x1), .int (.ofInt 1), .int (.ofInt (x3 + 1))]) rfl rfl rfl rfl ?_
            refine jg_goto rfl ?_
            exact h
          · have h := jg_f h (show ¬ (jg_wr x1 ≤ jg_wr x3) from hc)
            refine jg_A (pc' := 47) rfl rfl (fun _ _ _ => rfl) ?_
            exact jg_zret rfl rfl (by decide) h
set_option maxRecDepth 100000 in
set_option maxHeartbeats 4000000 in
theorem jb_X5_copy_0 {w : Nat} {a0 : Nat} {a1 : Nat} {σ : jg_M} {Q : jg_M → Prop} (h0 : jg_sh a0 = (5, 0)) (h1 : jg_sh a1 = (5, 0)) (h : ∀ m101 : jg_M, m101 = jg_cI σ (a1 + 1) (0) (a0 + 1) (0) (40) → ∀ m102 : jg_M, m102 = jg_sI m101 a0 2 (m101.1 a1 2) → ∀ m103 : jg_M, m103 = jg_sI m102 a0 3 (m102.1 a1 3) → ∀ m104 : jg_M, m104 = jg_sI m103 a0 4 (m103.1 a1 4) → Q m104) : jg_CV w 1 mm_X5_copy [.ref a0, .ref a1] σ Q := by
  show jg_G w 1 mm_X5_copy 0 [.ref a0, .ref a1] [] σ (jg_QV Q)
  refine jg_A (pc' := 1) rfl rfl (fun _ _ _ => rfl) ?_
  refine jg_getO (pc' := 4) (k := 1) rfl h1 (by decide) rfl rfl ?_
  refine jg_A (pc' := 5) rfl rfl (fun _ _ _ => rfl) ?_
  refine jg_A (pc' := 6) rfl rfl (fun _ _ _ => rfl) ?_
  refine jg_getO (pc' := 9) (k := 1) rfl h0 (by decide) rfl rfl ?_
  refine jg_A (pc' := 10) rfl rfl (fun _ _ _ => rfl) ?_
  refine jg_A (pc' := 12) rfl rfl (fun _ _ _ => rfl) ?_
  refine jg_cpI (pc' := 15) rfl (by decide) (Nat.le_of_ble_eq_true rfl) (jg_sX5_1 h1) (jg_sX5_1 h0) (by decide) rfl (fun m101 hm101 => ?_)
  have h := h m101 hm101
  refine jg_A (pc' := 16) rfl rfl (fun _ _ _ => rfl) ?_
  refine jg_A (pc' := 17) rfl rfl (fun _ _ _ => rfl) ?_
  refine jg_getI (pc' := 20) (bi := 2) rfl h1 (by decide) (Or.inl rfl) rfl rfl ?_
  refine jg_putI (pc' := 23) (bi := 2) rfl h0 (by decide) rfl rfl rfl rfl (fun m102 hm102 => ?_)
  have h := h m102 hm102
  refine jg_A (pc' := 24) rfl rfl (fun _ _ _ => rfl) ?_
  refine jg_A (pc' := 25) rfl rfl (fun _ _ _ => rfl) ?_
  refine jg_getI (pc' := 28) (bi := 3) rfl h1 (by decide) (Or.inl rfl) rfl rfl ?_
  refine jg_putI (pc' := 31) (bi := 3) rfl h0 (by decide) rfl rfl rfl rfl (fun m103 hm103 => ?_)
  have h := h m103 hm103
  refine jg_A (pc' := 32) rfl rfl (fun _ _ _ => rfl) ?_
  refine jg_A (pc' := 33) rfl rfl (fun _ _ _ => rfl) ?_
  refine jg_getI (pc' := 36) (bi := 4) rfl h1 (by decide) (Or.inl rfl) rfl rfl ?_
  refine jg_putI (pc' := 39) (bi := 4) rfl h0 (by decide) rfl rfl rfl rfl (fun m104 hm104 => ?_)
  have h := h m104 hm104
  exact jg_vret rfl rfl h
set_option maxRecDepth 100000 in
set_option maxHeartbeats 4000000 in
theorem jb_X5_begin_0 {w : Nat} {a0 : Nat} {a1 : Nat} {σ : jg_M} {Q : jg_M → Prop} (h0 : jg_sh a0 = (5, 0)) (h1 : jg_sh a1 = (8, 0)) (h : ∀ m101 : jg_M, m101 = jg_sI σ a0 2 0 → ∀ m102 : jg_M, m102 = jg_sI m101 a0 3 0 → ∀ m103 : jg_M, m103 = jg_sI m102 a0 4 0 → (if jg_wr (m103.1 (a1 + 10) 0) ≤ 0 then Q m103 else jg_CI w 0 mm_X5_add [.ref a0, .int (.ofInt 0)] m103 (fun (z105 : Int) (m104 : jg_M) => Q m104))) : jg_CV w 1 mm_X5_begin [.ref a0, .ref a1] σ Q := by
  show jg_G w 1 mm_X5_begin 0 [.ref a0, .ref a1] [] σ (jg_QV Q)
  refine jg_A (pc' := 1) rfl rfl (fun _ _ _ => rfl) ?_
  refine jg_A (pc' := 2) rfl rfl (fun _ _ _ => rfl) ?_
  refine jg_putI (pc' := 5) (bi := 2) rfl h0 (by decide) rfl rfl rfl rfl (fun m101 hm101 => ?_)
  have h := h m101 hm101
  refine jg_A (pc' := 6) rfl rfl (fun _ _ _ => rfl) ?_
  refine jg_A (pc' := 7) rfl rfl (fun _ _ _ => rfl) ?_
  refine jg_putI (pc' := 10) (bi := 3) rfl h0 (by decide) rfl rfl rfl rfl (fun m102 hm102 => ?_)
  have h := h m102 hm102
  refine jg_A (pc' := 11) rfl rfl (fun _ _ _ => rfl) ?_
  refine jg_A (pc' := 12) rfl rfl (fun _ _ _ => rfl) ?_
  refine jg_putI (pc' := 15) (bi := 4) rfl h0 (by decide) rfl rfl rfl rfl (fun m103 hm103 => ?_)
  have h := h m103 hm103
  refine jg_A (pc' := 16) rfl rfl (fun _ _ _ => rfl) ?_
  refine jg_getO (pc' := 19) (k := 10) rfl h1 (by decide) rfl rfl ?_
  refine jg_getI (pc' := 22) (bi := 0) rfl (jg_sX8_1 h1) (by decide) (Or.inl rfl) rfl rfl ?_
  refine jg_ifle (pc' := 25) rfl rfl (fun hc => ?_) (fun hc => ?_)
  · have h := jg_t h (show jg_wr (m103.1 (a1 + 10) 0) ≤ 0 from hc)
    exact jg_vret rfl rfl h
  · have h := jg_f h (show ¬ (jg_wr (m103.1 (a1 + 10) 0) ≤ 0) from hc)
    refine jg_A (pc' := 26) rfl rfl (fun _ _ _ => rfl) ?_
    refine jg_A (pc' := 27) rfl rfl (fun _ _ _ => rfl) ?_
    refine jg_calX (M1 := mm_X5_add) (hy := 0) (pc' := 30) rfl jm_X5_add (by decide) rfl h0 (by decide) ⟨Nat.le_of_ble_eq_true rfl, rfl⟩ (Nat.le_of_ble_eq_true rfl) rfl h (jg_kI (fun z105 m104 h => ?_))
    refine jg_A (pc' := 31) rfl rfl (fun _ _ _ => rfl) ?_
    exact jg_vret rfl rfl h
set_option maxRecDepth 100000 in
set_option maxHeartbeats 4000000 in
theorem jb_X5_stateBehindLast_0 {w : Nat} {a0 : Nat} {x1 : Int} {σ : jg_M} {Q : Int → jg_M → Prop} (h0 : jg_sh a0 = (5, 0)) (h : (if jg_wr x1 < 0 then Q (-2) σ else (if jg_wr (σ.1 a0 2) ≤ jg_wr x1 then Q (-2) σ else (if 40 < jg_wr (σ.1 a0 2) then Q (-2) σ else ((0 : Int) ≤ jg_wr (((σ.1 a0 2) - 1) - x1) ∧ jg_wr (((σ.1 a0 2) - 1) - x1) < (40 : Int)) ∧ Q (σ.1 (a0 + 1) (jg_wr (((σ.1 a0 2) - 1) - x1))) σ)))) : jg_CI w 0 mm_X5_stateBehindLast [.ref a0, .int (.ofInt x1)] σ Q := by
  show jg_G w 0 mm_X5_stateBehindLast 0 [.ref a0, .int (.ofInt x1)] [] σ (jg_QI Q)
  refine jg_A (pc' := 1) rfl rfl (fun _ _ _ => rfl) ?_
  refine jg_iflt (pc' := 4) rfl rfl (fun hc => ?_) (fun hc => ?_)
  · have h := jg_t h (show jg_wr x1 < 0 from hc)
    refine jg_A (pc' := 39) rfl rfl (fun _ _ _ => rfl) ?_
    exact jg_iret rfl rfl h
  · have h := jg_f h (show ¬ (jg_wr x1 < 0) from hc)
    refine jg_A (pc' := 5) rfl rfl (fun _ _ _ => rfl) ?_
    refine jg_A (pc' := 6) rfl rfl (fun _ _ _ => rfl) ?_
    refine jg_getI (pc' := 9) (bi := 2) rfl h0 (by decide) (Or.inl rfl) rfl rfl ?_
    refine jg_cge (pc' := 12) rfl rfl (fun hc => ?_) (fun hc => ?_)
    · have h := jg_t h (show jg_wr (σ.1 a0 2) ≤ jg_wr x1 from hc)
      refine jg_A (pc' := 39) rfl rfl (fun _ _ _ => rfl) ?_
      exact jg_iret rfl rfl h
    · have h := jg_f h (show ¬ (jg_wr (σ.1 a0 2) ≤ jg_wr x1) from hc)
      refine jg_A (pc' := 13) rfl rfl (fun _ _ _ => rfl) ?_
      refine jg_getI (pc' := 16) (bi := 2) rfl h0 (by decide) (Or.inl rfl) rfl rfl ?_
      refine jg_A (pc' := 18) rfl rfl (fun _ _ _ => rfl) ?_
      refine jg_cgt (pc' := 21) rfl rfl (fun hc => ?_) (fun hc => ?_)
      · have h := jg_t h (show 40 < jg_wr (σ.1 a0 2) from hc)
        refine jg_A (pc' := 39) rfl rfl (fun _ _ _ => rfl) ?_
        exact jg_iret rfl rfl h
      · have h := jg_f h (show ¬ (40 < jg_wr (σ.1 a0 2)) from hc)
        refine jg_A (pc' := 22) rfl rfl (fun _ _ _ => rfl) ?_
        refine jg_getO (pc' := 25) (k := 1) rfl h0 (by decide) rfl rfl ?_
        refine jg_A (pc' := 26) rfl rfl (fun _ _ _ => rfl) ?_
        refine jg_getI (pc' := 29) (bi := 2) rfl h0 (by decide) (Or.inl rfl) rfl rfl ?_
        refine jg_A (pc' := 30) rfl rfl (fun _ _ _ => rfl) ?_
        refine jg_isub (pc' := 31) rfl rfl ?_
        refine jg_A (pc' := 32) rfl rfl (fun _ _ _ => rfl) ?_
        refine jg_isub (pc' := 33) rfl rfl ?_
        obtain ⟨hg, h⟩ := h
        refine jg_iald (pc' := 34) rfl (jg_sX5_1 h0) hg rfl ?_
        refine jg_goto rfl ?_
        exact jg_iret rfl rfl h
set_option maxRecDepth 100000 in
set_option maxHeartbeats 4000000 in
theorem jb_X5_take_0 {w : Nat} {a0 : Nat} {a1 : Nat} {x2 : Int} {σ : jg_M} {Q : Int → jg_M → Prop} (h0 : jg_sh a0 = (5, 0)) (h1 : jg_sh a1 = (8, 0)) (h : jg_GI w 3 mm_X5_take 2 [.ref a0, .ref a1, .int (.ofInt x2), .int (.ofInt 0), mj_U] σ Q) : jg_CI w 3 mm_X5_take [.ref a0, .ref a1, .int (.ofInt x2)] σ Q := by
  show jg_G w 3 mm_X5_take 0 [.ref a0, .ref a1, .int (.ofInt x2), mj_U, mj_U] [] σ (jg_QI Q)
  refine jg_A (pc' := 1) rfl rfl (fun _ _ _ => rfl) ?_
  refine jg_A (pc' := 2) (ls' := [.ref a0, .ref a1, .int (.ofInt x2), .int (.ofInt 0), mj_U]) rfl rfl (fun _ _ _ => rfl) ?_
  exact h
set_option maxRecDepth 100000 in
set_option maxHeartbeats 4000000 in
theorem jb_X5_take_2 {w : Nat} {a0 : Nat} {a1 : Nat} {x2 : Int} {x3 : Int} {u4 : Value} {σ : jg_M} {Q : Int → jg_M → Prop} (h0 : jg_sh a0 = (5, 0)) (h1 : jg_sh a1 = (8, 0)) (h : (if 60 < jg_wr x3 then Q (-2) σ else jg_CI w 0 mm_X5_stateBehindLast [.ref a0, .int (.ofInt 0)] σ (fun (z102 : Int) (m101 : jg_M) => jg_CI w 1 mm_X8_actionFor [.ref a1, .int (.ofInt z102), .int (.ofInt x2)] m101 (fun (z104 : Int) (m103 : jg_M) => (if jg_wr z104 = 3000 then Q x3 m103 else (if 2000 ≤ jg_wr z104 then jg_CI w 2 mm_X5_reduceBy [.ref a0, .ref a1, .int (.ofInt (z104 - 2000))] m103 (fun (z106 : Int) (m105 : jg_M) => (if jg_wr z106 = 0 then Q (-2) m105 else ∀ m107 : jg_M, m107 = jg_sI m105 a0 3 ((m105.1 a0 3) + 1) → jg_GI w 3 mm_X5_take 2 [.ref a0, .ref a1, .int (.ofInt x2), .int (.ofInt (x3 + 1)), .int (.ofInt z104)] m107 Q)) else (if jg_wr z104 < 1000 then Q (-2) m103 else jg_CI w 0 mm_X5_add [.ref a0, .int (.ofInt (z104 - 1000))] m103 (fun (z109 : Int) (m108 : jg_M) => (if jg_wr z109 = 0 then Q (-2) m108 else ∀ m110 : jg_M, m110 = jg_sI m108 a0 4 ((m108.1 a0 4) + 1) → Q x3 m110))))))))) : jg_GI w 3 mm_X5_take 2 [.ref a0, .ref a1, .int (.ofInt x2), .int (.ofInt x3), u4] σ Q := by
  show jg_G w 3 mm_X5_take 2 [.ref a0, .ref a1, .int (.ofInt x2), .int (.ofInt x3), u4] [] σ (jg_QI Q)
  refine jg_A (pc' := 3) rfl rfl (fun _ _ _ => rfl) ?_
  refine jg_A (pc' := 5) rfl rfl (fun _ _ _ => rfl) ?_
  refine jg_cgt (pc' := 8) rfl rfl (fun hc => ?_) (fun hc => ?_)
  · have h := jg_t h (show 60 < jg_wr x3 from hc)
    refine jg_A (pc' := 109) rfl rfl (fun _ _ _ => rfl) ?_
    exact jg_iret rfl rfl h
  · have h := jg_f h (show ¬ (60 < jg_wr x3) from hc)
    refine jg_A (pc' := 9) rfl rfl (fun _ _ _ => rfl) ?_
    refine jg_A (pc' := 10) rfl rfl (fun _ _ _ => rfl) ?_
    refine jg_A (pc' := 11) rfl rfl (fun _ _ _ => rfl) ?_
    refine jg_calX (M1 := mm_X5_stateBehindLast) (hy := 0) (pc' := 14) rfl jm_X5_stateBehindLast (by decide) rfl h0 (by decide) ⟨Nat.le_of_ble_eq_true rfl, rfl⟩ (Nat.le_of_ble_eq_true rfl) rfl h (jg_kI (fun z102 m101 h => ?_))
    refine jg_A (pc' := 15) rfl rfl (fun _ _ _ => rfl) ?_
    refine jg_calX (M1 := mm_X8_actionFor) (hy := 1) (pc' := 18) rfl jm_X8_actionFor (by decide) rfl h1 (by decide) ⟨Nat.le_of_ble_eq_true rfl, rfl⟩ (Nat.le_of_ble_eq_true rfl) rfl h (jg_kI (fun z104 m103 h => ?_))
    refine jg_A (pc' := 20) (ls' := [.ref a0, .ref a1, .int (.ofInt x2), .int (.ofInt x3), .int (.ofInt z104)]) rfl rfl (fun _ _ _ => rfl) ?_
    refine jg_A (pc' := 22) rfl rfl (fun _ _ _ => rfl) ?_
    refine jg_A (pc' := 25) rfl rfl (fun _ _ _ => rfl) ?_
    refine jg_cne (pc' := 28) rfl rfl (fun hc => ?_) (fun hc => ?_)
    · have h := jg_t h (show jg_wr z104 = 3000 from hc)
      refine jg_A (pc' := 29) rfl rfl (fun _ _ _ => rfl) ?_
      exact jg_iret rfl rfl h
    · have h := jg_f h (show ¬ (jg_wr z104 = 3000) from hc)
      refine jg_A (pc' := 32) rfl rfl (fun _ _ _ => rfl) ?_
      refine jg_A (pc' := 35) rfl rfl (fun _ _ _ => rfl) ?_
      refine jg_cge (pc' := 38) rfl rfl (fun hc => ?_) (fun hc => ?_)
      · have h := jg_t h (show 2000 ≤ jg_wr z104 from hc)
        refine jg_A (pc' := 75) rfl rfl (fun _ _ _ => rfl) ?_
        refine jg_A (pc' := 76) rfl rfl (fun _ _ _ => rfl) ?_
        refine jg_A (pc' := 78) rfl rfl (fun _ _ _ => rfl) ?_
        refine jg_A (pc' := 81) rfl rfl (fun _ _ _ => rfl) ?_
        refine jg_isub (pc' := 82) rfl rfl ?_
        refine jg_calX (M1 := mm_X5_reduceBy) (hy := 2) (pc' := 85) rfl jm_X5_reduceBy (by decide) rfl h0 (by decide) ⟨Nat.le_of_ble_eq_true rfl, rfl⟩ (Nat.le_of_ble_eq_true rfl) rfl h (jg_kI (fun z106 m105 h => ?_))
        refine jg_ifne (pc' := 88) rfl rfl (fun hc => ?_) (fun hc => ?_)
        · have h := jg_t h (show jg_wr z106 = 0 from hc)
          refine jg_A (pc' := 90) rfl rfl (fun _ _ _ => rfl) ?_
          exact jg_iret rfl rfl h
        · have h := jg_f h (show ¬ (jg_wr z106 = 0) from hc)
          refine jg_A (pc' := 92) rfl rfl (fun _ _ _ => rfl) ?_
          refine jg_A (pc' := 93) rfl rfl (fun _ _ _ => rfl) ?_
          refine jg_getI (pc' := 96) (bi := 3) rfl h0 (by decide) (Or.inl rfl) rfl rfl ?_
          refine jg_A (pc' := 97) rfl rfl (fun _ _ _ => rfl) ?_
          refine jg_iadd (pc' := 98) rfl rfl ?_
          refine jg_putI (pc' := 101) (bi := 3) rfl h0 (by decide) rfl rfl rfl rfl (fun m107 hm107 => ?_)
          have h := h m107 hm107
          refine jg_iinc (pc' := 104) (ls' := [.ref a0, .ref a1, .int (.ofInt x2), .int (.ofInt (x3 + 1)), .int (.ofInt z104)]) rfl rfl rfl rfl ?_
          refine jg_goto rfl ?_
          exact h
      · have h := jg_f h (show ¬ (2000 ≤ jg_wr z104) from hc)
        refine jg_A (pc' := 40) rfl rfl (fun _ _ _ => rfl) ?_
        refine jg_A (pc' := 43) rfl rfl (fun _ _ _ => rfl) ?_
        refine jg_clt (pc' := 46) rfl rfl (fun hc => ?_) (fun hc => ?_)
        · have h := jg_t h (show jg_wr z104 < 1000 from hc)
          refine jg_A (pc' := 61) rfl rfl (fun _ _ _ => rfl) ?_
          exact jg_iret rfl rfl h
        · have h := jg_f h (show ¬ (jg_wr z104 < 1000) from hc)
          refine jg_A (pc' := 47) rfl rfl (fun _ _ _ => rfl) ?_
          refine jg_A (pc' := 49) rfl rfl (fun _ _ _ => rfl) ?_
          refine jg_A (pc' := 52) rfl rfl (fun _ _ _ => rfl) ?_
          refine jg_isub (pc' := 53) rfl rfl ?_
          refine jg_calX (M1 := mm_X5_add) (hy := 0) (pc' := 56) rfl jm_X5_add (by decide) rfl h0 (by decide) ⟨Nat.le_of_ble_eq_true rfl, rfl⟩ (Nat.le_of_ble_eq_true rfl) rfl h (jg_kI (fun z109 m108 h => ?_))
          refine jg_ifne (pc' := 59) rfl rfl (fun hc => ?_) (fun hc => ?_)
          · have h := jg_t h (show jg_wr z109 = 0 from hc)
            refine jg_A (pc' := 61) rfl rfl (fun _ _ _ => rfl) ?_
            exact jg_iret rfl rfl h
          · have h := jg_f h (show ¬ (jg_wr z109 = 0) from hc)
            refine jg_A (pc' := 63) rfl rfl (fun _ _ _ => rfl) ?_
            refine jg_A (pc' := 64) rfl rfl (fun _ _ _ => rfl) ?_
            refine jg_getI (pc' := 67) (bi := 4) rfl h0 (by decide) (Or.inl rfl) rfl rfl ?_
            refine jg_A (pc' := 68) rfl rfl (fun _ _ _ => rfl) ?_
            refine jg_iadd (pc' := 69) rfl rfl ?_
            refine jg_putI (pc' := 72) (bi := 4) rfl h0 (by decide) rfl rfl rfl rfl (fun m110 hm110 => ?_)
            have h := h m110 hm110
            refine jg_A (pc' := 73) rfl rfl (fun _ _ _ => rfl) ?_
            exact jg_iret rfl rfl h
set_option maxRecDepth 100000 in
set_option maxHeartbeats 4000000 in
theorem jb_X5_reduceBy_0 {w : Nat} {a0 : Nat} {a1 : Nat} {x2 : Int} {σ : jg_M} {Q : Int → jg_M → Prop} (h0 : jg_sh a0 = (5, 0)) (h1 : jg_sh a1 = (8, 0)) (h : jg_CI w 0 mm_X0_lengthOf [.ref (a1 + 1), .int (.ofInt x2)] σ (fun (z102 : Int) (m101 : jg_M) => (if jg_wr z102 < jg_wr (m101.1 a0 2) then ∀ m103 : jg_M, m103 = jg_sI m101 a0 2 ((m101.1 a0 2) - z102) → jg_CI w 0 mm_X5_stateBehindLast [.ref a0, .int (.ofInt 0)] m103 (fun (z105 : Int) (m104 : jg_M) => jg_CI w 1 mm_X0_kindOf [.ref (a1 + 1), .int (.ofInt x2)] m104 (fun (z107 : Int) (m106 : jg_M) => jg_CI w 1 mm_X7_moveBy [.ref (a1 + 10), .int (.ofInt z105), .int (.ofInt (10 + z107))] m106 (fun (z109 : Int) (m108 : jg_M) => (if jg_wr z109 < 0 then Q 0 m108 else jg_CI w 0 mm_X5_add [.ref a0, .int (.ofInt z109)] m108 (fun (z111 : Int) (m110 : jg_M) => (if jg_wr z111 = 0 then Q 0 m110 else Q 1 m110)))))) else Q 0 m101))) : jg_CI w 2 mm_X5_reduceBy [.ref a0, .ref a1, .int (.ofInt x2)] σ Q := by
  show jg_G w 2 mm_X5_reduceBy 0 [.ref a0, .ref a1, .int (.ofInt x2), mj_U, mj_U] [] σ (jg_QI Q)
  refine jg_A (pc' := 1) rfl rfl (fun _ _ _ => rfl) ?_
  refine jg_getO (pc' := 4) (k := 1) rfl h1 (by decide) rfl rfl ?_
  refine jg_A (pc' := 5) rfl rfl (fun _ _ _ => rfl) ?_
  refine jg_calX (M1 := mm_X0_lengthOf) (hy := 0) (pc' := 8) rfl jm_X0_lengthOf (by decide) rfl (jg_sX8_0 h1) (by decide) ⟨Nat.le_of_ble_eq_true rfl, rfl⟩ (Nat.le_of_ble_eq_true rfl) rfl h (jg_kI (fun z102 m101 h => ?_))
  refine jg_A (pc' := 9) (ls' := [.ref a0, .ref a1, .int (.ofInt x2), .int (.ofInt z102), mj_U]) rfl rfl (fun _ _ _ => rfl) ?_
  refine jg_A (pc' := 10) rfl rfl (fun _ _ _ => rfl) ?_
  refine jg_A (pc' := 11) rfl rfl (fun _ _ _ => rfl) ?_
  refine jg_getI (pc' := 14) (bi := 2) rfl h0 (by decide) (Or.inl rfl) rfl rfl ?_
  refine jg_clt (pc' := 17) rfl rfl (fun hc => ?_) (fun hc => ?_)
  · have h := jg_t h (show jg_wr z102 < jg_wr (m101.1 a0 2) from hc)
    refine jg_A (pc' := 20) rfl rfl (fun _ _ _ => rfl) ?_
    refine jg_A (pc' := 21) rfl rfl (fun _ _ _ => rfl) ?_
    refine jg_getI (pc' := 24) (bi := 2) rfl h0 (by decide) (Or.inl rfl) rfl rfl ?_
    refine jg_A (pc' := 25) rfl rfl (fun _ _ _ => rfl) ?_
    refine jg_isub (pc' := 26) rfl rfl ?_
    refine jg_putI (pc' := 29) (bi := 2) rfl h0 (by decide) rfl rfl rfl rfl (fun m103 hm103 => ?_)
    have h := h m103 hm103
    refine jg_A (pc' := 30) rfl rfl (fun _ _ _ => rfl) ?_
    refine jg_getO (pc' := 33) (k := 10) rfl h1 (by decide) rfl rfl ?_
    refine jg_A (pc' := 34) rfl rfl (fun _ _ _ => rfl) ?_
    refine jg_A (pc' := 35) rfl rfl (fun _ _ _ => rfl) ?_
    refine jg_calX (M1 := mm_X5_stateBehindLast) (hy := 0) (pc' := 38) rfl jm_X5_stateBehindLast (by decide) rfl h0 (by decide) ⟨Nat.le_of_ble_eq_true rfl, rfl⟩ (Nat.le_of_ble_eq_true rfl) rfl h (jg_kI (fun z105 m104 h => ?_))
    refine jg_A (pc' := 40) rfl rfl (fun _ _ _ => rfl) ?_
    refine jg_A (pc' := 41) rfl rfl (fun _ _ _ => rfl) ?_
    refine jg_getO (pc' := 44) (k := 1) rfl h1 (by decide) rfl rfl ?_
    refine jg_A (pc' := 45) rfl rfl (fun _ _ _ => rfl) ?_
    refine jg_calX (M1 := mm_X0_kindOf) (hy := 1) (pc' := 48) rfl jm_X0_kindOf (by decide) rfl (jg_sX8_0 h1) (by decide) ⟨Nat.le_of_ble_eq_true rfl, rfl⟩ (Nat.le_of_ble_eq_true rfl) rfl h (jg_kI (fun z107 m106 h => ?_))
    refine jg_iadd (pc' := 49) rfl rfl ?_
    refine jg_calX (M1 := mm_X7_moveBy) (hy := 1) (pc' := 52) rfl jm_X7_moveBy (by decide) rfl (jg_sX8_1 h1) (by decide) ⟨Nat.le_of_ble_eq_true rfl, rfl⟩ (Nat.le_of_ble_eq_true rfl) rfl h (jg_kI (fun z109 m108 h => ?_))
    refine jg_A (pc' := 54) (ls' := [.ref a0, .ref a1, .int (.ofInt x2), .int (.ofInt z102), .int (.ofInt z109)]) rfl rfl (fun _ _ _ => rfl) ?_
    refine jg_A (pc' := 56) rfl rfl (fun _ _ _ => rfl) ?_
    refine jg_iflt (pc' := 59) rfl rfl (fun hc => ?_) (fun hc => ?_)
    · have h := jg_t h (show jg_wr z109 < 0 from hc)
      refine jg_A (pc' := 73) rfl rfl (fun _ _ _ => rfl) ?_
      exact jg_zret rfl rfl (by decide) h
    · have h := jg_f h (show ¬ (jg_wr z109 < 0) from hc)
      refine jg_A (pc' := 60) rfl rfl (fun _ _ _ => rfl) ?_
      refine jg_A (pc' := 62) rfl rfl (fun _ _ _ => rfl) ?_
      refine jg_calX (M1 := mm_X5_add) (hy := 0) (pc' := 65) rfl jm_X5_add (by decide) rfl h0 (by decide) ⟨Nat.le_of_ble_eq_true rfl, rfl⟩ (Nat.le_of_ble_eq_true rfl) rfl h (jg_kI (fun z111 m110 h => ?_))
      refine jg_ifeq (pc' := 68) rfl rfl (fun hc => ?_) (fun hc => ?_)
      · have h := jg_t h (show jg_wr z111 = 0 from hc)
        refine jg_A (pc' := 73) rfl rfl (fun _ _ _ => rfl) ?_
        exact jg_zret rfl rfl (by decide) h
      · have h := jg_f h (show ¬ (jg_wr z111 = 0) from hc)
        refine jg_A (pc' := 69) rfl rfl (fun _ _ _ => rfl) ?_
        refine jg_goto rfl ?_
        exact jg_zret rfl rfl (by decide) h
  · have h := jg_f h (show ¬ (jg_wr z102 < jg_wr (m101.1 a0 2)) from hc)
    refine jg_A (pc' := 18) rfl rfl (fun _ _ _ => rfl) ?_
    exact jg_zret rfl rfl (by decide) h
set_option maxRecDepth 100000 in
set_option maxHeartbeats 4000000 in
theorem jb_X5_add_0 {w : Nat} {a0 : Nat} {x1 : Int} {σ : jg_M} {Q : Int → jg_M → Prop} (h0 : jg_sh a0 = (5, 0)) (h : (if jg_wr (σ.1 a0 2) < 0 then Q 0 σ else (if jg_wr (σ.1 a0 2) < 40 then ((0 : Int) ≤ (jg_wr (σ.1 a0 2)) ∧ (jg_wr (σ.1 a0 2)) < (40 : Int)) ∧ ∀ m101 : jg_M, m101 = jg_sI σ (a0 + 1) (jg_wr (σ.1 a0 2)) x1 → ∀ m102 : jg_M, m102 = jg_sI m101 a0 2 ((m101.1 a0 2) + 1) → Q 1 m102 else Q 0 σ))) : jg_CI w 0 mm_X5_add [.ref a0, .int (.ofInt x1)] σ Q := by
  show jg_G w 0 mm_X5_add 0 [.ref a0, .int (.ofInt x1)] [] σ (jg_QI Q)
  refine jg_A (pc' := 1) rfl rfl (fun _ _ _ => rfl) ?_
  refine jg_getI (pc' := 4) (bi := 2) rfl h0 (by decide) (Or.inl rfl) rfl rfl ?_
  refine jg_iflt (pc' := 7) rfl rfl (fun hc => ?_) (fun hc => ?_)
  · have h := jg_t h (show jg_wr (σ.1 a0 2) < 0 from hc)
    refine jg_A (pc' := 17) rfl rfl (fun _ _ _ => rfl) ?_
    exact jg_zret rfl rfl (by decide) h
  · have h := jg_f h (show ¬ (jg_wr (σ.1 a0 2) < 0) from hc)
    refine jg_A (pc' := 8) rfl rfl (fun _ _ _ => rfl) ?_
    refine jg_getI (pc' := 11) (bi := 2) rfl h0 (by decide) (Or.inl rfl) rfl rfl ?_
    refine jg_A (pc' := 13) rfl rfl (fun _ _ _ => rfl) ?_
    refine jg_clt (pc' := 16) rfl rfl (fun hc => ?_) (fun hc => ?_)
    · have h := jg_t h (show jg_wr (σ.1 a0 2) < 40 from hc)
      refine jg_A (pc' := 19) rfl rfl (fun _ _ _ => rfl) ?_
      refine jg_getO (pc' := 22) (k := 1) rfl h0 (by decide) rfl rfl ?_
      refine jg_A (pc' := 23) rfl rfl (fun _ _ _ => rfl) ?_
      refine jg_getI (pc' := 26) (bi := 2) rfl h0 (by decide) (Or.inl rfl) rfl rfl ?_
      refine jg_A (pc' := 27) rfl rfl (fun _ _ _ => rfl) ?_
      obtain ⟨hg, h⟩ := h
      refine jg_iast (pc' := 28) rfl (jg_sX5_1 h0) hg rfl (fun m101 hm101 => ?_)
      have h := h m101 hm101
      refine jg_A (pc' := 29) rfl rfl (fun _ _ _ => rfl) ?_
      refine jg_A (pc' := 30) rfl rfl (fun _ _ _ => rfl) ?_
      refine jg_getI (pc' := 33) (bi := 2) rfl h0 (by decide) (Or.inl rfl) rfl rfl ?_
      refine jg_A (pc' := 34) rfl rfl (fun _ _ _ => rfl) ?_
      refine jg_iadd (pc' := 35) rfl rfl ?_
      refine jg_putI (pc' := 38) (bi := 2) rfl h0 (by decide) rfl rfl rfl rfl (fun m102 hm102 => ?_)
      have h := h m102 hm102
      refine jg_A (pc' := 39) rfl rfl (fun _ _ _ => rfl) ?_
      exact jg_zret rfl rfl (by decide) h
    · have h := jg_f h (show ¬ (jg_wr (σ.1 a0 2) < 40) from hc)
      refine jg_A (pc' := 17) rfl rfl (fun _ _ _ => rfl) ?_
      exact jg_zret rfl rfl (by decide) h
set_option maxRecDepth 100000 in
set_option maxHeartbeats 4000000 in
theorem jb_X6_make_0 {w : Nat} {a0 : Nat} {a1 : Nat} {σ : jg_M} {Q : jg_M → Prop} (h0 : jg_sh a0 = (6, 0)) (h1 : jg_sh a1 = (8, 0)) (h : jg_CV w 0 mm_J7_fill_53178 [.ref (a0 + 1), .int (.ofInt (-2))] σ (fun (m101 : jg_M) => jg_CV w 0 mm_J7_fill_53178 [.ref (a0 + 2), .int (.ofInt (-2))] m101 (fun (m102 : jg_M) => jg_CV w 3 mm_X6_settleKinds [.ref a0, .ref (a1 + 1)] m102 (fun (m103 : jg_M) => jg_CI w 0 mm_X7_has [.ref (a1 + 10), .int (.ofInt 0)] m103 (fun (z105 : Int) (m104 : jg_M) => (if jg_wr z105 = 0 then Q m104 else ∀ m106 : jg_M, m106 = jg_sI m104 (a0 + 2) 0 0 → jg_CV w 3 mm_X6_settleStates [.ref a0, .ref (a1 + 10)] m106 (fun (m107 : jg_M) => Q m107))))))) : jg_CV w 4 mm_X6_make [.ref a0, .ref a1] σ Q := by
  show jg_G w 4 mm_X6_make 0 [.ref a0, .ref a1] [] σ (jg_QV Q)
  refine jg_A (pc' := 1) rfl rfl (fun _ _ _ => rfl) ?_
  refine jg_getO (pc' := 4) (k := 1) rfl h0 (by decide) rfl rfl ?_
  refine jg_A (pc' := 6) rfl rfl (fun _ _ _ => rfl) ?_
  refine jg_calS (M1 := mm_J7_fill_53178) (hy := 0) (pc' := 9) rfl (Or.inl rfl) jm_J7_fill_53178 (by decide) rfl ⟨Nat.le_of_ble_eq_true rfl, rfl⟩ (Nat.le_of_ble_eq_true rfl) rfl h (jg_kV (fun m101 h => ?_))
  refine jg_A (pc' := 10) rfl rfl (fun _ _ _ => rfl) ?_
  refine jg_getO (pc' := 13) (k := 2) rfl h0 (by decide) rfl rfl ?_
  refine jg_A (pc' := 15) rfl rfl (fun _ _ _ => rfl) ?_
  refine jg_calS (M1 := mm_J7_fill_53178) (hy := 0) (pc' := 18) rfl (Or.inl rfl) jm_J7_fill_53178 (by decide) rfl ⟨Nat.le_of_ble_eq_true rfl, rfl⟩ (Nat.le_of_ble_eq_true rfl) rfl h (jg_kV (fun m102 h => ?_))
  refine jg_A (pc' := 19) rfl rfl (fun _ _ _ => rfl) ?_
  refine jg_A (pc' := 20) rfl rfl (fun _ _ _ => rfl) ?_
  refine jg_getO (pc' := 23) (k := 1) rfl h1 (by decide) rfl rfl ?_
  refine jg_calX (M1 := mm_X6_settleKinds) (hy := 3) (pc' := 26) rfl jm_X6_settleKinds (by decide) rfl h0 (by decide) ⟨Nat.le_of_ble_eq_true rfl, rfl⟩ (Nat.le_of_ble_eq_true rfl) rfl h (jg_kV (fun m103 h => ?_))
  refine jg_A (pc' := 27) rfl rfl (fun _ _ _ => rfl) ?_
  refine jg_getO (pc' := 30) (k := 10) rfl h1 (by decide) rfl rfl ?_
  refine jg_A (pc' := 31) rfl rfl (fun _ _ _ => rfl) ?_
  refine jg_calX (M1 := mm_X7_has) (hy := 0) (pc' := 34) rfl jm_X7_has (by decide) rfl (jg_sX8_1 h1) (by decide) ⟨Nat.le_of_ble_eq_true rfl, rfl⟩ (Nat.le_of_ble_eq_true rfl) rfl h (jg_kI (fun z105 m104 h => ?_))
  refine jg_ifeq (pc' := 37) rfl rfl (fun hc => ?_) (fun hc => ?_)
  · have h := jg_t h (show jg_wr z105 = 0 from hc)
    exact jg_vret rfl rfl h
  · have h := jg_f h (show ¬ (jg_wr z105 = 0) from hc)
    refine jg_A (pc' := 38) rfl rfl (fun _ _ _ => rfl) ?_
    refine jg_getO (pc' := 41) (k := 2) rfl h0 (by decide) rfl rfl ?_
    refine jg_A (pc' := 42) rfl rfl (fun _ _ _ => rfl) ?_
    refine jg_A (pc' := 43) rfl rfl (fun _ _ _ => rfl) ?_
    refine jg_iastK (pc' := 44) (xi := 0) rfl (jg_sX6_1 h0) (by decide) (by decide) rfl (fun m106 hm106 => ?_)
    have h := h m106 hm106
    refine jg_A (pc' := 45) rfl rfl (fun _ _ _ => rfl) ?_
    refine jg_A (pc' := 46) rfl rfl (fun _ _ _ => rfl) ?_
    refine jg_getO (pc' := 49) (k := 10) rfl h1 (by decide) rfl rfl ?_
    refine jg_calX (M1 := mm_X6_settleStates) (hy := 3) (pc' := 52) rfl jm_X6_settleStates (by decide) rfl h0 (by decide) ⟨Nat.le_of_ble_eq_true rfl, rfl⟩ (Nat.le_of_ble_eq_true rfl) rfl h (jg_kV (fun m107 h => ?_))
    exact jg_vret rfl rfl h
set_option maxRecDepth 100000 in
set_option maxHeartbeats 4000000 in
theorem jb_X6_settleKinds_0 {w : Nat} {a0 : Nat} {a1 : Nat} {σ : jg_M} {Q : jg_M → Prop} (h0 : jg_sh a0 = (6, 0)) (h1 : jg_sh a1 = (0, 0)) (h : jg_GV w 3 mm_X6_settleKinds 4 [.ref a0, .ref a1, .int (.ofInt 1), .int (.ofInt 0), mj_U, mj_U] σ Q) : jg_CV w 3 mm_X6_settleKinds [.ref a0, .ref a1] σ Q := by
  show jg_G w 3 mm_X6_settleKinds 0 [.ref a0, .ref a1, mj_U, mj_U, mj_U, mj_U] [] σ (jg_QV Q)
  refine jg_A (pc' := 1) rfl rfl (fun _ _ _ => rfl) ?_
  refine jg_A (pc' := 2) (ls' := [.ref a0, .ref a1, .int (.ofInt 1), mj_U, mj_U, mj_U]) rfl rfl (fun _ _ _ => rfl) ?_
  refine jg_A (pc' := 3) rfl rfl (fun _ _ _ => rfl) ?_
  refine jg_A (pc' := 4) (ls' := [.ref a0, .ref a1, .int (.ofInt 1), .int (.ofInt 0), mj_U, mj_U]) rfl rfl (fun _ _ _ => rfl) ?_
  exact h
set_option maxRecDepth 100000 in
set_option maxHeartbeats 4000000 in
theorem jb_X6_settleKinds_4 {w : Nat} {a0 : Nat} {a1 : Nat} {x2 : Int} {x3 : Int} {u4 : Value} {u5 : Value} {σ : jg_M} {Q : jg_M → Prop} (h0 : jg_sh a0 = (6, 0)) (h1 : jg_sh a1 = (0, 0)) (h : (if jg_wr x2 = 0 then Q σ else (if 1000000 ≤ jg_wr x3 then Q σ else jg_GV w 3 mm_X6_settleKinds 19 [.ref a0, .ref a1, .int (.ofInt 0), .int (.ofInt x3), .int (.ofInt 0), u5] σ Q))) : jg_GV w 3 mm_X6_settleKinds 4 [.ref a0, .ref a1, .int (.ofInt x2), .int (.ofInt x3), u4, u5] σ Q := by
  show jg_G w 3 mm_X6_settleKinds 4 [.ref a0, .ref a1, .int (.ofInt x2), .int (.ofInt x3), u4, u5] [] σ (jg_QV Q)
  refine jg_A (pc' := 5) rfl rfl (fun _ _ _ => rfl) ?_
  refine jg_ifeq (pc' := 8) rfl rfl (fun hc => ?_) (fun hc => ?_)
  · have h := jg_t h (show jg_wr x2 = 0 from hc)
    exact jg_vret rfl rfl h
  · have h := jg_f h (show ¬ (jg_wr x2 = 0) from hc)
    refine jg_A (pc' := 9) rfl rfl (fun _ _ _ => rfl) ?_
    refine jg_A (pc' := 11) rfl rfl (fun _ _ _ => rfl) ?_
    refine jg_cge (pc' := 14) rfl rfl (fun hc => ?_) (fun hc => ?_)
    · have h := jg_t h (show 1000000 ≤ jg_wr x3 from hc)
      exact jg_vret rfl rfl h
    · have h := jg_f h (show ¬ (1000000 ≤ jg_wr x3) from hc)
      refine jg_A (pc' := 15) rfl rfl (fun _ _ _ => rfl) ?_
      refine jg_A (pc' := 16) (ls' := [.ref a0, .ref a1, .int (.ofInt 0), .int (.ofInt x3), u4, u5]) rfl rfl (fun _ _ _ => rfl) ?_
      refine jg_A (pc' := 17) rfl rfl (fun _ _ _ => rfl) ?_
      refine jg_A (pc' := 19) (ls' := [.ref a0, .ref a1, .int (.ofInt 0), .int (.ofInt x3), .int (.ofInt 0), u5]) rfl rfl (fun _ _ _ => rfl) ?_
      exact h
set_option maxRecDepth 100000 in
set_option maxHeartbeats 4000000 in
theorem jb_X6_settleKinds_19 {w : Nat} {a0 : Nat} {a1 : Nat} {x2 : Int} {x3 : Int} {x4 : Int} {u5 : Value} {σ : jg_M} {Q : jg_M → Prop} (h0 : jg_sh a0 = (6, 0)) (h1 : jg_sh a1 = (0, 0)) (h : (if jg_wr (σ.1 a1 2) ≤ jg_wr x4 then jg_GV w 3 mm_X6_settleKinds 4 [.ref a0, .ref a1, .int (.ofInt x2), .int (.ofInt (x3 + 1)), .int (.ofInt x4), u5] σ Q else jg_CI w 1 mm_X0_kindOf [.ref a1, .int (.ofInt x4)] σ (fun (z102 : Int) (m101 : jg_M) => (if jg_wr z102 < 0 then jg_GV w 3 mm_X6_settleKinds 19 [.ref a0, .ref a1, .int (.ofInt x2), .int (.ofInt x3), .int (.ofInt (x4 + 1)), .int (.ofInt z102)] m101 Q else (if 5 ≤ jg_wr z102 then jg_GV w 3 mm_X6_settleKinds 19 [.ref a0, .ref a1, .int (.ofInt x2), .int (.ofInt x3), .int (.ofInt (x4 + 1)), .int (.ofInt z102)] m101 Q else jg_CI w 2 mm_X6_tryRule [.ref a0, .ref a1, .int (.ofInt x4)] m101 (fun (z104 : Int) (m103 : jg_M) => (if jg_wr z104 = 0 then jg_GV w 3 mm_X6_settleKinds 19 [.ref a0, .ref a1, .int (.ofInt x2), .int (.ofInt x3), .int (.ofInt (x4 + 1)), .int (.ofInt z102)] m103 Q else ((0 : Int) ≤ jg_wr z102 ∧ jg_wr z102 < (5 : Int)) ∧ jg_CI w 0 mm_X6_improves [.ref a0, .ref (a0 + 3), .int (.ofInt (z102 * 40)), .int (.ofInt (m103.1 (a0 + 1) (jg_wr z102)))] m103 (fun (z106 : Int) (m105 : jg_M) => (if jg_wr z106 = 0 then jg_GV w 3 mm_X6_settleKinds 19 [.ref a0, .ref a1, .int (.ofInt x2), .int (.ofInt x3), .int (.ofInt (x4 + 1)), .int (.ofInt z102)] m105 Q else ((0 : Int) ≤ 0 ∧ (0 : Int) ≤ jg_wr (z102 * 40) ∧ (0 : Int) ≤ 40 ∧ (0 + 40 : Int) ≤ 60 ∧ (jg_wr (z102 * 40) + 40 : Int) ≤ 200) ∧ ∀ m107 : jg_M, m107 = jg_cI m105 (a0 + 5) (0) (a0 + 3) (jg_wr (z102 * 40)) (40) → ((0 : Int) ≤ (jg_wr z102) ∧ (jg_wr z102) < (5 : Int)) ∧ ∀ m108 : jg_M, m108 = jg_sI m107 (a0 + 1) (jg_wr z102) (m107.1 a0 5) → jg_GV w 3 mm_X6_settleKinds 19 [.ref a0, .ref a1, .int (.ofInt 1), .int (.ofInt x3), .int (.ofInt (x4 + 1)), .int (.ofInt z102)] m108 Q))))))))) : jg_GV w 3 mm_X6_settleKinds 19 [.ref a0, .ref a1, .int (.ofInt x2), .int (.ofInt x3), .int (.ofInt x4), u5] σ Q := by
  show jg_G w 3 mm_X6_settleKinds 19 [.ref a0, .ref a1, .int (.ofInt x2), .int (.ofInt x3), .int (.ofInt x4), u5] [] σ (jg_QV Q)
  refine jg_A (pc' := 21) rfl rfl (fun _ _ _ => rfl) ?_
  refine jg_A (pc' := 22) rfl rfl (fun _ _ _ => rfl) ?_
  refine jg_getI (pc' := 25) (bi := 2) rfl h1 (by decide) (Or.inl rfl) rfl rfl ?_
  refine jg_cge (pc' := 28) rfl rfl (fun hc => ?_) (fun hc => ?_)
  · have h := jg_t h (show jg_wr (σ.1 a1 2) ≤ jg_wr x4 from hc)
    refine jg_iinc (pc' := 121) (ls' := [.ref a0, .ref a1, .int (.ofInt x2), .int (.ofInt (x3 + 1)), .int (.ofInt x4), u5]) rfl rfl rfl rfl ?_
    refine jg_goto rfl ?_
    exact h
  · have h := jg_f h (show ¬ (jg_wr (σ.1 a1 2) ≤ jg_wr x4) from hc)
    refine jg_A (pc' := 29) rfl rfl (fun _ _ _ => rfl) ?_
    refine jg_A (pc' := 31) rfl rfl (fun _ _ _ => rfl) ?_
    refine jg_calX (M1 := mm_X0_kindOf) (hy := 1) (pc' := 34) rfl jm_X0_kindOf (by decide) rfl h1 (by decide) ⟨Nat.le_of_ble_eq_true rfl, rfl⟩ (Nat.le_of_ble_eq_true rfl) rfl h (jg_kI (fun z102 m101 h => ?_))
    refine jg_A (pc' := 36) (ls' := [.ref a0, .ref a1, .int (.ofInt x2), .int (.ofInt x3), .int (.ofInt x4), .int (.ofInt z102)]) rfl rfl (fun _ _ _ => rfl) ?_
    refine jg_A (pc' := 38) rfl rfl (fun _ _ _ => rfl) ?_
    refine jg_iflt (pc' := 41) rfl rfl (fun hc => ?_) (fun hc => ?_)
    · have h := jg_t h (show jg_wr z102 < 0 from hc)
      refine jg_iinc (pc' := 115) (ls' := [.ref a0, .ref a1, .int (.ofInt x2), .int (.ofInt x3), .int (.ofInt (x4 + 1)), .int (.ofInt z102)]) rfl rfl rfl rfl ?_
      refine jg_goto rfl ?_
      exact h
    · have h := jg_f h (show ¬ (jg_wr z102 < 0) from hc)
      refine jg_A (pc' := 43) rfl rfl (fun _ _ _ => rfl) ?_
      refine jg_A (pc' := 44) rfl rfl (fun _ _ _ => rfl) ?_
      refine jg_cge (pc' := 47) rfl rfl (fun hc => ?_) (fun hc => ?_)
      · have h := jg_t h (show 5 ≤ jg_wr z102 from hc)
        refine jg_iinc (pc' := 115) (ls' := [.ref a0, .ref a1, .int (.ofInt x2), .int (.ofInt x3), .int (.ofInt (x4 + 1)), .int (.ofInt z102)]) rfl rfl rfl rfl ?_
        refine jg_goto rfl ?_
        exact h
      · have h := jg_f h (show ¬ (5 ≤ jg_wr z102) from hc)
        refine jg_A (pc' := 48) rfl rfl (fun _ _ _ => rfl) ?_
        refine jg_A (pc' := 49) rfl rfl (fun _ _ _ => rfl) ?_
        refine jg_A (pc' := 51) rfl rfl (fun _ _ _ => rfl) ?_
        refine jg_calX (M1 := mm_X6_tryRule) (hy := 2) (pc' := 54) rfl jm_X6_tryRule (by decide) rfl h0 (by decide) ⟨Nat.le_of_ble_eq_true rfl, rfl⟩ (Nat.le_of_ble_eq_true rfl) rfl h (jg_kI (fun z104 m103 h => ?_))
        refine jg_ifeq (pc' := 57) rfl rfl (fun hc => ?_) (fun hc => ?_)
        · have h := jg_t h (show jg_wr z104 = 0 from hc)
          refine jg_iinc (pc' := 115) (ls' := [.ref a0, .ref a1, .int (.ofInt x2), .int (.ofInt x3), .int (.ofInt (x4 + 1)), .int (.ofInt z102)]) rfl rfl rfl rfl ?_
          refine jg_goto rfl ?_
          exact h
        · have h := jg_f h (show ¬ (jg_wr z104 = 0) from hc)
          refine jg_A (pc' := 58) rfl rfl (fun _ _ _ => rfl) ?_
          refine jg_A (pc' := 59) rfl rfl (fun _ _ _ => rfl) ?_
          refine jg_getO (pc' := 62) (k := 3) rfl h0 (by decide) rfl rfl ?_
          refine jg_A (pc' := 64) rfl rfl (fun _ _ _ => rfl) ?_
          refine jg_A (pc' := 66) rfl rfl (fun _ _ _ => rfl) ?_
          refine jg_imul (pc' := 67) rfl rfl ?_
          refine jg_A (pc' := 68) rfl rfl (fun _ _ _ => rfl) ?_
          refine jg_getO (pc' := 71) (k := 1) rfl h0 (by decide) rfl rfl ?_
          refine jg_A (pc' := 73) rfl rfl (fun _ _ _ => rfl) ?_
          obtain ⟨hg, h⟩ := h
          refine jg_iald (pc' := 74) rfl (jg_sX6_0 h0) hg rfl ?_
          refine jg_calX (M1 := mm_X6_improves) (hy := 0) (pc' := 77) rfl jm_X6_improves (by decide) rfl h0 (by decide) ⟨Nat.le_of_ble_eq_true rfl, rfl⟩ (Nat.le_of_ble_eq_true rfl) rfl h (jg_kI (fun z106 m105 h => ?_))
          refine jg_ifeq (pc' := 80) rfl rfl (fun hc => ?_) (fun hc => ?_)
          · have h := jg_t h (show jg_wr z106 = 0 from hc)
            refine jg_iinc (pc' := 115) (ls' := [.ref a0, .ref a1, .int (.ofInt x2), .int (.ofInt x3), .int (.ofInt (x4 + 1)), .int (.ofInt z102)]) rfl rfl rfl rfl ?_
            refine jg_goto rfl ?_
            exact h
          · have h := jg_f h (show ¬ (jg_wr z106 = 0) from hc)
            refine jg_A (pc' := 81) rfl rfl (fun _ _ _ => rfl) ?_
            refine jg_getO (pc' := 84) (k := 5) rfl h0 (by decide) rfl rfl ?_
            refine jg_A (pc' := 85) rfl rfl (fun _ _ _ => rfl) ?_
            refine jg_A (pc' := 86) rfl rfl (fun _ _ _ => rfl) ?_
            refine jg_getO (pc' := 89) (k := 3) rfl h0 (by decide) rfl rfl ?_
            refine jg_A (pc' := 91) rfl rfl (fun _ _ _ => rfl) ?_
            refine jg_A (pc' := 93) rfl rfl (fun _ _ _ => rfl) ?_
            refine jg_imul (pc' := 94) rfl rfl ?_
            refine jg_A (pc' := 96) rfl rfl (fun _ _ _ => rfl) ?_
            obtain ⟨hg, h⟩ := h
            refine jg_cpI (pc' := 99) rfl (by decide) (Nat.le_of_ble_eq_true rfl) (jg_sX6_4 h0) (jg_sX6_2 h0) hg rfl (fun m107 hm107 => ?_)
            have h := h m107 hm107
            refine jg_A (pc' := 100) rfl rfl (fun _ _ _ => rfl) ?_
            refine jg_getO (pc' := 103) (k := 1) rfl h0 (by decide) rfl rfl ?_
            refine jg_A (pc' := 105) rfl rfl (fun _ _ _ => rfl) ?_
            refine jg_A (pc' := 106) rfl rfl (fun _ _ _ => rfl) ?_
            refine jg_getI (pc' := 109) (bi := 5) rfl h0 (by decide) (Or.inl rfl) rfl rfl ?_
            obtain ⟨hg, h⟩ := h
            refine jg_iast (pc' := 110) rfl (jg_sX6_0 h0) hg rfl (fun m108 hm108 => ?_)
            have h := h m108 hm108
            refine jg_A (pc' := 111) rfl rfl (fun _ _ _ => rfl) ?_
            refine jg_A (pc' := 112) (ls' := [.ref a0, .ref a1, .int (.ofInt 1), .int (.ofInt x3), .int (.ofInt x4), .int (.ofInt z102)]) rfl rfl (fun _ _ _ => rfl) ?_
            refine jg_iinc (pc' := 115) (ls' := [.ref a0, .ref a1, .int (.ofInt 1), .int (.ofInt x3), .int (.ofInt (x4 + 1)), .int (.ofInt z102)]) rfl rfl rfl rfl ?_
            refine jg_goto rfl ?_
            exact h
set_option maxRecDepth 100000 in
set_option maxHeartbeats 4000000 in
theorem jb_X6_tryRule_0 {w : Nat} {a0 : Nat} {a1 : Nat} {x2 : Int} {σ : jg_M} {Q : Int → jg_M → Prop} (h0 : jg_sh a0 = (6, 0)) (h1 : jg_sh a1 = (0, 0)) (h : ∀ m101 : jg_M, m101 = jg_sI σ a0 5 0 → jg_GI w 2 mm_X6_tryRule 7 [.ref a0, .ref a1, .int (.ofInt x2), .int (.ofInt 0)] m101 Q) : jg_CI w 2 mm_X6_tryRule [.ref a0, .ref a1, .int (.ofInt x2)] σ Q := by
  show jg_G w 2 mm_X6_tryRule 0 [.ref a0, .ref a1, .int (.ofInt x2), mj_U] [] σ (jg_QI Q)
  refine jg_A (pc' := 1) rfl rfl (fun _ _ _ => rfl) ?_
  refine jg_A (pc' := 2) rfl rfl (fun _ _ _ => rfl) ?_
  refine jg_putI (pc' := 5) (bi := 5) rfl h0 (by decide) rfl rfl rfl rfl (fun m101 hm101 => ?_)
  have h := h m101 hm101
  refine jg_A (pc' := 6) rfl rfl (fun _ _ _ => rfl) ?_
  refine jg_A (pc' := 7) (ls' := [.ref a0, .ref a1, .int (.ofInt x2), .int (.ofInt 0)]) rfl rfl (fun _ _ _ => rfl) ?_
  exact h
set_option maxRecDepth 100000 in
set_option maxHeartbeats 4000000 in
theorem jb_X6_tryRule_7 {w : Nat} {a0 : Nat} {a1 : Nat} {x2 : Int} {x3 : Int} {σ : jg_M} {Q : Int → jg_M → Prop} (h0 : jg_sh a0 = (6, 0)) (h1 : jg_sh a1 = (0, 0)) (h : jg_CI w 0 mm_X0_lengthOf [.ref a1, .int (.ofInt x2)] σ (fun (z102 : Int) (m101 : jg_M) => (if jg_wr z102 ≤ jg_wr x3 then Q 1 m101 else jg_CI w 1 mm_X0_symbolAt [.ref a1, .int (.ofInt x2), .int (.ofInt x3)] m101 (fun (z104 : Int) (m103 : jg_M) => jg_CI w 0 mm_X6_lengthen [.ref a0, .int (.ofInt z104), .int (.ofInt 40)] m103 (fun (z106 : Int) (m105 : jg_M) => (if jg_wr z106 = 0 then Q 0 m105 else jg_GI w 2 mm_X6_tryRule 7 [.ref a0, .ref a1, .int (.ofInt x2), .int (.ofInt (x3 + 1))] m105 Q)))))) : jg_GI w 2 mm_X6_tryRule 7 [.ref a0, .ref a1, .int (.ofInt x2), .int (.ofInt x3)] σ Q := by
  show jg_G w 2 mm_X6_tryRule 7 [.ref a0, .ref a1, .int (.ofInt x2), .int (.ofInt x3)] [] σ (jg_QI Q)
  refine jg_A (pc' := 8) rfl rfl (fun _ _ _ => rfl) ?_
  refine jg_A (pc' := 9) rfl rfl (fun _ _ _ => rfl) ?_
  refine jg_A (pc' := 10) rfl rfl (fun _ _ _ => rfl) ?_
  refine jg_calX (M1 := mm_X0_lengthOf) (hy := 0) (pc' := 13) rfl jm_X0_lengthOf (by decide) rfl h1 (by decide) ⟨Nat.le_of_ble_eq_true rfl, rfl⟩ (Nat.le_of_ble_eq_true rfl) rfl h (jg_kI (fun z102 m101 h => ?_))
  refine jg_cge (pc' := 16) rfl rfl (fun hc => ?_) (fun hc => ?_)
  · have h := jg_t h (show jg_wr z102 ≤ jg_wr x3 from hc)
    refine jg_A (pc' := 40) rfl rfl (fun _ _ _ => rfl) ?_
    exact jg_zret rfl rfl (by decide) h
  · have h := jg_f h (show ¬ (jg_wr z102 ≤ jg_wr x3) from hc)
    refine jg_A (pc' := 17) rfl rfl (fun _ _ _ => rfl) ?_
    refine jg_A (pc' := 18) rfl rfl (fun _ _ _ => rfl) ?_
    refine jg_A (pc' := 19) rfl rfl (fun _ _ _ => rfl) ?_
    refine jg_A (pc' := 20) rfl rfl (fun _ _ _ => rfl) ?_
    refine jg_calX (M1 := mm_X0_symbolAt) (hy := 1) (pc' := 23) rfl jm_X0_symbolAt (by decide) rfl h1 (by decide) ⟨Nat.le_of_ble_eq_true rfl, rfl⟩ (Nat.le_of_ble_eq_true rfl) rfl h (jg_kI (fun z104 m103 h => ?_))
    refine jg_A (pc' := 25) rfl rfl (fun _ _ _ => rfl) ?_
    refine jg_calX (M1 := mm_X6_lengthen) (hy := 0) (pc' := 28) rfl jm_X6_lengthen (by decide) rfl h0 (by decide) ⟨Nat.le_of_ble_eq_true rfl, rfl⟩ (Nat.le_of_ble_eq_true rfl) rfl h (jg_kI (fun z106 m105 h => ?_))
    refine jg_ifne (pc' := 31) rfl rfl (fun hc => ?_) (fun hc => ?_)
    · have h := jg_t h (show jg_wr z106 = 0 from hc)
      refine jg_A (pc' := 32) rfl rfl (fun _ _ _ => rfl) ?_
      exact jg_zret rfl rfl (by decide) h
    · have h := jg_f h (show ¬ (jg_wr z106 = 0) from hc)
      refine jg_iinc (pc' := 36) (ls' := [.ref a0, .ref a1, .int (.ofInt x2), .int (.ofInt (x3 + 1))]) rfl rfl rfl rfl ?_
      refine jg_goto rfl ?_
      exact h
set_option maxRecDepth 100000 in
set_option maxHeartbeats 4000000 in
theorem jb_X6_settleStates_0 {w : Nat} {a0 : Nat} {a1 : Nat} {σ : jg_M} {Q : jg_M → Prop} (h0 : jg_sh a0 = (6, 0)) (h1 : jg_sh a1 = (7, 0)) (h : jg_GV w 3 mm_X6_settleStates 4 [.ref a0, .ref a1, .int (.ofInt 1), .int (.ofInt 0), mj_U, mj_U] σ Q) : jg_CV w 3 mm_X6_settleStates [.ref a0, .ref a1] σ Q := by
  show jg_G w 3 mm_X6_settleStates 0 [.ref a0, .ref a1, mj_U, mj_U, mj_U, mj_U] [] σ (jg_QV Q)
  refine jg_A (pc' := 1) rfl rfl (fun _ _ _ => rfl) ?_
  refine jg_A (pc' := 2) (ls' := [.ref a0, .ref a1, .int (.ofInt 1), mj_U, mj_U, mj_U]) rfl rfl (fun _ _ _ => rfl) ?_
  refine jg_A (pc' := 3) rfl rfl (fun _ _ _ => rfl) ?_
  refine jg_A (pc' := 4) (ls' := [.ref a0, .ref a1, .int (.ofInt 1), .int (.ofInt 0), mj_U, mj_U]) rfl rfl (fun _ _ _ => rfl) ?_
  exact h
set_option maxRecDepth 100000 in
set_option maxHeartbeats 4000000 in
theorem jb_X6_settleStates_4 {w : Nat} {a0 : Nat} {a1 : Nat} {x2 : Int} {x3 : Int} {u4 : Value} {u5 : Value} {σ : jg_M} {Q : jg_M → Prop} (h0 : jg_sh a0 = (6, 0)) (h1 : jg_sh a1 = (7, 0)) (h : (if jg_wr x2 = 0 then Q σ else (if 1000000 ≤ jg_wr x3 then Q σ else jg_GV w 3 mm_X6_settleStates 19 [.ref a0, .ref a1, .int (.ofInt 0), .int (.ofInt x3), .int (.ofInt 0), u5] σ Q))) : jg_GV w 3 mm_X6_settleStates 4 [.ref a0, .ref a1, .int (.ofInt x2), .int (.ofInt x3), u4, u5] σ Q := by
  show jg_G w 3 mm_X6_settleStates 4 [.ref a0, .ref a1, .int (.ofInt x2), .int (.ofInt x3), u4, u5] [] σ (jg_QV Q)
  refine jg_A (pc' := 5) rfl rfl (fun _ _ _ => rfl) ?_
  refine jg_ifeq (pc' := 8) rfl rfl (fun hc => ?_) (fun hc => ?_)
  · have h := jg_t h (show jg_wr x2 = 0 from hc)
    exact jg_vret rfl rfl h
  · have h := jg_f h (show ¬ (jg_wr x2 = 0) from hc)
    refine jg_A (pc' := 9) rfl rfl (fun _ _ _ => rfl) ?_
    refine jg_A (pc' := 11) rfl rfl (fun _ _ _ => rfl) ?_
    refine jg_cge (pc' := 14) rfl rfl (fun hc => ?_) (fun hc => ?_)
    · have h := jg_t h (show 1000000 ≤ jg_wr x3 from hc)
      exact jg_vret rfl rfl h
    · have h := jg_f h (show ¬ (1000000 ≤ jg_wr x3) from hc)
      refine jg_A (pc' := 15) rfl rfl (fun _ _ _ => rfl) ?_
      refine jg_A (pc' := 16) (ls' := [.ref a0, .ref a1, .int (.ofInt 0), .int (.ofInt x3), u4, u5]) rfl rfl (fun _ _ _ => rfl) ?_
      refine jg_A (pc' := 17) rfl rfl (fun _ _ _ => rfl) ?_
      refine jg_A (pc' := 19) (ls' := [.ref a0, .ref a1, .int (.ofInt 0), .int (.ofInt x3), .int (.ofInt 0), u5]) rfl rfl (fun _ _ _ => rfl) ?_
      exact h
set_option maxRecDepth 100000 in
set_option maxHeartbeats 4000000 in
theorem jb_X6_settleStates_19 {w : Nat} {a0 : Nat} {a1 : Nat} {x2 : Int} {x3 : Int} {x4 : Int} {u5 : Value} {σ : jg_M} {Q : jg_M → Prop} (h0 : jg_sh a0 = (6, 0)) (h1 : jg_sh a1 = (7, 0)) (h : (if jg_wr (σ.1 a1 0) ≤ jg_wr x4 then jg_GV w 3 mm_X6_settleStates 4 [.ref a0, .ref a1, .int (.ofInt x2), .int (.ofInt (x3 + 1)), .int (.ofInt x4), u5] σ Q else jg_GV w 3 mm_X6_settleStates 31 [.ref a0, .ref a1, .int (.ofInt x2), .int (.ofInt x3), .int (.ofInt x4), .int (.ofInt 0)] σ Q)) : jg_GV w 3 mm_X6_settleStates 19 [.ref a0, .ref a1, .int (.ofInt x2), .int (.ofInt x3), .int (.ofInt x4), u5] σ Q := by
  show jg_G w 3 mm_X6_settleStates 19 [.ref a0, .ref a1, .int (.ofInt x2), .int (.ofInt x3), .int (.ofInt x4), u5] [] σ (jg_QV Q)
  refine jg_A (pc' := 21) rfl rfl (fun _ _ _ => rfl) ?_
  refine jg_A (pc' := 22) rfl rfl (fun _ _ _ => rfl) ?_
  refine jg_getI (pc' := 25) (bi := 0) rfl h1 (by decide) (Or.inl rfl) rfl rfl ?_
  refine jg_cge (pc' := 28) rfl rfl (fun hc => ?_) (fun hc => ?_)
  · have h := jg_t h (show jg_wr (σ.1 a1 0) ≤ jg_wr x4 from hc)
    refine jg_iinc (pc' := 77) (ls' := [.ref a0, .ref a1, .int (.ofInt x2), .int (.ofInt (x3 + 1)), .int (.ofInt x4), u5]) rfl rfl rfl rfl ?_
    refine jg_goto rfl ?_
    exact h
  · have h := jg_f h (show ¬ (jg_wr (σ.1 a1 0) ≤ jg_wr x4) from hc)
    refine jg_A (pc' := 29) rfl rfl (fun _ _ _ => rfl) ?_
    refine jg_A (pc' := 31) (ls' := [.ref a0, .ref a1, .int (.ofInt x2), .int (.ofInt x3), .int (.ofInt x4), .int (.ofInt 0)]) rfl rfl (fun _ _ _ => rfl) ?_
    exact h
set_option maxRecDepth 100000 in
set_option maxHeartbeats 4000000 in
theorem jb_X6_settleStates_31 {w : Nat} {a0 : Nat} {a1 : Nat} {x2 : Int} {x3 : Int} {x4 : Int} {x5 : Int} {σ : jg_M} {Q : jg_M → Prop} (h0 : jg_sh a0 = (6, 0)) (h1 : jg_sh a1 = (7, 0)) (h : (if 15 ≤ jg_wr x5 then jg_GV w 3 mm_X6_settleStates 19 [.ref a0, .ref a1, .int (.ofInt x2), .int (.ofInt x3), .int (.ofInt (x4 + 1)), .int (.ofInt x5)] σ Q else ((0 : Int) ≤ jg_wr x4 ∧ jg_wr x4 < (48 : Int)) ∧ (if jg_wr (σ.1 (a0 + 2) (jg_wr x4)) < 0 then jg_GV w 3 mm_X6_settleStates 19 [.ref a0, .ref a1, .int (.ofInt x2), .int (.ofInt x3), .int (.ofInt (x4 + 1)), .int (.ofInt x5)] σ Q else jg_CI w 2 mm_X6_improveBy [.ref a0, .ref a1, .int (.ofInt x4), .int (.ofInt x5)] σ (fun (z102 : Int) (m101 : jg_M) => (if jg_wr z102 = 0 then jg_GV w 3 mm_X6_settleStates 31 [.ref a0, .ref a1, .int (.ofInt x2), .int (.ofInt x3), .int (.ofInt x4), .int (.ofInt (x5 + 1))] m101 Q else jg_GV w 3 mm_X6_settleStates 31 [.ref a0, .ref a1, .int (.ofInt 1), .int (.ofInt x3), .int (.ofInt x4), .int (.ofInt (x5 + 1))] m101 Q))))) : jg_GV w 3 mm_X6_settleStates 31 [.ref a0, .ref a1, .int (.ofInt x2), .int (.ofInt x3), .int (.ofInt x4), .int (.ofInt x5)] σ Q := by
  show jg_G w 3 mm_X6_settleStates 31 [.ref a0, .ref a1, .int (.ofInt x2), .int (.ofInt x3), .int (.ofInt x4), .int (.ofInt x5)] [] σ (jg_QV Q)
  refine jg_A (pc' := 33) rfl rfl (fun _ _ _ => rfl) ?_
  refine jg_A (pc' := 35) rfl rfl (fun _ _ _ => rfl) ?_
  refine jg_cge (pc' := 38) rfl rfl (fun hc => ?_) (fun hc => ?_)
  · have h := jg_t h (show 15 ≤ jg_wr x5 from hc)
    refine jg_iinc (pc' := 71) (ls' := [.ref a0, .ref a1, .int (.ofInt x2), .int (.ofInt x3), .int (.ofInt (x4 + 1)), .int (.ofInt x5)]) rfl rfl rfl rfl ?_
    refine jg_goto rfl ?_
    exact h
  · have h := jg_f h (show ¬ (15 ≤ jg_wr x5) from hc)
    refine jg_A (pc' := 39) rfl rfl (fun _ _ _ => rfl) ?_
    refine jg_getO (pc' := 42) (k := 2) rfl h0 (by decide) rfl rfl ?_
    refine jg_A (pc' := 44) rfl rfl (fun _ _ _ => rfl) ?_
    obtain ⟨hg, h⟩ := h
    refine jg_iald (pc' := 45) rfl (jg_sX6_1 h0) hg rfl ?_
    refine jg_iflt (pc' := 48) rfl rfl (fun hc => ?_) (fun hc => ?_)
    · have h := jg_t h (show jg_wr (σ.1 (a0 + 2) (jg_wr x4)) < 0 from hc)
      refine jg_iinc (pc' := 71) (ls' := [.ref a0, .ref a1, .int (.ofInt x2), .int (.ofInt x3), .int (.ofInt (x4 + 1)), .int (.ofInt x5)]) rfl rfl rfl rfl ?_
      refine jg_goto rfl ?_
      exact h
    · have h := jg_f h (show ¬ (jg_wr (σ.1 (a0 + 2) (jg_wr x4)) < 0) from hc)
      refine jg_A (pc' := 49) rfl rfl (fun _ _ _ => rfl) ?_
      refine jg_A (pc' := 50) rfl rfl (fun _ _ _ => rfl) ?_
      refine jg_A (pc' := 52) rfl rfl (fun _ _ _ => rfl) ?_
      refine jg_A (pc' := 54) rfl rfl (fun _ _ _ => rfl) ?_
      refine jg_calX (M1 := mm_X6_improveBy) (hy := 2) (pc' := 57) rfl jm_X6_improveBy (by decide) rfl h0 (by decide) ⟨Nat.le_of_ble_eq_true rfl, rfl⟩ (Nat.le_of_ble_eq_true rfl) rfl h (jg_kI (fun z102 m101 h => ?_))
      refine jg_ifeq (pc' := 60) rfl rfl (fun hc => ?_) (fun hc => ?_)
      · have h := jg_t h (show jg_wr z102 = 0 from hc)
        refine jg_iinc (pc' := 65) (ls' := [.ref a0, .ref a1, .int (.ofInt x2), .int (.ofInt x3), .int (.ofInt x4), .int (.ofInt (x5 + 1))]) rfl rfl rfl rfl ?_
        refine jg_goto rfl ?_
        exact h
      · have h := jg_f h (show ¬ (jg_wr z102 = 0) from hc)
        refine jg_A (pc' := 61) rfl rfl (fun _ _ _ => rfl) ?_
        refine jg_A (pc' := 62) (ls' := [.ref a0, .ref a1, .int (.ofInt 1), .int (.ofInt x3), .int (.ofInt x4), .int (.ofInt x5)]) rfl rfl (fun _ _ _ => rfl) ?_
        refine jg_iinc (pc' := 65) (ls' := [.ref a0, .ref a1, .int (.ofInt 1), .int (.ofInt x3), .int (.ofInt x4), .int (.ofInt (x5 + 1))]) rfl rfl rfl rfl ?_
        refine jg_goto rfl ?_
        exact h
set_option maxRecDepth 100000 in
set_option maxHeartbeats 4000000 in
theorem jb_X6_improveBy_0 {w : Nat} {a0 : Nat} {a1 : Nat} {x2 : Int} {x3 : Int} {σ : jg_M} {Q : Int → jg_M → Prop} (h0 : jg_sh a0 = (6, 0)) (h1 : jg_sh a1 = (7, 0)) (h : jg_CI w 1 mm_X7_moveBy [.ref a1, .int (.ofInt x2), .int (.ofInt x3)] σ (fun (z102 : Int) (m101 : jg_M) => jg_CI w 0 mm_X7_has [.ref a1, .int (.ofInt z102)] m101 (fun (z104 : Int) (m103 : jg_M) => (if jg_wr z104 = 0 then Q 0 m103 else ((0 : Int) ≤ jg_wr (x2 * 60) ∧ (0 : Int) ≤ 0 ∧ (0 : Int) ≤ 60 ∧ (jg_wr (x2 * 60) + 60 : Int) ≤ 2880 ∧ (0 + 60 : Int) ≤ 60) ∧ ∀ m105 : jg_M, m105 = jg_cI m103 (a0 + 4) (jg_wr (x2 * 60)) (a0 + 5) (0) (60) → ((0 : Int) ≤ jg_wr x2 ∧ jg_wr x2 < (48 : Int)) ∧ ∀ m106 : jg_M, m106 = jg_sI m105 a0 5 (m105.1 (a0 + 2) (jg_wr x2)) → jg_CI w 0 mm_X6_lengthen [.ref a0, .int (.ofInt x3), .int (.ofInt 60)] m106 (fun (z108 : Int) (m107 : jg_M) => (if jg_wr z108 = 0 then Q 0 m107 else ((0 : Int) ≤ jg_wr z102 ∧ jg_wr z102 < (48 : Int)) ∧ jg_CI w 0 mm_X6_improves [.ref a0, .ref (a0 + 4), .int (.ofInt (z102 * 60)), .int (.ofInt (m107.1 (a0 + 2) (jg_wr z102)))] m107 (fun (z110 : Int) (m109 : jg_M) => (if jg_wr z110 = 0 then Q 0 m109 else ((0 : Int) ≤ 0 ∧ (0 : Int) ≤ jg_wr (z102 * 60) ∧ (0 : Int) ≤ 60 ∧ (0 + 60 : Int) ≤ 60 ∧ (jg_wr (z102 * 60) + 60 : Int) ≤ 2880) ∧ ∀ m111 : jg_M, m111 = jg_cI m109 (a0 + 5) (0) (a0 + 4) (jg_wr (z102 * 60)) (60) → ((0 : Int) ≤ (jg_wr z102) ∧ (jg_wr z102) < (48 : Int)) ∧ ∀ m112 : jg_M, m112 = jg_sI m111 (a0 + 2) (jg_wr z102) (m111.1 a0 5) → Q 1 m112)))))))) : jg_CI w 2 mm_X6_improveBy [.ref a0, .ref a1, .int (.ofInt x2), .int (.ofInt x3)] σ Q := by
  show jg_G w 2 mm_X6_improveBy 0 [.ref a0, .ref a1, .int (.ofInt x2), .int (.ofInt x3), mj_U] [] σ (jg_QI Q)
  refine jg_A (pc' := 1) rfl rfl (fun _ _ _ => rfl) ?_
  refine jg_A (pc' := 2) rfl rfl (fun _ _ _ => rfl) ?_
  refine jg_A (pc' := 3) rfl rfl (fun _ _ _ => rfl) ?_
  refine jg_calX (M1 := mm_X7_moveBy) (hy := 1) (pc' := 6) rfl jm_X7_moveBy (by decide) rfl h1 (by decide) ⟨Nat.le_of_ble_eq_true rfl, rfl⟩ (Nat.le_of_ble_eq_true rfl) rfl h (jg_kI (fun z102 m101 h => ?_))
  refine jg_A (pc' := 8) (ls' := [.ref a0, .ref a1, .int (.ofInt x2), .int (.ofInt x3), .int (.ofInt z102)]) rfl rfl (fun _ _ _ => rfl) ?_
  refine jg_A (pc' := 9) rfl rfl (fun _ _ _ => rfl) ?_
  refine jg_A (pc' := 11) rfl rfl (fun _ _ _ => rfl) ?_
  refine jg_calX (M1 := mm_X7_has) (hy := 0) (pc' := 14) rfl jm_X7_has (by decide) rfl h1 (by decide) ⟨Nat.le_of_ble_eq_true rfl, rfl⟩ (Nat.le_of_ble_eq_true rfl) rfl h (jg_kI (fun z104 m103 h => ?_))
  refine jg_ifne (pc' := 17) rfl rfl (fun hc => ?_) (fun hc => ?_)
  · have h := jg_t h (show jg_wr z104 = 0 from hc)
    refine jg_A (pc' := 18) rfl rfl (fun _ _ _ => rfl) ?_
    exact jg_zret rfl rfl (by decide) h
  · have h := jg_f h (show ¬ (jg_wr z104 = 0) from hc)
    refine jg_A (pc' := 20) rfl rfl (fun _ _ _ => rfl) ?_
    refine jg_getO (pc' := 23) (k := 4) rfl h0 (by decide) rfl rfl ?_
    refine jg_A (pc' := 24) rfl rfl (fun _ _ _ => rfl) ?_
    refine jg_A (pc' := 26) rfl rfl (fun _ _ _ => rfl) ?_
    refine jg_imul (pc' := 27) rfl rfl ?_
    refine jg_A (pc' := 28) rfl rfl (fun _ _ _ => rfl) ?_
    refine jg_getO (pc' := 31) (k := 5) rfl h0 (by decide) rfl rfl ?_
    refine jg_A (pc' := 32) rfl rfl (fun _ _ _ => rfl) ?_
    refine jg_A (pc' := 34) rfl rfl (fun _ _ _ => rfl) ?_
    obtain ⟨hg, h⟩ := h
    refine jg_cpI (pc' := 37) rfl (by decide) (Nat.le_of_ble_eq_true rfl) (jg_sX6_3 h0) (jg_sX6_4 h0) hg rfl (fun m105 hm105 => ?_)
    have h := h m105 hm105
    refine jg_A (pc' := 38) rfl rfl (fun _ _ _ => rfl) ?_
    refine jg_A (pc' := 39) rfl rfl (fun _ _ _ => rfl) ?_
    refine jg_getO (pc' := 42) (k := 2) rfl h0 (by decide) rfl rfl ?_
    refine jg_A (pc' := 43) rfl rfl (fun _ _ _ => rfl) ?_
    obtain ⟨hg, h⟩ := h
    refine jg_iald (pc' := 44) rfl (jg_sX6_1 h0) hg rfl ?_
    refine jg_putI (pc' := 47) (bi := 5) rfl h0 (by decide) rfl rfl rfl rfl (fun m106 hm106 => ?_)
    have h := h m106 hm106
    refine jg_A (pc' := 48) rfl rfl (fun _ _ _ => rfl) ?_
    refine jg_A (pc' := 49) rfl rfl (fun _ _ _ => rfl) ?_
    refine jg_A (pc' := 51) rfl rfl (fun _ _ _ => rfl) ?_
    refine jg_calX (M1 := mm_X6_lengthen) (hy := 0) (pc' := 54) rfl jm_X6_lengthen (by decide) rfl h0 (by decide) ⟨Nat.le_of_ble_eq_true rfl, rfl⟩ (Nat.le_of_ble_eq_true rfl) rfl h (jg_kI (fun z108 m107 h => ?_))
    refine jg_ifeq (pc' := 57) rfl rfl (fun hc => ?_) (fun hc => ?_)
    · have h := jg_t h (show jg_wr z108 = 0 from hc)
      refine jg_A (pc' := 81) rfl rfl (fun _ _ _ => rfl) ?_
      exact jg_zret rfl rfl (by decide) h
    · have h := jg_f h (show ¬ (jg_wr z108 = 0) from hc)
      refine jg_A (pc' := 58) rfl rfl (fun _ _ _ => rfl) ?_
      refine jg_A (pc' := 59) rfl rfl (fun _ _ _ => rfl) ?_
      refine jg_getO (pc' := 62) (k := 4) rfl h0 (by decide) rfl rfl ?_
      refine jg_A (pc' := 64) rfl rfl (fun _ _ _ => rfl) ?_
      refine jg_A (pc' := 66) rfl rfl (fun _ _ _ => rfl) ?_
      refine jg_imul (pc' := 67) rfl rfl ?_
      refine jg_A (pc' := 68) rfl rfl (fun _ _ _ => rfl) ?_
      refine jg_getO (pc' := 71) (k := 2) rfl h0 (by decide) rfl rfl ?_
      refine jg_A (pc' := 73) rfl rfl (fun _ _ _ => rfl) ?_
      obtain ⟨hg, h⟩ := h
      refine jg_iald (pc' := 74) rfl (jg_sX6_1 h0) hg rfl ?_
      refine jg_calX (M1 := mm_X6_improves) (hy := 0) (pc' := 77) rfl jm_X6_improves (by decide) rfl h0 (by decide) ⟨Nat.le_of_ble_eq_true rfl, rfl⟩ (Nat.le_of_ble_eq_true rfl) rfl h (jg_kI (fun z110 m109 h => ?_))
      refine jg_ifne (pc' := 80) rfl rfl (fun hc => ?_) (fun hc => ?_)
      · have h := jg_t h (show jg_wr z110 = 0 from hc)
        refine jg_A (pc' := 81) rfl rfl (fun _ _ _ => rfl) ?_
        exact jg_zret rfl rfl (by decide) h
      · have h := jg_f h (show ¬ (jg_wr z110 = 0) from hc)
        refine jg_A (pc' := 83) rfl rfl (fun _ _ _ => rfl) ?_
        refine jg_getO (pc' := 86) (k := 5) rfl h0 (by decide) rfl rfl ?_
        refine jg_A (pc' := 87) rfl rfl (fun _ _ _ => rfl) ?_
        refine jg_A (pc' := 88) rfl rfl (fun _ _ _ => rfl) ?_
        refine jg_getO (pc' := 91) (k := 4) rfl h0 (by decide) rfl rfl ?_
        refine jg_A (pc' := 93) rfl rfl (fun _ _ _ => rfl) ?_
        refine jg_A (pc' := 95) rfl rfl (fun _ _ _ => rfl) ?_
        refine jg_imul (pc' := 96) rfl rfl ?_
        refine jg_A (pc' := 98) rfl rfl (fun _ _ _ => rfl) ?_
        obtain ⟨hg, h⟩ := h
        refine jg_cpI (pc' := 101) rfl (by decide) (Nat.le_of_ble_eq_true rfl) (jg_sX6_4 h0) (jg_sX6_3 h0) hg rfl (fun m111 hm111 => ?_)
        have h := h m111 hm111
        refine jg_A (pc' := 102) rfl rfl (fun _ _ _ => rfl) ?_
        refine jg_getO (pc' := 105) (k := 2) rfl h0 (by decide) rfl rfl ?_
        refine jg_A (pc' := 107) rfl rfl (fun _ _ _ => rfl) ?_
        refine jg_A (pc' := 108) rfl rfl (fun _ _ _ => rfl) ?_
        refine jg_getI (pc' := 111) (bi := 5) rfl h0 (by decide) (Or.inl rfl) rfl rfl ?_
        obtain ⟨hg, h⟩ := h
        refine jg_iast (pc' := 112) rfl (jg_sX6_1 h0) hg rfl (fun m112 hm112 => ?_)
        have h := h m112 hm112
        refine jg_A (pc' := 113) rfl rfl (fun _ _ _ => rfl) ?_
        exact jg_zret rfl rfl (by decide) h
set_option maxRecDepth 100000 in
set_option maxHeartbeats 4000000 in
theorem jb_X6_lengthen_0 {w : Nat} {a0 : Nat} {x1 : Int} {x2 : Int} {σ : jg_M} {Q : Int → jg_M → Prop} (h0 : jg_sh a0 = (6, 0)) (h : ∀ t101 : Int, t101 = (x1 - 10) → (if 5 ≤ jg_wr t101 then Q 0 σ else (if 0 ≤ jg_wr x1 then (if 0 ≤ jg_wr t101 then ((0 : Int) ≤ jg_wr t101 ∧ jg_wr t101 < (5 : Int)) ∧ ∀ t102 : Int, t102 = (σ.1 (a0 + 1) (jg_wr t101)) → (if jg_wr t102 < 0 then Q 0 σ else (if jg_wr x2 < jg_wr ((σ.1 a0 5) + t102) then Q 0 σ else (if jg_wr ((σ.1 a0 5) + t102) ≤ 60 then jg_GI w 0 mm_X6_lengthen 65 [.ref a0, .int (.ofInt x1), .int (.ofInt x2), .int (.ofInt t101), .int (.ofInt t102), .int (.ofInt 0)] σ Q else Q 0 σ))) else (if jg_wr x2 < jg_wr ((σ.1 a0 5) + 1) then Q 0 σ else (if jg_wr ((σ.1 a0 5) + 1) ≤ 60 then jg_GI w 0 mm_X6_lengthen 65 [.ref a0, .int (.ofInt x1), .int (.ofInt x2), .int (.ofInt t101), .int (.ofInt 1), .int (.ofInt 0)] σ Q else Q 0 σ))) else Q 0 σ))) : jg_CI w 0 mm_X6_lengthen [.ref a0, .int (.ofInt x1), .int (.ofInt x2)] σ Q := by
  show jg_G w 0 mm_X6_lengthen 0 [.ref a0, .int (.ofInt x1), .int (.ofInt x2), mj_U, mj_U, mj_U] [] σ (jg_QI Q)
  refine jg_A (pc' := 1) rfl rfl (fun _ _ _ => rfl) ?_
  refine jg_A (pc' := 3) rfl rfl (fun _ _ _ => rfl) ?_
  refine jg_isub (pc' := 4) rfl rfl ?_
  refine jg_nm (F := fun t101 => jg_G w 0 mm_X6_lengthen 4 [.ref a0, .int (.ofInt x1), .int (.ofInt x2), mj_U, mj_U, mj_U] [.int (.ofInt t101)] σ (jg_QI Q)) (x1 - 10) (fun t101 ht101 => ?_)
  have h := h t101 ht101
  refine jg_A (pc' := 5) (ls' := [.ref a0, .int (.ofInt x1), .int (.ofInt x2), .int (.ofInt t101), mj_U, mj_U]) rfl rfl (fun _ _ _ => rfl) ?_
  refine jg_A (pc' := 6) rfl rfl (fun _ _ _ => rfl) ?_
  refine jg_A (pc' := 7) rfl rfl (fun _ _ _ => rfl) ?_
  refine jg_cge (pc' := 10) rfl rfl (fun hc => ?_) (fun hc => ?_)
  · have h := jg_t h (show 5 ≤ jg_wr t101 from hc)
    refine jg_A (pc' := 15) rfl rfl (fun _ _ _ => rfl) ?_
    exact jg_zret rfl rfl (by decide) h
  · have h := jg_f h (show ¬ (5 ≤ jg_wr t101) from hc)
    refine jg_A (pc' := 11) rfl rfl (fun _ _ _ => rfl) ?_
    refine jg_ifge (pc' := 14) rfl rfl (fun hc => ?_) (fun hc => ?_)
    · have h := jg_t h (show 0 ≤ jg_wr x1 from hc)
      refine jg_A (pc' := 17) rfl rfl (fun _ _ _ => rfl) ?_
      refine jg_ifge (pc' := 20) rfl rfl (fun hc => ?_) (fun hc => ?_)
      · have h := jg_t h (show 0 ≤ jg_wr t101 from hc)
        refine jg_A (pc' := 25) rfl rfl (fun _ _ _ => rfl) ?_
        refine jg_getO (pc' := 28) (k := 1) rfl h0 (by decide) rfl rfl ?_
        refine jg_A (pc' := 29) rfl rfl (fun _ _ _ => rfl) ?_
        obtain ⟨hg, h⟩ := h
        refine jg_iald (pc' := 30) rfl (jg_sX6_0 h0) hg rfl ?_
        refine jg_nm (F := fun t102 => jg_G w 0 mm_X6_lengthen 30 [.ref a0, .int (.ofInt x1), .int (.ofInt x2), .int (.ofInt t101), mj_U, mj_U] [.int (.ofInt t102)] σ (jg_QI Q)) (σ.1 (a0 + 1) (jg_wr t101)) (fun t102 ht102 => ?_)
        have h := h t102 ht102
        refine jg_A (pc' := 32) (ls' := [.ref a0, .int (.ofInt x1), .int (.ofInt x2), .int (.ofInt t101), .int (.ofInt t102), mj_U]) rfl rfl (fun _ _ _ => rfl) ?_
        refine jg_A (pc' := 34) rfl rfl (fun _ _ _ => rfl) ?_
        refine jg_iflt (pc' := 37) rfl rfl (fun hc => ?_) (fun hc => ?_)
        · have h := jg_t h (show jg_wr t102 < 0 from hc)
          refine jg_A (pc' := 61) rfl rfl (fun _ _ _ => rfl) ?_
          exact jg_zret rfl rfl (by decide) h
        · have h := jg_f h (show ¬ (jg_wr t102 < 0) from hc)
          refine jg_A (pc' := 38) rfl rfl (fun _ _ _ => rfl) ?_
          refine jg_getI (pc' := 41) (bi := 5) rfl h0 (by decide) (Or.inl rfl) rfl rfl ?_
          refine jg_A (pc' := 43) rfl rfl (fun _ _ _ => rfl) ?_
          refine jg_iadd (pc' := 44) rfl rfl ?_
          refine jg_A (pc' := 45) rfl rfl (fun _ _ _ => rfl) ?_
          refine jg_cgt (pc' := 48) rfl rfl (fun hc => ?_) (fun hc => ?_)
          · have h := jg_t h (show jg_wr x2 < jg_wr ((σ.1 a0 5) + t102) from hc)
            refine jg_A (pc' := 61) rfl rfl (fun _ _ _ => rfl) ?_
            exact jg_zret rfl rfl (by decide) h
          · have h := jg_f h (show ¬ (jg_wr x2 < jg_wr ((σ.1 a0 5) + t102)) from hc)
            refine jg_A (pc' := 49) rfl rfl (fun _ _ _ => rfl) ?_
            refine jg_getI (pc' := 52) (bi := 5) rfl h0 (by decide) (Or.inl rfl) rfl rfl ?_
            refine jg_A (pc' := 54) rfl rfl (fun _ _ _ => rfl) ?_
            refine jg_iadd (pc' := 55) rfl rfl ?_
            refine jg_A (pc' := 57) rfl rfl (fun _ _ _ => rfl) ?_
            refine jg_cle (pc' := 60) rfl rfl (fun hc => ?_) (fun hc => ?_)
            · have h := jg_t h (show jg_wr ((σ.1 a0 5) + t102) ≤ 60 from hc)
              refine jg_A (pc' := 63) rfl rfl (fun _ _ _ => rfl) ?_
              refine jg_A (pc' := 65) (ls' := [.ref a0, .int (.ofInt x1), .int (.ofInt x2), .int (.ofInt t101), .int (.ofInt t102), .int (.ofInt 0)]) rfl rfl (fun _ _ _ => rfl) ?_
              exact h
            · have h := jg_f h (show ¬ (jg_wr ((σ.1 a0 5) + t102) ≤ 60) from hc)
              refine jg_A (pc' := 61) rfl rfl (fun _ _ _ => rfl) ?_
              exact jg_zret rfl rfl (by decide) h
      · have h := jg_f h (show ¬ (0 ≤ jg_wr t101) from hc)
        refine jg_A (pc' := 21) rfl rfl (fun _ _ _ => rfl) ?_
        refine jg_goto rfl ?_
        refine jg_A (pc' := 32) (ls' := [.ref a0, .int (.ofInt x1), .int (.ofInt x2), .int (.ofInt t101), .int (.ofInt 1), mj_U]) rfl rfl (fun _ _ _ => rfl) ?_
        refine jg_A (pc' := 34) rfl rfl (fun _ _ _ => rfl) ?_
        refine jg_iflt (pc' := 37) rfl rfl (fun hc => absurd hc (show ¬ (1 < 0) by decide)) (fun hc => ?_)
        refine jg_A (pc' := 38) rfl rfl (fun _ _ _ => rfl) ?_
        refine jg_getI (pc' := 41) (bi := 5) rfl h0 (by decide) (Or.inl rfl) rfl rfl ?_
        refine jg_A (pc' := 43) rfl rfl (fun _ _ _ => rfl) ?_
        refine jg_iadd (pc' := 44) rfl rfl ?_
        refine jg_A (pc' := 45) rfl rfl (fun _ _ _ => rfl) ?_
        refine jg_cgt (pc' := 48) rfl rfl (fun hc => ?_) (fun hc => ?_)
        · have h := jg_t h (show jg_wr x2 < jg_wr ((σ.1 a0 5) + 1) from hc)
          refine jg_A (pc' := 61) rfl rfl (fun _ _ _ => rfl) ?_
          exact jg_zret rfl rfl (by decide) h
        · have h := jg_f h (show ¬ (jg_wr x2 < jg_wr ((σ.1 a0 5) + 1)) from hc)
          refine jg_A (pc' := 49) rfl rfl (fun _ _ _ => rfl) ?_
          refine jg_getI (pc' := 52) (bi := 5) rfl h0 (by decide) (Or.inl rfl) rfl rfl ?_
          refine jg_A (pc' := 54) rfl rfl (fun _ _ _ => rfl) ?_
          refine jg_iadd (pc' := 55) rfl rfl ?_
          refine jg_A (pc' := 57) rfl rfl (fun _ _ _ => rfl) ?_
          refine jg_cle (pc' := 60) rfl rfl (fun hc => ?_) (fun hc => ?_)
          · have h := jg_t h (show jg_wr ((σ.1 a0 5) + 1) ≤ 60 from hc)
            refine jg_A (pc' := 63) rfl rfl (fun _ _ _ => rfl) ?_
            refine jg_A (pc' := 65) (ls' := [.ref a0, .int (.ofInt x1), .int (.ofInt x2), .int (.ofInt t101), .int (.ofInt 1), .int (.ofInt 0)]) rfl rfl (fun _ _ _ => rfl) ?_
            exact h
          · have h := jg_f h (show ¬ (jg_wr ((σ.1 a0 5) + 1) ≤ 60) from hc)
            refine jg_A (pc' := 61) rfl rfl (fun _ _ _ => rfl) ?_
            exact jg_zret rfl rfl (by decide) h
    · have h := jg_f h (show ¬ (0 ≤ jg_wr x1) from hc)
      refine jg_A (pc' := 15) rfl rfl (fun _ _ _ => rfl) ?_
      exact jg_zret rfl rfl (by decide) h
set_option maxRecDepth 100000 in
set_option maxHeartbeats 4000000 in
theorem jb_X6_lengthen_65 {w : Nat} {a0 : Nat} {x1 : Int} {u2 : Value} {x3 : Int} {x4 : Int} {x5 : Int} {σ : jg_M} {Q : Int → jg_M → Prop} (h0 : jg_sh a0 = (6, 0)) (h : (if jg_wr x4 ≤ jg_wr x5 then Q 1 σ else (if 0 ≤ jg_wr x3 then ((0 : Int) ≤ jg_wr ((x3 * 40) + x5) ∧ jg_wr ((x3 * 40) + x5) < (200 : Int)) ∧ ((0 : Int) ≤ (jg_wr (σ.1 a0 5)) ∧ (jg_wr (σ.1 a0 5)) < (60 : Int)) ∧ ∀ m101 : jg_M, m101 = jg_sI σ (a0 + 5) (jg_wr (σ.1 a0 5)) (σ.1 (a0 + 3) (jg_wr ((x3 * 40) + x5))) → ∀ m102 : jg_M, m102 = jg_sI m101 a0 5 ((m101.1 a0 5) + 1) → jg_GI w 0 mm_X6_lengthen 65 [.ref a0, .int (.ofInt x1), u2, .int (.ofInt x3), .int (.ofInt x4), .int (.ofInt (x5 + 1))] m102 Q else ((0 : Int) ≤ (jg_wr (σ.1 a0 5)) ∧ (jg_wr (σ.1 a0 5)) < (60 : Int)) ∧ ∀ m103 : jg_M, m103 = jg_sI σ (a0 + 5) (jg_wr (σ.1 a0 5)) x1 → ∀ m104 : jg_M, m104 = jg_sI m103 a0 5 ((m103.1 a0 5) + 1) → jg_GI w 0 mm_X6_lengthen 65 [.ref a0, .int (.ofInt x1), u2, .int (.ofInt x3), .int (.ofInt x4), .int (.ofInt (x5 + 1))] m104 Q))) : jg_GI w 0 mm_X6_lengthen 65 [.ref a0, .int (.ofInt x1), u2, .int (.ofInt x3), .int (.ofInt x4), .int (.ofInt x5)] σ Q := by
  show jg_G w 0 mm_X6_lengthen 65 [.ref a0, .int (.ofInt x1), u2, .int (.ofInt x3), .int (.ofInt x4), .int (.ofInt x5)] [] σ (jg_QI Q)
  refine jg_A (pc' := 67) rfl rfl (fun _ _ _ => rfl) ?_
  refine jg_A (pc' := 69) rfl rfl (fun _ _ _ => rfl) ?_
  refine jg_cge (pc' := 72) rfl rfl (fun hc => ?_) (fun hc => ?_)
  · have h := jg_t h (show jg_wr x4 ≤ jg_wr x5 from hc)
    refine jg_A (pc' := 118) rfl rfl (fun _ _ _ => rfl) ?_
    exact jg_zret rfl rfl (by decide) h
  · have h := jg_f h (show ¬ (jg_wr x4 ≤ jg_wr x5) from hc)
    refine jg_A (pc' := 73) rfl rfl (fun _ _ _ => rfl) ?_
    refine jg_getO (pc' := 76) (k := 5) rfl h0 (by decide) rfl rfl ?_
    refine jg_A (pc' := 77) rfl rfl (fun _ _ _ => rfl) ?_
    refine jg_getI (pc' := 80) (bi := 5) rfl h0 (by decide) (Or.inl rfl) rfl rfl ?_
    refine jg_A (pc' := 81) rfl rfl (fun _ _ _ => rfl) ?_
    refine jg_ifge (pc' := 84) rfl rfl (fun hc => ?_) (fun hc => ?_)
    · have h := jg_t h (show 0 ≤ jg_wr x3 from hc)
      refine jg_A (pc' := 89) rfl rfl (fun _ _ _ => rfl) ?_
      refine jg_getO (pc' := 92) (k := 3) rfl h0 (by decide) rfl rfl ?_
      refine jg_A (pc' := 93) rfl rfl (fun _ _ _ => rfl) ?_
      refine jg_A (pc' := 95) rfl rfl (fun _ _ _ => rfl) ?_
      refine jg_imul (pc' := 96) rfl rfl ?_
      refine jg_A (pc' := 98) rfl rfl (fun _ _ _ => rfl) ?_
      refine jg_iadd (pc' := 99) rfl rfl ?_
      obtain ⟨hg, h⟩ := h
      refine jg_iald (pc' := 100) rfl (jg_sX6_2 h0) hg rfl ?_
      obtain ⟨hg, h⟩ := h
      refine jg_iast (pc' := 101) rfl (jg_sX6_4 h0) hg rfl (fun m101 hm101 => ?_)
      have h := h m101 hm101
      refine jg_A (pc' := 102) rfl rfl (fun _ _ _ => rfl) ?_
      refine jg_A (pc' := 103) rfl rfl (fun _ _ _ => rfl) ?_
      refine jg_getI (pc' := 106) (bi := 5) rfl h0 (by decide) (Or.inl rfl) rfl rfl ?_
      refine jg_A (pc' := 107) rfl rfl (fun _ _ _ => rfl) ?_
      refine jg_iadd (pc' := 108) rfl rfl ?_
      refine jg_putI (pc' := 111) (bi := 5) rfl h0 (by decide) rfl rfl rfl rfl (fun m102 hm102 => ?_)
      have h := h m102 hm102
      refine jg_iinc (pc' := 114) (ls' := [.ref a0, .int (.ofInt x1), u2, .int (.ofInt x3), .int (.ofInt x4), .int (.ofInt (x5 + 1))]) rfl rfl rfl rfl ?_
      refine jg_goto rfl ?_
      exact h
    · have h := jg_f h (show ¬ (0 ≤ jg_wr x3) from hc)
      refine jg_A (pc' := 85) rfl rfl (fun _ _ _ => rfl) ?_
      refine jg_goto rfl ?_
      obtain ⟨hg, h⟩ := h
      refine jg_iast (pc' := 101) rfl (jg_sX6_4 h0) hg rfl (fun m103 hm103 => ?_)
      have h := h m103 hm103
      refine jg_A (pc' := 102) rfl rfl (fun _ _ _ => rfl) ?_
      refine jg_A (pc' := 103) rfl rfl (fun _ _ _ => rfl) ?_
      refine jg_getI (pc' := 106) (bi := 5) rfl h0 (by decide) (Or.inl rfl) rfl rfl ?_
      refine jg_A (pc' := 107) rfl rfl (fun _ _ _ => rfl) ?_
      refine jg_iadd (pc' := 108) rfl rfl ?_
      refine jg_putI (pc' := 111) (bi := 5) rfl h0 (by decide) rfl rfl rfl rfl (fun m104 hm104 => ?_)
      have h := h m104 hm104
      refine jg_iinc (pc' := 114) (ls' := [.ref a0, .int (.ofInt x1), u2, .int (.ofInt x3), .int (.ofInt x4), .int (.ofInt (x5 + 1))]) rfl rfl rfl rfl ?_
      refine jg_goto rfl ?_
      exact h
set_option maxRecDepth 100000 in
set_option maxHeartbeats 4000000 in
theorem jb_X6_improves_0 {w : Nat} {a0 : Nat} {a1 : Nat} {n1 : Nat} {x2 : Int} {x3 : Int} {σ : jg_M} {Q : Int → jg_M → Prop} (h0 : jg_sh a0 = (6, 0)) (h1 : jg_sh a1 = (20, n1)) (h : (if jg_wr x3 < 0 then (if jg_wr x3 < 0 then Q 1 σ else (if jg_wr x3 ≤ jg_wr (σ.1 a0 5) then Q 0 σ else Q 1 σ)) else (if jg_wr (σ.1 a0 5) = jg_wr x3 then jg_GI w 0 mm_X6_improves 33 [.ref a0, .ref a1, .int (.ofInt x2), .int (.ofInt x3), .int (.ofInt 0)] σ Q else (if jg_wr x3 < 0 then Q 1 σ else (if jg_wr x3 ≤ jg_wr (σ.1 a0 5) then Q 0 σ else Q 1 σ))))) : jg_CI w 0 mm_X6_improves [.ref a0, .ref a1, .int (.ofInt x2), .int (.ofInt x3)] σ Q := by
  show jg_G w 0 mm_X6_improves 0 [.ref a0, .ref a1, .int (.ofInt x2), .int (.ofInt x3), mj_U] [] σ (jg_QI Q)
  refine jg_A (pc' := 1) rfl rfl (fun _ _ _ => rfl) ?_
  refine jg_iflt (pc' := 4) rfl rfl (fun hc => ?_) (fun hc => ?_)
  · have h := jg_t h (show jg_wr x3 < 0 from hc)
    refine jg_A (pc' := 13) rfl rfl (fun _ _ _ => rfl) ?_
    refine jg_iflt (pc' := 16) rfl rfl (fun hc => ?_) (fun hc => ?_)
    · have h := jg_t h (show jg_wr x3 < 0 from hc)
      refine jg_A (pc' := 25) rfl rfl (fun _ _ _ => rfl) ?_
      refine jg_goto rfl ?_
      exact jg_zret rfl rfl (by decide) h
    · have h := jg_f h (show ¬ (jg_wr x3 < 0) from hc)
      refine jg_A (pc' := 17) rfl rfl (fun _ _ _ => rfl) ?_
      refine jg_getI (pc' := 20) (bi := 5) rfl h0 (by decide) (Or.inl rfl) rfl rfl ?_
      refine jg_A (pc' := 21) rfl rfl (fun _ _ _ => rfl) ?_
      refine jg_cge (pc' := 24) rfl rfl (fun hc => ?_) (fun hc => ?_)
      · have h := jg_t h (show jg_wr x3 ≤ jg_wr (σ.1 a0 5) from hc)
        refine jg_A (pc' := 29) rfl rfl (fun _ _ _ => rfl) ?_
        exact jg_zret rfl rfl (by decide) h
      · have h := jg_f h (show ¬ (jg_wr x3 ≤ jg_wr (σ.1 a0 5)) from hc)
        refine jg_A (pc' := 25) rfl rfl (fun _ _ _ => rfl) ?_
        refine jg_goto rfl ?_
        exact jg_zret rfl rfl (by decide) h
  · have h := jg_f h (show ¬ (jg_wr x3 < 0) from hc)
    refine jg_A (pc' := 5) rfl rfl (fun _ _ _ => rfl) ?_
    refine jg_getI (pc' := 8) (bi := 5) rfl h0 (by decide) (Or.inl rfl) rfl rfl ?_
    refine jg_A (pc' := 9) rfl rfl (fun _ _ _ => rfl) ?_
    refine jg_ceq (pc' := 12) rfl rfl (fun hc => ?_) (fun hc => ?_)
    · have h := jg_t h (show jg_wr (σ.1 a0 5) = jg_wr x3 from hc)
      refine jg_A (pc' := 31) rfl rfl (fun _ _ _ => rfl) ?_
      refine jg_A (pc' := 33) (ls' := [.ref a0, .ref a1, .int (.ofInt x2), .int (.ofInt x3), .int (.ofInt 0)]) rfl rfl (fun _ _ _ => rfl) ?_
      exact h
    · have h := jg_f h (show ¬ (jg_wr (σ.1 a0 5) = jg_wr x3) from hc)
      refine jg_A (pc' := 13) rfl rfl (fun _ _ _ => rfl) ?_
      refine jg_iflt (pc' := 16) rfl rfl (fun hc => ?_) (fun hc => ?_)
      · have h := jg_t h (show jg_wr x3 < 0 from hc)
        refine jg_A (pc' := 25) rfl rfl (fun _ _ _ => rfl) ?_
        refine jg_goto rfl ?_
        exact jg_zret rfl rfl (by decide) h
      · have h := jg_f h (show ¬ (jg_wr x3 < 0) from hc)
        refine jg_A (pc' := 17) rfl rfl (fun _ _ _ => rfl) ?_
        refine jg_getI (pc' := 20) (bi := 5) rfl h0 (by decide) (Or.inl rfl) rfl rfl ?_
        refine jg_A (pc' := 21) rfl rfl (fun _ _ _ => rfl) ?_
        refine jg_cge (pc' := 24) rfl rfl (fun hc => ?_) (fun hc => ?_)
        · have h := jg_t h (show jg_wr x3 ≤ jg_wr (σ.1 a0 5) from hc)
          refine jg_A (pc' := 29) rfl rfl (fun _ _ _ => rfl) ?_
          exact jg_zret rfl rfl (by decide) h
        · have h := jg_f h (show ¬ (jg_wr x3 ≤ jg_wr (σ.1 a0 5)) from hc)
          refine jg_A (pc' := 25) rfl rfl (fun _ _ _ => rfl) ?_
          refine jg_goto rfl ?_
          exact jg_zret rfl rfl (by decide) h
set_option maxRecDepth 100000 in
set_option maxHeartbeats 4000000 in
theorem jb_X6_improves_33 {w : Nat} {a0 : Nat} {n1 : Nat} {a1 : Nat} {x2 : Int} {x3 : Int} {x4 : Int} {σ : jg_M} {Q : Int → jg_M → Prop} (h0 : jg_sh a0 = (6, 0)) (h1 : jg_sh a1 = (20, n1)) (h : (if jg_wr x3 ≤ jg_wr x4 then Q 0 σ else (if jg_wr (n1 : Int) ≤ jg_wr (x2 + x4) then Q 0 σ else ((0 : Int) ≤ jg_wr x4 ∧ jg_wr x4 < (60 : Int)) ∧ ((0 : Int) ≤ jg_wr (x2 + x4) ∧ jg_wr (x2 + x4) < (n1 : Int)) ∧ (if jg_wr (σ.1 (a0 + 5) (jg_wr x4)) = jg_wr (σ.1 a1 (jg_wr (x2 + x4))) then jg_GI w 0 mm_X6_improves 33 [.ref a0, .ref a1, .int (.ofInt x2), .int (.ofInt x3), .int (.ofInt (x4 + 1))] σ Q else ((0 : Int) ≤ jg_wr x4 ∧ jg_wr x4 < (60 : Int)) ∧ ((0 : Int) ≤ jg_wr (x2 + x4) ∧ jg_wr (x2 + x4) < (n1 : Int)) ∧ (if jg_wr (σ.1 a1 (jg_wr (x2 + x4))) ≤ jg_wr (σ.1 (a0 + 5) (jg_wr x4)) then Q 0 σ else Q 1 σ))))) : jg_GI w 0 mm_X6_improves 33 [.ref a0, .ref a1, .int (.ofInt x2), .int (.ofInt x3), .int (.ofInt x4)] σ Q := by
  show jg_G w 0 mm_X6_improves 33 [.ref a0, .ref a1, .int (.ofInt x2), .int (.ofInt x3), .int (.ofInt x4)] [] σ (jg_QI Q)
  refine jg_A (pc' := 35) rfl rfl (fun _ _ _ => rfl) ?_
  refine jg_A (pc' := 36) rfl rfl (fun _ _ _ => rfl) ?_
  refine jg_cge (pc' := 39) rfl rfl (fun hc => ?_) (fun hc => ?_)
  · have h := jg_t h (show jg_wr x3 ≤ jg_wr x4 from hc)
    refine jg_A (pc' := 93) rfl rfl (fun _ _ _ => rfl) ?_
    exact jg_zret rfl rfl (by decide) h
  · have h := jg_f h (show ¬ (jg_wr x3 ≤ jg_wr x4) from hc)
    refine jg_A (pc' := 40) rfl rfl (fun _ _ _ => rfl) ?_
    refine jg_A (pc' := 42) rfl rfl (fun _ _ _ => rfl) ?_
    refine jg_iadd (pc' := 43) rfl rfl ?_
    refine jg_A (pc' := 44) rfl rfl (fun _ _ _ => rfl) ?_
    refine jg_alen (pc' := 45) (ni := (n1 : Int)) rfl h1 (by decide) rfl rfl ?_
    refine jg_cge (pc' := 48) rfl rfl (fun hc => ?_) (fun hc => ?_)
    · have h := jg_t h (show jg_wr (n1 : Int) ≤ jg_wr (x2 + x4) from hc)
      refine jg_A (pc' := 93) rfl rfl (fun _ _ _ => rfl) ?_
      exact jg_zret rfl rfl (by decide) h
    · have h := jg_f h (show ¬ (jg_wr (n1 : Int) ≤ jg_wr (x2 + x4)) from hc)
      refine jg_A (pc' := 49) rfl rfl (fun _ _ _ => rfl) ?_
      refine jg_getO (pc' := 52) (k := 5) rfl h0 (by decide) rfl rfl ?_
      refine jg_A (pc' := 54) rfl rfl (fun _ _ _ => rfl) ?_
      obtain ⟨hg, h⟩ := h
      refine jg_iald (pc' := 55) rfl (jg_sX6_4 h0) hg rfl ?_
      refine jg_A (pc' := 56) rfl rfl (fun _ _ _ => rfl) ?_
      refine jg_A (pc' := 57) rfl rfl (fun _ _ _ => rfl) ?_
      refine jg_A (pc' := 59) rfl rfl (fun _ _ _ => rfl) ?_
      refine jg_iadd (pc' := 60) rfl rfl ?_
      obtain ⟨hg, h⟩ := h
      refine jg_iald (pc' := 61) rfl h1 hg rfl ?_
      refine jg_ceq (pc' := 64) rfl rfl (fun hc => ?_) (fun hc => ?_)
      · have h := jg_t h (show jg_wr (σ.1 (a0 + 5) (jg_wr x4)) = jg_wr (σ.1 a1 (jg_wr (x2 + x4))) from hc)
        refine jg_iinc (pc' := 89) (ls' := [.ref a0, .ref a1, .int (.ofInt x2), .int (.ofInt x3), .int (.ofInt (x4 + 1))]) rfl rfl rfl rfl ?_
        refine jg_goto rfl ?_
        exact h
      · have h := jg_f h (show ¬ (jg_wr (σ.1 (a0 + 5) (jg_wr x4)) = jg_wr (σ.1 a1 (jg_wr (x2 + x4)))) from hc)
        refine jg_A (pc' := 65) rfl rfl (fun _ _ _ => rfl) ?_
        refine jg_getO (pc' := 68) (k := 5) rfl h0 (by decide) rfl rfl ?_
        refine jg_A (pc' := 70) rfl rfl (fun _ _ _ => rfl) ?_
        obtain ⟨hg, h⟩ := h
        refine jg_iald (pc' := 71) rfl (jg_sX6_4 h0) hg rfl ?_
        refine jg_A (pc' := 72) rfl rfl (fun _ _ _ => rfl) ?_
        refine jg_A (pc' := 73) rfl rfl (fun _ _ _ => rfl) ?_
        refine jg_A (pc' := 75) rfl rfl (fun _ _ _ => rfl) ?_
        refine jg_iadd (pc' := 76) rfl rfl ?_
        obtain ⟨hg, h⟩ := h
        refine jg_iald (pc' := 77) rfl h1 hg rfl ?_
        refine jg_cge (pc' := 80) rfl rfl (fun hc => ?_) (fun hc => ?_)
        · have h := jg_t h (show jg_wr (σ.1 a1 (jg_wr (x2 + x4))) ≤ jg_wr (σ.1 (a0 + 5) (jg_wr x4)) from hc)
          refine jg_A (pc' := 85) rfl rfl (fun _ _ _ => rfl) ?_
          exact jg_zret rfl rfl (by decide) h
        · have h := jg_f h (show ¬ (jg_wr (σ.1 a1 (jg_wr (x2 + x4))) ≤ jg_wr (σ.1 (a0 + 5) (jg_wr x4))) from hc)
          refine jg_A (pc' := 81) rfl rfl (fun _ _ _ => rfl) ?_
          refine jg_goto rfl ?_
          exact jg_zret rfl rfl (by decide) h
set_option maxRecDepth 100000 in
set_option maxHeartbeats 4000000 in
theorem jb_X6_tokenOfKind_0 {w : Nat} {a0 : Nat} {x1 : Int} {x2 : Int} {σ : jg_M} {Q : Int → jg_M → Prop} (h0 : jg_sh a0 = (6, 0)) (h : (if jg_wr x1 < 0 then Q (-2) σ else (if 5 ≤ jg_wr x1 then Q (-2) σ else (if jg_wr x2 < 0 then Q (-2) σ else ((0 : Int) ≤ jg_wr x1 ∧ jg_wr x1 < (5 : Int)) ∧ (if jg_wr x2 < jg_wr (σ.1 (a0 + 1) (jg_wr x1)) then ((0 : Int) ≤ jg_wr ((x1 * 40) + x2) ∧ jg_wr ((x1 * 40) + x2) < (200 : Int)) ∧ Q (σ.1 (a0 + 3) (jg_wr ((x1 * 40) + x2))) σ else Q (-2) σ))))) : jg_CI w 0 mm_X6_tokenOfKind [.ref a0, .int (.ofInt x1), .int (.ofInt x2)] σ Q := by
  show jg_G w 0 mm_X6_tokenOfKind 0 [.ref a0, .int (.ofInt x1), .int (.ofInt x2)] [] σ (jg_QI Q)
  refine jg_A (pc' := 1) rfl rfl (fun _ _ _ => rfl) ?_
  refine jg_iflt (pc' := 4) rfl rfl (fun hc => ?_) (fun hc => ?_)
  · have h := jg_t h (show jg_wr x1 < 0 from hc)
    refine jg_A (pc' := 25) rfl rfl (fun _ _ _ => rfl) ?_
    exact jg_iret rfl rfl h
  · have h := jg_f h (show ¬ (jg_wr x1 < 0) from hc)
    refine jg_A (pc' := 5) rfl rfl (fun _ _ _ => rfl) ?_
    refine jg_A (pc' := 6) rfl rfl (fun _ _ _ => rfl) ?_
    refine jg_cge (pc' := 9) rfl rfl (fun hc => ?_) (fun hc => ?_)
    · have h := jg_t h (show 5 ≤ jg_wr x1 from hc)
      refine jg_A (pc' := 25) rfl rfl (fun _ _ _ => rfl) ?_
      exact jg_iret rfl rfl h
    · have h := jg_f h (show ¬ (5 ≤ jg_wr x1) from hc)
      refine jg_A (pc' := 10) rfl rfl (fun _ _ _ => rfl) ?_
      refine jg_iflt (pc' := 13) rfl rfl (fun hc => ?_) (fun hc => ?_)
      · have h := jg_t h (show jg_wr x2 < 0 from hc)
        refine jg_A (pc' := 25) rfl rfl (fun _ _ _ => rfl) ?_
        exact jg_iret rfl rfl h
      · have h := jg_f h (show ¬ (jg_wr x2 < 0) from hc)
        refine jg_A (pc' := 14) rfl rfl (fun _ _ _ => rfl) ?_
        refine jg_A (pc' := 15) rfl rfl (fun _ _ _ => rfl) ?_
        refine jg_getO (pc' := 18) (k := 1) rfl h0 (by decide) rfl rfl ?_
        refine jg_A (pc' := 19) rfl rfl (fun _ _ _ => rfl) ?_
        obtain ⟨hg, h⟩ := h
        refine jg_iald (pc' := 20) rfl (jg_sX6_0 h0) hg rfl ?_
        refine jg_clt (pc' := 23) rfl rfl (fun hc => ?_) (fun hc => ?_)
        · have h := jg_t h (show jg_wr x2 < jg_wr (σ.1 (a0 + 1) (jg_wr x1)) from hc)
          refine jg_A (pc' := 27) rfl rfl (fun _ _ _ => rfl) ?_
          refine jg_getO (pc' := 30) (k := 3) rfl h0 (by decide) rfl rfl ?_
          refine jg_A (pc' := 31) rfl rfl (fun _ _ _ => rfl) ?_
          refine jg_A (pc' := 33) rfl rfl (fun _ _ _ => rfl) ?_
          refine jg_imul (pc' := 34) rfl rfl ?_
          refine jg_A (pc' := 35) rfl rfl (fun _ _ _ => rfl) ?_
          refine jg_iadd (pc' := 36) rfl rfl ?_
          obtain ⟨hg, h⟩ := h
          refine jg_iald (pc' := 37) rfl (jg_sX6_2 h0) hg rfl ?_
          exact jg_iret rfl rfl h
        · have h := jg_f h (show ¬ (jg_wr x2 < jg_wr (σ.1 (a0 + 1) (jg_wr x1))) from hc)
          refine jg_A (pc' := 25) rfl rfl (fun _ _ _ => rfl) ?_
          exact jg_iret rfl rfl h
set_option maxRecDepth 100000 in
set_option maxHeartbeats 4000000 in
theorem jb_X7_has_0 {w : Nat} {a0 : Nat} {x1 : Int} {σ : jg_M} {Q : Int → jg_M → Prop} (h0 : jg_sh a0 = (7, 0)) (h : (if jg_wr x1 < 0 then Q 0 σ else (if jg_wr (σ.1 a0 0) ≤ jg_wr x1 then Q 0 σ else (if 48 ≤ jg_wr x1 then Q 0 σ else Q 1 σ)))) : jg_CI w 0 mm_X7_has [.ref a0, .int (.ofInt x1)] σ Q := by
  show jg_G w 0 mm_X7_has 0 [.ref a0, .int (.ofInt x1)] [] σ (jg_QI Q)
  refine jg_A (pc' := 1) rfl rfl (fun _ _ _ => rfl) ?_
  refine jg_iflt (pc' := 4) rfl rfl (fun hc => ?_) (fun hc => ?_)
  · have h := jg_t h (show jg_wr x1 < 0 from hc)
    refine jg_A (pc' := 23) rfl rfl (fun _ _ _ => rfl) ?_
    exact jg_zret rfl rfl (by decide) h
  · have h := jg_f h (show ¬ (jg_wr x1 < 0) from hc)
    refine jg_A (pc' := 5) rfl rfl (fun _ _ _ => rfl) ?_
    refine jg_A (pc' := 6) rfl rfl (fun _ _ _ => rfl) ?_
    refine jg_getI (pc' := 9) (bi := 0) rfl h0 (by decide) (Or.inl rfl) rfl rfl ?_
    refine jg_cge (pc' := 12) rfl rfl (fun hc => ?_) (fun hc => ?_)
    · have h := jg_t h (show jg_wr (σ.1 a0 0) ≤ jg_wr x1 from hc)
      refine jg_A (pc' := 23) rfl rfl (fun _ _ _ => rfl) ?_
      exact jg_zret rfl rfl (by decide) h
    · have h := jg_f h (show ¬ (jg_wr (σ.1 a0 0) ≤ jg_wr x1) from hc)
      refine jg_A (pc' := 13) rfl rfl (fun _ _ _ => rfl) ?_
      refine jg_A (pc' := 15) rfl rfl (fun _ _ _ => rfl) ?_
      refine jg_cge (pc' := 18) rfl rfl (fun hc => ?_) (fun hc => ?_)
      · have h := jg_t h (show 48 ≤ jg_wr x1 from hc)
        refine jg_A (pc' := 23) rfl rfl (fun _ _ _ => rfl) ?_
        exact jg_zret rfl rfl (by decide) h
      · have h := jg_f h (show ¬ (48 ≤ jg_wr x1) from hc)
        refine jg_A (pc' := 19) rfl rfl (fun _ _ _ => rfl) ?_
        refine jg_goto rfl ?_
        exact jg_zret rfl rfl (by decide) h
set_option maxRecDepth 100000 in
set_option maxHeartbeats 4000000 in
theorem jb_X7_hasItem_0 {w : Nat} {a0 : Nat} {x1 : Int} {x2 : Int} {σ : jg_M} {Q : Int → jg_M → Prop} (h0 : jg_sh a0 = (7, 0)) (h : jg_CI w 0 mm_X7_has [.ref a0, .int (.ofInt x1)] σ (fun (z102 : Int) (m101 : jg_M) => (if jg_wr z102 = 0 then Q 0 m101 else ((0 : Int) ≤ jg_wr x1 ∧ jg_wr x1 < (48 : Int)) ∧ jg_CI w 0 mm_X11_inBits [.long (.ofInt (m101.2 (a0 + 2) (jg_wr x1))), .int (.ofInt x2)] m101 (fun (z104 : Int) (m103 : jg_M) => (if jg_wr z104 = 0 then Q 0 m103 else Q 1 m103))))) : jg_CI w 1 mm_X7_hasItem [.ref a0, .int (.ofInt x1), .int (.ofInt x2)] σ Q := by
  show jg_G w 1 mm_X7_hasItem 0 [.ref a0, .int (.ofInt x1), .int (.ofInt x2)] [] σ (jg_QI Q)
  refine jg_A (pc' := 1) rfl rfl (fun _ _ _ => rfl) ?_
  refine jg_A (pc' := 2) rfl rfl (fun _ _ _ => rfl) ?_
  refine jg_calX (M1 := mm_X7_has) (hy := 0) (pc' := 5) rfl jm_X7_has (by decide) rfl h0 (by decide) ⟨Nat.le_of_ble_eq_true rfl, rfl⟩ (Nat.le_of_ble_eq_true rfl) rfl h (jg_kI (fun z102 m101 h => ?_))
  refine jg_ifeq (pc' := 8) rfl rfl (fun hc => ?_) (fun hc => ?_)
  · have h := jg_t h (show jg_wr z102 = 0 from hc)
    refine jg_A (pc' := 26) rfl rfl (fun _ _ _ => rfl) ?_
    exact jg_zret rfl rfl (by decide) h
  · have h := jg_f h (show ¬ (jg_wr z102 = 0) from hc)
    refine jg_A (pc' := 9) rfl rfl (fun _ _ _ => rfl) ?_
    refine jg_getO (pc' := 12) (k := 2) rfl h0 (by decide) rfl rfl ?_
    refine jg_A (pc' := 13) rfl rfl (fun _ _ _ => rfl) ?_
    obtain ⟨hg, h⟩ := h
    refine jg_lald (pc' := 14) rfl (jg_sX7_2 h0) hg rfl ?_
    refine jg_A (pc' := 15) rfl rfl (fun _ _ _ => rfl) ?_
    refine jg_calS (M1 := mm_X11_inBits) (hy := 0) (pc' := 18) rfl (Or.inr rfl) jm_X11_inBits (by decide) rfl ⟨Nat.le_of_ble_eq_true rfl, rfl⟩ (Nat.le_of_ble_eq_true rfl) rfl h (jg_kI (fun z104 m103 h => ?_))
    refine jg_ifeq (pc' := 21) rfl rfl (fun hc => ?_) (fun hc => ?_)
    · have h := jg_t h (show jg_wr z104 = 0 from hc)
      refine jg_A (pc' := 26) rfl rfl (fun _ _ _ => rfl) ?_
      exact jg_zret rfl rfl (by decide) h
    · have h := jg_f h (show ¬ (jg_wr z104 = 0) from hc)
      refine jg_A (pc' := 22) rfl rfl (fun _ _ _ => rfl) ?_
      refine jg_goto rfl ?_
      exact jg_zret rfl rfl (by decide) h
set_option maxRecDepth 100000 in
set_option maxHeartbeats 4000000 in
theorem jb_X7_moveBy_0 {w : Nat} {a0 : Nat} {x1 : Int} {x2 : Int} {σ : jg_M} {Q : Int → jg_M → Prop} (h0 : jg_sh a0 = (7, 0)) (h : jg_CI w 0 mm_X7_has [.ref a0, .int (.ofInt x1)] σ (fun (z102 : Int) (m101 : jg_M) => (if jg_wr z102 = 0 then Q (-2) m101 else (if jg_wr x2 < 0 then Q (-2) m101 else (if jg_wr x2 < 15 then ((0 : Int) ≤ jg_wr ((x1 * 15) + x2) ∧ jg_wr ((x1 * 15) + x2) < (720 : Int)) ∧ Q (m101.1 (a0 + 4) (jg_wr ((x1 * 15) + x2))) m101 else Q (-2) m101))))) : jg_CI w 1 mm_X7_moveBy [.ref a0, .int (.ofInt x1), .int (.ofInt x2)] σ Q := by
  show jg_G w 1 mm_X7_moveBy 0 [.ref a0, .int (.ofInt x1), .int (.ofInt x2)] [] σ (jg_QI Q)
  refine jg_A (pc' := 1) rfl rfl (fun _ _ _ => rfl) ?_
  refine jg_A (pc' := 2) rfl rfl (fun _ _ _ => rfl) ?_
  refine jg_calX (M1 := mm_X7_has) (hy := 0) (pc' := 5) rfl jm_X7_has (by decide) rfl h0 (by decide) ⟨Nat.le_of_ble_eq_true rfl, rfl⟩ (Nat.le_of_ble_eq_true rfl) rfl h (jg_kI (fun z102 m101 h => ?_))
  refine jg_ifeq (pc' := 8) rfl rfl (fun hc => ?_) (fun hc => ?_)
  · have h := jg_t h (show jg_wr z102 = 0 from hc)
    refine jg_A (pc' := 20) rfl rfl (fun _ _ _ => rfl) ?_
    exact jg_iret rfl rfl h
  · have h := jg_f h (show ¬ (jg_wr z102 = 0) from hc)
    refine jg_A (pc' := 9) rfl rfl (fun _ _ _ => rfl) ?_
    refine jg_iflt (pc' := 12) rfl rfl (fun hc => ?_) (fun hc => ?_)
    · have h := jg_t h (show jg_wr x2 < 0 from hc)
      refine jg_A (pc' := 20) rfl rfl (fun _ _ _ => rfl) ?_
      exact jg_iret rfl rfl h
    · have h := jg_f h (show ¬ (jg_wr x2 < 0) from hc)
      refine jg_A (pc' := 13) rfl rfl (fun _ _ _ => rfl) ?_
      refine jg_A (pc' := 15) rfl rfl (fun _ _ _ => rfl) ?_
      refine jg_clt (pc' := 18) rfl rfl (fun hc => ?_) (fun hc => ?_)
      · have h := jg_t h (show jg_wr x2 < 15 from hc)
        refine jg_A (pc' := 22) rfl rfl (fun _ _ _ => rfl) ?_
        refine jg_getO (pc' := 25) (k := 4) rfl h0 (by decide) rfl rfl ?_
        refine jg_A (pc' := 26) rfl rfl (fun _ _ _ => rfl) ?_
        refine jg_A (pc' := 28) rfl rfl (fun _ _ _ => rfl) ?_
        refine jg_imul (pc' := 29) rfl rfl ?_
        refine jg_A (pc' := 30) rfl rfl (fun _ _ _ => rfl) ?_
        refine jg_iadd (pc' := 31) rfl rfl ?_
        obtain ⟨hg, h⟩ := h
        refine jg_iald (pc' := 32) rfl (jg_sX7_4 h0) hg rfl ?_
        exact jg_iret rfl rfl h
      · have h := jg_f h (show ¬ (jg_wr x2 < 15) from hc)
        refine jg_A (pc' := 20) rfl rfl (fun _ _ _ => rfl) ?_
        exact jg_iret rfl rfl h
set_option maxRecDepth 100000 in
set_option maxHeartbeats 4000000 in
theorem jb_X7_behind_0 {w : Nat} {a0 : Nat} {x1 : Int} {x2 : Int} {σ : jg_M} {Q : Int → jg_M → Prop} (h0 : jg_sh a0 = (7, 0)) (h : jg_CI w 0 mm_X7_has [.ref a0, .int (.ofInt x1)] σ (fun (z102 : Int) (m101 : jg_M) => (if jg_wr z102 = 0 then Q 0 m101 else (if jg_wr x2 < 0 then Q 0 m101 else (if 62 ≤ jg_wr x2 then Q 0 m101 else ((0 : Int) ≤ jg_wr ((x1 * 62) + x2) ∧ jg_wr ((x1 * 62) + x2) < (2976 : Int)) ∧ Q (m101.1 (a0 + 5) (jg_wr ((x1 * 62) + x2))) m101))))) : jg_CI w 1 mm_X7_behind [.ref a0, .int (.ofInt x1), .int (.ofInt x2)] σ Q := by
  show jg_G w 1 mm_X7_behind 0 [.ref a0, .int (.ofInt x1), .int (.ofInt x2)] [] σ (jg_QI Q)
  refine jg_A (pc' := 1) rfl rfl (fun _ _ _ => rfl) ?_
  refine jg_A (pc' := 2) rfl rfl (fun _ _ _ => rfl) ?_
  refine jg_calX (M1 := mm_X7_has) (hy := 0) (pc' := 5) rfl jm_X7_has (by decide) rfl h0 (by decide) ⟨Nat.le_of_ble_eq_true rfl, rfl⟩ (Nat.le_of_ble_eq_true rfl) rfl h (jg_kI (fun z102 m101 h => ?_))
  refine jg_ifeq (pc' := 8) rfl rfl (fun hc => ?_) (fun hc => ?_)
  · have h := jg_t h (show jg_wr z102 = 0 from hc)
    refine jg_A (pc' := 33) rfl rfl (fun _ _ _ => rfl) ?_
    exact jg_iret rfl rfl h
  · have h := jg_f h (show ¬ (jg_wr z102 = 0) from hc)
    refine jg_A (pc' := 9) rfl rfl (fun _ _ _ => rfl) ?_
    refine jg_iflt (pc' := 12) rfl rfl (fun hc => ?_) (fun hc => ?_)
    · have h := jg_t h (show jg_wr x2 < 0 from hc)
      refine jg_A (pc' := 33) rfl rfl (fun _ _ _ => rfl) ?_
      exact jg_iret rfl rfl h
    · have h := jg_f h (show ¬ (jg_wr x2 < 0) from hc)
      refine jg_A (pc' := 13) rfl rfl (fun _ _ _ => rfl) ?_
      refine jg_A (pc' := 15) rfl rfl (fun _ _ _ => rfl) ?_
      refine jg_cge (pc' := 18) rfl rfl (fun hc => ?_) (fun hc => ?_)
      · have h := jg_t h (show 62 ≤ jg_wr x2 from hc)
        refine jg_A (pc' := 33) rfl rfl (fun _ _ _ => rfl) ?_
        exact jg_iret rfl rfl h
      · have h := jg_f h (show ¬ (62 ≤ jg_wr x2) from hc)
        refine jg_A (pc' := 19) rfl rfl (fun _ _ _ => rfl) ?_
        refine jg_getO (pc' := 22) (k := 5) rfl h0 (by decide) rfl rfl ?_
        refine jg_A (pc' := 23) rfl rfl (fun _ _ _ => rfl) ?_
        refine jg_A (pc' := 25) rfl rfl (fun _ _ _ => rfl) ?_
        refine jg_imul (pc' := 26) rfl rfl ?_
        refine jg_A (pc' := 27) rfl rfl (fun _ _ _ => rfl) ?_
        refine jg_iadd (pc' := 28) rfl rfl ?_
        obtain ⟨hg, h⟩ := h
        refine jg_iald (pc' := 29) rfl (jg_sX7_5 h0) hg rfl ?_
        refine jg_goto rfl ?_
        exact jg_iret rfl rfl h
set_option maxRecDepth 100000 in
set_option maxHeartbeats 4000000 in
theorem jb_X7_itemsInAll_0 {w : Nat} {a0 : Nat} {σ : jg_M} {Q : Int → jg_M → Prop} (h0 : jg_sh a0 = (7, 0)) (h : jg_GI w 1 mm_X7_itemsInAll 4 [.ref a0, .int (.ofInt 0), .int (.ofInt 0)] σ Q) : jg_CI w 1 mm_X7_itemsInAll [.ref a0] σ Q := by
  show jg_G w 1 mm_X7_itemsInAll 0 [.ref a0, mj_U, mj_U] [] σ (jg_QI Q)
  refine jg_A (pc' := 1) rfl rfl (fun _ _ _ => rfl) ?_
  refine jg_A (pc' := 2) (ls' := [.ref a0, .int (.ofInt 0), mj_U]) rfl rfl (fun _ _ _ => rfl) ?_
  refine jg_A (pc' := 3) rfl rfl (fun _ _ _ => rfl) ?_
  refine jg_A (pc' := 4) (ls' := [.ref a0, .int (.ofInt 0), .int (.ofInt 0)]) rfl rfl (fun _ _ _ => rfl) ?_
  exact h
set_option maxRecDepth 100000 in
set_option maxHeartbeats 4000000 in
theorem jb_X7_itemsInAll_4 {w : Nat} {a0 : Nat} {x1 : Int} {x2 : Int} {σ : jg_M} {Q : Int → jg_M → Prop} (h0 : jg_sh a0 = (7, 0)) (h : (if jg_wr (σ.1 a0 0) ≤ jg_wr x2 then Q x1 σ else (if 48 ≤ jg_wr x2 then Q x1 σ else ((0 : Int) ≤ jg_wr x2 ∧ jg_wr x2 < (48 : Int)) ∧ jg_CI w 0 mm_J13_bitCount_95d88 [.long (.ofInt (σ.2 (a0 + 2) (jg_wr x2)))] σ (fun (z102 : Int) (m101 : jg_M) => ∀ t103 : Int, t103 = (x1 + z102) → jg_GI w 1 mm_X7_itemsInAll 4 [.ref a0, .int (.ofInt t103), .int (.ofInt (x2 + 1))] m101 Q)))) : jg_GI w 1 mm_X7_itemsInAll 4 [.ref a0, .int (.ofInt x1), .int (.ofInt x2)] σ Q := by
  show jg_G w 1 mm_X7_itemsInAll 4 [.ref a0, .int (.ofInt x1), .int (.ofInt x2)] [] σ (jg_QI Q)
  refine jg_A (pc' := 5) rfl rfl (fun _ _ _ => rfl) ?_
  refine jg_A (pc' := 6) rfl rfl (fun _ _ _ => rfl) ?_
  refine jg_getI (pc' := 9) (bi := 0) rfl h0 (by decide) (Or.inl rfl) rfl rfl ?_
  refine jg_cge (pc' := 12) rfl rfl (fun hc => ?_) (fun hc => ?_)
  · have h := jg_t h (show jg_wr (σ.1 a0 0) ≤ jg_wr x2 from hc)
    refine jg_A (pc' := 37) rfl rfl (fun _ _ _ => rfl) ?_
    exact jg_iret rfl rfl h
  · have h := jg_f h (show ¬ (jg_wr (σ.1 a0 0) ≤ jg_wr x2) from hc)
    refine jg_A (pc' := 13) rfl rfl (fun _ _ _ => rfl) ?_
    refine jg_A (pc' := 15) rfl rfl (fun _ _ _ => rfl) ?_
    refine jg_cge (pc' := 18) rfl rfl (fun hc => ?_) (fun hc => ?_)
    · have h := jg_t h (show 48 ≤ jg_wr x2 from hc)
      refine jg_A (pc' := 37) rfl rfl (fun _ _ _ => rfl) ?_
      exact jg_iret rfl rfl h
    · have h := jg_f h (show ¬ (48 ≤ jg_wr x2) from hc)
      refine jg_A (pc' := 19) rfl rfl (fun _ _ _ => rfl) ?_
      refine jg_A (pc' := 20) rfl rfl (fun _ _ _ => rfl) ?_
      refine jg_getO (pc' := 23) (k := 2) rfl h0 (by decide) rfl rfl ?_
      refine jg_A (pc' := 24) rfl rfl (fun _ _ _ => rfl) ?_
      obtain ⟨hg, h⟩ := h
      refine jg_lald (pc' := 25) rfl (jg_sX7_2 h0) hg rfl ?_
      refine jg_calS (M1 := mm_J13_bitCount_95d88) (hy := 0) (pc' := 28) rfl (Or.inl rfl) jm_J13_bitCount_95d88 (by decide) rfl ⟨Nat.le_of_ble_eq_true rfl, rfl⟩ (Nat.le_of_ble_eq_true rfl) rfl h (jg_kI (fun z102 m101 h => ?_))
      refine jg_iadd (pc' := 29) rfl rfl ?_
      refine jg_nm (F := fun t103 => jg_G w 1 mm_X7_itemsInAll 29 [.ref a0, .int (.ofInt x1), .int (.ofInt x2)] [.int (.ofInt t103)] m101 (jg_QI Q)) (x1 + z102) (fun t103 ht103 => ?_)
      have h := h t103 ht103
      refine jg_A (pc' := 30) (ls' := [.ref a0, .int (.ofInt t103), .int (.ofInt x2)]) rfl rfl (fun _ _ _ => rfl) ?_
      refine jg_iinc (pc' := 33) (ls' := [.ref a0, .int (.ofInt t103), .int (.ofInt (x2 + 1))]) rfl rfl rfl rfl ?_
      refine jg_goto rfl ?_
      exact h
set_option maxRecDepth 100000 in
set_option maxHeartbeats 4000000 in
theorem jb_X7_movesInAll_0 {w : Nat} {a0 : Nat} {σ : jg_M} {Q : Int → jg_M → Prop} (h0 : jg_sh a0 = (7, 0)) (h : jg_GI w 2 mm_X7_movesInAll 4 [.ref a0, .int (.ofInt 0), .int (.ofInt 0), mj_U] σ Q) : jg_CI w 2 mm_X7_movesInAll [.ref a0] σ Q := by
  show jg_G w 2 mm_X7_movesInAll 0 [.ref a0, mj_U, mj_U, mj_U] [] σ (jg_QI Q)
  refine jg_A (pc' := 1) rfl rfl (fun _ _ _ => rfl) ?_
  refine jg_A (pc' := 2) (ls' := [.ref a0, .int (.ofInt 0), mj_U, mj_U]) rfl rfl (fun _ _ _ => rfl) ?_
  refine jg_A (pc' := 3) rfl rfl (fun _ _ _ => rfl) ?_
  refine jg_A (pc' := 4) (ls' := [.ref a0, .int (.ofInt 0), .int (.ofInt 0), mj_U]) rfl rfl (fun _ _ _ => rfl) ?_
  exact h
set_option maxRecDepth 100000 in
set_option maxHeartbeats 4000000 in
theorem jb_X7_movesInAll_4 {w : Nat} {a0 : Nat} {x1 : Int} {x2 : Int} {u3 : Value} {σ : jg_M} {Q : Int → jg_M → Prop} (h0 : jg_sh a0 = (7, 0)) (h : (if jg_wr (σ.1 a0 0) ≤ jg_wr x2 then Q x1 σ else jg_GI w 2 mm_X7_movesInAll 14 [.ref a0, .int (.ofInt x1), .int (.ofInt x2), .int (.ofInt 0)] σ Q)) : jg_GI w 2 mm_X7_movesInAll 4 [.ref a0, .int (.ofInt x1), .int (.ofInt x2), u3] σ Q := by
  show jg_G w 2 mm_X7_movesInAll 4 [.ref a0, .int (.ofInt x1), .int (.ofInt x2), u3] [] σ (jg_QI Q)
  refine jg_A (pc' := 5) rfl rfl (fun _ _ _ => rfl) ?_
  refine jg_A (pc' := 6) rfl rfl (fun _ _ _ => rfl) ?_
  refine jg_getI (pc' := 9) (bi := 0) rfl h0 (by decide) (Or.inl rfl) rfl rfl ?_
  refine jg_cge (pc' := 12) rfl rfl (fun hc => ?_) (fun hc => ?_)
  · have h := jg_t h (show jg_wr (σ.1 a0 0) ≤ jg_wr x2 from hc)
    refine jg_A (pc' := 45) rfl rfl (fun _ _ _ => rfl) ?_
    exact jg_iret rfl rfl h
  · have h := jg_f h (show ¬ (jg_wr (σ.1 a0 0) ≤ jg_wr x2) from hc)
    refine jg_A (pc' := 13) rfl rfl (fun _ _ _ => rfl) ?_
    refine jg_A (pc' := 14) (ls' := [.ref a0, .int (.ofInt x1), .int (.ofInt x2), .int (.ofInt 0)]) rfl rfl (fun _ _ _ => rfl) ?_
    exact h
set_option maxRecDepth 100000 in
set_option maxHeartbeats 4000000 in
theorem jb_X7_movesInAll_14 {w : Nat} {a0 : Nat} {x1 : Int} {x2 : Int} {x3 : Int} {σ : jg_M} {Q : Int → jg_M → Prop} (h0 : jg_sh a0 = (7, 0)) (h : (if 15 ≤ jg_wr x3 then jg_GI w 2 mm_X7_movesInAll 4 [.ref a0, .int (.ofInt x1), .int (.ofInt (x2 + 1)), .int (.ofInt x3)] σ Q else jg_CI w 1 mm_X7_moveBy [.ref a0, .int (.ofInt x2), .int (.ofInt x3)] σ (fun (z102 : Int) (m101 : jg_M) => (if jg_wr z102 < 0 then jg_GI w 2 mm_X7_movesInAll 14 [.ref a0, .int (.ofInt x1), .int (.ofInt x2), .int (.ofInt (x3 + 1))] m101 Q else jg_GI w 2 mm_X7_movesInAll 14 [.ref a0, .int (.ofInt (x1 + 1)), .int (.ofInt x2), .int (.ofInt (x3 + 1))] m101 Q)))) : jg_GI w 2 mm_X7_movesInAll 14 [.ref a0, .int (.ofInt x1), .int (.ofInt x2), .int (.ofInt x3)] σ Q := by
  show jg_G w 2 mm_X7_movesInAll 14 [.ref a0, .int (.ofInt x1), .int (.ofInt x2), .int (.ofInt x3)] [] σ (jg_QI Q)
  refine jg_A (pc' := 15) rfl rfl (fun _ _ _ => rfl) ?_
  refine jg_A (pc' := 17) rfl rfl (fun _ _ _ => rfl) ?_
  refine jg_cge (pc' := 20) rfl rfl (fun hc => ?_) (fun hc => ?_)
  · have h := jg_t h (show 15 ≤ jg_wr x3 from hc)
    refine jg_iinc (pc' := 41) (ls' := [.ref a0, .int (.ofInt x1), .int (.ofInt (x2 + 1)), .int (.ofInt x3)]) rfl rfl rfl rfl ?_
    refine jg_goto rfl ?_
    exact h
  · have h := jg_f h (show ¬ (15 ≤ jg_wr x3) from hc)
    refine jg_A (pc' := 21) rfl rfl (fun _ _ _ => rfl) ?_
    refine jg_A (pc' := 22) rfl rfl (fun _ _ _ => rfl) ?_
    refine jg_A (pc' := 23) rfl rfl (fun _ _ _ => rfl) ?_
    refine jg_calX (M1 := mm_X7_moveBy) (hy := 1) (pc' := 26) rfl jm_X7_moveBy (by decide) rfl h0 (by decide) ⟨Nat.le_of_ble_eq_true rfl, rfl⟩ (Nat.le_of_ble_eq_true rfl) rfl h (jg_kI (fun z102 m101 h => ?_))
    refine jg_iflt (pc' := 29) rfl rfl (fun hc => ?_) (fun hc => ?_)
    · have h := jg_t h (show jg_wr z102 < 0 from hc)
      refine jg_iinc (pc' := 35) (ls' := [.ref a0, .int (.ofInt x1), .int (.ofInt x2), .int (.ofInt (x3 + 1))]) rfl rfl rfl rfl ?_
      refine jg_goto rfl ?_
      exact h
    · have h := jg_f h (show ¬ (jg_wr z102 < 0) from hc)
      refine jg_iinc (pc' := 32) (ls' := [.ref a0, .int (.ofInt (x1 + 1)), .int (.ofInt x2), .int (.ofInt x3)]) rfl rfl rfl rfl ?_
      refine jg_iinc (pc' := 35) (ls' := [.ref a0, .int (.ofInt (x1 + 1)), .int (.ofInt x2), .int (.ofInt (x3 + 1))]) rfl rfl rfl rfl ?_
      refine jg_goto rfl ?_
      exact h
set_option maxRecDepth 100000 in
set_option maxHeartbeats 4000000 in
theorem jb_X7_make_0 {w : Nat} {a0 : Nat} {a1 : Nat} {σ : jg_M} {Q : Int → jg_M → Prop} (h0 : jg_sh a0 = (7, 0)) (h1 : jg_sh a1 = (0, 0)) (h : ∀ m101 : jg_M, m101 = jg_sI σ a0 0 0 → jg_CI w 0 mm_X0_hasKind [.ref a1, .int (.ofInt (m101.1 a1 3))] m101 (fun (z103 : Int) (m102 : jg_M) => (if jg_wr z103 = 0 then Q 1 m102 else jg_CI w 1 mm_X7_numberOf [.ref a0, .long (.ofInt (jg_qshl 1 ((m102.1 a1 2) * 5))), .int (.ofInt (-2))] m102 (fun (z105 : Int) (m104 : jg_M) => jg_GI w 2 mm_X7_make 35 [.ref a0, .ref a1, .int (.ofInt 0), mj_U, mj_U, mj_U, mj_U] m104 Q)))) : jg_CI w 2 mm_X7_make [.ref a0, .ref a1] σ Q := by
  show jg_G w 2 mm_X7_make 0 [.ref a0, .ref a1, mj_U, mj_U, mj_U, mj_U, mj_U] [] σ (jg_QI Q)
  refine jg_A (pc' := 1) rfl rfl (fun _ _ _ => rfl) ?_
  refine jg_A (pc' := 2) rfl rfl (fun _ _ _ => rfl) ?_
  refine jg_putI (pc' := 5) (bi := 0) rfl h0 (by decide) rfl rfl rfl rfl (fun m101 hm101 => ?_)
  have h := h m101 hm101
  refine jg_A (pc' := 6) rfl rfl (fun _ _ _ => rfl) ?_
  refine jg_A (pc' := 7) rfl rfl (fun _ _ _ => rfl) ?_
  refine jg_getI (pc' := 10) (bi := 3) rfl h1 (by decide) (Or.inl rfl) rfl rfl ?_
  refine jg_calX (M1 := mm_X0_hasKind) (hy := 0) (pc' := 13) rfl jm_X0_hasKind (by decide) rfl h1 (by decide) ⟨Nat.le_of_ble_eq_true rfl, rfl⟩ (Nat.le_of_ble_eq_true rfl) rfl h (jg_kI (fun z103 m102 h => ?_))
  refine jg_ifne (pc' := 16) rfl rfl (fun hc => ?_) (fun hc => ?_)
  · have h := jg_t h (show jg_wr z103 = 0 from hc)
    refine jg_A (pc' := 17) rfl rfl (fun _ _ _ => rfl) ?_
    exact jg_zret rfl rfl (by decide) h
  · have h := jg_f h (show ¬ (jg_wr z103 = 0) from hc)
    refine jg_A (pc' := 19) rfl rfl (fun _ _ _ => rfl) ?_
    refine jg_lcst (pc' := 20) (x := 1) rfl rfl rfl ?_
    refine jg_A (pc' := 21) rfl rfl (fun _ _ _ => rfl) ?_
    refine jg_getI (pc' := 24) (bi := 2) rfl h1 (by decide) (Or.inl rfl) rfl rfl ?_
    refine jg_A (pc' := 25) rfl rfl (fun _ _ _ => rfl) ?_
    refine jg_imul (pc' := 26) rfl rfl ?_
    refine jg_lshl (pc' := 27) rfl rfl ?_
    refine jg_A (pc' := 29) rfl rfl (fun _ _ _ => rfl) ?_
    refine jg_calX (M1 := mm_X7_numberOf) (hy := 1) (pc' := 32) rfl jm_X7_numberOf (by decide) rfl h0 (by decide) ⟨Nat.le_of_ble_eq_true rfl, rfl⟩ (Nat.le_of_ble_eq_true rfl) rfl h (jg_kI (fun z105 m104 h => ?_))
    refine jg_A (pc' := 33) rfl rfl (fun _ _ _ => rfl) ?_
    refine jg_A (pc' := 34) rfl rfl (fun _ _ _ => rfl) ?_
    refine jg_A (pc' := 35) (ls' := [.ref a0, .ref a1, .int (.ofInt 0), mj_U, mj_U, mj_U, mj_U]) rfl rfl (fun _ _ _ => rfl) ?_
    exact h
set_option maxRecDepth 100000 in
set_option maxHeartbeats 4000000 in
theorem jb_X7_make_35 {w : Nat} {a0 : Nat} {u1 : Value} {x2 : Int} {u3 : Value} {u4 : Value} {u5 : Value} {u6 : Value} {σ : jg_M} {Q : Int → jg_M → Prop} (h0 : jg_sh a0 = (7, 0)) (h : (if jg_wr (σ.1 a0 0) ≤ jg_wr x2 then Q 1 σ else (if 48 ≤ jg_wr x2 then Q 1 σ else jg_GI w 2 mm_X7_make 51 [.ref a0, u1, .int (.ofInt x2), .int (.ofInt 0), u4, u5, u6] σ Q))) : jg_GI w 2 mm_X7_make 35 [.ref a0, u1, .int (.ofInt x2), u3, u4, u5, u6] σ Q := by
  show jg_G w 2 mm_X7_make 35 [.ref a0, u1, .int (.ofInt x2), u3, u4, u5, u6] [] σ (jg_QI Q)
  refine jg_A (pc' := 36) rfl rfl (fun _ _ _ => rfl) ?_
  refine jg_A (pc' := 37) rfl rfl (fun _ _ _ => rfl) ?_
  refine jg_getI (pc' := 40) (bi := 0) rfl h0 (by decide) (Or.inl rfl) rfl rfl ?_
  refine jg_cge (pc' := 43) rfl rfl (fun hc => ?_) (fun hc => ?_)
  · have h := jg_t h (show jg_wr (σ.1 a0 0) ≤ jg_wr x2 from hc)
    refine jg_A (pc' := 129) rfl rfl (fun _ _ _ => rfl) ?_
    exact jg_zret rfl rfl (by decide) h
  · have h := jg_f h (show ¬ (jg_wr (σ.1 a0 0) ≤ jg_wr x2) from hc)
    refine jg_A (pc' := 44) rfl rfl (fun _ _ _ => rfl) ?_
    refine jg_A (pc' := 46) rfl rfl (fun _ _ _ => rfl) ?_
    refine jg_cge (pc' := 49) rfl rfl (fun hc => ?_) (fun hc => ?_)
    · have h := jg_t h (show 48 ≤ jg_wr x2 from hc)
      refine jg_A (pc' := 129) rfl rfl (fun _ _ _ => rfl) ?_
      exact jg_zret rfl rfl (by decide) h
    · have h := jg_f h (show ¬ (48 ≤ jg_wr x2) from hc)
      refine jg_A (pc' := 50) rfl rfl (fun _ _ _ => rfl) ?_
      refine jg_A (pc' := 51) (ls' := [.ref a0, u1, .int (.ofInt x2), .int (.ofInt 0), u4, u5, u6]) rfl rfl (fun _ _ _ => rfl) ?_
      exact h
set_option maxRecDepth 100000 in
set_option maxHeartbeats 4000000 in
theorem jb_X7_make_51 {w : Nat} {a0 : Nat} {u1 : Value} {x2 : Int} {x3 : Int} {u4 : Value} {u5 : Value} {u6 : Value} {σ : jg_M} {Q : Int → jg_M → Prop} (h0 : jg_sh a0 = (7, 0)) (h : (if 15 ≤ jg_wr x3 then jg_GI w 2 mm_X7_make 35 [.ref a0, u1, .int (.ofInt (x2 + 1)), .int (.ofInt x3), u4, u5, u6] σ Q else ((0 : Int) ≤ jg_wr x2 ∧ jg_wr x2 < (48 : Int)) ∧ ((0 : Int) ≤ jg_wr x3 ∧ jg_wr x3 < (15 : Int)) ∧ ∀ t101 : Int, t101 = (jg_qshl (jg_qand (σ.2 (a0 + 2) (jg_wr x2)) (σ.2 (a0 + 6) (jg_wr x3))) 1) → (if jg_wr (jg_lc t101 0) = 0 then ((0 : Int) ≤ (jg_wr ((x2 * 15) + x3)) ∧ (jg_wr ((x2 * 15) + x3)) < (720 : Int)) ∧ ∀ m102 : jg_M, m102 = jg_sI σ (a0 + 4) (jg_wr ((x2 * 15) + x3)) (-2) → jg_GI w 2 mm_X7_make 51 [.ref a0, u1, .int (.ofInt x2), .int (.ofInt (x3 + 1)), .long (.ofInt t101), u5, .int (.ofInt (-2))] m102 Q else jg_CI w 1 mm_X7_numberOf [.ref a0, .long (.ofInt t101), .int (.ofInt x3)] σ (fun (z104 : Int) (m103 : jg_M) => (if jg_wr z104 = (-1) then Q 0 m103 else ((0 : Int) ≤ (jg_wr ((x2 * 15) + x3)) ∧ (jg_wr ((x2 * 15) + x3)) < (720 : Int)) ∧ ∀ m105 : jg_M, m105 = jg_sI m103 (a0 + 4) (jg_wr ((x2 * 15) + x3)) z104 → jg_GI w 2 mm_X7_make 51 [.ref a0, u1, .int (.ofInt x2), .int (.ofInt (x3 + 1)), .long (.ofInt t101), u5, .int (.ofInt z104)] m105 Q))))) : jg_GI w 2 mm_X7_make 51 [.ref a0, u1, .int (.ofInt x2), .int (.ofInt x3), u4, u5, u6] σ Q := by
  show jg_G w 2 mm_X7_make 51 [.ref a0, u1, .int (.ofInt x2), .int (.ofInt x3), u4, u5, u6] [] σ (jg_QI Q)
  refine jg_A (pc' := 52) rfl rfl (fun _ _ _ => rfl) ?_
  refine jg_A (pc' := 54) rfl rfl (fun _ _ _ => rfl) ?_
  refine jg_cge (pc' := 57) rfl rfl (fun hc => ?_) (fun hc => ?_)
  · have h := jg_t h (show 15 ≤ jg_wr x3 from hc)
    refine jg_iinc (pc' := 125) (ls' := [.ref a0, u1, .int (.ofInt (x2 + 1)), .int (.ofInt x3), u4, u5, u6]) rfl rfl rfl rfl ?_
    refine jg_goto rfl ?_
    exact h
  · have h := jg_f h (show ¬ (15 ≤ jg_wr x3) from hc)
    refine jg_A (pc' := 58) rfl rfl (fun _ _ _ => rfl) ?_
    refine jg_getO (pc' := 61) (k := 2) rfl h0 (by decide) rfl rfl ?_
    refine jg_A (pc' := 62) rfl rfl (fun _ _ _ => rfl) ?_
    obtain ⟨hg, h⟩ := h
    refine jg_lald (pc' := 63) rfl (jg_sX7_2 h0) hg rfl ?_
    refine jg_A (pc' := 64) rfl rfl (fun _ _ _ => rfl) ?_
    refine jg_getO (pc' := 67) (k := 6) rfl h0 (by decide) rfl rfl ?_
    refine jg_A (pc' := 68) rfl rfl (fun _ _ _ => rfl) ?_
    obtain ⟨hg, h⟩ := h
    refine jg_lald (pc' := 69) rfl (jg_sX7_7 h0) hg rfl ?_
    refine jg_land (pc' := 70) rfl rfl ?_
    refine jg_A (pc' := 71) rfl rfl (fun _ _ _ => rfl) ?_
    refine jg_lshl (pc' := 72) rfl rfl ?_
    refine jg_nm (F := fun t101 => jg_G w 2 mm_X7_make 72 [.ref a0, u1, .int (.ofInt x2), .int (.ofInt x3), u4, u5, u6] [.long (.ofInt t101)] σ (jg_QI Q)) (jg_qshl (jg_qand (σ.2 (a0 + 2) (jg_wr x2)) (σ.2 (a0 + 6) (jg_wr x3))) 1) (fun t101 ht101 => ?_)
    have h := h t101 ht101
    refine jg_A (pc' := 74) (ls' := [.ref a0, u1, .int (.ofInt x2), .int (.ofInt x3), .long (.ofInt t101), u5, u6]) rfl rfl (fun _ _ _ => rfl) ?_
    refine jg_A (pc' := 76) rfl rfl (fun _ _ _ => rfl) ?_
    refine jg_lcst (pc' := 77) (x := 0) rfl rfl rfl ?_
    refine jg_lcmp (pc' := 78) rfl rfl ?_
    refine jg_ifne (pc' := 81) rfl rfl (fun hc => ?_) (fun hc => ?_)
    · have h := jg_t h (show jg_wr (jg_lc t101 0) = 0 from hc)
      refine jg_A (pc' := 83) rfl rfl (fun _ _ _ => rfl) ?_
      refine jg_goto rfl ?_
      refine jg_A (pc' := 95) (ls' := [.ref a0, u1, .int (.ofInt x2), .int (.ofInt x3), .long (.ofInt t101), u5, .int (.ofInt (-2))]) rfl rfl (fun _ _ _ => rfl) ?_
      refine jg_A (pc' := 97) rfl rfl (fun _ _ _ => rfl) ?_
      refine jg_A (pc' := 98) rfl rfl (fun _ _ _ => rfl) ?_
      refine jg_cne (pc' := 101) rfl rfl (fun hc => absurd hc (show ¬ ((-2) = (-1)) by decide)) (fun hc => ?_)
      refine jg_A (pc' := 104) rfl rfl (fun _ _ _ => rfl) ?_
      refine jg_getO (pc' := 107) (k := 4) rfl h0 (by decide) rfl rfl ?_
      refine jg_A (pc' := 108) rfl rfl (fun _ _ _ => rfl) ?_
      refine jg_A (pc' := 110) rfl rfl (fun _ _ _ => rfl) ?_
      refine jg_imul (pc' := 111) rfl rfl ?_
      refine jg_A (pc' := 112) rfl rfl (fun _ _ _ => rfl) ?_
      refine jg_iadd (pc' := 113) rfl rfl ?_
      refine jg_A (pc' := 115) rfl rfl (fun _ _ _ => rfl) ?_
      obtain ⟨hg, h⟩ := h
      refine jg_iast (pc' := 116) rfl (jg_sX7_4 h0) hg rfl (fun m102 hm102 => ?_)
      have h := h m102 hm102
      refine jg_iinc (pc' := 119) (ls' := [.ref a0, u1, .int (.ofInt x2), .int (.ofInt (x3 + 1)), .long (.ofInt t101), u5, .int (.ofInt (-2))]) rfl rfl rfl rfl ?_
      refine jg_goto rfl ?_
      exact h
    · have h := jg_f h (show ¬ (jg_wr (jg_lc t101 0) = 0) from hc)
      refine jg_A (pc' := 87) rfl rfl (fun _ _ _ => rfl) ?_
      refine jg_A (pc' := 89) rfl rfl (fun _ _ _ => rfl) ?_
      refine jg_A (pc' := 90) rfl rfl (fun _ _ _ => rfl) ?_
      refine jg_calX (M1 := mm_X7_numberOf) (hy := 1) (pc' := 93) rfl jm_X7_numberOf (by decide) rfl h0 (by decide) ⟨Nat.le_of_ble_eq_true rfl, rfl⟩ (Nat.le_of_ble_eq_true rfl) rfl h (jg_kI (fun z104 m103 h => ?_))
      refine jg_A (pc' := 95) (ls' := [.ref a0, u1, .int (.ofInt x2), .int (.ofInt x3), .long (.ofInt t101), u5, .int (.ofInt z104)]) rfl rfl (fun _ _ _ => rfl) ?_
      refine jg_A (pc' := 97) rfl rfl (fun _ _ _ => rfl) ?_
      refine jg_A (pc' := 98) rfl rfl (fun _ _ _ => rfl) ?_
      refine jg_cne (pc' := 101) rfl rfl (fun hc => ?_) (fun hc => ?_)
      · have h := jg_t h (show jg_wr z104 = (-1) from hc)
        refine jg_A (pc' := 102) rfl rfl (fun _ _ _ => rfl) ?_
        exact jg_zret rfl rfl (by decide) h
      · have h := jg_f h (show ¬ (jg_wr z104 = (-1)) from hc)
        refine jg_A (pc' := 104) rfl rfl (fun _ _ _ => rfl) ?_
        refine jg_getO (pc' := 107) (k := 4) rfl h0 (by decide) rfl rfl ?_
        refine jg_A (pc' := 108) rfl rfl (fun _ _ _ => rfl) ?_
        refine jg_A (pc' := 110) rfl rfl (fun _ _ _ => rfl) ?_
        refine jg_imul (pc' := 111) rfl rfl ?_
        refine jg_A (pc' := 112) rfl rfl (fun _ _ _ => rfl) ?_
        refine jg_iadd (pc' := 113) rfl rfl ?_
        refine jg_A (pc' := 115) rfl rfl (fun _ _ _ => rfl) ?_
        obtain ⟨hg, h⟩ := h
        refine jg_iast (pc' := 116) rfl (jg_sX7_4 h0) hg rfl (fun m105 hm105 => ?_)
        have h := h m105 hm105
        refine jg_iinc (pc' := 119) (ls' := [.ref a0, u1, .int (.ofInt x2), .int (.ofInt (x3 + 1)), .long (.ofInt t101), u5, .int (.ofInt z104)]) rfl rfl rfl rfl ?_
        refine jg_goto rfl ?_
        exact h
set_option maxRecDepth 100000 in
set_option maxHeartbeats 4000000 in
theorem jb_X7_prepareItems_0 {w : Nat} {a0 : Nat} {a1 : Nat} {σ : jg_M} {Q : jg_M → Prop} (h0 : jg_sh a0 = (7, 0)) (h1 : jg_sh a1 = (0, 0)) (h : jg_CV w 0 mm_J7_fill_d0a16 [.ref (a0 + 6), .long (.ofInt 0)] σ (fun (m101 : jg_M) => jg_CV w 0 mm_J7_fill_d0a16 [.ref (a0 + 7), .long (.ofInt 0)] m101 (fun (m102 : jg_M) => jg_CV w 0 mm_J7_fill_53178 [.ref (a0 + 8), .int (.ofInt (-2))] m102 (fun (m103 : jg_M) => ∀ m104 : jg_M, m104 = jg_sL m103 a0 11 0 → ∀ m105 : jg_M, m105 = jg_sI m104 a0 6 (if jg_wr (((m104.1 a1 2) * 5) + 2) < 62 then (((m104.1 a1 2) * 5) + 2) else 62) → jg_GV w 4 mm_X7_prepareItems 49 [.ref a0, .ref a1, .int (.ofInt 0)] m105 Q)))) : jg_CV w 4 mm_X7_prepareItems [.ref a0, .ref a1] σ Q := by
  show jg_G w 4 mm_X7_prepareItems 0 [.ref a0, .ref a1, mj_U] [] σ (jg_QV Q)
  refine jg_A (pc' := 1) rfl rfl (fun _ _ _ => rfl) ?_
  refine jg_getO (pc' := 4) (k := 6) rfl h0 (by decide) rfl rfl ?_
  refine jg_lcst (pc' := 5) (x := 0) rfl rfl rfl ?_
  refine jg_calS (M1 := mm_J7_fill_d0a16) (hy := 0) (pc' := 8) rfl (Or.inl rfl) jm_J7_fill_d0a16 (by decide) rfl ⟨Nat.le_of_ble_eq_true rfl, rfl⟩ (Nat.le_of_ble_eq_true rfl) rfl h (jg_kV (fun m101 h => ?_))
  refine jg_A (pc' := 9) rfl rfl (fun _ _ _ => rfl) ?_
  refine jg_getO (pc' := 12) (k := 7) rfl h0 (by decide) rfl rfl ?_
  refine jg_lcst (pc' := 13) (x := 0) rfl rfl rfl ?_
  refine jg_calS (M1 := mm_J7_fill_d0a16) (hy := 0) (pc' := 16) rfl (Or.inl rfl) jm_J7_fill_d0a16 (by decide) rfl ⟨Nat.le_of_ble_eq_true rfl, rfl⟩ (Nat.le_of_ble_eq_true rfl) rfl h (jg_kV (fun m102 h => ?_))
  refine jg_A (pc' := 17) rfl rfl (fun _ _ _ => rfl) ?_
  refine jg_getO (pc' := 20) (k := 8) rfl h0 (by decide) rfl rfl ?_
  refine jg_A (pc' := 22) rfl rfl (fun _ _ _ => rfl) ?_
  refine jg_calS (M1 := mm_J7_fill_53178) (hy := 0) (pc' := 25) rfl (Or.inl rfl) jm_J7_fill_53178 (by decide) rfl ⟨Nat.le_of_ble_eq_true rfl, rfl⟩ (Nat.le_of_ble_eq_true rfl) rfl h (jg_kV (fun m103 h => ?_))
  refine jg_A (pc' := 26) rfl rfl (fun _ _ _ => rfl) ?_
  refine jg_lcst (pc' := 27) (x := 0) rfl rfl rfl ?_
  refine jg_putL (pc' := 30) (bi := 11) rfl h0 (by decide) rfl rfl rfl rfl (fun m104 hm104 => ?_)
  have h := h m104 hm104
  refine jg_A (pc' := 31) rfl rfl (fun _ _ _ => rfl) ?_
  refine jg_A (pc' := 33) rfl rfl (fun _ _ _ => rfl) ?_
  refine jg_A (pc' := 34) rfl rfl (fun _ _ _ => rfl) ?_
  refine jg_getI (pc' := 37) (bi := 2) rfl h1 (by decide) (Or.inl rfl) rfl rfl ?_
  refine jg_A (pc' := 38) rfl rfl (fun _ _ _ => rfl) ?_
  refine jg_imul (pc' := 39) rfl rfl ?_
  refine jg_A (pc' := 40) rfl rfl (fun _ _ _ => rfl) ?_
  refine jg_iadd (pc' := 41) rfl rfl ?_
  refine jg_min (pc' := 44) rfl (by decide) (Nat.le_of_ble_eq_true rfl) rfl ?_
  refine jg_putI (pc' := 47) (bi := 6) rfl h0 (by decide) rfl rfl rfl rfl (fun m105 hm105 => ?_)
  have h := h m105 hm105
  refine jg_A (pc' := 48) rfl rfl (fun _ _ _ => rfl) ?_
  refine jg_A (pc' := 49) (ls' := [.ref a0, .ref a1, .int (.ofInt 0)]) rfl rfl (fun _ _ _ => rfl) ?_
  exact h
set_option maxRecDepth 100000 in
set_option maxHeartbeats 4000000 in
theorem jb_X7_prepareItems_49 {w : Nat} {a0 : Nat} {a1 : Nat} {x2 : Int} {σ : jg_M} {Q : jg_M → Prop} (h0 : jg_sh a0 = (7, 0)) (h1 : jg_sh a1 = (0, 0)) (h : (if jg_wr (σ.1 a1 2) < jg_wr x2 then Q σ else jg_CI w 0 mm_X0_uses [.ref a1, .int (.ofInt x2)] σ (fun (z102 : Int) (m101 : jg_M) => (if jg_wr z102 = 0 then jg_GV w 4 mm_X7_prepareItems 49 [.ref a0, .ref a1, .int (.ofInt (x2 + 1))] m101 Q else jg_CV w 3 mm_X7_prepareRule [.ref a0, .ref a1, .int (.ofInt x2)] m101 (fun (m103 : jg_M) => jg_GV w 4 mm_X7_prepareItems 49 [.ref a0, .ref a1, .int (.ofInt (x2 + 1))] m103 Q))))) : jg_GV w 4 mm_X7_prepareItems 49 [.ref a0, .ref a1, .int (.ofInt x2)] σ Q := by
  show jg_G w 4 mm_X7_prepareItems 49 [.ref a0, .ref a1, .int (.ofInt x2)] [] σ (jg_QV Q)
  refine jg_A (pc' := 50) rfl rfl (fun _ _ _ => rfl) ?_
  refine jg_A (pc' := 51) rfl rfl (fun _ _ _ => rfl) ?_
  refine jg_getI (pc' := 54) (bi := 2) rfl h1 (by decide) (Or.inl rfl) rfl rfl ?_
  refine jg_cgt (pc' := 57) rfl rfl (fun hc => ?_) (fun hc => ?_)
  · have h := jg_t h (show jg_wr (σ.1 a1 2) < jg_wr x2 from hc)
    exact jg_vret rfl rfl h
  · have h := jg_f h (show ¬ (jg_wr (σ.1 a1 2) < jg_wr x2) from hc)
    refine jg_A (pc' := 58) rfl rfl (fun _ _ _ => rfl) ?_
    refine jg_A (pc' := 59) rfl rfl (fun _ _ _ => rfl) ?_
    refine jg_calX (M1 := mm_X0_uses) (hy := 0) (pc' := 62) rfl jm_X0_uses (by decide) rfl h1 (by decide) ⟨Nat.le_of_ble_eq_true rfl, rfl⟩ (Nat.le_of_ble_eq_true rfl) rfl h (jg_kI (fun z102 m101 h => ?_))
    refine jg_ifeq (pc' := 65) rfl rfl (fun hc => ?_) (fun hc => ?_)
    · have h := jg_t h (show jg_wr z102 = 0 from hc)
      refine jg_iinc (pc' := 74) (ls' := [.ref a0, .ref a1, .int (.ofInt (x2 + 1))]) rfl rfl rfl rfl ?_
      refine jg_goto rfl ?_
      exact h
    · have h := jg_f h (show ¬ (jg_wr z102 = 0) from hc)
      refine jg_A (pc' := 66) rfl rfl (fun _ _ _ => rfl) ?_
      refine jg_A (pc' := 67) rfl rfl (fun _ _ _ => rfl) ?_
      refine jg_A (pc' := 68) rfl rfl (fun _ _ _ => rfl) ?_
      refine jg_calX (M1 := mm_X7_prepareRule) (hy := 3) (pc' := 71) rfl jm_X7_prepareRule (by decide) rfl h0 (by decide) ⟨Nat.le_of_ble_eq_true rfl, rfl⟩ (Nat.le_of_ble_eq_true rfl) rfl h (jg_kV (fun m103 h => ?_))
      refine jg_iinc (pc' := 74) (ls' := [.ref a0, .ref a1, .int (.ofInt (x2 + 1))]) rfl rfl rfl rfl ?_
      refine jg_goto rfl ?_
      exact h
set_option maxRecDepth 100000 in
set_option maxHeartbeats 4000000 in
theorem jb_X7_prepareRule_0 {w : Nat} {a0 : Nat} {a1 : Nat} {x2 : Int} {σ : jg_M} {Q : jg_M → Prop} (h0 : jg_sh a0 = (7, 0)) (h1 : jg_sh a1 = (0, 0)) (h : jg_CI w 1 mm_X0_kindOf [.ref a1, .int (.ofInt x2)] σ (fun (z102 : Int) (m101 : jg_M) => jg_CI w 0 mm_X0_hasKind [.ref a1, .int (.ofInt z102)] m101 (fun (z104 : Int) (m103 : jg_M) => (if jg_wr z104 = 0 then jg_GV w 3 mm_X7_prepareRule 31 [.ref a0, .ref a1, .int (.ofInt x2), .int (.ofInt z102), .int (.ofInt 0), mj_U, mj_U] m103 Q else ((0 : Int) ≤ jg_wr z102 ∧ jg_wr z102 < (5 : Int)) ∧ ((0 : Int) ≤ (jg_wr z102) ∧ (jg_wr z102) < (5 : Int)) ∧ ∀ m105 : jg_M, m105 = jg_sL m103 (a0 + 7) (jg_wr z102) (jg_qor (m103.2 (a0 + 7) (jg_wr z102)) (jg_qshl 1 (x2 * 5))) → jg_GV w 3 mm_X7_prepareRule 31 [.ref a0, .ref a1, .int (.ofInt x2), .int (.ofInt z102), .int (.ofInt 0), mj_U, mj_U] m105 Q)))) : jg_CV w 3 mm_X7_prepareRule [.ref a0, .ref a1, .int (.ofInt x2)] σ Q := by
  show jg_G w 3 mm_X7_prepareRule 0 [.ref a0, .ref a1, .int (.ofInt x2), mj_U, mj_U, mj_U, mj_U] [] σ (jg_QV Q)
  refine jg_A (pc' := 1) rfl rfl (fun _ _ _ => rfl) ?_
  refine jg_A (pc' := 2) rfl rfl (fun _ _ _ => rfl) ?_
  refine jg_calX (M1 := mm_X0_kindOf) (hy := 1) (pc' := 5) rfl jm_X0_kindOf (by decide) rfl h1 (by decide) ⟨Nat.le_of_ble_eq_true rfl, rfl⟩ (Nat.le_of_ble_eq_true rfl) rfl h (jg_kI (fun z102 m101 h => ?_))
  refine jg_A (pc' := 6) (ls' := [.ref a0, .ref a1, .int (.ofInt x2), .int (.ofInt z102), mj_U, mj_U, mj_U]) rfl rfl (fun _ _ _ => rfl) ?_
  refine jg_A (pc' := 7) rfl rfl (fun _ _ _ => rfl) ?_
  refine jg_A (pc' := 8) rfl rfl (fun _ _ _ => rfl) ?_
  refine jg_calX (M1 := mm_X0_hasKind) (hy := 0) (pc' := 11) rfl jm_X0_hasKind (by decide) rfl h1 (by decide) ⟨Nat.le_of_ble_eq_true rfl, rfl⟩ (Nat.le_of_ble_eq_true rfl) rfl h (jg_kI (fun z104 m103 h => ?_))
  refine jg_ifeq (pc' := 14) rfl rfl (fun hc => ?_) (fun hc => ?_)
  · have h := jg_t h (show jg_wr z104 = 0 from hc)
    refine jg_A (pc' := 29) rfl rfl (fun _ _ _ => rfl) ?_
    refine jg_A (pc' := 31) (ls' := [.ref a0, .ref a1, .int (.ofInt x2), .int (.ofInt z102), .int (.ofInt 0), mj_U, mj_U]) rfl rfl (fun _ _ _ => rfl) ?_
    exact h
  · have h := jg_f h (show ¬ (jg_wr z104 = 0) from hc)
    refine jg_A (pc' := 15) rfl rfl (fun _ _ _ => rfl) ?_
    refine jg_getO (pc' := 18) (k := 7) rfl h0 (by decide) rfl rfl ?_
    refine jg_A (pc' := 19) rfl rfl (fun _ _ _ => rfl) ?_
    refine jg_A (pc' := 20) rfl rfl (fun _ _ _ => rfl) ?_
    obtain ⟨hg, h⟩ := h
    refine jg_lald (pc' := 21) rfl (jg_sX7_8 h0) hg rfl ?_
    refine jg_lcst (pc' := 22) (x := 1) rfl rfl rfl ?_
    refine jg_A (pc' := 23) rfl rfl (fun _ _ _ => rfl) ?_
    refine jg_A (pc' := 24) rfl rfl (fun _ _ _ => rfl) ?_
    refine jg_imul (pc' := 25) rfl rfl ?_
    refine jg_lshl (pc' := 26) rfl rfl ?_
    refine jg_lor (pc' := 27) rfl rfl ?_
    obtain ⟨hg, h⟩ := h
    refine jg_last (pc' := 28) rfl (jg_sX7_8 h0) hg rfl (fun m105 hm105 => ?_)
    have h := h m105 hm105
    refine jg_A (pc' := 29) rfl rfl (fun _ _ _ => rfl) ?_
    refine jg_A (pc' := 31) (ls' := [.ref a0, .ref a1, .int (.ofInt x2), .int (.ofInt z102), .int (.ofInt 0), mj_U, mj_U]) rfl rfl (fun _ _ _ => rfl) ?_
    exact h
set_option maxRecDepth 100000 in
set_option maxHeartbeats 4000000 in
theorem jb_X7_prepareRule_31 {w : Nat} {a0 : Nat} {a1 : Nat} {x2 : Int} {u3 : Value} {x4 : Int} {u5 : Value} {u6 : Value} {σ : jg_M} {Q : jg_M → Prop} (h0 : jg_sh a0 = (7, 0)) (h1 : jg_sh a1 = (0, 0)) (h : jg_CI w 0 mm_X0_lengthOf [.ref a1, .int (.ofInt x2)] σ (fun (z102 : Int) (m101 : jg_M) => (if jg_wr z102 ≤ jg_wr x4 then Q m101 else ∀ t103 : Int, t103 = ((x2 * 5) + x4) → jg_CI w 1 mm_X0_symbolAt [.ref a1, .int (.ofInt x2), .int (.ofInt x4)] m101 (fun (z105 : Int) (m104 : jg_M) => (if 62 ≤ jg_wr t103 then jg_GV w 3 mm_X7_prepareRule 31 [.ref a0, .ref a1, .int (.ofInt x2), u3, .int (.ofInt (x4 + 1)), .int (.ofInt t103), .int (.ofInt z105)] m104 Q else (if jg_wr z105 < 0 then jg_GV w 3 mm_X7_prepareRule 31 [.ref a0, .ref a1, .int (.ofInt x2), u3, .int (.ofInt (x4 + 1)), .int (.ofInt t103), .int (.ofInt z105)] m104 Q else (if 15 ≤ jg_wr z105 then jg_GV w 3 mm_X7_prepareRule 31 [.ref a0, .ref a1, .int (.ofInt x2), u3, .int (.ofInt (x4 + 1)), .int (.ofInt t103), .int (.ofInt z105)] m104 Q else ((0 : Int) ≤ jg_wr z105 ∧ jg_wr z105 < (15 : Int)) ∧ ((0 : Int) ≤ (jg_wr z105) ∧ (jg_wr z105) < (15 : Int)) ∧ ∀ m106 : jg_M, m106 = jg_sL m104 (a0 + 6) (jg_wr z105) (jg_qor (m104.2 (a0 + 6) (jg_wr z105)) (jg_qshl 1 t103)) → ((0 : Int) ≤ (jg_wr t103) ∧ (jg_wr t103) < (62 : Int)) ∧ ∀ m107 : jg_M, m107 = jg_sI m106 (a0 + 8) (jg_wr t103) z105 → jg_CI w 2 mm_X0_firstFrom [.ref a1, .int (.ofInt x2), .int (.ofInt (x4 + 1))] m107 (fun (z109 : Int) (m108 : jg_M) => ((0 : Int) ≤ (jg_wr t103) ∧ (jg_wr t103) < (62 : Int)) ∧ ∀ m110 : jg_M, m110 = jg_sI m108 (a0 + 9) (jg_wr t103) z109 → jg_CI w 2 mm_X0_isEmptyFrom [.ref a1, .int (.ofInt x2), .int (.ofInt (x4 + 1))] m110 (fun (z112 : Int) (m111 : jg_M) => (if jg_wr z112 = 0 then jg_GV w 3 mm_X7_prepareRule 31 [.ref a0, .ref a1, .int (.ofInt x2), u3, .int (.ofInt (x4 + 1)), .int (.ofInt t103), .int (.ofInt z105)] m111 Q else ∀ m113 : jg_M, m113 = jg_sL m111 a0 11 (jg_qor (m111.2 a0 11) (jg_qshl 1 t103)) → jg_GV w 3 mm_X7_prepareRule 31 [.ref a0, .ref a1, .int (.ofInt x2), u3, .int (.ofInt (x4 + 1)), .int (.ofInt t103), .int (.ofInt z105)] m113 Q)))))))))) : jg_GV w 3 mm_X7_prepareRule 31 [.ref a0, .ref a1, .int (.ofInt x2), u3, .int (.ofInt x4), u5, u6] σ Q := by
  show jg_G w 3 mm_X7_prepareRule 31 [.ref a0, .ref a1, .int (.ofInt x2), u3, .int (.ofInt x4), u5, u6] [] σ (jg_QV Q)
  refine jg_A (pc' := 33) rfl rfl (fun _ _ _ => rfl) ?_
  refine jg_A (pc' := 34) rfl rfl (fun _ _ _ => rfl) ?_
  refine jg_A (pc' := 35) rfl rfl (fun _ _ _ => rfl) ?_
  refine jg_calX (M1 := mm_X0_lengthOf) (hy := 0) (pc' := 38) rfl jm_X0_lengthOf (by decide) rfl h1 (by decide) ⟨Nat.le_of_ble_eq_true rfl, rfl⟩ (Nat.le_of_ble_eq_true rfl) rfl h (jg_kI (fun z102 m101 h => ?_))
  refine jg_cge (pc' := 41) rfl rfl (fun hc => ?_) (fun hc => ?_)
  · have h := jg_t h (show jg_wr z102 ≤ jg_wr x4 from hc)
    exact jg_vret rfl rfl h
  · have h := jg_f h (show ¬ (jg_wr z102 ≤ jg_wr x4) from hc)
    refine jg_A (pc' := 42) rfl rfl (fun _ _ _ => rfl) ?_
    refine jg_A (pc' := 43) rfl rfl (fun _ _ _ => rfl) ?_
    refine jg_imul (pc' := 44) rfl rfl ?_
    refine jg_A (pc' := 46) rfl rfl (fun _ _ _ => rfl) ?_
    refine jg_iadd (pc' := 47) rfl rfl ?_
    refine jg_nm (F := fun t103 => jg_G w 3 mm_X7_prepareRule 47 [.ref a0, .ref a1, .int (.ofInt x2), u3, .int (.ofInt x4), u5, u6] [.int (.ofInt t103)] m101 (jg_QV Q)) ((x2 * 5) + x4) (fun t103 ht103 => ?_)
    have h := h t103 ht103
    refine jg_A (pc' := 49) (ls' := [.ref a0, .ref a1, .int (.ofInt x2), u3, .int (.ofInt x4), .int (.ofInt t103), u6]) rfl rfl (fun _ _ _ => rfl) ?_
    refine jg_A (pc' := 50) rfl rfl (fun _ _ _ => rfl) ?_
    refine jg_A (pc' := 51) rfl rfl (fun _ _ _ => rfl) ?_
    refine jg_A (pc' := 53) rfl rfl (fun _ _ _ => rfl) ?_
    refine jg_calX (M1 := mm_X0_symbolAt) (hy := 1) (pc' := 56) rfl jm_X0_symbolAt (by decide) rfl h1 (by decide) ⟨Nat.le_of_ble_eq_true rfl, rfl⟩ (Nat.le_of_ble_eq_true rfl) rfl h (jg_kI (fun z105 m104 h => ?_))
    refine jg_A (pc' := 58) (ls' := [.ref a0, .ref a1, .int (.ofInt x2), u3, .int (.ofInt x4), .int (.ofInt t103), .int (.ofInt z105)]) rfl rfl (fun _ _ _ => rfl) ?_
    refine jg_A (pc' := 60) rfl rfl (fun _ _ _ => rfl) ?_
    refine jg_A (pc' := 62) rfl rfl (fun _ _ _ => rfl) ?_
    refine jg_cge (pc' := 65) rfl rfl (fun hc => ?_) (fun hc => ?_)
    · have h := jg_t h (show 62 ≤ jg_wr t103 from hc)
      refine jg_iinc (pc' := 144) (ls' := [.ref a0, .ref a1, .int (.ofInt x2), u3, .int (.ofInt (x4 + 1)), .int (.ofInt t103), .int (.ofInt z105)]) rfl rfl rfl rfl ?_
      refine jg_goto rfl ?_
      exact h
    · have h := jg_f h (show ¬ (62 ≤ jg_wr t103) from hc)
      refine jg_A (pc' := 67) rfl rfl (fun _ _ _ => rfl) ?_
      refine jg_iflt (pc' := 70) rfl rfl (fun hc => ?_) (fun hc => ?_)
      · have h := jg_t h (show jg_wr z105 < 0 from hc)
        refine jg_iinc (pc' := 144) (ls' := [.ref a0, .ref a1, .int (.ofInt x2), u3, .int (.ofInt (x4 + 1)), .int (.ofInt t103), .int (.ofInt z105)]) rfl rfl rfl rfl ?_
        refine jg_goto rfl ?_
        exact h
      · have h := jg_f h (show ¬ (jg_wr z105 < 0) from hc)
        refine jg_A (pc' := 72) rfl rfl (fun _ _ _ => rfl) ?_
        refine jg_A (pc' := 74) rfl rfl (fun _ _ _ => rfl) ?_
        refine jg_cge (pc' := 77) rfl rfl (fun hc => ?_) (fun hc => ?_)
        · have h := jg_t h (show 15 ≤ jg_wr z105 from hc)
          refine jg_iinc (pc' := 144) (ls' := [.ref a0, .ref a1, .int (.ofInt x2), u3, .int (.ofInt (x4 + 1)), .int (.ofInt t103), .int (.ofInt z105)]) rfl rfl rfl rfl ?_
          refine jg_goto rfl ?_
          exact h
        · have h := jg_f h (show ¬ (15 ≤ jg_wr z105) from hc)
          refine jg_A (pc' := 78) rfl rfl (fun _ _ _ => rfl) ?_
          refine jg_getO (pc' := 81) (k := 6) rfl h0 (by decide) rfl rfl ?_
          refine jg_A (pc' := 83) rfl rfl (fun _ _ _ => rfl) ?_
          refine jg_A (pc' := 84) rfl rfl (fun _ _ _ => rfl) ?_
          obtain ⟨hg, h⟩ := h
          refine jg_lald (pc' := 85) rfl (jg_sX7_7 h0) hg rfl ?_
          refine jg_lcst (pc' := 86) (x := 1) rfl rfl rfl ?_
          refine jg_A (pc' := 88) rfl rfl (fun _ _ _ => rfl) ?_
          refine jg_lshl (pc' := 89) rfl rfl ?_
          refine jg_lor (pc' := 90) rfl rfl ?_
          obtain ⟨hg, h⟩ := h
          refine jg_last (pc' := 91) rfl (jg_sX7_7 h0) hg rfl (fun m106 hm106 => ?_)
          have h := h m106 hm106
          refine jg_A (pc' := 92) rfl rfl (fun _ _ _ => rfl) ?_
          refine jg_getO (pc' := 95) (k := 8) rfl h0 (by decide) rfl rfl ?_
          refine jg_A (pc' := 97) rfl rfl (fun _ _ _ => rfl) ?_
          refine jg_A (pc' := 99) rfl rfl (fun _ _ _ => rfl) ?_
          obtain ⟨hg, h⟩ := h
          refine jg_iast (pc' := 100) rfl (jg_sX7_9 h0) hg rfl (fun m107 hm107 => ?_)
          have h := h m107 hm107
          refine jg_A (pc' := 101) rfl rfl (fun _ _ _ => rfl) ?_
          refine jg_getO (pc' := 104) (k := 9) rfl h0 (by decide) rfl rfl ?_
          refine jg_A (pc' := 106) rfl rfl (fun _ _ _ => rfl) ?_
          refine jg_A (pc' := 107) rfl rfl (fun _ _ _ => rfl) ?_
          refine jg_A (pc' := 108) rfl rfl (fun _ _ _ => rfl) ?_
          refine jg_A (pc' := 110) rfl rfl (fun _ _ _ => rfl) ?_
          refine jg_A (pc' := 111) rfl rfl (fun _ _ _ => rfl) ?_
          refine jg_iadd (pc' := 112) rfl rfl ?_
          refine jg_calX (M1 := mm_X0_firstFrom) (hy := 2) (pc' := 115) rfl jm_X0_firstFrom (by decide) rfl h1 (by decide) ⟨Nat.le_of_ble_eq_true rfl, rfl⟩ (Nat.le_of_ble_eq_true rfl) rfl h (jg_kI (fun z109 m108 h => ?_))
          obtain ⟨hg, h⟩ := h
          refine jg_iast (pc' := 116) rfl (jg_sX7_10 h0) hg rfl (fun m110 hm110 => ?_)
          have h := h m110 hm110
          refine jg_A (pc' := 117) rfl rfl (fun _ _ _ => rfl) ?_
          refine jg_A (pc' := 118) rfl rfl (fun _ _ _ => rfl) ?_
          refine jg_A (pc' := 120) rfl rfl (fun _ _ _ => rfl) ?_
          refine jg_A (pc' := 121) rfl rfl (fun _ _ _ => rfl) ?_
          refine jg_iadd (pc' := 122) rfl rfl ?_
          refine jg_calX (M1 := mm_X0_isEmptyFrom) (hy := 2) (pc' := 125) rfl jm_X0_isEmptyFrom (by decide) rfl h1 (by decide) ⟨Nat.le_of_ble_eq_true rfl, rfl⟩ (Nat.le_of_ble_eq_true rfl) rfl h (jg_kI (fun z112 m111 h => ?_))
          refine jg_ifeq (pc' := 128) rfl rfl (fun hc => ?_) (fun hc => ?_)
          · have h := jg_t h (show jg_wr z112 = 0 from hc)
            refine jg_iinc (pc' := 144) (ls' := [.ref a0, .ref a1, .int (.ofInt x2), u3, .int (.ofInt (x4 + 1)), .int (.ofInt t103), .int (.ofInt z105)]) rfl rfl rfl rfl ?_
            refine jg_goto rfl ?_
            exact h
          · have h := jg_f h (show ¬ (jg_wr z112 = 0) from hc)
            refine jg_A (pc' := 129) rfl rfl (fun _ _ _ => rfl) ?_
            refine jg_A (pc' := 130) rfl rfl (fun _ _ _ => rfl) ?_
            refine jg_getL (pc' := 133) (bi := 11) rfl h0 (by decide) rfl rfl rfl ?_
            refine jg_lcst (pc' := 134) (x := 1) rfl rfl rfl ?_
            refine jg_A (pc' := 136) rfl rfl (fun _ _ _ => rfl) ?_
            refine jg_lshl (pc' := 137) rfl rfl ?_
            refine jg_lor (pc' := 138) rfl rfl ?_
            refine jg_putL (pc' := 141) (bi := 11) rfl h0 (by decide) rfl rfl rfl rfl (fun m113 hm113 => ?_)
            have h := h m113 hm113
            refine jg_iinc (pc' := 144) (ls' := [.ref a0, .ref a1, .int (.ofInt x2), u3, .int (.ofInt (x4 + 1)), .int (.ofInt t103), .int (.ofInt z105)]) rfl rfl rfl rfl ?_
            refine jg_goto rfl ?_
            exact h
set_option maxRecDepth 100000 in
set_option maxHeartbeats 4000000 in
theorem jb_X7_numberOf_0 {w : Nat} {a0 : Nat} {l1 : Int} {x3 : Int} {σ : jg_M} {Q : Int → jg_M → Prop} (h0 : jg_sh a0 = (7, 0)) (h : jg_GI w 1 mm_X7_numberOf 3 [.ref a0, .long (.ofInt l1), mj_U, .int (.ofInt x3), .int (.ofInt 0)] σ Q) : jg_CI w 1 mm_X7_numberOf [.ref a0, .long (.ofInt l1), .int (.ofInt x3)] σ Q := by
  show jg_G w 1 mm_X7_numberOf 0 [.ref a0, .long (.ofInt l1), mj_U, .int (.ofInt x3), mj_U] [] σ (jg_QI Q)
  refine jg_A (pc' := 1) rfl rfl (fun _ _ _ => rfl) ?_
  refine jg_A (pc' := 3) (ls' := [.ref a0, .long (.ofInt l1), mj_U, .int (.ofInt x3), .int (.ofInt 0)]) rfl rfl (fun _ _ _ => rfl) ?_
  exact h
set_option maxRecDepth 100000 in
set_option maxHeartbeats 4000000 in
theorem jb_X7_numberOf_3 {w : Nat} {a0 : Nat} {l1 : Int} {u2 : Value} {x3 : Int} {x4 : Int} {σ : jg_M} {Q : Int → jg_M → Prop} (h0 : jg_sh a0 = (7, 0)) (h : (if jg_wr (σ.1 a0 0) ≤ jg_wr x4 then (if jg_wr (σ.1 a0 0) < 48 then ((0 : Int) ≤ (jg_wr (σ.1 a0 0)) ∧ (jg_wr (σ.1 a0 0)) < (48 : Int)) ∧ ∀ m101 : jg_M, m101 = jg_sL σ (a0 + 1) (jg_wr (σ.1 a0 0)) l1 → jg_CL w 0 mm_X7_closed [.ref a0, .long (.ofInt l1)] m101 (fun (z103 : Int) (m102 : jg_M) => ((0 : Int) ≤ (jg_wr (m101.1 a0 0)) ∧ (jg_wr (m101.1 a0 0)) < (48 : Int)) ∧ ∀ m104 : jg_M, m104 = jg_sL m102 (a0 + 2) (jg_wr (m101.1 a0 0)) z103 → ((0 : Int) ≤ (jg_wr (m104.1 a0 0)) ∧ (jg_wr (m104.1 a0 0)) < (48 : Int)) ∧ ∀ m105 : jg_M, m105 = jg_sI m104 (a0 + 3) (jg_wr (m104.1 a0 0)) x3 → ∀ m106 : jg_M, m106 = jg_sI m105 a0 0 ((m105.1 a0 0) + 1) → Q ((m106.1 a0 0) - 1) m106) else Q (-1) σ) else ((0 : Int) ≤ jg_wr x4 ∧ jg_wr x4 < (48 : Int)) ∧ (if jg_wr (jg_lc (σ.2 (a0 + 1) (jg_wr x4)) l1) = 0 then Q x4 σ else jg_GI w 1 mm_X7_numberOf 3 [.ref a0, .long (.ofInt l1), u2, .int (.ofInt x3), .int (.ofInt (x4 + 1))] σ Q))) : jg_GI w 1 mm_X7_numberOf 3 [.ref a0, .long (.ofInt l1), u2, .int (.ofInt x3), .int (.ofInt x4)] σ Q := by
  show jg_G w 1 mm_X7_numberOf 3 [.ref a0, .long (.ofInt l1), u2, .int (.ofInt x3), .int (.ofInt x4)] [] σ (jg_QI Q)
  refine jg_A (pc' := 5) rfl rfl (fun _ _ _ => rfl) ?_
  refine jg_A (pc' := 6) rfl rfl (fun _ _ _ => rfl) ?_
  refine jg_getI (pc' := 9) (bi := 0) rfl h0 (by decide) (Or.inl rfl) rfl rfl ?_
  refine jg_cge (pc' := 12) rfl rfl (fun hc => ?_) (fun hc => ?_)
  · have h := jg_t h (show jg_wr (σ.1 a0 0) ≤ jg_wr x4 from hc)
    refine jg_A (pc' := 34) rfl rfl (fun _ _ _ => rfl) ?_
    refine jg_getI (pc' := 37) (bi := 0) rfl h0 (by decide) (Or.inl rfl) rfl rfl ?_
    refine jg_A (pc' := 39) rfl rfl (fun _ _ _ => rfl) ?_
    refine jg_clt (pc' := 42) rfl rfl (fun hc => ?_) (fun hc => ?_)
    · have h := jg_t h (show jg_wr (σ.1 a0 0) < 48 from hc)
      refine jg_A (pc' := 45) rfl rfl (fun _ _ _ => rfl) ?_
      refine jg_getO (pc' := 48) (k := 1) rfl h0 (by decide) rfl rfl ?_
      refine jg_A (pc' := 49) rfl rfl (fun _ _ _ => rfl) ?_
      refine jg_getI (pc' := 52) (bi := 0) rfl h0 (by decide) (Or.inl rfl) rfl rfl ?_
      refine jg_A (pc' := 53) rfl rfl (fun _ _ _ => rfl) ?_
      obtain ⟨hg, h⟩ := h
      refine jg_last (pc' := 54) rfl (jg_sX7_1 h0) hg rfl (fun m101 hm101 => ?_)
      have h := h m101 hm101
      refine jg_A (pc' := 55) rfl rfl (fun _ _ _ => rfl) ?_
      refine jg_getO (pc' := 58) (k := 2) rfl h0 (by decide) rfl rfl ?_
      refine jg_A (pc' := 59) rfl rfl (fun _ _ _ => rfl) ?_
      refine jg_getI (pc' := 62) (bi := 0) rfl h0 (by decide) (Or.inl rfl) rfl rfl ?_
      refine jg_A (pc' := 63) rfl rfl (fun _ _ _ => rfl) ?_
      refine jg_A (pc' := 64) rfl rfl (fun _ _ _ => rfl) ?_
      refine jg_calX (M1 := mm_X7_closed) (hy := 0) (pc' := 67) rfl jm_X7_closed (by decide) rfl h0 (by decide) ⟨Nat.le_of_ble_eq_true rfl, rfl⟩ (Nat.le_of_ble_eq_true rfl) rfl h (jg_kL (fun z103 m102 h => ?_))
      obtain ⟨hg, h⟩ := h
      refine jg_last (pc' := 68) rfl (jg_sX7_2 h0) hg rfl (fun m104 hm104 => ?_)
      have h := h m104 hm104
      refine jg_A (pc' := 69) rfl rfl (fun _ _ _ => rfl) ?_
      refine jg_getO (pc' := 72) (k := 3) rfl h0 (by decide) rfl rfl ?_
      refine jg_A (pc' := 73) rfl rfl (fun _ _ _ => rfl) ?_
      refine jg_getI (pc' := 76) (bi := 0) rfl h0 (by decide) (Or.inl rfl) rfl rfl ?_
      refine jg_A (pc' := 77) rfl rfl (fun _ _ _ => rfl) ?_
      obtain ⟨hg, h⟩ := h
      refine jg_iast (pc' := 78) rfl (jg_sX7_3 h0) hg rfl (fun m105 hm105 => ?_)
      have h := h m105 hm105
      refine jg_A (pc' := 79) rfl rfl (fun _ _ _ => rfl) ?_
      refine jg_A (pc' := 80) rfl rfl (fun _ _ _ => rfl) ?_
      refine jg_getI (pc' := 83) (bi := 0) rfl h0 (by decide) (Or.inl rfl) rfl rfl ?_
      refine jg_A (pc' := 84) rfl rfl (fun _ _ _ => rfl) ?_
      refine jg_iadd (pc' := 85) rfl rfl ?_
      refine jg_putI (pc' := 88) (bi := 0) rfl h0 (by decide) rfl rfl rfl rfl (fun m106 hm106 => ?_)
      have h := h m106 hm106
      refine jg_A (pc' := 89) rfl rfl (fun _ _ _ => rfl) ?_
      refine jg_getI (pc' := 92) (bi := 0) rfl h0 (by decide) (Or.inl rfl) rfl rfl ?_
      refine jg_A (pc' := 93) rfl rfl (fun _ _ _ => rfl) ?_
      refine jg_isub (pc' := 94) rfl rfl ?_
      exact jg_iret rfl rfl h
    · have h := jg_f h (show ¬ (jg_wr (σ.1 a0 0) < 48) from hc)
      refine jg_A (pc' := 43) rfl rfl (fun _ _ _ => rfl) ?_
      exact jg_iret rfl rfl h
  · have h := jg_f h (show ¬ (jg_wr (σ.1 a0 0) ≤ jg_wr x4) from hc)
    refine jg_A (pc' := 13) rfl rfl (fun _ _ _ => rfl) ?_
    refine jg_getO (pc' := 16) (k := 1) rfl h0 (by decide) rfl rfl ?_
    refine jg_A (pc' := 18) rfl rfl (fun _ _ _ => rfl) ?_
    obtain ⟨hg, h⟩ := h
    refine jg_lald (pc' := 19) rfl (jg_sX7_1 h0) hg rfl ?_
    refine jg_A (pc' := 20) rfl rfl (fun _ _ _ => rfl) ?_
    refine jg_lcmp (pc' := 21) rfl rfl ?_
    refine jg_ifne (pc' := 24) rfl rfl (fun hc => ?_) (fun hc => ?_)
    · have h := jg_t h (show jg_wr (jg_lc (σ.2 (a0 + 1) (jg_wr x4)) l1) = 0 from hc)
      refine jg_A (pc' := 26) rfl rfl (fun _ _ _ => rfl) ?_
      exact jg_iret rfl rfl h
    · have h := jg_f h (show ¬ (jg_wr (jg_lc (σ.2 (a0 + 1) (jg_wr x4)) l1) = 0) from hc)
      refine jg_iinc (pc' := 30) (ls' := [.ref a0, .long (.ofInt l1), u2, .int (.ofInt x3), .int (.ofInt (x4 + 1))]) rfl rfl rfl rfl ?_
      refine jg_goto rfl ?_
      exact h
set_option maxRecDepth 100000 in
set_option maxHeartbeats 4000000 in
theorem jb_X7_closed_0 {w : Nat} {a0 : Nat} {l1 : Int} {σ : jg_M} {Q : Int → jg_M → Prop} (h0 : jg_sh a0 = (7, 0)) (h : jg_GL w 0 mm_X7_closed 5 [.ref a0, .long (.ofInt l1), mj_U, .long (.ofInt l1), mj_U, .int (.ofInt 0), mj_U] σ Q) : jg_CL w 0 mm_X7_closed [.ref a0, .long (.ofInt l1)] σ Q := by
  show jg_G w 0 mm_X7_closed 0 [.ref a0, .long (.ofInt l1), mj_U, mj_U, mj_U, mj_U, mj_U] [] σ (jg_QL Q)
  refine jg_A (pc' := 1) rfl rfl (fun _ _ _ => rfl) ?_
  refine jg_A (pc' := 2) (ls' := [.ref a0, .long (.ofInt l1), mj_U, .long (.ofInt l1), mj_U, mj_U, mj_U]) rfl rfl (fun _ _ _ => rfl) ?_
  refine jg_A (pc' := 3) rfl rfl (fun _ _ _ => rfl) ?_
  refine jg_A (pc' := 5) (ls' := [.ref a0, .long (.ofInt l1), mj_U, .long (.ofInt l1), mj_U, .int (.ofInt 0), mj_U]) rfl rfl (fun _ _ _ => rfl) ?_
  exact h
set_option maxRecDepth 100000 in
set_option maxHeartbeats 4000000 in
theorem jb_X7_closed_5 {w : Nat} {a0 : Nat} {u1 : Value} {u2 : Value} {l3 : Int} {u4 : Value} {x5 : Int} {u6 : Value} {σ : jg_M} {Q : Int → jg_M → Prop} (h0 : jg_sh a0 = (7, 0)) (h : (if 5 ≤ jg_wr x5 then Q l3 σ else jg_GL w 0 mm_X7_closed 14 [.ref a0, u1, u2, .long (.ofInt l3), u4, .int (.ofInt x5), .int (.ofInt 0)] σ Q)) : jg_GL w 0 mm_X7_closed 5 [.ref a0, u1, u2, .long (.ofInt l3), u4, .int (.ofInt x5), u6] σ Q := by
  show jg_G w 0 mm_X7_closed 5 [.ref a0, u1, u2, .long (.ofInt l3), u4, .int (.ofInt x5), u6] [] σ (jg_QL Q)
  refine jg_A (pc' := 7) rfl rfl (fun _ _ _ => rfl) ?_
  refine jg_A (pc' := 8) rfl rfl (fun _ _ _ => rfl) ?_
  refine jg_cge (pc' := 11) rfl rfl (fun hc => ?_) (fun hc => ?_)
  · have h := jg_t h (show 5 ≤ jg_wr x5 from hc)
    refine jg_A (pc' := 60) rfl rfl (fun _ _ _ => rfl) ?_
    exact jg_lret rfl rfl h
  · have h := jg_f h (show ¬ (5 ≤ jg_wr x5) from hc)
    refine jg_A (pc' := 12) rfl rfl (fun _ _ _ => rfl) ?_
    refine jg_A (pc' := 14) (ls' := [.ref a0, u1, u2, .long (.ofInt l3), u4, .int (.ofInt x5), .int (.ofInt 0)]) rfl rfl (fun _ _ _ => rfl) ?_
    exact h
set_option maxRecDepth 100000 in
set_option maxHeartbeats 4000000 in
theorem jb_X7_closed_14 {w : Nat} {a0 : Nat} {u1 : Value} {u2 : Value} {l3 : Int} {u4 : Value} {x5 : Int} {x6 : Int} {σ : jg_M} {Q : Int → jg_M → Prop} (h0 : jg_sh a0 = (7, 0)) (h : (if 5 ≤ jg_wr x6 then jg_GL w 0 mm_X7_closed 5 [.ref a0, u1, u2, .long (.ofInt l3), u4, .int (.ofInt (x5 + 1)), .int (.ofInt x6)] σ Q else ((0 : Int) ≤ jg_wr (10 + x6) ∧ jg_wr (10 + x6) < (15 : Int)) ∧ (if jg_wr (jg_lc (jg_qand l3 (σ.2 (a0 + 6) (jg_wr (10 + x6)))) 0) = 0 then jg_GL w 0 mm_X7_closed 14 [.ref a0, u1, u2, .long (.ofInt l3), u4, .int (.ofInt x5), .int (.ofInt (x6 + 1))] σ Q else ((0 : Int) ≤ jg_wr x6 ∧ jg_wr x6 < (5 : Int)) ∧ ∀ t101 : Int, t101 = (jg_qor l3 (σ.2 (a0 + 7) (jg_wr x6))) → jg_GL w 0 mm_X7_closed 14 [.ref a0, u1, u2, .long (.ofInt t101), u4, .int (.ofInt x5), .int (.ofInt (x6 + 1))] σ Q))) : jg_GL w 0 mm_X7_closed 14 [.ref a0, u1, u2, .long (.ofInt l3), u4, .int (.ofInt x5), .int (.ofInt x6)] σ Q := by
  show jg_G w 0 mm_X7_closed 14 [.ref a0, u1, u2, .long (.ofInt l3), u4, .int (.ofInt x5), .int (.ofInt x6)] [] σ (jg_QL Q)
  refine jg_A (pc' := 16) rfl rfl (fun _ _ _ => rfl) ?_
  refine jg_A (pc' := 17) rfl rfl (fun _ _ _ => rfl) ?_
  refine jg_cge (pc' := 20) rfl rfl (fun hc => ?_) (fun hc => ?_)
  · have h := jg_t h (show 5 ≤ jg_wr x6 from hc)
    refine jg_iinc (pc' := 56) (ls' := [.ref a0, u1, u2, .long (.ofInt l3), u4, .int (.ofInt (x5 + 1)), .int (.ofInt x6)]) rfl rfl rfl rfl ?_
    refine jg_goto rfl ?_
    exact h
  · have h := jg_f h (show ¬ (5 ≤ jg_wr x6) from hc)
    refine jg_A (pc' := 21) rfl rfl (fun _ _ _ => rfl) ?_
    refine jg_A (pc' := 22) rfl rfl (fun _ _ _ => rfl) ?_
    refine jg_getO (pc' := 25) (k := 6) rfl h0 (by decide) rfl rfl ?_
    refine jg_A (pc' := 27) rfl rfl (fun _ _ _ => rfl) ?_
    refine jg_A (pc' := 29) rfl rfl (fun _ _ _ => rfl) ?_
    refine jg_iadd (pc' := 30) rfl rfl ?_
    obtain ⟨hg, h⟩ := h
    refine jg_lald (pc' := 31) rfl (jg_sX7_7 h0) hg rfl ?_
    refine jg_land (pc' := 32) rfl rfl ?_
    refine jg_lcst (pc' := 33) (x := 0) rfl rfl rfl ?_
    refine jg_lcmp (pc' := 34) rfl rfl ?_
    refine jg_ifeq (pc' := 37) rfl rfl (fun hc => ?_) (fun hc => ?_)
    · have h := jg_t h (show jg_wr (jg_lc (jg_qand l3 (σ.2 (a0 + 6) (jg_wr (10 + x6)))) 0) = 0 from hc)
      refine jg_iinc (pc' := 50) (ls' := [.ref a0, u1, u2, .long (.ofInt l3), u4, .int (.ofInt x5), .int (.ofInt (x6 + 1))]) rfl rfl rfl rfl ?_
      refine jg_goto rfl ?_
      exact h
    · have h := jg_f h (show ¬ (jg_wr (jg_lc (jg_qand l3 (σ.2 (a0 + 6) (jg_wr (10 + x6)))) 0) = 0) from hc)
      refine jg_A (pc' := 38) rfl rfl (fun _ _ _ => rfl) ?_
      refine jg_A (pc' := 39) rfl rfl (fun _ _ _ => rfl) ?_
      refine jg_getO (pc' := 42) (k := 7) rfl h0 (by decide) rfl rfl ?_
      refine jg_A (pc' := 44) rfl rfl (fun _ _ _ => rfl) ?_
      obtain ⟨hg, h⟩ := h
      refine jg_lald (pc' := 45) rfl (jg_sX7_8 h0) hg rfl ?_
      refine jg_lor (pc' := 46) rfl rfl ?_
      refine jg_nm (F := fun t101 => jg_G w 0 mm_X7_closed 46 [.ref a0, u1, u2, .long (.ofInt l3), u4, .int (.ofInt x5), .int (.ofInt x6)] [.long (.ofInt t101)] σ (jg_QL Q)) (jg_qor l3 (σ.2 (a0 + 7) (jg_wr x6))) (fun t101 ht101 => ?_)
      have h := h t101 ht101
      refine jg_A (pc' := 47) (ls' := [.ref a0, u1, u2, .long (.ofInt t101), u4, .int (.ofInt x5), .int (.ofInt x6)]) rfl rfl (fun _ _ _ => rfl) ?_
      refine jg_iinc (pc' := 50) (ls' := [.ref a0, u1, u2, .long (.ofInt t101), u4, .int (.ofInt x5), .int (.ofInt (x6 + 1))]) rfl rfl rfl rfl ?_
      refine jg_goto rfl ?_
      exact h
set_option maxRecDepth 100000 in
set_option maxHeartbeats 4000000 in
theorem jb_X7_spread_0 {w : Nat} {a0 : Nat} {x1 : Int} {x2 : Int} {σ : jg_M} {Q : jg_M → Prop} (h0 : jg_sh a0 = (7, 0)) (h : jg_CV w 0 mm_J7_fill_53178 [.ref (a0 + 5), .int (.ofInt 0)] σ (fun (m101 : jg_M) => jg_CI w 1 mm_X7_widen [.ref a0, .int (.ofInt 0), .int (.ofInt x1), .int (.ofInt x2)] m101 (fun (z103 : Int) (m102 : jg_M) => jg_GV w 4 mm_X7_spread 21 [.ref a0, .int (.ofInt x1), .int (.ofInt x2), .int (.ofInt 1), .int (.ofInt 0), mj_U] m102 Q))) : jg_CV w 4 mm_X7_spread [.ref a0, .int (.ofInt x1), .int (.ofInt x2)] σ Q := by
  show jg_G w 4 mm_X7_spread 0 [.ref a0, .int (.ofInt x1), .int (.ofInt x2), mj_U, mj_U, mj_U] [] σ (jg_QV Q)
  refine jg_A (pc' := 1) rfl rfl (fun _ _ _ => rfl) ?_
  refine jg_getO (pc' := 4) (k := 5) rfl h0 (by decide) rfl rfl ?_
  refine jg_A (pc' := 5) rfl rfl (fun _ _ _ => rfl) ?_
  refine jg_calS (M1 := mm_J7_fill_53178) (hy := 0) (pc' := 8) rfl (Or.inl rfl) jm_J7_fill_53178 (by decide) rfl ⟨Nat.le_of_ble_eq_true rfl, rfl⟩ (Nat.le_of_ble_eq_true rfl) rfl h (jg_kV (fun m101 h => ?_))
  refine jg_A (pc' := 9) rfl rfl (fun _ _ _ => rfl) ?_
  refine jg_A (pc' := 10) rfl rfl (fun _ _ _ => rfl) ?_
  refine jg_A (pc' := 11) rfl rfl (fun _ _ _ => rfl) ?_
  refine jg_A (pc' := 12) rfl rfl (fun _ _ _ => rfl) ?_
  refine jg_calX (M1 := mm_X7_widen) (hy := 1) (pc' := 15) rfl jm_X7_widen (by decide) rfl h0 (by decide) ⟨Nat.le_of_ble_eq_true rfl, rfl⟩ (Nat.le_of_ble_eq_true rfl) rfl h (jg_kI (fun z103 m102 h => ?_))
  refine jg_A (pc' := 16) rfl rfl (fun _ _ _ => rfl) ?_
  refine jg_A (pc' := 17) rfl rfl (fun _ _ _ => rfl) ?_
  refine jg_A (pc' := 18) (ls' := [.ref a0, .int (.ofInt x1), .int (.ofInt x2), .int (.ofInt 1), mj_U, mj_U]) rfl rfl (fun _ _ _ => rfl) ?_
  refine jg_A (pc' := 19) rfl rfl (fun _ _ _ => rfl) ?_
  refine jg_A (pc' := 21) (ls' := [.ref a0, .int (.ofInt x1), .int (.ofInt x2), .int (.ofInt 1), .int (.ofInt 0), mj_U]) rfl rfl (fun _ _ _ => rfl) ?_
  exact h
set_option maxRecDepth 100000 in
set_option maxHeartbeats 4000000 in
theorem jb_X7_spread_21 {w : Nat} {a0 : Nat} {u1 : Value} {u2 : Value} {x3 : Int} {x4 : Int} {u5 : Value} {σ : jg_M} {Q : jg_M → Prop} (h0 : jg_sh a0 = (7, 0)) (h : (if jg_wr x3 = 0 then Q σ else (if 1000000 ≤ jg_wr x4 then Q σ else jg_GV w 4 mm_X7_spread 37 [.ref a0, u1, u2, .int (.ofInt 0), .int (.ofInt x4), .int (.ofInt 0)] σ Q))) : jg_GV w 4 mm_X7_spread 21 [.ref a0, u1, u2, .int (.ofInt x3), .int (.ofInt x4), u5] σ Q := by
  show jg_G w 4 mm_X7_spread 21 [.ref a0, u1, u2, .int (.ofInt x3), .int (.ofInt x4), u5] [] σ (jg_QV Q)
  refine jg_A (pc' := 22) rfl rfl (fun _ _ _ => rfl) ?_
  refine jg_ifeq (pc' := 25) rfl rfl (fun hc => ?_) (fun hc => ?_)
  · have h := jg_t h (show jg_wr x3 = 0 from hc)
    exact jg_vret rfl rfl h
  · have h := jg_f h (show ¬ (jg_wr x3 = 0) from hc)
    refine jg_A (pc' := 27) rfl rfl (fun _ _ _ => rfl) ?_
    refine jg_A (pc' := 29) rfl rfl (fun _ _ _ => rfl) ?_
    refine jg_cge (pc' := 32) rfl rfl (fun hc => ?_) (fun hc => ?_)
    · have h := jg_t h (show 1000000 ≤ jg_wr x4 from hc)
      exact jg_vret rfl rfl h
    · have h := jg_f h (show ¬ (1000000 ≤ jg_wr x4) from hc)
      refine jg_A (pc' := 33) rfl rfl (fun _ _ _ => rfl) ?_
      refine jg_A (pc' := 34) (ls' := [.ref a0, u1, u2, .int (.ofInt 0), .int (.ofInt x4), u5]) rfl rfl (fun _ _ _ => rfl) ?_
      refine jg_A (pc' := 35) rfl rfl (fun _ _ _ => rfl) ?_
      refine jg_A (pc' := 37) (ls' := [.ref a0, u1, u2, .int (.ofInt 0), .int (.ofInt x4), .int (.ofInt 0)]) rfl rfl (fun _ _ _ => rfl) ?_
      exact h
set_option maxRecDepth 100000 in
set_option maxHeartbeats 4000000 in
theorem jb_X7_spread_37 {w : Nat} {a0 : Nat} {u1 : Value} {u2 : Value} {x3 : Int} {x4 : Int} {x5 : Int} {σ : jg_M} {Q : jg_M → Prop} (h0 : jg_sh a0 = (7, 0)) (h : (if jg_wr (σ.1 a0 0) ≤ jg_wr x5 then jg_GV w 4 mm_X7_spread 21 [.ref a0, u1, u2, .int (.ofInt x3), .int (.ofInt (x4 + 1)), .int (.ofInt x5)] σ Q else jg_CI w 3 mm_X7_spreadIn [.ref a0, .int (.ofInt x5)] σ (fun (z102 : Int) (m101 : jg_M) => (if jg_wr z102 = 0 then jg_GV w 4 mm_X7_spread 37 [.ref a0, u1, u2, .int (.ofInt x3), .int (.ofInt x4), .int (.ofInt (x5 + 1))] m101 Q else jg_GV w 4 mm_X7_spread 37 [.ref a0, u1, u2, .int (.ofInt 1), .int (.ofInt x4), .int (.ofInt (x5 + 1))] m101 Q)))) : jg_GV w 4 mm_X7_spread 37 [.ref a0, u1, u2, .int (.ofInt x3), .int (.ofInt x4), .int (.ofInt x5)] σ Q := by
  show jg_G w 4 mm_X7_spread 37 [.ref a0, u1, u2, .int (.ofInt x3), .int (.ofInt x4), .int (.ofInt x5)] [] σ (jg_QV Q)
  refine jg_A (pc' := 39) rfl rfl (fun _ _ _ => rfl) ?_
  refine jg_A (pc' := 40) rfl rfl (fun _ _ _ => rfl) ?_
  refine jg_getI (pc' := 43) (bi := 0) rfl h0 (by decide) (Or.inl rfl) rfl rfl ?_
  refine jg_cge (pc' := 46) rfl rfl (fun hc => ?_) (fun hc => ?_)
  · have h := jg_t h (show jg_wr (σ.1 a0 0) ≤ jg_wr x5 from hc)
    refine jg_iinc (pc' := 66) (ls' := [.ref a0, u1, u2, .int (.ofInt x3), .int (.ofInt (x4 + 1)), .int (.ofInt x5)]) rfl rfl rfl rfl ?_
    refine jg_goto rfl ?_
    exact h
  · have h := jg_f h (show ¬ (jg_wr (σ.1 a0 0) ≤ jg_wr x5) from hc)
    refine jg_A (pc' := 47) rfl rfl (fun _ _ _ => rfl) ?_
    refine jg_A (pc' := 49) rfl rfl (fun _ _ _ => rfl) ?_
    refine jg_calX (M1 := mm_X7_spreadIn) (hy := 3) (pc' := 52) rfl jm_X7_spreadIn (by decide) rfl h0 (by decide) ⟨Nat.le_of_ble_eq_true rfl, rfl⟩ (Nat.le_of_ble_eq_true rfl) rfl h (jg_kI (fun z102 m101 h => ?_))
    refine jg_ifeq (pc' := 55) rfl rfl (fun hc => ?_) (fun hc => ?_)
    · have h := jg_t h (show jg_wr z102 = 0 from hc)
      refine jg_iinc (pc' := 60) (ls' := [.ref a0, u1, u2, .int (.ofInt x3), .int (.ofInt x4), .int (.ofInt (x5 + 1))]) rfl rfl rfl rfl ?_
      refine jg_goto rfl ?_
      exact h
    · have h := jg_f h (show ¬ (jg_wr z102 = 0) from hc)
      refine jg_A (pc' := 56) rfl rfl (fun _ _ _ => rfl) ?_
      refine jg_A (pc' := 57) (ls' := [.ref a0, u1, u2, .int (.ofInt 1), .int (.ofInt x4), .int (.ofInt x5)]) rfl rfl (fun _ _ _ => rfl) ?_
      refine jg_iinc (pc' := 60) (ls' := [.ref a0, u1, u2, .int (.ofInt 1), .int (.ofInt x4), .int (.ofInt (x5 + 1))]) rfl rfl rfl rfl ?_
      refine jg_goto rfl ?_
      exact h
set_option maxRecDepth 100000 in
set_option maxHeartbeats 4000000 in
theorem jb_X7_spreadIn_0 {w : Nat} {a0 : Nat} {x1 : Int} {σ : jg_M} {Q : Int → jg_M → Prop} (h0 : jg_sh a0 = (7, 0)) (h : jg_GI w 3 mm_X7_spreadIn 4 [.ref a0, .int (.ofInt x1), .int (.ofInt 0), .int (.ofInt 0)] σ Q) : jg_CI w 3 mm_X7_spreadIn [.ref a0, .int (.ofInt x1)] σ Q := by
  show jg_G w 3 mm_X7_spreadIn 0 [.ref a0, .int (.ofInt x1), mj_U, mj_U] [] σ (jg_QI Q)
  refine jg_A (pc' := 1) rfl rfl (fun _ _ _ => rfl) ?_
  refine jg_A (pc' := 2) (ls' := [.ref a0, .int (.ofInt x1), .int (.ofInt 0), mj_U]) rfl rfl (fun _ _ _ => rfl) ?_
  refine jg_A (pc' := 3) rfl rfl (fun _ _ _ => rfl) ?_
  refine jg_A (pc' := 4) (ls' := [.ref a0, .int (.ofInt x1), .int (.ofInt 0), .int (.ofInt 0)]) rfl rfl (fun _ _ _ => rfl) ?_
  exact h
set_option maxRecDepth 100000 in
set_option maxHeartbeats 4000000 in
theorem jb_X7_spreadIn_4 {w : Nat} {a0 : Nat} {x1 : Int} {x2 : Int} {x3 : Int} {σ : jg_M} {Q : Int → jg_M → Prop} (h0 : jg_sh a0 = (7, 0)) (h : (if jg_wr (σ.1 a0 6) ≤ jg_wr x3 then ((jg_wr x2 = 0 ∨ jg_wr x2 = 1) ∧ Q x2 σ) else ((0 : Int) ≤ jg_wr x1 ∧ jg_wr x1 < (48 : Int)) ∧ jg_CI w 0 mm_X11_inBits [.long (.ofInt (σ.2 (a0 + 2) (jg_wr x1))), .int (.ofInt x3)] σ (fun (z102 : Int) (m101 : jg_M) => (if jg_wr z102 = 0 then jg_GI w 3 mm_X7_spreadIn 4 [.ref a0, .int (.ofInt x1), .int (.ofInt x2), .int (.ofInt (x3 + 1))] m101 Q else ((0 : Int) ≤ jg_wr x3 ∧ jg_wr x3 < (62 : Int)) ∧ (if jg_wr (m101.1 (a0 + 8) (jg_wr x3)) < 0 then jg_GI w 3 mm_X7_spreadIn 4 [.ref a0, .int (.ofInt x1), .int (.ofInt x2), .int (.ofInt (x3 + 1))] m101 Q else jg_CI w 2 mm_X7_spreadFrom [.ref a0, .int (.ofInt x1), .int (.ofInt x3)] m101 (fun (z104 : Int) (m103 : jg_M) => (if jg_wr z104 = 0 then jg_GI w 3 mm_X7_spreadIn 4 [.ref a0, .int (.ofInt x1), .int (.ofInt x2), .int (.ofInt (x3 + 1))] m103 Q else jg_GI w 3 mm_X7_spreadIn 4 [.ref a0, .int (.ofInt x1), .int (.ofInt 1), .int (.ofInt (x3 + 1))] m103 Q))))))) : jg_GI w 3 mm_X7_spreadIn 4 [.ref a0, .int (.ofInt x1), .int (.ofInt x2), .int (.ofInt x3)] σ Q := by
  show jg_G w 3 mm_X7_spreadIn 4 [.ref a0, .int (.ofInt x1), .int (.ofInt x2), .int (.ofInt x3)] [] σ (jg_QI Q)
  refine jg_A (pc' := 5) rfl rfl (fun _ _ _ => rfl) ?_
  refine jg_A (pc' := 6) rfl rfl (fun _ _ _ => rfl) ?_
  refine jg_getI (pc' := 9) (bi := 6) rfl h0 (by decide) (Or.inl rfl) rfl rfl ?_
  refine jg_cge (pc' := 12) rfl rfl (fun hc => ?_) (fun hc => ?_)
  · have h := jg_t h (show jg_wr (σ.1 a0 6) ≤ jg_wr x3 from hc)
    refine jg_A (pc' := 52) rfl rfl (fun _ _ _ => rfl) ?_
    exact jg_zret rfl rfl h.1 h.2
  · have h := jg_f h (show ¬ (jg_wr (σ.1 a0 6) ≤ jg_wr x3) from hc)
    refine jg_A (pc' := 13) rfl rfl (fun _ _ _ => rfl) ?_
    refine jg_getO (pc' := 16) (k := 2) rfl h0 (by decide) rfl rfl ?_
    refine jg_A (pc' := 17) rfl rfl (fun _ _ _ => rfl) ?_
    obtain ⟨hg, h⟩ := h
    refine jg_lald (pc' := 18) rfl (jg_sX7_2 h0) hg rfl ?_
    refine jg_A (pc' := 19) rfl rfl (fun _ _ _ => rfl) ?_
    refine jg_calS (M1 := mm_X11_inBits) (hy := 0) (pc' := 22) rfl (Or.inr rfl) jm_X11_inBits (by decide) rfl ⟨Nat.le_of_ble_eq_true rfl, rfl⟩ (Nat.le_of_ble_eq_true rfl) rfl h (jg_kI (fun z102 m101 h => ?_))
    refine jg_ifeq (pc' := 25) rfl rfl (fun hc => ?_) (fun hc => ?_)
    · have h := jg_t h (show jg_wr z102 = 0 from hc)
      refine jg_iinc (pc' := 48) (ls' := [.ref a0, .int (.ofInt x1), .int (.ofInt x2), .int (.ofInt (x3 + 1))]) rfl rfl rfl rfl ?_
      refine jg_goto rfl ?_
      exact h
    · have h := jg_f h (show ¬ (jg_wr z102 = 0) from hc)
      refine jg_A (pc' := 26) rfl rfl (fun _ _ _ => rfl) ?_
      refine jg_getO (pc' := 29) (k := 8) rfl h0 (by decide) rfl rfl ?_
      refine jg_A (pc' := 30) rfl rfl (fun _ _ _ => rfl) ?_
      obtain ⟨hg, h⟩ := h
      refine jg_iald (pc' := 31) rfl (jg_sX7_9 h0) hg rfl ?_
      refine jg_iflt (pc' := 34) rfl rfl (fun hc => ?_) (fun hc => ?_)
      · have h := jg_t h (show jg_wr (m101.1 (a0 + 8) (jg_wr x3)) < 0 from hc)
        refine jg_iinc (pc' := 48) (ls' := [.ref a0, .int (.ofInt x1), .int (.ofInt x2), .int (.ofInt (x3 + 1))]) rfl rfl rfl rfl ?_
        refine jg_goto rfl ?_
        exact h
      · have h := jg_f h (show ¬ (jg_wr (m101.1 (a0 + 8) (jg_wr x3)) < 0) from hc)
        refine jg_A (pc' := 35) rfl rfl (fun _ _ _ => rfl) ?_
        refine jg_A (pc' := 36) rfl rfl (fun _ _ _ => rfl) ?_
        refine jg_A (pc' := 37) rfl rfl (fun _ _ _ => rfl) ?_
        refine jg_calX (M1 := mm_X7_spreadFrom) (hy := 2) (pc' := 40) rfl jm_X7_spreadFrom (by decide) rfl h0 (by decide) ⟨Nat.le_of_ble_eq_true rfl, rfl⟩ (Nat.le_of_ble_eq_true rfl) rfl h (jg_kI (fun z104 m103 h => ?_))
        refine jg_ifeq (pc' := 43) rfl rfl (fun hc => ?_) (fun hc => ?_)
        · have h := jg_t h (show jg_wr z104 = 0 from hc)
          refine jg_iinc (pc' := 48) (ls' := [.ref a0, .int (.ofInt x1), .int (.ofInt x2), .int (.ofInt (x3 + 1))]) rfl rfl rfl rfl ?_
          refine jg_goto rfl ?_
          exact h
        · have h := jg_f h (show ¬ (jg_wr z104 = 0) from hc)
          refine jg_A (pc' := 44) rfl rfl (fun _ _ _ => rfl) ?_
          refine jg_A (pc' := 45) (ls' := [.ref a0, .int (.ofInt x1), .int (.ofInt 1), .int (.ofInt x3)]) rfl rfl (fun _ _ _ => rfl) ?_
          refine jg_iinc (pc' := 48) (ls' := [.ref a0, .int (.ofInt x1), .int (.ofInt 1), .int (.ofInt (x3 + 1))]) rfl rfl rfl rfl ?_
          refine jg_goto rfl ?_
          exact h
set_option maxRecDepth 100000 in
set_option maxHeartbeats 4000000 in
theorem jb_X7_spreadFrom_0 {w : Nat} {a0 : Nat} {x1 : Int} {x2 : Int} {σ : jg_M} {Q : Int → jg_M → Prop} (h0 : jg_sh a0 = (7, 0)) (h : ((0 : Int) ≤ jg_wr x2 ∧ jg_wr x2 < (62 : Int)) ∧ ∀ t101 : Int, t101 = (σ.1 (a0 + 8) (jg_wr x2)) → jg_CI w 1 mm_X7_behind [.ref a0, .int (.ofInt x1), .int (.ofInt x2)] σ (fun (z103 : Int) (m102 : jg_M) => jg_CI w 1 mm_X7_moveBy [.ref a0, .int (.ofInt x1), .int (.ofInt t101)] m102 (fun (z105 : Int) (m104 : jg_M) => jg_CI w 1 mm_X7_widen [.ref a0, .int (.ofInt z105), .int (.ofInt (x2 + 1)), .int (.ofInt z103)] m104 (fun (z107 : Int) (m106 : jg_M) => ∀ t108 : Int, t108 = (t101 - 10) → (if jg_wr t108 < 0 then ((jg_wr z107 = 0 ∨ jg_wr z107 = 1) ∧ Q z107 m106) else (if jg_wr t108 < 5 then jg_CI w 0 mm_X11_inBits [.long (.ofInt (m106.2 a0 11)), .int (.ofInt x2)] m106 (fun (z110 : Int) (m109 : jg_M) => (if jg_wr z110 = 0 then ((0 : Int) ≤ jg_wr x2 ∧ jg_wr x2 < (62 : Int)) ∧ ∀ t111 : Int, t111 = (m109.1 (a0 + 9) (jg_wr x2)) → jg_GI w 2 mm_X7_spreadFrom 86 [.ref a0, .int (.ofInt x1), .int (.ofInt x2), .int (.ofInt t101), .int (.ofInt z103), .int (.ofInt z107), .int (.ofInt t108), .int (.ofInt t111), .int (.ofInt 0)] m109 Q else ((0 : Int) ≤ jg_wr x2 ∧ jg_wr x2 < (62 : Int)) ∧ ∀ t112 : Int, t112 = (jg_or (m109.1 (a0 + 9) (jg_wr x2)) z103) → jg_GI w 2 mm_X7_spreadFrom 86 [.ref a0, .int (.ofInt x1), .int (.ofInt x2), .int (.ofInt t101), .int (.ofInt z103), .int (.ofInt z107), .int (.ofInt t108), .int (.ofInt t112), .int (.ofInt 0)] m109 Q)) else ((jg_wr z107 = 0 ∨ jg_wr z107 = 1) ∧ Q z107 m106))))))) : jg_CI w 2 mm_X7_spreadFrom [.ref a0, .int (.ofInt x1), .int (.ofInt x2)] σ Q := by
  show jg_G w 2 mm_X7_spreadFrom 0 [.ref a0, .int (.ofInt x1), .int (.ofInt x2), mj_U, mj_U, mj_U, mj_U, mj_U, mj_U] [] σ (jg_QI Q)
  refine jg_A (pc' := 1) rfl rfl (fun _ _ _ => rfl) ?_
  refine jg_getO (pc' := 4) (k := 8) rfl h0 (by decide) rfl rfl ?_
  refine jg_A (pc' := 5) rfl rfl (fun _ _ _ => rfl) ?_
  obtain ⟨hg, h⟩ := h
  refine jg_iald (pc' := 6) rfl (jg_sX7_9 h0) hg rfl ?_
  refine jg_nm (F := fun t101 => jg_G w 2 mm_X7_spreadFrom 6 [.ref a0, .int (.ofInt x1), .int (.ofInt x2), mj_U, mj_U, mj_U, mj_U, mj_U, mj_U] [.int (.ofInt t101)] σ (jg_QI Q)) (σ.1 (a0 + 8) (jg_wr x2)) (fun t101 ht101 => ?_)
  have h := h t101 ht101
  refine jg_A (pc' := 7) (ls' := [.ref a0, .int (.ofInt x1), .int (.ofInt x2), .int (.ofInt t101), mj_U, mj_U, mj_U, mj_U, mj_U]) rfl rfl (fun _ _ _ => rfl) ?_
  refine jg_A (pc' := 8) rfl rfl (fun _ _ _ => rfl) ?_
  refine jg_A (pc' := 9) rfl rfl (fun _ _ _ => rfl) ?_
  refine jg_A (pc' := 10) rfl rfl (fun _ _ _ => rfl) ?_
  refine jg_calX (M1 := mm_X7_behind) (hy := 1) (pc' := 13) rfl jm_X7_behind (by decide) rfl h0 (by decide) ⟨Nat.le_of_ble_eq_true rfl, rfl⟩ (Nat.le_of_ble_eq_true rfl) rfl h (jg_kI (fun z103 m102 h => ?_))
  refine jg_A (pc' := 15) (ls' := [.ref a0, .int (.ofInt x1), .int (.ofInt x2), .int (.ofInt t101), .int (.ofInt z103), mj_U, mj_U, mj_U, mj_U]) rfl rfl (fun _ _ _ => rfl) ?_
  refine jg_A (pc' := 16) rfl rfl (fun _ _ _ => rfl) ?_
  refine jg_A (pc' := 17) rfl rfl (fun _ _ _ => rfl) ?_
  refine jg_A (pc' := 18) rfl rfl (fun _ _ _ => rfl) ?_
  refine jg_A (pc' := 19) rfl rfl (fun _ _ _ => rfl) ?_
  refine jg_calX (M1 := mm_X7_moveBy) (hy := 1) (pc' := 22) rfl jm_X7_moveBy (by decide) rfl h0 (by decide) ⟨Nat.le_of_ble_eq_true rfl, rfl⟩ (Nat.le_of_ble_eq_true rfl) rfl h (jg_kI (fun z105 m104 h => ?_))
  refine jg_A (pc' := 23) rfl rfl (fun _ _ _ => rfl) ?_
  refine jg_A (pc' := 24) rfl rfl (fun _ _ _ => rfl) ?_
  refine jg_iadd (pc' := 25) rfl rfl ?_
  refine jg_A (pc' := 27) rfl rfl (fun _ _ _ => rfl) ?_
  refine jg_calX (M1 := mm_X7_widen) (hy := 1) (pc' := 30) rfl jm_X7_widen (by decide) rfl h0 (by decide) ⟨Nat.le_of_ble_eq_true rfl, rfl⟩ (Nat.le_of_ble_eq_true rfl) rfl h (jg_kI (fun z107 m106 h => ?_))
  refine jg_A (pc' := 32) (ls' := [.ref a0, .int (.ofInt x1), .int (.ofInt x2), .int (.ofInt t101), .int (.ofInt z103), .int (.ofInt z107), mj_U, mj_U, mj_U]) rfl rfl (fun _ _ _ => rfl) ?_
  refine jg_A (pc' := 33) rfl rfl (fun _ _ _ => rfl) ?_
  refine jg_A (pc' := 35) rfl rfl (fun _ _ _ => rfl) ?_
  refine jg_isub (pc' := 36) rfl rfl ?_
  refine jg_nm (F := fun t108 => jg_G w 2 mm_X7_spreadFrom 36 [.ref a0, .int (.ofInt x1), .int (.ofInt x2), .int (.ofInt t101), .int (.ofInt z103), .int (.ofInt z107), mj_U, mj_U, mj_U] [.int (.ofInt t108)] m106 (jg_QI Q)) (t101 - 10) (fun t108 ht108 => ?_)
  have h := h t108 ht108
  refine jg_A (pc' := 38) (ls' := [.ref a0, .int (.ofInt x1), .int (.ofInt x2), .int (.ofInt t101), .int (.ofInt z103), .int (.ofInt z107), .int (.ofInt t108), mj_U, mj_U]) rfl rfl (fun _ _ _ => rfl) ?_
  refine jg_A (pc' := 40) rfl rfl (fun _ _ _ => rfl) ?_
  refine jg_iflt (pc' := 43) rfl rfl (fun hc => ?_) (fun hc => ?_)
  · have h := jg_t h (show jg_wr t108 < 0 from hc)
    refine jg_A (pc' := 51) rfl rfl (fun _ _ _ => rfl) ?_
    exact jg_zret rfl rfl h.1 h.2
  · have h := jg_f h (show ¬ (jg_wr t108 < 0) from hc)
    refine jg_A (pc' := 45) rfl rfl (fun _ _ _ => rfl) ?_
    refine jg_A (pc' := 46) rfl rfl (fun _ _ _ => rfl) ?_
    refine jg_clt (pc' := 49) rfl rfl (fun hc => ?_) (fun hc => ?_)
    · have h := jg_t h (show jg_wr t108 < 5 from hc)
      refine jg_A (pc' := 53) rfl rfl (fun _ _ _ => rfl) ?_
      refine jg_getL (pc' := 56) (bi := 11) rfl h0 (by decide) rfl rfl rfl ?_
      refine jg_A (pc' := 57) rfl rfl (fun _ _ _ => rfl) ?_
      refine jg_calS (M1 := mm_X11_inBits) (hy := 0) (pc' := 60) rfl (Or.inr rfl) jm_X11_inBits (by decide) rfl ⟨Nat.le_of_ble_eq_true rfl, rfl⟩ (Nat.le_of_ble_eq_true rfl) rfl h (jg_kI (fun z110 m109 h => ?_))
      refine jg_ifeq (pc' := 63) rfl rfl (fun hc => ?_) (fun hc => ?_)
      · have h := jg_t h (show jg_wr z110 = 0 from hc)
        refine jg_A (pc' := 76) rfl rfl (fun _ _ _ => rfl) ?_
        refine jg_getO (pc' := 79) (k := 9) rfl h0 (by decide) rfl rfl ?_
        refine jg_A (pc' := 80) rfl rfl (fun _ _ _ => rfl) ?_
        obtain ⟨hg, h⟩ := h
        refine jg_iald (pc' := 81) rfl (jg_sX7_10 h0) hg rfl ?_
        refine jg_nm (F := fun t111 => jg_G w 2 mm_X7_spreadFrom 81 [.ref a0, .int (.ofInt x1), .int (.ofInt x2), .int (.ofInt t101), .int (.ofInt z103), .int (.ofInt z107), .int (.ofInt t108), mj_U, mj_U] [.int (.ofInt t111)] m109 (jg_QI Q)) (m109.1 (a0 + 9) (jg_wr x2)) (fun t111 ht111 => ?_)
        have h := h t111 ht111
        refine jg_A (pc' := 83) (ls' := [.ref a0, .int (.ofInt x1), .int (.ofInt x2), .int (.ofInt t101), .int (.ofInt z103), .int (.ofInt z107), .int (.ofInt t108), .int (.ofInt t111), mj_U]) rfl rfl (fun _ _ _ => rfl) ?_
        refine jg_A (pc' := 84) rfl rfl (fun _ _ _ => rfl) ?_
        refine jg_A (pc' := 86) (ls' := [.ref a0, .int (.ofInt x1), .int (.ofInt x2), .int (.ofInt t101), .int (.ofInt z103), .int (.ofInt z107), .int (.ofInt t108), .int (.ofInt t111), .int (.ofInt 0)]) rfl rfl (fun _ _ _ => rfl) ?_
        exact h
      · have h := jg_f h (show ¬ (jg_wr z110 = 0) from hc)
        refine jg_A (pc' := 64) rfl rfl (fun _ _ _ => rfl) ?_
        refine jg_getO (pc' := 67) (k := 9) rfl h0 (by decide) rfl rfl ?_
        refine jg_A (pc' := 68) rfl rfl (fun _ _ _ => rfl) ?_
        obtain ⟨hg, h⟩ := h
        refine jg_iald (pc' := 69) rfl (jg_sX7_10 h0) hg rfl ?_
        refine jg_A (pc' := 71) rfl rfl (fun _ _ _ => rfl) ?_
        refine jg_ior (pc' := 72) rfl rfl ?_
        refine jg_goto rfl ?_
        refine jg_nm (F := fun t112 => jg_G w 2 mm_X7_spreadFrom 81 [.ref a0, .int (.ofInt x1), .int (.ofInt x2), .int (.ofInt t101), .int (.ofInt z103), .int (.ofInt z107), .int (.ofInt t108), mj_U, mj_U] [.int (.ofInt t112)] m109 (jg_QI Q)) (jg_or (m109.1 (a0 + 9) (jg_wr x2)) z103) (fun t112 ht112 => ?_)
        have h := h t112 ht112
        refine jg_A (pc' := 83) (ls' := [.ref a0, .int (.ofInt x1), .int (.ofInt x2), .int (.ofInt t101), .int (.ofInt z103), .int (.ofInt z107), .int (.ofInt t108), .int (.ofInt t112), mj_U]) rfl rfl (fun _ _ _ => rfl) ?_
        refine jg_A (pc' := 84) rfl rfl (fun _ _ _ => rfl) ?_
        refine jg_A (pc' := 86) (ls' := [.ref a0, .int (.ofInt x1), .int (.ofInt x2), .int (.ofInt t101), .int (.ofInt z103), .int (.ofInt z107), .int (.ofInt t108), .int (.ofInt t112), .int (.ofInt 0)]) rfl rfl (fun _ _ _ => rfl) ?_
        exact h
    · have h := jg_f h (show ¬ (jg_wr t108 < 5) from hc)
      refine jg_A (pc' := 51) rfl rfl (fun _ _ _ => rfl) ?_
      exact jg_zret rfl rfl h.1 h.2
set_option maxRecDepth 100000 in
set_option maxHeartbeats 4000000 in
theorem jb_X7_spreadFrom_86 {w : Nat} {a0 : Nat} {x1 : Int} {u2 : Value} {u3 : Value} {u4 : Value} {x5 : Int} {x6 : Int} {x7 : Int} {x8 : Int} {σ : jg_M} {Q : Int → jg_M → Prop} (h0 : jg_sh a0 = (7, 0)) (h : (if jg_wr (σ.1 a0 6) ≤ jg_wr x8 then ((jg_wr x5 = 0 ∨ jg_wr x5 = 1) ∧ Q x5 σ) else ((0 : Int) ≤ jg_wr x6 ∧ jg_wr x6 < (5 : Int)) ∧ jg_CI w 0 mm_X11_inBits [.long (.ofInt (σ.2 (a0 + 7) (jg_wr x6))), .int (.ofInt x8)] σ (fun (z102 : Int) (m101 : jg_M) => (if jg_wr z102 = 0 then jg_GI w 2 mm_X7_spreadFrom 86 [.ref a0, .int (.ofInt x1), u2, u3, u4, .int (.ofInt x5), .int (.ofInt x6), .int (.ofInt x7), .int (.ofInt (x8 + 5))] m101 Q else jg_CI w 1 mm_X7_widen [.ref a0, .int (.ofInt x1), .int (.ofInt x8), .int (.ofInt x7)] m101 (fun (z104 : Int) (m103 : jg_M) => (if jg_wr z104 = 0 then jg_GI w 2 mm_X7_spreadFrom 86 [.ref a0, .int (.ofInt x1), u2, u3, u4, .int (.ofInt x5), .int (.ofInt x6), .int (.ofInt x7), .int (.ofInt (x8 + 5))] m103 Q else jg_GI w 2 mm_X7_spreadFrom 86 [.ref a0, .int (.ofInt x1), u2, u3, u4, .int (.ofInt 1), .int (.ofInt x6), .int (.ofInt x7), .int (.ofInt (x8 + 5))] m103 Q)))))) : jg_GI w 2 mm_X7_spreadFrom 86 [.ref a0, .int (.ofInt x1), u2, u3, u4, .int (.ofInt x5), .int (.ofInt x6), .int (.ofInt x7), .int (.ofInt x8)] σ Q := by
  show jg_G w 2 mm_X7_spreadFrom 86 [.ref a0, .int (.ofInt x1), u2, u3, u4, .int (.ofInt x5), .int (.ofInt x6), .int (.ofInt x7), .int (.ofInt x8)] [] σ (jg_QI Q)
  refine jg_A (pc' := 88) rfl rfl (fun _ _ _ => rfl) ?_
  refine jg_A (pc' := 89) rfl rfl (fun _ _ _ => rfl) ?_
  refine jg_getI (pc' := 92) (bi := 6) rfl h0 (by decide) (Or.inl rfl) rfl rfl ?_
  refine jg_cge (pc' := 95) rfl rfl (fun hc => ?_) (fun hc => ?_)
  · have h := jg_t h (show jg_wr (σ.1 a0 6) ≤ jg_wr x8 from hc)
    refine jg_A (pc' := 133) rfl rfl (fun _ _ _ => rfl) ?_
    exact jg_zret rfl rfl h.1 h.2
  · have h := jg_f h (show ¬ (jg_wr (σ.1 a0 6) ≤ jg_wr x8) from hc)
    refine jg_A (pc' := 96) rfl rfl (fun _ _ _ => rfl) ?_
    refine jg_getO (pc' := 99) (k := 7) rfl h0 (by decide) rfl rfl ?_
    refine jg_A (pc' := 101) rfl rfl (fun _ _ _ => rfl) ?_
    obtain ⟨hg, h⟩ := h
    refine jg_lald (pc' := 102) rfl (jg_sX7_8 h0) hg rfl ?_
    refine jg_A (pc' := 104) rfl rfl (fun _ _ _ => rfl) ?_
    refine jg_calS (M1 := mm_X11_inBits) (hy := 0) (pc' := 107) rfl (Or.inr rfl) jm_X11_inBits (by decide) rfl ⟨Nat.le_of_ble_eq_true rfl, rfl⟩ (Nat.le_of_ble_eq_true rfl) rfl h (jg_kI (fun z102 m101 h => ?_))
    refine jg_ifeq (pc' := 110) rfl rfl (fun hc => ?_) (fun hc => ?_)
    · have h := jg_t h (show jg_wr z102 = 0 from hc)
      refine jg_iinc (pc' := 128) (ls' := [.ref a0, .int (.ofInt x1), u2, u3, u4, .int (.ofInt x5), .int (.ofInt x6), .int (.ofInt x7), .int (.ofInt (x8 + 5))]) rfl rfl rfl rfl ?_
      refine jg_goto rfl ?_
      exact h
    · have h := jg_f h (show ¬ (jg_wr z102 = 0) from hc)
      refine jg_A (pc' := 111) rfl rfl (fun _ _ _ => rfl) ?_
      refine jg_A (pc' := 112) rfl rfl (fun _ _ _ => rfl) ?_
      refine jg_A (pc' := 114) rfl rfl (fun _ _ _ => rfl) ?_
      refine jg_A (pc' := 116) rfl rfl (fun _ _ _ => rfl) ?_
      refine jg_calX (M1 := mm_X7_widen) (hy := 1) (pc' := 119) rfl jm_X7_widen (by decide) rfl h0 (by decide) ⟨Nat.le_of_ble_eq_true rfl, rfl⟩ (Nat.le_of_ble_eq_true rfl) rfl h (jg_kI (fun z104 m103 h => ?_))
      refine jg_ifeq (pc' := 122) rfl rfl (fun hc => ?_) (fun hc => ?_)
      · have h := jg_t h (show jg_wr z104 = 0 from hc)
        refine jg_iinc (pc' := 128) (ls' := [.ref a0, .int (.ofInt x1), u2, u3, u4, .int (.ofInt x5), .int (.ofInt x6), .int (.ofInt x7), .int (.ofInt (x8 + 5))]) rfl rfl rfl rfl ?_
        refine jg_goto rfl ?_
        exact h
      · have h := jg_f h (show ¬ (jg_wr z104 = 0) from hc)
        refine jg_A (pc' := 123) rfl rfl (fun _ _ _ => rfl) ?_
        refine jg_A (pc' := 125) (ls' := [.ref a0, .int (.ofInt x1), u2, u3, u4, .int (.ofInt 1), .int (.ofInt x6), .int (.ofInt x7), .int (.ofInt x8)]) rfl rfl (fun _ _ _ => rfl) ?_
        refine jg_iinc (pc' := 128) (ls' := [.ref a0, .int (.ofInt x1), u2, u3, u4, .int (.ofInt 1), .int (.ofInt x6), .int (.ofInt x7), .int (.ofInt (x8 + 5))]) rfl rfl rfl rfl ?_
        refine jg_goto rfl ?_
        exact h
set_option maxRecDepth 100000 in
set_option maxHeartbeats 4000000 in
theorem jb_X7_widen_0 {w : Nat} {a0 : Nat} {x1 : Int} {x2 : Int} {x3 : Int} {σ : jg_M} {Q : Int → jg_M → Prop} (h0 : jg_sh a0 = (7, 0)) (h : jg_CI w 0 mm_X7_has [.ref a0, .int (.ofInt x1)] σ (fun (z102 : Int) (m101 : jg_M) => (if jg_wr z102 = 0 then Q 0 m101 else (if jg_wr x2 < 0 then Q 0 m101 else (if jg_wr x2 < 62 then ∀ t103 : Int, t103 = ((x1 * 62) + x2) → ((0 : Int) ≤ jg_wr t103 ∧ jg_wr t103 < (2976 : Int)) ∧ ((0 : Int) ≤ jg_wr t103 ∧ jg_wr t103 < (2976 : Int)) ∧ (if jg_wr (jg_or (m101.1 (a0 + 5) (jg_wr t103)) x3) = jg_wr (m101.1 (a0 + 5) (jg_wr t103)) then Q 0 m101 else ((0 : Int) ≤ jg_wr t103 ∧ jg_wr t103 < (2976 : Int)) ∧ ((0 : Int) ≤ (jg_wr t103) ∧ (jg_wr t103) < (2976 : Int)) ∧ ∀ m104 : jg_M, m104 = jg_sI m101 (a0 + 5) (jg_wr t103) (jg_or (m101.1 (a0 + 5) (jg_wr t103)) x3) → Q 1 m104) else Q 0 m101))))) : jg_CI w 1 mm_X7_widen [.ref a0, .int (.ofInt x1), .int (.ofInt x2), .int (.ofInt x3)] σ Q := by
  show jg_G w 1 mm_X7_widen 0 [.ref a0, .int (.ofInt x1), .int (.ofInt x2), .int (.ofInt x3), mj_U] [] σ (jg_QI Q)
  refine jg_A (pc' := 1) rfl rfl (fun _ _ _ => rfl) ?_
  refine jg_A (pc' := 2) rfl rfl (fun _ _ _ => rfl) ?_
  refine jg_calX (M1 := mm_X7_has) (hy := 0) (pc' := 5) rfl jm_X7_has (by decide) rfl h0 (by decide) ⟨Nat.le_of_ble_eq_true rfl, rfl⟩ (Nat.le_of_ble_eq_true rfl) rfl h (jg_kI (fun z102 m101 h => ?_))
  refine jg_ifeq (pc' := 8) rfl rfl (fun hc => ?_) (fun hc => ?_)
  · have h := jg_t h (show jg_wr z102 = 0 from hc)
    refine jg_A (pc' := 19) rfl rfl (fun _ _ _ => rfl) ?_
    exact jg_zret rfl rfl (by decide) h
  · have h := jg_f h (show ¬ (jg_wr z102 = 0) from hc)
    refine jg_A (pc' := 9) rfl rfl (fun _ _ _ => rfl) ?_
    refine jg_iflt (pc' := 12) rfl rfl (fun hc => ?_) (fun hc => ?_)
    · have h := jg_t h (show jg_wr x2 < 0 from hc)
      refine jg_A (pc' := 19) rfl rfl (fun _ _ _ => rfl) ?_
      exact jg_zret rfl rfl (by decide) h
    · have h := jg_f h (show ¬ (jg_wr x2 < 0) from hc)
      refine jg_A (pc' := 13) rfl rfl (fun _ _ _ => rfl) ?_
      refine jg_A (pc' := 15) rfl rfl (fun _ _ _ => rfl) ?_
      refine jg_clt (pc' := 18) rfl rfl (fun hc => ?_) (fun hc => ?_)
      · have h := jg_t h (show jg_wr x2 < 62 from hc)
        refine jg_A (pc' := 21) rfl rfl (fun _ _ _ => rfl) ?_
        refine jg_A (pc' := 23) rfl rfl (fun _ _ _ => rfl) ?_
        refine jg_imul (pc' := 24) rfl rfl ?_
        refine jg_A (pc' := 25) rfl rfl (fun _ _ _ => rfl) ?_
        refine jg_iadd (pc' := 26) rfl rfl ?_
        refine jg_nm (F := fun t103 => jg_G w 1 mm_X7_widen 26 [.ref a0, .int (.ofInt x1), .int (.ofInt x2), .int (.ofInt x3), mj_U] [.int (.ofInt t103)] m101 (jg_QI Q)) ((x1 * 62) + x2) (fun t103 ht103 => ?_)
        have h := h t103 ht103
        refine jg_A (pc' := 28) (ls' := [.ref a0, .int (.ofInt x1), .int (.ofInt x2), .int (.ofInt x3), .int (.ofInt t103)]) rfl rfl (fun _ _ _ => rfl) ?_
        refine jg_A (pc' := 29) rfl rfl (fun _ _ _ => rfl) ?_
        refine jg_getO (pc' := 32) (k := 5) rfl h0 (by decide) rfl rfl ?_
        refine jg_A (pc' := 34) rfl rfl (fun _ _ _ => rfl) ?_
        obtain ⟨hg, h⟩ := h
        refine jg_iald (pc' := 35) rfl (jg_sX7_5 h0) hg rfl ?_
        refine jg_A (pc' := 36) rfl rfl (fun _ _ _ => rfl) ?_
        refine jg_ior (pc' := 37) rfl rfl ?_
        refine jg_A (pc' := 38) rfl rfl (fun _ _ _ => rfl) ?_
        refine jg_getO (pc' := 41) (k := 5) rfl h0 (by decide) rfl rfl ?_
        refine jg_A (pc' := 43) rfl rfl (fun _ _ _ => rfl) ?_
        obtain ⟨hg, h⟩ := h
        refine jg_iald (pc' := 44) rfl (jg_sX7_5 h0) hg rfl ?_
        refine jg_cne (pc' := 47) rfl rfl (fun hc => ?_) (fun hc => ?_)
        · have h := jg_t h (show jg_wr (jg_or (m101.1 (a0 + 5) (jg_wr t103)) x3) = jg_wr (m101.1 (a0 + 5) (jg_wr t103)) from hc)
          refine jg_A (pc' := 48) rfl rfl (fun _ _ _ => rfl) ?_
          exact jg_zret rfl rfl (by decide) h
        · have h := jg_f h (show ¬ (jg_wr (jg_or (m101.1 (a0 + 5) (jg_wr t103)) x3) = jg_wr (m101.1 (a0 + 5) (jg_wr t103))) from hc)
          refine jg_A (pc' := 50) rfl rfl (fun _ _ _ => rfl) ?_
          refine jg_getO (pc' := 53) (k := 5) rfl h0 (by decide) rfl rfl ?_
          refine jg_A (pc' := 55) rfl rfl (fun _ _ _ => rfl) ?_
          refine jg_A (pc' := 56) rfl rfl (fun _ _ _ => rfl) ?_
          obtain ⟨hg, h⟩ := h
          refine jg_iald (pc' := 57) rfl (jg_sX7_5 h0) hg rfl ?_
          refine jg_A (pc' := 58) rfl rfl (fun _ _ _ => rfl) ?_
          refine jg_ior (pc' := 59) rfl rfl ?_
          obtain ⟨hg, h⟩ := h
          refine jg_iast (pc' := 60) rfl (jg_sX7_5 h0) hg rfl (fun m104 hm104 => ?_)
          have h := h m104 hm104
          refine jg_A (pc' := 61) rfl rfl (fun _ _ _ => rfl) ?_
          exact jg_zret rfl rfl (by decide) h
      · have h := jg_f h (show ¬ (jg_wr x2 < 62) from hc)
        refine jg_A (pc' := 19) rfl rfl (fun _ _ _ => rfl) ?_
        exact jg_zret rfl rfl (by decide) h
set_option maxRecDepth 100000 in
set_option maxHeartbeats 4000000 in
theorem jb_X8_make_0 {w : Nat} {a0 : Nat} {x1 : Int} {σ : jg_M} {Q : Int → jg_M → Prop} (h0 : jg_sh a0 = (8, 0)) (h : jg_CV w 3 mm_X0_settleEmpties [.ref (a0 + 1)] σ (fun (m101 : jg_M) => jg_CV w 3 mm_X0_settleFirsts [.ref (a0 + 1)] m101 (fun (m102 : jg_M) => jg_CV w 4 mm_X0_settleFollows [.ref (a0 + 1)] m102 (fun (m103 : jg_M) => jg_CV w 0 mm_J7_fill_53178 [.ref (a0 + 20), .int (.ofInt 0)] m103 (fun (m104 : jg_M) => jg_CV w 0 mm_J7_fill_53178 [.ref (a0 + 21), .int (.ofInt 0)] m104 (fun (m105 : jg_M) => jg_CV w 4 mm_X7_prepareItems [.ref (a0 + 10), .ref (a0 + 1)] m105 (fun (m106 : jg_M) => jg_CI w 2 mm_X7_make [.ref (a0 + 10), .ref (a0 + 1)] m106 (fun (z108 : Int) (m107 : jg_M) => (if jg_wr z108 = 0 then Q 0 m107 else jg_CV w 4 mm_X7_spread [.ref (a0 + 10), .int (.ofInt ((m107.1 (a0 + 1) 2) * 5)), .int (.ofInt (jg_shl 1 (m107.1 (a0 + 1) 0)))] m107 (fun (m109 : jg_M) => jg_GI w 5 mm_X8_make 91 [.ref a0, .int (.ofInt x1), .int (.ofInt 0), mj_U] m109 Q)))))))))) : jg_CI w 5 mm_X8_make [.ref a0, .int (.ofInt x1)] σ Q := by
  show jg_G w 5 mm_X8_make 0 [.ref a0, .int (.ofInt x1), mj_U, mj_U] [] σ (jg_QI Q)
  refine jg_A (pc' := 1) rfl rfl (fun _ _ _ => rfl) ?_
  refine jg_getO (pc' := 4) (k := 1) rfl h0 (by decide) rfl rfl ?_
  refine jg_calX (M1 := mm_X0_settleEmpties) (hy := 3) (pc' := 7) rfl jm_X0_settleEmpties (by decide) rfl (jg_sX8_0 h0) (by decide) ⟨Nat.le_of_ble_eq_true rfl, rfl⟩ (Nat.le_of_ble_eq_true rfl) rfl h (jg_kV (fun m101 h => ?_))
  refine jg_A (pc' := 8) rfl rfl (fun _ _ _ => rfl) ?_
  refine jg_getO (pc' := 11) (k := 1) rfl h0 (by decide) rfl rfl ?_
  refine jg_calX (M1 := mm_X0_settleFirsts) (hy := 3) (pc' := 14) rfl jm_X0_settleFirsts (by decide) rfl (jg_sX8_0 h0) (by decide) ⟨Nat.le_of_ble_eq_true rfl, rfl⟩ (Nat.le_of_ble_eq_true rfl) rfl h (jg_kV (fun m102 h => ?_))
  refine jg_A (pc' := 15) rfl rfl (fun _ _ _ => rfl) ?_
  refine jg_getO (pc' := 18) (k := 1) rfl h0 (by decide) rfl rfl ?_
  refine jg_calX (M1 := mm_X0_settleFollows) (hy := 4) (pc' := 21) rfl jm_X0_settleFollows (by decide) rfl (jg_sX8_0 h0) (by decide) ⟨Nat.le_of_ble_eq_true rfl, rfl⟩ (Nat.le_of_ble_eq_true rfl) rfl h (jg_kV (fun m103 h => ?_))
  refine jg_A (pc' := 22) rfl rfl (fun _ _ _ => rfl) ?_
  refine jg_getO (pc' := 25) (k := 20) rfl h0 (by decide) rfl rfl ?_
  refine jg_A (pc' := 26) rfl rfl (fun _ _ _ => rfl) ?_
  refine jg_calS (M1 := mm_J7_fill_53178) (hy := 0) (pc' := 29) rfl (Or.inl rfl) jm_J7_fill_53178 (by decide) rfl ⟨Nat.le_of_ble_eq_true rfl, rfl⟩ (Nat.le_of_ble_eq_true rfl) rfl h (jg_kV (fun m104 h => ?_))
  refine jg_A (pc' := 30) rfl rfl (fun _ _ _ => rfl) ?_
  refine jg_getO (pc' := 33) (k := 21) rfl h0 (by decide) rfl rfl ?_
  refine jg_A (pc' := 34) rfl rfl (fun _ _ _ => rfl) ?_
  refine jg_calS (M1 := mm_J7_fill_53178) (hy := 0) (pc' := 37) rfl (Or.inl rfl) jm_J7_fill_53178 (by decide) rfl ⟨Nat.le_of_ble_eq_true rfl, rfl⟩ (Nat.le_of_ble_eq_true rfl) rfl h (jg_kV (fun m105 h => ?_))
  refine jg_A (pc' := 38) rfl rfl (fun _ _ _ => rfl) ?_
  refine jg_getO (pc' := 41) (k := 10) rfl h0 (by decide) rfl rfl ?_
  refine jg_A (pc' := 42) rfl rfl (fun _ _ _ => rfl) ?_
  refine jg_getO (pc' := 45) (k := 1) rfl h0 (by decide) rfl rfl ?_
  refine jg_calX (M1 := mm_X7_prepareItems) (hy := 4) (pc' := 48) rfl jm_X7_prepareItems (by decide) rfl (jg_sX8_1 h0) (by decide) ⟨Nat.le_of_ble_eq_true rfl, rfl⟩ (Nat.le_of_ble_eq_true rfl) rfl h (jg_kV (fun m106 h => ?_))
  refine jg_A (pc' := 49) rfl rfl (fun _ _ _ => rfl) ?_
  refine jg_getO (pc' := 52) (k := 10) rfl h0 (by decide) rfl rfl ?_
  refine jg_A (pc' := 53) rfl rfl (fun _ _ _ => rfl) ?_
  refine jg_getO (pc' := 56) (k := 1) rfl h0 (by decide) rfl rfl ?_
  refine jg_calX (M1 := mm_X7_make) (hy := 2) (pc' := 59) rfl jm_X7_make (by decide) rfl (jg_sX8_1 h0) (by decide) ⟨Nat.le_of_ble_eq_true rfl, rfl⟩ (Nat.le_of_ble_eq_true rfl) rfl h (jg_kI (fun z108 m107 h => ?_))
  refine jg_ifne (pc' := 62) rfl rfl (fun hc => ?_) (fun hc => ?_)
  · have h := jg_t h (show jg_wr z108 = 0 from hc)
    refine jg_A (pc' := 63) rfl rfl (fun _ _ _ => rfl) ?_
    exact jg_zret rfl rfl (by decide) h
  · have h := jg_f h (show ¬ (jg_wr z108 = 0) from hc)
    refine jg_A (pc' := 65) rfl rfl (fun _ _ _ => rfl) ?_
    refine jg_getO (pc' := 68) (k := 10) rfl h0 (by decide) rfl rfl ?_
    refine jg_A (pc' := 69) rfl rfl (fun _ _ _ => rfl) ?_
    refine jg_getO (pc' := 72) (k := 1) rfl h0 (by decide) rfl rfl ?_
    refine jg_getI (pc' := 75) (bi := 2) rfl (jg_sX8_0 h0) (by decide) (Or.inl rfl) rfl rfl ?_
    refine jg_A (pc' := 76) rfl rfl (fun _ _ _ => rfl) ?_
    refine jg_imul (pc' := 77) rfl rfl ?_
    refine jg_A (pc' := 78) rfl rfl (fun _ _ _ => rfl) ?_
    refine jg_A (pc' := 79) rfl rfl (fun _ _ _ => rfl) ?_
    refine jg_getO (pc' := 82) (k := 1) rfl h0 (by decide) rfl rfl ?_
    refine jg_getI (pc' := 85) (bi := 0) rfl (jg_sX8_0 h0) (by decide) (Or.inl rfl) rfl rfl ?_
    refine jg_ishl (pc' := 86) rfl rfl ?_
    refine jg_calX (M1 := mm_X7_spread) (hy := 4) (pc' := 89) rfl jm_X7_spread (by decide) rfl (jg_sX8_1 h0) (by decide) ⟨Nat.le_of_ble_eq_true rfl, rfl⟩ (Nat.le_of_ble_eq_true rfl) rfl h (jg_kV (fun m109 h => ?_))
    refine jg_A (pc' := 90) rfl rfl (fun _ _ _ => rfl) ?_
    refine jg_A (pc' := 91) (ls' := [.ref a0, .int (.ofInt x1), .int (.ofInt 0), mj_U]) rfl rfl (fun _ _ _ => rfl) ?_
    exact h
set_option maxRecDepth 100000 in
set_option maxHeartbeats 4000000 in
theorem jb_X8_make_91 {w : Nat} {a0 : Nat} {x1 : Int} {x2 : Int} {u3 : Value} {σ : jg_M} {Q : Int → jg_M → Prop} (h0 : jg_sh a0 = (8, 0)) (h : (if jg_wr (σ.1 (a0 + 10) 0) ≤ jg_wr x2 then Q 1 σ else jg_CV w 2 mm_X8_gatherReduces [.ref a0, .int (.ofInt x2), .int (.ofInt x1)] σ (fun (m101 : jg_M) => jg_GI w 5 mm_X8_make 110 [.ref a0, .int (.ofInt x1), .int (.ofInt x2), .int (.ofInt 0)] m101 Q))) : jg_GI w 5 mm_X8_make 91 [.ref a0, .int (.ofInt x1), .int (.ofInt x2), u3] σ Q := by
  show jg_G w 5 mm_X8_make 91 [.ref a0, .int (.ofInt x1), .int (.ofInt x2), u3] [] σ (jg_QI Q)
  refine jg_A (pc' := 92) rfl rfl (fun _ _ _ => rfl) ?_
  refine jg_A (pc' := 93) rfl rfl (fun _ _ _ => rfl) ?_
  refine jg_getO (pc' := 96) (k := 10) rfl h0 (by decide) rfl rfl ?_
  refine jg_getI (pc' := 99) (bi := 0) rfl (jg_sX8_1 h0) (by decide) (Or.inl rfl) rfl rfl ?_
  refine jg_cge (pc' := 102) rfl rfl (fun hc => ?_) (fun hc => ?_)
  · have h := jg_t h (show jg_wr (σ.1 (a0 + 10) 0) ≤ jg_wr x2 from hc)
    refine jg_A (pc' := 140) rfl rfl (fun _ _ _ => rfl) ?_
    exact jg_zret rfl rfl (by decide) h
  · have h := jg_f h (show ¬ (jg_wr (σ.1 (a0 + 10) 0) ≤ jg_wr x2) from hc)
    refine jg_A (pc' := 103) rfl rfl (fun _ _ _ => rfl) ?_
    refine jg_A (pc' := 104) rfl rfl (fun _ _ _ => rfl) ?_
    refine jg_A (pc' := 105) rfl rfl (fun _ _ _ => rfl) ?_
    refine jg_calX (M1 := mm_X8_gatherReduces) (hy := 2) (pc' := 108) rfl jm_X8_gatherReduces (by decide) rfl h0 (by decide) ⟨Nat.le_of_ble_eq_true rfl, rfl⟩ (Nat.le_of_ble_eq_true rfl) rfl h (jg_kV (fun m101 h => ?_))
    refine jg_A (pc' := 109) rfl rfl (fun _ _ _ => rfl) ?_
    refine jg_A (pc' := 110) (ls' := [.ref a0, .int (.ofInt x1), .int (.ofInt x2), .int (.ofInt 0)]) rfl rfl (fun _ _ _ => rfl) ?_
    exact h
set_option maxRecDepth 100000 in
set_option maxHeartbeats 4000000 in
theorem jb_X8_make_110 {w : Nat} {a0 : Nat} {x1 : Int} {x2 : Int} {x3 : Int} {σ : jg_M} {Q : Int → jg_M → Prop} (h0 : jg_sh a0 = (8, 0)) (h : (if jg_wr (σ.1 (a0 + 1) 0) < jg_wr x3 then jg_GI w 5 mm_X8_make 91 [.ref a0, .int (.ofInt x1), .int (.ofInt (x2 + 1)), .int (.ofInt x3)] σ Q else jg_CV w 3 mm_X8_decide [.ref a0, .int (.ofInt x2), .int (.ofInt x3)] σ (fun (m101 : jg_M) => jg_GI w 5 mm_X8_make 110 [.ref a0, .int (.ofInt x1), .int (.ofInt x2), .int (.ofInt (x3 + 1))] m101 Q))) : jg_GI w 5 mm_X8_make 110 [.ref a0, .int (.ofInt x1), .int (.ofInt x2), .int (.ofInt x3)] σ Q := by
  show jg_G w 5 mm_X8_make 110 [.ref a0, .int (.ofInt x1), .int (.ofInt x2), .int (.ofInt x3)] [] σ (jg_QI Q)
  refine jg_A (pc' := 111) rfl rfl (fun _ _ _ => rfl) ?_
  refine jg_A (pc' := 112) rfl rfl (fun _ _ _ => rfl) ?_
  refine jg_getO (pc' := 115) (k := 1) rfl h0 (by decide) rfl rfl ?_
  refine jg_getI (pc' := 118) (bi := 0) rfl (jg_sX8_0 h0) (by decide) (Or.inl rfl) rfl rfl ?_
  refine jg_cgt (pc' := 121) rfl rfl (fun hc => ?_) (fun hc => ?_)
  · have h := jg_t h (show jg_wr (σ.1 (a0 + 1) 0) < jg_wr x3 from hc)
    refine jg_iinc (pc' := 136) (ls' := [.ref a0, .int (.ofInt x1), .int (.ofInt (x2 + 1)), .int (.ofInt x3)]) rfl rfl rfl rfl ?_
    refine jg_goto rfl ?_
    exact h
  · have h := jg_f h (show ¬ (jg_wr (σ.1 (a0 + 1) 0) < jg_wr x3) from hc)
    refine jg_A (pc' := 122) rfl rfl (fun _ _ _ => rfl) ?_
    refine jg_A (pc' := 123) rfl rfl (fun _ _ _ => rfl) ?_
    refine jg_A (pc' := 124) rfl rfl (fun _ _ _ => rfl) ?_
    refine jg_calX (M1 := mm_X8_decide) (hy := 3) (pc' := 127) rfl jm_X8_decide (by decide) rfl h0 (by decide) ⟨Nat.le_of_ble_eq_true rfl, rfl⟩ (Nat.le_of_ble_eq_true rfl) rfl h (jg_kV (fun m101 h => ?_))
    refine jg_iinc (pc' := 130) (ls' := [.ref a0, .int (.ofInt x1), .int (.ofInt x2), .int (.ofInt (x3 + 1))]) rfl rfl rfl rfl ?_
    refine jg_goto rfl ?_
    exact h
set_option maxRecDepth 100000 in
set_option maxHeartbeats 4000000 in
theorem jb_X8_gatherReduces_0 {w : Nat} {a0 : Nat} {x1 : Int} {x2 : Int} {σ : jg_M} {Q : jg_M → Prop} (h0 : jg_sh a0 = (8, 0)) (h : jg_GV w 2 mm_X8_gatherReduces 2 [.ref a0, .int (.ofInt x1), .int (.ofInt x2), .int (.ofInt 0), mj_U, mj_U, mj_U] σ Q) : jg_CV w 2 mm_X8_gatherReduces [.ref a0, .int (.ofInt x1), .int (.ofInt x2)] σ Q := by
  show jg_G w 2 mm_X8_gatherReduces 0 [.ref a0, .int (.ofInt x1), .int (.ofInt x2), mj_U, mj_U, mj_U, mj_U] [] σ (jg_QV Q)
  refine jg_A (pc' := 1) rfl rfl (fun _ _ _ => rfl) ?_
  refine jg_A (pc' := 2) (ls' := [.ref a0, .int (.ofInt x1), .int (.ofInt x2), .int (.ofInt 0), mj_U, mj_U, mj_U]) rfl rfl (fun _ _ _ => rfl) ?_
  exact h
