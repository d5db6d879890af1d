/-! LIFTED METHODS, 6: from a method's entry, and from each loop's head, what must hold for its run to end with Q (printed by wip/whole/gen/gen18.py) -/
set_option maxRecDepth 100000 in
set_option maxHeartbeats 4000000 in
theorem jb_X12_isMade_7 {w : Nat} {a0 : Nat} {x1 : Int} {x2 : Int} {u3 : Value} {σ : jg_M} {Q : Int → jg_M → Prop} (h0 : jg_sh a0 = (12, 0)) (h : jg_CI w 0 mm_X12_longOf [.ref a0, .int (.ofInt x1)] σ (fun (z102 : Int) (m101 : jg_M) => (if jg_wr z102 ≤ jg_wr x2 then (if jg_wr 40 < jg_wr (m101.1 a0 48) then Q 0 m101 else Q 1 m101) else jg_CI w 0 mm_X12_moveBy [.ref a0, .int (.ofInt x1), .int (.ofInt x2)] m101 (fun (z104 : Int) (m103 : jg_M) => (if jg_wr z104 < jg_wr 7 then (if jg_wr z104 < jg_wr 7 then (0 ≤ (jg_wr (m103.1 a0 48)) ∧ (jg_wr (m103.1 a0 48)) < 204) ∧ ∀ m105 : jg_M, m105 = jg_sI m103 (a0 + 33) (jg_wr (m103.1 a0 48)) z104 → ∀ m106 : jg_M, m106 = jg_sI m105 a0 48 ((m105.1 a0 48) + 1) → jg_GI w 1 mm_X12_isMade 7 [.ref a0, .int (.ofInt x1), .int (.ofInt (x2 + 1)), .int (.ofInt z104)] m106 Q else jg_CV w 0 mm_X12_addRow [.ref a0, .int (.ofInt (z104 - 7))] m103 (fun (m107 : jg_M) => jg_GI w 1 mm_X12_isMade 7 [.ref a0, .int (.ofInt x1), .int (.ofInt (x2 + 1)), .int (.ofInt z104)] m107 Q)) else (0 ≤ jg_wr (z104 - 7) ∧ jg_wr (z104 - 7) < 5) ∧ (if 0 ≤ jg_wr (m103.1 (a0 + 29) (jg_wr (z104 - 7))) then (if jg_wr z104 < jg_wr 7 then (0 ≤ (jg_wr (m103.1 a0 48)) ∧ (jg_wr (m103.1 a0 48)) < 204) ∧ ∀ m108 : jg_M, m108 = jg_sI m103 (a0 + 33) (jg_wr (m103.1 a0 48)) z104 → ∀ m109 : jg_M, m109 = jg_sI m108 a0 48 ((m108.1 a0 48) + 1) → jg_GI w 1 mm_X12_isMade 7 [.ref a0, .int (.ofInt x1), .int (.ofInt (x2 + 1)), .int (.ofInt z104)] m109 Q else jg_CV w 0 mm_X12_addRow [.ref a0, .int (.ofInt (z104 - 7))] m103 (fun (m110 : jg_M) => jg_GI w 1 mm_X12_isMade 7 [.ref a0, .int (.ofInt x1), .int (.ofInt (x2 + 1)), .int (.ofInt z104)] m110 Q)) else Q 0 m103)))))) : jg_GI w 1 mm_X12_isMade 7 [.ref a0, .int (.ofInt x1), .int (.ofInt x2), u3] σ Q := by
  show jg_G w 1 mm_X12_isMade 7 [.ref a0, .int (.ofInt x1), .int (.ofInt x2), u3] [] σ (jg_QI Q)
  refine jg_A (pc' := 8) rfl rfl (fun _ _ _ => rfl) ?_
  refine jg_A (pc' := 9) rfl rfl (fun _ _ _ => rfl) ?_
  refine jg_A (pc' := 10) rfl rfl (fun _ _ _ => rfl) ?_
  refine jg_calX (M1 := mm_X12_longOf) (hy := 0) (pc' := 13) rfl jm_X12_longOf (by decide) rfl h0 (by decide) ⟨Nat.le_of_ble_eq_true rfl, rfl⟩ (Nat.le_of_ble_eq_true rfl) rfl h (jg_kI (fun z102 m101 h => ?_))
  refine jg_cge (pc' := 16) rfl rfl (fun hc => ?_) (fun hc => ?_)
  · have h := jg_t h hc
    refine jg_A (pc' := 87) rfl rfl (fun _ _ _ => rfl) ?_
    refine jg_getI (pc' := 90) (bi := 48) rfl h0 (by decide) (Or.inl rfl) rfl rfl ?_
    refine jg_A (pc' := 92) rfl rfl (fun _ _ _ => rfl) ?_
    refine jg_cgt (pc' := 95) rfl rfl (fun hc => ?_) (fun hc => ?_)
    · have h := jg_t h hc
      refine jg_A (pc' := 100) rfl rfl (fun _ _ _ => rfl) ?_
      exact jg_zret rfl rfl (by decide) h
    · have h := jg_f h hc
      refine jg_A (pc' := 96) rfl rfl (fun _ _ _ => rfl) ?_
      refine jg_goto rfl ?_
      exact jg_zret rfl rfl (by decide) h
  · have h := jg_f h hc
    refine jg_A (pc' := 17) rfl rfl (fun _ _ _ => rfl) ?_
    refine jg_A (pc' := 18) rfl rfl (fun _ _ _ => rfl) ?_
    refine jg_A (pc' := 19) rfl rfl (fun _ _ _ => rfl) ?_
    refine jg_calX (M1 := mm_X12_moveBy) (hy := 0) (pc' := 22) rfl jm_X12_moveBy (by decide) rfl h0 (by decide) ⟨Nat.le_of_ble_eq_true rfl, rfl⟩ (Nat.le_of_ble_eq_true rfl) rfl h (jg_kI (fun z104 m103 h => ?_))
    refine jg_A (pc' := 23) (ls' := [.ref a0, .int (.ofInt x1), .int (.ofInt x2), .int (.ofInt z104)]) rfl rfl (fun _ _ _ => rfl) ?_
    refine jg_A (pc' := 24) rfl rfl (fun _ _ _ => rfl) ?_
    refine jg_A (pc' := 26) rfl rfl (fun _ _ _ => rfl) ?_
    refine jg_clt (pc' := 29) rfl rfl (fun hc => ?_) (fun hc => ?_)
    · have h := jg_t h hc
      refine jg_A (pc' := 44) rfl rfl (fun _ _ _ => rfl) ?_
      refine jg_A (pc' := 46) rfl rfl (fun _ _ _ => rfl) ?_
      refine jg_clt (pc' := 49) rfl rfl (fun hc => ?_) (fun hc => ?_)
      · have h := jg_t h hc
        refine jg_A (pc' := 61) rfl rfl (fun _ _ _ => rfl) ?_
        refine jg_getO (pc' := 64) (k := 33) rfl h0 (by decide) rfl rfl ?_
        refine jg_A (pc' := 65) rfl rfl (fun _ _ _ => rfl) ?_
        refine jg_getI (pc' := 68) (bi := 48) rfl h0 (by decide) (Or.inl rfl) rfl rfl ?_
        refine jg_A (pc' := 69) rfl rfl (fun _ _ _ => rfl) ?_
        obtain ⟨hg, h⟩ := h
        refine jg_iast (pc' := 70) rfl (jg_sX12_47 h0) hg rfl (fun m105 hm105 => ?_)
        have h := h m105 hm105
        refine jg_A (pc' := 71) rfl rfl (fun _ _ _ => rfl) ?_
        refine jg_A (pc' := 72) rfl rfl (fun _ _ _ => rfl) ?_
        refine jg_getI (pc' := 75) (bi := 48) rfl h0 (by decide) (Or.inl rfl) rfl rfl ?_
        refine jg_A (pc' := 76) rfl rfl (fun _ _ _ => rfl) ?_
        refine jg_iadd (pc' := 77) rfl rfl ?_
        refine jg_putI (pc' := 80) (bi := 48) rfl h0 (by decide) rfl rfl rfl rfl (fun m106 hm106 => ?_)
        have h := h m106 hm106
        refine jg_iinc (pc' := 83) (ls' := [.ref a0, .int (.ofInt x1), .int (.ofInt (x2 + 1)), .int (.ofInt z104)]) rfl rfl rfl rfl ?_
        refine jg_goto rfl ?_
        exact h
      · have h := jg_f h hc
        refine jg_A (pc' := 50) rfl rfl (fun _ _ _ => rfl) ?_
        refine jg_A (pc' := 51) rfl rfl (fun _ _ _ => rfl) ?_
        refine jg_A (pc' := 53) rfl rfl (fun _ _ _ => rfl) ?_
        refine jg_isub (pc' := 54) rfl rfl ?_
        refine jg_calX (M1 := mm_X12_addRow) (hy := 0) (pc' := 57) rfl jm_X12_addRow (by decide) rfl h0 (by decide) ⟨Nat.le_of_ble_eq_true rfl, rfl⟩ (Nat.le_of_ble_eq_true rfl) rfl h (jg_kV (fun m107 h => ?_))
        refine jg_goto rfl ?_
        refine jg_iinc (pc' := 83) (ls' := [.ref a0, .int (.ofInt x1), .int (.ofInt (x2 + 1)), .int (.ofInt z104)]) rfl rfl rfl rfl ?_
        refine jg_goto rfl ?_
        exact h
    · have h := jg_f h hc
      refine jg_A (pc' := 30) rfl rfl (fun _ _ _ => rfl) ?_
      refine jg_getO (pc' := 33) (k := 29) rfl h0 (by decide) rfl rfl ?_
      refine jg_A (pc' := 34) rfl rfl (fun _ _ _ => rfl) ?_
      refine jg_A (pc' := 36) rfl rfl (fun _ _ _ => rfl) ?_
      refine jg_isub (pc' := 37) rfl rfl ?_
      obtain ⟨hg, h⟩ := h
      refine jg_iald (pc' := 38) rfl (jg_sX12_43 h0) hg rfl ?_
      refine jg_ifge (pc' := 41) rfl rfl (fun hc => ?_) (fun hc => ?_)
      · have h := jg_t h hc
        refine jg_A (pc' := 44) rfl rfl (fun _ _ _ => rfl) ?_
        refine jg_A (pc' := 46) rfl rfl (fun _ _ _ => rfl) ?_
        refine jg_clt (pc' := 49) rfl rfl (fun hc => ?_) (fun hc => ?_)
        · have h := jg_t h hc
          refine jg_A (pc' := 61) rfl rfl (fun _ _ _ => rfl) ?_
          refine jg_getO (pc' := 64) (k := 33) rfl h0 (by decide) rfl rfl ?_
          refine jg_A (pc' := 65) rfl rfl (fun _ _ _ => rfl) ?_
          refine jg_getI (pc' := 68) (bi := 48) rfl h0 (by decide) (Or.inl rfl) rfl rfl ?_
          refine jg_A (pc' := 69) rfl rfl (fun _ _ _ => rfl) ?_
          obtain ⟨hg, h⟩ := h
          refine jg_iast (pc' := 70) rfl (jg_sX12_47 h0) hg rfl (fun m108 hm108 => ?_)
          have h := h m108 hm108
          refine jg_A (pc' := 71) rfl rfl (fun _ _ _ => rfl) ?_
          refine jg_A (pc' := 72) rfl rfl (fun _ _ _ => rfl) ?_
          refine jg_getI (pc' := 75) (bi := 48) rfl h0 (by decide) (Or.inl rfl) rfl rfl ?_
          refine jg_A (pc' := 76) rfl rfl (fun _ _ _ => rfl) ?_
          refine jg_iadd (pc' := 77) rfl rfl ?_
          refine jg_putI (pc' := 80) (bi := 48) rfl h0 (by decide) rfl rfl rfl rfl (fun m109 hm109 => ?_)
          have h := h m109 hm109
          refine jg_iinc (pc' := 83) (ls' := [.ref a0, .int (.ofInt x1), .int (.ofInt (x2 + 1)), .int (.ofInt z104)]) rfl rfl rfl rfl ?_
          refine jg_goto rfl ?_
          exact h
        · have h := jg_f h hc
          refine jg_A (pc' := 50) rfl rfl (fun _ _ _ => rfl) ?_
          refine jg_A (pc' := 51) rfl rfl (fun _ _ _ => rfl) ?_
          refine jg_A (pc' := 53) rfl rfl (fun _ _ _ => rfl) ?_
          refine jg_isub (pc' := 54) rfl rfl ?_
          refine jg_calX (M1 := mm_X12_addRow) (hy := 0) (pc' := 57) rfl jm_X12_addRow (by decide) rfl h0 (by decide) ⟨Nat.le_of_ble_eq_true rfl, rfl⟩ (Nat.le_of_ble_eq_true rfl) rfl h (jg_kV (fun m110 h => ?_))
          refine jg_goto rfl ?_
          refine jg_iinc (pc' := 83) (ls' := [.ref a0, .int (.ofInt x1), .int (.ofInt (x2 + 1)), .int (.ofInt z104)]) rfl rfl rfl rfl ?_
          refine jg_goto rfl ?_
          exact h
      · have h := jg_f h hc
        refine jg_A (pc' := 42) rfl rfl (fun _ _ _ => rfl) ?_
        exact jg_zret rfl rfl (by decide) h
set_option maxRecDepth 100000 in
set_option maxHeartbeats 4000000 in
theorem jb_X12_layShortest_0 {w : Nat} {a0 : Nat} {σ : jg_M} {Q : jg_M → Prop} (h0 : jg_sh a0 = (12, 0)) (h : jg_GV w 3 mm_X12_layShortest 2 [.ref a0, .int (.ofInt 0), mj_U, mj_U, mj_U] σ Q) : jg_CV w 3 mm_X12_layShortest [.ref a0] σ Q := by
  show jg_G w 3 mm_X12_layShortest 0 [.ref a0, mj_U, mj_U, mj_U, mj_U] [] σ (jg_QV Q)
  refine jg_A (pc' := 1) rfl rfl (fun _ _ _ => rfl) ?_
  refine jg_A (pc' := 2) (ls' := [.ref a0, .int (.ofInt 0), mj_U, mj_U, mj_U]) rfl rfl (fun _ _ _ => rfl) ?_
  exact h
set_option maxRecDepth 100000 in
set_option maxHeartbeats 4000000 in
theorem jb_X12_layShortest_2 {w : Nat} {a0 : Nat} {x1 : Int} {u2 : Value} {u3 : Value} {u4 : Value} {σ : jg_M} {Q : jg_M → Prop} (h0 : jg_sh a0 = (12, 0)) (h : (if jg_wr 5 ≤ jg_wr x1 then jg_GV w 3 mm_X12_layShortest 22 [.ref a0, .int (.ofInt 1), u2, u3, u4] σ Q else (0 ≤ (jg_wr x1) ∧ (jg_wr x1) < 5) ∧ ∀ m101 : jg_M, m101 = jg_sI σ (a0 + 29) (jg_wr x1) (-1) → jg_GV w 3 mm_X12_layShortest 2 [.ref a0, .int (.ofInt (x1 + 1)), u2, u3, u4] m101 Q)) : jg_GV w 3 mm_X12_layShortest 2 [.ref a0, .int (.ofInt x1), u2, u3, u4] σ Q := by
  show jg_G w 3 mm_X12_layShortest 2 [.ref a0, .int (.ofInt x1), u2, u3, u4] [] σ (jg_QV Q)
  refine jg_A (pc' := 3) rfl rfl (fun _ _ _ => rfl) ?_
  refine jg_A (pc' := 4) rfl rfl (fun _ _ _ => rfl) ?_
  refine jg_cge (pc' := 7) rfl rfl (fun hc => ?_) (fun hc => ?_)
  · have h := jg_t h hc
    refine jg_A (pc' := 21) rfl rfl (fun _ _ _ => rfl) ?_
    refine jg_A (pc' := 22) (ls' := [.ref a0, .int (.ofInt 1), u2, u3, u4]) rfl rfl (fun _ _ _ => rfl) ?_
    exact h
  · have h := jg_f h hc
    refine jg_A (pc' := 8) rfl rfl (fun _ _ _ => rfl) ?_
    refine jg_getO (pc' := 11) (k := 29) rfl h0 (by decide) rfl rfl ?_
    refine jg_A (pc' := 12) rfl rfl (fun _ _ _ => rfl) ?_
    refine jg_A (pc' := 13) rfl rfl (fun _ _ _ => rfl) ?_
    obtain ⟨hg, h⟩ := h
    refine jg_iast (pc' := 14) rfl (jg_sX12_43 h0) hg rfl (fun m101 hm101 => ?_)
    have h := h m101 hm101
    refine jg_iinc (pc' := 17) (ls' := [.ref a0, .int (.ofInt (x1 + 1)), u2, u3, u4]) rfl rfl rfl rfl ?_
    refine jg_goto rfl ?_
    exact h
set_option maxRecDepth 100000 in
set_option maxHeartbeats 4000000 in
theorem jb_X12_layShortest_22 {w : Nat} {a0 : Nat} {x1 : Int} {u2 : Value} {u3 : Value} {u4 : Value} {σ : jg_M} {Q : jg_M → Prop} (h0 : jg_sh a0 = (12, 0)) (h : (if jg_wr x1 = 0 then jg_CV w 2 mm_X12_layWays [.ref a0] σ (fun (m101 : jg_M) => Q m101) else jg_GV w 3 mm_X12_layShortest 30 [.ref a0, .int (.ofInt 0), .int (.ofInt 0), u3, u4] σ Q)) : jg_GV w 3 mm_X12_layShortest 22 [.ref a0, .int (.ofInt x1), u2, u3, u4] σ Q := by
  show jg_G w 3 mm_X12_layShortest 22 [.ref a0, .int (.ofInt x1), u2, u3, u4] [] σ (jg_QV Q)
  refine jg_A (pc' := 23) rfl rfl (fun _ _ _ => rfl) ?_
  refine jg_ifeq (pc' := 26) rfl rfl (fun hc => ?_) (fun hc => ?_)
  · have h := jg_t h hc
    refine jg_A (pc' := 138) rfl rfl (fun _ _ _ => rfl) ?_
    refine jg_calX (M1 := mm_X12_layWays) (hy := 2) (pc' := 141) rfl jm_X12_layWays (by decide) rfl h0 (by decide) ⟨Nat.le_of_ble_eq_true rfl, rfl⟩ (Nat.le_of_ble_eq_true rfl) rfl h (jg_kV (fun m101 h => ?_))
    exact jg_vret rfl rfl h
  · have h := jg_f h hc
    refine jg_A (pc' := 27) rfl rfl (fun _ _ _ => rfl) ?_
    refine jg_A (pc' := 28) (ls' := [.ref a0, .int (.ofInt 0), u2, u3, u4]) rfl rfl (fun _ _ _ => rfl) ?_
    refine jg_A (pc' := 29) rfl rfl (fun _ _ _ => rfl) ?_
    refine jg_A (pc' := 30) (ls' := [.ref a0, .int (.ofInt 0), .int (.ofInt 0), u3, u4]) rfl rfl (fun _ _ _ => rfl) ?_
    exact h
set_option maxRecDepth 100000 in
set_option maxHeartbeats 4000000 in
theorem jb_X12_layShortest_30 {w : Nat} {a0 : Nat} {x1 : Int} {x2 : Int} {u3 : Value} {u4 : Value} {σ : jg_M} {Q : jg_M → Prop} (h0 : jg_sh a0 = (12, 0)) (h : (if jg_wr (σ.1 (a0 + 5) (0)) ≤ jg_wr x2 then jg_GV w 3 mm_X12_layShortest 22 [.ref a0, .int (.ofInt x1), .int (.ofInt x2), u3, u4] σ Q else (0 ≤ jg_wr x2 ∧ jg_wr x2 < 26) ∧ ∀ t101 : Int, t101 = (σ.1 (a0 + 10) (jg_wr x2)) → jg_CI w 1 mm_X12_isMade [.ref a0, .int (.ofInt x2)] σ (fun (z103 : Int) (m102 : jg_M) => (if jg_wr z103 = 0 then jg_GV w 3 mm_X12_layShortest 30 [.ref a0, .int (.ofInt x1), .int (.ofInt (x2 + 1)), .int (.ofInt t101), u4] m102 Q else (0 ≤ jg_wr t101 ∧ jg_wr t101 < 5) ∧ jg_CI w 0 mm_X12_isAhead [.ref a0, .ref (a0 + 30), .int (.ofInt (40 * t101)), .int (.ofInt (m102.1 (a0 + 29) (jg_wr t101)))] m102 (fun (z105 : Int) (m104 : jg_M) => (if jg_wr z105 = 0 then jg_GV w 3 mm_X12_layShortest 30 [.ref a0, .int (.ofInt x1), .int (.ofInt (x2 + 1)), .int (.ofInt t101), u4] m104 Q else jg_GV w 3 mm_X12_layShortest 82 [.ref a0, .int (.ofInt x1), .int (.ofInt x2), .int (.ofInt t101), .int (.ofInt 0)] m104 Q)))))) : jg_GV w 3 mm_X12_layShortest 30 [.ref a0, .int (.ofInt x1), .int (.ofInt x2), u3, u4] σ Q := by
  show jg_G w 3 mm_X12_layShortest 30 [.ref a0, .int (.ofInt x1), .int (.ofInt x2), u3, u4] [] σ (jg_QV Q)
  refine jg_A (pc' := 31) rfl rfl (fun _ _ _ => rfl) ?_
  refine jg_A (pc' := 32) rfl rfl (fun _ _ _ => rfl) ?_
  refine jg_getO (pc' := 35) (k := 5) rfl h0 (by decide) rfl rfl ?_
  refine jg_A (pc' := 36) rfl rfl (fun _ _ _ => rfl) ?_
  refine jg_ialdK (pc' := 37) (xi := 0) rfl (jg_sX12_14 h0) (by decide) (by decide) rfl ?_
  refine jg_cge (pc' := 40) rfl rfl (fun hc => ?_) (fun hc => ?_)
  · have h := jg_t h hc
    refine jg_goto rfl ?_
    exact h
  · have h := jg_f h hc
    refine jg_A (pc' := 41) rfl rfl (fun _ _ _ => rfl) ?_
    refine jg_getO (pc' := 44) (k := 10) rfl h0 (by decide) rfl rfl ?_
    refine jg_A (pc' := 45) rfl rfl (fun _ _ _ => rfl) ?_
    obtain ⟨hg, h⟩ := h
    refine jg_iald (pc' := 46) rfl (jg_sX12_19 h0) hg rfl ?_
    refine jg_nm (F := fun t101 => jg_G w 3 mm_X12_layShortest 46 [.ref a0, .int (.ofInt x1), .int (.ofInt x2), u3, u4] [.int (.ofInt t101)] σ (jg_QV Q)) (σ.1 (a0 + 10) (jg_wr x2)) (fun t101 ht101 => ?_)
    have h := h t101 ht101
    refine jg_A (pc' := 47) (ls' := [.ref a0, .int (.ofInt x1), .int (.ofInt x2), .int (.ofInt t101), u4]) rfl rfl (fun _ _ _ => rfl) ?_
    refine jg_A (pc' := 48) rfl rfl (fun _ _ _ => rfl) ?_
    refine jg_A (pc' := 49) rfl rfl (fun _ _ _ => rfl) ?_
    refine jg_calX (M1 := mm_X12_isMade) (hy := 1) (pc' := 52) rfl jm_X12_isMade (by decide) rfl h0 (by decide) ⟨Nat.le_of_ble_eq_true rfl, rfl⟩ (Nat.le_of_ble_eq_true rfl) rfl h (jg_kI (fun z103 m102 h => ?_))
    refine jg_ifeq (pc' := 55) rfl rfl (fun hc => ?_) (fun hc => ?_)
    · have h := jg_t h hc
      refine jg_iinc (pc' := 131) (ls' := [.ref a0, .int (.ofInt x1), .int (.ofInt (x2 + 1)), .int (.ofInt t101), u4]) rfl rfl rfl rfl ?_
      refine jg_goto rfl ?_
      exact h
    · have h := jg_f h hc
      refine jg_A (pc' := 56) rfl rfl (fun _ _ _ => rfl) ?_
      refine jg_A (pc' := 57) rfl rfl (fun _ _ _ => rfl) ?_
      refine jg_getO (pc' := 60) (k := 30) rfl h0 (by decide) rfl rfl ?_
      refine jg_A (pc' := 62) rfl rfl (fun _ _ _ => rfl) ?_
      refine jg_A (pc' := 63) rfl rfl (fun _ _ _ => rfl) ?_
      refine jg_imul (pc' := 64) rfl rfl ?_
      refine jg_A (pc' := 65) rfl rfl (fun _ _ _ => rfl) ?_
      refine jg_getO (pc' := 68) (k := 29) rfl h0 (by decide) rfl rfl ?_
      refine jg_A (pc' := 69) rfl rfl (fun _ _ _ => rfl) ?_
      obtain ⟨hg, h⟩ := h
      refine jg_iald (pc' := 70) rfl (jg_sX12_43 h0) hg rfl ?_
      refine jg_calX (M1 := mm_X12_isAhead) (hy := 0) (pc' := 73) rfl jm_X12_isAhead (by decide) rfl h0 (by decide) ⟨Nat.le_of_ble_eq_true rfl, rfl⟩ (Nat.le_of_ble_eq_true rfl) rfl h (jg_kI (fun z105 m104 h => ?_))
      refine jg_ifne (pc' := 76) rfl rfl (fun hc => ?_) (fun hc => ?_)
      · have h := jg_t h hc
        refine jg_goto rfl ?_
        refine jg_iinc (pc' := 131) (ls' := [.ref a0, .int (.ofInt x1), .int (.ofInt (x2 + 1)), .int (.ofInt t101), u4]) rfl rfl rfl rfl ?_
        refine jg_goto rfl ?_
        exact h
      · have h := jg_f h hc
        refine jg_A (pc' := 80) rfl rfl (fun _ _ _ => rfl) ?_
        refine jg_A (pc' := 82) (ls' := [.ref a0, .int (.ofInt x1), .int (.ofInt x2), .int (.ofInt t101), .int (.ofInt 0)]) rfl rfl (fun _ _ _ => rfl) ?_
        exact h
set_option maxRecDepth 100000 in
set_option maxHeartbeats 4000000 in
theorem jb_X12_layShortest_82 {w : Nat} {a0 : Nat} {u1 : Value} {x2 : Int} {x3 : Int} {x4 : Int} {σ : jg_M} {Q : jg_M → Prop} (h0 : jg_sh a0 = (12, 0)) (h : (if jg_wr (σ.1 a0 48) ≤ jg_wr x4 then (0 ≤ (jg_wr x3) ∧ (jg_wr x3) < 5) ∧ ∀ m101 : jg_M, m101 = jg_sI σ (a0 + 29) (jg_wr x3) (σ.1 a0 48) → jg_GV w 3 mm_X12_layShortest 30 [.ref a0, .int (.ofInt 1), .int (.ofInt (x2 + 1)), .int (.ofInt x3), .int (.ofInt x4)] m101 Q else (0 ≤ jg_wr x4 ∧ jg_wr x4 < 204) ∧ (0 ≤ (jg_wr ((40 * x3) + x4)) ∧ (jg_wr ((40 * x3) + x4)) < 200) ∧ ∀ m102 : jg_M, m102 = jg_sI σ (a0 + 30) (jg_wr ((40 * x3) + x4)) (σ.1 (a0 + 33) (jg_wr x4)) → jg_GV w 3 mm_X12_layShortest 82 [.ref a0, u1, .int (.ofInt x2), .int (.ofInt x3), .int (.ofInt (x4 + 1))] m102 Q)) : jg_GV w 3 mm_X12_layShortest 82 [.ref a0, u1, .int (.ofInt x2), .int (.ofInt x3), .int (.ofInt x4)] σ Q := by
  show jg_G w 3 mm_X12_layShortest 82 [.ref a0, u1, .int (.ofInt x2), .int (.ofInt x3), .int (.ofInt x4)] [] σ (jg_QV Q)
  refine jg_A (pc' := 84) rfl rfl (fun _ _ _ => rfl) ?_
  refine jg_A (pc' := 85) rfl rfl (fun _ _ _ => rfl) ?_
  refine jg_getI (pc' := 88) (bi := 48) rfl h0 (by decide) (Or.inl rfl) rfl rfl ?_
  refine jg_cge (pc' := 91) rfl rfl (fun hc => ?_) (fun hc => ?_)
  · have h := jg_t h hc
    refine jg_A (pc' := 117) rfl rfl (fun _ _ _ => rfl) ?_
    refine jg_getO (pc' := 120) (k := 29) rfl h0 (by decide) rfl rfl ?_
    refine jg_A (pc' := 121) rfl rfl (fun _ _ _ => rfl) ?_
    refine jg_A (pc' := 122) rfl rfl (fun _ _ _ => rfl) ?_
    refine jg_getI (pc' := 125) (bi := 48) rfl h0 (by decide) (Or.inl rfl) rfl rfl ?_
    obtain ⟨hg, h⟩ := h
    refine jg_iast (pc' := 126) rfl (jg_sX12_43 h0) hg rfl (fun m101 hm101 => ?_)
    have h := h m101 hm101
    refine jg_A (pc' := 127) rfl rfl (fun _ _ _ => rfl) ?_
    refine jg_A (pc' := 128) (ls' := [.ref a0, .int (.ofInt 1), .int (.ofInt x2), .int (.ofInt x3), .int (.ofInt x4)]) rfl rfl (fun _ _ _ => rfl) ?_
    refine jg_iinc (pc' := 131) (ls' := [.ref a0, .int (.ofInt 1), .int (.ofInt (x2 + 1)), .int (.ofInt x3), .int (.ofInt x4)]) rfl rfl rfl rfl ?_
    refine jg_goto rfl ?_
    exact h
  · have h := jg_f h hc
    refine jg_A (pc' := 92) rfl rfl (fun _ _ _ => rfl) ?_
    refine jg_getO (pc' := 95) (k := 30) rfl h0 (by decide) rfl rfl ?_
    refine jg_A (pc' := 97) rfl rfl (fun _ _ _ => rfl) ?_
    refine jg_A (pc' := 98) rfl rfl (fun _ _ _ => rfl) ?_
    refine jg_imul (pc' := 99) rfl rfl ?_
    refine jg_A (pc' := 101) rfl rfl (fun _ _ _ => rfl) ?_
    refine jg_iadd (pc' := 102) rfl rfl ?_
    refine jg_A (pc' := 103) rfl rfl (fun _ _ _ => rfl) ?_
    refine jg_getO (pc' := 106) (k := 33) rfl h0 (by decide) rfl rfl ?_
    refine jg_A (pc' := 108) rfl rfl (fun _ _ _ => rfl) ?_
    obtain ⟨hg, h⟩ := h
    refine jg_iald (pc' := 109) rfl (jg_sX12_47 h0) hg rfl ?_
    obtain ⟨hg, h⟩ := h
    refine jg_iast (pc' := 110) rfl (jg_sX12_44 h0) hg rfl (fun m102 hm102 => ?_)
    have h := h m102 hm102
    refine jg_iinc (pc' := 113) (ls' := [.ref a0, u1, .int (.ofInt x2), .int (.ofInt x3), .int (.ofInt (x4 + 1))]) rfl rfl rfl rfl ?_
    refine jg_goto rfl ?_
    exact h
set_option maxRecDepth 100000 in
set_option maxHeartbeats 4000000 in
theorem jb_X12_layWays_0 {w : Nat} {a0 : Nat} {σ : jg_M} {Q : jg_M → Prop} (h0 : jg_sh a0 = (12, 0)) (h : jg_GV w 2 mm_X12_layWays 2 [.ref a0, .int (.ofInt 0), mj_U, mj_U] σ Q) : jg_CV w 2 mm_X12_layWays [.ref a0] σ Q := by
  show jg_G w 2 mm_X12_layWays 0 [.ref a0, mj_U, mj_U, mj_U] [] σ (jg_QV Q)
  refine jg_A (pc' := 1) rfl rfl (fun _ _ _ => rfl) ?_
  refine jg_A (pc' := 2) (ls' := [.ref a0, .int (.ofInt 0), mj_U, mj_U]) rfl rfl (fun _ _ _ => rfl) ?_
  exact h
set_option maxRecDepth 100000 in
set_option maxHeartbeats 4000000 in
theorem jb_X12_layWays_2 {w : Nat} {a0 : Nat} {x1 : Int} {u2 : Value} {u3 : Value} {σ : jg_M} {Q : jg_M → Prop} (h0 : jg_sh a0 = (12, 0)) (h : (if jg_wr 48 ≤ jg_wr x1 then jg_GV w 2 mm_X12_layWays 40 [.ref a0, .int (.ofInt 1), u2, u3] σ Q else (if jg_wr x1 = 0 then (if jg_wr (σ.1 (a0 + 13) (0)) ≤ 0 then (0 ≤ (jg_wr x1) ∧ (jg_wr x1) < 48) ∧ ∀ m101 : jg_M, m101 = jg_sI σ (a0 + 31) (jg_wr x1) (-1) → jg_GV w 2 mm_X12_layWays 2 [.ref a0, .int (.ofInt (x1 + 1)), u2, u3] m101 Q else (0 ≤ (jg_wr x1) ∧ (jg_wr x1) < 48) ∧ ∀ m102 : jg_M, m102 = jg_sI σ (a0 + 31) (jg_wr x1) 0 → jg_GV w 2 mm_X12_layWays 2 [.ref a0, .int (.ofInt (x1 + 1)), u2, u3] m102 Q) else (0 ≤ (jg_wr x1) ∧ (jg_wr x1) < 48) ∧ ∀ m103 : jg_M, m103 = jg_sI σ (a0 + 31) (jg_wr x1) (-1) → jg_GV w 2 mm_X12_layWays 2 [.ref a0, .int (.ofInt (x1 + 1)), u2, u3] m103 Q))) : jg_GV w 2 mm_X12_layWays 2 [.ref a0, .int (.ofInt x1), u2, u3] σ Q := by
  show jg_G w 2 mm_X12_layWays 2 [.ref a0, .int (.ofInt x1), u2, u3] [] σ (jg_QV Q)
  refine jg_A (pc' := 3) rfl rfl (fun _ _ _ => rfl) ?_
  refine jg_A (pc' := 5) rfl rfl (fun _ _ _ => rfl) ?_
  refine jg_cge (pc' := 8) rfl rfl (fun hc => ?_) (fun hc => ?_)
  · have h := jg_t h hc
    refine jg_A (pc' := 39) rfl rfl (fun _ _ _ => rfl) ?_
    refine jg_A (pc' := 40) (ls' := [.ref a0, .int (.ofInt 1), u2, u3]) rfl rfl (fun _ _ _ => rfl) ?_
    exact h
  · have h := jg_f h hc
    refine jg_A (pc' := 9) rfl rfl (fun _ _ _ => rfl) ?_
    refine jg_getO (pc' := 12) (k := 31) rfl h0 (by decide) rfl rfl ?_
    refine jg_A (pc' := 13) rfl rfl (fun _ _ _ => rfl) ?_
    refine jg_A (pc' := 14) rfl rfl (fun _ _ _ => rfl) ?_
    refine jg_ifne (pc' := 17) rfl rfl (fun hc => ?_) (fun hc => ?_)
    · have h := jg_t h hc
      refine jg_A (pc' := 18) rfl rfl (fun _ _ _ => rfl) ?_
      refine jg_getO (pc' := 21) (k := 13) rfl h0 (by decide) rfl rfl ?_
      refine jg_A (pc' := 22) rfl rfl (fun _ _ _ => rfl) ?_
      refine jg_ialdK (pc' := 23) (xi := 0) rfl (jg_sX12_22 h0) (by decide) (by decide) rfl ?_
      refine jg_ifle (pc' := 26) rfl rfl (fun hc => ?_) (fun hc => ?_)
      · have h := jg_t h hc
        refine jg_A (pc' := 31) rfl rfl (fun _ _ _ => rfl) ?_
        obtain ⟨hg, h⟩ := h
        refine jg_iast (pc' := 32) rfl (jg_sX12_45 h0) hg rfl (fun m101 hm101 => ?_)
        have h := h m101 hm101
        refine jg_iinc (pc' := 35) (ls' := [.ref a0, .int (.ofInt (x1 + 1)), u2, u3]) rfl rfl rfl rfl ?_
        refine jg_goto rfl ?_
        exact h
      · have h := jg_f h hc
        refine jg_A (pc' := 27) rfl rfl (fun _ _ _ => rfl) ?_
        refine jg_goto rfl ?_
        obtain ⟨hg, h⟩ := h
        refine jg_iast (pc' := 32) rfl (jg_sX12_45 h0) hg rfl (fun m102 hm102 => ?_)
        have h := h m102 hm102
        refine jg_iinc (pc' := 35) (ls' := [.ref a0, .int (.ofInt (x1 + 1)), u2, u3]) rfl rfl rfl rfl ?_
        refine jg_goto rfl ?_
        exact h
    · have h := jg_f h hc
      refine jg_A (pc' := 31) rfl rfl (fun _ _ _ => rfl) ?_
      obtain ⟨hg, h⟩ := h
      refine jg_iast (pc' := 32) rfl (jg_sX12_45 h0) hg rfl (fun m103 hm103 => ?_)
      have h := h m103 hm103
      refine jg_iinc (pc' := 35) (ls' := [.ref a0, .int (.ofInt (x1 + 1)), u2, u3]) rfl rfl rfl rfl ?_
      refine jg_goto rfl ?_
      exact h
set_option maxRecDepth 100000 in
set_option maxHeartbeats 4000000 in
theorem jb_X12_layWays_40 {w : Nat} {a0 : Nat} {x1 : Int} {u2 : Value} {u3 : Value} {σ : jg_M} {Q : jg_M → Prop} (h0 : jg_sh a0 = (12, 0)) (h : (if jg_wr x1 = 0 then Q σ else jg_GV w 2 mm_X12_layWays 48 [.ref a0, .int (.ofInt 0), .int (.ofInt 0), u3] σ Q)) : jg_GV w 2 mm_X12_layWays 40 [.ref a0, .int (.ofInt x1), u2, u3] σ Q := by
  show jg_G w 2 mm_X12_layWays 40 [.ref a0, .int (.ofInt x1), u2, u3] [] σ (jg_QV Q)
  refine jg_A (pc' := 41) rfl rfl (fun _ _ _ => rfl) ?_
  refine jg_ifeq (pc' := 44) rfl rfl (fun hc => ?_) (fun hc => ?_)
  · have h := jg_t h hc
    exact jg_vret rfl rfl h
  · have h := jg_f h hc
    refine jg_A (pc' := 45) rfl rfl (fun _ _ _ => rfl) ?_
    refine jg_A (pc' := 46) (ls' := [.ref a0, .int (.ofInt 0), u2, u3]) rfl rfl (fun _ _ _ => rfl) ?_
    refine jg_A (pc' := 47) rfl rfl (fun _ _ _ => rfl) ?_
    refine jg_A (pc' := 48) (ls' := [.ref a0, .int (.ofInt 0), .int (.ofInt 0), u3]) rfl rfl (fun _ _ _ => rfl) ?_
    exact h
set_option maxRecDepth 100000 in
set_option maxHeartbeats 4000000 in
theorem jb_X12_layWays_48 {w : Nat} {a0 : Nat} {x1 : Int} {x2 : Int} {u3 : Value} {σ : jg_M} {Q : jg_M → Prop} (h0 : jg_sh a0 = (12, 0)) (h : (if jg_wr (σ.1 (a0 + 13) (0)) ≤ jg_wr x2 then jg_GV w 2 mm_X12_layWays 40 [.ref a0, .int (.ofInt x1), .int (.ofInt x2), u3] σ Q else jg_GV w 2 mm_X12_layWays 60 [.ref a0, .int (.ofInt x1), .int (.ofInt x2), .int (.ofInt 0)] σ Q)) : jg_GV w 2 mm_X12_layWays 48 [.ref a0, .int (.ofInt x1), .int (.ofInt x2), u3] σ Q := by
  show jg_G w 2 mm_X12_layWays 48 [.ref a0, .int (.ofInt x1), .int (.ofInt x2), u3] [] σ (jg_QV Q)
  refine jg_A (pc' := 49) rfl rfl (fun _ _ _ => rfl) ?_
  refine jg_A (pc' := 50) rfl rfl (fun _ _ _ => rfl) ?_
  refine jg_getO (pc' := 53) (k := 13) rfl h0 (by decide) rfl rfl ?_
  refine jg_A (pc' := 54) rfl rfl (fun _ _ _ => rfl) ?_
  refine jg_ialdK (pc' := 55) (xi := 0) rfl (jg_sX12_22 h0) (by decide) (by decide) rfl ?_
  refine jg_cge (pc' := 58) rfl rfl (fun hc => ?_) (fun hc => ?_)
  · have h := jg_t h hc
    refine jg_goto rfl ?_
    exact h
  · have h := jg_f h hc
    refine jg_A (pc' := 59) rfl rfl (fun _ _ _ => rfl) ?_
    refine jg_A (pc' := 60) (ls' := [.ref a0, .int (.ofInt x1), .int (.ofInt x2), .int (.ofInt 0)]) rfl rfl (fun _ _ _ => rfl) ?_
    exact h
set_option maxRecDepth 100000 in
set_option maxHeartbeats 4000000 in
theorem jb_X12_layWays_60 {w : Nat} {a0 : Nat} {x1 : Int} {x2 : Int} {x3 : Int} {σ : jg_M} {Q : jg_M → Prop} (h0 : jg_sh a0 = (12, 0)) (h : (if jg_wr 12 ≤ jg_wr x3 then jg_GV w 2 mm_X12_layWays 48 [.ref a0, .int (.ofInt x1), .int (.ofInt (x2 + 1)), .int (.ofInt x3)] σ Q else jg_CI w 1 mm_X12_isNearer [.ref a0, .int (.ofInt x2), .int (.ofInt x3)] σ (fun (z102 : Int) (m101 : jg_M) => ∀ t103 : Int, t103 = (jg_or x1 z102) → jg_GV w 2 mm_X12_layWays 60 [.ref a0, .int (.ofInt t103), .int (.ofInt x2), .int (.ofInt (x3 + 1))] m101 Q))) : jg_GV w 2 mm_X12_layWays 60 [.ref a0, .int (.ofInt x1), .int (.ofInt x2), .int (.ofInt x3)] σ Q := by
  show jg_G w 2 mm_X12_layWays 60 [.ref a0, .int (.ofInt x1), .int (.ofInt x2), .int (.ofInt x3)] [] σ (jg_QV Q)
  refine jg_A (pc' := 61) rfl rfl (fun _ _ _ => rfl) ?_
  refine jg_A (pc' := 63) rfl rfl (fun _ _ _ => rfl) ?_
  refine jg_cge (pc' := 66) rfl rfl (fun hc => ?_) (fun hc => ?_)
  · have h := jg_t h hc
    refine jg_iinc (pc' := 84) (ls' := [.ref a0, .int (.ofInt x1), .int (.ofInt (x2 + 1)), .int (.ofInt x3)]) rfl rfl rfl rfl ?_
    refine jg_goto rfl ?_
    exact h
  · have h := jg_f h hc
    refine jg_A (pc' := 67) rfl rfl (fun _ _ _ => rfl) ?_
    refine jg_A (pc' := 68) rfl rfl (fun _ _ _ => rfl) ?_
    refine jg_A (pc' := 69) rfl rfl (fun _ _ _ => rfl) ?_
    refine jg_A (pc' := 70) rfl rfl (fun _ _ _ => rfl) ?_
    refine jg_calX (M1 := mm_X12_isNearer) (hy := 1) (pc' := 73) rfl jm_X12_isNearer (by decide) rfl h0 (by decide) ⟨Nat.le_of_ble_eq_true rfl, rfl⟩ (Nat.le_of_ble_eq_true rfl) rfl h (jg_kI (fun z102 m101 h => ?_))
    refine jg_ior (pc' := 74) rfl rfl ?_
    refine jg_nm (F := fun t103 => jg_G w 2 mm_X12_layWays 74 [.ref a0, .int (.ofInt x1), .int (.ofInt x2), .int (.ofInt x3)] [.int (.ofInt t103)] m101 (jg_QV Q)) (jg_or x1 z102) (fun t103 ht103 => ?_)
    have h := h t103 ht103
    refine jg_A (pc' := 75) (ls' := [.ref a0, .int (.ofInt t103), .int (.ofInt x2), .int (.ofInt x3)]) rfl rfl (fun _ _ _ => rfl) ?_
    refine jg_iinc (pc' := 78) (ls' := [.ref a0, .int (.ofInt t103), .int (.ofInt x2), .int (.ofInt (x3 + 1))]) rfl rfl rfl rfl ?_
    refine jg_goto rfl ?_
    exact h
set_option maxRecDepth 100000 in
set_option maxHeartbeats 4000000 in
theorem jb_X12_isNearer_0 {w : Nat} {a0 : Nat} {x1 : Int} {x2 : Int} {σ : jg_M} {Q : Int → jg_M → Prop} (h0 : jg_sh a0 = (12, 0)) (h : (0 ≤ jg_wr ((12 * x1) + x2) ∧ jg_wr ((12 * x1) + x2) < 1152) ∧ ∀ t101 : Int, t101 = (σ.1 (a0 + 16) (jg_wr ((12 * x1) + x2))) → (if jg_wr t101 < 0 then Q 0 σ else (0 ≤ jg_wr x1 ∧ jg_wr x1 < 48) ∧ (if jg_wr (σ.1 (a0 + 31) (jg_wr x1)) < 0 then Q 0 σ else (if jg_wr x2 < jg_wr 7 then (0 ≤ jg_wr x1 ∧ jg_wr x1 < 48) ∧ ∀ m102 : jg_M, m102 = jg_sI σ a0 48 (σ.1 (a0 + 31) (jg_wr x1)) → jg_GI w 1 mm_X12_isNearer 58 [.ref a0, .int (.ofInt x1), .int (.ofInt x2), .int (.ofInt t101), .int (.ofInt 0)] m102 Q else (0 ≤ jg_wr (x2 - 7) ∧ jg_wr (x2 - 7) < 5) ∧ (if 0 ≤ jg_wr (σ.1 (a0 + 29) (jg_wr (x2 - 7))) then (0 ≤ jg_wr x1 ∧ jg_wr x1 < 48) ∧ ∀ m103 : jg_M, m103 = jg_sI σ a0 48 (σ.1 (a0 + 31) (jg_wr x1)) → jg_GI w 1 mm_X12_isNearer 58 [.ref a0, .int (.ofInt x1), .int (.ofInt x2), .int (.ofInt t101), .int (.ofInt 0)] m103 Q else Q 0 σ))))) : jg_CI w 1 mm_X12_isNearer [.ref a0, .int (.ofInt x1), .int (.ofInt x2)] σ Q := by
  show jg_G w 1 mm_X12_isNearer 0 [.ref a0, .int (.ofInt x1), .int (.ofInt x2), mj_U, mj_U] [] σ (jg_QI Q)
  refine jg_A (pc' := 1) rfl rfl (fun _ _ _ => rfl) ?_
  refine jg_getO (pc' := 4) (k := 16) rfl h0 (by decide) rfl rfl ?_
  refine jg_A (pc' := 6) rfl rfl (fun _ _ _ => rfl) ?_
  refine jg_A (pc' := 7) rfl rfl (fun _ _ _ => rfl) ?_
  refine jg_imul (pc' := 8) rfl rfl ?_
  refine jg_A (pc' := 9) rfl rfl (fun _ _ _ => rfl) ?_
  refine jg_iadd (pc' := 10) rfl rfl ?_
  obtain ⟨hg, h⟩ := h
  refine jg_iald (pc' := 11) rfl (jg_sX12_25 h0) hg rfl ?_
  refine jg_nm (F := fun t101 => jg_G w 1 mm_X12_isNearer 11 [.ref a0, .int (.ofInt x1), .int (.ofInt x2), mj_U, mj_U] [.int (.ofInt t101)] σ (jg_QI Q)) (σ.1 (a0 + 16) (jg_wr ((12 * x1) + x2))) (fun t101 ht101 => ?_)
  have h := h t101 ht101
  refine jg_A (pc' := 12) (ls' := [.ref a0, .int (.ofInt x1), .int (.ofInt x2), .int (.ofInt t101), mj_U]) rfl rfl (fun _ _ _ => rfl) ?_
  refine jg_A (pc' := 13) rfl rfl (fun _ _ _ => rfl) ?_
  refine jg_iflt (pc' := 16) rfl rfl (fun hc => ?_) (fun hc => ?_)
  · have h := jg_t h hc
    refine jg_A (pc' := 44) rfl rfl (fun _ _ _ => rfl) ?_
    exact jg_zret rfl rfl (by decide) h
  · have h := jg_f h hc
    refine jg_A (pc' := 17) rfl rfl (fun _ _ _ => rfl) ?_
    refine jg_getO (pc' := 20) (k := 31) rfl h0 (by decide) rfl rfl ?_
    refine jg_A (pc' := 21) rfl rfl (fun _ _ _ => rfl) ?_
    obtain ⟨hg, h⟩ := h
    refine jg_iald (pc' := 22) rfl (jg_sX12_45 h0) hg rfl ?_
    refine jg_iflt (pc' := 25) rfl rfl (fun hc => ?_) (fun hc => ?_)
    · have h := jg_t h hc
      refine jg_A (pc' := 44) rfl rfl (fun _ _ _ => rfl) ?_
      exact jg_zret rfl rfl (by decide) h
    · have h := jg_f h hc
      refine jg_A (pc' := 26) rfl rfl (fun _ _ _ => rfl) ?_
      refine jg_A (pc' := 28) rfl rfl (fun _ _ _ => rfl) ?_
      refine jg_clt (pc' := 31) rfl rfl (fun hc => ?_) (fun hc => ?_)
      · have h := jg_t h hc
        refine jg_A (pc' := 46) rfl rfl (fun _ _ _ => rfl) ?_
        refine jg_A (pc' := 47) rfl rfl (fun _ _ _ => rfl) ?_
        refine jg_getO (pc' := 50) (k := 31) rfl h0 (by decide) rfl rfl ?_
        refine jg_A (pc' := 51) rfl rfl (fun _ _ _ => rfl) ?_
        obtain ⟨hg, h⟩ := h
        refine jg_iald (pc' := 52) rfl (jg_sX12_45 h0) hg rfl ?_
        refine jg_putI (pc' := 55) (bi := 48) rfl h0 (by decide) rfl rfl rfl rfl (fun m102 hm102 => ?_)
        have h := h m102 hm102
        refine jg_A (pc' := 56) rfl rfl (fun _ _ _ => rfl) ?_
        refine jg_A (pc' := 58) (ls' := [.ref a0, .int (.ofInt x1), .int (.ofInt x2), .int (.ofInt t101), .int (.ofInt 0)]) rfl rfl (fun _ _ _ => rfl) ?_
        exact h
      · have h := jg_f h hc
        refine jg_A (pc' := 32) rfl rfl (fun _ _ _ => rfl) ?_
        refine jg_getO (pc' := 35) (k := 29) rfl h0 (by decide) rfl rfl ?_
        refine jg_A (pc' := 36) rfl rfl (fun _ _ _ => rfl) ?_
        refine jg_A (pc' := 38) rfl rfl (fun _ _ _ => rfl) ?_
        refine jg_isub (pc' := 39) rfl rfl ?_
        obtain ⟨hg, h⟩ := h
        refine jg_iald (pc' := 40) rfl (jg_sX12_43 h0) hg rfl ?_
        refine jg_ifge (pc' := 43) rfl rfl (fun hc => ?_) (fun hc => ?_)
        · have h := jg_t h hc
          refine jg_A (pc' := 46) rfl rfl (fun _ _ _ => rfl) ?_
          refine jg_A (pc' := 47) rfl rfl (fun _ _ _ => rfl) ?_
          refine jg_getO (pc' := 50) (k := 31) rfl h0 (by decide) rfl rfl ?_
          refine jg_A (pc' := 51) rfl rfl (fun _ _ _ => rfl) ?_
          obtain ⟨hg, h⟩ := h
          refine jg_iald (pc' := 52) rfl (jg_sX12_45 h0) hg rfl ?_
          refine jg_putI (pc' := 55) (bi := 48) rfl h0 (by decide) rfl rfl rfl rfl (fun m103 hm103 => ?_)
          have h := h m103 hm103
          refine jg_A (pc' := 56) rfl rfl (fun _ _ _ => rfl) ?_
          refine jg_A (pc' := 58) (ls' := [.ref a0, .int (.ofInt x1), .int (.ofInt x2), .int (.ofInt t101), .int (.ofInt 0)]) rfl rfl (fun _ _ _ => rfl) ?_
          exact h
        · have h := jg_f h hc
          refine jg_A (pc' := 44) rfl rfl (fun _ _ _ => rfl) ?_
          exact jg_zret rfl rfl (by decide) h
set_option maxRecDepth 100000 in
set_option maxHeartbeats 4000000 in
theorem jb_X12_isNearer_58 {w : Nat} {a0 : Nat} {x1 : Int} {x2 : Int} {x3 : Int} {x4 : Int} {σ : jg_M} {Q : Int → jg_M → Prop} (h0 : jg_sh a0 = (12, 0)) (h : (if jg_wr (σ.1 a0 48) ≤ jg_wr x4 then (if jg_wr x2 < jg_wr 7 then (0 ≤ (jg_wr (σ.1 a0 48)) ∧ (jg_wr (σ.1 a0 48)) < 204) ∧ ∀ m101 : jg_M, m101 = jg_sI σ (a0 + 33) (jg_wr (σ.1 a0 48)) x2 → ∀ m102 : jg_M, m102 = jg_sI m101 a0 48 ((m101.1 a0 48) + 1) → (if jg_wr 60 < jg_wr (m102.1 a0 48) then Q 0 m102 else (0 ≤ jg_wr x3 ∧ jg_wr x3 < 48) ∧ jg_CI w 0 mm_X12_isAhead [.ref a0, .ref (a0 + 32), .int (.ofInt (60 * x3)), .int (.ofInt (m102.1 (a0 + 31) (jg_wr x3)))] m102 (fun (z104 : Int) (m103 : jg_M) => (if jg_wr z104 = 0 then Q 0 m103 else jg_GI w 1 mm_X12_isNearer 164 [.ref a0, .int (.ofInt x1), .int (.ofInt x2), .int (.ofInt x3), .int (.ofInt 0)] m103 Q))) else jg_CV w 0 mm_X12_addRow [.ref a0, .int (.ofInt (x2 - 7))] σ (fun (m105 : jg_M) => (if jg_wr 60 < jg_wr (m105.1 a0 48) then Q 0 m105 else (0 ≤ jg_wr x3 ∧ jg_wr x3 < 48) ∧ jg_CI w 0 mm_X12_isAhead [.ref a0, .ref (a0 + 32), .int (.ofInt (60 * x3)), .int (.ofInt (m105.1 (a0 + 31) (jg_wr x3)))] m105 (fun (z107 : Int) (m106 : jg_M) => (if jg_wr z107 = 0 then Q 0 m106 else jg_GI w 1 mm_X12_isNearer 164 [.ref a0, .int (.ofInt x1), .int (.ofInt x2), .int (.ofInt x3), .int (.ofInt 0)] m106 Q))))) else (0 ≤ jg_wr ((60 * x1) + x4) ∧ jg_wr ((60 * x1) + x4) < 2880) ∧ (0 ≤ (jg_wr x4) ∧ (jg_wr x4) < 204) ∧ ∀ m108 : jg_M, m108 = jg_sI σ (a0 + 33) (jg_wr x4) (σ.1 (a0 + 32) (jg_wr ((60 * x1) + x4))) → jg_GI w 1 mm_X12_isNearer 58 [.ref a0, .int (.ofInt x1), .int (.ofInt x2), .int (.ofInt x3), .int (.ofInt (x4 + 1))] m108 Q)) : jg_GI w 1 mm_X12_isNearer 58 [.ref a0, .int (.ofInt x1), .int (.ofInt x2), .int (.ofInt x3), .int (.ofInt x4)] σ Q := by
  show jg_G w 1 mm_X12_isNearer 58 [.ref a0, .int (.ofInt x1), .int (.ofInt x2), .int (.ofInt x3), .int (.ofInt x4)] [] σ (jg_QI Q)
  refine jg_A (pc' := 60) rfl rfl (fun _ _ _ => rfl) ?_
  refine jg_A (pc' := 61) rfl rfl (fun _ _ _ => rfl) ?_
  refine jg_getI (pc' := 64) (bi := 48) rfl h0 (by decide) (Or.inl rfl) rfl rfl ?_
  refine jg_cge (pc' := 67) rfl rfl (fun hc => ?_) (fun hc => ?_)
  · have h := jg_t h hc
    refine jg_A (pc' := 93) rfl rfl (fun _ _ _ => rfl) ?_
    refine jg_A (pc' := 95) rfl rfl (fun _ _ _ => rfl) ?_
    refine jg_clt (pc' := 98) rfl rfl (fun hc => ?_) (fun hc => ?_)
    · have h := jg_t h hc
      refine jg_A (pc' := 110) rfl rfl (fun _ _ _ => rfl) ?_
      refine jg_getO (pc' := 113) (k := 33) rfl h0 (by decide) rfl rfl ?_
      refine jg_A (pc' := 114) rfl rfl (fun _ _ _ => rfl) ?_
      refine jg_getI (pc' := 117) (bi := 48) rfl h0 (by decide) (Or.inl rfl) rfl rfl ?_
      refine jg_A (pc' := 118) rfl rfl (fun _ _ _ => rfl) ?_
      obtain ⟨hg, h⟩ := h
      refine jg_iast (pc' := 119) rfl (jg_sX12_47 h0) hg rfl (fun m101 hm101 => ?_)
      have h := h m101 hm101
      refine jg_A (pc' := 120) rfl rfl (fun _ _ _ => rfl) ?_
      refine jg_A (pc' := 121) rfl rfl (fun _ _ _ => rfl) ?_
      refine jg_getI (pc' := 124) (bi := 48) rfl h0 (by decide) (Or.inl rfl) rfl rfl ?_
      refine jg_A (pc' := 125) rfl rfl (fun _ _ _ => rfl) ?_
      refine jg_iadd (pc' := 126) rfl rfl ?_
      refine jg_putI (pc' := 129) (bi := 48) rfl h0 (by decide) rfl rfl rfl rfl (fun m102 hm102 => ?_)
      have h := h m102 hm102
      refine jg_A (pc' := 130) rfl rfl (fun _ _ _ => rfl) ?_
      refine jg_getI (pc' := 133) (bi := 48) rfl h0 (by decide) (Or.inl rfl) rfl rfl ?_
      refine jg_A (pc' := 135) rfl rfl (fun _ _ _ => rfl) ?_
      refine jg_cgt (pc' := 138) rfl rfl (fun hc => ?_) (fun hc => ?_)
      · have h := jg_t h hc
        refine jg_A (pc' := 160) rfl rfl (fun _ _ _ => rfl) ?_
        exact jg_zret rfl rfl (by decide) h
      · have h := jg_f h hc
        refine jg_A (pc' := 139) rfl rfl (fun _ _ _ => rfl) ?_
        refine jg_A (pc' := 140) rfl rfl (fun _ _ _ => rfl) ?_
        refine jg_getO (pc' := 143) (k := 32) rfl h0 (by decide) rfl rfl ?_
        refine jg_A (pc' := 145) rfl rfl (fun _ _ _ => rfl) ?_
        refine jg_A (pc' := 146) rfl rfl (fun _ _ _ => rfl) ?_
        refine jg_imul (pc' := 147) rfl rfl ?_
        refine jg_A (pc' := 148) rfl rfl (fun _ _ _ => rfl) ?_
        refine jg_getO (pc' := 151) (k := 31) rfl h0 (by decide) rfl rfl ?_
        refine jg_A (pc' := 152) rfl rfl (fun _ _ _ => rfl) ?_
        obtain ⟨hg, h⟩ := h
        refine jg_iald (pc' := 153) rfl (jg_sX12_45 h0) hg rfl ?_
        refine jg_calX (M1 := mm_X12_isAhead) (hy := 0) (pc' := 156) rfl jm_X12_isAhead (by decide) rfl h0 (by decide) ⟨Nat.le_of_ble_eq_true rfl, rfl⟩ (Nat.le_of_ble_eq_true rfl) rfl h (jg_kI (fun z104 m103 h => ?_))
        refine jg_ifne (pc' := 159) rfl rfl (fun hc => ?_) (fun hc => ?_)
        · have h := jg_t h hc
          refine jg_A (pc' := 160) rfl rfl (fun _ _ _ => rfl) ?_
          exact jg_zret rfl rfl (by decide) h
        · have h := jg_f h hc
          refine jg_A (pc' := 162) rfl rfl (fun _ _ _ => rfl) ?_
          refine jg_A (pc' := 164) (ls' := [.ref a0, .int (.ofInt x1), .int (.ofInt x2), .int (.ofInt x3), .int (.ofInt 0)]) rfl rfl (fun _ _ _ => rfl) ?_
          exact h
    · have h := jg_f h hc
      refine jg_A (pc' := 99) rfl rfl (fun _ _ _ => rfl) ?_
      refine jg_A (pc' := 100) rfl rfl (fun _ _ _ => rfl) ?_
      refine jg_A (pc' := 102) rfl rfl (fun _ _ _ => rfl) ?_
      refine jg_isub (pc' := 103) rfl rfl ?_
      refine jg_calX (M1 := mm_X12_addRow) (hy := 0) (pc' := 106) rfl jm_X12_addRow (by decide) rfl h0 (by decide) ⟨Nat.le_of_ble_eq_true rfl, rfl⟩ (Nat.le_of_ble_eq_true rfl) rfl h (jg_kV (fun m105 h => ?_))
      refine jg_goto rfl ?_
      refine jg_A (pc' := 130) rfl rfl (fun _ _ _ => rfl) ?_
      refine jg_getI (pc' := 133) (bi := 48) rfl h0 (by decide) (Or.inl rfl) rfl rfl ?_
      refine jg_A (pc' := 135) rfl rfl (fun _ _ _ => rfl) ?_
      refine jg_cgt (pc' := 138) rfl rfl (fun hc => ?_) (fun hc => ?_)
      · have h := jg_t h hc
        refine jg_A (pc' := 160) rfl rfl (fun _ _ _ => rfl) ?_
        exact jg_zret rfl rfl (by decide) h
      · have h := jg_f h hc
        refine jg_A (pc' := 139) rfl rfl (fun _ _ _ => rfl) ?_
        refine jg_A (pc' := 140) rfl rfl (fun _ _ _ => rfl) ?_
        refine jg_getO (pc' := 143) (k := 32) rfl h0 (by decide) rfl rfl ?_
        refine jg_A (pc' := 145) rfl rfl (fun _ _ _ => rfl) ?_
        refine jg_A (pc' := 146) rfl rfl (fun _ _ _ => rfl) ?_
        refine jg_imul (pc' := 147) rfl rfl ?_
        refine jg_A (pc' := 148) rfl rfl (fun _ _ _ => rfl) ?_
        refine jg_getO (pc' := 151) (k := 31) rfl h0 (by decide) rfl rfl ?_
        refine jg_A (pc' := 152) rfl rfl (fun _ _ _ => rfl) ?_
        obtain ⟨hg, h⟩ := h
        refine jg_iald (pc' := 153) rfl (jg_sX12_45 h0) hg rfl ?_
        refine jg_calX (M1 := mm_X12_isAhead) (hy := 0) (pc' := 156) rfl jm_X12_isAhead (by decide) rfl h0 (by decide) ⟨Nat.le_of_ble_eq_true rfl, rfl⟩ (Nat.le_of_ble_eq_true rfl) rfl h (jg_kI (fun z107 m106 h => ?_))
        refine jg_ifne (pc' := 159) rfl rfl (fun hc => ?_) (fun hc => ?_)
        · have h := jg_t h hc
          refine jg_A (pc' := 160) rfl rfl (fun _ _ _ => rfl) ?_
          exact jg_zret rfl rfl (by decide) h
        · have h := jg_f h hc
          refine jg_A (pc' := 162) rfl rfl (fun _ _ _ => rfl) ?_
          refine jg_A (pc' := 164) (ls' := [.ref a0, .int (.ofInt x1), .int (.ofInt x2), .int (.ofInt x3), .int (.ofInt 0)]) rfl rfl (fun _ _ _ => rfl) ?_
          exact h
  · have h := jg_f h hc
    refine jg_A (pc' := 68) rfl rfl (fun _ _ _ => rfl) ?_
    refine jg_getO (pc' := 71) (k := 33) rfl h0 (by decide) rfl rfl ?_
    refine jg_A (pc' := 73) rfl rfl (fun _ _ _ => rfl) ?_
    refine jg_A (pc' := 74) rfl rfl (fun _ _ _ => rfl) ?_
    refine jg_getO (pc' := 77) (k := 32) rfl h0 (by decide) rfl rfl ?_
    refine jg_A (pc' := 79) rfl rfl (fun _ _ _ => rfl) ?_
    refine jg_A (pc' := 80) rfl rfl (fun _ _ _ => rfl) ?_
    refine jg_imul (pc' := 81) rfl rfl ?_
    refine jg_A (pc' := 83) rfl rfl (fun _ _ _ => rfl) ?_
    refine jg_iadd (pc' := 84) rfl rfl ?_
    obtain ⟨hg, h⟩ := h
    refine jg_iald (pc' := 85) rfl (jg_sX12_46 h0) hg rfl ?_
    obtain ⟨hg, h⟩ := h
    refine jg_iast (pc' := 86) rfl (jg_sX12_47 h0) hg rfl (fun m108 hm108 => ?_)
    have h := h m108 hm108
    refine jg_iinc (pc' := 89) (ls' := [.ref a0, .int (.ofInt x1), .int (.ofInt x2), .int (.ofInt x3), .int (.ofInt (x4 + 1))]) rfl rfl rfl rfl ?_
    refine jg_goto rfl ?_
    exact h
set_option maxRecDepth 100000 in
set_option maxHeartbeats 4000000 in
theorem jb_X12_isNearer_164 {w : Nat} {a0 : Nat} {u1 : Value} {u2 : Value} {x3 : Int} {x4 : Int} {σ : jg_M} {Q : Int → jg_M → Prop} (h0 : jg_sh a0 = (12, 0)) (h : (if jg_wr (σ.1 a0 48) ≤ jg_wr x4 then (0 ≤ (jg_wr x3) ∧ (jg_wr x3) < 48) ∧ ∀ m101 : jg_M, m101 = jg_sI σ (a0 + 31) (jg_wr x3) (σ.1 a0 48) → Q 1 m101 else (0 ≤ jg_wr x4 ∧ jg_wr x4 < 204) ∧ (0 ≤ (jg_wr ((60 * x3) + x4)) ∧ (jg_wr ((60 * x3) + x4)) < 2880) ∧ ∀ m102 : jg_M, m102 = jg_sI σ (a0 + 32) (jg_wr ((60 * x3) + x4)) (σ.1 (a0 + 33) (jg_wr x4)) → jg_GI w 1 mm_X12_isNearer 164 [.ref a0, u1, u2, .int (.ofInt x3), .int (.ofInt (x4 + 1))] m102 Q)) : jg_GI w 1 mm_X12_isNearer 164 [.ref a0, u1, u2, .int (.ofInt x3), .int (.ofInt x4)] σ Q := by
  show jg_G w 1 mm_X12_isNearer 164 [.ref a0, u1, u2, .int (.ofInt x3), .int (.ofInt x4)] [] σ (jg_QI Q)
  refine jg_A (pc' := 166) rfl rfl (fun _ _ _ => rfl) ?_
  refine jg_A (pc' := 167) rfl rfl (fun _ _ _ => rfl) ?_
  refine jg_getI (pc' := 170) (bi := 48) rfl h0 (by decide) (Or.inl rfl) rfl rfl ?_
  refine jg_cge (pc' := 173) rfl rfl (fun hc => ?_) (fun hc => ?_)
  · have h := jg_t h hc
    refine jg_A (pc' := 199) rfl rfl (fun _ _ _ => rfl) ?_
    refine jg_getO (pc' := 202) (k := 31) rfl h0 (by decide) rfl rfl ?_
    refine jg_A (pc' := 203) rfl rfl (fun _ _ _ => rfl) ?_
    refine jg_A (pc' := 204) rfl rfl (fun _ _ _ => rfl) ?_
    refine jg_getI (pc' := 207) (bi := 48) rfl h0 (by decide) (Or.inl rfl) rfl rfl ?_
    obtain ⟨hg, h⟩ := h
    refine jg_iast (pc' := 208) rfl (jg_sX12_45 h0) hg rfl (fun m101 hm101 => ?_)
    have h := h m101 hm101
    refine jg_A (pc' := 209) rfl rfl (fun _ _ _ => rfl) ?_
    exact jg_zret rfl rfl (by decide) h
  · have h := jg_f h hc
    refine jg_A (pc' := 174) rfl rfl (fun _ _ _ => rfl) ?_
    refine jg_getO (pc' := 177) (k := 32) rfl h0 (by decide) rfl rfl ?_
    refine jg_A (pc' := 179) rfl rfl (fun _ _ _ => rfl) ?_
    refine jg_A (pc' := 180) rfl rfl (fun _ _ _ => rfl) ?_
    refine jg_imul (pc' := 181) rfl rfl ?_
    refine jg_A (pc' := 183) rfl rfl (fun _ _ _ => rfl) ?_
    refine jg_iadd (pc' := 184) rfl rfl ?_
    refine jg_A (pc' := 185) rfl rfl (fun _ _ _ => rfl) ?_
    refine jg_getO (pc' := 188) (k := 33) rfl h0 (by decide) rfl rfl ?_
    refine jg_A (pc' := 190) rfl rfl (fun _ _ _ => rfl) ?_
    obtain ⟨hg, h⟩ := h
    refine jg_iald (pc' := 191) rfl (jg_sX12_47 h0) hg rfl ?_
    obtain ⟨hg, h⟩ := h
    refine jg_iast (pc' := 192) rfl (jg_sX12_46 h0) hg rfl (fun m102 hm102 => ?_)
    have h := h m102 hm102
    refine jg_iinc (pc' := 195) (ls' := [.ref a0, u1, u2, .int (.ofInt x3), .int (.ofInt (x4 + 1))]) rfl rfl rfl rfl ?_
    refine jg_goto rfl ?_
    exact h
set_option maxRecDepth 100000 in
set_option maxHeartbeats 4000000 in
theorem jb_X12_actionsOf_0 {w : Nat} {a0 : Nat} {x1 : Int} {σ : jg_M} {Q : Int → jg_M → Prop} (h0 : jg_sh a0 = (12, 0)) (h : jg_GI w 0 mm_X12_actionsOf 4 [.ref a0, .int (.ofInt x1), .int (.ofInt 0), .int (.ofInt 0)] σ Q) : jg_CI w 0 mm_X12_actionsOf [.ref a0, .int (.ofInt x1)] σ Q := by
  show jg_G w 0 mm_X12_actionsOf 0 [.ref a0, .int (.ofInt x1), mj_U, mj_U] [] σ (jg_QI Q)
  refine jg_A (pc' := 1) rfl rfl (fun _ _ _ => rfl) ?_
  refine jg_A (pc' := 2) (ls' := [.ref a0, .int (.ofInt x1), .int (.ofInt 0), mj_U]) rfl rfl (fun _ _ _ => rfl) ?_
  refine jg_A (pc' := 3) rfl rfl (fun _ _ _ => rfl) ?_
  refine jg_A (pc' := 4) (ls' := [.ref a0, .int (.ofInt x1), .int (.ofInt 0), .int (.ofInt 0)]) rfl rfl (fun _ _ _ => rfl) ?_
  exact h
set_option maxRecDepth 100000 in
set_option maxHeartbeats 4000000 in
theorem jb_X12_actionsOf_4 {w : Nat} {a0 : Nat} {x1 : Int} {x2 : Int} {x3 : Int} {σ : jg_M} {Q : Int → jg_M → Prop} (h0 : jg_sh a0 = (12, 0)) (h : (if jg_wr (σ.1 (a0 + 3) (0)) < jg_wr x3 then Q x2 σ else (0 ≤ jg_wr ((8 * x1) + x3) ∧ jg_wr ((8 * x1) + x3) < 768) ∧ (if jg_wr (σ.1 (a0 + 19) (jg_wr ((8 * x1) + x3))) ≤ 0 then ∀ t101 : Int, t101 = (x2 + 0) → jg_GI w 0 mm_X12_actionsOf 4 [.ref a0, .int (.ofInt x1), .int (.ofInt t101), .int (.ofInt (x3 + 1))] σ Q else ∀ t102 : Int, t102 = (x2 + 1) → jg_GI w 0 mm_X12_actionsOf 4 [.ref a0, .int (.ofInt x1), .int (.ofInt t102), .int (.ofInt (x3 + 1))] σ Q))) : jg_GI w 0 mm_X12_actionsOf 4 [.ref a0, .int (.ofInt x1), .int (.ofInt x2), .int (.ofInt x3)] σ Q := by
  show jg_G w 0 mm_X12_actionsOf 4 [.ref a0, .int (.ofInt x1), .int (.ofInt x2), .int (.ofInt x3)] [] σ (jg_QI Q)
  refine jg_A (pc' := 5) rfl rfl (fun _ _ _ => rfl) ?_
  refine jg_A (pc' := 6) rfl rfl (fun _ _ _ => rfl) ?_
  refine jg_getO (pc' := 9) (k := 3) rfl h0 (by decide) rfl rfl ?_
  refine jg_A (pc' := 10) rfl rfl (fun _ _ _ => rfl) ?_
  refine jg_ialdK (pc' := 11) (xi := 0) rfl (jg_sX12_12 h0) (by decide) (by decide) rfl ?_
  refine jg_cgt (pc' := 14) rfl rfl (fun hc => ?_) (fun hc => ?_)
  · have h := jg_t h hc
    refine jg_A (pc' := 43) rfl rfl (fun _ _ _ => rfl) ?_
    exact jg_iret rfl rfl h
  · have h := jg_f h hc
    refine jg_A (pc' := 15) rfl rfl (fun _ _ _ => rfl) ?_
    refine jg_A (pc' := 16) rfl rfl (fun _ _ _ => rfl) ?_
    refine jg_getO (pc' := 19) (k := 19) rfl h0 (by decide) rfl rfl ?_
    refine jg_A (pc' := 21) rfl rfl (fun _ _ _ => rfl) ?_
    refine jg_A (pc' := 22) rfl rfl (fun _ _ _ => rfl) ?_
    refine jg_imul (pc' := 23) rfl rfl ?_
    refine jg_A (pc' := 24) rfl rfl (fun _ _ _ => rfl) ?_
    refine jg_iadd (pc' := 25) rfl rfl ?_
    obtain ⟨hg, h⟩ := h
    refine jg_iald (pc' := 26) rfl (jg_sX12_28 h0) hg rfl ?_
    refine jg_ifle (pc' := 29) rfl rfl (fun hc => ?_) (fun hc => ?_)
    · have h := jg_t h hc
      refine jg_A (pc' := 34) rfl rfl (fun _ _ _ => rfl) ?_
      refine jg_iadd (pc' := 35) rfl rfl ?_
      refine jg_nm (F := fun t101 => jg_G w 0 mm_X12_actionsOf 35 [.ref a0, .int (.ofInt x1), .int (.ofInt x2), .int (.ofInt x3)] [.int (.ofInt t101)] σ (jg_QI Q)) (x2 + 0) (fun t101 ht101 => ?_)
      have h := h t101 ht101
      refine jg_A (pc' := 36) (ls' := [.ref a0, .int (.ofInt x1), .int (.ofInt t101), .int (.ofInt x3)]) rfl rfl (fun _ _ _ => rfl) ?_
      refine jg_iinc (pc' := 39) (ls' := [.ref a0, .int (.ofInt x1), .int (.ofInt t101), .int (.ofInt (x3 + 1))]) rfl rfl rfl rfl ?_
      refine jg_goto rfl ?_
      exact h
    · have h := jg_f h hc
      refine jg_A (pc' := 30) rfl rfl (fun _ _ _ => rfl) ?_
      refine jg_goto rfl ?_
      refine jg_iadd (pc' := 35) rfl rfl ?_
      refine jg_nm (F := fun t102 => jg_G w 0 mm_X12_actionsOf 35 [.ref a0, .int (.ofInt x1), .int (.ofInt x2), .int (.ofInt x3)] [.int (.ofInt t102)] σ (jg_QI Q)) (x2 + 1) (fun t102 ht102 => ?_)
      have h := h t102 ht102
      refine jg_A (pc' := 36) (ls' := [.ref a0, .int (.ofInt x1), .int (.ofInt t102), .int (.ofInt x3)]) rfl rfl (fun _ _ _ => rfl) ?_
      refine jg_iinc (pc' := 39) (ls' := [.ref a0, .int (.ofInt x1), .int (.ofInt t102), .int (.ofInt (x3 + 1))]) rfl rfl rfl rfl ?_
      refine jg_goto rfl ?_
      exact h
set_option maxRecDepth 100000 in
set_option maxHeartbeats 4000000 in
theorem jb_X12_isFree_0 {w : Nat} {a0 : Nat} {x1 : Int} {x2 : Int} {σ : jg_M} {Q : Int → jg_M → Prop} (h0 : jg_sh a0 = (12, 0)) (h : jg_GI w 0 mm_X12_isFree 2 [.ref a0, .int (.ofInt x1), .int (.ofInt x2), .int (.ofInt 0)] σ Q) : jg_CI w 0 mm_X12_isFree [.ref a0, .int (.ofInt x1), .int (.ofInt x2)] σ Q := by
  show jg_G w 0 mm_X12_isFree 0 [.ref a0, .int (.ofInt x1), .int (.ofInt x2), mj_U] [] σ (jg_QI Q)
  refine jg_A (pc' := 1) rfl rfl (fun _ _ _ => rfl) ?_
  refine jg_A (pc' := 2) (ls' := [.ref a0, .int (.ofInt x1), .int (.ofInt x2), .int (.ofInt 0)]) rfl rfl (fun _ _ _ => rfl) ?_
  exact h
set_option maxRecDepth 100000 in
set_option maxHeartbeats 4000000 in
theorem jb_X12_isFree_2 {w : Nat} {a0 : Nat} {x1 : Int} {x2 : Int} {x3 : Int} {σ : jg_M} {Q : Int → jg_M → Prop} (h0 : jg_sh a0 = (12, 0)) (h : (if jg_wr (σ.1 (a0 + 3) (0)) < jg_wr x3 then Q 1 σ else (0 ≤ jg_wr ((8 * x1) + x3) ∧ jg_wr ((8 * x1) + x3) < 768) ∧ (if jg_wr (σ.1 (a0 + 19) (jg_wr ((8 * x1) + x3))) ≤ 0 then jg_GI w 0 mm_X12_isFree 2 [.ref a0, .int (.ofInt x1), .int (.ofInt x2), .int (.ofInt (x3 + 1))] σ Q else (0 ≤ jg_wr (x2 + x3) ∧ jg_wr (x2 + x3) < 1000) ∧ (if jg_wr (σ.1 (a0 + 35) (jg_wr (x2 + x3))) ≤ 0 then jg_GI w 0 mm_X12_isFree 2 [.ref a0, .int (.ofInt x1), .int (.ofInt x2), .int (.ofInt (x3 + 1))] σ Q else Q 0 σ)))) : jg_GI w 0 mm_X12_isFree 2 [.ref a0, .int (.ofInt x1), .int (.ofInt x2), .int (.ofInt x3)] σ Q := by
  show jg_G w 0 mm_X12_isFree 2 [.ref a0, .int (.ofInt x1), .int (.ofInt x2), .int (.ofInt x3)] [] σ (jg_QI Q)
  refine jg_A (pc' := 3) rfl rfl (fun _ _ _ => rfl) ?_
  refine jg_A (pc' := 4) rfl rfl (fun _ _ _ => rfl) ?_
  refine jg_getO (pc' := 7) (k := 3) rfl h0 (by decide) rfl rfl ?_
  refine jg_A (pc' := 8) rfl rfl (fun _ _ _ => rfl) ?_
  refine jg_ialdK (pc' := 9) (xi := 0) rfl (jg_sX12_12 h0) (by decide) (by decide) rfl ?_
  refine jg_cgt (pc' := 12) rfl rfl (fun hc => ?_) (fun hc => ?_)
  · have h := jg_t h hc
    refine jg_A (pc' := 46) rfl rfl (fun _ _ _ => rfl) ?_
    exact jg_zret rfl rfl (by decide) h
  · have h := jg_f h hc
    refine jg_A (pc' := 13) rfl rfl (fun _ _ _ => rfl) ?_
    refine jg_getO (pc' := 16) (k := 19) rfl h0 (by decide) rfl rfl ?_
    refine jg_A (pc' := 18) rfl rfl (fun _ _ _ => rfl) ?_
    refine jg_A (pc' := 19) rfl rfl (fun _ _ _ => rfl) ?_
    refine jg_imul (pc' := 20) rfl rfl ?_
    refine jg_A (pc' := 21) rfl rfl (fun _ _ _ => rfl) ?_
    refine jg_iadd (pc' := 22) rfl rfl ?_
    obtain ⟨hg, h⟩ := h
    refine jg_iald (pc' := 23) rfl (jg_sX12_28 h0) hg rfl ?_
    refine jg_ifle (pc' := 26) rfl rfl (fun hc => ?_) (fun hc => ?_)
    · have h := jg_t h hc
      refine jg_iinc (pc' := 42) (ls' := [.ref a0, .int (.ofInt x1), .int (.ofInt x2), .int (.ofInt (x3 + 1))]) rfl rfl rfl rfl ?_
      refine jg_goto rfl ?_
      exact h
    · have h := jg_f h hc
      refine jg_A (pc' := 27) rfl rfl (fun _ _ _ => rfl) ?_
      refine jg_getO (pc' := 30) (k := 35) rfl h0 (by decide) rfl rfl ?_
      refine jg_A (pc' := 31) rfl rfl (fun _ _ _ => rfl) ?_
      refine jg_A (pc' := 32) rfl rfl (fun _ _ _ => rfl) ?_
      refine jg_iadd (pc' := 33) rfl rfl ?_
      obtain ⟨hg, h⟩ := h
      refine jg_iald (pc' := 34) rfl (jg_sX12_50 h0) hg rfl ?_
      refine jg_ifle (pc' := 37) rfl rfl (fun hc => ?_) (fun hc => ?_)
      · have h := jg_t h hc
        refine jg_iinc (pc' := 42) (ls' := [.ref a0, .int (.ofInt x1), .int (.ofInt x2), .int (.ofInt (x3 + 1))]) rfl rfl rfl rfl ?_
        refine jg_goto rfl ?_
        exact h
      · have h := jg_f h hc
        refine jg_A (pc' := 38) rfl rfl (fun _ _ _ => rfl) ?_
        exact jg_zret rfl rfl (by decide) h
set_option maxRecDepth 100000 in
set_option maxHeartbeats 4000000 in
theorem jb_X12_lays_0 {w : Nat} {a0 : Nat} {x1 : Int} {σ : jg_M} {Q : jg_M → Prop} (h0 : jg_sh a0 = (12, 0)) (h : jg_GV w 1 mm_X12_lays 2 [.ref a0, .int (.ofInt x1), .int (.ofInt 0), mj_U] σ Q) : jg_CV w 1 mm_X12_lays [.ref a0, .int (.ofInt x1)] σ Q := by
  show jg_G w 1 mm_X12_lays 0 [.ref a0, .int (.ofInt x1), mj_U, mj_U] [] σ (jg_QV Q)
  refine jg_A (pc' := 1) rfl rfl (fun _ _ _ => rfl) ?_
  refine jg_A (pc' := 2) (ls' := [.ref a0, .int (.ofInt x1), .int (.ofInt 0), mj_U]) rfl rfl (fun _ _ _ => rfl) ?_
  exact h
set_option maxRecDepth 100000 in
set_option maxHeartbeats 4000000 in
theorem jb_X12_lays_2 {w : Nat} {a0 : Nat} {x1 : Int} {x2 : Int} {u3 : Value} {σ : jg_M} {Q : jg_M → Prop} (h0 : jg_sh a0 = (12, 0)) (h : jg_CI w 0 mm_X12_isFree [.ref a0, .int (.ofInt x1), .int (.ofInt x2)] σ (fun (z102 : Int) (m101 : jg_M) => (if jg_wr z102 = 0 then jg_GV w 1 mm_X12_lays 2 [.ref a0, .int (.ofInt x1), .int (.ofInt (x2 + 1)), u3] m101 Q else (0 ≤ (jg_wr x1) ∧ (jg_wr x1) < 48) ∧ ∀ m103 : jg_M, m103 = jg_sI m101 (a0 + 34) (jg_wr x1) x2 → jg_GV w 1 mm_X12_lays 26 [.ref a0, .int (.ofInt x1), .int (.ofInt x2), .int (.ofInt 0)] m103 Q))) : jg_GV w 1 mm_X12_lays 2 [.ref a0, .int (.ofInt x1), .int (.ofInt x2), u3] σ Q := by
  show jg_G w 1 mm_X12_lays 2 [.ref a0, .int (.ofInt x1), .int (.ofInt x2), u3] [] σ (jg_QV Q)
  refine jg_A (pc' := 3) rfl rfl (fun _ _ _ => rfl) ?_
  refine jg_A (pc' := 4) rfl rfl (fun _ _ _ => rfl) ?_
  refine jg_A (pc' := 5) rfl rfl (fun _ _ _ => rfl) ?_
  refine jg_calX (M1 := mm_X12_isFree) (hy := 0) (pc' := 8) rfl jm_X12_isFree (by decide) rfl h0 (by decide) ⟨Nat.le_of_ble_eq_true rfl, rfl⟩ (Nat.le_of_ble_eq_true rfl) rfl h (jg_kI (fun z102 m101 h => ?_))
  refine jg_ifne (pc' := 11) rfl rfl (fun hc => ?_) (fun hc => ?_)
  · have h := jg_t h hc
    refine jg_iinc (pc' := 14) (ls' := [.ref a0, .int (.ofInt x1), .int (.ofInt (x2 + 1)), u3]) rfl rfl rfl rfl ?_
    refine jg_goto rfl ?_
    exact h
  · have h := jg_f h hc
    refine jg_A (pc' := 18) rfl rfl (fun _ _ _ => rfl) ?_
    refine jg_getO (pc' := 21) (k := 34) rfl h0 (by decide) rfl rfl ?_
    refine jg_A (pc' := 22) rfl rfl (fun _ _ _ => rfl) ?_
    refine jg_A (pc' := 23) rfl rfl (fun _ _ _ => rfl) ?_
    obtain ⟨hg, h⟩ := h
    refine jg_iast (pc' := 24) rfl (jg_sX12_49 h0) hg rfl (fun m103 hm103 => ?_)
    have h := h m103 hm103
    refine jg_A (pc' := 25) rfl rfl (fun _ _ _ => rfl) ?_
    refine jg_A (pc' := 26) (ls' := [.ref a0, .int (.ofInt x1), .int (.ofInt x2), .int (.ofInt 0)]) rfl rfl (fun _ _ _ => rfl) ?_
    exact h
set_option maxRecDepth 100000 in
set_option maxHeartbeats 4000000 in
theorem jb_X12_lays_26 {w : Nat} {a0 : Nat} {x1 : Int} {x2 : Int} {x3 : Int} {σ : jg_M} {Q : jg_M → Prop} (h0 : jg_sh a0 = (12, 0)) (h : (if jg_wr (σ.1 (a0 + 3) (0)) < jg_wr x3 then Q σ else (0 ≤ jg_wr ((8 * x1) + x3) ∧ jg_wr ((8 * x1) + x3) < 768) ∧ (if jg_wr (σ.1 (a0 + 19) (jg_wr ((8 * x1) + x3))) = 0 then jg_GV w 1 mm_X12_lays 26 [.ref a0, .int (.ofInt x1), .int (.ofInt x2), .int (.ofInt (x3 + 1))] σ Q else (0 ≤ jg_wr ((8 * x1) + x3) ∧ jg_wr ((8 * x1) + x3) < 768) ∧ (0 ≤ (jg_wr (x2 + x3)) ∧ (jg_wr (x2 + x3)) < 1000) ∧ ∀ m101 : jg_M, m101 = jg_sI σ (a0 + 35) (jg_wr (x2 + x3)) (σ.1 (a0 + 19) (jg_wr ((8 * x1) + x3))) → (0 ≤ (jg_wr (x2 + x3)) ∧ (jg_wr (x2 + x3)) < 1000) ∧ ∀ m102 : jg_M, m102 = jg_sI m101 (a0 + 36) (jg_wr (x2 + x3)) x1 → (if jg_wr ((x2 + x3) + 1) ≤ jg_wr (m102.1 a0 52) then ∀ m103 : jg_M, m103 = jg_sI m102 a0 52 (m102.1 a0 52) → jg_GV w 1 mm_X12_lays 26 [.ref a0, .int (.ofInt x1), .int (.ofInt x2), .int (.ofInt (x3 + 1))] m103 Q else ∀ m104 : jg_M, m104 = jg_sI m102 a0 52 ((x2 + x3) + 1) → jg_GV w 1 mm_X12_lays 26 [.ref a0, .int (.ofInt x1), .int (.ofInt x2), .int (.ofInt (x3 + 1))] m104 Q)))) : jg_GV w 1 mm_X12_lays 26 [.ref a0, .int (.ofInt x1), .int (.ofInt x2), .int (.ofInt x3)] σ Q := by
  show jg_G w 1 mm_X12_lays 26 [.ref a0, .int (.ofInt x1), .int (.ofInt x2), .int (.ofInt x3)] [] σ (jg_QV Q)
  refine jg_A (pc' := 27) rfl rfl (fun _ _ _ => rfl) ?_
  refine jg_A (pc' := 28) rfl rfl (fun _ _ _ => rfl) ?_
  refine jg_getO (pc' := 31) (k := 3) rfl h0 (by decide) rfl rfl ?_
  refine jg_A (pc' := 32) rfl rfl (fun _ _ _ => rfl) ?_
  refine jg_ialdK (pc' := 33) (xi := 0) rfl (jg_sX12_12 h0) (by decide) (by decide) rfl ?_
  refine jg_cgt (pc' := 36) rfl rfl (fun hc => ?_) (fun hc => ?_)
  · have h := jg_t h hc
    exact jg_vret rfl rfl h
  · have h := jg_f h hc
    refine jg_A (pc' := 37) rfl rfl (fun _ _ _ => rfl) ?_
    refine jg_getO (pc' := 40) (k := 19) rfl h0 (by decide) rfl rfl ?_
    refine jg_A (pc' := 42) rfl rfl (fun _ _ _ => rfl) ?_
    refine jg_A (pc' := 43) rfl rfl (fun _ _ _ => rfl) ?_
    refine jg_imul (pc' := 44) rfl rfl ?_
    refine jg_A (pc' := 45) rfl rfl (fun _ _ _ => rfl) ?_
    refine jg_iadd (pc' := 46) rfl rfl ?_
    obtain ⟨hg, h⟩ := h
    refine jg_iald (pc' := 47) rfl (jg_sX12_28 h0) hg rfl ?_
    refine jg_ifne (pc' := 50) rfl rfl (fun hc => ?_) (fun hc => ?_)
    · have h := jg_t h hc
      refine jg_goto rfl ?_
      refine jg_iinc (pc' := 112) (ls' := [.ref a0, .int (.ofInt x1), .int (.ofInt x2), .int (.ofInt (x3 + 1))]) rfl rfl rfl rfl ?_
      refine jg_goto rfl ?_
      exact h
    · have h := jg_f h hc
      refine jg_A (pc' := 54) rfl rfl (fun _ _ _ => rfl) ?_
      refine jg_getO (pc' := 57) (k := 35) rfl h0 (by decide) rfl rfl ?_
      refine jg_A (pc' := 58) rfl rfl (fun _ _ _ => rfl) ?_
      refine jg_A (pc' := 59) rfl rfl (fun _ _ _ => rfl) ?_
      refine jg_iadd (pc' := 60) rfl rfl ?_
      refine jg_A (pc' := 61) rfl rfl (fun _ _ _ => rfl) ?_
      refine jg_getO (pc' := 64) (k := 19) rfl h0 (by decide) rfl rfl ?_
      refine jg_A (pc' := 66) rfl rfl (fun _ _ _ => rfl) ?_
      refine jg_A (pc' := 67) rfl rfl (fun _ _ _ => rfl) ?_
      refine jg_imul (pc' := 68) rfl rfl ?_
      refine jg_A (pc' := 69) rfl rfl (fun _ _ _ => rfl) ?_
      refine jg_iadd (pc' := 70) rfl rfl ?_
      obtain ⟨hg, h⟩ := h
      refine jg_iald (pc' := 71) rfl (jg_sX12_28 h0) hg rfl ?_
      obtain ⟨hg, h⟩ := h
      refine jg_iast (pc' := 72) rfl (jg_sX12_50 h0) hg rfl (fun m101 hm101 => ?_)
      have h := h m101 hm101
      refine jg_A (pc' := 73) rfl rfl (fun _ _ _ => rfl) ?_
      refine jg_getO (pc' := 76) (k := 36) rfl h0 (by decide) rfl rfl ?_
      refine jg_A (pc' := 77) rfl rfl (fun _ _ _ => rfl) ?_
      refine jg_A (pc' := 78) rfl rfl (fun _ _ _ => rfl) ?_
      refine jg_iadd (pc' := 79) rfl rfl ?_
      refine jg_A (pc' := 80) rfl rfl (fun _ _ _ => rfl) ?_
      obtain ⟨hg, h⟩ := h
      refine jg_iast (pc' := 81) rfl (jg_sX12_51 h0) hg rfl (fun m102 hm102 => ?_)
      have h := h m102 hm102
      refine jg_A (pc' := 82) rfl rfl (fun _ _ _ => rfl) ?_
      refine jg_A (pc' := 83) rfl rfl (fun _ _ _ => rfl) ?_
      refine jg_A (pc' := 84) rfl rfl (fun _ _ _ => rfl) ?_
      refine jg_iadd (pc' := 85) rfl rfl ?_
      refine jg_A (pc' := 86) rfl rfl (fun _ _ _ => rfl) ?_
      refine jg_iadd (pc' := 87) rfl rfl ?_
      refine jg_A (pc' := 88) rfl rfl (fun _ _ _ => rfl) ?_
      refine jg_getI (pc' := 91) (bi := 52) rfl h0 (by decide) (Or.inl rfl) rfl rfl ?_
      refine jg_cle (pc' := 94) rfl rfl (fun hc => ?_) (fun hc => ?_)
      · have h := jg_t h hc
        refine jg_A (pc' := 103) rfl rfl (fun _ _ _ => rfl) ?_
        refine jg_getI (pc' := 106) (bi := 52) rfl h0 (by decide) (Or.inl rfl) rfl rfl ?_
        refine jg_putI (pc' := 109) (bi := 52) rfl h0 (by decide) rfl rfl rfl rfl (fun m103 hm103 => ?_)
        have h := h m103 hm103
        refine jg_iinc (pc' := 112) (ls' := [.ref a0, .int (.ofInt x1), .int (.ofInt x2), .int (.ofInt (x3 + 1))]) rfl rfl rfl rfl ?_
        refine jg_goto rfl ?_
        exact h
      · have h := jg_f h hc
        refine jg_A (pc' := 95) rfl rfl (fun _ _ _ => rfl) ?_
        refine jg_A (pc' := 96) rfl rfl (fun _ _ _ => rfl) ?_
        refine jg_iadd (pc' := 97) rfl rfl ?_
        refine jg_A (pc' := 98) rfl rfl (fun _ _ _ => rfl) ?_
        refine jg_iadd (pc' := 99) rfl rfl ?_
        refine jg_goto rfl ?_
        refine jg_putI (pc' := 109) (bi := 52) rfl h0 (by decide) rfl rfl rfl rfl (fun m104 hm104 => ?_)
        have h := h m104 hm104
        refine jg_iinc (pc' := 112) (ls' := [.ref a0, .int (.ofInt x1), .int (.ofInt x2), .int (.ofInt (x3 + 1))]) rfl rfl rfl rfl ?_
        refine jg_goto rfl ?_
        exact h
set_option maxRecDepth 100000 in
set_option maxHeartbeats 4000000 in
theorem jb_X12_layPacked_0 {w : Nat} {a0 : Nat} {σ : jg_M} {Q : jg_M → Prop} (h0 : jg_sh a0 = (12, 0)) (h : jg_GV w 2 mm_X12_layPacked 2 [.ref a0, .int (.ofInt 0), mj_U] σ Q) : jg_CV w 2 mm_X12_layPacked [.ref a0] σ Q := by
  show jg_G w 2 mm_X12_layPacked 0 [.ref a0, mj_U, mj_U] [] σ (jg_QV Q)
  refine jg_A (pc' := 1) rfl rfl (fun _ _ _ => rfl) ?_
  refine jg_A (pc' := 2) (ls' := [.ref a0, .int (.ofInt 0), mj_U]) rfl rfl (fun _ _ _ => rfl) ?_
  exact h
set_option maxRecDepth 100000 in
set_option maxHeartbeats 4000000 in
theorem jb_X12_layPacked_2 {w : Nat} {a0 : Nat} {x1 : Int} {u2 : Value} {σ : jg_M} {Q : jg_M → Prop} (h0 : jg_sh a0 = (12, 0)) (h : (if jg_wr 1000 ≤ jg_wr x1 then ∀ m101 : jg_M, m101 = jg_sI σ a0 52 0 → jg_GV w 2 mm_X12_layPacked 30 [.ref a0, .int (.ofInt 8), u2] m101 Q else (0 ≤ (jg_wr x1) ∧ (jg_wr x1) < 1000) ∧ ∀ m102 : jg_M, m102 = jg_sI σ (a0 + 35) (jg_wr x1) 0 → jg_GV w 2 mm_X12_layPacked 2 [.ref a0, .int (.ofInt (x1 + 1)), u2] m102 Q)) : jg_GV w 2 mm_X12_layPacked 2 [.ref a0, .int (.ofInt x1), u2] σ Q := by
  show jg_G w 2 mm_X12_layPacked 2 [.ref a0, .int (.ofInt x1), u2] [] σ (jg_QV Q)
  refine jg_A (pc' := 3) rfl rfl (fun _ _ _ => rfl) ?_
  refine jg_A (pc' := 6) rfl rfl (fun _ _ _ => rfl) ?_
  refine jg_cge (pc' := 9) rfl rfl (fun hc => ?_) (fun hc => ?_)
  · have h := jg_t h hc
    refine jg_A (pc' := 23) rfl rfl (fun _ _ _ => rfl) ?_
    refine jg_A (pc' := 24) rfl rfl (fun _ _ _ => rfl) ?_
    refine jg_putI (pc' := 27) (bi := 52) rfl h0 (by decide) rfl rfl rfl rfl (fun m101 hm101 => ?_)
    have h := h m101 hm101
    refine jg_A (pc' := 29) rfl rfl (fun _ _ _ => rfl) ?_
    refine jg_A (pc' := 30) (ls' := [.ref a0, .int (.ofInt 8), u2]) rfl rfl (fun _ _ _ => rfl) ?_
    exact h
  · have h := jg_f h hc
    refine jg_A (pc' := 10) rfl rfl (fun _ _ _ => rfl) ?_
    refine jg_getO (pc' := 13) (k := 35) rfl h0 (by decide) rfl rfl ?_
    refine jg_A (pc' := 14) rfl rfl (fun _ _ _ => rfl) ?_
    refine jg_A (pc' := 15) rfl rfl (fun _ _ _ => rfl) ?_
    obtain ⟨hg, h⟩ := h
    refine jg_iast (pc' := 16) rfl (jg_sX12_50 h0) hg rfl (fun m102 hm102 => ?_)
    have h := h m102 hm102
    refine jg_iinc (pc' := 19) (ls' := [.ref a0, .int (.ofInt (x1 + 1)), u2]) rfl rfl rfl rfl ?_
    refine jg_goto rfl ?_
    exact h
set_option maxRecDepth 100000 in
set_option maxHeartbeats 4000000 in
theorem jb_X12_layPacked_30 {w : Nat} {a0 : Nat} {x1 : Int} {u2 : Value} {σ : jg_M} {Q : jg_M → Prop} (h0 : jg_sh a0 = (12, 0)) (h : (if jg_wr x1 < 0 then Q σ else jg_GV w 2 mm_X12_layPacked 36 [.ref a0, .int (.ofInt x1), .int (.ofInt 0)] σ Q)) : jg_GV w 2 mm_X12_layPacked 30 [.ref a0, .int (.ofInt x1), u2] σ Q := by
  show jg_G w 2 mm_X12_layPacked 30 [.ref a0, .int (.ofInt x1), u2] [] σ (jg_QV Q)
  refine jg_A (pc' := 31) rfl rfl (fun _ _ _ => rfl) ?_
  refine jg_iflt (pc' := 34) rfl rfl (fun hc => ?_) (fun hc => ?_)
  · have h := jg_t h hc
    exact jg_vret rfl rfl h
  · have h := jg_f h hc
    refine jg_A (pc' := 35) rfl rfl (fun _ _ _ => rfl) ?_
    refine jg_A (pc' := 36) (ls' := [.ref a0, .int (.ofInt x1), .int (.ofInt 0)]) rfl rfl (fun _ _ _ => rfl) ?_
    exact h
set_option maxRecDepth 100000 in
set_option maxHeartbeats 4000000 in
theorem jb_X12_layPacked_36 {w : Nat} {a0 : Nat} {x1 : Int} {x2 : Int} {σ : jg_M} {Q : jg_M → Prop} (h0 : jg_sh a0 = (12, 0)) (h : (if jg_wr (σ.1 (a0 + 13) (0)) ≤ jg_wr x2 then jg_GV w 2 mm_X12_layPacked 30 [.ref a0, .int (.ofInt (x1 + (-1))), .int (.ofInt x2)] σ Q else jg_CI w 0 mm_X12_actionsOf [.ref a0, .int (.ofInt x2)] σ (fun (z102 : Int) (m101 : jg_M) => (if jg_wr z102 = jg_wr x1 then jg_CV w 1 mm_X12_lays [.ref a0, .int (.ofInt x2)] m101 (fun (m103 : jg_M) => jg_GV w 2 mm_X12_layPacked 36 [.ref a0, .int (.ofInt x1), .int (.ofInt (x2 + 1))] m103 Q) else jg_GV w 2 mm_X12_layPacked 36 [.ref a0, .int (.ofInt x1), .int (.ofInt (x2 + 1))] m101 Q)))) : jg_GV w 2 mm_X12_layPacked 36 [.ref a0, .int (.ofInt x1), .int (.ofInt x2)] σ Q := by
  show jg_G w 2 mm_X12_layPacked 36 [.ref a0, .int (.ofInt x1), .int (.ofInt x2)] [] σ (jg_QV Q)
  refine jg_A (pc' := 37) rfl rfl (fun _ _ _ => rfl) ?_
  refine jg_A (pc' := 38) rfl rfl (fun _ _ _ => rfl) ?_
  refine jg_getO (pc' := 41) (k := 13) rfl h0 (by decide) rfl rfl ?_
  refine jg_A (pc' := 42) rfl rfl (fun _ _ _ => rfl) ?_
  refine jg_ialdK (pc' := 43) (xi := 0) rfl (jg_sX12_22 h0) (by decide) (by decide) rfl ?_
  refine jg_cge (pc' := 46) rfl rfl (fun hc => ?_) (fun hc => ?_)
  · have h := jg_t h hc
    refine jg_iinc (pc' := 69) (ls' := [.ref a0, .int (.ofInt (x1 + (-1))), .int (.ofInt x2)]) rfl rfl rfl rfl ?_
    refine jg_goto rfl ?_
    exact h
  · have h := jg_f h hc
    refine jg_A (pc' := 47) rfl rfl (fun _ _ _ => rfl) ?_
    refine jg_A (pc' := 48) rfl rfl (fun _ _ _ => rfl) ?_
    refine jg_calX (M1 := mm_X12_actionsOf) (hy := 0) (pc' := 51) rfl jm_X12_actionsOf (by decide) rfl h0 (by decide) ⟨Nat.le_of_ble_eq_true rfl, rfl⟩ (Nat.le_of_ble_eq_true rfl) rfl h (jg_kI (fun z102 m101 h => ?_))
    refine jg_A (pc' := 52) rfl rfl (fun _ _ _ => rfl) ?_
    refine jg_cne (pc' := 55) rfl rfl (fun hc => ?_) (fun hc => ?_)
    · have h := jg_t h hc
      refine jg_A (pc' := 56) rfl rfl (fun _ _ _ => rfl) ?_
      refine jg_A (pc' := 57) rfl rfl (fun _ _ _ => rfl) ?_
      refine jg_calX (M1 := mm_X12_lays) (hy := 1) (pc' := 60) rfl jm_X12_lays (by decide) rfl h0 (by decide) ⟨Nat.le_of_ble_eq_true rfl, rfl⟩ (Nat.le_of_ble_eq_true rfl) rfl h (jg_kV (fun m103 h => ?_))
      refine jg_iinc (pc' := 63) (ls' := [.ref a0, .int (.ofInt x1), .int (.ofInt (x2 + 1))]) rfl rfl rfl rfl ?_
      refine jg_goto rfl ?_
      exact h
    · have h := jg_f h hc
      refine jg_iinc (pc' := 63) (ls' := [.ref a0, .int (.ofInt x1), .int (.ofInt (x2 + 1))]) rfl rfl rfl rfl ?_
      refine jg_goto rfl ?_
      exact h
set_option maxRecDepth 100000 in
set_option maxHeartbeats 4000000 in
theorem jb_X12_isToken_0 {w : Nat} {a0 : Nat} {x1 : Int} {σ : jg_M} {Q : Int → jg_M → Prop} (h0 : jg_sh a0 = (12, 0)) (h : (if jg_wr x1 < 0 then Q 0 σ else (if jg_wr (σ.1 (a0 + 3) (0)) ≤ jg_wr x1 then Q 0 σ else Q 1 σ))) : jg_CI w 0 mm_X12_isToken [.ref a0, .int (.ofInt x1)] σ Q := by
  show jg_G w 0 mm_X12_isToken 0 [.ref a0, .int (.ofInt x1)] [] σ (jg_QI Q)
  refine jg_A (pc' := 1) rfl rfl (fun _ _ _ => rfl) ?_
  refine jg_iflt (pc' := 4) rfl rfl (fun hc => ?_) (fun hc => ?_)
  · have h := jg_t h hc
    refine jg_A (pc' := 19) rfl rfl (fun _ _ _ => rfl) ?_
    exact jg_zret rfl rfl (by decide) h
  · have h := jg_f h hc
    refine jg_A (pc' := 5) rfl rfl (fun _ _ _ => rfl) ?_
    refine jg_A (pc' := 6) rfl rfl (fun _ _ _ => rfl) ?_
    refine jg_getO (pc' := 9) (k := 3) rfl h0 (by decide) rfl rfl ?_
    refine jg_A (pc' := 10) rfl rfl (fun _ _ _ => rfl) ?_
    refine jg_ialdK (pc' := 11) (xi := 0) rfl (jg_sX12_12 h0) (by decide) (by decide) rfl ?_
    refine jg_cge (pc' := 14) rfl rfl (fun hc => ?_) (fun hc => ?_)
    · have h := jg_t h hc
      refine jg_A (pc' := 19) rfl rfl (fun _ _ _ => rfl) ?_
      exact jg_zret rfl rfl (by decide) h
    · have h := jg_f h hc
      refine jg_A (pc' := 15) rfl rfl (fun _ _ _ => rfl) ?_
      refine jg_goto rfl ?_
      exact jg_zret rfl rfl (by decide) h
set_option maxRecDepth 100000 in
set_option maxHeartbeats 4000000 in
theorem jb_X12_isKind_0 {w : Nat} {a0 : Nat} {x1 : Int} {σ : jg_M} {Q : Int → jg_M → Prop} (h0 : jg_sh a0 = (12, 0)) (h : (if jg_wr x1 < 0 then Q 0 σ else (if jg_wr (σ.1 (a0 + 4) (0)) ≤ jg_wr x1 then Q 0 σ else Q 1 σ))) : jg_CI w 0 mm_X12_isKind [.ref a0, .int (.ofInt x1)] σ Q := by
  show jg_G w 0 mm_X12_isKind 0 [.ref a0, .int (.ofInt x1)] [] σ (jg_QI Q)
  refine jg_A (pc' := 1) rfl rfl (fun _ _ _ => rfl) ?_
  refine jg_iflt (pc' := 4) rfl rfl (fun hc => ?_) (fun hc => ?_)
  · have h := jg_t h hc
    refine jg_A (pc' := 19) rfl rfl (fun _ _ _ => rfl) ?_
    exact jg_zret rfl rfl (by decide) h
  · have h := jg_f h hc
    refine jg_A (pc' := 5) rfl rfl (fun _ _ _ => rfl) ?_
    refine jg_A (pc' := 6) rfl rfl (fun _ _ _ => rfl) ?_
    refine jg_getO (pc' := 9) (k := 4) rfl h0 (by decide) rfl rfl ?_
    refine jg_A (pc' := 10) rfl rfl (fun _ _ _ => rfl) ?_
    refine jg_ialdK (pc' := 11) (xi := 0) rfl (jg_sX12_13 h0) (by decide) (by decide) rfl ?_
    refine jg_cge (pc' := 14) rfl rfl (fun hc => ?_) (fun hc => ?_)
    · have h := jg_t h hc
      refine jg_A (pc' := 19) rfl rfl (fun _ _ _ => rfl) ?_
      exact jg_zret rfl rfl (by decide) h
    · have h := jg_f h hc
      refine jg_A (pc' := 15) rfl rfl (fun _ _ _ => rfl) ?_
      refine jg_goto rfl ?_
      exact jg_zret rfl rfl (by decide) h
set_option maxRecDepth 100000 in
set_option maxHeartbeats 4000000 in
theorem jb_X12_isRule_0 {w : Nat} {a0 : Nat} {x1 : Int} {σ : jg_M} {Q : Int → jg_M → Prop} (h0 : jg_sh a0 = (12, 0)) (h : (if jg_wr x1 < 0 then Q 0 σ else (if jg_wr (σ.1 (a0 + 5) (0)) ≤ jg_wr x1 then Q 0 σ else Q 1 σ))) : jg_CI w 0 mm_X12_isRule [.ref a0, .int (.ofInt x1)] σ Q := by
  show jg_G w 0 mm_X12_isRule 0 [.ref a0, .int (.ofInt x1)] [] σ (jg_QI Q)
  refine jg_A (pc' := 1) rfl rfl (fun _ _ _ => rfl) ?_
  refine jg_iflt (pc' := 4) rfl rfl (fun hc => ?_) (fun hc => ?_)
  · have h := jg_t h hc
    refine jg_A (pc' := 19) rfl rfl (fun _ _ _ => rfl) ?_
    exact jg_zret rfl rfl (by decide) h
  · have h := jg_f h hc
    refine jg_A (pc' := 5) rfl rfl (fun _ _ _ => rfl) ?_
    refine jg_A (pc' := 6) rfl rfl (fun _ _ _ => rfl) ?_
    refine jg_getO (pc' := 9) (k := 5) rfl h0 (by decide) rfl rfl ?_
    refine jg_A (pc' := 10) rfl rfl (fun _ _ _ => rfl) ?_
    refine jg_ialdK (pc' := 11) (xi := 0) rfl (jg_sX12_14 h0) (by decide) (by decide) rfl ?_
    refine jg_cge (pc' := 14) rfl rfl (fun hc => ?_) (fun hc => ?_)
    · have h := jg_t h hc
      refine jg_A (pc' := 19) rfl rfl (fun _ _ _ => rfl) ?_
      exact jg_zret rfl rfl (by decide) h
    · have h := jg_f h hc
      refine jg_A (pc' := 15) rfl rfl (fun _ _ _ => rfl) ?_
      refine jg_goto rfl ?_
      exact jg_zret rfl rfl (by decide) h
set_option maxRecDepth 100000 in
set_option maxHeartbeats 4000000 in
theorem jb_X12_isState_0 {w : Nat} {a0 : Nat} {x1 : Int} {σ : jg_M} {Q : Int → jg_M → Prop} (h0 : jg_sh a0 = (12, 0)) (h : (if jg_wr x1 < 0 then Q 0 σ else (if jg_wr (σ.1 (a0 + 13) (0)) ≤ jg_wr x1 then Q 0 σ else Q 1 σ))) : jg_CI w 0 mm_X12_isState [.ref a0, .int (.ofInt x1)] σ Q := by
  show jg_G w 0 mm_X12_isState 0 [.ref a0, .int (.ofInt x1)] [] σ (jg_QI Q)
  refine jg_A (pc' := 1) rfl rfl (fun _ _ _ => rfl) ?_
  refine jg_iflt (pc' := 4) rfl rfl (fun hc => ?_) (fun hc => ?_)
  · have h := jg_t h hc
    refine jg_A (pc' := 19) rfl rfl (fun _ _ _ => rfl) ?_
    exact jg_zret rfl rfl (by decide) h
  · have h := jg_f h hc
    refine jg_A (pc' := 5) rfl rfl (fun _ _ _ => rfl) ?_
    refine jg_A (pc' := 6) rfl rfl (fun _ _ _ => rfl) ?_
    refine jg_getO (pc' := 9) (k := 13) rfl h0 (by decide) rfl rfl ?_
    refine jg_A (pc' := 10) rfl rfl (fun _ _ _ => rfl) ?_
    refine jg_ialdK (pc' := 11) (xi := 0) rfl (jg_sX12_22 h0) (by decide) (by decide) rfl ?_
    refine jg_cge (pc' := 14) rfl rfl (fun hc => ?_) (fun hc => ?_)
    · have h := jg_t h hc
      refine jg_A (pc' := 19) rfl rfl (fun _ _ _ => rfl) ?_
      exact jg_zret rfl rfl (by decide) h
    · have h := jg_f h hc
      refine jg_A (pc' := 15) rfl rfl (fun _ _ _ => rfl) ?_
      refine jg_goto rfl ?_
      exact jg_zret rfl rfl (by decide) h
set_option maxRecDepth 100000 in
set_option maxHeartbeats 4000000 in
theorem jb_X12_byText_0 {w : Nat} {a0 : Nat} {σ : jg_M} {Q : jg_M → Prop} (h0 : jg_sh a0 = (12, 0)) (h : ∀ m101 : jg_M, m101 = jg_sI σ a0 36 0 → ∀ m102 : jg_M, m102 = jg_sI m101 a0 35 0 → ∀ m103 : jg_M, m103 = jg_sI m102 a0 34 (-1) → ∀ m104 : jg_M, m104 = jg_sI m103 a0 33 0 → ∀ m105 : jg_M, m105 = jg_sI m104 a0 38 0 → Q m105) : jg_CV w 0 mm_X12_byText [.ref a0] σ Q := by
  show jg_G w 0 mm_X12_byText 0 [.ref a0] [] σ (jg_QV Q)
  refine jg_A (pc' := 1) rfl rfl (fun _ _ _ => rfl) ?_
  refine jg_A (pc' := 2) rfl rfl (fun _ _ _ => rfl) ?_
  refine jg_putI (pc' := 5) (bi := 36) rfl h0 (by decide) rfl rfl rfl rfl (fun m101 hm101 => ?_)
  have h := h m101 hm101
  refine jg_A (pc' := 6) rfl rfl (fun _ _ _ => rfl) ?_
  refine jg_A (pc' := 7) rfl rfl (fun _ _ _ => rfl) ?_
  refine jg_putI (pc' := 10) (bi := 35) rfl h0 (by decide) rfl rfl rfl rfl (fun m102 hm102 => ?_)
  have h := h m102 hm102
  refine jg_A (pc' := 11) rfl rfl (fun _ _ _ => rfl) ?_
  refine jg_A (pc' := 12) rfl rfl (fun _ _ _ => rfl) ?_
  refine jg_putI (pc' := 15) (bi := 34) rfl h0 (by decide) rfl rfl rfl rfl (fun m103 hm103 => ?_)
  have h := h m103 hm103
  refine jg_A (pc' := 16) rfl rfl (fun _ _ _ => rfl) ?_
  refine jg_A (pc' := 17) rfl rfl (fun _ _ _ => rfl) ?_
  refine jg_putI (pc' := 20) (bi := 33) rfl h0 (by decide) rfl rfl rfl rfl (fun m104 hm104 => ?_)
  have h := h m104 hm104
  refine jg_A (pc' := 21) rfl rfl (fun _ _ _ => rfl) ?_
  refine jg_A (pc' := 22) rfl rfl (fun _ _ _ => rfl) ?_
  refine jg_putI (pc' := 25) (bi := 38) rfl h0 (by decide) rfl rfl rfl rfl (fun m105 hm105 => ?_)
  have h := h m105 hm105
  exact jg_vret rfl rfl h
set_option maxRecDepth 100000 in
set_option maxHeartbeats 4000000 in
theorem jb_X12_fails_0 {w : Nat} {a0 : Nat} {x1 : Int} {σ : jg_M} {Q : Int → jg_M → Prop} (h0 : jg_sh a0 = (12, 0)) (h : ∀ m101 : jg_M, m101 = jg_sI σ a0 2 x1 → Q 0 m101) : jg_CI w 0 mm_X12_fails [.ref a0, .int (.ofInt x1)] σ Q := by
  show jg_G w 0 mm_X12_fails 0 [.ref a0, .int (.ofInt x1)] [] σ (jg_QI Q)
  refine jg_A (pc' := 1) rfl rfl (fun _ _ _ => rfl) ?_
  refine jg_A (pc' := 2) rfl rfl (fun _ _ _ => rfl) ?_
  refine jg_putI (pc' := 5) (bi := 2) rfl h0 (by decide) rfl rfl rfl rfl (fun m101 hm101 => ?_)
  have h := h m101 hm101
  refine jg_A (pc' := 6) rfl rfl (fun _ _ _ => rfl) ?_
  exact jg_iret rfl rfl h
set_option maxRecDepth 100000 in
set_option maxHeartbeats 4000000 in
theorem jb_X12_token_0 {w : Nat} {a0 : Nat} {x1 : Int} {x2 : Int} {σ : jg_M} {Q : Int → jg_M → Prop} (h0 : jg_sh a0 = (12, 0)) (h : ∀ m101 : jg_M, m101 = jg_sI σ a0 2 0 → jg_CI w 0 mm_X12_isToken [.ref a0, .int (.ofInt x1)] m101 (fun (z103 : Int) (m102 : jg_M) => (if jg_wr z103 = 0 then Q (-1) m102 else (if jg_wr x2 = 0 then (0 ≤ jg_wr x1 ∧ jg_wr x1 < 14) ∧ Q (m102.1 (a0 + 8) (jg_wr x1)) m102 else (if jg_wr x2 = jg_wr 1 then (0 ≤ jg_wr x1 ∧ jg_wr x1 < 14) ∧ Q (m102.1 (a0 + 9) (jg_wr x1)) m102 else Q (-1) m102))))) : jg_CI w 1 mm_X12_token [.ref a0, .int (.ofInt x1), .int (.ofInt x2)] σ Q := by
  show jg_G w 1 mm_X12_token 0 [.ref a0, .int (.ofInt x1), .int (.ofInt x2)] [] σ (jg_QI Q)
  refine jg_A (pc' := 1) rfl rfl (fun _ _ _ => rfl) ?_
  refine jg_A (pc' := 2) rfl rfl (fun _ _ _ => rfl) ?_
  refine jg_putI (pc' := 5) (bi := 2) rfl h0 (by decide) rfl rfl rfl rfl (fun m101 hm101 => ?_)
  have h := h m101 hm101
  refine jg_A (pc' := 6) rfl rfl (fun _ _ _ => rfl) ?_
  refine jg_A (pc' := 7) rfl rfl (fun _ _ _ => rfl) ?_
  refine jg_calX (M1 := mm_X12_isToken) (hy := 0) (pc' := 10) rfl jm_X12_isToken (by decide) rfl h0 (by decide) ⟨Nat.le_of_ble_eq_true rfl, rfl⟩ (Nat.le_of_ble_eq_true rfl) rfl h (jg_kI (fun z103 m102 h => ?_))
  refine jg_ifne (pc' := 13) rfl rfl (fun hc => ?_) (fun hc => ?_)
  · have h := jg_t h hc
    refine jg_A (pc' := 14) rfl rfl (fun _ _ _ => rfl) ?_
    refine jg_goto rfl ?_
    exact jg_iret rfl rfl h
  · have h := jg_f h hc
    refine jg_A (pc' := 18) rfl rfl (fun _ _ _ => rfl) ?_
    refine jg_ifne (pc' := 21) rfl rfl (fun hc => ?_) (fun hc => ?_)
    · have h := jg_t h hc
      refine jg_A (pc' := 22) rfl rfl (fun _ _ _ => rfl) ?_
      refine jg_getO (pc' := 25) (k := 8) rfl h0 (by decide) rfl rfl ?_
      refine jg_A (pc' := 26) rfl rfl (fun _ _ _ => rfl) ?_
      obtain ⟨hg, h⟩ := h
      refine jg_iald (pc' := 27) rfl (jg_sX12_17 h0) hg rfl ?_
      refine jg_goto rfl ?_
      exact jg_iret rfl rfl h
    · have h := jg_f h hc
      refine jg_A (pc' := 31) rfl rfl (fun _ _ _ => rfl) ?_
      refine jg_A (pc' := 32) rfl rfl (fun _ _ _ => rfl) ?_
      refine jg_cne (pc' := 35) rfl rfl (fun hc => ?_) (fun hc => ?_)
      · have h := jg_t h hc
        refine jg_A (pc' := 36) rfl rfl (fun _ _ _ => rfl) ?_
        refine jg_getO (pc' := 39) (k := 9) rfl h0 (by decide) rfl rfl ?_
        refine jg_A (pc' := 40) rfl rfl (fun _ _ _ => rfl) ?_
        obtain ⟨hg, h⟩ := h
        refine jg_iald (pc' := 41) rfl (jg_sX12_18 h0) hg rfl ?_
        refine jg_goto rfl ?_
        exact jg_iret rfl rfl h
      · have h := jg_f h hc
        refine jg_A (pc' := 45) rfl rfl (fun _ _ _ => rfl) ?_
        exact jg_iret rfl rfl h
set_option maxRecDepth 100000 in
set_option maxHeartbeats 4000000 in
theorem jb_X12_kind_0 {w : Nat} {a0 : Nat} {x1 : Int} {x2 : Int} {σ : jg_M} {Q : Int → jg_M → Prop} (h0 : jg_sh a0 = (12, 0)) (h : ∀ m101 : jg_M, m101 = jg_sI σ a0 2 0 → jg_CI w 0 mm_X12_isKind [.ref a0, .int (.ofInt x1)] m101 (fun (z103 : Int) (m102 : jg_M) => (if jg_wr z103 = 0 then jg_CI w 0 mm_X12_fails [.ref a0, .int (.ofInt 1)] m102 (fun (z105 : Int) (m104 : jg_M) => Q z105 m104) else (if jg_wr x2 = 0 then Q (jg_and (jg_shr (m102.1 (a0 + 20) (0)) x1) 1) m102 else (if jg_wr x2 = 1 then (0 ≤ jg_wr x1 ∧ jg_wr x1 < 10) ∧ Q (m102.1 (a0 + 21) (jg_wr x1)) m102 else (if jg_wr x2 = 2 then jg_CV w 3 mm_X12_layFollow [.ref a0, .int (.ofInt 0), .int (.ofInt 0), .int (.ofInt (-1)), .int (.ofInt 0)] m102 (fun (m106 : jg_M) => (0 ≤ jg_wr x1 ∧ jg_wr x1 < 5) ∧ Q (m106.1 (a0 + 25) (jg_wr x1)) m106) else (if jg_wr x2 = 3 then jg_GI w 4 mm_X12_kind 92 [.ref a0, .int (.ofInt x1), .int (.ofInt x2), .int (.ofInt 0), .int (.ofInt 0)] m102 Q else (if jg_wr x2 = 4 then (0 ≤ jg_wr x1 ∧ jg_wr x1 < 5) ∧ (if 0 ≤ jg_wr (m102.1 (a0 + 29) (jg_wr x1)) then (0 ≤ jg_wr x1 ∧ jg_wr x1 < 5) ∧ Q (m102.1 (a0 + 29) (jg_wr x1)) m102 else Q (-2) m102) else jg_CI w 0 mm_X12_fails [.ref a0, .int (.ofInt 2)] m102 (fun (z108 : Int) (m107 : jg_M) => Q z108 m107))))))))) : jg_CI w 4 mm_X12_kind [.ref a0, .int (.ofInt x1), .int (.ofInt x2)] σ Q := by
  show jg_G w 4 mm_X12_kind 0 [.ref a0, .int (.ofInt x1), .int (.ofInt x2), mj_U, mj_U] [] σ (jg_QI Q)
  refine jg_A (pc' := 1) rfl rfl (fun _ _ _ => rfl) ?_
  refine jg_A (pc' := 2) rfl rfl (fun _ _ _ => rfl) ?_
  refine jg_putI (pc' := 5) (bi := 2) rfl h0 (by decide) rfl rfl rfl rfl (fun m101 hm101 => ?_)
  have h := h m101 hm101
  refine jg_A (pc' := 6) rfl rfl (fun _ _ _ => rfl) ?_
  refine jg_A (pc' := 7) rfl rfl (fun _ _ _ => rfl) ?_
  refine jg_calX (M1 := mm_X12_isKind) (hy := 0) (pc' := 10) rfl jm_X12_isKind (by decide) rfl h0 (by decide) ⟨Nat.le_of_ble_eq_true rfl, rfl⟩ (Nat.le_of_ble_eq_true rfl) rfl h (jg_kI (fun z103 m102 h => ?_))
  refine jg_ifne (pc' := 13) rfl rfl (fun hc => ?_) (fun hc => ?_)
  · have h := jg_t h hc
    refine jg_A (pc' := 14) rfl rfl (fun _ _ _ => rfl) ?_
    refine jg_A (pc' := 15) rfl rfl (fun _ _ _ => rfl) ?_
    refine jg_calX (M1 := mm_X12_fails) (hy := 0) (pc' := 18) rfl jm_X12_fails (by decide) rfl h0 (by decide) ⟨Nat.le_of_ble_eq_true rfl, rfl⟩ (Nat.le_of_ble_eq_true rfl) rfl h (jg_kI (fun z105 m104 h => ?_))
    exact jg_iret rfl rfl h
  · have h := jg_f h hc
    refine jg_A (pc' := 20) rfl rfl (fun _ _ _ => rfl) ?_
    refine jg_A (pc' := 21) (ls' := [.ref a0, .int (.ofInt x1), .int (.ofInt x2), .int (.ofInt 0), mj_U]) rfl rfl (fun _ _ _ => rfl) ?_
    refine jg_A (pc' := 22) rfl rfl (fun _ _ _ => rfl) ?_
    refine jg_tsw rfl rfl ?_
    refine jg_swc (v := 0) (t := 56) (fun hc => ?_) (fun hc => ?_)
    · have h := jg_t h hc
      refine jg_A (pc' := 57) rfl rfl (fun _ _ _ => rfl) ?_
      refine jg_getO (pc' := 60) (k := 20) rfl h0 (by decide) rfl rfl ?_
      refine jg_A (pc' := 61) rfl rfl (fun _ _ _ => rfl) ?_
      refine jg_ialdK (pc' := 62) (xi := 0) rfl (jg_sX12_29 h0) (by decide) (by decide) rfl ?_
      refine jg_A (pc' := 63) rfl rfl (fun _ _ _ => rfl) ?_
      refine jg_ishr (pc' := 64) rfl rfl ?_
      refine jg_A (pc' := 65) rfl rfl (fun _ _ _ => rfl) ?_
      refine jg_iand (pc' := 66) rfl rfl ?_
      exact jg_iret rfl rfl h
    have h := jg_f h hc
    refine jg_swc (v := 1) (t := 67) (fun hc => ?_) (fun hc => ?_)
    · have h := jg_t h hc
      refine jg_A (pc' := 68) rfl rfl (fun _ _ _ => rfl) ?_
      refine jg_getO (pc' := 71) (k := 21) rfl h0 (by decide) rfl rfl ?_
      refine jg_A (pc' := 72) rfl rfl (fun _ _ _ => rfl) ?_
      obtain ⟨hg, h⟩ := h
      refine jg_iald (pc' := 73) rfl (jg_sX12_30 h0) hg rfl ?_
      exact jg_iret rfl rfl h
    have h := jg_f h hc
    refine jg_swc (v := 2) (t := 74) (fun hc => ?_) (fun hc => ?_)
    · have h := jg_t h hc
      refine jg_A (pc' := 75) rfl rfl (fun _ _ _ => rfl) ?_
      refine jg_A (pc' := 76) rfl rfl (fun _ _ _ => rfl) ?_
      refine jg_A (pc' := 77) rfl rfl (fun _ _ _ => rfl) ?_
      refine jg_A (pc' := 78) rfl rfl (fun _ _ _ => rfl) ?_
      refine jg_A (pc' := 79) rfl rfl (fun _ _ _ => rfl) ?_
      refine jg_calX (M1 := mm_X12_layFollow) (hy := 3) (pc' := 82) rfl jm_X12_layFollow (by decide) rfl h0 (by decide) ⟨Nat.le_of_ble_eq_true rfl, rfl⟩ (Nat.le_of_ble_eq_true rfl) rfl h (jg_kV (fun m106 h => ?_))
      refine jg_A (pc' := 83) rfl rfl (fun _ _ _ => rfl) ?_
      refine jg_getO (pc' := 86) (k := 25) rfl h0 (by decide) rfl rfl ?_
      refine jg_A (pc' := 87) rfl rfl (fun _ _ _ => rfl) ?_
      obtain ⟨hg, h⟩ := h
      refine jg_iald (pc' := 88) rfl (jg_sX12_39 h0) hg rfl ?_
      exact jg_iret rfl rfl h
    have h := jg_f h hc
    refine jg_swc (v := 3) (t := 89) (fun hc => ?_) (fun hc => ?_)
    · have h := jg_t h hc
      refine jg_A (pc' := 90) rfl rfl (fun _ _ _ => rfl) ?_
      refine jg_A (pc' := 92) (ls' := [.ref a0, .int (.ofInt x1), .int (.ofInt x2), .int (.ofInt 0), .int (.ofInt 0)]) rfl rfl (fun _ _ _ => rfl) ?_
      exact h
    have h := jg_f h hc
    refine jg_swc (v := 4) (t := 130) (fun hc => ?_) (fun hc => ?_)
    · have h := jg_t h hc
      refine jg_A (pc' := 131) rfl rfl (fun _ _ _ => rfl) ?_
      refine jg_getO (pc' := 134) (k := 29) rfl h0 (by decide) rfl rfl ?_
      refine jg_A (pc' := 135) rfl rfl (fun _ _ _ => rfl) ?_
      obtain ⟨hg, h⟩ := h
      refine jg_iald (pc' := 136) rfl (jg_sX12_43 h0) hg rfl ?_
      refine jg_ifge (pc' := 139) rfl rfl (fun hc => ?_) (fun hc => ?_)
      · have h := jg_t h hc
        refine jg_A (pc' := 145) rfl rfl (fun _ _ _ => rfl) ?_
        refine jg_getO (pc' := 148) (k := 29) rfl h0 (by decide) rfl rfl ?_
        refine jg_A (pc' := 149) rfl rfl (fun _ _ _ => rfl) ?_
        obtain ⟨hg, h⟩ := h
        refine jg_iald (pc' := 150) rfl (jg_sX12_43 h0) hg rfl ?_
        exact jg_iret rfl rfl h
      · have h := jg_f h hc
        refine jg_A (pc' := 141) rfl rfl (fun _ _ _ => rfl) ?_
        refine jg_goto rfl ?_
        exact jg_iret rfl rfl h
    have h := jg_f h hc
    show jg_G w 4 mm_X12_kind 151 [.ref a0, .int (.ofInt x1), .int (.ofInt x2), .int (.ofInt 0), mj_U] [] m102 (jg_QI Q)
    refine jg_A (pc' := 152) rfl rfl (fun _ _ _ => rfl) ?_
    refine jg_A (pc' := 153) rfl rfl (fun _ _ _ => rfl) ?_
    refine jg_calX (M1 := mm_X12_fails) (hy := 0) (pc' := 156) rfl jm_X12_fails (by decide) rfl h0 (by decide) ⟨Nat.le_of_ble_eq_true rfl, rfl⟩ (Nat.le_of_ble_eq_true rfl) rfl h (jg_kI (fun z108 m107 h => ?_))
    exact jg_iret rfl rfl h
set_option maxRecDepth 100000 in
set_option maxHeartbeats 4000000 in
theorem jb_X12_kind_92 {w : Nat} {a0 : Nat} {x1 : Int} {u2 : Value} {x3 : Int} {x4 : Int} {σ : jg_M} {Q : Int → jg_M → Prop} (h0 : jg_sh a0 = (12, 0)) (h : (if jg_wr (σ.1 (a0 + 5) (0)) ≤ jg_wr x4 then Q x3 σ else (0 ≤ jg_wr x4 ∧ jg_wr x4 < 26) ∧ (if jg_wr (σ.1 (a0 + 10) (jg_wr x4)) = jg_wr x1 then ∀ t101 : Int, t101 = (x3 + 1) → jg_GI w 4 mm_X12_kind 92 [.ref a0, .int (.ofInt x1), u2, .int (.ofInt t101), .int (.ofInt (x4 + 1))] σ Q else ∀ t102 : Int, t102 = (x3 + 0) → jg_GI w 4 mm_X12_kind 92 [.ref a0, .int (.ofInt x1), u2, .int (.ofInt t102), .int (.ofInt (x4 + 1))] σ Q))) : jg_GI w 4 mm_X12_kind 92 [.ref a0, .int (.ofInt x1), u2, .int (.ofInt x3), .int (.ofInt x4)] σ Q := by
  show jg_G w 4 mm_X12_kind 92 [.ref a0, .int (.ofInt x1), u2, .int (.ofInt x3), .int (.ofInt x4)] [] σ (jg_QI Q)
  refine jg_A (pc' := 94) rfl rfl (fun _ _ _ => rfl) ?_
  refine jg_A (pc' := 95) rfl rfl (fun _ _ _ => rfl) ?_
  refine jg_getO (pc' := 98) (k := 5) rfl h0 (by decide) rfl rfl ?_
  refine jg_A (pc' := 99) rfl rfl (fun _ _ _ => rfl) ?_
  refine jg_ialdK (pc' := 100) (xi := 0) rfl (jg_sX12_14 h0) (by decide) (by decide) rfl ?_
  refine jg_cge (pc' := 103) rfl rfl (fun hc => ?_) (fun hc => ?_)
  · have h := jg_t h hc
    refine jg_A (pc' := 129) rfl rfl (fun _ _ _ => rfl) ?_
    exact jg_iret rfl rfl h
  · have h := jg_f h hc
    refine jg_A (pc' := 104) rfl rfl (fun _ _ _ => rfl) ?_
    refine jg_A (pc' := 105) rfl rfl (fun _ _ _ => rfl) ?_
    refine jg_getO (pc' := 108) (k := 10) rfl h0 (by decide) rfl rfl ?_
    refine jg_A (pc' := 110) rfl rfl (fun _ _ _ => rfl) ?_
    obtain ⟨hg, h⟩ := h
    refine jg_iald (pc' := 111) rfl (jg_sX12_19 h0) hg rfl ?_
    refine jg_A (pc' := 112) rfl rfl (fun _ _ _ => rfl) ?_
    refine jg_cne (pc' := 115) rfl rfl (fun hc => ?_) (fun hc => ?_)
    · have h := jg_t h hc
      refine jg_A (pc' := 116) rfl rfl (fun _ _ _ => rfl) ?_
      refine jg_goto rfl ?_
      refine jg_iadd (pc' := 121) rfl rfl ?_
      refine jg_nm (F := fun t101 => jg_G w 4 mm_X12_kind 121 [.ref a0, .int (.ofInt x1), u2, .int (.ofInt x3), .int (.ofInt x4)] [.int (.ofInt t101)] σ (jg_QI Q)) (x3 + 1) (fun t101 ht101 => ?_)
      have h := h t101 ht101
      refine jg_A (pc' := 122) (ls' := [.ref a0, .int (.ofInt x1), u2, .int (.ofInt t101), .int (.ofInt x4)]) rfl rfl (fun _ _ _ => rfl) ?_
      refine jg_iinc (pc' := 125) (ls' := [.ref a0, .int (.ofInt x1), u2, .int (.ofInt t101), .int (.ofInt (x4 + 1))]) rfl rfl rfl rfl ?_
      refine jg_goto rfl ?_
      exact h
    · have h := jg_f h hc
      refine jg_A (pc' := 120) rfl rfl (fun _ _ _ => rfl) ?_
      refine jg_iadd (pc' := 121) rfl rfl ?_
      refine jg_nm (F := fun t102 => jg_G w 4 mm_X12_kind 121 [.ref a0, .int (.ofInt x1), u2, .int (.ofInt x3), .int (.ofInt x4)] [.int (.ofInt t102)] σ (jg_QI Q)) (x3 + 0) (fun t102 ht102 => ?_)
      have h := h t102 ht102
      refine jg_A (pc' := 122) (ls' := [.ref a0, .int (.ofInt x1), u2, .int (.ofInt t102), .int (.ofInt x4)]) rfl rfl (fun _ _ _ => rfl) ?_
      refine jg_iinc (pc' := 125) (ls' := [.ref a0, .int (.ofInt x1), u2, .int (.ofInt t102), .int (.ofInt (x4 + 1))]) rfl rfl rfl rfl ?_
      refine jg_goto rfl ?_
      exact h
set_option maxRecDepth 100000 in
set_option maxHeartbeats 4000000 in
theorem jb_X12_rule_0 {w : Nat} {a0 : Nat} {x1 : Int} {x2 : Int} {σ : jg_M} {Q : Int → jg_M → Prop} (h0 : jg_sh a0 = (12, 0)) (h : ∀ m101 : jg_M, m101 = jg_sI σ a0 2 0 → jg_CI w 0 mm_X12_isRule [.ref a0, .int (.ofInt x1)] m101 (fun (z103 : Int) (m102 : jg_M) => (if jg_wr z103 = 0 then Q (-1) m102 else jg_CI w 0 mm_X12_isIn [.int (.ofInt x2), .int (.ofInt 0), .int (.ofInt 6)] m102 (fun (z105 : Int) (m104 : jg_M) => (if jg_wr z105 = 0 then Q (-1) m104 else jg_CV w 0 mm_X12_byText [.ref a0] m104 (fun (m106 : jg_M) => (if jg_wr x2 = 0 then (0 ≤ jg_wr x1 ∧ jg_wr x1 < 26) ∧ Q (m106.1 (a0 + 10) (jg_wr x1)) m106 else (if jg_wr x2 = jg_wr 1 then (0 ≤ jg_wr x1 ∧ jg_wr x1 < 26) ∧ Q (m106.1 (a0 + 11) (jg_wr x1)) m106 else (if jg_wr x2 = jg_wr 6 then jg_CI w 1 mm_X12_ruleRank [.ref a0, .int (.ofInt x1)] m106 (fun (z108 : Int) (m107 : jg_M) => Q z108 m107) else (0 ≤ jg_wr x1 ∧ jg_wr x1 < 26) ∧ (if jg_wr (m106.1 (a0 + 11) (jg_wr x1)) ≤ jg_wr (x2 - 2) then Q (-2) m106 else (0 ≤ jg_wr (((4 * x1) + x2) - 2) ∧ jg_wr (((4 * x1) + x2) - 2) < 104) ∧ Q (m106.1 (a0 + 12) (jg_wr (((4 * x1) + x2) - 2))) m106)))))))))) : jg_CI w 2 mm_X12_rule [.ref a0, .int (.ofInt x1), .int (.ofInt x2)] σ Q := by
  show jg_G w 2 mm_X12_rule 0 [.ref a0, .int (.ofInt x1), .int (.ofInt x2)] [] σ (jg_QI Q)
  refine jg_A (pc' := 1) rfl rfl (fun _ _ _ => rfl) ?_
  refine jg_A (pc' := 2) rfl rfl (fun _ _ _ => rfl) ?_
  refine jg_putI (pc' := 5) (bi := 2) rfl h0 (by decide) rfl rfl rfl rfl (fun m101 hm101 => ?_)
  have h := h m101 hm101
  refine jg_A (pc' := 6) rfl rfl (fun _ _ _ => rfl) ?_
  refine jg_A (pc' := 7) rfl rfl (fun _ _ _ => rfl) ?_
  refine jg_calX (M1 := mm_X12_isRule) (hy := 0) (pc' := 10) rfl jm_X12_isRule (by decide) rfl h0 (by decide) ⟨Nat.le_of_ble_eq_true rfl, rfl⟩ (Nat.le_of_ble_eq_true rfl) rfl h (jg_kI (fun z103 m102 h => ?_))
  refine jg_ifeq (pc' := 13) rfl rfl (fun hc => ?_) (fun hc => ?_)
  · have h := jg_t h hc
    refine jg_A (pc' := 24) rfl rfl (fun _ _ _ => rfl) ?_
    exact jg_iret rfl rfl h
  · have h := jg_f h hc
    refine jg_A (pc' := 14) rfl rfl (fun _ _ _ => rfl) ?_
    refine jg_A (pc' := 15) rfl rfl (fun _ _ _ => rfl) ?_
    refine jg_A (pc' := 17) rfl rfl (fun _ _ _ => rfl) ?_
    refine jg_calS (M1 := mm_X12_isIn) (hy := 0) (pc' := 20) rfl (Or.inl rfl) jm_X12_isIn (by decide) rfl ⟨Nat.le_of_ble_eq_true rfl, rfl⟩ (Nat.le_of_ble_eq_true rfl) rfl h (jg_kI (fun z105 m104 h => ?_))
    refine jg_ifne (pc' := 23) rfl rfl (fun hc => ?_) (fun hc => ?_)
    · have h := jg_t h hc
      refine jg_A (pc' := 24) rfl rfl (fun _ _ _ => rfl) ?_
      exact jg_iret rfl rfl h
    · have h := jg_f h hc
      refine jg_A (pc' := 26) rfl rfl (fun _ _ _ => rfl) ?_
      refine jg_calX (M1 := mm_X12_byText) (hy := 0) (pc' := 29) rfl jm_X12_byText (by decide) rfl h0 (by decide) ⟨Nat.le_of_ble_eq_true rfl, rfl⟩ (Nat.le_of_ble_eq_true rfl) rfl h (jg_kV (fun m106 h => ?_))
      refine jg_A (pc' := 30) rfl rfl (fun _ _ _ => rfl) ?_
      refine jg_ifne (pc' := 33) rfl rfl (fun hc => ?_) (fun hc => ?_)
      · have h := jg_t h hc
        refine jg_A (pc' := 34) rfl rfl (fun _ _ _ => rfl) ?_
        refine jg_getO (pc' := 37) (k := 10) rfl h0 (by decide) rfl rfl ?_
        refine jg_A (pc' := 38) rfl rfl (fun _ _ _ => rfl) ?_
        obtain ⟨hg, h⟩ := h
        refine jg_iald (pc' := 39) rfl (jg_sX12_19 h0) hg rfl ?_
        exact jg_iret rfl rfl h
      · have h := jg_f h hc
        refine jg_A (pc' := 41) rfl rfl (fun _ _ _ => rfl) ?_
        refine jg_A (pc' := 42) rfl rfl (fun _ _ _ => rfl) ?_
        refine jg_cne (pc' := 45) rfl rfl (fun hc => ?_) (fun hc => ?_)
        · have h := jg_t h hc
          refine jg_A (pc' := 46) rfl rfl (fun _ _ _ => rfl) ?_
          refine jg_getO (pc' := 49) (k := 11) rfl h0 (by decide) rfl rfl ?_
          refine jg_A (pc' := 50) rfl rfl (fun _ _ _ => rfl) ?_
          obtain ⟨hg, h⟩ := h
          refine jg_iald (pc' := 51) rfl (jg_sX12_20 h0) hg rfl ?_
          exact jg_iret rfl rfl h
        · have h := jg_f h hc
          refine jg_A (pc' := 53) rfl rfl (fun _ _ _ => rfl) ?_
          refine jg_A (pc' := 55) rfl rfl (fun _ _ _ => rfl) ?_
          refine jg_cne (pc' := 58) rfl rfl (fun hc => ?_) (fun hc => ?_)
          · have h := jg_t h hc
            refine jg_A (pc' := 59) rfl rfl (fun _ _ _ => rfl) ?_
            refine jg_A (pc' := 60) rfl rfl (fun _ _ _ => rfl) ?_
            refine jg_calX (M1 := mm_X12_ruleRank) (hy := 1) (pc' := 63) rfl jm_X12_ruleRank (by decide) rfl h0 (by decide) ⟨Nat.le_of_ble_eq_true rfl, rfl⟩ (Nat.le_of_ble_eq_true rfl) rfl h (jg_kI (fun z108 m107 h => ?_))
            exact jg_iret rfl rfl h
          · have h := jg_f h hc
            refine jg_A (pc' := 65) rfl rfl (fun _ _ _ => rfl) ?_
            refine jg_A (pc' := 66) rfl rfl (fun _ _ _ => rfl) ?_
            refine jg_isub (pc' := 67) rfl rfl ?_
            refine jg_A (pc' := 68) rfl rfl (fun _ _ _ => rfl) ?_
            refine jg_getO (pc' := 71) (k := 11) rfl h0 (by decide) rfl rfl ?_
            refine jg_A (pc' := 72) rfl rfl (fun _ _ _ => rfl) ?_
            obtain ⟨hg, h⟩ := h
            refine jg_iald (pc' := 73) rfl (jg_sX12_20 h0) hg rfl ?_
            refine jg_cge (pc' := 76) rfl rfl (fun hc => ?_) (fun hc => ?_)
            · have h := jg_t h hc
              refine jg_A (pc' := 93) rfl rfl (fun _ _ _ => rfl) ?_
              exact jg_iret rfl rfl h
            · have h := jg_f h hc
              refine jg_A (pc' := 77) rfl rfl (fun _ _ _ => rfl) ?_
              refine jg_getO (pc' := 80) (k := 12) rfl h0 (by decide) rfl rfl ?_
              refine jg_A (pc' := 81) rfl rfl (fun _ _ _ => rfl) ?_
              refine jg_A (pc' := 82) rfl rfl (fun _ _ _ => rfl) ?_
              refine jg_imul (pc' := 83) rfl rfl ?_
              refine jg_A (pc' := 84) rfl rfl (fun _ _ _ => rfl) ?_
              refine jg_iadd (pc' := 85) rfl rfl ?_
              refine jg_A (pc' := 86) rfl rfl (fun _ _ _ => rfl) ?_
              refine jg_isub (pc' := 87) rfl rfl ?_
              obtain ⟨hg, h⟩ := h
              refine jg_iald (pc' := 88) rfl (jg_sX12_21 h0) hg rfl ?_
              refine jg_goto rfl ?_
              exact jg_iret rfl rfl h
set_option maxRecDepth 100000 in
set_option maxHeartbeats 4000000 in
theorem jb_X12_itemsOf_0 {w : Nat} {a0 : Nat} {x1 : Int} {x2 : Int} {σ : jg_M} {Q : Int → jg_M → Prop} (h0 : jg_sh a0 = (12, 0)) (h : jg_GI w 0 mm_X12_itemsOf 5 [.ref a0, .int (.ofInt x1), .int (.ofInt x2), .int (.ofInt 0), .int (.ofInt 0)] σ Q) : jg_CI w 0 mm_X12_itemsOf [.ref a0, .int (.ofInt x1), .int (.ofInt x2)] σ Q := by
  show jg_G w 0 mm_X12_itemsOf 0 [.ref a0, .int (.ofInt x1), .int (.ofInt x2), mj_U, mj_U] [] σ (jg_QI Q)
  refine jg_A (pc' := 1) rfl rfl (fun _ _ _ => rfl) ?_
  refine jg_A (pc' := 2) (ls' := [.ref a0, .int (.ofInt x1), .int (.ofInt x2), .int (.ofInt 0), mj_U]) rfl rfl (fun _ _ _ => rfl) ?_
  refine jg_A (pc' := 3) rfl rfl (fun _ _ _ => rfl) ?_
  refine jg_A (pc' := 5) (ls' := [.ref a0, .int (.ofInt x1), .int (.ofInt x2), .int (.ofInt 0), .int (.ofInt 0)]) rfl rfl (fun _ _ _ => rfl) ?_
  exact h
set_option maxRecDepth 100000 in
set_option maxHeartbeats 4000000 in
theorem jb_X12_itemsOf_5 {w : Nat} {a0 : Nat} {x1 : Int} {x2 : Int} {x3 : Int} {x4 : Int} {σ : jg_M} {Q : Int → jg_M → Prop} (h0 : jg_sh a0 = (12, 0)) (h : (if jg_wr 65 ≤ jg_wr x4 then Q x3 σ else (if jg_wr x2 = 0 then (0 ≤ jg_wr ((65 * x1) + x4) ∧ jg_wr ((65 * x1) + x4) < 6240) ∧ (if jg_wr (σ.1 (a0 + 15) (jg_wr ((65 * x1) + x4))) = 0 then ∀ t101 : Int, t101 = (x3 + 0) → jg_GI w 0 mm_X12_itemsOf 5 [.ref a0, .int (.ofInt x1), .int (.ofInt x2), .int (.ofInt t101), .int (.ofInt (x4 + 1))] σ Q else ∀ t102 : Int, t102 = (x3 + 1) → jg_GI w 0 mm_X12_itemsOf 5 [.ref a0, .int (.ofInt x1), .int (.ofInt x2), .int (.ofInt t102), .int (.ofInt (x4 + 1))] σ Q) else (0 ≤ jg_wr ((65 * x1) + x4) ∧ jg_wr ((65 * x1) + x4) < 6240) ∧ (if jg_wr (σ.1 (a0 + 14) (jg_wr ((65 * x1) + x4))) = 0 then ∀ t103 : Int, t103 = (x3 + 0) → jg_GI w 0 mm_X12_itemsOf 5 [.ref a0, .int (.ofInt x1), .int (.ofInt x2), .int (.ofInt t103), .int (.ofInt (x4 + 1))] σ Q else ∀ t104 : Int, t104 = (x3 + 1) → jg_GI w 0 mm_X12_itemsOf 5 [.ref a0, .int (.ofInt x1), .int (.ofInt x2), .int (.ofInt t104), .int (.ofInt (x4 + 1))] σ Q)))) : jg_GI w 0 mm_X12_itemsOf 5 [.ref a0, .int (.ofInt x1), .int (.ofInt x2), .int (.ofInt x3), .int (.ofInt x4)] σ Q := by
  show jg_G w 0 mm_X12_itemsOf 5 [.ref a0, .int (.ofInt x1), .int (.ofInt x2), .int (.ofInt x3), .int (.ofInt x4)] [] σ (jg_QI Q)
  refine jg_A (pc' := 7) rfl rfl (fun _ _ _ => rfl) ?_
  refine jg_A (pc' := 9) rfl rfl (fun _ _ _ => rfl) ?_
  refine jg_cge (pc' := 12) rfl rfl (fun hc => ?_) (fun hc => ?_)
  · have h := jg_t h hc
    refine jg_A (pc' := 64) rfl rfl (fun _ _ _ => rfl) ?_
    exact jg_iret rfl rfl h
  · have h := jg_f h hc
    refine jg_A (pc' := 13) rfl rfl (fun _ _ _ => rfl) ?_
    refine jg_A (pc' := 14) rfl rfl (fun _ _ _ => rfl) ?_
    refine jg_ifeq (pc' := 17) rfl rfl (fun hc => ?_) (fun hc => ?_)
    · have h := jg_t h hc
      refine jg_A (pc' := 36) rfl rfl (fun _ _ _ => rfl) ?_
      refine jg_getO (pc' := 39) (k := 15) rfl h0 (by decide) rfl rfl ?_
      refine jg_A (pc' := 41) rfl rfl (fun _ _ _ => rfl) ?_
      refine jg_A (pc' := 42) rfl rfl (fun _ _ _ => rfl) ?_
      refine jg_imul (pc' := 43) rfl rfl ?_
      refine jg_A (pc' := 45) rfl rfl (fun _ _ _ => rfl) ?_
      refine jg_iadd (pc' := 46) rfl rfl ?_
      obtain ⟨hg, h⟩ := h
      refine jg_zald (pc' := 47) rfl (jg_sX12_24 h0) hg rfl ?_
      refine jg_ifeq (pc' := 50) rfl rfl (fun hc => ?_) (fun hc => ?_)
      · have h := jg_t h hc
        refine jg_A (pc' := 55) rfl rfl (fun _ _ _ => rfl) ?_
        refine jg_iadd (pc' := 56) rfl rfl ?_
        refine jg_nm (F := fun t101 => jg_G w 0 mm_X12_itemsOf 56 [.ref a0, .int (.ofInt x1), .int (.ofInt x2), .int (.ofInt x3), .int (.ofInt x4)] [.int (.ofInt t101)] σ (jg_QI Q)) (x3 + 0) (fun t101 ht101 => ?_)
        have h := h t101 ht101
        refine jg_A (pc' := 57) (ls' := [.ref a0, .int (.ofInt x1), .int (.ofInt x2), .int (.ofInt t101), .int (.ofInt x4)]) rfl rfl (fun _ _ _ => rfl) ?_
        refine jg_iinc (pc' := 60) (ls' := [.ref a0, .int (.ofInt x1), .int (.ofInt x2), .int (.ofInt t101), .int (.ofInt (x4 + 1))]) rfl rfl rfl rfl ?_
        refine jg_goto rfl ?_
        exact h
      · have h := jg_f h hc
        refine jg_A (pc' := 51) rfl rfl (fun _ _ _ => rfl) ?_
        refine jg_goto rfl ?_
        refine jg_iadd (pc' := 56) rfl rfl ?_
        refine jg_nm (F := fun t102 => jg_G w 0 mm_X12_itemsOf 56 [.ref a0, .int (.ofInt x1), .int (.ofInt x2), .int (.ofInt x3), .int (.ofInt x4)] [.int (.ofInt t102)] σ (jg_QI Q)) (x3 + 1) (fun t102 ht102 => ?_)
        have h := h t102 ht102
        refine jg_A (pc' := 57) (ls' := [.ref a0, .int (.ofInt x1), .int (.ofInt x2), .int (.ofInt t102), .int (.ofInt x4)]) rfl rfl (fun _ _ _ => rfl) ?_
        refine jg_iinc (pc' := 60) (ls' := [.ref a0, .int (.ofInt x1), .int (.ofInt x2), .int (.ofInt t102), .int (.ofInt (x4 + 1))]) rfl rfl rfl rfl ?_
        refine jg_goto rfl ?_
        exact h
    · have h := jg_f h hc
      refine jg_A (pc' := 18) rfl rfl (fun _ _ _ => rfl) ?_
      refine jg_getO (pc' := 21) (k := 14) rfl h0 (by decide) rfl rfl ?_
      refine jg_A (pc' := 23) rfl rfl (fun _ _ _ => rfl) ?_
      refine jg_A (pc' := 24) rfl rfl (fun _ _ _ => rfl) ?_
      refine jg_imul (pc' := 25) rfl rfl ?_
      refine jg_A (pc' := 27) rfl rfl (fun _ _ _ => rfl) ?_
      refine jg_iadd (pc' := 28) rfl rfl ?_
      obtain ⟨hg, h⟩ := h
      refine jg_zald (pc' := 29) rfl (jg_sX12_23 h0) hg rfl ?_
      refine jg_ifeq (pc' := 32) rfl rfl (fun hc => ?_) (fun hc => ?_)
      · have h := jg_t h hc
        refine jg_A (pc' := 55) rfl rfl (fun _ _ _ => rfl) ?_
        refine jg_iadd (pc' := 56) rfl rfl ?_
        refine jg_nm (F := fun t103 => jg_G w 0 mm_X12_itemsOf 56 [.ref a0, .int (.ofInt x1), .int (.ofInt x2), .int (.ofInt x3), .int (.ofInt x4)] [.int (.ofInt t103)] σ (jg_QI Q)) (x3 + 0) (fun t103 ht103 => ?_)
        have h := h t103 ht103
        refine jg_A (pc' := 57) (ls' := [.ref a0, .int (.ofInt x1), .int (.ofInt x2), .int (.ofInt t103), .int (.ofInt x4)]) rfl rfl (fun _ _ _ => rfl) ?_
        refine jg_iinc (pc' := 60) (ls' := [.ref a0, .int (.ofInt x1), .int (.ofInt x2), .int (.ofInt t103), .int (.ofInt (x4 + 1))]) rfl rfl rfl rfl ?_
        refine jg_goto rfl ?_
        exact h
      · have h := jg_f h hc
        refine jg_goto rfl ?_
        refine jg_A (pc' := 51) rfl rfl (fun _ _ _ => rfl) ?_
        refine jg_goto rfl ?_
        refine jg_iadd (pc' := 56) rfl rfl ?_
        refine jg_nm (F := fun t104 => jg_G w 0 mm_X12_itemsOf 56 [.ref a0, .int (.ofInt x1), .int (.ofInt x2), .int (.ofInt x3), .int (.ofInt x4)] [.int (.ofInt t104)] σ (jg_QI Q)) (x3 + 1) (fun t104 ht104 => ?_)
        have h := h t104 ht104
        refine jg_A (pc' := 57) (ls' := [.ref a0, .int (.ofInt x1), .int (.ofInt x2), .int (.ofInt t104), .int (.ofInt x4)]) rfl rfl (fun _ _ _ => rfl) ?_
        refine jg_iinc (pc' := 60) (ls' := [.ref a0, .int (.ofInt x1), .int (.ofInt x2), .int (.ofInt t104), .int (.ofInt (x4 + 1))]) rfl rfl rfl rfl ?_
        refine jg_goto rfl ?_
        exact h
set_option maxRecDepth 100000 in
set_option maxHeartbeats 4000000 in
theorem jb_X12_state_0 {w : Nat} {a0 : Nat} {x1 : Int} {x2 : Int} {σ : jg_M} {Q : Int → jg_M → Prop} (h0 : jg_sh a0 = (12, 0)) (h : ∀ m101 : jg_M, m101 = jg_sI σ a0 2 0 → jg_CI w 0 mm_X12_isState [.ref a0, .int (.ofInt x1)] m101 (fun (z103 : Int) (m102 : jg_M) => (if jg_wr z103 = 0 then Q (-1) m102 else (if jg_wr x2 = 0 then jg_CI w 0 mm_X12_itemsOf [.ref a0, .int (.ofInt x1), .int (.ofInt 1)] m102 (fun (z105 : Int) (m104 : jg_M) => Q z105 m104) else (if jg_wr x2 = 1 then jg_CI w 0 mm_X12_itemsOf [.ref a0, .int (.ofInt x1), .int (.ofInt 0)] m102 (fun (z107 : Int) (m106 : jg_M) => Q z107 m106) else (if jg_wr x2 = 2 then (if jg_wr x1 = 0 then Q (-2) m102 else (0 ≤ jg_wr x1 ∧ jg_wr x1 < 96) ∧ jg_CI w 0 mm_X12_symbolOf [.int (.ofInt (m102.1 (a0 + 17) (jg_wr x1)))] m102 (fun (z109 : Int) (m108 : jg_M) => Q z109 m108)) else (if jg_wr x2 = 3 then (0 ≤ jg_wr x1 ∧ jg_wr x1 < 48) ∧ (if 0 ≤ jg_wr (m102.1 (a0 + 31) (jg_wr x1)) then (0 ≤ jg_wr x1 ∧ jg_wr x1 < 48) ∧ Q (m102.1 (a0 + 31) (jg_wr x1)) m102 else Q (-2) m102) else (if jg_wr x2 = 4 then jg_CI w 0 mm_X12_actionsOf [.ref a0, .int (.ofInt x1)] m102 (fun (z111 : Int) (m110 : jg_M) => Q z111 m110) else Q (-1) m102)))))))) : jg_CI w 1 mm_X12_state [.ref a0, .int (.ofInt x1), .int (.ofInt x2)] σ Q := by
  show jg_G w 1 mm_X12_state 0 [.ref a0, .int (.ofInt x1), .int (.ofInt x2)] [] σ (jg_QI Q)
  refine jg_A (pc' := 1) rfl rfl (fun _ _ _ => rfl) ?_
  refine jg_A (pc' := 2) rfl rfl (fun _ _ _ => rfl) ?_
  refine jg_putI (pc' := 5) (bi := 2) rfl h0 (by decide) rfl rfl rfl rfl (fun m101 hm101 => ?_)
  have h := h m101 hm101
  refine jg_A (pc' := 6) rfl rfl (fun _ _ _ => rfl) ?_
  refine jg_A (pc' := 7) rfl rfl (fun _ _ _ => rfl) ?_
  refine jg_calX (M1 := mm_X12_isState) (hy := 0) (pc' := 10) rfl jm_X12_isState (by decide) rfl h0 (by decide) ⟨Nat.le_of_ble_eq_true rfl, rfl⟩ (Nat.le_of_ble_eq_true rfl) rfl h (jg_kI (fun z103 m102 h => ?_))
  refine jg_ifne (pc' := 13) rfl rfl (fun hc => ?_) (fun hc => ?_)
  · have h := jg_t h hc
    refine jg_A (pc' := 14) rfl rfl (fun _ _ _ => rfl) ?_
    exact jg_iret rfl rfl h
  · have h := jg_f h hc
    refine jg_A (pc' := 16) rfl rfl (fun _ _ _ => rfl) ?_
    refine jg_tsw rfl rfl ?_
    refine jg_swc (v := 0) (t := 52) (fun hc => ?_) (fun hc => ?_)
    · have h := jg_t h hc
      refine jg_A (pc' := 53) rfl rfl (fun _ _ _ => rfl) ?_
      refine jg_A (pc' := 54) rfl rfl (fun _ _ _ => rfl) ?_
      refine jg_A (pc' := 55) rfl rfl (fun _ _ _ => rfl) ?_
      refine jg_calX (M1 := mm_X12_itemsOf) (hy := 0) (pc' := 58) rfl jm_X12_itemsOf (by decide) rfl h0 (by decide) ⟨Nat.le_of_ble_eq_true rfl, rfl⟩ (Nat.le_of_ble_eq_true rfl) rfl h (jg_kI (fun z105 m104 h => ?_))
      exact jg_iret rfl rfl h
    have h := jg_f h hc
    refine jg_swc (v := 1) (t := 59) (fun hc => ?_) (fun hc => ?_)
    · have h := jg_t h hc
      refine jg_A (pc' := 60) rfl rfl (fun _ _ _ => rfl) ?_
      refine jg_A (pc' := 61) rfl rfl (fun _ _ _ => rfl) ?_
      refine jg_A (pc' := 62) rfl rfl (fun _ _ _ => rfl) ?_
      refine jg_calX (M1 := mm_X12_itemsOf) (hy := 0) (pc' := 65) rfl jm_X12_itemsOf (by decide) rfl h0 (by decide) ⟨Nat.le_of_ble_eq_true rfl, rfl⟩ (Nat.le_of_ble_eq_true rfl) rfl h (jg_kI (fun z107 m106 h => ?_))
      exact jg_iret rfl rfl h
    have h := jg_f h hc
    refine jg_swc (v := 2) (t := 66) (fun hc => ?_) (fun hc => ?_)
    · have h := jg_t h hc
      refine jg_A (pc' := 67) rfl rfl (fun _ _ _ => rfl) ?_
      refine jg_ifne (pc' := 70) rfl rfl (fun hc => ?_) (fun hc => ?_)
      · have h := jg_t h hc
        refine jg_A (pc' := 72) rfl rfl (fun _ _ _ => rfl) ?_
        refine jg_goto rfl ?_
        exact jg_iret rfl rfl h
      · have h := jg_f h hc
        refine jg_A (pc' := 76) rfl rfl (fun _ _ _ => rfl) ?_
        refine jg_getO (pc' := 79) (k := 17) rfl h0 (by decide) rfl rfl ?_
        refine jg_A (pc' := 80) rfl rfl (fun _ _ _ => rfl) ?_
        obtain ⟨hg, h⟩ := h
        refine jg_iald (pc' := 81) rfl (jg_sX12_26 h0) hg rfl ?_
        refine jg_calS (M1 := mm_X12_symbolOf) (hy := 0) (pc' := 84) rfl (Or.inl rfl) jm_X12_symbolOf (by decide) rfl ⟨Nat.le_of_ble_eq_true rfl, rfl⟩ (Nat.le_of_ble_eq_true rfl) rfl h (jg_kI (fun z109 m108 h => ?_))
        exact jg_iret rfl rfl h
    have h := jg_f h hc
    refine jg_swc (v := 3) (t := 85) (fun hc => ?_) (fun hc => ?_)
    · have h := jg_t h hc
      refine jg_A (pc' := 86) rfl rfl (fun _ _ _ => rfl) ?_
      refine jg_getO (pc' := 89) (k := 31) rfl h0 (by decide) rfl rfl ?_
      refine jg_A (pc' := 90) rfl rfl (fun _ _ _ => rfl) ?_
      obtain ⟨hg, h⟩ := h
      refine jg_iald (pc' := 91) rfl (jg_sX12_45 h0) hg rfl ?_
      refine jg_ifge (pc' := 94) rfl rfl (fun hc => ?_) (fun hc => ?_)
      · have h := jg_t h hc
        refine jg_A (pc' := 100) rfl rfl (fun _ _ _ => rfl) ?_
        refine jg_getO (pc' := 103) (k := 31) rfl h0 (by decide) rfl rfl ?_
        refine jg_A (pc' := 104) rfl rfl (fun _ _ _ => rfl) ?_
        obtain ⟨hg, h⟩ := h
        refine jg_iald (pc' := 105) rfl (jg_sX12_45 h0) hg rfl ?_
        exact jg_iret rfl rfl h
      · have h := jg_f h hc
        refine jg_A (pc' := 96) rfl rfl (fun _ _ _ => rfl) ?_
        refine jg_goto rfl ?_
        exact jg_iret rfl rfl h
    have h := jg_f h hc
    refine jg_swc (v := 4) (t := 106) (fun hc => ?_) (fun hc => ?_)
    · have h := jg_t h hc
      refine jg_A (pc' := 107) rfl rfl (fun _ _ _ => rfl) ?_
      refine jg_A (pc' := 108) rfl rfl (fun _ _ _ => rfl) ?_
      refine jg_calX (M1 := mm_X12_actionsOf) (hy := 0) (pc' := 111) rfl jm_X12_actionsOf (by decide) rfl h0 (by decide) ⟨Nat.le_of_ble_eq_true rfl, rfl⟩ (Nat.le_of_ble_eq_true rfl) rfl h (jg_kI (fun z111 m110 h => ?_))
      exact jg_iret rfl rfl h
    have h := jg_f h hc
    show jg_G w 1 mm_X12_state 112 [.ref a0, .int (.ofInt x1), .int (.ofInt x2)] [] m102 (jg_QI Q)
    refine jg_A (pc' := 113) rfl rfl (fun _ _ _ => rfl) ?_
    exact jg_iret rfl rfl h
set_option maxRecDepth 100000 in
set_option maxHeartbeats 4000000 in
theorem jb_X12_item_0 {w : Nat} {a0 : Nat} {x1 : Int} {x2 : Int} {σ : jg_M} {Q : Int → jg_M → Prop} (h0 : jg_sh a0 = (12, 0)) (h : ∀ m101 : jg_M, m101 = jg_sI σ a0 2 0 → jg_CI w 0 mm_X12_isState [.ref a0, .int (.ofInt x1)] m101 (fun (z103 : Int) (m102 : jg_M) => (if jg_wr z103 = 0 then Q (-1) m102 else (if 0 ≤ jg_wr x2 then jg_GI w 1 mm_X12_item 24 [.ref a0, .int (.ofInt x1), .int (.ofInt x2), .int (.ofInt 0), .int (.ofInt 0)] m102 Q else Q (-1) m102)))) : jg_CI w 1 mm_X12_item [.ref a0, .int (.ofInt x1), .int (.ofInt x2)] σ Q := by
  show jg_G w 1 mm_X12_item 0 [.ref a0, .int (.ofInt x1), .int (.ofInt x2), mj_U, mj_U] [] σ (jg_QI Q)
  refine jg_A (pc' := 1) rfl rfl (fun _ _ _ => rfl) ?_
  refine jg_A (pc' := 2) rfl rfl (fun _ _ _ => rfl) ?_
  refine jg_putI (pc' := 5) (bi := 2) rfl h0 (by decide) rfl rfl rfl rfl (fun m101 hm101 => ?_)
  have h := h m101 hm101
  refine jg_A (pc' := 6) rfl rfl (fun _ _ _ => rfl) ?_
  refine jg_A (pc' := 7) rfl rfl (fun _ _ _ => rfl) ?_
  refine jg_calX (M1 := mm_X12_isState) (hy := 0) (pc' := 10) rfl jm_X12_isState (by decide) rfl h0 (by decide) ⟨Nat.le_of_ble_eq_true rfl, rfl⟩ (Nat.le_of_ble_eq_true rfl) rfl h (jg_kI (fun z103 m102 h => ?_))
  refine jg_ifeq (pc' := 13) rfl rfl (fun hc => ?_) (fun hc => ?_)
  · have h := jg_t h hc
    refine jg_A (pc' := 18) rfl rfl (fun _ _ _ => rfl) ?_
    exact jg_iret rfl rfl h
  · have h := jg_f h hc
    refine jg_A (pc' := 14) rfl rfl (fun _ _ _ => rfl) ?_
    refine jg_ifge (pc' := 17) rfl rfl (fun hc => ?_) (fun hc => ?_)
    · have h := jg_t h hc
      refine jg_A (pc' := 20) rfl rfl (fun _ _ _ => rfl) ?_
      refine jg_A (pc' := 21) (ls' := [.ref a0, .int (.ofInt x1), .int (.ofInt x2), .int (.ofInt 0), mj_U]) rfl rfl (fun _ _ _ => rfl) ?_
      refine jg_A (pc' := 22) rfl rfl (fun _ _ _ => rfl) ?_
      refine jg_A (pc' := 24) (ls' := [.ref a0, .int (.ofInt x1), .int (.ofInt x2), .int (.ofInt 0), .int (.ofInt 0)]) rfl rfl (fun _ _ _ => rfl) ?_
      exact h
    · have h := jg_f h hc
      refine jg_A (pc' := 18) rfl rfl (fun _ _ _ => rfl) ?_
      exact jg_iret rfl rfl h
set_option maxRecDepth 100000 in
set_option maxHeartbeats 4000000 in
theorem jb_X12_item_24 {w : Nat} {a0 : Nat} {x1 : Int} {x2 : Int} {x3 : Int} {x4 : Int} {σ : jg_M} {Q : Int → jg_M → Prop} (h0 : jg_sh a0 = (12, 0)) (h : (if jg_wr 65 ≤ jg_wr x4 then Q (-2) σ else (0 ≤ jg_wr ((65 * x1) + x4) ∧ jg_wr ((65 * x1) + x4) < 6240) ∧ (if jg_wr (σ.1 (a0 + 14) (jg_wr ((65 * x1) + x4))) = 0 then jg_GI w 1 mm_X12_item 24 [.ref a0, .int (.ofInt x1), .int (.ofInt x2), .int (.ofInt x3), .int (.ofInt (x4 + 1))] σ Q else (if jg_wr x3 = jg_wr x2 then Q ((10 * (jg_div x4 5)) + (jg_rem x4 5)) σ else jg_GI w 1 mm_X12_item 24 [.ref a0, .int (.ofInt x1), .int (.ofInt x2), .int (.ofInt (x3 + 1)), .int (.ofInt (x4 + 1))] σ Q)))) : jg_GI w 1 mm_X12_item 24 [.ref a0, .int (.ofInt x1), .int (.ofInt x2), .int (.ofInt x3), .int (.ofInt x4)] σ Q := by
  show jg_G w 1 mm_X12_item 24 [.ref a0, .int (.ofInt x1), .int (.ofInt x2), .int (.ofInt x3), .int (.ofInt x4)] [] σ (jg_QI Q)
  refine jg_A (pc' := 26) rfl rfl (fun _ _ _ => rfl) ?_
  refine jg_A (pc' := 28) rfl rfl (fun _ _ _ => rfl) ?_
  refine jg_cge (pc' := 31) rfl rfl (fun hc => ?_) (fun hc => ?_)
  · have h := jg_t h hc
    refine jg_A (pc' := 78) rfl rfl (fun _ _ _ => rfl) ?_
    exact jg_iret rfl rfl h
  · have h := jg_f h hc
    refine jg_A (pc' := 32) rfl rfl (fun _ _ _ => rfl) ?_
    refine jg_getO (pc' := 35) (k := 14) rfl h0 (by decide) rfl rfl ?_
    refine jg_A (pc' := 37) rfl rfl (fun _ _ _ => rfl) ?_
    refine jg_A (pc' := 38) rfl rfl (fun _ _ _ => rfl) ?_
    refine jg_imul (pc' := 39) rfl rfl ?_
    refine jg_A (pc' := 41) rfl rfl (fun _ _ _ => rfl) ?_
    refine jg_iadd (pc' := 42) rfl rfl ?_
    obtain ⟨hg, h⟩ := h
    refine jg_zald (pc' := 43) rfl (jg_sX12_23 h0) hg rfl ?_
    refine jg_ifne (pc' := 46) rfl rfl (fun hc => ?_) (fun hc => ?_)
    · have h := jg_t h hc
      refine jg_goto rfl ?_
      refine jg_iinc (pc' := 73) (ls' := [.ref a0, .int (.ofInt x1), .int (.ofInt x2), .int (.ofInt x3), .int (.ofInt (x4 + 1))]) rfl rfl rfl rfl ?_
      refine jg_goto rfl ?_
      exact h
    · have h := jg_f h hc
      refine jg_A (pc' := 50) rfl rfl (fun _ _ _ => rfl) ?_
      refine jg_A (pc' := 51) rfl rfl (fun _ _ _ => rfl) ?_
      refine jg_cne (pc' := 54) rfl rfl (fun hc => ?_) (fun hc => ?_)
      · have h := jg_t h hc
        refine jg_A (pc' := 56) rfl rfl (fun _ _ _ => rfl) ?_
        refine jg_A (pc' := 58) rfl rfl (fun _ _ _ => rfl) ?_
        refine jg_A (pc' := 59) rfl rfl (fun _ _ _ => rfl) ?_
        refine jg_idiv (pc' := 60) rfl rfl (by decide) ?_
        refine jg_imul (pc' := 61) rfl rfl ?_
        refine jg_A (pc' := 63) rfl rfl (fun _ _ _ => rfl) ?_
        refine jg_A (pc' := 64) rfl rfl (fun _ _ _ => rfl) ?_
        refine jg_irem (pc' := 65) rfl rfl (by decide) ?_
        refine jg_iadd (pc' := 66) rfl rfl ?_
        exact jg_iret rfl rfl h
      · have h := jg_f h hc
        refine jg_iinc (pc' := 70) (ls' := [.ref a0, .int (.ofInt x1), .int (.ofInt x2), .int (.ofInt (x3 + 1)), .int (.ofInt x4)]) rfl rfl rfl rfl ?_
        refine jg_iinc (pc' := 73) (ls' := [.ref a0, .int (.ofInt x1), .int (.ofInt x2), .int (.ofInt (x3 + 1)), .int (.ofInt (x4 + 1))]) rfl rfl rfl rfl ?_
        refine jg_goto rfl ?_
        exact h
set_option maxRecDepth 100000 in
set_option maxHeartbeats 4000000 in
theorem jb_X12_noneAsTwo_0 {w : Nat} {x0 : Int} {σ : jg_M} {Q : Int → jg_M → Prop} (h : (if 0 ≤ jg_wr x0 then Q x0 σ else Q (-2) σ)) : jg_CI w 0 mm_X12_noneAsTwo [.int (.ofInt x0)] σ Q := by
  show jg_G w 0 mm_X12_noneAsTwo 0 [.int (.ofInt x0)] [] σ (jg_QI Q)
  refine jg_A (pc' := 1) rfl rfl (fun _ _ _ => rfl) ?_
  refine jg_ifge (pc' := 4) rfl rfl (fun hc => ?_) (fun hc => ?_)
  · have h := jg_t h hc
    refine jg_A (pc' := 10) rfl rfl (fun _ _ _ => rfl) ?_
    exact jg_iret rfl rfl h
  · have h := jg_f h hc
    refine jg_A (pc' := 6) rfl rfl (fun _ _ _ => rfl) ?_
    refine jg_goto rfl ?_
    exact jg_iret rfl rfl h
set_option maxRecDepth 100000 in
set_option maxHeartbeats 4000000 in
theorem jb_X12_move_0 {w : Nat} {a0 : Nat} {x1 : Int} {x2 : Int} {σ : jg_M} {Q : Int → jg_M → Prop} (h0 : jg_sh a0 = (12, 0)) (h : ∀ m101 : jg_M, m101 = jg_sI σ a0 2 0 → jg_CI w 0 mm_X12_isState [.ref a0, .int (.ofInt x1)] m101 (fun (z103 : Int) (m102 : jg_M) => (if jg_wr z103 = 0 then Q (-1) m102 else jg_CI w 0 mm_X12_isToken [.ref a0, .int (.ofInt x2)] m102 (fun (z105 : Int) (m104 : jg_M) => (if jg_wr z105 = 0 then jg_CI w 0 mm_X12_isKind [.ref a0, .int (.ofInt (x2 - 10))] m104 (fun (z107 : Int) (m106 : jg_M) => (if jg_wr z107 = 0 then Q (-1) m106 else (if jg_wr 10 ≤ jg_wr x2 then (0 ≤ jg_wr ((12 * x1) + (x2 - 3)) ∧ jg_wr ((12 * x1) + (x2 - 3)) < 1152) ∧ jg_CI w 0 mm_X12_noneAsTwo [.int (.ofInt (m106.1 (a0 + 16) (jg_wr ((12 * x1) + (x2 - 3)))))] m106 (fun (z109 : Int) (m108 : jg_M) => Q z109 m108) else (0 ≤ jg_wr ((12 * x1) + x2) ∧ jg_wr ((12 * x1) + x2) < 1152) ∧ jg_CI w 0 mm_X12_noneAsTwo [.int (.ofInt (m106.1 (a0 + 16) (jg_wr ((12 * x1) + x2))))] m106 (fun (z111 : Int) (m110 : jg_M) => Q z111 m110)))) else (if jg_wr 10 ≤ jg_wr x2 then (0 ≤ jg_wr ((12 * x1) + (x2 - 3)) ∧ jg_wr ((12 * x1) + (x2 - 3)) < 1152) ∧ jg_CI w 0 mm_X12_noneAsTwo [.int (.ofInt (m104.1 (a0 + 16) (jg_wr ((12 * x1) + (x2 - 3)))))] m104 (fun (z113 : Int) (m112 : jg_M) => Q z113 m112) else (0 ≤ jg_wr ((12 * x1) + x2) ∧ jg_wr ((12 * x1) + x2) < 1152) ∧ jg_CI w 0 mm_X12_noneAsTwo [.int (.ofInt (m104.1 (a0 + 16) (jg_wr ((12 * x1) + x2))))] m104 (fun (z115 : Int) (m114 : jg_M) => Q z115 m114))))))) : jg_CI w 1 mm_X12_move [.ref a0, .int (.ofInt x1), .int (.ofInt x2)] σ Q := by
  show jg_G w 1 mm_X12_move 0 [.ref a0, .int (.ofInt x1), .int (.ofInt x2)] [] σ (jg_QI Q)
  refine jg_A (pc' := 1) rfl rfl (fun _ _ _ => rfl) ?_
  refine jg_A (pc' := 2) rfl rfl (fun _ _ _ => rfl) ?_
  refine jg_putI (pc' := 5) (bi := 2) rfl h0 (by decide) rfl rfl rfl rfl (fun m101 hm101 => ?_)
  have h := h m101 hm101
  refine jg_A (pc' := 6) rfl rfl (fun _ _ _ => rfl) ?_
  refine jg_A (pc' := 7) rfl rfl (fun _ _ _ => rfl) ?_
  refine jg_calX (M1 := mm_X12_isState) (hy := 0) (pc' := 10) rfl jm_X12_isState (by decide) rfl h0 (by decide) ⟨Nat.le_of_ble_eq_true rfl, rfl⟩ (Nat.le_of_ble_eq_true rfl) rfl h (jg_kI (fun z103 m102 h => ?_))
  refine jg_ifeq (pc' := 13) rfl rfl (fun hc => ?_) (fun hc => ?_)
  · have h := jg_t h hc
    refine jg_A (pc' := 33) rfl rfl (fun _ _ _ => rfl) ?_
    exact jg_iret rfl rfl h
  · have h := jg_f h hc
    refine jg_A (pc' := 14) rfl rfl (fun _ _ _ => rfl) ?_
    refine jg_A (pc' := 15) rfl rfl (fun _ _ _ => rfl) ?_
    refine jg_calX (M1 := mm_X12_isToken) (hy := 0) (pc' := 18) rfl jm_X12_isToken (by decide) rfl h0 (by decide) ⟨Nat.le_of_ble_eq_true rfl, rfl⟩ (Nat.le_of_ble_eq_true rfl) rfl h (jg_kI (fun z105 m104 h => ?_))
    refine jg_ifne (pc' := 21) rfl rfl (fun hc => ?_) (fun hc => ?_)
    · have h := jg_t h hc
      refine jg_A (pc' := 22) rfl rfl (fun _ _ _ => rfl) ?_
      refine jg_A (pc' := 23) rfl rfl (fun _ _ _ => rfl) ?_
      refine jg_A (pc' := 25) rfl rfl (fun _ _ _ => rfl) ?_
      refine jg_isub (pc' := 26) rfl rfl ?_
      refine jg_calX (M1 := mm_X12_isKind) (hy := 0) (pc' := 29) rfl jm_X12_isKind (by decide) rfl h0 (by decide) ⟨Nat.le_of_ble_eq_true rfl, rfl⟩ (Nat.le_of_ble_eq_true rfl) rfl h (jg_kI (fun z107 m106 h => ?_))
      refine jg_ifne (pc' := 32) rfl rfl (fun hc => ?_) (fun hc => ?_)
      · have h := jg_t h hc
        refine jg_A (pc' := 33) rfl rfl (fun _ _ _ => rfl) ?_
        exact jg_iret rfl rfl h
      · have h := jg_f h hc
        refine jg_A (pc' := 35) rfl rfl (fun _ _ _ => rfl) ?_
        refine jg_getO (pc' := 38) (k := 16) rfl h0 (by decide) rfl rfl ?_
        refine jg_A (pc' := 40) rfl rfl (fun _ _ _ => rfl) ?_
        refine jg_A (pc' := 41) rfl rfl (fun _ _ _ => rfl) ?_
        refine jg_imul (pc' := 42) rfl rfl ?_
        refine jg_A (pc' := 43) rfl rfl (fun _ _ _ => rfl) ?_
        refine jg_A (pc' := 45) rfl rfl (fun _ _ _ => rfl) ?_
        refine jg_cge (pc' := 48) rfl rfl (fun hc => ?_) (fun hc => ?_)
        · have h := jg_t h hc
          refine jg_A (pc' := 53) rfl rfl (fun _ _ _ => rfl) ?_
          refine jg_A (pc' := 54) rfl rfl (fun _ _ _ => rfl) ?_
          refine jg_isub (pc' := 55) rfl rfl ?_
          refine jg_iadd (pc' := 56) rfl rfl ?_
          obtain ⟨hg, h⟩ := h
          refine jg_iald (pc' := 57) rfl (jg_sX12_25 h0) hg rfl ?_
          refine jg_calS (M1 := mm_X12_noneAsTwo) (hy := 0) (pc' := 60) rfl (Or.inl rfl) jm_X12_noneAsTwo (by decide) rfl ⟨Nat.le_of_ble_eq_true rfl, rfl⟩ (Nat.le_of_ble_eq_true rfl) rfl h (jg_kI (fun z109 m108 h => ?_))
          exact jg_iret rfl rfl h
        · have h := jg_f h hc
          refine jg_A (pc' := 49) rfl rfl (fun _ _ _ => rfl) ?_
          refine jg_goto rfl ?_
          refine jg_iadd (pc' := 56) rfl rfl ?_
          obtain ⟨hg, h⟩ := h
          refine jg_iald (pc' := 57) rfl (jg_sX12_25 h0) hg rfl ?_
          refine jg_calS (M1 := mm_X12_noneAsTwo) (hy := 0) (pc' := 60) rfl (Or.inl rfl) jm_X12_noneAsTwo (by decide) rfl ⟨Nat.le_of_ble_eq_true rfl, rfl⟩ (Nat.le_of_ble_eq_true rfl) rfl h (jg_kI (fun z111 m110 h => ?_))
          exact jg_iret rfl rfl h
    · have h := jg_f h hc
      refine jg_A (pc' := 35) rfl rfl (fun _ _ _ => rfl) ?_
      refine jg_getO (pc' := 38) (k := 16) rfl h0 (by decide) rfl rfl ?_
      refine jg_A (pc' := 40) rfl rfl (fun _ _ _ => rfl) ?_
      refine jg_A (pc' := 41) rfl rfl (fun _ _ _ => rfl) ?_
      refine jg_imul (pc' := 42) rfl rfl ?_
      refine jg_A (pc' := 43) rfl rfl (fun _ _ _ => rfl) ?_
      refine jg_A (pc' := 45) rfl rfl (fun _ _ _ => rfl) ?_
      refine jg_cge (pc' := 48) rfl rfl (fun hc => ?_) (fun hc => ?_)
      · have h := jg_t h hc
        refine jg_A (pc' := 53) rfl rfl (fun _ _ _ => rfl) ?_
        refine jg_A (pc' := 54) rfl rfl (fun _ _ _ => rfl) ?_
        refine jg_isub (pc' := 55) rfl rfl ?_
        refine jg_iadd (pc' := 56) rfl rfl ?_
        obtain ⟨hg, h⟩ := h
        refine jg_iald (pc' := 57) rfl (jg_sX12_25 h0) hg rfl ?_
        refine jg_calS (M1 := mm_X12_noneAsTwo) (hy := 0) (pc' := 60) rfl (Or.inl rfl) jm_X12_noneAsTwo (by decide) rfl ⟨Nat.le_of_ble_eq_true rfl, rfl⟩ (Nat.le_of_ble_eq_true rfl) rfl h (jg_kI (fun z113 m112 h => ?_))
        exact jg_iret rfl rfl h
      · have h := jg_f h hc
        refine jg_A (pc' := 49) rfl rfl (fun _ _ _ => rfl) ?_
        refine jg_goto rfl ?_
        refine jg_iadd (pc' := 56) rfl rfl ?_
        obtain ⟨hg, h⟩ := h
        refine jg_iald (pc' := 57) rfl (jg_sX12_25 h0) hg rfl ?_
        refine jg_calS (M1 := mm_X12_noneAsTwo) (hy := 0) (pc' := 60) rfl (Or.inl rfl) jm_X12_noneAsTwo (by decide) rfl ⟨Nat.le_of_ble_eq_true rfl, rfl⟩ (Nat.le_of_ble_eq_true rfl) rfl h (jg_kI (fun z115 m114 h => ?_))
        exact jg_iret rfl rfl h
set_option maxRecDepth 100000 in
set_option maxHeartbeats 4000000 in
theorem jb_X12_action_0 {w : Nat} {a0 : Nat} {x1 : Int} {x2 : Int} {σ : jg_M} {Q : Int → jg_M → Prop} (h0 : jg_sh a0 = (12, 0)) (h : ∀ m101 : jg_M, m101 = jg_sI σ a0 2 0 → jg_CI w 0 mm_X12_isState [.ref a0, .int (.ofInt x1)] m101 (fun (z103 : Int) (m102 : jg_M) => (if jg_wr z103 = 0 then Q (-1) m102 else jg_CI w 0 mm_X12_isIn [.int (.ofInt x2), .int (.ofInt 0), .int (.ofInt (m102.1 (a0 + 3) (0)))] m102 (fun (z105 : Int) (m104 : jg_M) => (if jg_wr z105 = 0 then Q (-1) m104 else (0 ≤ jg_wr ((8 * x1) + x2) ∧ jg_wr ((8 * x1) + x2) < 768) ∧ Q (m104.1 (a0 + 19) (jg_wr ((8 * x1) + x2))) m104))))) : jg_CI w 1 mm_X12_action [.ref a0, .int (.ofInt x1), .int (.ofInt x2)] σ Q := by
  show jg_G w 1 mm_X12_action 0 [.ref a0, .int (.ofInt x1), .int (.ofInt x2)] [] σ (jg_QI Q)
  refine jg_A (pc' := 1) rfl rfl (fun _ _ _ => rfl) ?_
  refine jg_A (pc' := 2) rfl rfl (fun _ _ _ => rfl) ?_
  refine jg_putI (pc' := 5) (bi := 2) rfl h0 (by decide) rfl rfl rfl rfl (fun m101 hm101 => ?_)
  have h := h m101 hm101
  refine jg_A (pc' := 6) rfl rfl (fun _ _ _ => rfl) ?_
  refine jg_A (pc' := 7) rfl rfl (fun _ _ _ => rfl) ?_
  refine jg_calX (M1 := mm_X12_isState) (hy := 0) (pc' := 10) rfl jm_X12_isState (by decide) rfl h0 (by decide) ⟨Nat.le_of_ble_eq_true rfl, rfl⟩ (Nat.le_of_ble_eq_true rfl) rfl h (jg_kI (fun z103 m102 h => ?_))
  refine jg_ifeq (pc' := 13) rfl rfl (fun hc => ?_) (fun hc => ?_)
  · have h := jg_t h hc
    refine jg_A (pc' := 42) rfl rfl (fun _ _ _ => rfl) ?_
    exact jg_iret rfl rfl h
  · have h := jg_f h hc
    refine jg_A (pc' := 14) rfl rfl (fun _ _ _ => rfl) ?_
    refine jg_A (pc' := 15) rfl rfl (fun _ _ _ => rfl) ?_
    refine jg_A (pc' := 16) rfl rfl (fun _ _ _ => rfl) ?_
    refine jg_getO (pc' := 19) (k := 3) rfl h0 (by decide) rfl rfl ?_
    refine jg_A (pc' := 20) rfl rfl (fun _ _ _ => rfl) ?_
    refine jg_ialdK (pc' := 21) (xi := 0) rfl (jg_sX12_12 h0) (by decide) (by decide) rfl ?_
    refine jg_calS (M1 := mm_X12_isIn) (hy := 0) (pc' := 24) rfl (Or.inl rfl) jm_X12_isIn (by decide) rfl ⟨Nat.le_of_ble_eq_true rfl, rfl⟩ (Nat.le_of_ble_eq_true rfl) rfl h (jg_kI (fun z105 m104 h => ?_))
    refine jg_ifeq (pc' := 27) rfl rfl (fun hc => ?_) (fun hc => ?_)
    · have h := jg_t h hc
      refine jg_A (pc' := 42) rfl rfl (fun _ _ _ => rfl) ?_
      exact jg_iret rfl rfl h
    · have h := jg_f h hc
      refine jg_A (pc' := 28) rfl rfl (fun _ _ _ => rfl) ?_
      refine jg_getO (pc' := 31) (k := 19) rfl h0 (by decide) rfl rfl ?_
      refine jg_A (pc' := 33) rfl rfl (fun _ _ _ => rfl) ?_
      refine jg_A (pc' := 34) rfl rfl (fun _ _ _ => rfl) ?_
      refine jg_imul (pc' := 35) rfl rfl ?_
      refine jg_A (pc' := 36) rfl rfl (fun _ _ _ => rfl) ?_
      refine jg_iadd (pc' := 37) rfl rfl ?_
      obtain ⟨hg, h⟩ := h
      refine jg_iald (pc' := 38) rfl (jg_sX12_28 h0) hg rfl ?_
      refine jg_goto rfl ?_
      exact jg_iret rfl rfl h
set_option maxRecDepth 100000 in
set_option maxHeartbeats 4000000 in
theorem jb_X12_look_0 {w : Nat} {a0 : Nat} {x1 : Int} {x2 : Int} {σ : jg_M} {Q : Int → jg_M → Prop} (h0 : jg_sh a0 = (12, 0)) (h : ∀ m101 : jg_M, m101 = jg_sI σ a0 2 0 → jg_CI w 0 mm_X12_isState [.ref a0, .int (.ofInt x1)] m101 (fun (z103 : Int) (m102 : jg_M) => (if jg_wr z103 = 0 then Q (-1) m102 else jg_CI w 0 mm_X12_isIn [.int (.ofInt x2), .int (.ofInt 0), .int (.ofInt (m102.1 (a0 + 5) (0)))] m102 (fun (z105 : Int) (m104 : jg_M) => (if jg_wr z105 = 0 then Q (-1) m104 else jg_CV w 0 mm_X12_byText [.ref a0] m104 (fun (m106 : jg_M) => jg_CI w 0 mm_X12_longOf [.ref a0, .int (.ofInt x2)] m106 (fun (z108 : Int) (m107 : jg_M) => ∀ t109 : Int, t109 = (((65 * x1) + (5 * x2)) + z108) → (0 ≤ jg_wr t109 ∧ jg_wr t109 < 6240) ∧ (if jg_wr (m107.1 (a0 + 15) (jg_wr t109)) = 0 then Q (-2) m107 else (0 ≤ jg_wr t109 ∧ jg_wr t109 < 6240) ∧ Q (m107.1 (a0 + 18) (jg_wr t109)) m107)))))))) : jg_CI w 1 mm_X12_look [.ref a0, .int (.ofInt x1), .int (.ofInt x2)] σ Q := by
  show jg_G w 1 mm_X12_look 0 [.ref a0, .int (.ofInt x1), .int (.ofInt x2), mj_U] [] σ (jg_QI Q)
  refine jg_A (pc' := 1) rfl rfl (fun _ _ _ => rfl) ?_
  refine jg_A (pc' := 2) rfl rfl (fun _ _ _ => rfl) ?_
  refine jg_putI (pc' := 5) (bi := 2) rfl h0 (by decide) rfl rfl rfl rfl (fun m101 hm101 => ?_)
  have h := h m101 hm101
  refine jg_A (pc' := 6) rfl rfl (fun _ _ _ => rfl) ?_
  refine jg_A (pc' := 7) rfl rfl (fun _ _ _ => rfl) ?_
  refine jg_calX (M1 := mm_X12_isState) (hy := 0) (pc' := 10) rfl jm_X12_isState (by decide) rfl h0 (by decide) ⟨Nat.le_of_ble_eq_true rfl, rfl⟩ (Nat.le_of_ble_eq_true rfl) rfl h (jg_kI (fun z103 m102 h => ?_))
  refine jg_ifeq (pc' := 13) rfl rfl (fun hc => ?_) (fun hc => ?_)
  · have h := jg_t h hc
    refine jg_A (pc' := 28) rfl rfl (fun _ _ _ => rfl) ?_
    exact jg_iret rfl rfl h
  · have h := jg_f h hc
    refine jg_A (pc' := 14) rfl rfl (fun _ _ _ => rfl) ?_
    refine jg_A (pc' := 15) rfl rfl (fun _ _ _ => rfl) ?_
    refine jg_A (pc' := 16) rfl rfl (fun _ _ _ => rfl) ?_
    refine jg_getO (pc' := 19) (k := 5) rfl h0 (by decide) rfl rfl ?_
    refine jg_A (pc' := 20) rfl rfl (fun _ _ _ => rfl) ?_
    refine jg_ialdK (pc' := 21) (xi := 0) rfl (jg_sX12_14 h0) (by decide) (by decide) rfl ?_
    refine jg_calS (M1 := mm_X12_isIn) (hy := 0) (pc' := 24) rfl (Or.inl rfl) jm_X12_isIn (by decide) rfl ⟨Nat.le_of_ble_eq_true rfl, rfl⟩ (Nat.le_of_ble_eq_true rfl) rfl h (jg_kI (fun z105 m104 h => ?_))
    refine jg_ifne (pc' := 27) rfl rfl (fun hc => ?_) (fun hc => ?_)
    · have h := jg_t h hc
      refine jg_A (pc' := 28) rfl rfl (fun _ _ _ => rfl) ?_
      exact jg_iret rfl rfl h
    · have h := jg_f h hc
      refine jg_A (pc' := 30) rfl rfl (fun _ _ _ => rfl) ?_
      refine jg_calX (M1 := mm_X12_byText) (hy := 0) (pc' := 33) rfl jm_X12_byText (by decide) rfl h0 (by decide) ⟨Nat.le_of_ble_eq_true rfl, rfl⟩ (Nat.le_of_ble_eq_true rfl) rfl h (jg_kV (fun m106 h => ?_))
      refine jg_A (pc' := 35) rfl rfl (fun _ _ _ => rfl) ?_
      refine jg_A (pc' := 36) rfl rfl (fun _ _ _ => rfl) ?_
      refine jg_imul (pc' := 37) rfl rfl ?_
      refine jg_A (pc' := 38) rfl rfl (fun _ _ _ => rfl) ?_
      refine jg_A (pc' := 39) rfl rfl (fun _ _ _ => rfl) ?_
      refine jg_imul (pc' := 40) rfl rfl ?_
      refine jg_iadd (pc' := 41) rfl rfl ?_
      refine jg_A (pc' := 42) rfl rfl (fun _ _ _ => rfl) ?_
      refine jg_A (pc' := 43) rfl rfl (fun _ _ _ => rfl) ?_
      refine jg_calX (M1 := mm_X12_longOf) (hy := 0) (pc' := 46) rfl jm_X12_longOf (by decide) rfl h0 (by decide) ⟨Nat.le_of_ble_eq_true rfl, rfl⟩ (Nat.le_of_ble_eq_true rfl) rfl h (jg_kI (fun z108 m107 h => ?_))
      refine jg_iadd (pc' := 47) rfl rfl ?_
      refine jg_nm (F := fun t109 => jg_G w 1 mm_X12_look 47 [.ref a0, .int (.ofInt x1), .int (.ofInt x2), mj_U] [.int (.ofInt t109)] m107 (jg_QI Q)) (((65 * x1) + (5 * x2)) + z108) (fun t109 ht109 => ?_)
      have h := h t109 ht109
      refine jg_A (pc' := 48) (ls' := [.ref a0, .int (.ofInt x1), .int (.ofInt x2), .int (.ofInt t109)]) rfl rfl (fun _ _ _ => rfl) ?_
      refine jg_A (pc' := 49) rfl rfl (fun _ _ _ => rfl) ?_
      refine jg_getO (pc' := 52) (k := 15) rfl h0 (by decide) rfl rfl ?_
      refine jg_A (pc' := 53) rfl rfl (fun _ _ _ => rfl) ?_
      obtain ⟨hg, h⟩ := h
      refine jg_zald (pc' := 54) rfl (jg_sX12_24 h0) hg rfl ?_
      refine jg_ifeq (pc' := 57) rfl rfl (fun hc => ?_) (fun hc => ?_)
      · have h := jg_t h hc
        refine jg_A (pc' := 68) rfl rfl (fun _ _ _ => rfl) ?_
        exact jg_iret rfl rfl h
      · have h := jg_f h hc
        refine jg_A (pc' := 58) rfl rfl (fun _ _ _ => rfl) ?_
        refine jg_getO (pc' := 61) (k := 18) rfl h0 (by decide) rfl rfl ?_
        refine jg_A (pc' := 62) rfl rfl (fun _ _ _ => rfl) ?_
        obtain ⟨hg, h⟩ := h
        refine jg_iald (pc' := 63) rfl (jg_sX12_27 h0) hg rfl ?_
        refine jg_goto rfl ?_
        exact jg_iret rfl rfl h
set_option maxRecDepth 100000 in
set_option maxHeartbeats 4000000 in
theorem jb_X12_after_0 {w : Nat} {a0 : Nat} {x1 : Int} {x2 : Int} {σ : jg_M} {Q : Int → jg_M → Prop} (h0 : jg_sh a0 = (12, 0)) (h : ∀ m101 : jg_M, m101 = jg_sI σ a0 2 0 → jg_CI w 0 mm_X12_isState [.ref a0, .int (.ofInt x1)] m101 (fun (z103 : Int) (m102 : jg_M) => (if jg_wr z103 = 0 then Q (-1) m102 else jg_CI w 0 mm_X12_isKind [.ref a0, .int (.ofInt x2)] m102 (fun (z105 : Int) (m104 : jg_M) => (if jg_wr z105 = 0 then Q (-1) m104 else jg_CI w 0 mm_X12_kindMove [.ref a0, .int (.ofInt x1), .int (.ofInt x2)] m104 (fun (z107 : Int) (m106 : jg_M) => (if 0 ≤ jg_wr z107 then (0 ≤ jg_wr ((5 * x1) + x2) ∧ jg_wr ((5 * x1) + x2) < 240) ∧ Q (m106.1 (a0 + 26) (jg_wr ((5 * x1) + x2))) m106 else Q (-2) m106))))))) : jg_CI w 1 mm_X12_after [.ref a0, .int (.ofInt x1), .int (.ofInt x2)] σ Q := by
  show jg_G w 1 mm_X12_after 0 [.ref a0, .int (.ofInt x1), .int (.ofInt x2)] [] σ (jg_QI Q)
  refine jg_A (pc' := 1) rfl rfl (fun _ _ _ => rfl) ?_
  refine jg_A (pc' := 2) rfl rfl (fun _ _ _ => rfl) ?_
  refine jg_putI (pc' := 5) (bi := 2) rfl h0 (by decide) rfl rfl rfl rfl (fun m101 hm101 => ?_)
  have h := h m101 hm101
  refine jg_A (pc' := 6) rfl rfl (fun _ _ _ => rfl) ?_
  refine jg_A (pc' := 7) rfl rfl (fun _ _ _ => rfl) ?_
  refine jg_calX (M1 := mm_X12_isState) (hy := 0) (pc' := 10) rfl jm_X12_isState (by decide) rfl h0 (by decide) ⟨Nat.le_of_ble_eq_true rfl, rfl⟩ (Nat.le_of_ble_eq_true rfl) rfl h (jg_kI (fun z103 m102 h => ?_))
  refine jg_ifeq (pc' := 13) rfl rfl (fun hc => ?_) (fun hc => ?_)
  · have h := jg_t h hc
    refine jg_A (pc' := 22) rfl rfl (fun _ _ _ => rfl) ?_
    exact jg_iret rfl rfl h
  · have h := jg_f h hc
    refine jg_A (pc' := 14) rfl rfl (fun _ _ _ => rfl) ?_
    refine jg_A (pc' := 15) rfl rfl (fun _ _ _ => rfl) ?_
    refine jg_calX (M1 := mm_X12_isKind) (hy := 0) (pc' := 18) rfl jm_X12_isKind (by decide) rfl h0 (by decide) ⟨Nat.le_of_ble_eq_true rfl, rfl⟩ (Nat.le_of_ble_eq_true rfl) rfl h (jg_kI (fun z105 m104 h => ?_))
    refine jg_ifne (pc' := 21) rfl rfl (fun hc => ?_) (fun hc => ?_)
    · have h := jg_t h hc
      refine jg_A (pc' := 22) rfl rfl (fun _ _ _ => rfl) ?_
      exact jg_iret rfl rfl h
    · have h := jg_f h hc
      refine jg_A (pc' := 24) rfl rfl (fun _ _ _ => rfl) ?_
      refine jg_A (pc' := 25) rfl rfl (fun _ _ _ => rfl) ?_
      refine jg_A (pc' := 26) rfl rfl (fun _ _ _ => rfl) ?_
      refine jg_calX (M1 := mm_X12_kindMove) (hy := 0) (pc' := 29) rfl jm_X12_kindMove (by decide) rfl h0 (by decide) ⟨Nat.le_of_ble_eq_true rfl, rfl⟩ (Nat.le_of_ble_eq_true rfl) rfl h (jg_kI (fun z107 m106 h => ?_))
      refine jg_ifge (pc' := 32) rfl rfl (fun hc => ?_) (fun hc => ?_)
      · have h := jg_t h hc
        refine jg_A (pc' := 38) rfl rfl (fun _ _ _ => rfl) ?_
        refine jg_getO (pc' := 41) (k := 26) rfl h0 (by decide) rfl rfl ?_
        refine jg_A (pc' := 42) rfl rfl (fun _ _ _ => rfl) ?_
        refine jg_A (pc' := 43) rfl rfl (fun _ _ _ => rfl) ?_
        refine jg_imul (pc' := 44) rfl rfl ?_
        refine jg_A (pc' := 45) rfl rfl (fun _ _ _ => rfl) ?_
        refine jg_iadd (pc' := 46) rfl rfl ?_
        obtain ⟨hg, h⟩ := h
        refine jg_iald (pc' := 47) rfl (jg_sX12_40 h0) hg rfl ?_
        exact jg_iret rfl rfl h
      · have h := jg_f h hc
        refine jg_A (pc' := 34) rfl rfl (fun _ _ _ => rfl) ?_
        refine jg_goto rfl ?_
        exact jg_iret rfl rfl h
set_option maxRecDepth 100000 in
set_option maxHeartbeats 4000000 in
theorem jb_X12_relations_0 {w : Nat} {a0 : Nat} {x1 : Int} {σ : jg_M} {Q : Int → jg_M → Prop} (h0 : jg_sh a0 = (12, 0)) (h : ∀ m101 : jg_M, m101 = jg_sI σ a0 2 0 → jg_CI w 0 mm_X12_isIn [.int (.ofInt x1), .int (.ofInt 0), .int (.ofInt 4)] m101 (fun (z103 : Int) (m102 : jg_M) => (if jg_wr z103 = 0 then Q (-1) m102 else (0 ≤ jg_wr x1 ∧ jg_wr x1 < 5) ∧ Q (m102.1 (a0 + 28) (jg_wr x1)) m102))) : jg_CI w 1 mm_X12_relations [.ref a0, .int (.ofInt x1)] σ Q := by
  show jg_G w 1 mm_X12_relations 0 [.ref a0, .int (.ofInt x1)] [] σ (jg_QI Q)
  refine jg_A (pc' := 1) rfl rfl (fun _ _ _ => rfl) ?_
  refine jg_A (pc' := 2) rfl rfl (fun _ _ _ => rfl) ?_
  refine jg_putI (pc' := 5) (bi := 2) rfl h0 (by decide) rfl rfl rfl rfl (fun m101 hm101 => ?_)
  have h := h m101 hm101
  refine jg_A (pc' := 6) rfl rfl (fun _ _ _ => rfl) ?_
  refine jg_A (pc' := 7) rfl rfl (fun _ _ _ => rfl) ?_
  refine jg_A (pc' := 8) rfl rfl (fun _ _ _ => rfl) ?_
  refine jg_calS (M1 := mm_X12_isIn) (hy := 0) (pc' := 11) rfl (Or.inl rfl) jm_X12_isIn (by decide) rfl ⟨Nat.le_of_ble_eq_true rfl, rfl⟩ (Nat.le_of_ble_eq_true rfl) rfl h (jg_kI (fun z103 m102 h => ?_))
  refine jg_ifeq (pc' := 14) rfl rfl (fun hc => ?_) (fun hc => ?_)
  · have h := jg_t h hc
    refine jg_A (pc' := 24) rfl rfl (fun _ _ _ => rfl) ?_
    exact jg_iret rfl rfl h
  · have h := jg_f h hc
    refine jg_A (pc' := 15) rfl rfl (fun _ _ _ => rfl) ?_
    refine jg_getO (pc' := 18) (k := 28) rfl h0 (by decide) rfl rfl ?_
    refine jg_A (pc' := 19) rfl rfl (fun _ _ _ => rfl) ?_
    obtain ⟨hg, h⟩ := h
    refine jg_iald (pc' := 20) rfl (jg_sX12_42 h0) hg rfl ?_
    refine jg_goto rfl ?_
    exact jg_iret rfl rfl h
set_option maxRecDepth 100000 in
set_option maxHeartbeats 4000000 in
theorem jb_X12_conflicts_0 {w : Nat} {a0 : Nat} {σ : jg_M} {Q : Int → jg_M → Prop} (h0 : jg_sh a0 = (12, 0)) (h : ∀ m101 : jg_M, m101 = jg_sI σ a0 2 0 → Q (m101.1 (a0 + 22) (0)) m101) : jg_CI w 0 mm_X12_conflicts [.ref a0] σ Q := by
  show jg_G w 0 mm_X12_conflicts 0 [.ref a0] [] σ (jg_QI Q)
  refine jg_A (pc' := 1) rfl rfl (fun _ _ _ => rfl) ?_
  refine jg_A (pc' := 2) rfl rfl (fun _ _ _ => rfl) ?_
  refine jg_putI (pc' := 5) (bi := 2) rfl h0 (by decide) rfl rfl rfl rfl (fun m101 hm101 => ?_)
  have h := h m101 hm101
  refine jg_A (pc' := 6) rfl rfl (fun _ _ _ => rfl) ?_
  refine jg_getO (pc' := 9) (k := 22) rfl h0 (by decide) rfl rfl ?_
  refine jg_A (pc' := 10) rfl rfl (fun _ _ _ => rfl) ?_
  refine jg_ialdK (pc' := 11) (xi := 0) rfl (jg_sX12_31 h0) (by decide) (by decide) rfl ?_
  exact jg_iret rfl rfl h
set_option maxRecDepth 100000 in
set_option maxHeartbeats 4000000 in
theorem jb_X12_conflict_0 {w : Nat} {a0 : Nat} {x1 : Int} {x2 : Int} {σ : jg_M} {Q : Int → jg_M → Prop} (h0 : jg_sh a0 = (12, 0)) (h : ∀ m101 : jg_M, m101 = jg_sI σ a0 2 0 → (if jg_wr x1 < 0 then Q (-1) m101 else (if jg_wr (m101.1 (a0 + 22) (0)) ≤ jg_wr x1 then Q (-1) m101 else jg_CI w 0 mm_X12_isIn [.int (.ofInt x2), .int (.ofInt 0), .int (.ofInt 3)] m101 (fun (z103 : Int) (m102 : jg_M) => (if jg_wr z103 = 0 then Q (-1) m102 else (0 ≤ jg_wr x1 ∧ jg_wr x1 < 4608) ∧ ∀ t104 : Int, t104 = (jg_div (m102.1 (a0 + 23) (jg_wr x1)) 128) → (0 ≤ jg_wr x1 ∧ jg_wr x1 < 4608) ∧ ∀ t105 : Int, t105 = (jg_rem (jg_div (m102.1 (a0 + 23) (jg_wr x1)) 16) 8) → (if jg_wr x2 = 0 then Q t104 m102 else (if jg_wr x2 = jg_wr 1 then Q t105 m102 else (if jg_wr x2 = jg_wr 2 then (0 ≤ jg_wr ((8 * t104) + t105) ∧ jg_wr ((8 * t104) + t105) < 768) ∧ Q (m102.1 (a0 + 19) (jg_wr ((8 * t104) + t105))) m102 else (0 ≤ jg_wr x1 ∧ jg_wr x1 < 4608) ∧ Q (jg_rem (m102.1 (a0 + 23) (jg_wr x1)) 16) m102)))))))) : jg_CI w 1 mm_X12_conflict [.ref a0, .int (.ofInt x1), .int (.ofInt x2)] σ Q := by
  show jg_G w 1 mm_X12_conflict 0 [.ref a0, .int (.ofInt x1), .int (.ofInt x2), mj_U, mj_U] [] σ (jg_QI Q)
  refine jg_A (pc' := 1) rfl rfl (fun _ _ _ => rfl) ?_
  refine jg_A (pc' := 2) rfl rfl (fun _ _ _ => rfl) ?_
  refine jg_putI (pc' := 5) (bi := 2) rfl h0 (by decide) rfl rfl rfl rfl (fun m101 hm101 => ?_)
  have h := h m101 hm101
  refine jg_A (pc' := 6) rfl rfl (fun _ _ _ => rfl) ?_
  refine jg_iflt (pc' := 9) rfl rfl (fun hc => ?_) (fun hc => ?_)
  · have h := jg_t h hc
    refine jg_A (pc' := 29) rfl rfl (fun _ _ _ => rfl) ?_
    exact jg_iret rfl rfl h
  · have h := jg_f h hc
    refine jg_A (pc' := 10) rfl rfl (fun _ _ _ => rfl) ?_
    refine jg_A (pc' := 11) rfl rfl (fun _ _ _ => rfl) ?_
    refine jg_getO (pc' := 14) (k := 22) rfl h0 (by decide) rfl rfl ?_
    refine jg_A (pc' := 15) rfl rfl (fun _ _ _ => rfl) ?_
    refine jg_ialdK (pc' := 16) (xi := 0) rfl (jg_sX12_31 h0) (by decide) (by decide) rfl ?_
    refine jg_cge (pc' := 19) rfl rfl (fun hc => ?_) (fun hc => ?_)
    · have h := jg_t h hc
      refine jg_A (pc' := 29) rfl rfl (fun _ _ _ => rfl) ?_
      exact jg_iret rfl rfl h
    · have h := jg_f h hc
      refine jg_A (pc' := 20) rfl rfl (fun _ _ _ => rfl) ?_
      refine jg_A (pc' := 21) rfl rfl (fun _ _ _ => rfl) ?_
      refine jg_A (pc' := 22) rfl rfl (fun _ _ _ => rfl) ?_
      refine jg_calS (M1 := mm_X12_isIn) (hy := 0) (pc' := 25) rfl (Or.inl rfl) jm_X12_isIn (by decide) rfl ⟨Nat.le_of_ble_eq_true rfl, rfl⟩ (Nat.le_of_ble_eq_true rfl) rfl h (jg_kI (fun z103 m102 h => ?_))
      refine jg_ifne (pc' := 28) rfl rfl (fun hc => ?_) (fun hc => ?_)
      · have h := jg_t h hc
        refine jg_A (pc' := 29) rfl rfl (fun _ _ _ => rfl) ?_
        exact jg_iret rfl rfl h
      · have h := jg_f h hc
        refine jg_A (pc' := 31) rfl rfl (fun _ _ _ => rfl) ?_
        refine jg_getO (pc' := 34) (k := 23) rfl h0 (by decide) rfl rfl ?_
        refine jg_A (pc' := 35) rfl rfl (fun _ _ _ => rfl) ?_
        obtain ⟨hg, h⟩ := h
        refine jg_iald (pc' := 36) rfl (jg_sX12_32 h0) hg rfl ?_
        refine jg_A (pc' := 39) rfl rfl (fun _ _ _ => rfl) ?_
        refine jg_idiv (pc' := 40) rfl rfl (by decide) ?_
        refine jg_nm (F := fun t104 => jg_G w 1 mm_X12_conflict 40 [.ref a0, .int (.ofInt x1), .int (.ofInt x2), mj_U, mj_U] [.int (.ofInt t104)] m102 (jg_QI Q)) (jg_div (m102.1 (a0 + 23) (jg_wr x1)) 128) (fun t104 ht104 => ?_)
        have h := h t104 ht104
        refine jg_A (pc' := 41) (ls' := [.ref a0, .int (.ofInt x1), .int (.ofInt x2), .int (.ofInt t104), mj_U]) rfl rfl (fun _ _ _ => rfl) ?_
        refine jg_A (pc' := 42) rfl rfl (fun _ _ _ => rfl) ?_
        refine jg_getO (pc' := 45) (k := 23) rfl h0 (by decide) rfl rfl ?_
        refine jg_A (pc' := 46) rfl rfl (fun _ _ _ => rfl) ?_
        obtain ⟨hg, h⟩ := h
        refine jg_iald (pc' := 47) rfl (jg_sX12_32 h0) hg rfl ?_
        refine jg_A (pc' := 49) rfl rfl (fun _ _ _ => rfl) ?_
        refine jg_idiv (pc' := 50) rfl rfl (by decide) ?_
        refine jg_A (pc' := 52) rfl rfl (fun _ _ _ => rfl) ?_
        refine jg_irem (pc' := 53) rfl rfl (by decide) ?_
        refine jg_nm (F := fun t105 => jg_G w 1 mm_X12_conflict 53 [.ref a0, .int (.ofInt x1), .int (.ofInt x2), .int (.ofInt t104), mj_U] [.int (.ofInt t105)] m102 (jg_QI Q)) (jg_rem (jg_div (m102.1 (a0 + 23) (jg_wr x1)) 16) 8) (fun t105 ht105 => ?_)
        have h := h t105 ht105
        refine jg_A (pc' := 55) (ls' := [.ref a0, .int (.ofInt x1), .int (.ofInt x2), .int (.ofInt t104), .int (.ofInt t105)]) rfl rfl (fun _ _ _ => rfl) ?_
        refine jg_A (pc' := 56) rfl rfl (fun _ _ _ => rfl) ?_
        refine jg_ifne (pc' := 59) rfl rfl (fun hc => ?_) (fun hc => ?_)
        · have h := jg_t h hc
          refine jg_A (pc' := 60) rfl rfl (fun _ _ _ => rfl) ?_
          refine jg_goto rfl ?_
          exact jg_iret rfl rfl h
        · have h := jg_f h hc
          refine jg_A (pc' := 64) rfl rfl (fun _ _ _ => rfl) ?_
          refine jg_A (pc' := 65) rfl rfl (fun _ _ _ => rfl) ?_
          refine jg_cne (pc' := 68) rfl rfl (fun hc => ?_) (fun hc => ?_)
          · have h := jg_t h hc
            refine jg_A (pc' := 70) rfl rfl (fun _ _ _ => rfl) ?_
            refine jg_goto rfl ?_
            exact jg_iret rfl rfl h
          · have h := jg_f h hc
            refine jg_A (pc' := 74) rfl rfl (fun _ _ _ => rfl) ?_
            refine jg_A (pc' := 75) rfl rfl (fun _ _ _ => rfl) ?_
            refine jg_cne (pc' := 78) rfl rfl (fun hc => ?_) (fun hc => ?_)
            · have h := jg_t h hc
              refine jg_A (pc' := 79) rfl rfl (fun _ _ _ => rfl) ?_
              refine jg_getO (pc' := 82) (k := 19) rfl h0 (by decide) rfl rfl ?_
              refine jg_A (pc' := 84) rfl rfl (fun _ _ _ => rfl) ?_
              refine jg_A (pc' := 85) rfl rfl (fun _ _ _ => rfl) ?_
              refine jg_imul (pc' := 86) rfl rfl ?_
              refine jg_A (pc' := 88) rfl rfl (fun _ _ _ => rfl) ?_
              refine jg_iadd (pc' := 89) rfl rfl ?_
              obtain ⟨hg, h⟩ := h
              refine jg_iald (pc' := 90) rfl (jg_sX12_28 h0) hg rfl ?_
              refine jg_goto rfl ?_
              exact jg_iret rfl rfl h
            · have h := jg_f h hc
              refine jg_A (pc' := 94) rfl rfl (fun _ _ _ => rfl) ?_
              refine jg_getO (pc' := 97) (k := 23) rfl h0 (by decide) rfl rfl ?_
              refine jg_A (pc' := 98) rfl rfl (fun _ _ _ => rfl) ?_
              obtain ⟨hg, h⟩ := h
              refine jg_iald (pc' := 99) rfl (jg_sX12_32 h0) hg rfl ?_
              refine jg_A (pc' := 101) rfl rfl (fun _ _ _ => rfl) ?_
              refine jg_irem (pc' := 102) rfl rfl (by decide) ?_
              exact jg_iret rfl rfl h
set_option maxRecDepth 100000 in
set_option maxHeartbeats 4000000 in
theorem jb_X12_witness_0 {w : Nat} {a0 : Nat} {x1 : Int} {x2 : Int} {σ : jg_M} {Q : Int → jg_M → Prop} (h0 : jg_sh a0 = (12, 0)) (h : ∀ m101 : jg_M, m101 = jg_sI σ a0 2 0 → jg_CI w 0 mm_X12_isState [.ref a0, .int (.ofInt x1)] m101 (fun (z103 : Int) (m102 : jg_M) => (if jg_wr z103 = 0 then Q (-1) m102 else (if 0 ≤ jg_wr x2 then (0 ≤ jg_wr x1 ∧ jg_wr x1 < 48) ∧ (if jg_wr (m102.1 (a0 + 31) (jg_wr x1)) ≤ jg_wr x2 then Q (-2) m102 else (0 ≤ jg_wr ((60 * x1) + x2) ∧ jg_wr ((60 * x1) + x2) < 2880) ∧ Q (m102.1 (a0 + 32) (jg_wr ((60 * x1) + x2))) m102) else Q (-1) m102)))) : jg_CI w 1 mm_X12_witness [.ref a0, .int (.ofInt x1), .int (.ofInt x2)] σ Q := by
  show jg_G w 1 mm_X12_witness 0 [.ref a0, .int (.ofInt x1), .int (.ofInt x2)] [] σ (jg_QI Q)
  refine jg_A (pc' := 1) rfl rfl (fun _ _ _ => rfl) ?_
  refine jg_A (pc' := 2) rfl rfl (fun _ _ _ => rfl) ?_
  refine jg_putI (pc' := 5) (bi := 2) rfl h0 (by decide) rfl rfl rfl rfl (fun m101 hm101 => ?_)
  have h := h m101 hm101
  refine jg_A (pc' := 6) rfl rfl (fun _ _ _ => rfl) ?_
  refine jg_A (pc' := 7) rfl rfl (fun _ _ _ => rfl) ?_
  refine jg_calX (M1 := mm_X12_isState) (hy := 0) (pc' := 10) rfl jm_X12_isState (by decide) rfl h0 (by decide) ⟨Nat.le_of_ble_eq_true rfl, rfl⟩ (Nat.le_of_ble_eq_true rfl) rfl h (jg_kI (fun z103 m102 h => ?_))
  refine jg_ifeq (pc' := 13) rfl rfl (fun hc => ?_) (fun hc => ?_)
  · have h := jg_t h hc
    refine jg_A (pc' := 18) rfl rfl (fun _ _ _ => rfl) ?_
    exact jg_iret rfl rfl h
  · have h := jg_f h hc
    refine jg_A (pc' := 14) rfl rfl (fun _ _ _ => rfl) ?_
    refine jg_ifge (pc' := 17) rfl rfl (fun hc => ?_) (fun hc => ?_)
    · have h := jg_t h hc
      refine jg_A (pc' := 20) rfl rfl (fun _ _ _ => rfl) ?_
      refine jg_A (pc' := 21) rfl rfl (fun _ _ _ => rfl) ?_
      refine jg_getO (pc' := 24) (k := 31) rfl h0 (by decide) rfl rfl ?_
      refine jg_A (pc' := 25) rfl rfl (fun _ _ _ => rfl) ?_
      obtain ⟨hg, h⟩ := h
      refine jg_iald (pc' := 26) rfl (jg_sX12_45 h0) hg rfl ?_
      refine jg_cge (pc' := 29) rfl rfl (fun hc => ?_) (fun hc => ?_)
      · have h := jg_t h hc
        refine jg_A (pc' := 45) rfl rfl (fun _ _ _ => rfl) ?_
        exact jg_iret rfl rfl h
      · have h := jg_f h hc
        refine jg_A (pc' := 30) rfl rfl (fun _ _ _ => rfl) ?_
        refine jg_getO (pc' := 33) (k := 32) rfl h0 (by decide) rfl rfl ?_
        refine jg_A (pc' := 35) rfl rfl (fun _ _ _ => rfl) ?_
        refine jg_A (pc' := 36) rfl rfl (fun _ _ _ => rfl) ?_
        refine jg_imul (pc' := 37) rfl rfl ?_
        refine jg_A (pc' := 38) rfl rfl (fun _ _ _ => rfl) ?_
        refine jg_iadd (pc' := 39) rfl rfl ?_
        obtain ⟨hg, h⟩ := h
        refine jg_iald (pc' := 40) rfl (jg_sX12_46 h0) hg rfl ?_
        refine jg_goto rfl ?_
        exact jg_iret rfl rfl h
    · have h := jg_f h hc
      refine jg_A (pc' := 18) rfl rfl (fun _ _ _ => rfl) ?_
      exact jg_iret rfl rfl h
set_option maxRecDepth 100000 in
set_option maxHeartbeats 4000000 in
theorem jb_X12_shortest_0 {w : Nat} {a0 : Nat} {x1 : Int} {x2 : Int} {σ : jg_M} {Q : Int → jg_M → Prop} (h0 : jg_sh a0 = (12, 0)) (h : ∀ m101 : jg_M, m101 = jg_sI σ a0 2 0 → jg_CI w 0 mm_X12_isKind [.ref a0, .int (.ofInt x1)] m101 (fun (z103 : Int) (m102 : jg_M) => (if jg_wr z103 = 0 then Q (-1) m102 else (if 0 ≤ jg_wr x2 then (0 ≤ jg_wr x1 ∧ jg_wr x1 < 5) ∧ (if jg_wr (m102.1 (a0 + 29) (jg_wr x1)) ≤ jg_wr x2 then Q (-2) m102 else (0 ≤ jg_wr ((40 * x1) + x2) ∧ jg_wr ((40 * x1) + x2) < 200) ∧ Q (m102.1 (a0 + 30) (jg_wr ((40 * x1) + x2))) m102) else Q (-1) m102)))) : jg_CI w 1 mm_X12_shortest [.ref a0, .int (.ofInt x1), .int (.ofInt x2)] σ Q := by
  show jg_G w 1 mm_X12_shortest 0 [.ref a0, .int (.ofInt x1), .int (.ofInt x2)] [] σ (jg_QI Q)
  refine jg_A (pc' := 1) rfl rfl (fun _ _ _ => rfl) ?_
  refine jg_A (pc' := 2) rfl rfl (fun _ _ _ => rfl) ?_
  refine jg_putI (pc' := 5) (bi := 2) rfl h0 (by decide) rfl rfl rfl rfl (fun m101 hm101 => ?_)
  have h := h m101 hm101
  refine jg_A (pc' := 6) rfl rfl (fun _ _ _ => rfl) ?_
  refine jg_A (pc' := 7) rfl rfl (fun _ _ _ => rfl) ?_
  refine jg_calX (M1 := mm_X12_isKind) (hy := 0) (pc' := 10) rfl jm_X12_isKind (by decide) rfl h0 (by decide) ⟨Nat.le_of_ble_eq_true rfl, rfl⟩ (Nat.le_of_ble_eq_true rfl) rfl h (jg_kI (fun z103 m102 h => ?_))
  refine jg_ifeq (pc' := 13) rfl rfl (fun hc => ?_) (fun hc => ?_)
  · have h := jg_t h hc
    refine jg_A (pc' := 18) rfl rfl (fun _ _ _ => rfl) ?_
    exact jg_iret rfl rfl h
  · have h := jg_f h hc
    refine jg_A (pc' := 14) rfl rfl (fun _ _ _ => rfl) ?_
    refine jg_ifge (pc' := 17) rfl rfl (fun hc => ?_) (fun hc => ?_)
    · have h := jg_t h hc
      refine jg_A (pc' := 20) rfl rfl (fun _ _ _ => rfl) ?_
      refine jg_A (pc' := 21) rfl rfl (fun _ _ _ => rfl) ?_
      refine jg_getO (pc' := 24) (k := 29) rfl h0 (by decide) rfl rfl ?_
      refine jg_A (pc' := 25) rfl rfl (fun _ _ _ => rfl) ?_
      obtain ⟨hg, h⟩ := h
      refine jg_iald (pc' := 26) rfl (jg_sX12_43 h0) hg rfl ?_
      refine jg_cge (pc' := 29) rfl rfl (fun hc => ?_) (fun hc => ?_)
      · have h := jg_t h hc
        refine jg_A (pc' := 45) rfl rfl (fun _ _ _ => rfl) ?_
        exact jg_iret rfl rfl h
      · have h := jg_f h hc
        refine jg_A (pc' := 30) rfl rfl (fun _ _ _ => rfl) ?_
        refine jg_getO (pc' := 33) (k := 30) rfl h0 (by decide) rfl rfl ?_
        refine jg_A (pc' := 35) rfl rfl (fun _ _ _ => rfl) ?_
        refine jg_A (pc' := 36) rfl rfl (fun _ _ _ => rfl) ?_
        refine jg_imul (pc' := 37) rfl rfl ?_
        refine jg_A (pc' := 38) rfl rfl (fun _ _ _ => rfl) ?_
        refine jg_iadd (pc' := 39) rfl rfl ?_
        obtain ⟨hg, h⟩ := h
        refine jg_iald (pc' := 40) rfl (jg_sX12_44 h0) hg rfl ?_
        refine jg_goto rfl ?_
        exact jg_iret rfl rfl h
    · have h := jg_f h hc
      refine jg_A (pc' := 18) rfl rfl (fun _ _ _ => rfl) ?_
      exact jg_iret rfl rfl h
set_option maxRecDepth 100000 in
set_option maxHeartbeats 4000000 in
theorem jb_X12_offset_0 {w : Nat} {a0 : Nat} {x1 : Int} {σ : jg_M} {Q : Int → jg_M → Prop} (h0 : jg_sh a0 = (12, 0)) (h : ∀ m101 : jg_M, m101 = jg_sI σ a0 2 0 → jg_CI w 0 mm_X12_isState [.ref a0, .int (.ofInt x1)] m101 (fun (z103 : Int) (m102 : jg_M) => (if jg_wr z103 = 0 then Q (-1) m102 else (0 ≤ jg_wr x1 ∧ jg_wr x1 < 48) ∧ Q (m102.1 (a0 + 34) (jg_wr x1)) m102))) : jg_CI w 1 mm_X12_offset [.ref a0, .int (.ofInt x1)] σ Q := by
  show jg_G w 1 mm_X12_offset 0 [.ref a0, .int (.ofInt x1)] [] σ (jg_QI Q)
  refine jg_A (pc' := 1) rfl rfl (fun _ _ _ => rfl) ?_
  refine jg_A (pc' := 2) rfl rfl (fun _ _ _ => rfl) ?_
  refine jg_putI (pc' := 5) (bi := 2) rfl h0 (by decide) rfl rfl rfl rfl (fun m101 hm101 => ?_)
  have h := h m101 hm101
  refine jg_A (pc' := 6) rfl rfl (fun _ _ _ => rfl) ?_
  refine jg_A (pc' := 7) rfl rfl (fun _ _ _ => rfl) ?_
  refine jg_calX (M1 := mm_X12_isState) (hy := 0) (pc' := 10) rfl jm_X12_isState (by decide) rfl h0 (by decide) ⟨Nat.le_of_ble_eq_true rfl, rfl⟩ (Nat.le_of_ble_eq_true rfl) rfl h (jg_kI (fun z103 m102 h => ?_))
  refine jg_ifeq (pc' := 13) rfl rfl (fun hc => ?_) (fun hc => ?_)
  · have h := jg_t h hc
    refine jg_A (pc' := 23) rfl rfl (fun _ _ _ => rfl) ?_
    exact jg_iret rfl rfl h
  · have h := jg_f h hc
    refine jg_A (pc' := 14) rfl rfl (fun _ _ _ => rfl) ?_
    refine jg_getO (pc' := 17) (k := 34) rfl h0 (by decide) rfl rfl ?_
    refine jg_A (pc' := 18) rfl rfl (fun _ _ _ => rfl) ?_
    obtain ⟨hg, h⟩ := h
    refine jg_iald (pc' := 19) rfl (jg_sX12_49 h0) hg rfl ?_
    refine jg_goto rfl ?_
    exact jg_iret rfl rfl h
set_option maxRecDepth 100000 in
set_option maxHeartbeats 4000000 in
theorem jb_X12_packed_0 {w : Nat} {a0 : Nat} {x1 : Int} {x2 : Int} {σ : jg_M} {Q : Int → jg_M → Prop} (h0 : jg_sh a0 = (12, 0)) (h : ∀ m101 : jg_M, m101 = jg_sI σ a0 2 0 → jg_CI w 0 mm_X12_isIn [.int (.ofInt x1), .int (.ofInt 0), .int (.ofInt 999)] m101 (fun (z103 : Int) (m102 : jg_M) => (if jg_wr z103 = 0 then Q (-1) m102 else jg_CI w 0 mm_X12_isIn [.int (.ofInt x2), .int (.ofInt 0), .int (.ofInt 1)] m102 (fun (z105 : Int) (m104 : jg_M) => (if jg_wr z105 = 0 then Q (-1) m104 else (0 ≤ jg_wr x1 ∧ jg_wr x1 < 1000) ∧ (if jg_wr (m104.1 (a0 + 35) (jg_wr x1)) = 0 then Q (-2) m104 else (if jg_wr x2 = 0 then (0 ≤ jg_wr x1 ∧ jg_wr x1 < 1000) ∧ Q (m104.1 (a0 + 35) (jg_wr x1)) m104 else (0 ≤ jg_wr x1 ∧ jg_wr x1 < 1000) ∧ Q (m104.1 (a0 + 36) (jg_wr x1)) m104))))))) : jg_CI w 1 mm_X12_packed [.ref a0, .int (.ofInt x1), .int (.ofInt x2)] σ Q := by
  show jg_G w 1 mm_X12_packed 0 [.ref a0, .int (.ofInt x1), .int (.ofInt x2)] [] σ (jg_QI Q)
  refine jg_A (pc' := 1) rfl rfl (fun _ _ _ => rfl) ?_
  refine jg_A (pc' := 2) rfl rfl (fun _ _ _ => rfl) ?_
  refine jg_putI (pc' := 5) (bi := 2) rfl h0 (by decide) rfl rfl rfl rfl (fun m101 hm101 => ?_)
  have h := h m101 hm101
  refine jg_A (pc' := 6) rfl rfl (fun _ _ _ => rfl) ?_
  refine jg_A (pc' := 7) rfl rfl (fun _ _ _ => rfl) ?_
  refine jg_A (pc' := 10) rfl rfl (fun _ _ _ => rfl) ?_
  refine jg_calS (M1 := mm_X12_isIn) (hy := 0) (pc' := 13) rfl (Or.inl rfl) jm_X12_isIn (by decide) rfl ⟨Nat.le_of_ble_eq_true rfl, rfl⟩ (Nat.le_of_ble_eq_true rfl) rfl h (jg_kI (fun z103 m102 h => ?_))
  refine jg_ifeq (pc' := 16) rfl rfl (fun hc => ?_) (fun hc => ?_)
  · have h := jg_t h hc
    refine jg_A (pc' := 26) rfl rfl (fun _ _ _ => rfl) ?_
    exact jg_iret rfl rfl h
  · have h := jg_f h hc
    refine jg_A (pc' := 17) rfl rfl (fun _ _ _ => rfl) ?_
    refine jg_A (pc' := 18) rfl rfl (fun _ _ _ => rfl) ?_
    refine jg_A (pc' := 19) rfl rfl (fun _ _ _ => rfl) ?_
    refine jg_calS (M1 := mm_X12_isIn) (hy := 0) (pc' := 22) rfl (Or.inl rfl) jm_X12_isIn (by decide) rfl ⟨Nat.le_of_ble_eq_true rfl, rfl⟩ (Nat.le_of_ble_eq_true rfl) rfl h (jg_kI (fun z105 m104 h => ?_))
    refine jg_ifne (pc' := 25) rfl rfl (fun hc => ?_) (fun hc => ?_)
    · have h := jg_t h hc
      refine jg_A (pc' := 26) rfl rfl (fun _ _ _ => rfl) ?_
      exact jg_iret rfl rfl h
    · have h := jg_f h hc
      refine jg_A (pc' := 28) rfl rfl (fun _ _ _ => rfl) ?_
      refine jg_getO (pc' := 31) (k := 35) rfl h0 (by decide) rfl rfl ?_
      refine jg_A (pc' := 32) rfl rfl (fun _ _ _ => rfl) ?_
      obtain ⟨hg, h⟩ := h
      refine jg_iald (pc' := 33) rfl (jg_sX12_50 h0) hg rfl ?_
      refine jg_ifne (pc' := 36) rfl rfl (fun hc => ?_) (fun hc => ?_)
      · have h := jg_t h hc
        refine jg_A (pc' := 38) rfl rfl (fun _ _ _ => rfl) ?_
        exact jg_iret rfl rfl h
      · have h := jg_f h hc
        refine jg_A (pc' := 40) rfl rfl (fun _ _ _ => rfl) ?_
        refine jg_ifne (pc' := 43) rfl rfl (fun hc => ?_) (fun hc => ?_)
        · have h := jg_t h hc
          refine jg_A (pc' := 44) rfl rfl (fun _ _ _ => rfl) ?_
          refine jg_getO (pc' := 47) (k := 35) rfl h0 (by decide) rfl rfl ?_
          refine jg_A (pc' := 48) rfl rfl (fun _ _ _ => rfl) ?_
          obtain ⟨hg, h⟩ := h
          refine jg_iald (pc' := 49) rfl (jg_sX12_50 h0) hg rfl ?_
          refine jg_goto rfl ?_
          exact jg_iret rfl rfl h
        · have h := jg_f h hc
          refine jg_A (pc' := 53) rfl rfl (fun _ _ _ => rfl) ?_
          refine jg_getO (pc' := 56) (k := 36) rfl h0 (by decide) rfl rfl ?_
          refine jg_A (pc' := 57) rfl rfl (fun _ _ _ => rfl) ?_
          obtain ⟨hg, h⟩ := h
          refine jg_iald (pc' := 58) rfl (jg_sX12_51 h0) hg rfl ?_
          exact jg_iret rfl rfl h
set_option maxRecDepth 100000 in
set_option maxHeartbeats 4000000 in
theorem jb_X12_fromNow_0 {w : Nat} {a0 : Nat} {σ : jg_M} {Q : jg_M → Prop} (h0 : jg_sh a0 = (12, 0)) (h : jg_GV w 0 mm_X12_fromNow 2 [.ref a0, .int (.ofInt 0)] σ Q) : jg_CV w 0 mm_X12_fromNow [.ref a0] σ Q := by
  show jg_G w 0 mm_X12_fromNow 0 [.ref a0, mj_U] [] σ (jg_QV Q)
  refine jg_A (pc' := 1) rfl rfl (fun _ _ _ => rfl) ?_
  refine jg_A (pc' := 2) (ls' := [.ref a0, .int (.ofInt 0)]) rfl rfl (fun _ _ _ => rfl) ?_
  exact h
set_option maxRecDepth 100000 in
set_option maxHeartbeats 4000000 in
theorem jb_X12_fromNow_2 {w : Nat} {a0 : Nat} {x1 : Int} {σ : jg_M} {Q : jg_M → Prop} (h0 : jg_sh a0 = (12, 0)) (h : (if jg_wr (σ.1 a0 58) ≤ jg_wr x1 then ∀ m101 : jg_M, m101 = jg_sI σ a0 54 (σ.1 a0 58) → Q m101 else (0 ≤ jg_wr x1 ∧ jg_wr x1 < 40) ∧ (0 ≤ (jg_wr x1) ∧ (jg_wr x1) < 42) ∧ ∀ m102 : jg_M, m102 = jg_sI σ (a0 + 37) (jg_wr x1) (σ.1 (a0 + 38) (jg_wr x1)) → jg_GV w 0 mm_X12_fromNow 2 [.ref a0, .int (.ofInt (x1 + 1))] m102 Q)) : jg_GV w 0 mm_X12_fromNow 2 [.ref a0, .int (.ofInt x1)] σ Q := by
  show jg_G w 0 mm_X12_fromNow 2 [.ref a0, .int (.ofInt x1)] [] σ (jg_QV Q)
  refine jg_A (pc' := 3) rfl rfl (fun _ _ _ => rfl) ?_
  refine jg_A (pc' := 4) rfl rfl (fun _ _ _ => rfl) ?_
  refine jg_getI (pc' := 7) (bi := 58) rfl h0 (by decide) (Or.inl rfl) rfl rfl ?_
  refine jg_cge (pc' := 10) rfl rfl (fun hc => ?_) (fun hc => ?_)
  · have h := jg_t h hc
    refine jg_A (pc' := 29) rfl rfl (fun _ _ _ => rfl) ?_
    refine jg_A (pc' := 30) rfl rfl (fun _ _ _ => rfl) ?_
    refine jg_getI (pc' := 33) (bi := 58) rfl h0 (by decide) (Or.inl rfl) rfl rfl ?_
    refine jg_putI (pc' := 36) (bi := 54) rfl h0 (by decide) rfl rfl rfl rfl (fun m101 hm101 => ?_)
    have h := h m101 hm101
    exact jg_vret rfl rfl h
  · have h := jg_f h hc
    refine jg_A (pc' := 11) rfl rfl (fun _ _ _ => rfl) ?_
    refine jg_getO (pc' := 14) (k := 37) rfl h0 (by decide) rfl rfl ?_
    refine jg_A (pc' := 15) rfl rfl (fun _ _ _ => rfl) ?_
    refine jg_A (pc' := 16) rfl rfl (fun _ _ _ => rfl) ?_
    refine jg_getO (pc' := 19) (k := 38) rfl h0 (by decide) rfl rfl ?_
    refine jg_A (pc' := 20) rfl rfl (fun _ _ _ => rfl) ?_
    obtain ⟨hg, h⟩ := h
    refine jg_iald (pc' := 21) rfl (jg_sX12_57 h0) hg rfl ?_
    obtain ⟨hg, h⟩ := h
    refine jg_iast (pc' := 22) rfl (jg_sX12_53 h0) hg rfl (fun m102 hm102 => ?_)
    have h := h m102 hm102
    refine jg_iinc (pc' := 25) (ls' := [.ref a0, .int (.ofInt (x1 + 1))]) rfl rfl rfl rfl ?_
    refine jg_goto rfl ?_
    exact h
set_option maxRecDepth 100000 in
set_option maxHeartbeats 4000000 in
theorem jb_X12_fromFirst_0 {w : Nat} {a0 : Nat} {σ : jg_M} {Q : jg_M → Prop} (h0 : jg_sh a0 = (12, 0)) (h : ∀ m101 : jg_M, m101 = jg_sI σ (a0 + 37) 0 0 → ∀ m102 : jg_M, m102 = jg_sI m101 a0 54 1 → Q m102) : jg_CV w 0 mm_X12_fromFirst [.ref a0] σ Q := by
  show jg_G w 0 mm_X12_fromFirst 0 [.ref a0] [] σ (jg_QV Q)
  refine jg_A (pc' := 1) rfl rfl (fun _ _ _ => rfl) ?_
  refine jg_getO (pc' := 4) (k := 37) rfl h0 (by decide) rfl rfl ?_
  refine jg_A (pc' := 5) rfl rfl (fun _ _ _ => rfl) ?_
  refine jg_A (pc' := 6) rfl rfl (fun _ _ _ => rfl) ?_
  refine jg_iastK (pc' := 7) (xi := 0) rfl (jg_sX12_53 h0) (by decide) (by decide) rfl (fun m101 hm101 => ?_)
  have h := h m101 hm101
  refine jg_A (pc' := 8) rfl rfl (fun _ _ _ => rfl) ?_
  refine jg_A (pc' := 9) rfl rfl (fun _ _ _ => rfl) ?_
  refine jg_putI (pc' := 12) (bi := 54) rfl h0 (by decide) rfl rfl rfl rfl (fun m102 hm102 => ?_)
  have h := h m102 hm102
  exact jg_vret rfl rfl h
set_option maxRecDepth 100000 in
set_option maxHeartbeats 4000000 in
theorem jb_X12_comes_0 {w : Nat} {a0 : Nat} {x1 : Int} {x2 : Int} {σ : jg_M} {Q : Int → jg_M → Prop} (h0 : jg_sh a0 = (12, 0)) (h : ∀ m101 : jg_M, m101 = jg_sI σ a0 55 0 → ∀ m102 : jg_M, m102 = jg_sI m101 a0 56 0 → jg_GI w 0 mm_X12_comes 10 [.ref a0, .int (.ofInt x1), .int (.ofInt x2), mj_U, mj_U, mj_U, mj_U] m102 Q) : jg_CI w 0 mm_X12_comes [.ref a0, .int (.ofInt x1), .int (.ofInt x2)] σ Q := by
  show jg_G w 0 mm_X12_comes 0 [.ref a0, .int (.ofInt x1), .int (.ofInt x2), mj_U, mj_U, mj_U, mj_U] [] σ (jg_QI Q)
  refine jg_A (pc' := 1) rfl rfl (fun _ _ _ => rfl) ?_
  refine jg_A (pc' := 2) rfl rfl (fun _ _ _ => rfl) ?_
  refine jg_putI (pc' := 5) (bi := 55) rfl h0 (by decide) rfl rfl rfl rfl (fun m101 hm101 => ?_)
  have h := h m101 hm101
  refine jg_A (pc' := 6) rfl rfl (fun _ _ _ => rfl) ?_
  refine jg_A (pc' := 7) rfl rfl (fun _ _ _ => rfl) ?_
  refine jg_putZ (pc' := 10) (bi := 56) rfl h0 (by decide) rfl rfl (by decide) rfl rfl (fun m102 hm102 => ?_)
  have h := h m102 hm102
  exact h
set_option maxRecDepth 100000 in
set_option maxHeartbeats 4000000 in
theorem jb_X12_comes_10 {w : Nat} {a0 : Nat} {x1 : Int} {x2 : Int} {u3 : Value} {u4 : Value} {u5 : Value} {u6 : Value} {σ : jg_M} {Q : Int → jg_M → Prop} (h0 : jg_sh a0 = (12, 0)) (h : (0 ≤ jg_wr ((σ.1 a0 54) - 1) ∧ jg_wr ((σ.1 a0 54) - 1) < 42) ∧ ∀ t101 : Int, t101 = (σ.1 (a0 + 37) (jg_wr ((σ.1 a0 54) - 1))) → (0 ≤ jg_wr ((8 * ((48 * x1) + t101)) + x2) ∧ jg_wr ((8 * ((48 * x1) + t101)) + x2) < 768) ∧ ∀ t102 : Int, t102 = (σ.1 (a0 + 19) (jg_wr ((8 * ((48 * x1) + t101)) + x2))) → (if jg_wr t102 = 0 then Q 0 σ else (if jg_wr t102 = jg_wr 3000 then ∀ m103 : jg_M, m103 = jg_sI σ a0 56 1 → Q 1 m103 else ∀ t104 : Int, t104 = (t102 - 1000) → (if jg_wr t102 < jg_wr 2000 then (if jg_wr (σ.1 a0 54) = jg_wr 40 then Q 0 σ else (0 ≤ (jg_wr (σ.1 a0 54)) ∧ (jg_wr (σ.1 a0 54)) < 42) ∧ ∀ m105 : jg_M, m105 = jg_sI σ (a0 + 37) (jg_wr (σ.1 a0 54)) t104 → ∀ m106 : jg_M, m106 = jg_sI m105 a0 54 ((m105.1 a0 54) + 1) → (if jg_wr 2000 ≤ jg_wr t102 then jg_GI w 0 mm_X12_comes 10 [.ref a0, .int (.ofInt x1), .int (.ofInt x2), .int (.ofInt t101), .int (.ofInt t102), .int (.ofInt t104), u6] m106 Q else Q 1 m106)) else ∀ t107 : Int, t107 = (t102 - 2000) → (if jg_wr (σ.1 a0 55) = jg_wr 60 then Q 0 σ else ∀ m108 : jg_M, m108 = jg_sI σ a0 55 ((σ.1 a0 55) + 1) → (0 ≤ jg_wr t107 ∧ jg_wr t107 < 26) ∧ ∀ m109 : jg_M, m109 = jg_sI m108 a0 54 ((m108.1 a0 54) - (m108.1 (a0 + 11) (jg_wr t107))) → (0 ≤ jg_wr ((m109.1 a0 54) - 1) ∧ jg_wr ((m109.1 a0 54) - 1) < 42) ∧ (0 ≤ jg_wr t107 ∧ jg_wr t107 < 26) ∧ (0 ≤ jg_wr (((12 * ((48 * x1) + (m109.1 (a0 + 37) (jg_wr ((m109.1 a0 54) - 1))))) + 7) + (m109.1 (a0 + 10) (jg_wr t107))) ∧ jg_wr (((12 * ((48 * x1) + (m109.1 (a0 + 37) (jg_wr ((m109.1 a0 54) - 1))))) + 7) + (m109.1 (a0 + 10) (jg_wr t107))) < 1152) ∧ ∀ t110 : Int, t110 = (m109.1 (a0 + 16) (jg_wr (((12 * ((48 * x1) + (m109.1 (a0 + 37) (jg_wr ((m109.1 a0 54) - 1))))) + 7) + (m109.1 (a0 + 10) (jg_wr t107))))) → (if jg_wr (m109.1 a0 54) = jg_wr 40 then Q 0 m109 else (0 ≤ (jg_wr (m109.1 a0 54)) ∧ (jg_wr (m109.1 a0 54)) < 42) ∧ ∀ m111 : jg_M, m111 = jg_sI m109 (a0 + 37) (jg_wr (m109.1 a0 54)) t110 → ∀ m112 : jg_M, m112 = jg_sI m111 a0 54 ((m111.1 a0 54) + 1) → (if jg_wr 2000 ≤ jg_wr t102 then jg_GI w 0 mm_X12_comes 10 [.ref a0, .int (.ofInt x1), .int (.ofInt x2), .int (.ofInt t101), .int (.ofInt t102), .int (.ofInt t110), .int (.ofInt t107)] m112 Q else Q 1 m112))))))) : jg_GI w 0 mm_X12_comes 10 [.ref a0, .int (.ofInt x1), .int (.ofInt x2), u3, u4, u5, u6] σ Q := by
  show jg_G w 0 mm_X12_comes 10 [.ref a0, .int (.ofInt x1), .int (.ofInt x2), u3, u4, u5, u6] [] σ (jg_QI Q)
  refine jg_A (pc' := 11) rfl rfl (fun _ _ _ => rfl) ?_
  refine jg_getO (pc' := 14) (k := 37) rfl h0 (by decide) rfl rfl ?_
  refine jg_A (pc' := 15) rfl rfl (fun _ _ _ => rfl) ?_
  refine jg_getI (pc' := 18) (bi := 54) rfl h0 (by decide) (Or.inl rfl) rfl rfl ?_
  refine jg_A (pc' := 19) rfl rfl (fun _ _ _ => rfl) ?_
  refine jg_isub (pc' := 20) rfl rfl ?_
  obtain ⟨hg, h⟩ := h
  refine jg_iald (pc' := 21) rfl (jg_sX12_53 h0) hg rfl ?_
  refine jg_nm (F := fun t101 => jg_G w 0 mm_X12_comes 21 [.ref a0, .int (.ofInt x1), .int (.ofInt x2), u3, u4, u5, u6] [.int (.ofInt t101)] σ (jg_QI Q)) (σ.1 (a0 + 37) (jg_wr ((σ.1 a0 54) - 1))) (fun t101 ht101 => ?_)
  have h := h t101 ht101
  refine jg_A (pc' := 22) (ls' := [.ref a0, .int (.ofInt x1), .int (.ofInt x2), .int (.ofInt t101), u4, u5, u6]) rfl rfl (fun _ _ _ => rfl) ?_
  refine jg_A (pc' := 23) rfl rfl (fun _ _ _ => rfl) ?_
  refine jg_getO (pc' := 26) (k := 19) rfl h0 (by decide) rfl rfl ?_
  refine jg_A (pc' := 28) rfl rfl (fun _ _ _ => rfl) ?_
  refine jg_A (pc' := 30) rfl rfl (fun _ _ _ => rfl) ?_
  refine jg_A (pc' := 31) rfl rfl (fun _ _ _ => rfl) ?_
  refine jg_imul (pc' := 32) rfl rfl ?_
  refine jg_A (pc' := 33) rfl rfl (fun _ _ _ => rfl) ?_
  refine jg_iadd (pc' := 34) rfl rfl ?_
  refine jg_imul (pc' := 35) rfl rfl ?_
  refine jg_A (pc' := 36) rfl rfl (fun _ _ _ => rfl) ?_
  refine jg_iadd (pc' := 37) rfl rfl ?_
  obtain ⟨hg, h⟩ := h
  refine jg_iald (pc' := 38) rfl (jg_sX12_28 h0) hg rfl ?_
  refine jg_nm (F := fun t102 => jg_G w 0 mm_X12_comes 38 [.ref a0, .int (.ofInt x1), .int (.ofInt x2), .int (.ofInt t101), u4, u5, u6] [.int (.ofInt t102)] σ (jg_QI Q)) (σ.1 (a0 + 19) (jg_wr ((8 * ((48 * x1) + t101)) + x2))) (fun t102 ht102 => ?_)
  have h := h t102 ht102
  refine jg_A (pc' := 40) (ls' := [.ref a0, .int (.ofInt x1), .int (.ofInt x2), .int (.ofInt t101), .int (.ofInt t102), u5, u6]) rfl rfl (fun _ _ _ => rfl) ?_
  refine jg_A (pc' := 42) rfl rfl (fun _ _ _ => rfl) ?_
  refine jg_ifne (pc' := 45) rfl rfl (fun hc => ?_) (fun hc => ?_)
  · have h := jg_t h hc
    refine jg_A (pc' := 46) rfl rfl (fun _ _ _ => rfl) ?_
    exact jg_zret rfl rfl (by decide) h
  · have h := jg_f h hc
    refine jg_A (pc' := 49) rfl rfl (fun _ _ _ => rfl) ?_
    refine jg_A (pc' := 52) rfl rfl (fun _ _ _ => rfl) ?_
    refine jg_cne (pc' := 55) rfl rfl (fun hc => ?_) (fun hc => ?_)
    · have h := jg_t h hc
      refine jg_A (pc' := 56) rfl rfl (fun _ _ _ => rfl) ?_
      refine jg_A (pc' := 57) rfl rfl (fun _ _ _ => rfl) ?_
      refine jg_putZ (pc' := 60) (bi := 56) rfl h0 (by decide) rfl rfl (by decide) rfl rfl (fun m103 hm103 => ?_)
      have h := h m103 hm103
      refine jg_A (pc' := 61) rfl rfl (fun _ _ _ => rfl) ?_
      exact jg_zret rfl rfl (by decide) h
    · have h := jg_f h hc
      refine jg_A (pc' := 64) rfl rfl (fun _ _ _ => rfl) ?_
      refine jg_A (pc' := 67) rfl rfl (fun _ _ _ => rfl) ?_
      refine jg_isub (pc' := 68) rfl rfl ?_
      refine jg_nm (F := fun t104 => jg_G w 0 mm_X12_comes 68 [.ref a0, .int (.ofInt x1), .int (.ofInt x2), .int (.ofInt t101), .int (.ofInt t102), u5, u6] [.int (.ofInt t104)] σ (jg_QI Q)) (t102 - 1000) (fun t104 ht104 => ?_)
      have h := h t104 ht104
      refine jg_A (pc' := 70) (ls' := [.ref a0, .int (.ofInt x1), .int (.ofInt x2), .int (.ofInt t101), .int (.ofInt t102), .int (.ofInt t104), u6]) rfl rfl (fun _ _ _ => rfl) ?_
      refine jg_A (pc' := 72) rfl rfl (fun _ _ _ => rfl) ?_
      refine jg_A (pc' := 75) rfl rfl (fun _ _ _ => rfl) ?_
      refine jg_clt (pc' := 78) rfl rfl (fun hc => ?_) (fun hc => ?_)
      · have h := jg_t h hc
        refine jg_A (pc' := 161) rfl rfl (fun _ _ _ => rfl) ?_
        refine jg_getI (pc' := 164) (bi := 54) rfl h0 (by decide) (Or.inl rfl) rfl rfl ?_
        refine jg_A (pc' := 166) rfl rfl (fun _ _ _ => rfl) ?_
        refine jg_cne (pc' := 169) rfl rfl (fun hc => ?_) (fun hc => ?_)
        · have h := jg_t h hc
          refine jg_A (pc' := 170) rfl rfl (fun _ _ _ => rfl) ?_
          exact jg_zret rfl rfl (by decide) h
        · have h := jg_f h hc
          refine jg_A (pc' := 172) rfl rfl (fun _ _ _ => rfl) ?_
          refine jg_getO (pc' := 175) (k := 37) rfl h0 (by decide) rfl rfl ?_
          refine jg_A (pc' := 176) rfl rfl (fun _ _ _ => rfl) ?_
          refine jg_getI (pc' := 179) (bi := 54) rfl h0 (by decide) (Or.inl rfl) rfl rfl ?_
          refine jg_A (pc' := 181) rfl rfl (fun _ _ _ => rfl) ?_
          obtain ⟨hg, h⟩ := h
          refine jg_iast (pc' := 182) rfl (jg_sX12_53 h0) hg rfl (fun m105 hm105 => ?_)
          have h := h m105 hm105
          refine jg_A (pc' := 183) rfl rfl (fun _ _ _ => rfl) ?_
          refine jg_A (pc' := 184) rfl rfl (fun _ _ _ => rfl) ?_
          refine jg_getI (pc' := 187) (bi := 54) rfl h0 (by decide) (Or.inl rfl) rfl rfl ?_
          refine jg_A (pc' := 188) rfl rfl (fun _ _ _ => rfl) ?_
          refine jg_iadd (pc' := 189) rfl rfl ?_
          refine jg_putI (pc' := 192) (bi := 54) rfl h0 (by decide) rfl rfl rfl rfl (fun m106 hm106 => ?_)
          have h := h m106 hm106
          refine jg_A (pc' := 194) rfl rfl (fun _ _ _ => rfl) ?_
          refine jg_A (pc' := 197) rfl rfl (fun _ _ _ => rfl) ?_
          refine jg_cge (pc' := 200) rfl rfl (fun hc => ?_) (fun hc => ?_)
          · have h := jg_t h hc
            refine jg_goto rfl ?_
            exact h
          · have h := jg_f h hc
            refine jg_A (pc' := 201) rfl rfl (fun _ _ _ => rfl) ?_
            exact jg_zret rfl rfl (by decide) h
      · have h := jg_f h hc
        refine jg_A (pc' := 80) rfl rfl (fun _ _ _ => rfl) ?_
        refine jg_A (pc' := 83) rfl rfl (fun _ _ _ => rfl) ?_
        refine jg_isub (pc' := 84) rfl rfl ?_
        refine jg_nm (F := fun t107 => jg_G w 0 mm_X12_comes 84 [.ref a0, .int (.ofInt x1), .int (.ofInt x2), .int (.ofInt t101), .int (.ofInt t102), .int (.ofInt t104), u6] [.int (.ofInt t107)] σ (jg_QI Q)) (t102 - 2000) (fun t107 ht107 => ?_)
        have h := h t107 ht107
        refine jg_A (pc' := 86) (ls' := [.ref a0, .int (.ofInt x1), .int (.ofInt x2), .int (.ofInt t101), .int (.ofInt t102), .int (.ofInt t104), .int (.ofInt t107)]) rfl rfl (fun _ _ _ => rfl) ?_
        refine jg_A (pc' := 87) rfl rfl (fun _ _ _ => rfl) ?_
        refine jg_getI (pc' := 90) (bi := 55) rfl h0 (by decide) (Or.inl rfl) rfl rfl ?_
        refine jg_A (pc' := 92) rfl rfl (fun _ _ _ => rfl) ?_
        refine jg_cne (pc' := 95) rfl rfl (fun hc => ?_) (fun hc => ?_)
        · have h := jg_t h hc
          refine jg_A (pc' := 96) rfl rfl (fun _ _ _ => rfl) ?_
          exact jg_zret rfl rfl (by decide) h
        · have h := jg_f h hc
          refine jg_A (pc' := 98) rfl rfl (fun _ _ _ => rfl) ?_
          refine jg_A (pc' := 99) rfl rfl (fun _ _ _ => rfl) ?_
          refine jg_getI (pc' := 102) (bi := 55) rfl h0 (by decide) (Or.inl rfl) rfl rfl ?_
          refine jg_A (pc' := 103) rfl rfl (fun _ _ _ => rfl) ?_
          refine jg_iadd (pc' := 104) rfl rfl ?_
          refine jg_putI (pc' := 107) (bi := 55) rfl h0 (by decide) rfl rfl rfl rfl (fun m108 hm108 => ?_)
          have h := h m108 hm108
          refine jg_A (pc' := 108) rfl rfl (fun _ _ _ => rfl) ?_
          refine jg_A (pc' := 109) rfl rfl (fun _ _ _ => rfl) ?_
          refine jg_getI (pc' := 112) (bi := 54) rfl h0 (by decide) (Or.inl rfl) rfl rfl ?_
          refine jg_A (pc' := 113) rfl rfl (fun _ _ _ => rfl) ?_
          refine jg_getO (pc' := 116) (k := 11) rfl h0 (by decide) rfl rfl ?_
          refine jg_A (pc' := 118) rfl rfl (fun _ _ _ => rfl) ?_
          obtain ⟨hg, h⟩ := h
          refine jg_iald (pc' := 119) rfl (jg_sX12_20 h0) hg rfl ?_
          refine jg_isub (pc' := 120) rfl rfl ?_
          refine jg_putI (pc' := 123) (bi := 54) rfl h0 (by decide) rfl rfl rfl rfl (fun m109 hm109 => ?_)
          have h := h m109 hm109
          refine jg_A (pc' := 124) rfl rfl (fun _ _ _ => rfl) ?_
          refine jg_getO (pc' := 127) (k := 16) rfl h0 (by decide) rfl rfl ?_
          refine jg_A (pc' := 129) rfl rfl (fun _ _ _ => rfl) ?_
          refine jg_A (pc' := 131) rfl rfl (fun _ _ _ => rfl) ?_
          refine jg_A (pc' := 132) rfl rfl (fun _ _ _ => rfl) ?_
          refine jg_imul (pc' := 133) rfl rfl ?_
          refine jg_A (pc' := 134) rfl rfl (fun _ _ _ => rfl) ?_
          refine jg_getO (pc' := 137) (k := 37) rfl h0 (by decide) rfl rfl ?_
          refine jg_A (pc' := 138) rfl rfl (fun _ _ _ => rfl) ?_
          refine jg_getI (pc' := 141) (bi := 54) rfl h0 (by decide) (Or.inl rfl) rfl rfl ?_
          refine jg_A (pc' := 142) rfl rfl (fun _ _ _ => rfl) ?_
          refine jg_isub (pc' := 143) rfl rfl ?_
          obtain ⟨hg, h⟩ := h
          refine jg_iald (pc' := 144) rfl (jg_sX12_53 h0) hg rfl ?_
          refine jg_iadd (pc' := 145) rfl rfl ?_
          refine jg_imul (pc' := 146) rfl rfl ?_
          refine jg_A (pc' := 148) rfl rfl (fun _ _ _ => rfl) ?_
          refine jg_iadd (pc' := 149) rfl rfl ?_
          refine jg_A (pc' := 150) rfl rfl (fun _ _ _ => rfl) ?_
          refine jg_getO (pc' := 153) (k := 10) rfl h0 (by decide) rfl rfl ?_
          refine jg_A (pc' := 155) rfl rfl (fun _ _ _ => rfl) ?_
          obtain ⟨hg, h⟩ := h
          refine jg_iald (pc' := 156) rfl (jg_sX12_19 h0) hg rfl ?_
          refine jg_iadd (pc' := 157) rfl rfl ?_
          obtain ⟨hg, h⟩ := h
          refine jg_iald (pc' := 158) rfl (jg_sX12_25 h0) hg rfl ?_
          refine jg_nm (F := fun t110 => jg_G w 0 mm_X12_comes 158 [.ref a0, .int (.ofInt x1), .int (.ofInt x2), .int (.ofInt t101), .int (.ofInt t102), .int (.ofInt t104), .int (.ofInt t107)] [.int (.ofInt t110)] m109 (jg_QI Q)) (m109.1 (a0 + 16) (jg_wr (((12 * ((48 * x1) + (m109.1 (a0 + 37) (jg_wr ((m109.1 a0 54) - 1))))) + 7) + (m109.1 (a0 + 10) (jg_wr t107))))) (fun t110 ht110 => ?_)
          have h := h t110 ht110
          refine jg_A (pc' := 160) (ls' := [.ref a0, .int (.ofInt x1), .int (.ofInt x2), .int (.ofInt t101), .int (.ofInt t102), .int (.ofInt t110), .int (.ofInt t107)]) rfl rfl (fun _ _ _ => rfl) ?_
          refine jg_A (pc' := 161) rfl rfl (fun _ _ _ => rfl) ?_
          refine jg_getI (pc' := 164) (bi := 54) rfl h0 (by decide) (Or.inl rfl) rfl rfl ?_
          refine jg_A (pc' := 166) rfl rfl (fun _ _ _ => rfl) ?_
          refine jg_cne (pc' := 169) rfl rfl (fun hc => ?_) (fun hc => ?_)
          · have h := jg_t h hc
            refine jg_A (pc' := 170) rfl rfl (fun _ _ _ => rfl) ?_
            exact jg_zret rfl rfl (by decide) h
          · have h := jg_f h hc
            refine jg_A (pc' := 172) rfl rfl (fun _ _ _ => rfl) ?_
            refine jg_getO (pc' := 175) (k := 37) rfl h0 (by decide) rfl rfl ?_
            refine jg_A (pc' := 176) rfl rfl (fun _ _ _ => rfl) ?_
            refine jg_getI (pc' := 179) (bi := 54) rfl h0 (by decide) (Or.inl rfl) rfl rfl ?_
            refine jg_A (pc' := 181) rfl rfl (fun _ _ _ => rfl) ?_
            obtain ⟨hg, h⟩ := h
            refine jg_iast (pc' := 182) rfl (jg_sX12_53 h0) hg rfl (fun m111 hm111 => ?_)
            have h := h m111 hm111
            refine jg_A (pc' := 183) rfl rfl (fun _ _ _ => rfl) ?_
            refine jg_A (pc' := 184) rfl rfl (fun _ _ _ => rfl) ?_
            refine jg_getI (pc' := 187) (bi := 54) rfl h0 (by decide) (Or.inl rfl) rfl rfl ?_
            refine jg_A (pc' := 188) rfl rfl (fun _ _ _ => rfl) ?_
            refine jg_iadd (pc' := 189) rfl rfl ?_
            refine jg_putI (pc' := 192) (bi := 54) rfl h0 (by decide) rfl rfl rfl rfl (fun m112 hm112 => ?_)
            have h := h m112 hm112
            refine jg_A (pc' := 194) rfl rfl (fun _ _ _ => rfl) ?_
            refine jg_A (pc' := 197) rfl rfl (fun _ _ _ => rfl) ?_
            refine jg_cge (pc' := 200) rfl rfl (fun hc => ?_) (fun hc => ?_)
            · have h := jg_t h hc
              refine jg_goto rfl ?_
              exact h
            · have h := jg_f h hc
              refine jg_A (pc' := 201) rfl rfl (fun _ _ _ => rfl) ?_
              exact jg_zret rfl rfl (by decide) h
set_option maxRecDepth 100000 in
set_option maxHeartbeats 4000000 in
theorem jb_X12_isSentence_0 {w : Nat} {a0 : Nat} {x1 : Int} {x2 : Int} {σ : jg_M} {Q : Int → jg_M → Prop} (h0 : jg_sh a0 = (12, 0)) (h : (0 ≤ jg_wr x1 ∧ jg_wr x1 < 2) ∧ (if jg_wr (σ.1 (a0 + 13) (jg_wr x1)) = 0 then Q 0 σ else jg_CV w 0 mm_X12_fromFirst [.ref a0] σ (fun (m101 : jg_M) => jg_GI w 1 mm_X12_isSentence 17 [.ref a0, .int (.ofInt x1), .int (.ofInt x2), .int (.ofInt 0)] m101 Q))) : jg_CI w 1 mm_X12_isSentence [.ref a0, .int (.ofInt x1), .int (.ofInt x2)] σ Q := by
  show jg_G w 1 mm_X12_isSentence 0 [.ref a0, .int (.ofInt x1), .int (.ofInt x2), mj_U] [] σ (jg_QI Q)
  refine jg_A (pc' := 1) rfl rfl (fun _ _ _ => rfl) ?_
  refine jg_getO (pc' := 4) (k := 13) rfl h0 (by decide) rfl rfl ?_
  refine jg_A (pc' := 5) rfl rfl (fun _ _ _ => rfl) ?_
  obtain ⟨hg, h⟩ := h
  refine jg_iald (pc' := 6) rfl (jg_sX12_22 h0) hg rfl ?_
  refine jg_ifne (pc' := 9) rfl rfl (fun hc => ?_) (fun hc => ?_)
  · have h := jg_t h hc
    refine jg_A (pc' := 10) rfl rfl (fun _ _ _ => rfl) ?_
    exact jg_zret rfl rfl (by decide) h
  · have h := jg_f h hc
    refine jg_A (pc' := 12) rfl rfl (fun _ _ _ => rfl) ?_
    refine jg_calX (M1 := mm_X12_fromFirst) (hy := 0) (pc' := 15) rfl jm_X12_fromFirst (by decide) rfl h0 (by decide) ⟨Nat.le_of_ble_eq_true rfl, rfl⟩ (Nat.le_of_ble_eq_true rfl) rfl h (jg_kV (fun m101 h => ?_))
    refine jg_A (pc' := 16) rfl rfl (fun _ _ _ => rfl) ?_
    refine jg_A (pc' := 17) (ls' := [.ref a0, .int (.ofInt x1), .int (.ofInt x2), .int (.ofInt 0)]) rfl rfl (fun _ _ _ => rfl) ?_
    exact h
set_option maxRecDepth 100000 in
set_option maxHeartbeats 4000000 in
theorem jb_X12_isSentence_17 {w : Nat} {a0 : Nat} {x1 : Int} {x2 : Int} {x3 : Int} {σ : jg_M} {Q : Int → jg_M → Prop} (h0 : jg_sh a0 = (12, 0)) (h : (if jg_wr x2 ≤ jg_wr x3 then jg_CI w 0 mm_X12_comes [.ref a0, .int (.ofInt x1), .int (.ofInt (σ.1 (a0 + 3) (0)))] σ (fun (z102 : Int) (m101 : jg_M) => (if jg_wr z102 = 0 then Q 0 m101 else (if jg_wr (m101.1 a0 56) = 0 then Q 0 m101 else Q 1 m101))) else (0 ≤ jg_wr x3 ∧ jg_wr x3 < 9) ∧ jg_CI w 0 mm_X12_comes [.ref a0, .int (.ofInt x1), .int (.ofInt (σ.1 (a0 + 39) (jg_wr x3)))] σ (fun (z104 : Int) (m103 : jg_M) => (if jg_wr z104 = 0 then Q 0 m103 else jg_GI w 1 mm_X12_isSentence 17 [.ref a0, .int (.ofInt x1), .int (.ofInt x2), .int (.ofInt (x3 + 1))] m103 Q)))) : jg_GI w 1 mm_X12_isSentence 17 [.ref a0, .int (.ofInt x1), .int (.ofInt x2), .int (.ofInt x3)] σ Q := by
  show jg_G w 1 mm_X12_isSentence 17 [.ref a0, .int (.ofInt x1), .int (.ofInt x2), .int (.ofInt x3)] [] σ (jg_QI Q)
  refine jg_A (pc' := 18) rfl rfl (fun _ _ _ => rfl) ?_
  refine jg_A (pc' := 19) rfl rfl (fun _ _ _ => rfl) ?_
  refine jg_cge (pc' := 22) rfl rfl (fun hc => ?_) (fun hc => ?_)
  · have h := jg_t h hc
    refine jg_A (pc' := 45) rfl rfl (fun _ _ _ => rfl) ?_
    refine jg_A (pc' := 46) rfl rfl (fun _ _ _ => rfl) ?_
    refine jg_A (pc' := 47) rfl rfl (fun _ _ _ => rfl) ?_
    refine jg_getO (pc' := 50) (k := 3) rfl h0 (by decide) rfl rfl ?_
    refine jg_A (pc' := 51) rfl rfl (fun _ _ _ => rfl) ?_
    refine jg_ialdK (pc' := 52) (xi := 0) rfl (jg_sX12_12 h0) (by decide) (by decide) rfl ?_
    refine jg_calX (M1 := mm_X12_comes) (hy := 0) (pc' := 55) rfl jm_X12_comes (by decide) rfl h0 (by decide) ⟨Nat.le_of_ble_eq_true rfl, rfl⟩ (Nat.le_of_ble_eq_true rfl) rfl h (jg_kI (fun z102 m101 h => ?_))
    refine jg_ifeq (pc' := 58) rfl rfl (fun hc => ?_) (fun hc => ?_)
    · have h := jg_t h hc
      refine jg_A (pc' := 70) rfl rfl (fun _ _ _ => rfl) ?_
      exact jg_zret rfl rfl (by decide) h
    · have h := jg_f h hc
      refine jg_A (pc' := 59) rfl rfl (fun _ _ _ => rfl) ?_
      refine jg_getI (pc' := 62) (bi := 56) rfl h0 (by decide) (Or.inr rfl) rfl rfl ?_
      refine jg_ifeq (pc' := 65) rfl rfl (fun hc => ?_) (fun hc => ?_)
      · have h := jg_t h hc
        refine jg_A (pc' := 70) rfl rfl (fun _ _ _ => rfl) ?_
        exact jg_zret rfl rfl (by decide) h
      · have h := jg_f h hc
        refine jg_A (pc' := 66) rfl rfl (fun _ _ _ => rfl) ?_
        refine jg_goto rfl ?_
        exact jg_zret rfl rfl (by decide) h
  · have h := jg_f h hc
    refine jg_A (pc' := 23) rfl rfl (fun _ _ _ => rfl) ?_
    refine jg_A (pc' := 24) rfl rfl (fun _ _ _ => rfl) ?_
    refine jg_A (pc' := 25) rfl rfl (fun _ _ _ => rfl) ?_
    refine jg_getO (pc' := 28) (k := 39) rfl h0 (by decide) rfl rfl ?_
    refine jg_A (pc' := 29) rfl rfl (fun _ _ _ => rfl) ?_
    obtain ⟨hg, h⟩ := h
    refine jg_iald (pc' := 30) rfl (jg_sX12_61 h0) hg rfl ?_
    refine jg_calX (M1 := mm_X12_comes) (hy := 0) (pc' := 33) rfl jm_X12_comes (by decide) rfl h0 (by decide) ⟨Nat.le_of_ble_eq_true rfl, rfl⟩ (Nat.le_of_ble_eq_true rfl) rfl h (jg_kI (fun z104 m103 h => ?_))
    refine jg_ifne (pc' := 36) rfl rfl (fun hc => ?_) (fun hc => ?_)
    · have h := jg_t h hc
      refine jg_A (pc' := 37) rfl rfl (fun _ _ _ => rfl) ?_
      exact jg_zret rfl rfl (by decide) h
    · have h := jg_f h hc
      refine jg_iinc (pc' := 41) (ls' := [.ref a0, .int (.ofInt x1), .int (.ofInt x2), .int (.ofInt (x3 + 1))]) rfl rfl rfl rfl ?_
      refine jg_goto rfl ?_
      exact h
set_option maxRecDepth 100000 in
set_option maxHeartbeats 4000000 in
theorem jb_X12_power_0 {w : Nat} {x0 : Int} {x1 : Int} {σ : jg_M} {Q : Int → jg_M → Prop} (h : jg_GI w 0 mm_X12_power 4 [.int (.ofInt x0), .int (.ofInt x1), .int (.ofInt 1), .int (.ofInt 0)] σ Q) : jg_CI w 0 mm_X12_power [.int (.ofInt x0), .int (.ofInt x1)] σ Q := by
  show jg_G w 0 mm_X12_power 0 [.int (.ofInt x0), .int (.ofInt x1), mj_U, mj_U] [] σ (jg_QI Q)
  refine jg_A (pc' := 1) rfl rfl (fun _ _ _ => rfl) ?_
  refine jg_A (pc' := 2) (ls' := [.int (.ofInt x0), .int (.ofInt x1), .int (.ofInt 1), mj_U]) rfl rfl (fun _ _ _ => rfl) ?_
  refine jg_A (pc' := 3) rfl rfl (fun _ _ _ => rfl) ?_
  refine jg_A (pc' := 4) (ls' := [.int (.ofInt x0), .int (.ofInt x1), .int (.ofInt 1), .int (.ofInt 0)]) rfl rfl (fun _ _ _ => rfl) ?_
  exact h
set_option maxRecDepth 100000 in
set_option maxHeartbeats 4000000 in
theorem jb_X12_power_4 {w : Nat} {x0 : Int} {x1 : Int} {x2 : Int} {x3 : Int} {σ : jg_M} {Q : Int → jg_M → Prop} (h : (if jg_wr x1 ≤ jg_wr x3 then Q x2 σ else ∀ t101 : Int, t101 = (x2 * x0) → jg_GI w 0 mm_X12_power 4 [.int (.ofInt x0), .int (.ofInt x1), .int (.ofInt t101), .int (.ofInt (x3 + 1))] σ Q)) : jg_GI w 0 mm_X12_power 4 [.int (.ofInt x0), .int (.ofInt x1), .int (.ofInt x2), .int (.ofInt x3)] σ Q := by
  show jg_G w 0 mm_X12_power 4 [.int (.ofInt x0), .int (.ofInt x1), .int (.ofInt x2), .int (.ofInt x3)] [] σ (jg_QI Q)
  refine jg_A (pc' := 5) rfl rfl (fun _ _ _ => rfl) ?_
  refine jg_A (pc' := 6) rfl rfl (fun _ _ _ => rfl) ?_
  refine jg_cge (pc' := 9) rfl rfl (fun hc => ?_) (fun hc => ?_)
  · have h := jg_t h hc
    refine jg_A (pc' := 20) rfl rfl (fun _ _ _ => rfl) ?_
    exact jg_iret rfl rfl h
  · have h := jg_f h hc
    refine jg_A (pc' := 10) rfl rfl (fun _ _ _ => rfl) ?_
    refine jg_A (pc' := 11) rfl rfl (fun _ _ _ => rfl) ?_
    refine jg_imul (pc' := 12) rfl rfl ?_
    refine jg_nm (F := fun t101 => jg_G w 0 mm_X12_power 12 [.int (.ofInt x0), .int (.ofInt x1), .int (.ofInt x2), .int (.ofInt x3)] [.int (.ofInt t101)] σ (jg_QI Q)) (x2 * x0) (fun t101 ht101 => ?_)
    have h := h t101 ht101
    refine jg_A (pc' := 13) (ls' := [.int (.ofInt x0), .int (.ofInt x1), .int (.ofInt t101), .int (.ofInt x3)]) rfl rfl (fun _ _ _ => rfl) ?_
    refine jg_iinc (pc' := 16) (ls' := [.int (.ofInt x0), .int (.ofInt x1), .int (.ofInt t101), .int (.ofInt (x3 + 1))]) rfl rfl rfl rfl ?_
    refine jg_goto rfl ?_
    exact h
set_option maxRecDepth 100000 in
set_option maxHeartbeats 4000000 in
theorem jb_X12_gives_0 {w : Nat} {a0 : Nat} {x1 : Int} {x2 : Int} {x3 : Int} {σ : jg_M} {Q : jg_M → Prop} (h0 : jg_sh a0 = (12, 0)) (h : ∀ t101 : Int, t101 = (x2 - 1) → jg_GV w 0 mm_X12_gives 8 [.ref a0, .int (.ofInt x1), .int (.ofInt x2), .int (.ofInt x3), .int (.ofInt x1), .int (.ofInt t101)] σ Q) : jg_CV w 0 mm_X12_gives [.ref a0, .int (.ofInt x1), .int (.ofInt x2), .int (.ofInt x3)] σ Q := by
  show jg_G w 0 mm_X12_gives 0 [.ref a0, .int (.ofInt x1), .int (.ofInt x2), .int (.ofInt x3), mj_U, mj_U] [] σ (jg_QV Q)
  refine jg_A (pc' := 1) rfl rfl (fun _ _ _ => rfl) ?_
  refine jg_A (pc' := 3) (ls' := [.ref a0, .int (.ofInt x1), .int (.ofInt x2), .int (.ofInt x3), .int (.ofInt x1), mj_U]) rfl rfl (fun _ _ _ => rfl) ?_
  refine jg_A (pc' := 4) rfl rfl (fun _ _ _ => rfl) ?_
  refine jg_A (pc' := 5) rfl rfl (fun _ _ _ => rfl) ?_
  refine jg_isub (pc' := 6) rfl rfl ?_
  refine jg_nm (F := fun t101 => jg_G w 0 mm_X12_gives 6 [.ref a0, .int (.ofInt x1), .int (.ofInt x2), .int (.ofInt x3), .int (.ofInt x1), mj_U] [.int (.ofInt t101)] σ (jg_QV Q)) (x2 - 1) (fun t101 ht101 => ?_)
  have h := h t101 ht101
  refine jg_A (pc' := 8) (ls' := [.ref a0, .int (.ofInt x1), .int (.ofInt x2), .int (.ofInt x3), .int (.ofInt x1), .int (.ofInt t101)]) rfl rfl (fun _ _ _ => rfl) ?_
  exact h
set_option maxRecDepth 100000 in
set_option maxHeartbeats 4000000 in
theorem jb_X12_gives_8 {w : Nat} {a0 : Nat} {u1 : Value} {u2 : Value} {x3 : Int} {x4 : Int} {x5 : Int} {σ : jg_M} {Q : jg_M → Prop} (h0 : jg_sh a0 = (12, 0)) (h : (if jg_wr x5 < 0 then Q σ else jg_wr x3 ≠ 0 ∧ (0 ≤ (jg_wr x5) ∧ (jg_wr x5) < 9) ∧ ∀ m101 : jg_M, m101 = jg_sI σ (a0 + 39) (jg_wr x5) (jg_rem x4 x3) → jg_wr x3 ≠ 0 ∧ ∀ t102 : Int, t102 = (jg_div x4 x3) → jg_GV w 0 mm_X12_gives 8 [.ref a0, u1, u2, .int (.ofInt x3), .int (.ofInt t102), .int (.ofInt (x5 + (-1)))] m101 Q)) : jg_GV w 0 mm_X12_gives 8 [.ref a0, u1, u2, .int (.ofInt x3), .int (.ofInt x4), .int (.ofInt x5)] σ Q := by
  show jg_G w 0 mm_X12_gives 8 [.ref a0, u1, u2, .int (.ofInt x3), .int (.ofInt x4), .int (.ofInt x5)] [] σ (jg_QV Q)
  refine jg_A (pc' := 10) rfl rfl (fun _ _ _ => rfl) ?_
  refine jg_iflt (pc' := 13) rfl rfl (fun hc => ?_) (fun hc => ?_)
  · have h := jg_t h hc
    exact jg_vret rfl rfl h
  · have h := jg_f h hc
    refine jg_A (pc' := 14) rfl rfl (fun _ _ _ => rfl) ?_
    refine jg_getO (pc' := 17) (k := 39) rfl h0 (by decide) rfl rfl ?_
    refine jg_A (pc' := 19) rfl rfl (fun _ _ _ => rfl) ?_
    refine jg_A (pc' := 21) rfl rfl (fun _ _ _ => rfl) ?_
    refine jg_A (pc' := 22) rfl rfl (fun _ _ _ => rfl) ?_
    obtain ⟨hg, h⟩ := h
    refine jg_irem (pc' := 23) rfl rfl hg ?_
    obtain ⟨hg, h⟩ := h
    refine jg_iast (pc' := 24) rfl (jg_sX12_61 h0) hg rfl (fun m101 hm101 => ?_)
    have h := h m101 hm101
    refine jg_A (pc' := 26) rfl rfl (fun _ _ _ => rfl) ?_
    refine jg_A (pc' := 27) rfl rfl (fun _ _ _ => rfl) ?_
    obtain ⟨hg, h⟩ := h
    refine jg_idiv (pc' := 28) rfl rfl hg ?_
    refine jg_nm (F := fun t102 => jg_G w 0 mm_X12_gives 28 [.ref a0, u1, u2, .int (.ofInt x3), .int (.ofInt x4), .int (.ofInt x5)] [.int (.ofInt t102)] m101 (jg_QV Q)) (jg_div x4 x3) (fun t102 ht102 => ?_)
    have h := h t102 ht102
    refine jg_A (pc' := 30) (ls' := [.ref a0, u1, u2, .int (.ofInt x3), .int (.ofInt t102), .int (.ofInt x5)]) rfl rfl (fun _ _ _ => rfl) ?_
    refine jg_iinc (pc' := 33) (ls' := [.ref a0, u1, u2, .int (.ofInt x3), .int (.ofInt t102), .int (.ofInt (x5 + (-1)))]) rfl rfl rfl rfl ?_
    refine jg_goto rfl ?_
    exact h
set_option maxRecDepth 100000 in
set_option maxHeartbeats 4000000 in
theorem jb_X12_sentences_0 {w : Nat} {a0 : Nat} {x1 : Int} {σ : jg_M} {Q : Int → jg_M → Prop} (h0 : jg_sh a0 = (12, 0)) (h : ∀ m101 : jg_M, m101 = jg_sI σ a0 2 0 → jg_CI w 0 mm_X12_isIn [.int (.ofInt x1), .int (.ofInt 0), .int (.ofInt 4)] m101 (fun (z103 : Int) (m102 : jg_M) => (if jg_wr z103 = 0 then Q (-1) m102 else jg_GI w 2 mm_X12_sentences 20 [.ref a0, .int (.ofInt x1), .int (.ofInt 0), .int (.ofInt 0)] m102 Q))) : jg_CI w 2 mm_X12_sentences [.ref a0, .int (.ofInt x1)] σ Q := by
  show jg_G w 2 mm_X12_sentences 0 [.ref a0, .int (.ofInt x1), mj_U, mj_U] [] σ (jg_QI Q)
  refine jg_A (pc' := 1) rfl rfl (fun _ _ _ => rfl) ?_
  refine jg_A (pc' := 2) rfl rfl (fun _ _ _ => rfl) ?_
  refine jg_putI (pc' := 5) (bi := 2) rfl h0 (by decide) rfl rfl rfl rfl (fun m101 hm101 => ?_)
  have h := h m101 hm101
  refine jg_A (pc' := 6) rfl rfl (fun _ _ _ => rfl) ?_
  refine jg_A (pc' := 7) rfl rfl (fun _ _ _ => rfl) ?_
  refine jg_A (pc' := 8) rfl rfl (fun _ _ _ => rfl) ?_
  refine jg_calS (M1 := mm_X12_isIn) (hy := 0) (pc' := 11) rfl (Or.inl rfl) jm_X12_isIn (by decide) rfl ⟨Nat.le_of_ble_eq_true rfl, rfl⟩ (Nat.le_of_ble_eq_true rfl) rfl h (jg_kI (fun z103 m102 h => ?_))
  refine jg_ifne (pc' := 14) rfl rfl (fun hc => ?_) (fun hc => ?_)
  · have h := jg_t h hc
    refine jg_A (pc' := 15) rfl rfl (fun _ _ _ => rfl) ?_
    exact jg_iret rfl rfl h
  · have h := jg_f h hc
    refine jg_A (pc' := 17) rfl rfl (fun _ _ _ => rfl) ?_
    refine jg_A (pc' := 18) (ls' := [.ref a0, .int (.ofInt x1), .int (.ofInt 0), mj_U]) rfl rfl (fun _ _ _ => rfl) ?_
    refine jg_A (pc' := 19) rfl rfl (fun _ _ _ => rfl) ?_
    refine jg_A (pc' := 20) (ls' := [.ref a0, .int (.ofInt x1), .int (.ofInt 0), .int (.ofInt 0)]) rfl rfl (fun _ _ _ => rfl) ?_
    exact h
set_option maxRecDepth 100000 in
set_option maxHeartbeats 4000000 in
theorem jb_X12_sentences_20 {w : Nat} {a0 : Nat} {x1 : Int} {x2 : Int} {x3 : Int} {σ : jg_M} {Q : Int → jg_M → Prop} (h0 : jg_sh a0 = (12, 0)) (h : jg_CI w 0 mm_X12_power [.int (.ofInt (σ.1 (a0 + 3) (0))), .int (.ofInt x1)] σ (fun (z102 : Int) (m101 : jg_M) => (if jg_wr z102 ≤ jg_wr x3 then Q x2 m101 else jg_CV w 0 mm_X12_gives [.ref a0, .int (.ofInt x3), .int (.ofInt x1), .int (.ofInt (m101.1 (a0 + 3) (0)))] m101 (fun (m103 : jg_M) => jg_CI w 1 mm_X12_isSentence [.ref a0, .int (.ofInt 0), .int (.ofInt x1)] m103 (fun (z105 : Int) (m104 : jg_M) => (if jg_wr z105 = 0 then ∀ t106 : Int, t106 = (x2 + 0) → jg_GI w 2 mm_X12_sentences 20 [.ref a0, .int (.ofInt x1), .int (.ofInt t106), .int (.ofInt (x3 + 1))] m104 Q else ∀ t107 : Int, t107 = (x2 + 1) → jg_GI w 2 mm_X12_sentences 20 [.ref a0, .int (.ofInt x1), .int (.ofInt t107), .int (.ofInt (x3 + 1))] m104 Q)))))) : jg_GI w 2 mm_X12_sentences 20 [.ref a0, .int (.ofInt x1), .int (.ofInt x2), .int (.ofInt x3)] σ Q := by
  show jg_G w 2 mm_X12_sentences 20 [.ref a0, .int (.ofInt x1), .int (.ofInt x2), .int (.ofInt x3)] [] σ (jg_QI Q)
  refine jg_A (pc' := 21) rfl rfl (fun _ _ _ => rfl) ?_
  refine jg_A (pc' := 22) rfl rfl (fun _ _ _ => rfl) ?_
  refine jg_getO (pc' := 25) (k := 3) rfl h0 (by decide) rfl rfl ?_
  refine jg_A (pc' := 26) rfl rfl (fun _ _ _ => rfl) ?_
  refine jg_ialdK (pc' := 27) (xi := 0) rfl (jg_sX12_12 h0) (by decide) (by decide) rfl ?_
  refine jg_A (pc' := 28) rfl rfl (fun _ _ _ => rfl) ?_
  refine jg_calS (M1 := mm_X12_power) (hy := 0) (pc' := 31) rfl (Or.inl rfl) jm_X12_power (by decide) rfl ⟨Nat.le_of_ble_eq_true rfl, rfl⟩ (Nat.le_of_ble_eq_true rfl) rfl h (jg_kI (fun z102 m101 h => ?_))
  refine jg_cge (pc' := 34) rfl rfl (fun hc => ?_) (fun hc => ?_)
  · have h := jg_t h hc
    refine jg_A (pc' := 70) rfl rfl (fun _ _ _ => rfl) ?_
    exact jg_iret rfl rfl h
  · have h := jg_f h hc
    refine jg_A (pc' := 35) rfl rfl (fun _ _ _ => rfl) ?_
    refine jg_A (pc' := 36) rfl rfl (fun _ _ _ => rfl) ?_
    refine jg_A (pc' := 37) rfl rfl (fun _ _ _ => rfl) ?_
    refine jg_A (pc' := 38) rfl rfl (fun _ _ _ => rfl) ?_
    refine jg_getO (pc' := 41) (k := 3) rfl h0 (by decide) rfl rfl ?_
    refine jg_A (pc' := 42) rfl rfl (fun _ _ _ => rfl) ?_
    refine jg_ialdK (pc' := 43) (xi := 0) rfl (jg_sX12_12 h0) (by decide) (by decide) rfl ?_
    refine jg_calX (M1 := mm_X12_gives) (hy := 0) (pc' := 46) rfl jm_X12_gives (by decide) rfl h0 (by decide) ⟨Nat.le_of_ble_eq_true rfl, rfl⟩ (Nat.le_of_ble_eq_true rfl) rfl h (jg_kV (fun m103 h => ?_))
    refine jg_A (pc' := 47) rfl rfl (fun _ _ _ => rfl) ?_
    refine jg_A (pc' := 48) rfl rfl (fun _ _ _ => rfl) ?_
    refine jg_A (pc' := 49) rfl rfl (fun _ _ _ => rfl) ?_
    refine jg_A (pc' := 50) rfl rfl (fun _ _ _ => rfl) ?_
    refine jg_calX (M1 := mm_X12_isSentence) (hy := 1) (pc' := 53) rfl jm_X12_isSentence (by decide) rfl h0 (by decide) ⟨Nat.le_of_ble_eq_true rfl, rfl⟩ (Nat.le_of_ble_eq_true rfl) rfl h (jg_kI (fun z105 m104 h => ?_))
    refine jg_ifeq (pc' := 56) rfl rfl (fun hc => ?_) (fun hc => ?_)
    · have h := jg_t h hc
      refine jg_A (pc' := 61) rfl rfl (fun _ _ _ => rfl) ?_
      refine jg_iadd (pc' := 62) rfl rfl ?_
      refine jg_nm (F := fun t106 => jg_G w 2 mm_X12_sentences 62 [.ref a0, .int (.ofInt x1), .int (.ofInt x2), .int (.ofInt x3)] [.int (.ofInt t106)] m104 (jg_QI Q)) (x2 + 0) (fun t106 ht106 => ?_)
      have h := h t106 ht106
      refine jg_A (pc' := 63) (ls' := [.ref a0, .int (.ofInt x1), .int (.ofInt t106), .int (.ofInt x3)]) rfl rfl (fun _ _ _ => rfl) ?_
      refine jg_iinc (pc' := 66) (ls' := [.ref a0, .int (.ofInt x1), .int (.ofInt t106), .int (.ofInt (x3 + 1))]) rfl rfl rfl rfl ?_
      refine jg_goto rfl ?_
      exact h
    · have h := jg_f h hc
      refine jg_A (pc' := 57) rfl rfl (fun _ _ _ => rfl) ?_
      refine jg_goto rfl ?_
      refine jg_iadd (pc' := 62) rfl rfl ?_
      refine jg_nm (F := fun t107 => jg_G w 2 mm_X12_sentences 62 [.ref a0, .int (.ofInt x1), .int (.ofInt x2), .int (.ofInt x3)] [.int (.ofInt t107)] m104 (jg_QI Q)) (x2 + 1) (fun t107 ht107 => ?_)
      have h := h t107 ht107
      refine jg_A (pc' := 63) (ls' := [.ref a0, .int (.ofInt x1), .int (.ofInt t107), .int (.ofInt x3)]) rfl rfl (fun _ _ _ => rfl) ?_
      refine jg_iinc (pc' := 66) (ls' := [.ref a0, .int (.ofInt x1), .int (.ofInt t107), .int (.ofInt (x3 + 1))]) rfl rfl rfl rfl ?_
      refine jg_goto rfl ?_
      exact h
set_option maxRecDepth 100000 in
set_option maxHeartbeats 4000000 in
theorem jb_X12_read_0 {w : Nat} {a0 : Nat} {x1 : Int} {σ : jg_M} {Q : Int → jg_M → Prop} (h0 : jg_sh a0 = (12, 0)) (h : ∀ m101 : jg_M, m101 = jg_sI σ a0 2 0 → jg_CI w 0 mm_X12_isToken [.ref a0, .int (.ofInt x1)] m101 (fun (z103 : Int) (m102 : jg_M) => (if jg_wr z103 = 0 then Q (-1) m102 else (if jg_wr (m102.1 (a0 + 13) (0)) = 0 then Q (-1) m102 else jg_CV w 0 mm_X12_fromNow [.ref a0] m102 (fun (m104 : jg_M) => jg_CI w 0 mm_X12_comes [.ref a0, .int (.ofInt 0), .int (.ofInt x1)] m104 (fun (z106 : Int) (m105 : jg_M) => (if jg_wr z106 = 0 then Q (-2) m105 else jg_CV w 1 mm_X12_remember [.ref a0] m105 (fun (m107 : jg_M) => jg_GI w 2 mm_X12_read 46 [.ref a0, .int (.ofInt x1), .int (.ofInt 0)] m107 Q)))))))) : jg_CI w 2 mm_X12_read [.ref a0, .int (.ofInt x1)] σ Q := by
  show jg_G w 2 mm_X12_read 0 [.ref a0, .int (.ofInt x1), mj_U] [] σ (jg_QI Q)
  refine jg_A (pc' := 1) rfl rfl (fun _ _ _ => rfl) ?_
  refine jg_A (pc' := 2) rfl rfl (fun _ _ _ => rfl) ?_
  refine jg_putI (pc' := 5) (bi := 2) rfl h0 (by decide) rfl rfl rfl rfl (fun m101 hm101 => ?_)
  have h := h m101 hm101
  refine jg_A (pc' := 6) rfl rfl (fun _ _ _ => rfl) ?_
  refine jg_A (pc' := 7) rfl rfl (fun _ _ _ => rfl) ?_
  refine jg_calX (M1 := mm_X12_isToken) (hy := 0) (pc' := 10) rfl jm_X12_isToken (by decide) rfl h0 (by decide) ⟨Nat.le_of_ble_eq_true rfl, rfl⟩ (Nat.le_of_ble_eq_true rfl) rfl h (jg_kI (fun z103 m102 h => ?_))
  refine jg_ifeq (pc' := 13) rfl rfl (fun hc => ?_) (fun hc => ?_)
  · have h := jg_t h hc
    refine jg_A (pc' := 23) rfl rfl (fun _ _ _ => rfl) ?_
    exact jg_iret rfl rfl h
  · have h := jg_f h hc
    refine jg_A (pc' := 14) rfl rfl (fun _ _ _ => rfl) ?_
    refine jg_getO (pc' := 17) (k := 13) rfl h0 (by decide) rfl rfl ?_
    refine jg_A (pc' := 18) rfl rfl (fun _ _ _ => rfl) ?_
    refine jg_ialdK (pc' := 19) (xi := 0) rfl (jg_sX12_22 h0) (by decide) (by decide) rfl ?_
    refine jg_ifne (pc' := 22) rfl rfl (fun hc => ?_) (fun hc => ?_)
    · have h := jg_t h hc
      refine jg_A (pc' := 23) rfl rfl (fun _ _ _ => rfl) ?_
      exact jg_iret rfl rfl h
    · have h := jg_f h hc
      refine jg_A (pc' := 25) rfl rfl (fun _ _ _ => rfl) ?_
      refine jg_calX (M1 := mm_X12_fromNow) (hy := 0) (pc' := 28) rfl jm_X12_fromNow (by decide) rfl h0 (by decide) ⟨Nat.le_of_ble_eq_true rfl, rfl⟩ (Nat.le_of_ble_eq_true rfl) rfl h (jg_kV (fun m104 h => ?_))
      refine jg_A (pc' := 29) rfl rfl (fun _ _ _ => rfl) ?_
      refine jg_A (pc' := 30) rfl rfl (fun _ _ _ => rfl) ?_
      refine jg_A (pc' := 31) rfl rfl (fun _ _ _ => rfl) ?_
      refine jg_calX (M1 := mm_X12_comes) (hy := 0) (pc' := 34) rfl jm_X12_comes (by decide) rfl h0 (by decide) ⟨Nat.le_of_ble_eq_true rfl, rfl⟩ (Nat.le_of_ble_eq_true rfl) rfl h (jg_kI (fun z106 m105 h => ?_))
      refine jg_ifne (pc' := 37) rfl rfl (fun hc => ?_) (fun hc => ?_)
      · have h := jg_t h hc
        refine jg_A (pc' := 39) rfl rfl (fun _ _ _ => rfl) ?_
        exact jg_iret rfl rfl h
      · have h := jg_f h hc
        refine jg_A (pc' := 41) rfl rfl (fun _ _ _ => rfl) ?_
        refine jg_calX (M1 := mm_X12_remember) (hy := 1) (pc' := 44) rfl jm_X12_remember (by decide) rfl h0 (by decide) ⟨Nat.le_of_ble_eq_true rfl, rfl⟩ (Nat.le_of_ble_eq_true rfl) rfl h (jg_kV (fun m107 h => ?_))
        refine jg_A (pc' := 45) rfl rfl (fun _ _ _ => rfl) ?_
        refine jg_A (pc' := 46) (ls' := [.ref a0, .int (.ofInt x1), .int (.ofInt 0)]) rfl rfl (fun _ _ _ => rfl) ?_
        exact h
set_option maxRecDepth 100000 in
set_option maxHeartbeats 4000000 in
theorem jb_X12_read_46 {w : Nat} {a0 : Nat} {u1 : Value} {x2 : Int} {σ : jg_M} {Q : Int → jg_M → Prop} (h0 : jg_sh a0 = (12, 0)) (h : (if jg_wr (σ.1 a0 54) ≤ jg_wr x2 then ∀ m101 : jg_M, m101 = jg_sI σ a0 58 (σ.1 a0 54) → ∀ m102 : jg_M, m102 = jg_sI m101 a0 59 ((m101.1 a0 59) + 1) → ∀ m103 : jg_M, m103 = jg_sI m102 a0 60 ((m102.1 a0 60) + (m102.1 a0 55)) → Q (m103.1 a0 55) m103 else (0 ≤ jg_wr x2 ∧ jg_wr x2 < 42) ∧ (0 ≤ (jg_wr x2) ∧ (jg_wr x2) < 40) ∧ ∀ m104 : jg_M, m104 = jg_sI σ (a0 + 38) (jg_wr x2) (σ.1 (a0 + 37) (jg_wr x2)) → jg_GI w 2 mm_X12_read 46 [.ref a0, u1, .int (.ofInt (x2 + 1))] m104 Q)) : jg_GI w 2 mm_X12_read 46 [.ref a0, u1, .int (.ofInt x2)] σ Q := by
  show jg_G w 2 mm_X12_read 46 [.ref a0, u1, .int (.ofInt x2)] [] σ (jg_QI Q)
  refine jg_A (pc' := 47) rfl rfl (fun _ _ _ => rfl) ?_
  refine jg_A (pc' := 48) rfl rfl (fun _ _ _ => rfl) ?_
  refine jg_getI (pc' := 51) (bi := 54) rfl h0 (by decide) (Or.inl rfl) rfl rfl ?_
  refine jg_cge (pc' := 54) rfl rfl (fun hc => ?_) (fun hc => ?_)
  · have h := jg_t h hc
    refine jg_A (pc' := 73) rfl rfl (fun _ _ _ => rfl) ?_
    refine jg_A (pc' := 74) rfl rfl (fun _ _ _ => rfl) ?_
    refine jg_getI (pc' := 77) (bi := 54) rfl h0 (by decide) (Or.inl rfl) rfl rfl ?_
    refine jg_putI (pc' := 80) (bi := 58) rfl h0 (by decide) rfl rfl rfl rfl (fun m101 hm101 => ?_)
    have h := h m101 hm101
    refine jg_A (pc' := 81) rfl rfl (fun _ _ _ => rfl) ?_
    refine jg_A (pc' := 82) rfl rfl (fun _ _ _ => rfl) ?_
    refine jg_getI (pc' := 85) (bi := 59) rfl h0 (by decide) (Or.inl rfl) rfl rfl ?_
    refine jg_A (pc' := 86) rfl rfl (fun _ _ _ => rfl) ?_
    refine jg_iadd (pc' := 87) rfl rfl ?_
    refine jg_putI (pc' := 90) (bi := 59) rfl h0 (by decide) rfl rfl rfl rfl (fun m102 hm102 => ?_)
    have h := h m102 hm102
    refine jg_A (pc' := 91) rfl rfl (fun _ _ _ => rfl) ?_
    refine jg_A (pc' := 92) rfl rfl (fun _ _ _ => rfl) ?_
    refine jg_getI (pc' := 95) (bi := 60) rfl h0 (by decide) (Or.inl rfl) rfl rfl ?_
    refine jg_A (pc' := 96) rfl rfl (fun _ _ _ => rfl) ?_
    refine jg_getI (pc' := 99) (bi := 55) rfl h0 (by decide) (Or.inl rfl) rfl rfl ?_
    refine jg_iadd (pc' := 100) rfl rfl ?_
    refine jg_putI (pc' := 103) (bi := 60) rfl h0 (by decide) rfl rfl rfl rfl (fun m103 hm103 => ?_)
    have h := h m103 hm103
    refine jg_A (pc' := 104) rfl rfl (fun _ _ _ => rfl) ?_
    refine jg_getI (pc' := 107) (bi := 55) rfl h0 (by decide) (Or.inl rfl) rfl rfl ?_
    exact jg_iret rfl rfl h
  · have h := jg_f h hc
    refine jg_A (pc' := 55) rfl rfl (fun _ _ _ => rfl) ?_
    refine jg_getO (pc' := 58) (k := 38) rfl h0 (by decide) rfl rfl ?_
    refine jg_A (pc' := 59) rfl rfl (fun _ _ _ => rfl) ?_
    refine jg_A (pc' := 60) rfl rfl (fun _ _ _ => rfl) ?_
    refine jg_getO (pc' := 63) (k := 37) rfl h0 (by decide) rfl rfl ?_
    refine jg_A (pc' := 64) rfl rfl (fun _ _ _ => rfl) ?_
    obtain ⟨hg, h⟩ := h
    refine jg_iald (pc' := 65) rfl (jg_sX12_53 h0) hg rfl ?_
    obtain ⟨hg, h⟩ := h
    refine jg_iast (pc' := 66) rfl (jg_sX12_57 h0) hg rfl (fun m104 hm104 => ?_)
    have h := h m104 hm104
    refine jg_iinc (pc' := 69) (ls' := [.ref a0, u1, .int (.ofInt (x2 + 1))]) rfl rfl rfl rfl ?_
    refine jg_goto rfl ?_
    exact h
set_option maxRecDepth 100000 in
set_option maxHeartbeats 4000000 in
theorem jb_X12_whole_0 {w : Nat} {a0 : Nat} {σ : jg_M} {Q : Int → jg_M → Prop} (h0 : jg_sh a0 = (12, 0)) (h : ∀ m101 : jg_M, m101 = jg_sI σ a0 2 0 → (if jg_wr (m101.1 (a0 + 13) (0)) = 0 then Q (-1) m101 else jg_CV w 0 mm_X12_fromNow [.ref a0] m101 (fun (m102 : jg_M) => jg_CI w 0 mm_X12_comes [.ref a0, .int (.ofInt 0), .int (.ofInt (m102.1 (a0 + 3) (0)))] m102 (fun (z104 : Int) (m103 : jg_M) => (if jg_wr z104 = 0 then Q 0 m103 else (if jg_wr (m103.1 a0 56) = 0 then Q 0 m103 else Q 1 m103)))))) : jg_CI w 1 mm_X12_whole [.ref a0] σ Q := by
  show jg_G w 1 mm_X12_whole 0 [.ref a0] [] σ (jg_QI Q)
  refine jg_A (pc' := 1) rfl rfl (fun _ _ _ => rfl) ?_
  refine jg_A (pc' := 2) rfl rfl (fun _ _ _ => rfl) ?_
  refine jg_putI (pc' := 5) (bi := 2) rfl h0 (by decide) rfl rfl rfl rfl (fun m101 hm101 => ?_)
  have h := h m101 hm101
  refine jg_A (pc' := 6) rfl rfl (fun _ _ _ => rfl) ?_
  refine jg_getO (pc' := 9) (k := 13) rfl h0 (by decide) rfl rfl ?_
  refine jg_A (pc' := 10) rfl rfl (fun _ _ _ => rfl) ?_
  refine jg_ialdK (pc' := 11) (xi := 0) rfl (jg_sX12_22 h0) (by decide) (by decide) rfl ?_
  refine jg_ifne (pc' := 14) rfl rfl (fun hc => ?_) (fun hc => ?_)
  · have h := jg_t h hc
    refine jg_A (pc' := 15) rfl rfl (fun _ _ _ => rfl) ?_
    exact jg_iret rfl rfl h
  · have h := jg_f h hc
    refine jg_A (pc' := 17) rfl rfl (fun _ _ _ => rfl) ?_
    refine jg_calX (M1 := mm_X12_fromNow) (hy := 0) (pc' := 20) rfl jm_X12_fromNow (by decide) rfl h0 (by decide) ⟨Nat.le_of_ble_eq_true rfl, rfl⟩ (Nat.le_of_ble_eq_true rfl) rfl h (jg_kV (fun m102 h => ?_))
    refine jg_A (pc' := 21) rfl rfl (fun _ _ _ => rfl) ?_
    refine jg_A (pc' := 22) rfl rfl (fun _ _ _ => rfl) ?_
    refine jg_A (pc' := 23) rfl rfl (fun _ _ _ => rfl) ?_
    refine jg_getO (pc' := 26) (k := 3) rfl h0 (by decide) rfl rfl ?_
    refine jg_A (pc' := 27) rfl rfl (fun _ _ _ => rfl) ?_
    refine jg_ialdK (pc' := 28) (xi := 0) rfl (jg_sX12_12 h0) (by decide) (by decide) rfl ?_
    refine jg_calX (M1 := mm_X12_comes) (hy := 0) (pc' := 31) rfl jm_X12_comes (by decide) rfl h0 (by decide) ⟨Nat.le_of_ble_eq_true rfl, rfl⟩ (Nat.le_of_ble_eq_true rfl) rfl h (jg_kI (fun z104 m103 h => ?_))
    refine jg_ifeq (pc' := 34) rfl rfl (fun hc => ?_) (fun hc => ?_)
    · have h := jg_t h hc
      refine jg_A (pc' := 46) rfl rfl (fun _ _ _ => rfl) ?_
      exact jg_iret rfl rfl h
    · have h := jg_f h hc
      refine jg_A (pc' := 35) rfl rfl (fun _ _ _ => rfl) ?_
      refine jg_getI (pc' := 38) (bi := 56) rfl h0 (by decide) (Or.inr rfl) rfl rfl ?_
      refine jg_ifeq (pc' := 41) rfl rfl (fun hc => ?_) (fun hc => ?_)
      · have h := jg_t h hc
        refine jg_A (pc' := 46) rfl rfl (fun _ _ _ => rfl) ?_
        exact jg_iret rfl rfl h
      · have h := jg_f h hc
        refine jg_A (pc' := 42) rfl rfl (fun _ _ _ => rfl) ?_
        refine jg_goto rfl ?_
        exact jg_iret rfl rfl h
set_option maxRecDepth 100000 in
set_option maxHeartbeats 4000000 in
theorem jb_X12_expected_0 {w : Nat} {a0 : Nat} {σ : jg_M} {Q : Int → jg_M → Prop} (h0 : jg_sh a0 = (12, 0)) (h : ∀ m101 : jg_M, m101 = jg_sI σ a0 2 0 → jg_GI w 1 mm_X12_expected 9 [.ref a0, .int (.ofInt 0), .int (.ofInt 0)] m101 Q) : jg_CI w 1 mm_X12_expected [.ref a0] σ Q := by
  show jg_G w 1 mm_X12_expected 0 [.ref a0, mj_U, mj_U] [] σ (jg_QI Q)
  refine jg_A (pc' := 1) rfl rfl (fun _ _ _ => rfl) ?_
  refine jg_A (pc' := 2) rfl rfl (fun _ _ _ => rfl) ?_
  refine jg_putI (pc' := 5) (bi := 2) rfl h0 (by decide) rfl rfl rfl rfl (fun m101 hm101 => ?_)
  have h := h m101 hm101
  refine jg_A (pc' := 6) rfl rfl (fun _ _ _ => rfl) ?_
  refine jg_A (pc' := 7) (ls' := [.ref a0, .int (.ofInt 0), mj_U]) rfl rfl (fun _ _ _ => rfl) ?_
  refine jg_A (pc' := 8) rfl rfl (fun _ _ _ => rfl) ?_
  refine jg_A (pc' := 9) (ls' := [.ref a0, .int (.ofInt 0), .int (.ofInt 0)]) rfl rfl (fun _ _ _ => rfl) ?_
  exact h
set_option maxRecDepth 100000 in
set_option maxHeartbeats 4000000 in
theorem jb_X12_expected_9 {w : Nat} {a0 : Nat} {x1 : Int} {x2 : Int} {σ : jg_M} {Q : Int → jg_M → Prop} (h0 : jg_sh a0 = (12, 0)) (h : (if jg_wr (σ.1 (a0 + 3) (0)) ≤ jg_wr x2 then Q x1 σ else (if jg_wr (σ.1 (a0 + 13) (0)) ≤ 0 then Q x1 σ else jg_CV w 0 mm_X12_fromNow [.ref a0] σ (fun (m101 : jg_M) => jg_CI w 0 mm_X12_comes [.ref a0, .int (.ofInt 0), .int (.ofInt x2)] m101 (fun (z103 : Int) (m102 : jg_M) => (if jg_wr z103 = 0 then ∀ t104 : Int, t104 = (jg_or x1 0) → jg_GI w 1 mm_X12_expected 9 [.ref a0, .int (.ofInt t104), .int (.ofInt (x2 + 1))] m102 Q else ∀ t105 : Int, t105 = (jg_or x1 (jg_shl 1 x2)) → jg_GI w 1 mm_X12_expected 9 [.ref a0, .int (.ofInt t105), .int (.ofInt (x2 + 1))] m102 Q)))))) : jg_GI w 1 mm_X12_expected 9 [.ref a0, .int (.ofInt x1), .int (.ofInt x2)] σ Q := by
  show jg_G w 1 mm_X12_expected 9 [.ref a0, .int (.ofInt x1), .int (.ofInt x2)] [] σ (jg_QI Q)
  refine jg_A (pc' := 10) rfl rfl (fun _ _ _ => rfl) ?_
  refine jg_A (pc' := 11) rfl rfl (fun _ _ _ => rfl) ?_
  refine jg_getO (pc' := 14) (k := 3) rfl h0 (by decide) rfl rfl ?_
  refine jg_A (pc' := 15) rfl rfl (fun _ _ _ => rfl) ?_
  refine jg_ialdK (pc' := 16) (xi := 0) rfl (jg_sX12_12 h0) (by decide) (by decide) rfl ?_
  refine jg_cge (pc' := 19) rfl rfl (fun hc => ?_) (fun hc => ?_)
  · have h := jg_t h hc
    refine jg_A (pc' := 58) rfl rfl (fun _ _ _ => rfl) ?_
    exact jg_iret rfl rfl h
  · have h := jg_f h hc
    refine jg_A (pc' := 20) rfl rfl (fun _ _ _ => rfl) ?_
    refine jg_getO (pc' := 23) (k := 13) rfl h0 (by decide) rfl rfl ?_
    refine jg_A (pc' := 24) rfl rfl (fun _ _ _ => rfl) ?_
    refine jg_ialdK (pc' := 25) (xi := 0) rfl (jg_sX12_22 h0) (by decide) (by decide) rfl ?_
    refine jg_ifle (pc' := 28) rfl rfl (fun hc => ?_) (fun hc => ?_)
    · have h := jg_t h hc
      refine jg_A (pc' := 58) rfl rfl (fun _ _ _ => rfl) ?_
      exact jg_iret rfl rfl h
    · have h := jg_f h hc
      refine jg_A (pc' := 29) rfl rfl (fun _ _ _ => rfl) ?_
      refine jg_calX (M1 := mm_X12_fromNow) (hy := 0) (pc' := 32) rfl jm_X12_fromNow (by decide) rfl h0 (by decide) ⟨Nat.le_of_ble_eq_true rfl, rfl⟩ (Nat.le_of_ble_eq_true rfl) rfl h (jg_kV (fun m101 h => ?_))
      refine jg_A (pc' := 33) rfl rfl (fun _ _ _ => rfl) ?_
      refine jg_A (pc' := 34) rfl rfl (fun _ _ _ => rfl) ?_
      refine jg_A (pc' := 35) rfl rfl (fun _ _ _ => rfl) ?_
      refine jg_A (pc' := 36) rfl rfl (fun _ _ _ => rfl) ?_
      refine jg_calX (M1 := mm_X12_comes) (hy := 0) (pc' := 39) rfl jm_X12_comes (by decide) rfl h0 (by decide) ⟨Nat.le_of_ble_eq_true rfl, rfl⟩ (Nat.le_of_ble_eq_true rfl) rfl h (jg_kI (fun z103 m102 h => ?_))
      refine jg_ifeq (pc' := 42) rfl rfl (fun hc => ?_) (fun hc => ?_)
      · have h := jg_t h hc
        refine jg_A (pc' := 49) rfl rfl (fun _ _ _ => rfl) ?_
        refine jg_ior (pc' := 50) rfl rfl ?_
        refine jg_nm (F := fun t104 => jg_G w 1 mm_X12_expected 50 [.ref a0, .int (.ofInt x1), .int (.ofInt x2)] [.int (.ofInt t104)] m102 (jg_QI Q)) (jg_or x1 0) (fun t104 ht104 => ?_)
        have h := h t104 ht104
        refine jg_A (pc' := 51) (ls' := [.ref a0, .int (.ofInt t104), .int (.ofInt x2)]) rfl rfl (fun _ _ _ => rfl) ?_
        refine jg_iinc (pc' := 54) (ls' := [.ref a0, .int (.ofInt t104), .int (.ofInt (x2 + 1))]) rfl rfl rfl rfl ?_
        refine jg_goto rfl ?_
        exact h
      · have h := jg_f h hc
        refine jg_A (pc' := 43) rfl rfl (fun _ _ _ => rfl) ?_
        refine jg_A (pc' := 44) rfl rfl (fun _ _ _ => rfl) ?_
        refine jg_ishl (pc' := 45) rfl rfl ?_
        refine jg_goto rfl ?_
        refine jg_ior (pc' := 50) rfl rfl ?_
        refine jg_nm (F := fun t105 => jg_G w 1 mm_X12_expected 50 [.ref a0, .int (.ofInt x1), .int (.ofInt x2)] [.int (.ofInt t105)] m102 (jg_QI Q)) (jg_or x1 (jg_shl 1 x2)) (fun t105 ht105 => ?_)
        have h := h t105 ht105
        refine jg_A (pc' := 51) (ls' := [.ref a0, .int (.ofInt t105), .int (.ofInt x2)]) rfl rfl (fun _ _ _ => rfl) ?_
        refine jg_iinc (pc' := 54) (ls' := [.ref a0, .int (.ofInt t105), .int (.ofInt (x2 + 1))]) rfl rfl rfl rfl ?_
        refine jg_goto rfl ?_
        exact h
set_option maxRecDepth 100000 in
set_option maxHeartbeats 4000000 in
theorem jb_X12_stack_0 {w : Nat} {a0 : Nat} {x1 : Int} {σ : jg_M} {Q : Int → jg_M → Prop} (h0 : jg_sh a0 = (12, 0)) (h : ∀ m101 : jg_M, m101 = jg_sI σ a0 2 0 → (if jg_wr x1 < 0 then Q (-1) m101 else (if jg_wr (m101.1 (a0 + 13) (0)) = 0 then Q (-1) m101 else (if jg_wr (m101.1 a0 58) ≤ jg_wr x1 then Q (-2) m101 else (0 ≤ jg_wr (((m101.1 a0 58) - 1) - x1) ∧ jg_wr (((m101.1 a0 58) - 1) - x1) < 40) ∧ Q (m101.1 (a0 + 38) (jg_wr (((m101.1 a0 58) - 1) - x1))) m101)))) : jg_CI w 0 mm_X12_stack [.ref a0, .int (.ofInt x1)] σ Q := by
  show jg_G w 0 mm_X12_stack 0 [.ref a0, .int (.ofInt x1)] [] σ (jg_QI Q)
  refine jg_A (pc' := 1) rfl rfl (fun _ _ _ => rfl) ?_
  refine jg_A (pc' := 2) rfl rfl (fun _ _ _ => rfl) ?_
  refine jg_putI (pc' := 5) (bi := 2) rfl h0 (by decide) rfl rfl rfl rfl (fun m101 hm101 => ?_)
  have h := h m101 hm101
  refine jg_A (pc' := 6) rfl rfl (fun _ _ _ => rfl) ?_
  refine jg_iflt (pc' := 9) rfl rfl (fun hc => ?_) (fun hc => ?_)
  · have h := jg_t h hc
    refine jg_A (pc' := 19) rfl rfl (fun _ _ _ => rfl) ?_
    exact jg_iret rfl rfl h
  · have h := jg_f h hc
    refine jg_A (pc' := 10) rfl rfl (fun _ _ _ => rfl) ?_
    refine jg_getO (pc' := 13) (k := 13) rfl h0 (by decide) rfl rfl ?_
    refine jg_A (pc' := 14) rfl rfl (fun _ _ _ => rfl) ?_
    refine jg_ialdK (pc' := 15) (xi := 0) rfl (jg_sX12_22 h0) (by decide) (by decide) rfl ?_
    refine jg_ifne (pc' := 18) rfl rfl (fun hc => ?_) (fun hc => ?_)
    · have h := jg_t h hc
      refine jg_A (pc' := 19) rfl rfl (fun _ _ _ => rfl) ?_
      exact jg_iret rfl rfl h
    · have h := jg_f h hc
      refine jg_A (pc' := 21) rfl rfl (fun _ _ _ => rfl) ?_
      refine jg_A (pc' := 22) rfl rfl (fun _ _ _ => rfl) ?_
      refine jg_getI (pc' := 25) (bi := 58) rfl h0 (by decide) (Or.inl rfl) rfl rfl ?_
      refine jg_cge (pc' := 28) rfl rfl (fun hc => ?_) (fun hc => ?_)
      · have h := jg_t h hc
        refine jg_A (pc' := 46) rfl rfl (fun _ _ _ => rfl) ?_
        exact jg_iret rfl rfl h
      · have h := jg_f h hc
        refine jg_A (pc' := 29) rfl rfl (fun _ _ _ => rfl) ?_
        refine jg_getO (pc' := 32) (k := 38) rfl h0 (by decide) rfl rfl ?_
        refine jg_A (pc' := 33) rfl rfl (fun _ _ _ => rfl) ?_
        refine jg_getI (pc' := 36) (bi := 58) rfl h0 (by decide) (Or.inl rfl) rfl rfl ?_
        refine jg_A (pc' := 37) rfl rfl (fun _ _ _ => rfl) ?_
        refine jg_isub (pc' := 38) rfl rfl ?_
        refine jg_A (pc' := 39) rfl rfl (fun _ _ _ => rfl) ?_
        refine jg_isub (pc' := 40) rfl rfl ?_
        obtain ⟨hg, h⟩ := h
        refine jg_iald (pc' := 41) rfl (jg_sX12_57 h0) hg rfl ?_
        refine jg_goto rfl ?_
        exact jg_iret rfl rfl h
set_option maxRecDepth 100000 in
set_option maxHeartbeats 4000000 in
theorem jb_X12_layCome_0 {w : Nat} {a0 : Nat} {x1 : Int} {σ : jg_M} {Q : jg_M → Prop} (h0 : jg_sh a0 = (12, 0)) (h : jg_GV w 1 mm_X12_layCome 2 [.ref a0, .int (.ofInt x1), .int (.ofInt 0), mj_U, mj_U] σ Q) : jg_CV w 1 mm_X12_layCome [.ref a0, .int (.ofInt x1)] σ Q := by
  show jg_G w 1 mm_X12_layCome 0 [.ref a0, .int (.ofInt x1), mj_U, mj_U, mj_U] [] σ (jg_QV Q)
  refine jg_A (pc' := 1) rfl rfl (fun _ _ _ => rfl) ?_
  refine jg_A (pc' := 2) (ls' := [.ref a0, .int (.ofInt x1), .int (.ofInt 0), mj_U, mj_U]) rfl rfl (fun _ _ _ => rfl) ?_
  exact h
set_option maxRecDepth 100000 in
set_option maxHeartbeats 4000000 in
theorem jb_X12_layCome_2 {w : Nat} {a0 : Nat} {x1 : Int} {x2 : Int} {u3 : Value} {u4 : Value} {σ : jg_M} {Q : jg_M → Prop} (h0 : jg_sh a0 = (12, 0)) (h : jg_CI w 0 mm_X12_power [.int (.ofInt (σ.1 (a0 + 3) (0))), .int (.ofInt x1)] σ (fun (z102 : Int) (m101 : jg_M) => (if jg_wr z102 ≤ jg_wr x2 then Q m101 else jg_CV w 0 mm_X12_gives [.ref a0, .int (.ofInt x2), .int (.ofInt x1), .int (.ofInt (m101.1 (a0 + 3) (0)))] m101 (fun (m103 : jg_M) => jg_CV w 0 mm_X12_fromNow [.ref a0] m103 (fun (m104 : jg_M) => jg_GV w 1 mm_X12_layCome 37 [.ref a0, .int (.ofInt x1), .int (.ofInt x2), .int (.ofInt 1), .int (.ofInt 0)] m104 Q))))) : jg_GV w 1 mm_X12_layCome 2 [.ref a0, .int (.ofInt x1), .int (.ofInt x2), u3, u4] σ Q := by
  show jg_G w 1 mm_X12_layCome 2 [.ref a0, .int (.ofInt x1), .int (.ofInt x2), u3, u4] [] σ (jg_QV Q)
  refine jg_A (pc' := 3) rfl rfl (fun _ _ _ => rfl) ?_
  refine jg_A (pc' := 4) rfl rfl (fun _ _ _ => rfl) ?_
  refine jg_getO (pc' := 7) (k := 3) rfl h0 (by decide) rfl rfl ?_
  refine jg_A (pc' := 8) rfl rfl (fun _ _ _ => rfl) ?_
  refine jg_ialdK (pc' := 9) (xi := 0) rfl (jg_sX12_12 h0) (by decide) (by decide) rfl ?_
  refine jg_A (pc' := 10) rfl rfl (fun _ _ _ => rfl) ?_
  refine jg_calS (M1 := mm_X12_power) (hy := 0) (pc' := 13) rfl (Or.inl rfl) jm_X12_power (by decide) rfl ⟨Nat.le_of_ble_eq_true rfl, rfl⟩ (Nat.le_of_ble_eq_true rfl) rfl h (jg_kI (fun z102 m101 h => ?_))
  refine jg_cge (pc' := 16) rfl rfl (fun hc => ?_) (fun hc => ?_)
  · have h := jg_t h hc
    exact jg_vret rfl rfl h
  · have h := jg_f h hc
    refine jg_A (pc' := 17) rfl rfl (fun _ _ _ => rfl) ?_
    refine jg_A (pc' := 18) rfl rfl (fun _ _ _ => rfl) ?_
    refine jg_A (pc' := 19) rfl rfl (fun _ _ _ => rfl) ?_
    refine jg_A (pc' := 20) rfl rfl (fun _ _ _ => rfl) ?_
    refine jg_getO (pc' := 23) (k := 3) rfl h0 (by decide) rfl rfl ?_
    refine jg_A (pc' := 24) rfl rfl (fun _ _ _ => rfl) ?_
    refine jg_ialdK (pc' := 25) (xi := 0) rfl (jg_sX12_12 h0) (by decide) (by decide) rfl ?_
    refine jg_calX (M1 := mm_X12_gives) (hy := 0) (pc' := 28) rfl jm_X12_gives (by decide) rfl h0 (by decide) ⟨Nat.le_of_ble_eq_true rfl, rfl⟩ (Nat.le_of_ble_eq_true rfl) rfl h (jg_kV (fun m103 h => ?_))
    refine jg_A (pc' := 29) rfl rfl (fun _ _ _ => rfl) ?_
    refine jg_calX (M1 := mm_X12_fromNow) (hy := 0) (pc' := 32) rfl jm_X12_fromNow (by decide) rfl h0 (by decide) ⟨Nat.le_of_ble_eq_true rfl, rfl⟩ (Nat.le_of_ble_eq_true rfl) rfl h (jg_kV (fun m104 h => ?_))
    refine jg_A (pc' := 33) rfl rfl (fun _ _ _ => rfl) ?_
    refine jg_A (pc' := 34) (ls' := [.ref a0, .int (.ofInt x1), .int (.ofInt x2), .int (.ofInt 1), u4]) rfl rfl (fun _ _ _ => rfl) ?_
    refine jg_A (pc' := 35) rfl rfl (fun _ _ _ => rfl) ?_
    refine jg_A (pc' := 37) (ls' := [.ref a0, .int (.ofInt x1), .int (.ofInt x2), .int (.ofInt 1), .int (.ofInt 0)]) rfl rfl (fun _ _ _ => rfl) ?_
    exact h
set_option maxRecDepth 100000 in
set_option maxHeartbeats 4000000 in
theorem jb_X12_layCome_37 {w : Nat} {a0 : Nat} {x1 : Int} {x2 : Int} {x3 : Int} {x4 : Int} {σ : jg_M} {Q : jg_M → Prop} (h0 : jg_sh a0 = (12, 0)) (h : (if jg_wr x1 ≤ jg_wr x4 then (0 ≤ (jg_wr x2) ∧ (jg_wr x2) < 2401) ∧ ∀ m101 : jg_M, m101 = jg_sI σ (a0 + 40) (jg_wr x2) (jg_nar x3) → jg_GV w 1 mm_X12_layCome 2 [.ref a0, .int (.ofInt x1), .int (.ofInt (x2 + 1)), .int (.ofInt x3), .int (.ofInt x4)] m101 Q else (if jg_wr x3 = 0 then (0 ≤ (jg_wr x2) ∧ (jg_wr x2) < 2401) ∧ ∀ m102 : jg_M, m102 = jg_sI σ (a0 + 40) (jg_wr x2) (jg_nar x3) → jg_GV w 1 mm_X12_layCome 2 [.ref a0, .int (.ofInt x1), .int (.ofInt (x2 + 1)), .int (.ofInt x3), .int (.ofInt x4)] m102 Q else (0 ≤ jg_wr x4 ∧ jg_wr x4 < 9) ∧ jg_CI w 0 mm_X12_comes [.ref a0, .int (.ofInt 0), .int (.ofInt (σ.1 (a0 + 39) (jg_wr x4)))] σ (fun (z104 : Int) (m103 : jg_M) => jg_GV w 1 mm_X12_layCome 37 [.ref a0, .int (.ofInt x1), .int (.ofInt x2), .int (.ofInt z104), .int (.ofInt (x4 + 1))] m103 Q)))) : jg_GV w 1 mm_X12_layCome 37 [.ref a0, .int (.ofInt x1), .int (.ofInt x2), .int (.ofInt x3), .int (.ofInt x4)] σ Q := by
  show jg_G w 1 mm_X12_layCome 37 [.ref a0, .int (.ofInt x1), .int (.ofInt x2), .int (.ofInt x3), .int (.ofInt x4)] [] σ (jg_QV Q)
  refine jg_A (pc' := 39) rfl rfl (fun _ _ _ => rfl) ?_
  refine jg_A (pc' := 40) rfl rfl (fun _ _ _ => rfl) ?_
  refine jg_cge (pc' := 43) rfl rfl (fun hc => ?_) (fun hc => ?_)
  · have h := jg_t h hc
    refine jg_A (pc' := 67) rfl rfl (fun _ _ _ => rfl) ?_
    refine jg_getO (pc' := 70) (k := 40) rfl h0 (by decide) rfl rfl ?_
    refine jg_A (pc' := 71) rfl rfl (fun _ _ _ => rfl) ?_
    refine jg_A (pc' := 72) rfl rfl (fun _ _ _ => rfl) ?_
    obtain ⟨hg, h⟩ := h
    refine jg_zast (pc' := 73) rfl (jg_sX12_62 h0) hg rfl (fun m101 hm101 => ?_)
    have h := h m101 hm101
    refine jg_iinc (pc' := 76) (ls' := [.ref a0, .int (.ofInt x1), .int (.ofInt (x2 + 1)), .int (.ofInt x3), .int (.ofInt x4)]) rfl rfl rfl rfl ?_
    refine jg_goto rfl ?_
    exact h
  · have h := jg_f h hc
    refine jg_A (pc' := 44) rfl rfl (fun _ _ _ => rfl) ?_
    refine jg_ifeq (pc' := 47) rfl rfl (fun hc => ?_) (fun hc => ?_)
    · have h := jg_t h hc
      refine jg_A (pc' := 67) rfl rfl (fun _ _ _ => rfl) ?_
      refine jg_getO (pc' := 70) (k := 40) rfl h0 (by decide) rfl rfl ?_
      refine jg_A (pc' := 71) rfl rfl (fun _ _ _ => rfl) ?_
      refine jg_A (pc' := 72) rfl rfl (fun _ _ _ => rfl) ?_
      obtain ⟨hg, h⟩ := h
      refine jg_zast (pc' := 73) rfl (jg_sX12_62 h0) hg rfl (fun m102 hm102 => ?_)
      have h := h m102 hm102
      refine jg_iinc (pc' := 76) (ls' := [.ref a0, .int (.ofInt x1), .int (.ofInt (x2 + 1)), .int (.ofInt x3), .int (.ofInt x4)]) rfl rfl rfl rfl ?_
      refine jg_goto rfl ?_
      exact h
    · have h := jg_f h hc
      refine jg_A (pc' := 48) rfl rfl (fun _ _ _ => rfl) ?_
      refine jg_A (pc' := 49) rfl rfl (fun _ _ _ => rfl) ?_
      refine jg_A (pc' := 50) rfl rfl (fun _ _ _ => rfl) ?_
      refine jg_getO (pc' := 53) (k := 39) rfl h0 (by decide) rfl rfl ?_
      refine jg_A (pc' := 55) rfl rfl (fun _ _ _ => rfl) ?_
      obtain ⟨hg, h⟩ := h
      refine jg_iald (pc' := 56) rfl (jg_sX12_61 h0) hg rfl ?_
      refine jg_calX (M1 := mm_X12_comes) (hy := 0) (pc' := 59) rfl jm_X12_comes (by decide) rfl h0 (by decide) ⟨Nat.le_of_ble_eq_true rfl, rfl⟩ (Nat.le_of_ble_eq_true rfl) rfl h (jg_kI (fun z104 m103 h => ?_))
      refine jg_A (pc' := 60) (ls' := [.ref a0, .int (.ofInt x1), .int (.ofInt x2), .int (.ofInt z104), .int (.ofInt x4)]) rfl rfl (fun _ _ _ => rfl) ?_
      refine jg_iinc (pc' := 63) (ls' := [.ref a0, .int (.ofInt x1), .int (.ofInt x2), .int (.ofInt z104), .int (.ofInt (x4 + 1))]) rfl rfl rfl rfl ?_
      refine jg_goto rfl ?_
      exact h
set_option maxRecDepth 100000 in
set_option maxHeartbeats 4000000 in
theorem jb_X12_game_0 {w : Nat} {a0 : Nat} {x1 : Int} {x2 : Int} {σ : jg_M} {Q : Int → jg_M → Prop} (h0 : jg_sh a0 = (12, 0)) (h : ∀ m101 : jg_M, m101 = jg_sI σ a0 2 0 → jg_CI w 0 mm_X12_isIn [.int (.ofInt x1), .int (.ofInt 0), .int (.ofInt 4)] m101 (fun (z103 : Int) (m102 : jg_M) => (if jg_wr z103 = 0 then Q (-1) m102 else jg_CI w 0 mm_X12_isIn [.int (.ofInt x2), .int (.ofInt 0), .int (.ofInt 1)] m102 (fun (z105 : Int) (m104 : jg_M) => (if jg_wr z105 = 0 then Q (-1) m104 else (if jg_wr (m104.1 (a0 + 13) (0)) = 0 then Q (-1) m104 else jg_GI w 2 mm_X12_game 36 [.ref a0, .int (.ofInt x1), .int (.ofInt x2), .int (.ofInt 0), mj_U, mj_U, mj_U, mj_U, mj_U] m104 Q)))))) : jg_CI w 2 mm_X12_game [.ref a0, .int (.ofInt x1), .int (.ofInt x2)] σ Q := by
  show jg_G w 2 mm_X12_game 0 [.ref a0, .int (.ofInt x1), .int (.ofInt x2), mj_U, mj_U, mj_U, mj_U, mj_U, mj_U] [] σ (jg_QI Q)
  refine jg_A (pc' := 1) rfl rfl (fun _ _ _ => rfl) ?_
  refine jg_A (pc' := 2) rfl rfl (fun _ _ _ => rfl) ?_
  refine jg_putI (pc' := 5) (bi := 2) rfl h0 (by decide) rfl rfl rfl rfl (fun m101 hm101 => ?_)
  have h := h m101 hm101
  refine jg_A (pc' := 6) rfl rfl (fun _ _ _ => rfl) ?_
  refine jg_A (pc' := 7) rfl rfl (fun _ _ _ => rfl) ?_
  refine jg_A (pc' := 8) rfl rfl (fun _ _ _ => rfl) ?_
  refine jg_calS (M1 := mm_X12_isIn) (hy := 0) (pc' := 11) rfl (Or.inl rfl) jm_X12_isIn (by decide) rfl ⟨Nat.le_of_ble_eq_true rfl, rfl⟩ (Nat.le_of_ble_eq_true rfl) rfl h (jg_kI (fun z103 m102 h => ?_))
  refine jg_ifeq (pc' := 14) rfl rfl (fun hc => ?_) (fun hc => ?_)
  · have h := jg_t h hc
    refine jg_A (pc' := 33) rfl rfl (fun _ _ _ => rfl) ?_
    exact jg_iret rfl rfl h
  · have h := jg_f h hc
    refine jg_A (pc' := 15) rfl rfl (fun _ _ _ => rfl) ?_
    refine jg_A (pc' := 16) rfl rfl (fun _ _ _ => rfl) ?_
    refine jg_A (pc' := 17) rfl rfl (fun _ _ _ => rfl) ?_
    refine jg_calS (M1 := mm_X12_isIn) (hy := 0) (pc' := 20) rfl (Or.inl rfl) jm_X12_isIn (by decide) rfl ⟨Nat.le_of_ble_eq_true rfl, rfl⟩ (Nat.le_of_ble_eq_true rfl) rfl h (jg_kI (fun z105 m104 h => ?_))
    refine jg_ifeq (pc' := 23) rfl rfl (fun hc => ?_) (fun hc => ?_)
    · have h := jg_t h hc
      refine jg_A (pc' := 33) rfl rfl (fun _ _ _ => rfl) ?_
      exact jg_iret rfl rfl h
    · have h := jg_f h hc
      refine jg_A (pc' := 24) rfl rfl (fun _ _ _ => rfl) ?_
      refine jg_getO (pc' := 27) (k := 13) rfl h0 (by decide) rfl rfl ?_
      refine jg_A (pc' := 28) rfl rfl (fun _ _ _ => rfl) ?_
      refine jg_ialdK (pc' := 29) (xi := 0) rfl (jg_sX12_22 h0) (by decide) (by decide) rfl ?_
      refine jg_ifne (pc' := 32) rfl rfl (fun hc => ?_) (fun hc => ?_)
      · have h := jg_t h hc
        refine jg_A (pc' := 33) rfl rfl (fun _ _ _ => rfl) ?_
        exact jg_iret rfl rfl h
      · have h := jg_f h hc
        refine jg_A (pc' := 35) rfl rfl (fun _ _ _ => rfl) ?_
        refine jg_A (pc' := 36) (ls' := [.ref a0, .int (.ofInt x1), .int (.ofInt x2), .int (.ofInt 0), mj_U, mj_U, mj_U, mj_U, mj_U]) rfl rfl (fun _ _ _ => rfl) ?_
        exact h
set_option maxRecDepth 100000 in
set_option maxHeartbeats 4000000 in
theorem jb_X12_game_36 {w : Nat} {a0 : Nat} {x1 : Int} {x2 : Int} {x3 : Int} {u4 : Value} {u5 : Value} {u6 : Value} {u7 : Value} {u8 : Value} {σ : jg_M} {Q : Int → jg_M → Prop} (h0 : jg_sh a0 = (12, 0)) (h : (if jg_wr 2401 ≤ jg_wr x3 then jg_GI w 2 mm_X12_game 61 [.ref a0, .int (.ofInt x1), .int (.ofInt x2), .int (.ofInt (-1)), .int (.ofInt x1), u5, u6, u7, u8] σ Q else (0 ≤ (jg_wr x3) ∧ (jg_wr x3) < 2401) ∧ ∀ m101 : jg_M, m101 = jg_sI σ (a0 + 41) (jg_wr x3) (jg_nar 0) → jg_GI w 2 mm_X12_game 36 [.ref a0, .int (.ofInt x1), .int (.ofInt x2), .int (.ofInt (x3 + 1)), u4, u5, u6, u7, u8] m101 Q)) : jg_GI w 2 mm_X12_game 36 [.ref a0, .int (.ofInt x1), .int (.ofInt x2), .int (.ofInt x3), u4, u5, u6, u7, u8] σ Q := by
  show jg_G w 2 mm_X12_game 36 [.ref a0, .int (.ofInt x1), .int (.ofInt x2), .int (.ofInt x3), u4, u5, u6, u7, u8] [] σ (jg_QI Q)
  refine jg_A (pc' := 37) rfl rfl (fun _ _ _ => rfl) ?_
  refine jg_A (pc' := 40) rfl rfl (fun _ _ _ => rfl) ?_
  refine jg_cge (pc' := 43) rfl rfl (fun hc => ?_) (fun hc => ?_)
  · have h := jg_t h hc
    refine jg_A (pc' := 57) rfl rfl (fun _ _ _ => rfl) ?_
    refine jg_A (pc' := 58) (ls' := [.ref a0, .int (.ofInt x1), .int (.ofInt x2), .int (.ofInt (-1)), u4, u5, u6, u7, u8]) rfl rfl (fun _ _ _ => rfl) ?_
    refine jg_A (pc' := 59) rfl rfl (fun _ _ _ => rfl) ?_
    refine jg_A (pc' := 61) (ls' := [.ref a0, .int (.ofInt x1), .int (.ofInt x2), .int (.ofInt (-1)), .int (.ofInt x1), u5, u6, u7, u8]) rfl rfl (fun _ _ _ => rfl) ?_
    exact h
  · have h := jg_f h hc
    refine jg_A (pc' := 44) rfl rfl (fun _ _ _ => rfl) ?_
    refine jg_getO (pc' := 47) (k := 41) rfl h0 (by decide) rfl rfl ?_
    refine jg_A (pc' := 48) rfl rfl (fun _ _ _ => rfl) ?_
    refine jg_A (pc' := 49) rfl rfl (fun _ _ _ => rfl) ?_
    obtain ⟨hg, h⟩ := h
    refine jg_zast (pc' := 50) rfl (jg_sX12_63 h0) hg rfl (fun m101 hm101 => ?_)
    have h := h m101 hm101
    refine jg_iinc (pc' := 53) (ls' := [.ref a0, .int (.ofInt x1), .int (.ofInt x2), .int (.ofInt (x3 + 1)), u4, u5, u6, u7, u8]) rfl rfl rfl rfl ?_
    refine jg_goto rfl ?_
    exact h
