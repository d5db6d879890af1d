/-! LIFTED METHODS, 2: from a method's entry, and from each loop's head, what must hold for its run to end with Q (printed by wip/whole/gen/gen18.py) -/
set_option maxRecDepth 100000 in
set_option maxHeartbeats 4000000 in
theorem jb_X8_gatherReduces_2 {w : Nat} {a0 : Nat} {x1 : Int} {x2 : Int} {x3 : Int} {u4 : Value} {u5 : Value} {u6 : Value} {σ : jg_M} {Q : jg_M → Prop} (h0 : jg_sh a0 = (8, 0)) (h : (if jg_wr (σ.1 (a0 + 1) 2) ≤ jg_wr x3 then Q σ else jg_CI w 1 mm_X0_itemAtEnd [.ref (a0 + 1), .int (.ofInt x3)] σ (fun (z102 : Int) (m101 : jg_M) => jg_CI w 1 mm_X7_hasItem [.ref (a0 + 10), .int (.ofInt x1), .int (.ofInt z102)] m101 (fun (z104 : Int) (m103 : jg_M) => (if jg_wr z104 = 0 then jg_GV w 2 mm_X8_gatherReduces 2 [.ref a0, .int (.ofInt x1), .int (.ofInt x2), .int (.ofInt (x3 + 1)), .int (.ofInt z102), u5, u6] m103 Q else (if jg_wr x2 = 0 then jg_CI w 1 mm_X7_behind [.ref (a0 + 10), .int (.ofInt x1), .int (.ofInt z102)] m103 (fun (z106 : Int) (m105 : jg_M) => jg_GV w 2 mm_X8_gatherReduces 73 [.ref a0, .int (.ofInt x1), .int (.ofInt x2), .int (.ofInt x3), .int (.ofInt z102), .int (.ofInt z106), .int (.ofInt 0)] m105 Q) else jg_CI w 1 mm_X0_kindOf [.ref (a0 + 1), .int (.ofInt x3)] m103 (fun (z108 : Int) (m107 : jg_M) => jg_CI w 1 mm_X0_followOf [.ref (a0 + 1), .int (.ofInt z108)] m107 (fun (z110 : Int) (m109 : jg_M) => jg_GV w 2 mm_X8_gatherReduces 73 [.ref a0, .int (.ofInt x1), .int (.ofInt x2), .int (.ofInt x3), .int (.ofInt z102), .int (.ofInt z110), .int (.ofInt 0)] m109 Q)))))))) : jg_GV w 2 mm_X8_gatherReduces 2 [.ref a0, .int (.ofInt x1), .int (.ofInt x2), .int (.ofInt x3), u4, u5, u6] σ Q := by
  show jg_G w 2 mm_X8_gatherReduces 2 [.ref a0, .int (.ofInt x1), .int (.ofInt x2), .int (.ofInt x3), u4, u5, u6] [] σ (jg_QV Q)
  refine jg_A (pc' := 3) rfl rfl (fun _ _ _ => rfl) ?_
  refine jg_A (pc' := 4) rfl rfl (fun _ _ _ => rfl) ?_
  refine jg_getO (pc' := 7) (k := 1) rfl h0 (by decide) rfl rfl ?_
  refine jg_getI (pc' := 10) (bi := 2) rfl (jg_sX8_0 h0) (by decide) (Or.inl rfl) rfl rfl ?_
  refine jg_cge (pc' := 13) rfl rfl (fun hc => ?_) (fun hc => ?_)
  · have h := jg_t h (show jg_wr (σ.1 (a0 + 1) 2) ≤ jg_wr x3 from hc)
    exact jg_vret rfl rfl h
  · have h := jg_f h (show ¬ (jg_wr (σ.1 (a0 + 1) 2) ≤ jg_wr x3) from hc)
    refine jg_A (pc' := 14) rfl rfl (fun _ _ _ => rfl) ?_
    refine jg_getO (pc' := 17) (k := 1) rfl h0 (by decide) rfl rfl ?_
    refine jg_A (pc' := 18) rfl rfl (fun _ _ _ => rfl) ?_
    refine jg_calX (M1 := mm_X0_itemAtEnd) (hy := 1) (pc' := 21) rfl jm_X0_itemAtEnd (by decide) rfl (jg_sX8_0 h0) (by decide) ⟨Nat.le_of_ble_eq_true rfl, rfl⟩ (Nat.le_of_ble_eq_true rfl) rfl h (jg_kI (fun z102 m101 h => ?_))
    refine jg_A (pc' := 23) (ls' := [.ref a0, .int (.ofInt x1), .int (.ofInt x2), .int (.ofInt x3), .int (.ofInt z102), u5, u6]) rfl rfl (fun _ _ _ => rfl) ?_
    refine jg_A (pc' := 24) rfl rfl (fun _ _ _ => rfl) ?_
    refine jg_getO (pc' := 27) (k := 10) rfl h0 (by decide) rfl rfl ?_
    refine jg_A (pc' := 28) rfl rfl (fun _ _ _ => rfl) ?_
    refine jg_A (pc' := 30) rfl rfl (fun _ _ _ => rfl) ?_
    refine jg_calX (M1 := mm_X7_hasItem) (hy := 1) (pc' := 33) rfl jm_X7_hasItem (by decide) rfl (jg_sX8_1 h0) (by decide) ⟨Nat.le_of_ble_eq_true rfl, rfl⟩ (Nat.le_of_ble_eq_true rfl) rfl h (jg_kI (fun z104 m103 h => ?_))
    refine jg_ifeq (pc' := 36) rfl rfl (fun hc => ?_) (fun hc => ?_)
    · have h := jg_t h (show jg_wr z104 = 0 from hc)
      refine jg_iinc (pc' := 123) (ls' := [.ref a0, .int (.ofInt x1), .int (.ofInt x2), .int (.ofInt (x3 + 1)), .int (.ofInt z102), u5, u6]) rfl rfl rfl rfl ?_
      refine jg_goto rfl ?_
      exact h
    · have h := jg_f h (show ¬ (jg_wr z104 = 0) from hc)
      refine jg_A (pc' := 37) rfl rfl (fun _ _ _ => rfl) ?_
      refine jg_ifeq (pc' := 40) rfl rfl (fun hc => ?_) (fun hc => ?_)
      · have h := jg_t h (show jg_wr x2 = 0 from hc)
        refine jg_A (pc' := 59) rfl rfl (fun _ _ _ => rfl) ?_
        refine jg_getO (pc' := 62) (k := 10) rfl h0 (by decide) rfl rfl ?_
        refine jg_A (pc' := 63) rfl rfl (fun _ _ _ => rfl) ?_
        refine jg_A (pc' := 65) rfl rfl (fun _ _ _ => rfl) ?_
        refine jg_calX (M1 := mm_X7_behind) (hy := 1) (pc' := 68) rfl jm_X7_behind (by decide) rfl (jg_sX8_1 h0) (by decide) ⟨Nat.le_of_ble_eq_true rfl, rfl⟩ (Nat.le_of_ble_eq_true rfl) rfl h (jg_kI (fun z106 m105 h => ?_))
        refine jg_A (pc' := 70) (ls' := [.ref a0, .int (.ofInt x1), .int (.ofInt x2), .int (.ofInt x3), .int (.ofInt z102), .int (.ofInt z106), u6]) rfl rfl (fun _ _ _ => rfl) ?_
        refine jg_A (pc' := 71) rfl rfl (fun _ _ _ => rfl) ?_
        refine jg_A (pc' := 73) (ls' := [.ref a0, .int (.ofInt x1), .int (.ofInt x2), .int (.ofInt x3), .int (.ofInt z102), .int (.ofInt z106), .int (.ofInt 0)]) rfl rfl (fun _ _ _ => rfl) ?_
        exact h
      · have h := jg_f h (show ¬ (jg_wr x2 = 0) from hc)
        refine jg_A (pc' := 41) rfl rfl (fun _ _ _ => rfl) ?_
        refine jg_getO (pc' := 44) (k := 1) rfl h0 (by decide) rfl rfl ?_
        refine jg_A (pc' := 45) rfl rfl (fun _ _ _ => rfl) ?_
        refine jg_getO (pc' := 48) (k := 1) rfl h0 (by decide) rfl rfl ?_
        refine jg_A (pc' := 49) rfl rfl (fun _ _ _ => rfl) ?_
        refine jg_calX (M1 := mm_X0_kindOf) (hy := 1) (pc' := 52) rfl jm_X0_kindOf (by decide) rfl (jg_sX8_0 h0) (by decide) ⟨Nat.le_of_ble_eq_true rfl, rfl⟩ (Nat.le_of_ble_eq_true rfl) rfl h (jg_kI (fun z108 m107 h => ?_))
        refine jg_calX (M1 := mm_X0_followOf) (hy := 1) (pc' := 55) rfl jm_X0_followOf (by decide) rfl (jg_sX8_0 h0) (by decide) ⟨Nat.le_of_ble_eq_true rfl, rfl⟩ (Nat.le_of_ble_eq_true rfl) rfl h (jg_kI (fun z110 m109 h => ?_))
        refine jg_goto rfl ?_
        refine jg_A (pc' := 70) (ls' := [.ref a0, .int (.ofInt x1), .int (.ofInt x2), .int (.ofInt x3), .int (.ofInt z102), .int (.ofInt z110), u6]) rfl rfl (fun _ _ _ => rfl) ?_
        refine jg_A (pc' := 71) rfl rfl (fun _ _ _ => rfl) ?_
        refine jg_A (pc' := 73) (ls' := [.ref a0, .int (.ofInt x1), .int (.ofInt x2), .int (.ofInt x3), .int (.ofInt z102), .int (.ofInt z110), .int (.ofInt 0)]) rfl rfl (fun _ _ _ => rfl) ?_
        exact h
set_option maxRecDepth 100000 in
set_option maxHeartbeats 4000000 in
theorem jb_X8_gatherReduces_73 {w : Nat} {a0 : Nat} {x1 : Int} {x2 : Int} {x3 : Int} {u4 : Value} {x5 : Int} {x6 : Int} {σ : jg_M} {Q : jg_M → Prop} (h0 : jg_sh a0 = (8, 0)) (h : (if jg_wr (σ.1 (a0 + 1) 0) < jg_wr x6 then jg_GV w 2 mm_X8_gatherReduces 2 [.ref a0, .int (.ofInt x1), .int (.ofInt x2), .int (.ofInt (x3 + 1)), u4, .int (.ofInt x5), .int (.ofInt x6)] σ Q else jg_CI w 0 mm_X11_inBits [.long (.ofInt (jg_wr x5)), .int (.ofInt x6)] σ (fun (z102 : Int) (m101 : jg_M) => (if jg_wr z102 = 0 then jg_GV w 2 mm_X8_gatherReduces 73 [.ref a0, .int (.ofInt x1), .int (.ofInt x2), .int (.ofInt x3), u4, .int (.ofInt x5), .int (.ofInt (x6 + 1))] m101 Q else ((0 : Int) ≤ jg_wr ((x1 * 8) + x6) ∧ jg_wr ((x1 * 8) + x6) < (384 : Int)) ∧ ((0 : Int) ≤ (jg_wr ((x1 * 8) + x6)) ∧ (jg_wr ((x1 * 8) + x6)) < (384 : Int)) ∧ ∀ m103 : jg_M, m103 = jg_sI m101 (a0 + 21) (jg_wr ((x1 * 8) + x6)) (jg_or (m101.1 (a0 + 21) (jg_wr ((x1 * 8) + x6))) (jg_shl 1 x3)) → jg_GV w 2 mm_X8_gatherReduces 73 [.ref a0, .int (.ofInt x1), .int (.ofInt x2), .int (.ofInt x3), u4, .int (.ofInt x5), .int (.ofInt (x6 + 1))] m103 Q)))) : jg_GV w 2 mm_X8_gatherReduces 73 [.ref a0, .int (.ofInt x1), .int (.ofInt x2), .int (.ofInt x3), u4, .int (.ofInt x5), .int (.ofInt x6)] σ Q := by
  show jg_G w 2 mm_X8_gatherReduces 73 [.ref a0, .int (.ofInt x1), .int (.ofInt x2), .int (.ofInt x3), u4, .int (.ofInt x5), .int (.ofInt x6)] [] σ (jg_QV Q)
  refine jg_A (pc' := 75) rfl rfl (fun _ _ _ => rfl) ?_
  refine jg_A (pc' := 76) rfl rfl (fun _ _ _ => rfl) ?_
  refine jg_getO (pc' := 79) (k := 1) rfl h0 (by decide) rfl rfl ?_
  refine jg_getI (pc' := 82) (bi := 0) rfl (jg_sX8_0 h0) (by decide) (Or.inl rfl) rfl rfl ?_
  refine jg_cgt (pc' := 85) rfl rfl (fun hc => ?_) (fun hc => ?_)
  · have h := jg_t h (show jg_wr (σ.1 (a0 + 1) 0) < jg_wr x6 from hc)
    refine jg_iinc (pc' := 123) (ls' := [.ref a0, .int (.ofInt x1), .int (.ofInt x2), .int (.ofInt (x3 + 1)), u4, .int (.ofInt x5), .int (.ofInt x6)]) rfl rfl rfl rfl ?_
    refine jg_goto rfl ?_
    exact h
  · have h := jg_f h (show ¬ (jg_wr (σ.1 (a0 + 1) 0) < jg_wr x6) from hc)
    refine jg_A (pc' := 87) rfl rfl (fun _ _ _ => rfl) ?_
    refine jg_i2l (pc' := 88) rfl rfl ?_
    refine jg_A (pc' := 90) rfl rfl (fun _ _ _ => rfl) ?_
    refine jg_calS (M1 := mm_X11_inBits) (hy := 0) (pc' := 93) rfl (Or.inr rfl) jm_X11_inBits (by decide) rfl ⟨Nat.le_of_ble_eq_true rfl, rfl⟩ (Nat.le_of_ble_eq_true rfl) rfl h (jg_kI (fun z102 m101 h => ?_))
    refine jg_ifeq (pc' := 96) rfl rfl (fun hc => ?_) (fun hc => ?_)
    · have h := jg_t h (show jg_wr z102 = 0 from hc)
      refine jg_iinc (pc' := 117) (ls' := [.ref a0, .int (.ofInt x1), .int (.ofInt x2), .int (.ofInt x3), u4, .int (.ofInt x5), .int (.ofInt (x6 + 1))]) rfl rfl rfl rfl ?_
      refine jg_goto rfl ?_
      exact h
    · have h := jg_f h (show ¬ (jg_wr z102 = 0) from hc)
      refine jg_A (pc' := 97) rfl rfl (fun _ _ _ => rfl) ?_
      refine jg_getO (pc' := 100) (k := 21) rfl h0 (by decide) rfl rfl ?_
      refine jg_A (pc' := 101) rfl rfl (fun _ _ _ => rfl) ?_
      refine jg_A (pc' := 103) rfl rfl (fun _ _ _ => rfl) ?_
      refine jg_imul (pc' := 104) rfl rfl ?_
      refine jg_A (pc' := 106) rfl rfl (fun _ _ _ => rfl) ?_
      refine jg_iadd (pc' := 107) rfl rfl ?_
      refine jg_A (pc' := 108) rfl rfl (fun _ _ _ => rfl) ?_
      obtain ⟨hg, h⟩ := h
      refine jg_iald (pc' := 109) rfl (jg_sX8_3 h0) hg rfl ?_
      refine jg_A (pc' := 110) rfl rfl (fun _ _ _ => rfl) ?_
      refine jg_A (pc' := 111) rfl rfl (fun _ _ _ => rfl) ?_
      refine jg_ishl (pc' := 112) rfl rfl ?_
      refine jg_ior (pc' := 113) rfl rfl ?_
      obtain ⟨hg, h⟩ := h
      refine jg_iast (pc' := 114) rfl (jg_sX8_3 h0) hg rfl (fun m103 hm103 => ?_)
      have h := h m103 hm103
      refine jg_iinc (pc' := 117) (ls' := [.ref a0, .int (.ofInt x1), .int (.ofInt x2), .int (.ofInt x3), u4, .int (.ofInt x5), .int (.ofInt (x6 + 1))]) rfl rfl rfl rfl ?_
      refine jg_goto rfl ?_
      exact h
set_option maxRecDepth 100000 in
set_option maxHeartbeats 4000000 in
theorem jb_X8_decide_0 {w : Nat} {a0 : Nat} {x1 : Int} {x2 : Int} {σ : jg_M} {Q : jg_M → Prop} (h0 : jg_sh a0 = (8, 0)) (h : ∀ t101 : Int, t101 = ((x1 * 8) + x2) → (if jg_wr x2 = jg_wr (σ.1 (a0 + 1) 0) then jg_G w 3 mm_X8_decide 23 [.ref a0, .int (.ofInt x1), .int (.ofInt x2), .int (.ofInt t101), mj_U, mj_U, mj_U, mj_U, mj_U, mj_U] [.int (.ofInt 1)] σ (jg_QV Q) else jg_G w 3 mm_X8_decide 23 [.ref a0, .int (.ofInt x1), .int (.ofInt x2), .int (.ofInt t101), mj_U, mj_U, mj_U, mj_U, mj_U, mj_U] [.int (.ofInt 0)] σ (jg_QV Q))) : jg_CV w 3 mm_X8_decide [.ref a0, .int (.ofInt x1), .int (.ofInt x2)] σ Q := by
  show jg_G w 3 mm_X8_decide 0 [.ref a0, .int (.ofInt x1), .int (.ofInt x2), mj_U, mj_U, mj_U, mj_U, mj_U, mj_U, mj_U] [] σ (jg_QV Q)
  refine jg_A (pc' := 1) rfl rfl (fun _ _ _ => rfl) ?_
  refine jg_A (pc' := 3) rfl rfl (fun _ _ _ => rfl) ?_
  refine jg_imul (pc' := 4) rfl rfl ?_
  refine jg_A (pc' := 5) rfl rfl (fun _ _ _ => rfl) ?_
  refine jg_iadd (pc' := 6) rfl rfl ?_
  refine jg_nm (F := fun t101 => jg_G w 3 mm_X8_decide 6 [.ref a0, .int (.ofInt x1), .int (.ofInt x2), mj_U, mj_U, mj_U, mj_U, mj_U, mj_U, mj_U] [.int (.ofInt t101)] σ (jg_QV Q)) ((x1 * 8) + x2) (fun t101 ht101 => ?_)
  have h := h t101 ht101
  refine jg_A (pc' := 7) (ls' := [.ref a0, .int (.ofInt x1), .int (.ofInt x2), .int (.ofInt t101), mj_U, mj_U, mj_U, mj_U, mj_U, mj_U]) rfl rfl (fun _ _ _ => rfl) ?_
  refine jg_A (pc' := 8) rfl rfl (fun _ _ _ => rfl) ?_
  refine jg_A (pc' := 9) rfl rfl (fun _ _ _ => rfl) ?_
  refine jg_getO (pc' := 12) (k := 1) rfl h0 (by decide) rfl rfl ?_
  refine jg_getI (pc' := 15) (bi := 0) rfl (jg_sX8_0 h0) (by decide) (Or.inl rfl) rfl rfl ?_
  refine jg_cne (pc' := 18) rfl rfl (fun hc => ?_) (fun hc => ?_)
  · have h := jg_t h (show jg_wr x2 = jg_wr (σ.1 (a0 + 1) 0) from hc)
    refine jg_A (pc' := 19) rfl rfl (fun _ _ _ => rfl) ?_
    refine jg_goto rfl ?_
    exact h
  · have h := jg_f h (show ¬ (jg_wr x2 = jg_wr (σ.1 (a0 + 1) 0)) from hc)
    refine jg_A (pc' := 23) rfl rfl (fun _ _ _ => rfl) ?_
    exact h
set_option maxRecDepth 100000 in
set_option maxHeartbeats 4000000 in
theorem jb_X8_decide_23 {w : Nat} {a0 : Nat} {x1 : Int} {x2 : Int} {x3 : Int} {u4 : Value} {u5 : Value} {u6 : Value} {u7 : Value} {u8 : Value} {u9 : Value} {y0 : Int} {σ : jg_M} {Q : jg_M → Prop} (h0 : jg_sh a0 = (8, 0)) (h : (if jg_wr y0 = 0 then jg_GV w 3 mm_X8_decide 65 [.ref a0, .int (.ofInt x1), .int (.ofInt x2), .int (.ofInt x3), .int (.ofInt y0), u5, u6, u7, u8, u9] σ Q else jg_CI w 1 mm_X0_itemAtEnd [.ref (a0 + 1), .int (.ofInt (σ.1 (a0 + 1) 2))] σ (fun (z102 : Int) (m101 : jg_M) => jg_CI w 1 mm_X7_hasItem [.ref (a0 + 10), .int (.ofInt x1), .int (.ofInt z102)] m101 (fun (z104 : Int) (m103 : jg_M) => (if jg_wr z104 = 0 then jg_GV w 3 mm_X8_decide 65 [.ref a0, .int (.ofInt x1), .int (.ofInt x2), .int (.ofInt x3), .int (.ofInt y0), u5, u6, u7, u8, u9] m103 Q else ((0 : Int) ≤ (jg_wr x3) ∧ (jg_wr x3) < (384 : Int)) ∧ ∀ m105 : jg_M, m105 = jg_sI m103 (a0 + 20) (jg_wr x3) 3000 → Q m105))))) : jg_G w 3 mm_X8_decide 23 [.ref a0, .int (.ofInt x1), .int (.ofInt x2), .int (.ofInt x3), u4, u5, u6, u7, u8, u9] [.int (.ofInt y0)] σ (jg_QV Q) := by
  show jg_G w 3 mm_X8_decide 23 [.ref a0, .int (.ofInt x1), .int (.ofInt x2), .int (.ofInt x3), u4, u5, u6, u7, u8, u9] [.int (.ofInt y0)] σ (jg_QV Q)
  refine jg_A (pc' := 25) (ls' := [.ref a0, .int (.ofInt x1), .int (.ofInt x2), .int (.ofInt x3), .int (.ofInt y0), u5, u6, u7, u8, u9]) rfl rfl (fun _ _ _ => rfl) ?_
  refine jg_A (pc' := 27) rfl rfl (fun _ _ _ => rfl) ?_
  refine jg_ifeq (pc' := 30) rfl rfl (fun hc => ?_) (fun hc => ?_)
  · have h := jg_t h (show jg_wr y0 = 0 from hc)
    exact h
  · have h := jg_f h (show ¬ (jg_wr y0 = 0) from hc)
    refine jg_A (pc' := 31) rfl rfl (fun _ _ _ => rfl) ?_
    refine jg_getO (pc' := 34) (k := 10) rfl h0 (by decide) rfl rfl ?_
    refine jg_A (pc' := 35) rfl rfl (fun _ _ _ => rfl) ?_
    refine jg_A (pc' := 36) rfl rfl (fun _ _ _ => rfl) ?_
    refine jg_getO (pc' := 39) (k := 1) rfl h0 (by decide) rfl rfl ?_
    refine jg_A (pc' := 40) rfl rfl (fun _ _ _ => rfl) ?_
    refine jg_getO (pc' := 43) (k := 1) rfl h0 (by decide) rfl rfl ?_
    refine jg_getI (pc' := 46) (bi := 2) rfl (jg_sX8_0 h0) (by decide) (Or.inl rfl) rfl rfl ?_
    refine jg_calX (M1 := mm_X0_itemAtEnd) (hy := 1) (pc' := 49) rfl jm_X0_itemAtEnd (by decide) rfl (jg_sX8_0 h0) (by decide) ⟨Nat.le_of_ble_eq_true rfl, rfl⟩ (Nat.le_of_ble_eq_true rfl) rfl h (jg_kI (fun z102 m101 h => ?_))
    refine jg_calX (M1 := mm_X7_hasItem) (hy := 1) (pc' := 52) rfl jm_X7_hasItem (by decide) rfl (jg_sX8_1 h0) (by decide) ⟨Nat.le_of_ble_eq_true rfl, rfl⟩ (Nat.le_of_ble_eq_true rfl) rfl h (jg_kI (fun z104 m103 h => ?_))
    refine jg_ifeq (pc' := 55) rfl rfl (fun hc => ?_) (fun hc => ?_)
    · have h := jg_t h (show jg_wr z104 = 0 from hc)
      exact h
    · have h := jg_f h (show ¬ (jg_wr z104 = 0) from hc)
      refine jg_A (pc' := 56) rfl rfl (fun _ _ _ => rfl) ?_
      refine jg_getO (pc' := 59) (k := 20) rfl h0 (by decide) rfl rfl ?_
      refine jg_A (pc' := 60) rfl rfl (fun _ _ _ => rfl) ?_
      refine jg_A (pc' := 63) rfl rfl (fun _ _ _ => rfl) ?_
      obtain ⟨hg, h⟩ := h
      refine jg_iast (pc' := 64) rfl (jg_sX8_2 h0) hg rfl (fun m105 hm105 => ?_)
      have h := h m105 hm105
      exact jg_vret rfl rfl h
set_option maxRecDepth 100000 in
set_option maxHeartbeats 4000000 in
theorem jb_X8_decide_65 {w : Nat} {a0 : Nat} {x1 : Int} {x2 : Int} {x3 : Int} {x4 : Int} {u5 : Value} {u6 : Value} {u7 : Value} {u8 : Value} {u9 : Value} {σ : jg_M} {Q : jg_M → Prop} (h0 : jg_sh a0 = (8, 0)) (h : (if jg_wr x4 = 0 then jg_CI w 1 mm_X7_moveBy [.ref (a0 + 10), .int (.ofInt x1), .int (.ofInt x2)] σ (fun (z102 : Int) (m101 : jg_M) => jg_G w 3 mm_X8_decide 84 [.ref a0, .int (.ofInt x1), .int (.ofInt x2), .int (.ofInt x3), .int (.ofInt x4), u5, u6, u7, u8, u9] [.int (.ofInt z102)] m101 (jg_QV Q)) else jg_G w 3 mm_X8_decide 84 [.ref a0, .int (.ofInt x1), .int (.ofInt x2), .int (.ofInt x3), .int (.ofInt x4), u5, u6, u7, u8, u9] [.int (.ofInt (-2))] σ (jg_QV Q))) : jg_GV w 3 mm_X8_decide 65 [.ref a0, .int (.ofInt x1), .int (.ofInt x2), .int (.ofInt x3), .int (.ofInt x4), u5, u6, u7, u8, u9] σ Q := by
  show jg_G w 3 mm_X8_decide 65 [.ref a0, .int (.ofInt x1), .int (.ofInt x2), .int (.ofInt x3), .int (.ofInt x4), u5, u6, u7, u8, u9] [] σ (jg_QV Q)
  refine jg_A (pc' := 67) rfl rfl (fun _ _ _ => rfl) ?_
  refine jg_ifeq (pc' := 70) rfl rfl (fun hc => ?_) (fun hc => ?_)
  · have h := jg_t h (show jg_wr x4 = 0 from hc)
    refine jg_A (pc' := 76) rfl rfl (fun _ _ _ => rfl) ?_
    refine jg_getO (pc' := 79) (k := 10) rfl h0 (by decide) rfl rfl ?_
    refine jg_A (pc' := 80) rfl rfl (fun _ _ _ => rfl) ?_
    refine jg_A (pc' := 81) rfl rfl (fun _ _ _ => rfl) ?_
    refine jg_calX (M1 := mm_X7_moveBy) (hy := 1) (pc' := 84) rfl jm_X7_moveBy (by decide) rfl (jg_sX8_1 h0) (by decide) ⟨Nat.le_of_ble_eq_true rfl, rfl⟩ (Nat.le_of_ble_eq_true rfl) rfl h (jg_kI (fun z102 m101 h => ?_))
    exact h
  · have h := jg_f h (show ¬ (jg_wr x4 = 0) from hc)
    refine jg_A (pc' := 72) rfl rfl (fun _ _ _ => rfl) ?_
    refine jg_goto rfl ?_
    exact h
set_option maxRecDepth 100000 in
set_option maxHeartbeats 4000000 in
theorem jb_X8_decide_84 {w : Nat} {a0 : Nat} {u1 : Value} {x2 : Int} {x3 : Int} {u4 : Value} {u5 : Value} {u6 : Value} {u7 : Value} {u8 : Value} {u9 : Value} {y0 : Int} {σ : jg_M} {Q : jg_M → Prop} (h0 : jg_sh a0 = (8, 0)) (h : ((0 : Int) ≤ jg_wr x3 ∧ jg_wr x3 < (384 : Int)) ∧ ∀ t101 : Int, t101 = (σ.1 (a0 + 21) (jg_wr x3)) → (if jg_wr t101 = 0 then (if jg_wr y0 < 0 then jg_G w 3 mm_X8_decide 119 [.ref a0, u1, .int (.ofInt x2), .int (.ofInt x3), u4, .int (.ofInt y0), .int (.ofInt t101), u7, u8, u9] [.int (.ofInt 0), .int (.ofInt x3), .ref (a0 + 20)] σ (jg_QV Q) else jg_G w 3 mm_X8_decide 119 [.ref a0, u1, .int (.ofInt x2), .int (.ofInt x3), u4, .int (.ofInt y0), .int (.ofInt t101), u7, u8, u9] [.int (.ofInt (1000 + y0)), .int (.ofInt x3), .ref (a0 + 20)] σ (jg_QV Q)) else jg_CI w 1 mm_X8_leastOf [.int (.ofInt t101)] σ (fun (z103 : Int) (m102 : jg_M) => jg_CI w 2 mm_X0_rankOf [.ref (a0 + 1), .int (.ofInt z103)] m102 (fun (z105 : Int) (m104 : jg_M) => jg_CI w 1 mm_X0_rankOfToken [.ref (a0 + 1), .int (.ofInt x2)] m104 (fun (z107 : Int) (m106 : jg_M) => (if jg_wr y0 < 0 then jg_GV w 3 mm_X8_decide 177 [.ref a0, u1, .int (.ofInt x2), .int (.ofInt x3), u4, .int (.ofInt y0), .int (.ofInt t101), .int (.ofInt z103), .int (.ofInt z105), .int (.ofInt z107)] m106 Q else (if jg_wr z105 = 0 then jg_GV w 3 mm_X8_decide 164 [.ref a0, u1, .int (.ofInt x2), .int (.ofInt x3), u4, .int (.ofInt y0), .int (.ofInt t101), .int (.ofInt z103), .int (.ofInt z105), .int (.ofInt z107)] m106 Q else (if jg_wr z107 = 0 then jg_GV w 3 mm_X8_decide 164 [.ref a0, u1, .int (.ofInt x2), .int (.ofInt x3), u4, .int (.ofInt y0), .int (.ofInt t101), .int (.ofInt z103), .int (.ofInt z105), .int (.ofInt z107)] m106 Q else jg_GV w 3 mm_X8_decide 177 [.ref a0, u1, .int (.ofInt x2), .int (.ofInt x3), u4, .int (.ofInt y0), .int (.ofInt t101), .int (.ofInt z103), .int (.ofInt z105), .int (.ofInt z107)] m106 Q)))))))) : jg_G w 3 mm_X8_decide 84 [.ref a0, u1, .int (.ofInt x2), .int (.ofInt x3), u4, u5, u6, u7, u8, u9] [.int (.ofInt y0)] σ (jg_QV Q) := by
  show jg_G w 3 mm_X8_decide 84 [.ref a0, u1, .int (.ofInt x2), .int (.ofInt x3), u4, u5, u6, u7, u8, u9] [.int (.ofInt y0)] σ (jg_QV Q)
  refine jg_A (pc' := 86) (ls' := [.ref a0, u1, .int (.ofInt x2), .int (.ofInt x3), u4, .int (.ofInt y0), u6, u7, u8, u9]) rfl rfl (fun _ _ _ => rfl) ?_
  refine jg_A (pc' := 87) rfl rfl (fun _ _ _ => rfl) ?_
  refine jg_getO (pc' := 90) (k := 21) rfl h0 (by decide) rfl rfl ?_
  refine jg_A (pc' := 91) rfl rfl (fun _ _ _ => rfl) ?_
  obtain ⟨hg, h⟩ := h
  refine jg_iald (pc' := 92) rfl (jg_sX8_3 h0) hg rfl ?_
  refine jg_nm (F := fun t101 => jg_G w 3 mm_X8_decide 92 [.ref a0, u1, .int (.ofInt x2), .int (.ofInt x3), u4, .int (.ofInt y0), u6, u7, u8, u9] [.int (.ofInt t101)] σ (jg_QV Q)) (σ.1 (a0 + 21) (jg_wr x3)) (fun t101 ht101 => ?_)
  have h := h t101 ht101
  refine jg_A (pc' := 94) (ls' := [.ref a0, u1, .int (.ofInt x2), .int (.ofInt x3), u4, .int (.ofInt y0), .int (.ofInt t101), u7, u8, u9]) rfl rfl (fun _ _ _ => rfl) ?_
  refine jg_A (pc' := 96) rfl rfl (fun _ _ _ => rfl) ?_
  refine jg_ifne (pc' := 99) rfl rfl (fun hc => ?_) (fun hc => ?_)
  · have h := jg_t h (show jg_wr t101 = 0 from hc)
    refine jg_A (pc' := 100) rfl rfl (fun _ _ _ => rfl) ?_
    refine jg_getO (pc' := 103) (k := 20) rfl h0 (by decide) rfl rfl ?_
    refine jg_A (pc' := 104) rfl rfl (fun _ _ _ => rfl) ?_
    refine jg_A (pc' := 106) rfl rfl (fun _ _ _ => rfl) ?_
    refine jg_iflt (pc' := 109) rfl rfl (fun hc => ?_) (fun hc => ?_)
    · have h := jg_t h (show jg_wr y0 < 0 from hc)
      refine jg_A (pc' := 119) rfl rfl (fun _ _ _ => rfl) ?_
      exact h
    · have h := jg_f h (show ¬ (jg_wr y0 < 0) from hc)
      refine jg_A (pc' := 112) rfl rfl (fun _ _ _ => rfl) ?_
      refine jg_A (pc' := 114) rfl rfl (fun _ _ _ => rfl) ?_
      refine jg_iadd (pc' := 115) rfl rfl ?_
      refine jg_goto rfl ?_
      exact h
  · have h := jg_f h (show ¬ (jg_wr t101 = 0) from hc)
    refine jg_A (pc' := 123) rfl rfl (fun _ _ _ => rfl) ?_
    refine jg_calS (M1 := mm_X8_leastOf) (hy := 1) (pc' := 126) rfl (Or.inl rfl) jm_X8_leastOf (by decide) rfl ⟨Nat.le_of_ble_eq_true rfl, rfl⟩ (Nat.le_of_ble_eq_true rfl) rfl h (jg_kI (fun z103 m102 h => ?_))
    refine jg_A (pc' := 128) (ls' := [.ref a0, u1, .int (.ofInt x2), .int (.ofInt x3), u4, .int (.ofInt y0), .int (.ofInt t101), .int (.ofInt z103), u8, u9]) rfl rfl (fun _ _ _ => rfl) ?_
    refine jg_A (pc' := 129) rfl rfl (fun _ _ _ => rfl) ?_
    refine jg_getO (pc' := 132) (k := 1) rfl h0 (by decide) rfl rfl ?_
    refine jg_A (pc' := 134) rfl rfl (fun _ _ _ => rfl) ?_
    refine jg_calX (M1 := mm_X0_rankOf) (hy := 2) (pc' := 137) rfl jm_X0_rankOf (by decide) rfl (jg_sX8_0 h0) (by decide) ⟨Nat.le_of_ble_eq_true rfl, rfl⟩ (Nat.le_of_ble_eq_true rfl) rfl h (jg_kI (fun z105 m104 h => ?_))
    refine jg_A (pc' := 139) (ls' := [.ref a0, u1, .int (.ofInt x2), .int (.ofInt x3), u4, .int (.ofInt y0), .int (.ofInt t101), .int (.ofInt z103), .int (.ofInt z105), u9]) rfl rfl (fun _ _ _ => rfl) ?_
    refine jg_A (pc' := 140) rfl rfl (fun _ _ _ => rfl) ?_
    refine jg_getO (pc' := 143) (k := 1) rfl h0 (by decide) rfl rfl ?_
    refine jg_A (pc' := 144) rfl rfl (fun _ _ _ => rfl) ?_
    refine jg_calX (M1 := mm_X0_rankOfToken) (hy := 1) (pc' := 147) rfl jm_X0_rankOfToken (by decide) rfl (jg_sX8_0 h0) (by decide) ⟨Nat.le_of_ble_eq_true rfl, rfl⟩ (Nat.le_of_ble_eq_true rfl) rfl h (jg_kI (fun z107 m106 h => ?_))
    refine jg_A (pc' := 149) (ls' := [.ref a0, u1, .int (.ofInt x2), .int (.ofInt x3), u4, .int (.ofInt y0), .int (.ofInt t101), .int (.ofInt z103), .int (.ofInt z105), .int (.ofInt z107)]) rfl rfl (fun _ _ _ => rfl) ?_
    refine jg_A (pc' := 151) rfl rfl (fun _ _ _ => rfl) ?_
    refine jg_iflt (pc' := 154) rfl rfl (fun hc => ?_) (fun hc => ?_)
    · have h := jg_t h (show jg_wr y0 < 0 from hc)
      exact h
    · have h := jg_f h (show ¬ (jg_wr y0 < 0) from hc)
      refine jg_A (pc' := 156) rfl rfl (fun _ _ _ => rfl) ?_
      refine jg_ifeq (pc' := 159) rfl rfl (fun hc => ?_) (fun hc => ?_)
      · have h := jg_t h (show jg_wr z105 = 0 from hc)
        exact h
      · have h := jg_f h (show ¬ (jg_wr z105 = 0) from hc)
        refine jg_A (pc' := 161) rfl rfl (fun _ _ _ => rfl) ?_
        refine jg_ifne (pc' := 164) rfl rfl (fun hc => ?_) (fun hc => ?_)
        · have h := jg_t h (show jg_wr z107 = 0 from hc)
          exact h
        · have h := jg_f h (show ¬ (jg_wr z107 = 0) from hc)
          exact h
set_option maxRecDepth 100000 in
set_option maxHeartbeats 4000000 in
theorem jb_X8_decide_119 {w : Nat} {u0 : Value} {u1 : Value} {u2 : Value} {u3 : Value} {u4 : Value} {u5 : Value} {u6 : Value} {u7 : Value} {u8 : Value} {u9 : Value} {y0 : Int} {y1 : Int} {b2 : Nat} {σ : jg_M} {Q : jg_M → Prop} (g2 : jg_sh b2 = (20, 384)) (h : ((0 : Int) ≤ (jg_wr y1) ∧ (jg_wr y1) < (384 : Int)) ∧ ∀ m101 : jg_M, m101 = jg_sI σ b2 (jg_wr y1) y0 → Q m101) : jg_G w 3 mm_X8_decide 119 [u0, u1, u2, u3, u4, u5, u6, u7, u8, u9] [.int (.ofInt y0), .int (.ofInt y1), .ref b2] σ (jg_QV Q) := by
  show jg_G w 3 mm_X8_decide 119 [u0, u1, u2, u3, u4, u5, u6, u7, u8, u9] [.int (.ofInt y0), .int (.ofInt y1), .ref b2] σ (jg_QV Q)
  obtain ⟨hg, h⟩ := h
  refine jg_iast (pc' := 120) rfl g2 hg rfl (fun m101 hm101 => ?_)
  have h := h m101 hm101
  exact jg_vret rfl rfl h
set_option maxRecDepth 100000 in
set_option maxHeartbeats 4000000 in
theorem jb_X8_decide_177 {w : Nat} {a0 : Nat} {u1 : Value} {x2 : Int} {x3 : Int} {u4 : Value} {x5 : Int} {x6 : Int} {x7 : Int} {x8 : Int} {x9 : Int} {σ : jg_M} {Q : jg_M → Prop} (h0 : jg_sh a0 = (8, 0)) (h : ((0 : Int) ≤ (jg_wr x3) ∧ (jg_wr x3) < (384 : Int)) ∧ ∀ m101 : jg_M, m101 = jg_sI σ (a0 + 21) (jg_wr x3) (jg_and x6 (x6 - 1)) → (if jg_wr x5 < 0 then jg_GV w 3 mm_X8_decide 202 [.ref a0, u1, .int (.ofInt x2), .int (.ofInt x3), u4, .int (.ofInt x5), .int (.ofInt x6), .int (.ofInt x7), .int (.ofInt x8), .int (.ofInt x9)] m101 Q else (if jg_wr x8 ≤ jg_wr x9 then (if jg_wr x9 ≤ jg_wr x8 then jg_CI w 1 mm_X0_sideOfToken [.ref (a0 + 1), .int (.ofInt x2)] m101 (fun (z103 : Int) (m102 : jg_M) => jg_CI w 0 mm_X8_actionBySide [.int (.ofInt z103), .int (.ofInt x5), .int (.ofInt x7)] m102 (fun (z105 : Int) (m104 : jg_M) => ((0 : Int) ≤ (jg_wr x3) ∧ (jg_wr x3) < (384 : Int)) ∧ ∀ m106 : jg_M, m106 = jg_sI m104 (a0 + 20) (jg_wr x3) z105 → Q m106)) else ((0 : Int) ≤ (jg_wr x3) ∧ (jg_wr x3) < (384 : Int)) ∧ ∀ m107 : jg_M, m107 = jg_sI m101 (a0 + 20) (jg_wr x3) (1000 + x5) → Q m107) else jg_GV w 3 mm_X8_decide 202 [.ref a0, u1, .int (.ofInt x2), .int (.ofInt x3), u4, .int (.ofInt x5), .int (.ofInt x6), .int (.ofInt x7), .int (.ofInt x8), .int (.ofInt x9)] m101 Q))) : jg_GV w 3 mm_X8_decide 177 [.ref a0, u1, .int (.ofInt x2), .int (.ofInt x3), u4, .int (.ofInt x5), .int (.ofInt x6), .int (.ofInt x7), .int (.ofInt x8), .int (.ofInt x9)] σ Q := by
  show jg_G w 3 mm_X8_decide 177 [.ref a0, u1, .int (.ofInt x2), .int (.ofInt x3), u4, .int (.ofInt x5), .int (.ofInt x6), .int (.ofInt x7), .int (.ofInt x8), .int (.ofInt x9)] [] σ (jg_QV Q)
  refine jg_A (pc' := 178) rfl rfl (fun _ _ _ => rfl) ?_
  refine jg_getO (pc' := 181) (k := 21) rfl h0 (by decide) rfl rfl ?_
  refine jg_A (pc' := 182) rfl rfl (fun _ _ _ => rfl) ?_
  refine jg_A (pc' := 184) rfl rfl (fun _ _ _ => rfl) ?_
  refine jg_A (pc' := 186) rfl rfl (fun _ _ _ => rfl) ?_
  refine jg_A (pc' := 187) rfl rfl (fun _ _ _ => rfl) ?_
  refine jg_isub (pc' := 188) rfl rfl ?_
  refine jg_iand (pc' := 189) rfl rfl ?_
  obtain ⟨hg, h⟩ := h
  refine jg_iast (pc' := 190) rfl (jg_sX8_3 h0) hg rfl (fun m101 hm101 => ?_)
  have h := h m101 hm101
  refine jg_A (pc' := 192) rfl rfl (fun _ _ _ => rfl) ?_
  refine jg_iflt (pc' := 195) rfl rfl (fun hc => ?_) (fun hc => ?_)
  · have h := jg_t h (show jg_wr x5 < 0 from hc)
    exact h
  · have h := jg_f h (show ¬ (jg_wr x5 < 0) from hc)
    refine jg_A (pc' := 197) rfl rfl (fun _ _ _ => rfl) ?_
    refine jg_A (pc' := 199) rfl rfl (fun _ _ _ => rfl) ?_
    refine jg_cle (pc' := 202) rfl rfl (fun hc => ?_) (fun hc => ?_)
    · have h := jg_t h (show jg_wr x8 ≤ jg_wr x9 from hc)
      refine jg_A (pc' := 219) rfl rfl (fun _ _ _ => rfl) ?_
      refine jg_A (pc' := 221) rfl rfl (fun _ _ _ => rfl) ?_
      refine jg_cge (pc' := 224) rfl rfl (fun hc => ?_) (fun hc => ?_)
      · have h := jg_t h (show jg_wr x9 ≤ jg_wr x8 from hc)
        refine jg_A (pc' := 240) rfl rfl (fun _ _ _ => rfl) ?_
        refine jg_getO (pc' := 243) (k := 20) rfl h0 (by decide) rfl rfl ?_
        refine jg_A (pc' := 244) rfl rfl (fun _ _ _ => rfl) ?_
        refine jg_A (pc' := 245) rfl rfl (fun _ _ _ => rfl) ?_
        refine jg_getO (pc' := 248) (k := 1) rfl h0 (by decide) rfl rfl ?_
        refine jg_A (pc' := 249) rfl rfl (fun _ _ _ => rfl) ?_
        refine jg_calX (M1 := mm_X0_sideOfToken) (hy := 1) (pc' := 252) rfl jm_X0_sideOfToken (by decide) rfl (jg_sX8_0 h0) (by decide) ⟨Nat.le_of_ble_eq_true rfl, rfl⟩ (Nat.le_of_ble_eq_true rfl) rfl h (jg_kI (fun z103 m102 h => ?_))
        refine jg_A (pc' := 254) rfl rfl (fun _ _ _ => rfl) ?_
        refine jg_A (pc' := 256) rfl rfl (fun _ _ _ => rfl) ?_
        refine jg_calS (M1 := mm_X8_actionBySide) (hy := 0) (pc' := 259) rfl (Or.inl rfl) jm_X8_actionBySide (by decide) rfl ⟨Nat.le_of_ble_eq_true rfl, rfl⟩ (Nat.le_of_ble_eq_true rfl) rfl h (jg_kI (fun z105 m104 h => ?_))
        obtain ⟨hg, h⟩ := h
        refine jg_iast (pc' := 260) rfl (jg_sX8_2 h0) hg rfl (fun m106 hm106 => ?_)
        have h := h m106 hm106
        exact jg_vret rfl rfl h
      · have h := jg_f h (show ¬ (jg_wr x9 ≤ jg_wr x8) from hc)
        refine jg_A (pc' := 225) rfl rfl (fun _ _ _ => rfl) ?_
        refine jg_getO (pc' := 228) (k := 20) rfl h0 (by decide) rfl rfl ?_
        refine jg_A (pc' := 229) rfl rfl (fun _ _ _ => rfl) ?_
        refine jg_A (pc' := 232) rfl rfl (fun _ _ _ => rfl) ?_
        refine jg_A (pc' := 234) rfl rfl (fun _ _ _ => rfl) ?_
        refine jg_iadd (pc' := 235) rfl rfl ?_
        obtain ⟨hg, h⟩ := h
        refine jg_iast (pc' := 236) rfl (jg_sX8_2 h0) hg rfl (fun m107 hm107 => ?_)
        have h := h m107 hm107
        refine jg_goto rfl ?_
        exact jg_vret rfl rfl h
    · have h := jg_f h (show ¬ (jg_wr x8 ≤ jg_wr x9) from hc)
      exact h
set_option maxRecDepth 100000 in
set_option maxHeartbeats 4000000 in
theorem jb_X8_decide_164 {w : Nat} {a0 : Nat} {u1 : Value} {u2 : Value} {x3 : Int} {u4 : Value} {x5 : Int} {u6 : Value} {u7 : Value} {u8 : Value} {u9 : Value} {σ : jg_M} {Q : jg_M → Prop} (h0 : jg_sh a0 = (8, 0)) (h : ((0 : Int) ≤ (jg_wr x3) ∧ (jg_wr x3) < (384 : Int)) ∧ ∀ m101 : jg_M, m101 = jg_sI σ (a0 + 20) (jg_wr x3) (1000 + x5) → Q m101) : jg_GV w 3 mm_X8_decide 164 [.ref a0, u1, u2, .int (.ofInt x3), u4, .int (.ofInt x5), u6, u7, u8, u9] σ Q := by
  show jg_G w 3 mm_X8_decide 164 [.ref a0, u1, u2, .int (.ofInt x3), u4, .int (.ofInt x5), u6, u7, u8, u9] [] σ (jg_QV Q)
  refine jg_A (pc' := 165) rfl rfl (fun _ _ _ => rfl) ?_
  refine jg_getO (pc' := 168) (k := 20) rfl h0 (by decide) rfl rfl ?_
  refine jg_A (pc' := 169) rfl rfl (fun _ _ _ => rfl) ?_
  refine jg_A (pc' := 172) rfl rfl (fun _ _ _ => rfl) ?_
  refine jg_A (pc' := 174) rfl rfl (fun _ _ _ => rfl) ?_
  refine jg_iadd (pc' := 175) rfl rfl ?_
  obtain ⟨hg, h⟩ := h
  refine jg_iast (pc' := 176) rfl (jg_sX8_2 h0) hg rfl (fun m101 hm101 => ?_)
  have h := h m101 hm101
  exact jg_vret rfl rfl h
set_option maxRecDepth 100000 in
set_option maxHeartbeats 4000000 in
theorem jb_X8_decide_202 {w : Nat} {a0 : Nat} {u1 : Value} {u2 : Value} {x3 : Int} {u4 : Value} {u5 : Value} {u6 : Value} {x7 : Int} {u8 : Value} {u9 : Value} {σ : jg_M} {Q : jg_M → Prop} (h0 : jg_sh a0 = (8, 0)) (h : ((0 : Int) ≤ (jg_wr x3) ∧ (jg_wr x3) < (384 : Int)) ∧ ∀ m101 : jg_M, m101 = jg_sI σ (a0 + 20) (jg_wr x3) (2000 + x7) → Q m101) : jg_GV w 3 mm_X8_decide 202 [.ref a0, u1, u2, .int (.ofInt x3), u4, u5, u6, .int (.ofInt x7), u8, u9] σ Q := by
  show jg_G w 3 mm_X8_decide 202 [.ref a0, u1, u2, .int (.ofInt x3), u4, u5, u6, .int (.ofInt x7), u8, u9] [] σ (jg_QV Q)
  refine jg_A (pc' := 203) rfl rfl (fun _ _ _ => rfl) ?_
  refine jg_getO (pc' := 206) (k := 20) rfl h0 (by decide) rfl rfl ?_
  refine jg_A (pc' := 207) rfl rfl (fun _ _ _ => rfl) ?_
  refine jg_A (pc' := 210) rfl rfl (fun _ _ _ => rfl) ?_
  refine jg_A (pc' := 212) rfl rfl (fun _ _ _ => rfl) ?_
  refine jg_iadd (pc' := 213) rfl rfl ?_
  obtain ⟨hg, h⟩ := h
  refine jg_iast (pc' := 214) rfl (jg_sX8_2 h0) hg rfl (fun m101 hm101 => ?_)
  have h := h m101 hm101
  refine jg_goto rfl ?_
  exact jg_vret rfl rfl h
set_option maxRecDepth 100000 in
set_option maxHeartbeats 4000000 in
theorem jb_X8_actionBySide_0 {w : Nat} {x0 : Int} {x1 : Int} {x2 : Int} {σ : jg_M} {Q : Int → jg_M → Prop} (h : (if jg_wr x0 = 0 then Q (2000 + x2) σ else (if jg_wr x0 = 1 then Q (1000 + x1) σ else Q 0 σ))) : jg_CI w 0 mm_X8_actionBySide [.int (.ofInt x0), .int (.ofInt x1), .int (.ofInt x2)] σ Q := by
  show jg_G w 0 mm_X8_actionBySide 0 [.int (.ofInt x0), .int (.ofInt x1), .int (.ofInt x2)] [] σ (jg_QI Q)
  refine jg_A (pc' := 1) rfl rfl (fun _ _ _ => rfl) ?_
  refine jg_ifne (pc' := 4) rfl rfl (fun hc => ?_) (fun hc => ?_)
  · have h := jg_t h (show jg_wr x0 = 0 from hc)
    refine jg_A (pc' := 7) rfl rfl (fun _ _ _ => rfl) ?_
    refine jg_A (pc' := 8) rfl rfl (fun _ _ _ => rfl) ?_
    refine jg_iadd (pc' := 9) rfl rfl ?_
    exact jg_iret rfl rfl h
  · have h := jg_f h (show ¬ (jg_wr x0 = 0) from hc)
    refine jg_A (pc' := 11) rfl rfl (fun _ _ _ => rfl) ?_
    refine jg_A (pc' := 12) rfl rfl (fun _ _ _ => rfl) ?_
    refine jg_cne (pc' := 15) rfl rfl (fun hc => ?_) (fun hc => ?_)
    · have h := jg_t h (show jg_wr x0 = 1 from hc)
      refine jg_A (pc' := 18) rfl rfl (fun _ _ _ => rfl) ?_
      refine jg_A (pc' := 19) rfl rfl (fun _ _ _ => rfl) ?_
      refine jg_iadd (pc' := 20) rfl rfl ?_
      refine jg_goto rfl ?_
      exact jg_iret rfl rfl h
    · have h := jg_f h (show ¬ (jg_wr x0 = 1) from hc)
      refine jg_A (pc' := 24) rfl rfl (fun _ _ _ => rfl) ?_
      exact jg_iret rfl rfl h
set_option maxRecDepth 100000 in
set_option maxHeartbeats 4000000 in
theorem jb_X8_leastOf_0 {w : Nat} {x0 : Int} {σ : jg_M} {Q : Int → jg_M → Prop} (h : jg_CI w 0 mm_J6_bitCount_0f7a4 [.int (.ofInt ((jg_and x0 (-x0)) - 1))] σ (fun (z102 : Int) (m101 : jg_M) => Q z102 m101)) : jg_CI w 1 mm_X8_leastOf [.int (.ofInt x0)] σ Q := by
  show jg_G w 1 mm_X8_leastOf 0 [.int (.ofInt x0)] [] σ (jg_QI Q)
  refine jg_A (pc' := 1) rfl rfl (fun _ _ _ => rfl) ?_
  refine jg_A (pc' := 2) rfl rfl (fun _ _ _ => rfl) ?_
  refine jg_ineg (pc' := 3) rfl rfl ?_
  refine jg_iand (pc' := 4) rfl rfl ?_
  refine jg_A (pc' := 5) rfl rfl (fun _ _ _ => rfl) ?_
  refine jg_isub (pc' := 6) rfl rfl ?_
  refine jg_calS (M1 := mm_J6_bitCount_0f7a4) (hy := 0) (pc' := 9) rfl (Or.inl rfl) jm_J6_bitCount_0f7a4 (by decide) rfl ⟨Nat.le_of_ble_eq_true rfl, rfl⟩ (Nat.le_of_ble_eq_true rfl) rfl h (jg_kI (fun z102 m101 h => ?_))
  exact jg_iret rfl rfl h
set_option maxRecDepth 100000 in
set_option maxHeartbeats 4000000 in
theorem jb_X8_actionFor_0 {w : Nat} {a0 : Nat} {x1 : Int} {x2 : Int} {σ : jg_M} {Q : Int → jg_M → Prop} (h0 : jg_sh a0 = (8, 0)) (h : jg_CI w 0 mm_X7_has [.ref (a0 + 10), .int (.ofInt x1)] σ (fun (z102 : Int) (m101 : jg_M) => (if jg_wr z102 = 0 then Q 0 m101 else (if jg_wr x2 < 0 then Q 0 m101 else (if jg_wr x2 < 8 then ((0 : Int) ≤ jg_wr ((x1 * 8) + x2) ∧ jg_wr ((x1 * 8) + x2) < (384 : Int)) ∧ Q (m101.1 (a0 + 20) (jg_wr ((x1 * 8) + x2))) m101 else Q 0 m101))))) : jg_CI w 1 mm_X8_actionFor [.ref a0, .int (.ofInt x1), .int (.ofInt x2)] σ Q := by
  show jg_G w 1 mm_X8_actionFor 0 [.ref a0, .int (.ofInt x1), .int (.ofInt x2)] [] σ (jg_QI Q)
  refine jg_A (pc' := 1) rfl rfl (fun _ _ _ => rfl) ?_
  refine jg_getO (pc' := 4) (k := 10) rfl h0 (by decide) rfl rfl ?_
  refine jg_A (pc' := 5) rfl rfl (fun _ _ _ => rfl) ?_
  refine jg_calX (M1 := mm_X7_has) (hy := 0) (pc' := 8) rfl jm_X7_has (by decide) rfl (jg_sX8_1 h0) (by decide) ⟨Nat.le_of_ble_eq_true rfl, rfl⟩ (Nat.le_of_ble_eq_true rfl) rfl h (jg_kI (fun z102 m101 h => ?_))
  refine jg_ifeq (pc' := 11) rfl rfl (fun hc => ?_) (fun hc => ?_)
  · have h := jg_t h (show jg_wr z102 = 0 from hc)
    refine jg_A (pc' := 22) rfl rfl (fun _ _ _ => rfl) ?_
    exact jg_iret rfl rfl h
  · have h := jg_f h (show ¬ (jg_wr z102 = 0) from hc)
    refine jg_A (pc' := 12) rfl rfl (fun _ _ _ => rfl) ?_
    refine jg_iflt (pc' := 15) rfl rfl (fun hc => ?_) (fun hc => ?_)
    · have h := jg_t h (show jg_wr x2 < 0 from hc)
      refine jg_A (pc' := 22) rfl rfl (fun _ _ _ => rfl) ?_
      exact jg_iret rfl rfl h
    · have h := jg_f h (show ¬ (jg_wr x2 < 0) from hc)
      refine jg_A (pc' := 16) rfl rfl (fun _ _ _ => rfl) ?_
      refine jg_A (pc' := 18) rfl rfl (fun _ _ _ => rfl) ?_
      refine jg_clt (pc' := 21) rfl rfl (fun hc => ?_) (fun hc => ?_)
      · have h := jg_t h (show jg_wr x2 < 8 from hc)
        refine jg_A (pc' := 24) rfl rfl (fun _ _ _ => rfl) ?_
        refine jg_getO (pc' := 27) (k := 20) rfl h0 (by decide) rfl rfl ?_
        refine jg_A (pc' := 28) rfl rfl (fun _ _ _ => rfl) ?_
        refine jg_A (pc' := 30) rfl rfl (fun _ _ _ => rfl) ?_
        refine jg_imul (pc' := 31) rfl rfl ?_
        refine jg_A (pc' := 32) rfl rfl (fun _ _ _ => rfl) ?_
        refine jg_iadd (pc' := 33) rfl rfl ?_
        obtain ⟨hg, h⟩ := h
        refine jg_iald (pc' := 34) rfl (jg_sX8_2 h0) hg rfl ?_
        exact jg_iret rfl rfl h
      · have h := jg_f h (show ¬ (jg_wr x2 < 8) from hc)
        refine jg_A (pc' := 22) rfl rfl (fun _ _ _ => rfl) ?_
        exact jg_iret rfl rfl h
set_option maxRecDepth 100000 in
set_option maxHeartbeats 4000000 in
theorem jb_X8_actionsIn_0 {w : Nat} {a0 : Nat} {x1 : Int} {σ : jg_M} {Q : Int → jg_M → Prop} (h0 : jg_sh a0 = (8, 0)) (h : jg_GI w 2 mm_X8_actionsIn 4 [.ref a0, .int (.ofInt x1), .int (.ofInt 0), .int (.ofInt 0)] σ Q) : jg_CI w 2 mm_X8_actionsIn [.ref a0, .int (.ofInt x1)] σ Q := by
  show jg_G w 2 mm_X8_actionsIn 0 [.ref a0, .int (.ofInt x1), mj_U, mj_U] [] σ (jg_QI Q)
  refine jg_A (pc' := 1) rfl rfl (fun _ _ _ => rfl) ?_
  refine jg_A (pc' := 2) (ls' := [.ref a0, .int (.ofInt x1), .int (.ofInt 0), mj_U]) rfl rfl (fun _ _ _ => rfl) ?_
  refine jg_A (pc' := 3) rfl rfl (fun _ _ _ => rfl) ?_
  refine jg_A (pc' := 4) (ls' := [.ref a0, .int (.ofInt x1), .int (.ofInt 0), .int (.ofInt 0)]) rfl rfl (fun _ _ _ => rfl) ?_
  exact h
set_option maxRecDepth 100000 in
set_option maxHeartbeats 4000000 in
theorem jb_X8_actionsIn_4 {w : Nat} {a0 : Nat} {x1 : Int} {x2 : Int} {x3 : Int} {σ : jg_M} {Q : Int → jg_M → Prop} (h0 : jg_sh a0 = (8, 0)) (h : (if 8 ≤ jg_wr x3 then Q x2 σ else jg_CI w 1 mm_X8_actionFor [.ref a0, .int (.ofInt x1), .int (.ofInt x3)] σ (fun (z102 : Int) (m101 : jg_M) => (if jg_wr z102 = 0 then jg_GI w 2 mm_X8_actionsIn 4 [.ref a0, .int (.ofInt x1), .int (.ofInt x2), .int (.ofInt (x3 + 1))] m101 Q else jg_GI w 2 mm_X8_actionsIn 4 [.ref a0, .int (.ofInt x1), .int (.ofInt (x2 + 1)), .int (.ofInt (x3 + 1))] m101 Q)))) : jg_GI w 2 mm_X8_actionsIn 4 [.ref a0, .int (.ofInt x1), .int (.ofInt x2), .int (.ofInt x3)] σ Q := by
  show jg_G w 2 mm_X8_actionsIn 4 [.ref a0, .int (.ofInt x1), .int (.ofInt x2), .int (.ofInt x3)] [] σ (jg_QI Q)
  refine jg_A (pc' := 5) rfl rfl (fun _ _ _ => rfl) ?_
  refine jg_A (pc' := 7) rfl rfl (fun _ _ _ => rfl) ?_
  refine jg_cge (pc' := 10) rfl rfl (fun hc => ?_) (fun hc => ?_)
  · have h := jg_t h (show 8 ≤ jg_wr x3 from hc)
    refine jg_A (pc' := 29) rfl rfl (fun _ _ _ => rfl) ?_
    exact jg_iret rfl rfl h
  · have h := jg_f h (show ¬ (8 ≤ jg_wr x3) from hc)
    refine jg_A (pc' := 11) rfl rfl (fun _ _ _ => rfl) ?_
    refine jg_A (pc' := 12) rfl rfl (fun _ _ _ => rfl) ?_
    refine jg_A (pc' := 13) rfl rfl (fun _ _ _ => rfl) ?_
    refine jg_calX (M1 := mm_X8_actionFor) (hy := 1) (pc' := 16) rfl jm_X8_actionFor (by decide) rfl h0 (by decide) ⟨Nat.le_of_ble_eq_true rfl, rfl⟩ (Nat.le_of_ble_eq_true rfl) rfl h (jg_kI (fun z102 m101 h => ?_))
    refine jg_ifeq (pc' := 19) rfl rfl (fun hc => ?_) (fun hc => ?_)
    · have h := jg_t h (show jg_wr z102 = 0 from hc)
      refine jg_iinc (pc' := 25) (ls' := [.ref a0, .int (.ofInt x1), .int (.ofInt x2), .int (.ofInt (x3 + 1))]) rfl rfl rfl rfl ?_
      refine jg_goto rfl ?_
      exact h
    · have h := jg_f h (show ¬ (jg_wr z102 = 0) from hc)
      refine jg_iinc (pc' := 22) (ls' := [.ref a0, .int (.ofInt x1), .int (.ofInt (x2 + 1)), .int (.ofInt x3)]) rfl rfl rfl rfl ?_
      refine jg_iinc (pc' := 25) (ls' := [.ref a0, .int (.ofInt x1), .int (.ofInt (x2 + 1)), .int (.ofInt (x3 + 1))]) rfl rfl rfl rfl ?_
      refine jg_goto rfl ?_
      exact h
set_option maxRecDepth 100000 in
set_option maxHeartbeats 4000000 in
theorem jb_X8_actionsInAll_0 {w : Nat} {a0 : Nat} {σ : jg_M} {Q : Int → jg_M → Prop} (h0 : jg_sh a0 = (8, 0)) (h : jg_GI w 3 mm_X8_actionsInAll 4 [.ref a0, .int (.ofInt 0), .int (.ofInt 0)] σ Q) : jg_CI w 3 mm_X8_actionsInAll [.ref a0] σ Q := by
  show jg_G w 3 mm_X8_actionsInAll 0 [.ref a0, mj_U, mj_U] [] σ (jg_QI Q)
  refine jg_A (pc' := 1) rfl rfl (fun _ _ _ => rfl) ?_
  refine jg_A (pc' := 2) (ls' := [.ref a0, .int (.ofInt 0), mj_U]) rfl rfl (fun _ _ _ => rfl) ?_
  refine jg_A (pc' := 3) rfl rfl (fun _ _ _ => rfl) ?_
  refine jg_A (pc' := 4) (ls' := [.ref a0, .int (.ofInt 0), .int (.ofInt 0)]) rfl rfl (fun _ _ _ => rfl) ?_
  exact h
set_option maxRecDepth 100000 in
set_option maxHeartbeats 4000000 in
theorem jb_X8_actionsInAll_4 {w : Nat} {a0 : Nat} {x1 : Int} {x2 : Int} {σ : jg_M} {Q : Int → jg_M → Prop} (h0 : jg_sh a0 = (8, 0)) (h : (if jg_wr (σ.1 (a0 + 10) 0) ≤ jg_wr x2 then Q x1 σ else jg_CI w 2 mm_X8_actionsIn [.ref a0, .int (.ofInt x2)] σ (fun (z102 : Int) (m101 : jg_M) => ∀ t103 : Int, t103 = (x1 + z102) → jg_GI w 3 mm_X8_actionsInAll 4 [.ref a0, .int (.ofInt t103), .int (.ofInt (x2 + 1))] m101 Q))) : jg_GI w 3 mm_X8_actionsInAll 4 [.ref a0, .int (.ofInt x1), .int (.ofInt x2)] σ Q := by
  show jg_G w 3 mm_X8_actionsInAll 4 [.ref a0, .int (.ofInt x1), .int (.ofInt x2)] [] σ (jg_QI Q)
  refine jg_A (pc' := 5) rfl rfl (fun _ _ _ => rfl) ?_
  refine jg_A (pc' := 6) rfl rfl (fun _ _ _ => rfl) ?_
  refine jg_getO (pc' := 9) (k := 10) rfl h0 (by decide) rfl rfl ?_
  refine jg_getI (pc' := 12) (bi := 0) rfl (jg_sX8_1 h0) (by decide) (Or.inl rfl) rfl rfl ?_
  refine jg_cge (pc' := 15) rfl rfl (fun hc => ?_) (fun hc => ?_)
  · have h := jg_t h (show jg_wr (σ.1 (a0 + 10) 0) ≤ jg_wr x2 from hc)
    refine jg_A (pc' := 30) rfl rfl (fun _ _ _ => rfl) ?_
    exact jg_iret rfl rfl h
  · have h := jg_f h (show ¬ (jg_wr (σ.1 (a0 + 10) 0) ≤ jg_wr x2) from hc)
    refine jg_A (pc' := 16) rfl rfl (fun _ _ _ => rfl) ?_
    refine jg_A (pc' := 17) rfl rfl (fun _ _ _ => rfl) ?_
    refine jg_A (pc' := 18) rfl rfl (fun _ _ _ => rfl) ?_
    refine jg_calX (M1 := mm_X8_actionsIn) (hy := 2) (pc' := 21) rfl jm_X8_actionsIn (by decide) rfl h0 (by decide) ⟨Nat.le_of_ble_eq_true rfl, rfl⟩ (Nat.le_of_ble_eq_true rfl) rfl h (jg_kI (fun z102 m101 h => ?_))
    refine jg_iadd (pc' := 22) rfl rfl ?_
    refine jg_nm (F := fun t103 => jg_G w 3 mm_X8_actionsInAll 22 [.ref a0, .int (.ofInt x1), .int (.ofInt x2)] [.int (.ofInt t103)] m101 (jg_QI Q)) (x1 + z102) (fun t103 ht103 => ?_)
    have h := h t103 ht103
    refine jg_A (pc' := 23) (ls' := [.ref a0, .int (.ofInt t103), .int (.ofInt x2)]) rfl rfl (fun _ _ _ => rfl) ?_
    refine jg_iinc (pc' := 26) (ls' := [.ref a0, .int (.ofInt t103), .int (.ofInt (x2 + 1))]) rfl rfl rfl rfl ?_
    refine jg_goto rfl ?_
    exact h
set_option maxRecDepth 100000 in
set_option maxHeartbeats 4000000 in
theorem jb_X8_conflictCount_0 {w : Nat} {a0 : Nat} {σ : jg_M} {Q : Int → jg_M → Prop} (h0 : jg_sh a0 = (8, 0)) (h : jg_GI w 1 mm_X8_conflictCount 4 [.ref a0, .int (.ofInt 0), .int (.ofInt 0)] σ Q) : jg_CI w 1 mm_X8_conflictCount [.ref a0] σ Q := by
  show jg_G w 1 mm_X8_conflictCount 0 [.ref a0, mj_U, mj_U] [] σ (jg_QI Q)
  refine jg_A (pc' := 1) rfl rfl (fun _ _ _ => rfl) ?_
  refine jg_A (pc' := 2) (ls' := [.ref a0, .int (.ofInt 0), mj_U]) rfl rfl (fun _ _ _ => rfl) ?_
  refine jg_A (pc' := 3) rfl rfl (fun _ _ _ => rfl) ?_
  refine jg_A (pc' := 4) (ls' := [.ref a0, .int (.ofInt 0), .int (.ofInt 0)]) rfl rfl (fun _ _ _ => rfl) ?_
  exact h
set_option maxRecDepth 100000 in
set_option maxHeartbeats 4000000 in
theorem jb_X8_conflictCount_4 {w : Nat} {a0 : Nat} {x1 : Int} {x2 : Int} {σ : jg_M} {Q : Int → jg_M → Prop} (h0 : jg_sh a0 = (8, 0)) (h : (if jg_wr ((σ.1 (a0 + 10) 0) * 8) ≤ jg_wr x2 then Q x1 σ else (if 384 ≤ jg_wr x2 then Q x1 σ else ((0 : Int) ≤ jg_wr x2 ∧ jg_wr x2 < (384 : Int)) ∧ jg_CI w 0 mm_J6_bitCount_0f7a4 [.int (.ofInt (σ.1 (a0 + 21) (jg_wr x2)))] σ (fun (z102 : Int) (m101 : jg_M) => ∀ t103 : Int, t103 = (x1 + z102) → jg_GI w 1 mm_X8_conflictCount 4 [.ref a0, .int (.ofInt t103), .int (.ofInt (x2 + 1))] m101 Q)))) : jg_GI w 1 mm_X8_conflictCount 4 [.ref a0, .int (.ofInt x1), .int (.ofInt x2)] σ Q := by
  show jg_G w 1 mm_X8_conflictCount 4 [.ref a0, .int (.ofInt x1), .int (.ofInt x2)] [] σ (jg_QI Q)
  refine jg_A (pc' := 5) rfl rfl (fun _ _ _ => rfl) ?_
  refine jg_A (pc' := 6) rfl rfl (fun _ _ _ => rfl) ?_
  refine jg_getO (pc' := 9) (k := 10) rfl h0 (by decide) rfl rfl ?_
  refine jg_getI (pc' := 12) (bi := 0) rfl (jg_sX8_1 h0) (by decide) (Or.inl rfl) rfl rfl ?_
  refine jg_A (pc' := 14) rfl rfl (fun _ _ _ => rfl) ?_
  refine jg_imul (pc' := 15) rfl rfl ?_
  refine jg_cge (pc' := 18) rfl rfl (fun hc => ?_) (fun hc => ?_)
  · have h := jg_t h (show jg_wr ((σ.1 (a0 + 10) 0) * 8) ≤ jg_wr x2 from hc)
    refine jg_A (pc' := 46) rfl rfl (fun _ _ _ => rfl) ?_
    exact jg_iret rfl rfl h
  · have h := jg_f h (show ¬ (jg_wr ((σ.1 (a0 + 10) 0) * 8) ≤ jg_wr x2) from hc)
    refine jg_A (pc' := 19) rfl rfl (fun _ _ _ => rfl) ?_
    refine jg_A (pc' := 20) rfl rfl (fun _ _ _ => rfl) ?_
    refine jg_getO (pc' := 23) (k := 21) rfl h0 (by decide) rfl rfl ?_
    refine jg_alen (pc' := 24) (ni := 384) rfl (jg_sX8_3 h0) (by decide) rfl rfl ?_
    refine jg_cge (pc' := 27) rfl rfl (fun hc => ?_) (fun hc => ?_)
    · have h := jg_t h (show 384 ≤ jg_wr x2 from hc)
      refine jg_A (pc' := 46) rfl rfl (fun _ _ _ => rfl) ?_
      exact jg_iret rfl rfl h
    · have h := jg_f h (show ¬ (384 ≤ jg_wr x2) from hc)
      refine jg_A (pc' := 28) rfl rfl (fun _ _ _ => rfl) ?_
      refine jg_A (pc' := 29) rfl rfl (fun _ _ _ => rfl) ?_
      refine jg_getO (pc' := 32) (k := 21) rfl h0 (by decide) rfl rfl ?_
      refine jg_A (pc' := 33) rfl rfl (fun _ _ _ => rfl) ?_
      obtain ⟨hg, h⟩ := h
      refine jg_iald (pc' := 34) rfl (jg_sX8_3 h0) hg rfl ?_
      refine jg_calS (M1 := mm_J6_bitCount_0f7a4) (hy := 0) (pc' := 37) rfl (Or.inl rfl) jm_J6_bitCount_0f7a4 (by decide) rfl ⟨Nat.le_of_ble_eq_true rfl, rfl⟩ (Nat.le_of_ble_eq_true rfl) rfl h (jg_kI (fun z102 m101 h => ?_))
      refine jg_iadd (pc' := 38) rfl rfl ?_
      refine jg_nm (F := fun t103 => jg_G w 1 mm_X8_conflictCount 38 [.ref a0, .int (.ofInt x1), .int (.ofInt x2)] [.int (.ofInt t103)] m101 (jg_QI Q)) (x1 + z102) (fun t103 ht103 => ?_)
      have h := h t103 ht103
      refine jg_A (pc' := 39) (ls' := [.ref a0, .int (.ofInt t103), .int (.ofInt x2)]) rfl rfl (fun _ _ _ => rfl) ?_
      refine jg_iinc (pc' := 42) (ls' := [.ref a0, .int (.ofInt t103), .int (.ofInt (x2 + 1))]) rfl rfl rfl rfl ?_
      refine jg_goto rfl ?_
      exact h
set_option maxRecDepth 100000 in
set_option maxHeartbeats 4000000 in
theorem jb_X8_cellOfConflict_0 {w : Nat} {a0 : Nat} {x1 : Int} {σ : jg_M} {Q : Int → jg_M → Prop} (h0 : jg_sh a0 = (8, 0)) (h : (if 0 ≤ jg_wr x1 then jg_GI w 1 mm_X8_cellOfConflict 10 [.ref a0, .int (.ofInt x1), .int (.ofInt 0), .int (.ofInt 0)] σ Q else Q (-1) σ)) : jg_CI w 1 mm_X8_cellOfConflict [.ref a0, .int (.ofInt x1)] σ Q := by
  show jg_G w 1 mm_X8_cellOfConflict 0 [.ref a0, .int (.ofInt x1), mj_U, mj_U] [] σ (jg_QI Q)
  refine jg_A (pc' := 1) rfl rfl (fun _ _ _ => rfl) ?_
  refine jg_ifge (pc' := 4) rfl rfl (fun hc => ?_) (fun hc => ?_)
  · have h := jg_t h (show 0 ≤ jg_wr x1 from hc)
    refine jg_A (pc' := 7) rfl rfl (fun _ _ _ => rfl) ?_
    refine jg_A (pc' := 8) (ls' := [.ref a0, .int (.ofInt x1), .int (.ofInt 0), mj_U]) rfl rfl (fun _ _ _ => rfl) ?_
    refine jg_A (pc' := 9) rfl rfl (fun _ _ _ => rfl) ?_
    refine jg_A (pc' := 10) (ls' := [.ref a0, .int (.ofInt x1), .int (.ofInt 0), .int (.ofInt 0)]) rfl rfl (fun _ _ _ => rfl) ?_
    exact h
  · have h := jg_f h (show ¬ (0 ≤ jg_wr x1) from hc)
    refine jg_A (pc' := 5) rfl rfl (fun _ _ _ => rfl) ?_
    exact jg_iret rfl rfl h
set_option maxRecDepth 100000 in
set_option maxHeartbeats 4000000 in
theorem jb_X8_cellOfConflict_10 {w : Nat} {a0 : Nat} {x1 : Int} {x2 : Int} {x3 : Int} {σ : jg_M} {Q : Int → jg_M → Prop} (h0 : jg_sh a0 = (8, 0)) (h : (if jg_wr ((σ.1 (a0 + 10) 0) * 8) ≤ jg_wr x3 then Q (-1) σ else (if 384 ≤ jg_wr x3 then Q (-1) σ else ((0 : Int) ≤ jg_wr x3 ∧ jg_wr x3 < (384 : Int)) ∧ jg_CI w 0 mm_J6_bitCount_0f7a4 [.int (.ofInt (σ.1 (a0 + 21) (jg_wr x3)))] σ (fun (z102 : Int) (m101 : jg_M) => ∀ t103 : Int, t103 = (x2 + z102) → (if jg_wr t103 ≤ jg_wr x1 then jg_GI w 1 mm_X8_cellOfConflict 10 [.ref a0, .int (.ofInt x1), .int (.ofInt t103), .int (.ofInt (x3 + 1))] m101 Q else Q x3 m101))))) : jg_GI w 1 mm_X8_cellOfConflict 10 [.ref a0, .int (.ofInt x1), .int (.ofInt x2), .int (.ofInt x3)] σ Q := by
  show jg_G w 1 mm_X8_cellOfConflict 10 [.ref a0, .int (.ofInt x1), .int (.ofInt x2), .int (.ofInt x3)] [] σ (jg_QI Q)
  refine jg_A (pc' := 11) rfl rfl (fun _ _ _ => rfl) ?_
  refine jg_A (pc' := 12) rfl rfl (fun _ _ _ => rfl) ?_
  refine jg_getO (pc' := 15) (k := 10) rfl h0 (by decide) rfl rfl ?_
  refine jg_getI (pc' := 18) (bi := 0) rfl (jg_sX8_1 h0) (by decide) (Or.inl rfl) rfl rfl ?_
  refine jg_A (pc' := 20) rfl rfl (fun _ _ _ => rfl) ?_
  refine jg_imul (pc' := 21) rfl rfl ?_
  refine jg_cge (pc' := 24) rfl rfl (fun hc => ?_) (fun hc => ?_)
  · have h := jg_t h (show jg_wr ((σ.1 (a0 + 10) 0) * 8) ≤ jg_wr x3 from hc)
    refine jg_A (pc' := 59) rfl rfl (fun _ _ _ => rfl) ?_
    exact jg_iret rfl rfl h
  · have h := jg_f h (show ¬ (jg_wr ((σ.1 (a0 + 10) 0) * 8) ≤ jg_wr x3) from hc)
    refine jg_A (pc' := 25) rfl rfl (fun _ _ _ => rfl) ?_
    refine jg_A (pc' := 26) rfl rfl (fun _ _ _ => rfl) ?_
    refine jg_getO (pc' := 29) (k := 21) rfl h0 (by decide) rfl rfl ?_
    refine jg_alen (pc' := 30) (ni := 384) rfl (jg_sX8_3 h0) (by decide) rfl rfl ?_
    refine jg_cge (pc' := 33) rfl rfl (fun hc => ?_) (fun hc => ?_)
    · have h := jg_t h (show 384 ≤ jg_wr x3 from hc)
      refine jg_A (pc' := 59) rfl rfl (fun _ _ _ => rfl) ?_
      exact jg_iret rfl rfl h
    · have h := jg_f h (show ¬ (384 ≤ jg_wr x3) from hc)
      refine jg_A (pc' := 34) rfl rfl (fun _ _ _ => rfl) ?_
      refine jg_A (pc' := 35) rfl rfl (fun _ _ _ => rfl) ?_
      refine jg_getO (pc' := 38) (k := 21) rfl h0 (by decide) rfl rfl ?_
      refine jg_A (pc' := 39) rfl rfl (fun _ _ _ => rfl) ?_
      obtain ⟨hg, h⟩ := h
      refine jg_iald (pc' := 40) rfl (jg_sX8_3 h0) hg rfl ?_
      refine jg_calS (M1 := mm_J6_bitCount_0f7a4) (hy := 0) (pc' := 43) rfl (Or.inl rfl) jm_J6_bitCount_0f7a4 (by decide) rfl ⟨Nat.le_of_ble_eq_true rfl, rfl⟩ (Nat.le_of_ble_eq_true rfl) rfl h (jg_kI (fun z102 m101 h => ?_))
      refine jg_iadd (pc' := 44) rfl rfl ?_
      refine jg_nm (F := fun t103 => jg_G w 1 mm_X8_cellOfConflict 44 [.ref a0, .int (.ofInt x1), .int (.ofInt x2), .int (.ofInt x3)] [.int (.ofInt t103)] m101 (jg_QI Q)) (x2 + z102) (fun t103 ht103 => ?_)
      have h := h t103 ht103
      refine jg_A (pc' := 45) (ls' := [.ref a0, .int (.ofInt x1), .int (.ofInt t103), .int (.ofInt x3)]) rfl rfl (fun _ _ _ => rfl) ?_
      refine jg_A (pc' := 46) rfl rfl (fun _ _ _ => rfl) ?_
      refine jg_A (pc' := 47) rfl rfl (fun _ _ _ => rfl) ?_
      refine jg_cge (pc' := 50) rfl rfl (fun hc => ?_) (fun hc => ?_)
      · have h := jg_t h (show jg_wr t103 ≤ jg_wr x1 from hc)
        refine jg_iinc (pc' := 55) (ls' := [.ref a0, .int (.ofInt x1), .int (.ofInt t103), .int (.ofInt (x3 + 1))]) rfl rfl rfl rfl ?_
        refine jg_goto rfl ?_
        exact h
      · have h := jg_f h (show ¬ (jg_wr t103 ≤ jg_wr x1) from hc)
        refine jg_A (pc' := 51) rfl rfl (fun _ _ _ => rfl) ?_
        exact jg_iret rfl rfl h
set_option maxRecDepth 100000 in
set_option maxHeartbeats 4000000 in
theorem jb_X8_ruleOfConflict_0 {w : Nat} {a0 : Nat} {x1 : Int} {x2 : Int} {σ : jg_M} {Q : Int → jg_M → Prop} (h0 : jg_sh a0 = (8, 0)) (h : jg_GI w 1 mm_X8_ruleOfConflict 5 [.ref a0, .int (.ofInt x1), .int (.ofInt x2), .int (.ofInt x1), .int (.ofInt 0)] σ Q) : jg_CI w 1 mm_X8_ruleOfConflict [.ref a0, .int (.ofInt x1), .int (.ofInt x2)] σ Q := by
  show jg_G w 1 mm_X8_ruleOfConflict 0 [.ref a0, .int (.ofInt x1), .int (.ofInt x2), mj_U, mj_U] [] σ (jg_QI Q)
  refine jg_A (pc' := 1) rfl rfl (fun _ _ _ => rfl) ?_
  refine jg_A (pc' := 2) (ls' := [.ref a0, .int (.ofInt x1), .int (.ofInt x2), .int (.ofInt x1), mj_U]) rfl rfl (fun _ _ _ => rfl) ?_
  refine jg_A (pc' := 3) rfl rfl (fun _ _ _ => rfl) ?_
  refine jg_A (pc' := 5) (ls' := [.ref a0, .int (.ofInt x1), .int (.ofInt x2), .int (.ofInt x1), .int (.ofInt 0)]) rfl rfl (fun _ _ _ => rfl) ?_
  exact h
set_option maxRecDepth 100000 in
set_option maxHeartbeats 4000000 in
theorem jb_X8_ruleOfConflict_5 {w : Nat} {a0 : Nat} {u1 : Value} {x2 : Int} {x3 : Int} {x4 : Int} {σ : jg_M} {Q : Int → jg_M → Prop} (h0 : jg_sh a0 = (8, 0)) (h : (if jg_wr x2 ≤ jg_wr x4 then jg_GI w 1 mm_X8_ruleOfConflict 43 [.ref a0, u1, .int (.ofInt x2), .int (.ofInt x3), .int (.ofInt 0)] σ Q else (if 384 ≤ jg_wr x4 then jg_GI w 1 mm_X8_ruleOfConflict 43 [.ref a0, u1, .int (.ofInt x2), .int (.ofInt x3), .int (.ofInt 0)] σ Q else ((0 : Int) ≤ jg_wr x4 ∧ jg_wr x4 < (384 : Int)) ∧ jg_CI w 0 mm_J6_bitCount_0f7a4 [.int (.ofInt (σ.1 (a0 + 21) (jg_wr x4)))] σ (fun (z102 : Int) (m101 : jg_M) => ∀ t103 : Int, t103 = (x3 - z102) → jg_GI w 1 mm_X8_ruleOfConflict 5 [.ref a0, u1, .int (.ofInt x2), .int (.ofInt t103), .int (.ofInt (x4 + 1))] m101 Q)))) : jg_GI w 1 mm_X8_ruleOfConflict 5 [.ref a0, u1, .int (.ofInt x2), .int (.ofInt x3), .int (.ofInt x4)] σ Q := by
  show jg_G w 1 mm_X8_ruleOfConflict 5 [.ref a0, u1, .int (.ofInt x2), .int (.ofInt x3), .int (.ofInt x4)] [] σ (jg_QI Q)
  refine jg_A (pc' := 7) rfl rfl (fun _ _ _ => rfl) ?_
  refine jg_A (pc' := 8) rfl rfl (fun _ _ _ => rfl) ?_
  refine jg_cge (pc' := 11) rfl rfl (fun hc => ?_) (fun hc => ?_)
  · have h := jg_t h (show jg_wr x2 ≤ jg_wr x4 from hc)
    refine jg_A (pc' := 41) rfl rfl (fun _ _ _ => rfl) ?_
    refine jg_A (pc' := 43) (ls' := [.ref a0, u1, .int (.ofInt x2), .int (.ofInt x3), .int (.ofInt 0)]) rfl rfl (fun _ _ _ => rfl) ?_
    exact h
  · have h := jg_f h (show ¬ (jg_wr x2 ≤ jg_wr x4) from hc)
    refine jg_A (pc' := 13) rfl rfl (fun _ _ _ => rfl) ?_
    refine jg_A (pc' := 14) rfl rfl (fun _ _ _ => rfl) ?_
    refine jg_getO (pc' := 17) (k := 21) rfl h0 (by decide) rfl rfl ?_
    refine jg_alen (pc' := 18) (ni := 384) rfl (jg_sX8_3 h0) (by decide) rfl rfl ?_
    refine jg_cge (pc' := 21) rfl rfl (fun hc => ?_) (fun hc => ?_)
    · have h := jg_t h (show 384 ≤ jg_wr x4 from hc)
      refine jg_A (pc' := 41) rfl rfl (fun _ _ _ => rfl) ?_
      refine jg_A (pc' := 43) (ls' := [.ref a0, u1, .int (.ofInt x2), .int (.ofInt x3), .int (.ofInt 0)]) rfl rfl (fun _ _ _ => rfl) ?_
      exact h
    · have h := jg_f h (show ¬ (384 ≤ jg_wr x4) from hc)
      refine jg_A (pc' := 22) rfl rfl (fun _ _ _ => rfl) ?_
      refine jg_A (pc' := 23) rfl rfl (fun _ _ _ => rfl) ?_
      refine jg_getO (pc' := 26) (k := 21) rfl h0 (by decide) rfl rfl ?_
      refine jg_A (pc' := 28) rfl rfl (fun _ _ _ => rfl) ?_
      obtain ⟨hg, h⟩ := h
      refine jg_iald (pc' := 29) rfl (jg_sX8_3 h0) hg rfl ?_
      refine jg_calS (M1 := mm_J6_bitCount_0f7a4) (hy := 0) (pc' := 32) rfl (Or.inl rfl) jm_J6_bitCount_0f7a4 (by decide) rfl ⟨Nat.le_of_ble_eq_true rfl, rfl⟩ (Nat.le_of_ble_eq_true rfl) rfl h (jg_kI (fun z102 m101 h => ?_))
      refine jg_isub (pc' := 33) rfl rfl ?_
      refine jg_nm (F := fun t103 => jg_G w 1 mm_X8_ruleOfConflict 33 [.ref a0, u1, .int (.ofInt x2), .int (.ofInt x3), .int (.ofInt x4)] [.int (.ofInt t103)] m101 (jg_QI Q)) (x3 - z102) (fun t103 ht103 => ?_)
      have h := h t103 ht103
      refine jg_A (pc' := 34) (ls' := [.ref a0, u1, .int (.ofInt x2), .int (.ofInt t103), .int (.ofInt x4)]) rfl rfl (fun _ _ _ => rfl) ?_
      refine jg_iinc (pc' := 37) (ls' := [.ref a0, u1, .int (.ofInt x2), .int (.ofInt t103), .int (.ofInt (x4 + 1))]) rfl rfl rfl rfl ?_
      refine jg_goto rfl ?_
      exact h
set_option maxRecDepth 100000 in
set_option maxHeartbeats 4000000 in
theorem jb_X8_ruleOfConflict_43 {w : Nat} {a0 : Nat} {u1 : Value} {x2 : Int} {x3 : Int} {x4 : Int} {σ : jg_M} {Q : Int → jg_M → Prop} (h0 : jg_sh a0 = (8, 0)) (h : (if jg_wr (σ.1 (a0 + 1) 2) ≤ jg_wr x4 then Q (-1) σ else (if jg_wr x2 < 0 then jg_GI w 1 mm_X8_ruleOfConflict 43 [.ref a0, u1, .int (.ofInt x2), .int (.ofInt x3), .int (.ofInt (x4 + 1))] σ Q else (if 384 ≤ jg_wr x2 then jg_GI w 1 mm_X8_ruleOfConflict 43 [.ref a0, u1, .int (.ofInt x2), .int (.ofInt x3), .int (.ofInt (x4 + 1))] σ Q else ((0 : Int) ≤ jg_wr x2 ∧ jg_wr x2 < (384 : Int)) ∧ jg_CI w 0 mm_X11_inBits [.long (.ofInt (jg_wr (σ.1 (a0 + 21) (jg_wr x2)))), .int (.ofInt x4)] σ (fun (z102 : Int) (m101 : jg_M) => (if jg_wr z102 = 0 then jg_GI w 1 mm_X8_ruleOfConflict 43 [.ref a0, u1, .int (.ofInt x2), .int (.ofInt x3), .int (.ofInt (x4 + 1))] m101 Q else (if jg_wr x3 = 0 then Q x4 m101 else jg_GI w 1 mm_X8_ruleOfConflict 43 [.ref a0, u1, .int (.ofInt x2), .int (.ofInt (x3 + (-1))), .int (.ofInt (x4 + 1))] m101 Q))))))) : jg_GI w 1 mm_X8_ruleOfConflict 43 [.ref a0, u1, .int (.ofInt x2), .int (.ofInt x3), .int (.ofInt x4)] σ Q := by
  show jg_G w 1 mm_X8_ruleOfConflict 43 [.ref a0, u1, .int (.ofInt x2), .int (.ofInt x3), .int (.ofInt x4)] [] σ (jg_QI Q)
  refine jg_A (pc' := 45) rfl rfl (fun _ _ _ => rfl) ?_
  refine jg_A (pc' := 46) rfl rfl (fun _ _ _ => rfl) ?_
  refine jg_getO (pc' := 49) (k := 1) rfl h0 (by decide) rfl rfl ?_
  refine jg_getI (pc' := 52) (bi := 2) rfl (jg_sX8_0 h0) (by decide) (Or.inl rfl) rfl rfl ?_
  refine jg_cge (pc' := 55) rfl rfl (fun hc => ?_) (fun hc => ?_)
  · have h := jg_t h (show jg_wr (σ.1 (a0 + 1) 2) ≤ jg_wr x4 from hc)
    refine jg_A (pc' := 100) rfl rfl (fun _ _ _ => rfl) ?_
    exact jg_iret rfl rfl h
  · have h := jg_f h (show ¬ (jg_wr (σ.1 (a0 + 1) 2) ≤ jg_wr x4) from hc)
    refine jg_A (pc' := 56) rfl rfl (fun _ _ _ => rfl) ?_
    refine jg_iflt (pc' := 59) rfl rfl (fun hc => ?_) (fun hc => ?_)
    · have h := jg_t h (show jg_wr x2 < 0 from hc)
      refine jg_iinc (pc' := 96) (ls' := [.ref a0, u1, .int (.ofInt x2), .int (.ofInt x3), .int (.ofInt (x4 + 1))]) rfl rfl rfl rfl ?_
      refine jg_goto rfl ?_
      exact h
    · have h := jg_f h (show ¬ (jg_wr x2 < 0) from hc)
      refine jg_A (pc' := 60) rfl rfl (fun _ _ _ => rfl) ?_
      refine jg_A (pc' := 61) rfl rfl (fun _ _ _ => rfl) ?_
      refine jg_getO (pc' := 64) (k := 21) rfl h0 (by decide) rfl rfl ?_
      refine jg_alen (pc' := 65) (ni := 384) rfl (jg_sX8_3 h0) (by decide) rfl rfl ?_
      refine jg_cge (pc' := 68) rfl rfl (fun hc => ?_) (fun hc => ?_)
      · have h := jg_t h (show 384 ≤ jg_wr x2 from hc)
        refine jg_iinc (pc' := 96) (ls' := [.ref a0, u1, .int (.ofInt x2), .int (.ofInt x3), .int (.ofInt (x4 + 1))]) rfl rfl rfl rfl ?_
        refine jg_goto rfl ?_
        exact h
      · have h := jg_f h (show ¬ (384 ≤ jg_wr x2) from hc)
        refine jg_A (pc' := 69) rfl rfl (fun _ _ _ => rfl) ?_
        refine jg_getO (pc' := 72) (k := 21) rfl h0 (by decide) rfl rfl ?_
        refine jg_A (pc' := 73) rfl rfl (fun _ _ _ => rfl) ?_
        obtain ⟨hg, h⟩ := h
        refine jg_iald (pc' := 74) rfl (jg_sX8_3 h0) hg rfl ?_
        refine jg_i2l (pc' := 75) rfl rfl ?_
        refine jg_A (pc' := 77) rfl rfl (fun _ _ _ => rfl) ?_
        refine jg_calS (M1 := mm_X11_inBits) (hy := 0) (pc' := 80) rfl (Or.inr rfl) jm_X11_inBits (by decide) rfl ⟨Nat.le_of_ble_eq_true rfl, rfl⟩ (Nat.le_of_ble_eq_true rfl) rfl h (jg_kI (fun z102 m101 h => ?_))
        refine jg_ifeq (pc' := 83) rfl rfl (fun hc => ?_) (fun hc => ?_)
        · have h := jg_t h (show jg_wr z102 = 0 from hc)
          refine jg_iinc (pc' := 96) (ls' := [.ref a0, u1, .int (.ofInt x2), .int (.ofInt x3), .int (.ofInt (x4 + 1))]) rfl rfl rfl rfl ?_
          refine jg_goto rfl ?_
          exact h
        · have h := jg_f h (show ¬ (jg_wr z102 = 0) from hc)
          refine jg_A (pc' := 84) rfl rfl (fun _ _ _ => rfl) ?_
          refine jg_ifne (pc' := 87) rfl rfl (fun hc => ?_) (fun hc => ?_)
          · have h := jg_t h (show jg_wr x3 = 0 from hc)
            refine jg_A (pc' := 89) rfl rfl (fun _ _ _ => rfl) ?_
            exact jg_iret rfl rfl h
          · have h := jg_f h (show ¬ (jg_wr x3 = 0) from hc)
            refine jg_iinc (pc' := 93) (ls' := [.ref a0, u1, .int (.ofInt x2), .int (.ofInt (x3 + (-1))), .int (.ofInt x4)]) rfl rfl rfl rfl ?_
            refine jg_iinc (pc' := 96) (ls' := [.ref a0, u1, .int (.ofInt x2), .int (.ofInt (x3 + (-1))), .int (.ofInt (x4 + 1))]) rfl rfl rfl rfl ?_
            refine jg_goto rfl ?_
            exact h
set_option maxRecDepth 100000 in
set_option maxHeartbeats 4000000 in
theorem jb_X9_blame_0 {w : Nat} {a0 : Nat} {x1 : Int} {x2 : Int} {σ : jg_M} {Q : jg_M → Prop} (h0 : jg_sh a0 = (9, 0)) (h : ∀ m101 : jg_M, m101 = jg_sI σ a0 0 x1 → ∀ m102 : jg_M, m102 = jg_sI m101 a0 1 x2 → Q m102) : jg_CV w 0 mm_X9_blame [.ref a0, .int (.ofInt x1), .int (.ofInt x2)] σ Q := by
  show jg_G w 0 mm_X9_blame 0 [.ref a0, .int (.ofInt x1), .int (.ofInt x2)] [] σ (jg_QV Q)
  refine jg_A (pc' := 1) rfl rfl (fun _ _ _ => rfl) ?_
  refine jg_A (pc' := 2) rfl rfl (fun _ _ _ => rfl) ?_
  refine jg_putI (pc' := 5) (bi := 0) rfl h0 (by decide) rfl rfl rfl rfl (fun m101 hm101 => ?_)
  have h := h m101 hm101
  refine jg_A (pc' := 6) rfl rfl (fun _ _ _ => rfl) ?_
  refine jg_A (pc' := 7) rfl rfl (fun _ _ _ => rfl) ?_
  refine jg_putI (pc' := 10) (bi := 1) rfl h0 (by decide) rfl rfl rfl rfl (fun m102 hm102 => ?_)
  have h := h m102 hm102
  exact jg_vret rfl rfl h
set_option maxRecDepth 100000 in
set_option maxHeartbeats 4000000 in
theorem jb_X9_refuse_0 {w : Nat} {a0 : Nat} {x1 : Int} {σ : jg_M} {Q : Int → jg_M → Prop} (h0 : jg_sh a0 = (9, 0)) (h : jg_CV w 0 mm_X9_blame [.ref a0, .int (.ofInt x1), .int (.ofInt (σ.1 a0 6))] σ (fun (m101 : jg_M) => Q 0 m101)) : jg_CI w 1 mm_X9_refuse [.ref a0, .int (.ofInt x1)] σ Q := by
  show jg_G w 1 mm_X9_refuse 0 [.ref a0, .int (.ofInt x1)] [] σ (jg_QI Q)
  refine jg_A (pc' := 1) rfl rfl (fun _ _ _ => rfl) ?_
  refine jg_A (pc' := 2) rfl rfl (fun _ _ _ => rfl) ?_
  refine jg_A (pc' := 3) rfl rfl (fun _ _ _ => rfl) ?_
  refine jg_getI (pc' := 6) (bi := 6) rfl h0 (by decide) (Or.inl rfl) rfl rfl ?_
  refine jg_calX (M1 := mm_X9_blame) (hy := 0) (pc' := 9) rfl jm_X9_blame (by decide) rfl h0 (by decide) ⟨Nat.le_of_ble_eq_true rfl, rfl⟩ (Nat.le_of_ble_eq_true rfl) rfl h (jg_kV (fun m101 h => ?_))
  refine jg_A (pc' := 10) rfl rfl (fun _ _ _ => rfl) ?_
  exact jg_zret rfl rfl (by decide) h
set_option maxRecDepth 100000 in
set_option maxHeartbeats 4000000 in
theorem jb_X9_linesOf_0 {w : Nat} {a0 : Nat} {a1 : Nat} {n1 : Nat} {x2 : Int} {a3 : Nat} {σ : jg_M} {Q : Int → jg_M → Prop} (h0 : jg_sh a0 = (9, 0)) (h1 : jg_sh a1 = (20, n1)) (h3 : jg_sh a3 = (0, 0)) (h : ∀ m101 : jg_M, m101 = jg_sI σ a0 3 (if 0 < jg_wr (if jg_wr (if 700 < jg_wr (n1 : Int) then 700 else (n1 : Int)) < jg_wr x2 then (if 700 < jg_wr (n1 : Int) then 700 else (n1 : Int)) else x2) then (if jg_wr (if 700 < jg_wr (n1 : Int) then 700 else (n1 : Int)) < jg_wr x2 then (if 700 < jg_wr (n1 : Int) then 700 else (n1 : Int)) else x2) else 0) → ((0 : Int) ≤ 0 ∧ (0 : Int) ≤ 0 ∧ (0 : Int) ≤ jg_wr (m101.1 a0 3) ∧ (0 + jg_wr (m101.1 a0 3) : Int) ≤ n1 ∧ (0 + jg_wr (m101.1 a0 3) : Int) ≤ 700) ∧ ∀ m102 : jg_M, m102 = jg_cI m101 a1 (0) (a0 + 1) (0) (jg_wr (m101.1 a0 3)) → ∀ m103 : jg_M, m103 = jg_sI m102 a0 4 0 → jg_CV w 0 mm_X9_blame [.ref a0, .int (.ofInt 0), .int (.ofInt (-1))] m103 (fun (m104 : jg_M) => jg_CV w 1 mm_X0_forget [.ref a3] m104 (fun (m105 : jg_M) => jg_GI w 6 mm_X9_linesOf 52 [.ref a0, .ref a1, .int (.ofInt x2), .ref a3, .int (.ofInt 0)] m105 Q))) : jg_CI w 6 mm_X9_linesOf [.ref a0, .ref a1, .int (.ofInt x2), .ref a3] σ Q := by
  show jg_G w 6 mm_X9_linesOf 0 [.ref a0, .ref a1, .int (.ofInt x2), .ref a3, mj_U] [] σ (jg_QI Q)
  refine jg_A (pc' := 1) rfl rfl (fun _ _ _ => rfl) ?_
  refine jg_A (pc' := 2) rfl rfl (fun _ _ _ => rfl) ?_
  refine jg_A (pc' := 3) rfl rfl (fun _ _ _ => rfl) ?_
  refine jg_A (pc' := 4) rfl rfl (fun _ _ _ => rfl) ?_
  refine jg_alen (pc' := 5) (ni := (n1 : Int)) rfl h1 (by decide) rfl rfl ?_
  refine jg_A (pc' := 8) rfl rfl (fun _ _ _ => rfl) ?_
  refine jg_min (pc' := 11) rfl (by decide) (Nat.le_of_ble_eq_true rfl) rfl ?_
  refine jg_min (pc' := 14) rfl (by decide) (Nat.le_of_ble_eq_true rfl) rfl ?_
  refine jg_max (pc' := 17) rfl (by decide) (Nat.le_of_ble_eq_true rfl) rfl ?_
  refine jg_putI (pc' := 20) (bi := 3) rfl h0 (by decide) rfl rfl rfl rfl (fun m101 hm101 => ?_)
  have h := h m101 hm101
  refine jg_A (pc' := 21) rfl rfl (fun _ _ _ => rfl) ?_
  refine jg_A (pc' := 22) rfl rfl (fun _ _ _ => rfl) ?_
  refine jg_A (pc' := 23) rfl rfl (fun _ _ _ => rfl) ?_
  refine jg_getO (pc' := 26) (k := 1) rfl h0 (by decide) rfl rfl ?_
  refine jg_A (pc' := 27) rfl rfl (fun _ _ _ => rfl) ?_
  refine jg_A (pc' := 28) rfl rfl (fun _ _ _ => rfl) ?_
  refine jg_getI (pc' := 31) (bi := 3) rfl h0 (by decide) (Or.inl rfl) rfl rfl ?_
  obtain ⟨hg, h⟩ := h
  refine jg_cpI (pc' := 34) rfl (by decide) (Nat.le_of_ble_eq_true rfl) h1 (jg_sX9_2 h0) hg rfl (fun m102 hm102 => ?_)
  have h := h m102 hm102
  refine jg_A (pc' := 35) rfl rfl (fun _ _ _ => rfl) ?_
  refine jg_A (pc' := 36) rfl rfl (fun _ _ _ => rfl) ?_
  refine jg_putI (pc' := 39) (bi := 4) rfl h0 (by decide) rfl rfl rfl rfl (fun m103 hm103 => ?_)
  have h := h m103 hm103
  refine jg_A (pc' := 40) rfl rfl (fun _ _ _ => rfl) ?_
  refine jg_A (pc' := 41) rfl rfl (fun _ _ _ => rfl) ?_
  refine jg_A (pc' := 42) rfl rfl (fun _ _ _ => rfl) ?_
  refine jg_calX (M1 := mm_X9_blame) (hy := 0) (pc' := 45) rfl jm_X9_blame (by decide) rfl h0 (by decide) ⟨Nat.le_of_ble_eq_true rfl, rfl⟩ (Nat.le_of_ble_eq_true rfl) rfl h (jg_kV (fun m104 h => ?_))
  refine jg_A (pc' := 46) rfl rfl (fun _ _ _ => rfl) ?_
  refine jg_calX (M1 := mm_X0_forget) (hy := 1) (pc' := 49) rfl jm_X0_forget (by decide) rfl h3 (by decide) ⟨Nat.le_of_ble_eq_true rfl, rfl⟩ (Nat.le_of_ble_eq_true rfl) rfl h (jg_kV (fun m105 h => ?_))
  refine jg_A (pc' := 50) rfl rfl (fun _ _ _ => rfl) ?_
  refine jg_A (pc' := 52) (ls' := [.ref a0, .ref a1, .int (.ofInt x2), .ref a3, .int (.ofInt 0)]) rfl rfl (fun _ _ _ => rfl) ?_
  exact h
set_option maxRecDepth 100000 in
set_option maxHeartbeats 4000000 in
theorem jb_X9_linesOf_52 {w : Nat} {a0 : Nat} {u1 : Value} {u2 : Value} {a3 : Nat} {x4 : Int} {σ : jg_M} {Q : Int → jg_M → Prop} (h0 : jg_sh a0 = (9, 0)) (h3 : jg_sh a3 = (0, 0)) (h : (if 700 < jg_wr x4 then Q (-1) σ else jg_CV w 2 mm_X9_advance [.ref a0] σ (fun (m101 : jg_M) => (if jg_wr (m101.1 a0 5) = 3 then Q x4 m101 else jg_CI w 5 mm_X9_takeLine [.ref a0, .ref a3] m101 (fun (z103 : Int) (m102 : jg_M) => (if jg_wr z103 = 0 then Q (-1) m102 else jg_GI w 6 mm_X9_linesOf 52 [.ref a0, u1, u2, .ref a3, .int (.ofInt (x4 + 1))] m102 Q)))))) : jg_GI w 6 mm_X9_linesOf 52 [.ref a0, u1, u2, .ref a3, .int (.ofInt x4)] σ Q := by
  show jg_G w 6 mm_X9_linesOf 52 [.ref a0, u1, u2, .ref a3, .int (.ofInt x4)] [] σ (jg_QI Q)
  refine jg_A (pc' := 54) rfl rfl (fun _ _ _ => rfl) ?_
  refine jg_A (pc' := 57) rfl rfl (fun _ _ _ => rfl) ?_
  refine jg_cgt (pc' := 60) rfl rfl (fun hc => ?_) (fun hc => ?_)
  · have h := jg_t h (show 700 < jg_wr x4 from hc)
    refine jg_A (pc' := 92) rfl rfl (fun _ _ _ => rfl) ?_
    exact jg_iret rfl rfl h
  · have h := jg_f h (show ¬ (700 < jg_wr x4) from hc)
    refine jg_A (pc' := 61) rfl rfl (fun _ _ _ => rfl) ?_
    refine jg_calX (M1 := mm_X9_advance) (hy := 2) (pc' := 64) rfl jm_X9_advance (by decide) rfl h0 (by decide) ⟨Nat.le_of_ble_eq_true rfl, rfl⟩ (Nat.le_of_ble_eq_true rfl) rfl h (jg_kV (fun m101 h => ?_))
    refine jg_A (pc' := 65) rfl rfl (fun _ _ _ => rfl) ?_
    refine jg_getI (pc' := 68) (bi := 5) rfl h0 (by decide) (Or.inl rfl) rfl rfl ?_
    refine jg_A (pc' := 69) rfl rfl (fun _ _ _ => rfl) ?_
    refine jg_cne (pc' := 72) rfl rfl (fun hc => ?_) (fun hc => ?_)
    · have h := jg_t h (show jg_wr (m101.1 a0 5) = 3 from hc)
      refine jg_A (pc' := 74) rfl rfl (fun _ _ _ => rfl) ?_
      exact jg_iret rfl rfl h
    · have h := jg_f h (show ¬ (jg_wr (m101.1 a0 5) = 3) from hc)
      refine jg_A (pc' := 76) rfl rfl (fun _ _ _ => rfl) ?_
      refine jg_A (pc' := 77) rfl rfl (fun _ _ _ => rfl) ?_
      refine jg_calX (M1 := mm_X9_takeLine) (hy := 5) (pc' := 80) rfl jm_X9_takeLine (by decide) rfl h0 (by decide) ⟨Nat.le_of_ble_eq_true rfl, rfl⟩ (Nat.le_of_ble_eq_true rfl) rfl h (jg_kI (fun z103 m102 h => ?_))
      refine jg_ifne (pc' := 83) rfl rfl (fun hc => ?_) (fun hc => ?_)
      · have h := jg_t h (show jg_wr z103 = 0 from hc)
        refine jg_A (pc' := 84) rfl rfl (fun _ _ _ => rfl) ?_
        exact jg_iret rfl rfl h
      · have h := jg_f h (show ¬ (jg_wr z103 = 0) from hc)
        refine jg_iinc (pc' := 88) (ls' := [.ref a0, u1, u2, .ref a3, .int (.ofInt (x4 + 1))]) rfl rfl rfl rfl ?_
        refine jg_goto rfl ?_
        exact h
set_option maxRecDepth 100000 in
set_option maxHeartbeats 4000000 in
theorem jb_X9_takeLine_0 {w : Nat} {a0 : Nat} {a1 : Nat} {σ : jg_M} {Q : Int → jg_M → Prop} (h0 : jg_sh a0 = (9, 0)) (h1 : jg_sh a1 = (0, 0)) (h : (if jg_wr (σ.1 a0 5) = 0 then (if jg_wr (σ.1 a0 7) = 378998784 then jg_CI w 4 mm_X9_takeKind [.ref a0, .ref a1] σ (fun (z102 : Int) (m101 : jg_M) => ((jg_wr z102 = 0 ∨ jg_wr z102 = 1) ∧ Q z102 m101)) else (if jg_wr (σ.1 a0 7) = 605498368 then jg_CI w 4 mm_X9_takeRank [.ref a0, .ref a1] σ (fun (z104 : Int) (m103 : jg_M) => ((jg_wr z104 = 0 ∨ jg_wr z104 = 1) ∧ Q z104 m103)) else (if jg_wr (σ.1 a0 7) = 626398208 then jg_CI w 4 mm_X9_takeRule [.ref a0, .ref a1] σ (fun (z106 : Int) (m105 : jg_M) => ((jg_wr z106 = 0 ∨ jg_wr z106 = 1) ∧ Q z106 m105)) else (if jg_wr (σ.1 a0 7) = 687183296 then jg_CI w 4 mm_X9_takeToken [.ref a0, .ref a1] σ (fun (z108 : Int) (m107 : jg_M) => ((jg_wr z108 = 0 ∨ jg_wr z108 = 1) ∧ Q z108 m107)) else jg_CI w 1 mm_X9_refuse [.ref a0, .int (.ofInt 1)] σ (fun (z110 : Int) (m109 : jg_M) => ((jg_wr z110 = 0 ∨ jg_wr z110 = 1) ∧ Q z110 m109)))))) else jg_CI w 1 mm_X9_refuse [.ref a0, .int (.ofInt 1)] σ (fun (z112 : Int) (m111 : jg_M) => ((jg_wr z112 = 0 ∨ jg_wr z112 = 1) ∧ Q z112 m111)))) : jg_CI w 5 mm_X9_takeLine [.ref a0, .ref a1] σ Q := by
  show jg_G w 5 mm_X9_takeLine 0 [.ref a0, .ref a1] [] σ (jg_QI Q)
  refine jg_A (pc' := 1) rfl rfl (fun _ _ _ => rfl) ?_
  refine jg_getI (pc' := 4) (bi := 5) rfl h0 (by decide) (Or.inl rfl) rfl rfl ?_
  refine jg_ifeq (pc' := 7) rfl rfl (fun hc => ?_) (fun hc => ?_)
  · have h := jg_t h (show jg_wr (σ.1 a0 5) = 0 from hc)
    refine jg_A (pc' := 14) rfl rfl (fun _ _ _ => rfl) ?_
    refine jg_getI (pc' := 17) (bi := 7) rfl h0 (by decide) (Or.inl rfl) rfl rfl ?_
    refine jg_lsw rfl ?_
    refine jg_swc (v := 378998784) (t := 66) (fun hc => ?_) (fun hc => ?_)
    · have h := jg_t h hc
      refine jg_A (pc' := 67) rfl rfl (fun _ _ _ => rfl) ?_
      refine jg_A (pc' := 68) rfl rfl (fun _ _ _ => rfl) ?_
      refine jg_calX (M1 := mm_X9_takeKind) (hy := 4) (pc' := 71) rfl jm_X9_takeKind (by decide) rfl h0 (by decide) ⟨Nat.le_of_ble_eq_true rfl, rfl⟩ (Nat.le_of_ble_eq_true rfl) rfl h (jg_kI (fun z102 m101 h => ?_))
      exact jg_zret rfl rfl h.1 h.2
    have h := jg_f h hc
    refine jg_swc (v := 605498368) (t := 78) (fun hc => ?_) (fun hc => ?_)
    · have h := jg_t h hc
      refine jg_A (pc' := 79) rfl rfl (fun _ _ _ => rfl) ?_
      refine jg_A (pc' := 80) rfl rfl (fun _ _ _ => rfl) ?_
      refine jg_calX (M1 := mm_X9_takeRank) (hy := 4) (pc' := 83) rfl jm_X9_takeRank (by decide) rfl h0 (by decide) ⟨Nat.le_of_ble_eq_true rfl, rfl⟩ (Nat.le_of_ble_eq_true rfl) rfl h (jg_kI (fun z104 m103 h => ?_))
      exact jg_zret rfl rfl h.1 h.2
    have h := jg_f h hc
    refine jg_swc (v := 626398208) (t := 72) (fun hc => ?_) (fun hc => ?_)
    · have h := jg_t h hc
      refine jg_A (pc' := 73) rfl rfl (fun _ _ _ => rfl) ?_
      refine jg_A (pc' := 74) rfl rfl (fun _ _ _ => rfl) ?_
      refine jg_calX (M1 := mm_X9_takeRule) (hy := 4) (pc' := 77) rfl jm_X9_takeRule (by decide) rfl h0 (by decide) ⟨Nat.le_of_ble_eq_true rfl, rfl⟩ (Nat.le_of_ble_eq_true rfl) rfl h (jg_kI (fun z106 m105 h => ?_))
      exact jg_zret rfl rfl h.1 h.2
    have h := jg_f h hc
    refine jg_swc (v := 687183296) (t := 60) (fun hc => ?_) (fun hc => ?_)
    · have h := jg_t h hc
      refine jg_A (pc' := 61) rfl rfl (fun _ _ _ => rfl) ?_
      refine jg_A (pc' := 62) rfl rfl (fun _ _ _ => rfl) ?_
      refine jg_calX (M1 := mm_X9_takeToken) (hy := 4) (pc' := 65) rfl jm_X9_takeToken (by decide) rfl h0 (by decide) ⟨Nat.le_of_ble_eq_true rfl, rfl⟩ (Nat.le_of_ble_eq_true rfl) rfl h (jg_kI (fun z108 m107 h => ?_))
      exact jg_zret rfl rfl h.1 h.2
    have h := jg_f h hc
    show jg_G w 5 mm_X9_takeLine 84 [.ref a0, .ref a1] [] σ (jg_QI Q)
    refine jg_A (pc' := 85) rfl rfl (fun _ _ _ => rfl) ?_
    refine jg_A (pc' := 86) rfl rfl (fun _ _ _ => rfl) ?_
    refine jg_calX (M1 := mm_X9_refuse) (hy := 1) (pc' := 89) rfl jm_X9_refuse (by decide) rfl h0 (by decide) ⟨Nat.le_of_ble_eq_true rfl, rfl⟩ (Nat.le_of_ble_eq_true rfl) rfl h (jg_kI (fun z110 m109 h => ?_))
    exact jg_zret rfl rfl h.1 h.2
  · have h := jg_f h (show ¬ (jg_wr (σ.1 a0 5) = 0) from hc)
    refine jg_A (pc' := 8) rfl rfl (fun _ _ _ => rfl) ?_
    refine jg_A (pc' := 9) rfl rfl (fun _ _ _ => rfl) ?_
    refine jg_calX (M1 := mm_X9_refuse) (hy := 1) (pc' := 12) rfl jm_X9_refuse (by decide) rfl h0 (by decide) ⟨Nat.le_of_ble_eq_true rfl, rfl⟩ (Nat.le_of_ble_eq_true rfl) rfl h (jg_kI (fun z112 m111 h => ?_))
    exact jg_zret rfl rfl h.1 h.2
set_option maxRecDepth 100000 in
set_option maxHeartbeats 4000000 in
theorem jb_X9_takeToken_0 {w : Nat} {a0 : Nat} {a1 : Nat} {σ : jg_M} {Q : Int → jg_M → Prop} (h0 : jg_sh a0 = (9, 0)) (h1 : jg_sh a1 = (0, 0)) (h : (if jg_wr (σ.1 a1 0) < 7 then jg_CV w 2 mm_X9_advance [.ref a0] σ (fun (m101 : jg_M) => jg_CI w 3 mm_X9_isNewName [.ref a0, .ref a1] m101 (fun (z103 : Int) (m102 : jg_M) => (if jg_wr z103 = 0 then Q 0 m102 else jg_CV w 0 mm_X0_addToken [.ref a1, .int (.ofInt (m102.1 a0 7))] m102 (fun (m104 : jg_M) => jg_CI w 3 mm_X9_takeLineEnd [.ref a0] m104 (fun (z106 : Int) (m105 : jg_M) => ((jg_wr z106 = 0 ∨ jg_wr z106 = 1) ∧ Q z106 m105)))))) else jg_CI w 1 mm_X9_refuse [.ref a0, .int (.ofInt 2)] σ (fun (z108 : Int) (m107 : jg_M) => ((jg_wr z108 = 0 ∨ jg_wr z108 = 1) ∧ Q z108 m107)))) : jg_CI w 4 mm_X9_takeToken [.ref a0, .ref a1] σ Q := by
  show jg_G w 4 mm_X9_takeToken 0 [.ref a0, .ref a1] [] σ (jg_QI Q)
  refine jg_A (pc' := 1) rfl rfl (fun _ _ _ => rfl) ?_
  refine jg_getI (pc' := 4) (bi := 0) rfl h1 (by decide) (Or.inl rfl) rfl rfl ?_
  refine jg_A (pc' := 6) rfl rfl (fun _ _ _ => rfl) ?_
  refine jg_clt (pc' := 9) rfl rfl (fun hc => ?_) (fun hc => ?_)
  · have h := jg_t h (show jg_wr (σ.1 a1 0) < 7 from hc)
    refine jg_A (pc' := 16) rfl rfl (fun _ _ _ => rfl) ?_
    refine jg_calX (M1 := mm_X9_advance) (hy := 2) (pc' := 19) rfl jm_X9_advance (by decide) rfl h0 (by decide) ⟨Nat.le_of_ble_eq_true rfl, rfl⟩ (Nat.le_of_ble_eq_true rfl) rfl h (jg_kV (fun m101 h => ?_))
    refine jg_A (pc' := 20) rfl rfl (fun _ _ _ => rfl) ?_
    refine jg_A (pc' := 21) rfl rfl (fun _ _ _ => rfl) ?_
    refine jg_calX (M1 := mm_X9_isNewName) (hy := 3) (pc' := 24) rfl jm_X9_isNewName (by decide) rfl h0 (by decide) ⟨Nat.le_of_ble_eq_true rfl, rfl⟩ (Nat.le_of_ble_eq_true rfl) rfl h (jg_kI (fun z103 m102 h => ?_))
    refine jg_ifne (pc' := 27) rfl rfl (fun hc => ?_) (fun hc => ?_)
    · have h := jg_t h (show jg_wr z103 = 0 from hc)
      refine jg_A (pc' := 28) rfl rfl (fun _ _ _ => rfl) ?_
      exact jg_zret rfl rfl (by decide) h
    · have h := jg_f h (show ¬ (jg_wr z103 = 0) from hc)
      refine jg_A (pc' := 30) rfl rfl (fun _ _ _ => rfl) ?_
      refine jg_A (pc' := 31) rfl rfl (fun _ _ _ => rfl) ?_
      refine jg_getI (pc' := 34) (bi := 7) rfl h0 (by decide) (Or.inl rfl) rfl rfl ?_
      refine jg_calX (M1 := mm_X0_addToken) (hy := 0) (pc' := 37) rfl jm_X0_addToken (by decide) rfl h1 (by decide) ⟨Nat.le_of_ble_eq_true rfl, rfl⟩ (Nat.le_of_ble_eq_true rfl) rfl h (jg_kV (fun m104 h => ?_))
      refine jg_A (pc' := 38) rfl rfl (fun _ _ _ => rfl) ?_
      refine jg_calX (M1 := mm_X9_takeLineEnd) (hy := 3) (pc' := 41) rfl jm_X9_takeLineEnd (by decide) rfl h0 (by decide) ⟨Nat.le_of_ble_eq_true rfl, rfl⟩ (Nat.le_of_ble_eq_true rfl) rfl h (jg_kI (fun z106 m105 h => ?_))
      exact jg_zret rfl rfl h.1 h.2
  · have h := jg_f h (show ¬ (jg_wr (σ.1 a1 0) < 7) from hc)
    refine jg_A (pc' := 10) rfl rfl (fun _ _ _ => rfl) ?_
    refine jg_A (pc' := 11) rfl rfl (fun _ _ _ => rfl) ?_
    refine jg_calX (M1 := mm_X9_refuse) (hy := 1) (pc' := 14) rfl jm_X9_refuse (by decide) rfl h0 (by decide) ⟨Nat.le_of_ble_eq_true rfl, rfl⟩ (Nat.le_of_ble_eq_true rfl) rfl h (jg_kI (fun z108 m107 h => ?_))
    exact jg_zret rfl rfl h.1 h.2
set_option maxRecDepth 100000 in
set_option maxHeartbeats 4000000 in
theorem jb_X9_takeKind_0 {w : Nat} {a0 : Nat} {a1 : Nat} {σ : jg_M} {Q : Int → jg_M → Prop} (h0 : jg_sh a0 = (9, 0)) (h1 : jg_sh a1 = (0, 0)) (h : (if jg_wr (σ.1 a1 1) < 5 then jg_CV w 2 mm_X9_advance [.ref a0] σ (fun (m101 : jg_M) => jg_CI w 3 mm_X9_isNewName [.ref a0, .ref a1] m101 (fun (z103 : Int) (m102 : jg_M) => (if jg_wr z103 = 0 then Q 0 m102 else jg_CV w 0 mm_X0_addKind [.ref a1, .int (.ofInt (m102.1 a0 7))] m102 (fun (m104 : jg_M) => jg_CI w 3 mm_X9_takeLineEnd [.ref a0] m104 (fun (z106 : Int) (m105 : jg_M) => ((jg_wr z106 = 0 ∨ jg_wr z106 = 1) ∧ Q z106 m105)))))) else jg_CI w 1 mm_X9_refuse [.ref a0, .int (.ofInt 2)] σ (fun (z108 : Int) (m107 : jg_M) => ((jg_wr z108 = 0 ∨ jg_wr z108 = 1) ∧ Q z108 m107)))) : jg_CI w 4 mm_X9_takeKind [.ref a0, .ref a1] σ Q := by
  show jg_G w 4 mm_X9_takeKind 0 [.ref a0, .ref a1] [] σ (jg_QI Q)
  refine jg_A (pc' := 1) rfl rfl (fun _ _ _ => rfl) ?_
  refine jg_getI (pc' := 4) (bi := 1) rfl h1 (by decide) (Or.inl rfl) rfl rfl ?_
  refine jg_A (pc' := 5) rfl rfl (fun _ _ _ => rfl) ?_
  refine jg_clt (pc' := 8) rfl rfl (fun hc => ?_) (fun hc => ?_)
  · have h := jg_t h (show jg_wr (σ.1 a1 1) < 5 from hc)
    refine jg_A (pc' := 15) rfl rfl (fun _ _ _ => rfl) ?_
    refine jg_calX (M1 := mm_X9_advance) (hy := 2) (pc' := 18) rfl jm_X9_advance (by decide) rfl h0 (by decide) ⟨Nat.le_of_ble_eq_true rfl, rfl⟩ (Nat.le_of_ble_eq_true rfl) rfl h (jg_kV (fun m101 h => ?_))
    refine jg_A (pc' := 19) rfl rfl (fun _ _ _ => rfl) ?_
    refine jg_A (pc' := 20) rfl rfl (fun _ _ _ => rfl) ?_
    refine jg_calX (M1 := mm_X9_isNewName) (hy := 3) (pc' := 23) rfl jm_X9_isNewName (by decide) rfl h0 (by decide) ⟨Nat.le_of_ble_eq_true rfl, rfl⟩ (Nat.le_of_ble_eq_true rfl) rfl h (jg_kI (fun z103 m102 h => ?_))
    refine jg_ifne (pc' := 26) rfl rfl (fun hc => ?_) (fun hc => ?_)
    · have h := jg_t h (show jg_wr z103 = 0 from hc)
      refine jg_A (pc' := 27) rfl rfl (fun _ _ _ => rfl) ?_
      exact jg_zret rfl rfl (by decide) h
    · have h := jg_f h (show ¬ (jg_wr z103 = 0) from hc)
      refine jg_A (pc' := 29) rfl rfl (fun _ _ _ => rfl) ?_
      refine jg_A (pc' := 30) rfl rfl (fun _ _ _ => rfl) ?_
      refine jg_getI (pc' := 33) (bi := 7) rfl h0 (by decide) (Or.inl rfl) rfl rfl ?_
      refine jg_calX (M1 := mm_X0_addKind) (hy := 0) (pc' := 36) rfl jm_X0_addKind (by decide) rfl h1 (by decide) ⟨Nat.le_of_ble_eq_true rfl, rfl⟩ (Nat.le_of_ble_eq_true rfl) rfl h (jg_kV (fun m104 h => ?_))
      refine jg_A (pc' := 37) rfl rfl (fun _ _ _ => rfl) ?_
      refine jg_calX (M1 := mm_X9_takeLineEnd) (hy := 3) (pc' := 40) rfl jm_X9_takeLineEnd (by decide) rfl h0 (by decide) ⟨Nat.le_of_ble_eq_true rfl, rfl⟩ (Nat.le_of_ble_eq_true rfl) rfl h (jg_kI (fun z106 m105 h => ?_))
      exact jg_zret rfl rfl h.1 h.2
  · have h := jg_f h (show ¬ (jg_wr (σ.1 a1 1) < 5) from hc)
    refine jg_A (pc' := 9) rfl rfl (fun _ _ _ => rfl) ?_
    refine jg_A (pc' := 10) rfl rfl (fun _ _ _ => rfl) ?_
    refine jg_calX (M1 := mm_X9_refuse) (hy := 1) (pc' := 13) rfl jm_X9_refuse (by decide) rfl h0 (by decide) ⟨Nat.le_of_ble_eq_true rfl, rfl⟩ (Nat.le_of_ble_eq_true rfl) rfl h (jg_kI (fun z108 m107 h => ?_))
    exact jg_zret rfl rfl h.1 h.2
set_option maxRecDepth 100000 in
set_option maxHeartbeats 4000000 in
theorem jb_X9_isNewName_0 {w : Nat} {a0 : Nat} {a1 : Nat} {σ : jg_M} {Q : Int → jg_M → Prop} (h0 : jg_sh a0 = (9, 0)) (h1 : jg_sh a1 = (0, 0)) (h : jg_CI w 0 mm_X9_isName [.ref a0] σ (fun (z102 : Int) (m101 : jg_M) => (if jg_wr z102 = 0 then jg_CI w 1 mm_X9_refuse [.ref a0, .int (.ofInt 1)] m101 (fun (z104 : Int) (m103 : jg_M) => ((jg_wr z104 = 0 ∨ jg_wr z104 = 1) ∧ Q z104 m103)) else jg_CI w 2 mm_X0_symbolNamed [.ref a1, .int (.ofInt (m101.1 a0 7))] m101 (fun (z106 : Int) (m105 : jg_M) => (if jg_wr z106 = (-1) then Q 1 m105 else jg_CI w 1 mm_X9_refuse [.ref a0, .int (.ofInt 3)] m105 (fun (z108 : Int) (m107 : jg_M) => (if jg_wr z108 = 0 then Q 0 m107 else Q 1 m107))))))) : jg_CI w 3 mm_X9_isNewName [.ref a0, .ref a1] σ Q := by
  show jg_G w 3 mm_X9_isNewName 0 [.ref a0, .ref a1] [] σ (jg_QI Q)
  refine jg_A (pc' := 1) rfl rfl (fun _ _ _ => rfl) ?_
  refine jg_calX (M1 := mm_X9_isName) (hy := 0) (pc' := 4) rfl jm_X9_isName (by decide) rfl h0 (by decide) ⟨Nat.le_of_ble_eq_true rfl, rfl⟩ (Nat.le_of_ble_eq_true rfl) rfl h (jg_kI (fun z102 m101 h => ?_))
  refine jg_ifne (pc' := 7) rfl rfl (fun hc => ?_) (fun hc => ?_)
  · have h := jg_t h (show jg_wr z102 = 0 from hc)
    refine jg_A (pc' := 8) rfl rfl (fun _ _ _ => rfl) ?_
    refine jg_A (pc' := 9) rfl rfl (fun _ _ _ => rfl) ?_
    refine jg_calX (M1 := mm_X9_refuse) (hy := 1) (pc' := 12) rfl jm_X9_refuse (by decide) rfl h0 (by decide) ⟨Nat.le_of_ble_eq_true rfl, rfl⟩ (Nat.le_of_ble_eq_true rfl) rfl h (jg_kI (fun z104 m103 h => ?_))
    exact jg_zret rfl rfl h.1 h.2
  · have h := jg_f h (show ¬ (jg_wr z102 = 0) from hc)
    refine jg_A (pc' := 14) rfl rfl (fun _ _ _ => rfl) ?_
    refine jg_A (pc' := 15) rfl rfl (fun _ _ _ => rfl) ?_
    refine jg_getI (pc' := 18) (bi := 7) rfl h0 (by decide) (Or.inl rfl) rfl rfl ?_
    refine jg_calX (M1 := mm_X0_symbolNamed) (hy := 2) (pc' := 21) rfl jm_X0_symbolNamed (by decide) rfl h1 (by decide) ⟨Nat.le_of_ble_eq_true rfl, rfl⟩ (Nat.le_of_ble_eq_true rfl) rfl h (jg_kI (fun z106 m105 h => ?_))
    refine jg_A (pc' := 22) rfl rfl (fun _ _ _ => rfl) ?_
    refine jg_ceq (pc' := 25) rfl rfl (fun hc => ?_) (fun hc => ?_)
    · have h := jg_t h (show jg_wr z106 = (-1) from hc)
      refine jg_A (pc' := 34) rfl rfl (fun _ _ _ => rfl) ?_
      refine jg_goto rfl ?_
      exact jg_zret rfl rfl (by decide) h
    · have h := jg_f h (show ¬ (jg_wr z106 = (-1)) from hc)
      refine jg_A (pc' := 26) rfl rfl (fun _ _ _ => rfl) ?_
      refine jg_A (pc' := 27) rfl rfl (fun _ _ _ => rfl) ?_
      refine jg_calX (M1 := mm_X9_refuse) (hy := 1) (pc' := 30) rfl jm_X9_refuse (by decide) rfl h0 (by decide) ⟨Nat.le_of_ble_eq_true rfl, rfl⟩ (Nat.le_of_ble_eq_true rfl) rfl h (jg_kI (fun z108 m107 h => ?_))
      refine jg_ifeq (pc' := 33) rfl rfl (fun hc => ?_) (fun hc => ?_)
      · have h := jg_t h (show jg_wr z108 = 0 from hc)
        refine jg_A (pc' := 38) rfl rfl (fun _ _ _ => rfl) ?_
        exact jg_zret rfl rfl (by decide) h
      · have h := jg_f h (show ¬ (jg_wr z108 = 0) from hc)
        refine jg_A (pc' := 34) rfl rfl (fun _ _ _ => rfl) ?_
        refine jg_goto rfl ?_
        exact jg_zret rfl rfl (by decide) h
set_option maxRecDepth 100000 in
set_option maxHeartbeats 4000000 in
theorem jb_X9_takeRule_0 {w : Nat} {a0 : Nat} {a1 : Nat} {σ : jg_M} {Q : Int → jg_M → Prop} (h0 : jg_sh a0 = (9, 0)) (h1 : jg_sh a1 = (0, 0)) (h : (if jg_wr (σ.1 a1 2) < 12 then jg_CI w 3 mm_X9_takeName [.ref a0] σ (fun (z102 : Int) (m101 : jg_M) => (if jg_wr z102 = 0 then Q 0 m101 else jg_CI w 2 mm_X0_symbolNamed [.ref a1, .int (.ofInt (m101.1 a0 7))] m101 (fun (z104 : Int) (m103 : jg_M) => ∀ t105 : Int, t105 = (z104 - 10) → jg_CI w 0 mm_X0_hasKind [.ref a1, .int (.ofInt t105)] m103 (fun (z107 : Int) (m106 : jg_M) => (if jg_wr z107 = 0 then jg_CI w 1 mm_X9_refuse [.ref a0, .int (.ofInt 4)] m106 (fun (z109 : Int) (m108 : jg_M) => ((jg_wr z109 = 0 ∨ jg_wr z109 = 1) ∧ Q z109 m108)) else jg_CV w 0 mm_X0_beginRule [.ref a1, .int (.ofInt t105)] m106 (fun (m110 : jg_M) => jg_GI w 4 mm_X9_takeRule 57 [.ref a0, .ref a1, .int (.ofInt t105), .int (.ofInt 0)] m110 Q)))))) else jg_CI w 1 mm_X9_refuse [.ref a0, .int (.ofInt 2)] σ (fun (z112 : Int) (m111 : jg_M) => ((jg_wr z112 = 0 ∨ jg_wr z112 = 1) ∧ Q z112 m111)))) : jg_CI w 4 mm_X9_takeRule [.ref a0, .ref a1] σ Q := by
  show jg_G w 4 mm_X9_takeRule 0 [.ref a0, .ref a1, mj_U, mj_U] [] σ (jg_QI Q)
  refine jg_A (pc' := 1) rfl rfl (fun _ _ _ => rfl) ?_
  refine jg_getI (pc' := 4) (bi := 2) rfl h1 (by decide) (Or.inl rfl) rfl rfl ?_
  refine jg_A (pc' := 6) rfl rfl (fun _ _ _ => rfl) ?_
  refine jg_clt (pc' := 9) rfl rfl (fun hc => ?_) (fun hc => ?_)
  · have h := jg_t h (show jg_wr (σ.1 a1 2) < 12 from hc)
    refine jg_A (pc' := 16) rfl rfl (fun _ _ _ => rfl) ?_
    refine jg_calX (M1 := mm_X9_takeName) (hy := 3) (pc' := 19) rfl jm_X9_takeName (by decide) rfl h0 (by decide) ⟨Nat.le_of_ble_eq_true rfl, rfl⟩ (Nat.le_of_ble_eq_true rfl) rfl h (jg_kI (fun z102 m101 h => ?_))
    refine jg_ifne (pc' := 22) rfl rfl (fun hc => ?_) (fun hc => ?_)
    · have h := jg_t h (show jg_wr z102 = 0 from hc)
      refine jg_A (pc' := 23) rfl rfl (fun _ _ _ => rfl) ?_
      exact jg_zret rfl rfl (by decide) h
    · have h := jg_f h (show ¬ (jg_wr z102 = 0) from hc)
      refine jg_A (pc' := 25) rfl rfl (fun _ _ _ => rfl) ?_
      refine jg_A (pc' := 26) rfl rfl (fun _ _ _ => rfl) ?_
      refine jg_getI (pc' := 29) (bi := 7) rfl h0 (by decide) (Or.inl rfl) rfl rfl ?_
      refine jg_calX (M1 := mm_X0_symbolNamed) (hy := 2) (pc' := 32) rfl jm_X0_symbolNamed (by decide) rfl h1 (by decide) ⟨Nat.le_of_ble_eq_true rfl, rfl⟩ (Nat.le_of_ble_eq_true rfl) rfl h (jg_kI (fun z104 m103 h => ?_))
      refine jg_A (pc' := 34) rfl rfl (fun _ _ _ => rfl) ?_
      refine jg_isub (pc' := 35) rfl rfl ?_
      refine jg_nm (F := fun t105 => jg_G w 4 mm_X9_takeRule 35 [.ref a0, .ref a1, mj_U, mj_U] [.int (.ofInt t105)] m103 (jg_QI Q)) (z104 - 10) (fun t105 ht105 => ?_)
      have h := h t105 ht105
      refine jg_A (pc' := 36) (ls' := [.ref a0, .ref a1, .int (.ofInt t105), mj_U]) rfl rfl (fun _ _ _ => rfl) ?_
      refine jg_A (pc' := 37) rfl rfl (fun _ _ _ => rfl) ?_
      refine jg_A (pc' := 38) rfl rfl (fun _ _ _ => rfl) ?_
      refine jg_calX (M1 := mm_X0_hasKind) (hy := 0) (pc' := 41) rfl jm_X0_hasKind (by decide) rfl h1 (by decide) ⟨Nat.le_of_ble_eq_true rfl, rfl⟩ (Nat.le_of_ble_eq_true rfl) rfl h (jg_kI (fun z107 m106 h => ?_))
      refine jg_ifne (pc' := 44) rfl rfl (fun hc => ?_) (fun hc => ?_)
      · have h := jg_t h (show jg_wr z107 = 0 from hc)
        refine jg_A (pc' := 45) rfl rfl (fun _ _ _ => rfl) ?_
        refine jg_A (pc' := 46) rfl rfl (fun _ _ _ => rfl) ?_
        refine jg_calX (M1 := mm_X9_refuse) (hy := 1) (pc' := 49) rfl jm_X9_refuse (by decide) rfl h0 (by decide) ⟨Nat.le_of_ble_eq_true rfl, rfl⟩ (Nat.le_of_ble_eq_true rfl) rfl h (jg_kI (fun z109 m108 h => ?_))
        exact jg_zret rfl rfl h.1 h.2
      · have h := jg_f h (show ¬ (jg_wr z107 = 0) from hc)
        refine jg_A (pc' := 51) rfl rfl (fun _ _ _ => rfl) ?_
        refine jg_A (pc' := 52) rfl rfl (fun _ _ _ => rfl) ?_
        refine jg_calX (M1 := mm_X0_beginRule) (hy := 0) (pc' := 55) rfl jm_X0_beginRule (by decide) rfl h1 (by decide) ⟨Nat.le_of_ble_eq_true rfl, rfl⟩ (Nat.le_of_ble_eq_true rfl) rfl h (jg_kV (fun m110 h => ?_))
        refine jg_A (pc' := 56) rfl rfl (fun _ _ _ => rfl) ?_
        refine jg_A (pc' := 57) (ls' := [.ref a0, .ref a1, .int (.ofInt t105), .int (.ofInt 0)]) rfl rfl (fun _ _ _ => rfl) ?_
        exact h
  · have h := jg_f h (show ¬ (jg_wr (σ.1 a1 2) < 12) from hc)
    refine jg_A (pc' := 10) rfl rfl (fun _ _ _ => rfl) ?_
    refine jg_A (pc' := 11) rfl rfl (fun _ _ _ => rfl) ?_
    refine jg_calX (M1 := mm_X9_refuse) (hy := 1) (pc' := 14) rfl jm_X9_refuse (by decide) rfl h0 (by decide) ⟨Nat.le_of_ble_eq_true rfl, rfl⟩ (Nat.le_of_ble_eq_true rfl) rfl h (jg_kI (fun z112 m111 h => ?_))
    exact jg_zret rfl rfl h.1 h.2
set_option maxRecDepth 100000 in
set_option maxHeartbeats 4000000 in
theorem jb_X9_takeRule_57 {w : Nat} {a0 : Nat} {a1 : Nat} {u2 : Value} {x3 : Int} {σ : jg_M} {Q : Int → jg_M → Prop} (h0 : jg_sh a0 = (9, 0)) (h1 : jg_sh a1 = (0, 0)) (h : (if 4 < jg_wr x3 then jg_CI w 1 mm_X9_refuse [.ref a0, .int (.ofInt 2)] σ (fun (z102 : Int) (m101 : jg_M) => ((jg_wr z102 = 0 ∨ jg_wr z102 = 1) ∧ Q z102 m101)) else jg_CV w 2 mm_X9_advance [.ref a0] σ (fun (m103 : jg_M) => (if jg_wr (m103.1 a0 5) = 2 then jg_CI w 1 mm_X0_addRule [.ref a1] m103 (fun (z105 : Int) (m104 : jg_M) => (if jg_wr z105 = 0 then jg_CI w 1 mm_X9_refuse [.ref a0, .int (.ofInt 5)] m104 (fun (z107 : Int) (m106 : jg_M) => (if jg_wr z107 = 0 then Q 0 m106 else Q 1 m106)) else Q 1 m104)) else jg_CI w 3 mm_X9_takeSymbol [.ref a0, .ref a1] m103 (fun (z109 : Int) (m108 : jg_M) => (if jg_wr z109 = 0 then Q 0 m108 else jg_GI w 4 mm_X9_takeRule 57 [.ref a0, .ref a1, u2, .int (.ofInt (x3 + 1))] m108 Q)))))) : jg_GI w 4 mm_X9_takeRule 57 [.ref a0, .ref a1, u2, .int (.ofInt x3)] σ Q := by
  show jg_G w 4 mm_X9_takeRule 57 [.ref a0, .ref a1, u2, .int (.ofInt x3)] [] σ (jg_QI Q)
  refine jg_A (pc' := 58) rfl rfl (fun _ _ _ => rfl) ?_
  refine jg_A (pc' := 59) rfl rfl (fun _ _ _ => rfl) ?_
  refine jg_cgt (pc' := 62) rfl rfl (fun hc => ?_) (fun hc => ?_)
  · have h := jg_t h (show 4 < jg_wr x3 from hc)
    refine jg_A (pc' := 112) rfl rfl (fun _ _ _ => rfl) ?_
    refine jg_A (pc' := 113) rfl rfl (fun _ _ _ => rfl) ?_
    refine jg_calX (M1 := mm_X9_refuse) (hy := 1) (pc' := 116) rfl jm_X9_refuse (by decide) rfl h0 (by decide) ⟨Nat.le_of_ble_eq_true rfl, rfl⟩ (Nat.le_of_ble_eq_true rfl) rfl h (jg_kI (fun z102 m101 h => ?_))
    exact jg_zret rfl rfl h.1 h.2
  · have h := jg_f h (show ¬ (4 < jg_wr x3) from hc)
    refine jg_A (pc' := 63) rfl rfl (fun _ _ _ => rfl) ?_
    refine jg_calX (M1 := mm_X9_advance) (hy := 2) (pc' := 66) rfl jm_X9_advance (by decide) rfl h0 (by decide) ⟨Nat.le_of_ble_eq_true rfl, rfl⟩ (Nat.le_of_ble_eq_true rfl) rfl h (jg_kV (fun m103 h => ?_))
    refine jg_A (pc' := 67) rfl rfl (fun _ _ _ => rfl) ?_
    refine jg_getI (pc' := 70) (bi := 5) rfl h0 (by decide) (Or.inl rfl) rfl rfl ?_
    refine jg_A (pc' := 71) rfl rfl (fun _ _ _ => rfl) ?_
    refine jg_cne (pc' := 74) rfl rfl (fun hc => ?_) (fun hc => ?_)
    · have h := jg_t h (show jg_wr (m103.1 a0 5) = 2 from hc)
      refine jg_A (pc' := 75) rfl rfl (fun _ _ _ => rfl) ?_
      refine jg_calX (M1 := mm_X0_addRule) (hy := 1) (pc' := 78) rfl jm_X0_addRule (by decide) rfl h1 (by decide) ⟨Nat.le_of_ble_eq_true rfl, rfl⟩ (Nat.le_of_ble_eq_true rfl) rfl h (jg_kI (fun z105 m104 h => ?_))
      refine jg_ifne (pc' := 81) rfl rfl (fun hc => ?_) (fun hc => ?_)
      · have h := jg_t h (show jg_wr z105 = 0 from hc)
        refine jg_A (pc' := 82) rfl rfl (fun _ _ _ => rfl) ?_
        refine jg_A (pc' := 83) rfl rfl (fun _ _ _ => rfl) ?_
        refine jg_calX (M1 := mm_X9_refuse) (hy := 1) (pc' := 86) rfl jm_X9_refuse (by decide) rfl h0 (by decide) ⟨Nat.le_of_ble_eq_true rfl, rfl⟩ (Nat.le_of_ble_eq_true rfl) rfl h (jg_kI (fun z107 m106 h => ?_))
        refine jg_ifeq (pc' := 89) rfl rfl (fun hc => ?_) (fun hc => ?_)
        · have h := jg_t h (show jg_wr z107 = 0 from hc)
          refine jg_A (pc' := 94) rfl rfl (fun _ _ _ => rfl) ?_
          exact jg_zret rfl rfl (by decide) h
        · have h := jg_f h (show ¬ (jg_wr z107 = 0) from hc)
          refine jg_A (pc' := 90) rfl rfl (fun _ _ _ => rfl) ?_
          refine jg_goto rfl ?_
          exact jg_zret rfl rfl (by decide) h
      · have h := jg_f h (show ¬ (jg_wr z105 = 0) from hc)
        refine jg_A (pc' := 90) rfl rfl (fun _ _ _ => rfl) ?_
        refine jg_goto rfl ?_
        exact jg_zret rfl rfl (by decide) h
    · have h := jg_f h (show ¬ (jg_wr (m103.1 a0 5) = 2) from hc)
      refine jg_A (pc' := 96) rfl rfl (fun _ _ _ => rfl) ?_
      refine jg_A (pc' := 97) rfl rfl (fun _ _ _ => rfl) ?_
      refine jg_calX (M1 := mm_X9_takeSymbol) (hy := 3) (pc' := 100) rfl jm_X9_takeSymbol (by decide) rfl h0 (by decide) ⟨Nat.le_of_ble_eq_true rfl, rfl⟩ (Nat.le_of_ble_eq_true rfl) rfl h (jg_kI (fun z109 m108 h => ?_))
      refine jg_ifne (pc' := 103) rfl rfl (fun hc => ?_) (fun hc => ?_)
      · have h := jg_t h (show jg_wr z109 = 0 from hc)
        refine jg_A (pc' := 104) rfl rfl (fun _ _ _ => rfl) ?_
        exact jg_zret rfl rfl (by decide) h
      · have h := jg_f h (show ¬ (jg_wr z109 = 0) from hc)
        refine jg_iinc (pc' := 108) (ls' := [.ref a0, .ref a1, u2, .int (.ofInt (x3 + 1))]) rfl rfl rfl rfl ?_
        refine jg_goto rfl ?_
        exact h
set_option maxRecDepth 100000 in
set_option maxHeartbeats 4000000 in
theorem jb_X9_takeSymbol_0 {w : Nat} {a0 : Nat} {a1 : Nat} {σ : jg_M} {Q : Int → jg_M → Prop} (h0 : jg_sh a0 = (9, 0)) (h1 : jg_sh a1 = (0, 0)) (h : jg_CI w 0 mm_X9_isName [.ref a0] σ (fun (z102 : Int) (m101 : jg_M) => (if jg_wr z102 = 0 then jg_CI w 1 mm_X9_refuse [.ref a0, .int (.ofInt 1)] m101 (fun (z104 : Int) (m103 : jg_M) => ((jg_wr z104 = 0 ∨ jg_wr z104 = 1) ∧ Q z104 m103)) else jg_CI w 0 mm_X0_ruleIsFull [.ref a1] m101 (fun (z106 : Int) (m105 : jg_M) => (if jg_wr z106 = 0 then jg_CI w 2 mm_X0_symbolNamed [.ref a1, .int (.ofInt (m105.1 a0 7))] m105 (fun (z108 : Int) (m107 : jg_M) => (if jg_wr z108 = (-1) then jg_CI w 1 mm_X9_refuse [.ref a0, .int (.ofInt 4)] m107 (fun (z110 : Int) (m109 : jg_M) => ((jg_wr z110 = 0 ∨ jg_wr z110 = 1) ∧ Q z110 m109)) else jg_CI w 0 mm_X0_addSymbol [.ref a1, .int (.ofInt z108)] m107 (fun (z112 : Int) (m111 : jg_M) => ((jg_wr z112 = 0 ∨ jg_wr z112 = 1) ∧ Q z112 m111)))) else jg_CI w 1 mm_X9_refuse [.ref a0, .int (.ofInt 2)] m105 (fun (z114 : Int) (m113 : jg_M) => ((jg_wr z114 = 0 ∨ jg_wr z114 = 1) ∧ Q z114 m113))))))) : jg_CI w 3 mm_X9_takeSymbol [.ref a0, .ref a1] σ Q := by
  show jg_G w 3 mm_X9_takeSymbol 0 [.ref a0, .ref a1, mj_U] [] σ (jg_QI Q)
  refine jg_A (pc' := 1) rfl rfl (fun _ _ _ => rfl) ?_
  refine jg_calX (M1 := mm_X9_isName) (hy := 0) (pc' := 4) rfl jm_X9_isName (by decide) rfl h0 (by decide) ⟨Nat.le_of_ble_eq_true rfl, rfl⟩ (Nat.le_of_ble_eq_true rfl) rfl h (jg_kI (fun z102 m101 h => ?_))
  refine jg_ifne (pc' := 7) rfl rfl (fun hc => ?_) (fun hc => ?_)
  · have h := jg_t h (show jg_wr z102 = 0 from hc)
    refine jg_A (pc' := 8) rfl rfl (fun _ _ _ => rfl) ?_
    refine jg_A (pc' := 9) rfl rfl (fun _ _ _ => rfl) ?_
    refine jg_calX (M1 := mm_X9_refuse) (hy := 1) (pc' := 12) rfl jm_X9_refuse (by decide) rfl h0 (by decide) ⟨Nat.le_of_ble_eq_true rfl, rfl⟩ (Nat.le_of_ble_eq_true rfl) rfl h (jg_kI (fun z104 m103 h => ?_))
    exact jg_zret rfl rfl h.1 h.2
  · have h := jg_f h (show ¬ (jg_wr z102 = 0) from hc)
    refine jg_A (pc' := 14) rfl rfl (fun _ _ _ => rfl) ?_
    refine jg_calX (M1 := mm_X0_ruleIsFull) (hy := 0) (pc' := 17) rfl jm_X0_ruleIsFull (by decide) rfl h1 (by decide) ⟨Nat.le_of_ble_eq_true rfl, rfl⟩ (Nat.le_of_ble_eq_true rfl) rfl h (jg_kI (fun z106 m105 h => ?_))
    refine jg_ifeq (pc' := 20) rfl rfl (fun hc => ?_) (fun hc => ?_)
    · have h := jg_t h (show jg_wr z106 = 0 from hc)
      refine jg_A (pc' := 27) rfl rfl (fun _ _ _ => rfl) ?_
      refine jg_A (pc' := 28) rfl rfl (fun _ _ _ => rfl) ?_
      refine jg_getI (pc' := 31) (bi := 7) rfl h0 (by decide) (Or.inl rfl) rfl rfl ?_
      refine jg_calX (M1 := mm_X0_symbolNamed) (hy := 2) (pc' := 34) rfl jm_X0_symbolNamed (by decide) rfl h1 (by decide) ⟨Nat.le_of_ble_eq_true rfl, rfl⟩ (Nat.le_of_ble_eq_true rfl) rfl h (jg_kI (fun z108 m107 h => ?_))
      refine jg_A (pc' := 35) (ls' := [.ref a0, .ref a1, .int (.ofInt z108)]) rfl rfl (fun _ _ _ => rfl) ?_
      refine jg_A (pc' := 36) rfl rfl (fun _ _ _ => rfl) ?_
      refine jg_A (pc' := 37) rfl rfl (fun _ _ _ => rfl) ?_
      refine jg_cne (pc' := 40) rfl rfl (fun hc => ?_) (fun hc => ?_)
      · have h := jg_t h (show jg_wr z108 = (-1) from hc)
        refine jg_A (pc' := 41) rfl rfl (fun _ _ _ => rfl) ?_
        refine jg_A (pc' := 42) rfl rfl (fun _ _ _ => rfl) ?_
        refine jg_calX (M1 := mm_X9_refuse) (hy := 1) (pc' := 45) rfl jm_X9_refuse (by decide) rfl h0 (by decide) ⟨Nat.le_of_ble_eq_true rfl, rfl⟩ (Nat.le_of_ble_eq_true rfl) rfl h (jg_kI (fun z110 m109 h => ?_))
        exact jg_zret rfl rfl h.1 h.2
      · have h := jg_f h (show ¬ (jg_wr z108 = (-1)) from hc)
        refine jg_A (pc' := 47) rfl rfl (fun _ _ _ => rfl) ?_
        refine jg_A (pc' := 48) rfl rfl (fun _ _ _ => rfl) ?_
        refine jg_calX (M1 := mm_X0_addSymbol) (hy := 0) (pc' := 51) rfl jm_X0_addSymbol (by decide) rfl h1 (by decide) ⟨Nat.le_of_ble_eq_true rfl, rfl⟩ (Nat.le_of_ble_eq_true rfl) rfl h (jg_kI (fun z112 m111 h => ?_))
        exact jg_zret rfl rfl h.1 h.2
    · have h := jg_f h (show ¬ (jg_wr z106 = 0) from hc)
      refine jg_A (pc' := 21) rfl rfl (fun _ _ _ => rfl) ?_
      refine jg_A (pc' := 22) rfl rfl (fun _ _ _ => rfl) ?_
      refine jg_calX (M1 := mm_X9_refuse) (hy := 1) (pc' := 25) rfl jm_X9_refuse (by decide) rfl h0 (by decide) ⟨Nat.le_of_ble_eq_true rfl, rfl⟩ (Nat.le_of_ble_eq_true rfl) rfl h (jg_kI (fun z114 m113 h => ?_))
      exact jg_zret rfl rfl h.1 h.2
set_option maxRecDepth 100000 in
set_option maxHeartbeats 4000000 in
theorem jb_X9_takeRank_0 {w : Nat} {a0 : Nat} {a1 : Nat} {σ : jg_M} {Q : Int → jg_M → Prop} (h0 : jg_sh a0 = (9, 0)) (h1 : jg_sh a1 = (0, 0)) (h : jg_CI w 3 mm_X9_takeName [.ref a0] σ (fun (z102 : Int) (m101 : jg_M) => (if jg_wr z102 = 0 then Q 0 m101 else jg_CI w 2 mm_X0_symbolNamed [.ref a1, .int (.ofInt (m101.1 a0 7))] m101 (fun (z104 : Int) (m103 : jg_M) => jg_CI w 0 mm_X0_hasToken [.ref a1, .int (.ofInt z104)] m103 (fun (z106 : Int) (m105 : jg_M) => (if jg_wr z106 = 0 then jg_CI w 1 mm_X9_refuse [.ref a0, .int (.ofInt 4)] m105 (fun (z108 : Int) (m107 : jg_M) => ((jg_wr z108 = 0 ∨ jg_wr z108 = 1) ∧ Q z108 m107)) else jg_CI w 1 mm_X0_rankOfToken [.ref a1, .int (.ofInt z104)] m105 (fun (z110 : Int) (m109 : jg_M) => (if jg_wr z110 = 0 then jg_CI w 3 mm_X9_takeNumber [.ref a0, .int (.ofInt 1), .int (.ofInt 9)] m109 (fun (z112 : Int) (m111 : jg_M) => (if jg_wr z112 = 0 then Q 0 m111 else ((0 : Int) ≤ (jg_wr z104) ∧ (jg_wr z104) < (7 : Int)) ∧ ∀ m113 : jg_M, m113 = jg_sI m111 (a1 + 2) (jg_wr z104) (m111.1 a0 8) → jg_CI w 3 mm_X9_takeNumber [.ref a0, .int (.ofInt 0), .int (.ofInt 2)] m113 (fun (z115 : Int) (m114 : jg_M) => (if jg_wr z115 = 0 then Q 0 m114 else ((0 : Int) ≤ (jg_wr z104) ∧ (jg_wr z104) < (7 : Int)) ∧ ∀ m116 : jg_M, m116 = jg_sI m114 (a1 + 3) (jg_wr z104) (m114.1 a0 8) → jg_CI w 3 mm_X9_takeLineEnd [.ref a0] m116 (fun (z118 : Int) (m117 : jg_M) => ((jg_wr z118 = 0 ∨ jg_wr z118 = 1) ∧ Q z118 m117)))))) else jg_CI w 1 mm_X9_refuse [.ref a0, .int (.ofInt 3)] m109 (fun (z120 : Int) (m119 : jg_M) => ((jg_wr z120 = 0 ∨ jg_wr z120 = 1) ∧ Q z120 m119)))))))))) : jg_CI w 4 mm_X9_takeRank [.ref a0, .ref a1] σ Q := by
  show jg_G w 4 mm_X9_takeRank 0 [.ref a0, .ref a1, mj_U] [] σ (jg_QI Q)
  refine jg_A (pc' := 1) rfl rfl (fun _ _ _ => rfl) ?_
  refine jg_calX (M1 := mm_X9_takeName) (hy := 3) (pc' := 4) rfl jm_X9_takeName (by decide) rfl h0 (by decide) ⟨Nat.le_of_ble_eq_true rfl, rfl⟩ (Nat.le_of_ble_eq_true rfl) rfl h (jg_kI (fun z102 m101 h => ?_))
  refine jg_ifne (pc' := 7) rfl rfl (fun hc => ?_) (fun hc => ?_)
  · have h := jg_t h (show jg_wr z102 = 0 from hc)
    refine jg_A (pc' := 8) rfl rfl (fun _ _ _ => rfl) ?_
    exact jg_zret rfl rfl (by decide) h
  · have h := jg_f h (show ¬ (jg_wr z102 = 0) from hc)
    refine jg_A (pc' := 10) rfl rfl (fun _ _ _ => rfl) ?_
    refine jg_A (pc' := 11) rfl rfl (fun _ _ _ => rfl) ?_
    refine jg_getI (pc' := 14) (bi := 7) rfl h0 (by decide) (Or.inl rfl) rfl rfl ?_
    refine jg_calX (M1 := mm_X0_symbolNamed) (hy := 2) (pc' := 17) rfl jm_X0_symbolNamed (by decide) rfl h1 (by decide) ⟨Nat.le_of_ble_eq_true rfl, rfl⟩ (Nat.le_of_ble_eq_true rfl) rfl h (jg_kI (fun z104 m103 h => ?_))
    refine jg_A (pc' := 18) (ls' := [.ref a0, .ref a1, .int (.ofInt z104)]) rfl rfl (fun _ _ _ => rfl) ?_
    refine jg_A (pc' := 19) rfl rfl (fun _ _ _ => rfl) ?_
    refine jg_A (pc' := 20) rfl rfl (fun _ _ _ => rfl) ?_
    refine jg_calX (M1 := mm_X0_hasToken) (hy := 0) (pc' := 23) rfl jm_X0_hasToken (by decide) rfl h1 (by decide) ⟨Nat.le_of_ble_eq_true rfl, rfl⟩ (Nat.le_of_ble_eq_true rfl) rfl h (jg_kI (fun z106 m105 h => ?_))
    refine jg_ifne (pc' := 26) rfl rfl (fun hc => ?_) (fun hc => ?_)
    · have h := jg_t h (show jg_wr z106 = 0 from hc)
      refine jg_A (pc' := 27) rfl rfl (fun _ _ _ => rfl) ?_
      refine jg_A (pc' := 28) rfl rfl (fun _ _ _ => rfl) ?_
      refine jg_calX (M1 := mm_X9_refuse) (hy := 1) (pc' := 31) rfl jm_X9_refuse (by decide) rfl h0 (by decide) ⟨Nat.le_of_ble_eq_true rfl, rfl⟩ (Nat.le_of_ble_eq_true rfl) rfl h (jg_kI (fun z108 m107 h => ?_))
      exact jg_zret rfl rfl h.1 h.2
    · have h := jg_f h (show ¬ (jg_wr z106 = 0) from hc)
      refine jg_A (pc' := 33) rfl rfl (fun _ _ _ => rfl) ?_
      refine jg_A (pc' := 34) rfl rfl (fun _ _ _ => rfl) ?_
      refine jg_calX (M1 := mm_X0_rankOfToken) (hy := 1) (pc' := 37) rfl jm_X0_rankOfToken (by decide) rfl h1 (by decide) ⟨Nat.le_of_ble_eq_true rfl, rfl⟩ (Nat.le_of_ble_eq_true rfl) rfl h (jg_kI (fun z110 m109 h => ?_))
      refine jg_ifeq (pc' := 40) rfl rfl (fun hc => ?_) (fun hc => ?_)
      · have h := jg_t h (show jg_wr z110 = 0 from hc)
        refine jg_A (pc' := 47) rfl rfl (fun _ _ _ => rfl) ?_
        refine jg_A (pc' := 48) rfl rfl (fun _ _ _ => rfl) ?_
        refine jg_A (pc' := 50) rfl rfl (fun _ _ _ => rfl) ?_
        refine jg_calX (M1 := mm_X9_takeNumber) (hy := 3) (pc' := 53) rfl jm_X9_takeNumber (by decide) rfl h0 (by decide) ⟨Nat.le_of_ble_eq_true rfl, rfl⟩ (Nat.le_of_ble_eq_true rfl) rfl h (jg_kI (fun z112 m111 h => ?_))
        refine jg_ifne (pc' := 56) rfl rfl (fun hc => ?_) (fun hc => ?_)
        · have h := jg_t h (show jg_wr z112 = 0 from hc)
          refine jg_A (pc' := 57) rfl rfl (fun _ _ _ => rfl) ?_
          exact jg_zret rfl rfl (by decide) h
        · have h := jg_f h (show ¬ (jg_wr z112 = 0) from hc)
          refine jg_A (pc' := 59) rfl rfl (fun _ _ _ => rfl) ?_
          refine jg_getO (pc' := 62) (k := 2) rfl h1 (by decide) rfl rfl ?_
          refine jg_A (pc' := 63) rfl rfl (fun _ _ _ => rfl) ?_
          refine jg_A (pc' := 64) rfl rfl (fun _ _ _ => rfl) ?_
          refine jg_getI (pc' := 67) (bi := 8) rfl h0 (by decide) (Or.inl rfl) rfl rfl ?_
          obtain ⟨hg, h⟩ := h
          refine jg_iast (pc' := 68) rfl (jg_sX0_6 h1) hg rfl (fun m113 hm113 => ?_)
          have h := h m113 hm113
          refine jg_A (pc' := 69) rfl rfl (fun _ _ _ => rfl) ?_
          refine jg_A (pc' := 70) rfl rfl (fun _ _ _ => rfl) ?_
          refine jg_A (pc' := 71) rfl rfl (fun _ _ _ => rfl) ?_
          refine jg_calX (M1 := mm_X9_takeNumber) (hy := 3) (pc' := 74) rfl jm_X9_takeNumber (by decide) rfl h0 (by decide) ⟨Nat.le_of_ble_eq_true rfl, rfl⟩ (Nat.le_of_ble_eq_true rfl) rfl h (jg_kI (fun z115 m114 h => ?_))
          refine jg_ifne (pc' := 77) rfl rfl (fun hc => ?_) (fun hc => ?_)
          · have h := jg_t h (show jg_wr z115 = 0 from hc)
            refine jg_A (pc' := 78) rfl rfl (fun _ _ _ => rfl) ?_
            exact jg_zret rfl rfl (by decide) h
          · have h := jg_f h (show ¬ (jg_wr z115 = 0) from hc)
            refine jg_A (pc' := 80) rfl rfl (fun _ _ _ => rfl) ?_
            refine jg_getO (pc' := 83) (k := 3) rfl h1 (by decide) rfl rfl ?_
            refine jg_A (pc' := 84) rfl rfl (fun _ _ _ => rfl) ?_
            refine jg_A (pc' := 85) rfl rfl (fun _ _ _ => rfl) ?_
            refine jg_getI (pc' := 88) (bi := 8) rfl h0 (by decide) (Or.inl rfl) rfl rfl ?_
            obtain ⟨hg, h⟩ := h
            refine jg_iast (pc' := 89) rfl (jg_sX0_7 h1) hg rfl (fun m116 hm116 => ?_)
            have h := h m116 hm116
            refine jg_A (pc' := 90) rfl rfl (fun _ _ _ => rfl) ?_
            refine jg_calX (M1 := mm_X9_takeLineEnd) (hy := 3) (pc' := 93) rfl jm_X9_takeLineEnd (by decide) rfl h0 (by decide) ⟨Nat.le_of_ble_eq_true rfl, rfl⟩ (Nat.le_of_ble_eq_true rfl) rfl h (jg_kI (fun z118 m117 h => ?_))
            exact jg_zret rfl rfl h.1 h.2
      · have h := jg_f h (show ¬ (jg_wr z110 = 0) from hc)
        refine jg_A (pc' := 41) rfl rfl (fun _ _ _ => rfl) ?_
        refine jg_A (pc' := 42) rfl rfl (fun _ _ _ => rfl) ?_
        refine jg_calX (M1 := mm_X9_refuse) (hy := 1) (pc' := 45) rfl jm_X9_refuse (by decide) rfl h0 (by decide) ⟨Nat.le_of_ble_eq_true rfl, rfl⟩ (Nat.le_of_ble_eq_true rfl) rfl h (jg_kI (fun z120 m119 h => ?_))
        exact jg_zret rfl rfl h.1 h.2
set_option maxRecDepth 100000 in
set_option maxHeartbeats 4000000 in
theorem jb_X9_takeName_0 {w : Nat} {a0 : Nat} {σ : jg_M} {Q : Int → jg_M → Prop} (h0 : jg_sh a0 = (9, 0)) (h : jg_CV w 2 mm_X9_advance [.ref a0] σ (fun (m101 : jg_M) => jg_CI w 0 mm_X9_isName [.ref a0] m101 (fun (z103 : Int) (m102 : jg_M) => (if jg_wr z103 = 0 then jg_CI w 1 mm_X9_refuse [.ref a0, .int (.ofInt 1)] m102 (fun (z105 : Int) (m104 : jg_M) => (if jg_wr z105 = 0 then Q 0 m104 else Q 1 m104)) else Q 1 m102)))) : jg_CI w 3 mm_X9_takeName [.ref a0] σ Q := by
  show jg_G w 3 mm_X9_takeName 0 [.ref a0] [] σ (jg_QI Q)
  refine jg_A (pc' := 1) rfl rfl (fun _ _ _ => rfl) ?_
  refine jg_calX (M1 := mm_X9_advance) (hy := 2) (pc' := 4) rfl jm_X9_advance (by decide) rfl h0 (by decide) ⟨Nat.le_of_ble_eq_true rfl, rfl⟩ (Nat.le_of_ble_eq_true rfl) rfl h (jg_kV (fun m101 h => ?_))
  refine jg_A (pc' := 5) rfl rfl (fun _ _ _ => rfl) ?_
  refine jg_calX (M1 := mm_X9_isName) (hy := 0) (pc' := 8) rfl jm_X9_isName (by decide) rfl h0 (by decide) ⟨Nat.le_of_ble_eq_true rfl, rfl⟩ (Nat.le_of_ble_eq_true rfl) rfl h (jg_kI (fun z103 m102 h => ?_))
  refine jg_ifne (pc' := 11) rfl rfl (fun hc => ?_) (fun hc => ?_)
  · have h := jg_t h (show jg_wr z103 = 0 from hc)
    refine jg_A (pc' := 12) rfl rfl (fun _ _ _ => rfl) ?_
    refine jg_A (pc' := 13) rfl rfl (fun _ _ _ => rfl) ?_
    refine jg_calX (M1 := mm_X9_refuse) (hy := 1) (pc' := 16) rfl jm_X9_refuse (by decide) rfl h0 (by decide) ⟨Nat.le_of_ble_eq_true rfl, rfl⟩ (Nat.le_of_ble_eq_true rfl) rfl h (jg_kI (fun z105 m104 h => ?_))
    refine jg_ifeq (pc' := 19) rfl rfl (fun hc => ?_) (fun hc => ?_)
    · have h := jg_t h (show jg_wr z105 = 0 from hc)
      refine jg_A (pc' := 24) rfl rfl (fun _ _ _ => rfl) ?_
      exact jg_zret rfl rfl (by decide) h
    · have h := jg_f h (show ¬ (jg_wr z105 = 0) from hc)
      refine jg_A (pc' := 20) rfl rfl (fun _ _ _ => rfl) ?_
      refine jg_goto rfl ?_
      exact jg_zret rfl rfl (by decide) h
  · have h := jg_f h (show ¬ (jg_wr z103 = 0) from hc)
    refine jg_A (pc' := 20) rfl rfl (fun _ _ _ => rfl) ?_
    refine jg_goto rfl ?_
    exact jg_zret rfl rfl (by decide) h
set_option maxRecDepth 100000 in
set_option maxHeartbeats 4000000 in
theorem jb_X9_takeNumber_0 {w : Nat} {a0 : Nat} {x1 : Int} {x2 : Int} {σ : jg_M} {Q : Int → jg_M → Prop} (h0 : jg_sh a0 = (9, 0)) (h : jg_CV w 2 mm_X9_advance [.ref a0] σ (fun (m101 : jg_M) => (if jg_wr (m101.1 a0 5) = 1 then (if jg_wr (m101.1 a0 8) < jg_wr x1 then jg_CI w 1 mm_X9_refuse [.ref a0, .int (.ofInt 2)] m101 (fun (z103 : Int) (m102 : jg_M) => (if jg_wr z103 = 0 then Q 0 m102 else Q 1 m102)) else (if jg_wr (m101.1 a0 8) ≤ jg_wr x2 then Q 1 m101 else jg_CI w 1 mm_X9_refuse [.ref a0, .int (.ofInt 2)] m101 (fun (z105 : Int) (m104 : jg_M) => (if jg_wr z105 = 0 then Q 0 m104 else Q 1 m104)))) else jg_CI w 1 mm_X9_refuse [.ref a0, .int (.ofInt 1)] m101 (fun (z107 : Int) (m106 : jg_M) => ((jg_wr z107 = 0 ∨ jg_wr z107 = 1) ∧ Q z107 m106))))) : jg_CI w 3 mm_X9_takeNumber [.ref a0, .int (.ofInt x1), .int (.ofInt x2)] σ Q := by
  show jg_G w 3 mm_X9_takeNumber 0 [.ref a0, .int (.ofInt x1), .int (.ofInt x2)] [] σ (jg_QI Q)
  refine jg_A (pc' := 1) rfl rfl (fun _ _ _ => rfl) ?_
  refine jg_calX (M1 := mm_X9_advance) (hy := 2) (pc' := 4) rfl jm_X9_advance (by decide) rfl h0 (by decide) ⟨Nat.le_of_ble_eq_true rfl, rfl⟩ (Nat.le_of_ble_eq_true rfl) rfl h (jg_kV (fun m101 h => ?_))
  refine jg_A (pc' := 5) rfl rfl (fun _ _ _ => rfl) ?_
  refine jg_getI (pc' := 8) (bi := 5) rfl h0 (by decide) (Or.inl rfl) rfl rfl ?_
  refine jg_A (pc' := 9) rfl rfl (fun _ _ _ => rfl) ?_
  refine jg_ceq (pc' := 12) rfl rfl (fun hc => ?_) (fun hc => ?_)
  · have h := jg_t h (show jg_wr (m101.1 a0 5) = 1 from hc)
    refine jg_A (pc' := 19) rfl rfl (fun _ _ _ => rfl) ?_
    refine jg_getI (pc' := 22) (bi := 8) rfl h0 (by decide) (Or.inl rfl) rfl rfl ?_
    refine jg_A (pc' := 23) rfl rfl (fun _ _ _ => rfl) ?_
    refine jg_clt (pc' := 26) rfl rfl (fun hc => ?_) (fun hc => ?_)
    · have h := jg_t h (show jg_wr (m101.1 a0 8) < jg_wr x1 from hc)
      refine jg_A (pc' := 35) rfl rfl (fun _ _ _ => rfl) ?_
      refine jg_A (pc' := 36) rfl rfl (fun _ _ _ => rfl) ?_
      refine jg_calX (M1 := mm_X9_refuse) (hy := 1) (pc' := 39) rfl jm_X9_refuse (by decide) rfl h0 (by decide) ⟨Nat.le_of_ble_eq_true rfl, rfl⟩ (Nat.le_of_ble_eq_true rfl) rfl h (jg_kI (fun z103 m102 h => ?_))
      refine jg_ifeq (pc' := 42) rfl rfl (fun hc => ?_) (fun hc => ?_)
      · have h := jg_t h (show jg_wr z103 = 0 from hc)
        refine jg_A (pc' := 47) rfl rfl (fun _ _ _ => rfl) ?_
        exact jg_zret rfl rfl (by decide) h
      · have h := jg_f h (show ¬ (jg_wr z103 = 0) from hc)
        refine jg_A (pc' := 43) rfl rfl (fun _ _ _ => rfl) ?_
        refine jg_goto rfl ?_
        exact jg_zret rfl rfl (by decide) h
    · have h := jg_f h (show ¬ (jg_wr (m101.1 a0 8) < jg_wr x1) from hc)
      refine jg_A (pc' := 27) rfl rfl (fun _ _ _ => rfl) ?_
      refine jg_getI (pc' := 30) (bi := 8) rfl h0 (by decide) (Or.inl rfl) rfl rfl ?_
      refine jg_A (pc' := 31) rfl rfl (fun _ _ _ => rfl) ?_
      refine jg_cle (pc' := 34) rfl rfl (fun hc => ?_) (fun hc => ?_)
      · have h := jg_t h (show jg_wr (m101.1 a0 8) ≤ jg_wr x2 from hc)
        refine jg_A (pc' := 43) rfl rfl (fun _ _ _ => rfl) ?_
        refine jg_goto rfl ?_
        exact jg_zret rfl rfl (by decide) h
      · have h := jg_f h (show ¬ (jg_wr (m101.1 a0 8) ≤ jg_wr x2) from hc)
        refine jg_A (pc' := 35) rfl rfl (fun _ _ _ => rfl) ?_
        refine jg_A (pc' := 36) rfl rfl (fun _ _ _ => rfl) ?_
        refine jg_calX (M1 := mm_X9_refuse) (hy := 1) (pc' := 39) rfl jm_X9_refuse (by decide) rfl h0 (by decide) ⟨Nat.le_of_ble_eq_true rfl, rfl⟩ (Nat.le_of_ble_eq_true rfl) rfl h (jg_kI (fun z105 m104 h => ?_))
        refine jg_ifeq (pc' := 42) rfl rfl (fun hc => ?_) (fun hc => ?_)
        · have h := jg_t h (show jg_wr z105 = 0 from hc)
          refine jg_A (pc' := 47) rfl rfl (fun _ _ _ => rfl) ?_
          exact jg_zret rfl rfl (by decide) h
        · have h := jg_f h (show ¬ (jg_wr z105 = 0) from hc)
          refine jg_A (pc' := 43) rfl rfl (fun _ _ _ => rfl) ?_
          refine jg_goto rfl ?_
          exact jg_zret rfl rfl (by decide) h
  · have h := jg_f h (show ¬ (jg_wr (m101.1 a0 5) = 1) from hc)
    refine jg_A (pc' := 13) rfl rfl (fun _ _ _ => rfl) ?_
    refine jg_A (pc' := 14) rfl rfl (fun _ _ _ => rfl) ?_
    refine jg_calX (M1 := mm_X9_refuse) (hy := 1) (pc' := 17) rfl jm_X9_refuse (by decide) rfl h0 (by decide) ⟨Nat.le_of_ble_eq_true rfl, rfl⟩ (Nat.le_of_ble_eq_true rfl) rfl h (jg_kI (fun z107 m106 h => ?_))
    exact jg_zret rfl rfl h.1 h.2
set_option maxRecDepth 100000 in
set_option maxHeartbeats 4000000 in
theorem jb_X9_takeLineEnd_0 {w : Nat} {a0 : Nat} {σ : jg_M} {Q : Int → jg_M → Prop} (h0 : jg_sh a0 = (9, 0)) (h : jg_CV w 2 mm_X9_advance [.ref a0] σ (fun (m101 : jg_M) => (if jg_wr (m101.1 a0 5) = 2 then Q 1 m101 else jg_CI w 1 mm_X9_refuse [.ref a0, .int (.ofInt 1)] m101 (fun (z103 : Int) (m102 : jg_M) => (if jg_wr z103 = 0 then Q 0 m102 else Q 1 m102))))) : jg_CI w 3 mm_X9_takeLineEnd [.ref a0] σ Q := by
  show jg_G w 3 mm_X9_takeLineEnd 0 [.ref a0] [] σ (jg_QI Q)
  refine jg_A (pc' := 1) rfl rfl (fun _ _ _ => rfl) ?_
  refine jg_calX (M1 := mm_X9_advance) (hy := 2) (pc' := 4) rfl jm_X9_advance (by decide) rfl h0 (by decide) ⟨Nat.le_of_ble_eq_true rfl, rfl⟩ (Nat.le_of_ble_eq_true rfl) rfl h (jg_kV (fun m101 h => ?_))
  refine jg_A (pc' := 5) rfl rfl (fun _ _ _ => rfl) ?_
  refine jg_getI (pc' := 8) (bi := 5) rfl h0 (by decide) (Or.inl rfl) rfl rfl ?_
  refine jg_A (pc' := 9) rfl rfl (fun _ _ _ => rfl) ?_
  refine jg_ceq (pc' := 12) rfl rfl (fun hc => ?_) (fun hc => ?_)
  · have h := jg_t h (show jg_wr (m101.1 a0 5) = 2 from hc)
    refine jg_A (pc' := 21) rfl rfl (fun _ _ _ => rfl) ?_
    refine jg_goto rfl ?_
    exact jg_zret rfl rfl (by decide) h
  · have h := jg_f h (show ¬ (jg_wr (m101.1 a0 5) = 2) from hc)
    refine jg_A (pc' := 13) rfl rfl (fun _ _ _ => rfl) ?_
    refine jg_A (pc' := 14) rfl rfl (fun _ _ _ => rfl) ?_
    refine jg_calX (M1 := mm_X9_refuse) (hy := 1) (pc' := 17) rfl jm_X9_refuse (by decide) rfl h0 (by decide) ⟨Nat.le_of_ble_eq_true rfl, rfl⟩ (Nat.le_of_ble_eq_true rfl) rfl h (jg_kI (fun z103 m102 h => ?_))
    refine jg_ifeq (pc' := 20) rfl rfl (fun hc => ?_) (fun hc => ?_)
    · have h := jg_t h (show jg_wr z103 = 0 from hc)
      refine jg_A (pc' := 25) rfl rfl (fun _ _ _ => rfl) ?_
      exact jg_zret rfl rfl (by decide) h
    · have h := jg_f h (show ¬ (jg_wr z103 = 0) from hc)
      refine jg_A (pc' := 21) rfl rfl (fun _ _ _ => rfl) ?_
      refine jg_goto rfl ?_
      exact jg_zret rfl rfl (by decide) h
set_option maxRecDepth 100000 in
set_option maxHeartbeats 4000000 in
theorem jb_X9_isName_0 {w : Nat} {a0 : Nat} {σ : jg_M} {Q : Int → jg_M → Prop} (h0 : jg_sh a0 = (9, 0)) (h : (if jg_wr (σ.1 a0 5) = 0 then (if jg_wr (σ.1 a0 7) = 687183296 then Q 0 σ else (if jg_wr (σ.1 a0 7) = 378998784 then Q 0 σ else (if jg_wr (σ.1 a0 7) = 626398208 then Q 0 σ else (if jg_wr (σ.1 a0 7) = 605498368 then Q 0 σ else Q 1 σ)))) else Q 0 σ)) : jg_CI w 0 mm_X9_isName [.ref a0] σ Q := by
  show jg_G w 0 mm_X9_isName 0 [.ref a0] [] σ (jg_QI Q)
  refine jg_A (pc' := 1) rfl rfl (fun _ _ _ => rfl) ?_
  refine jg_getI (pc' := 4) (bi := 5) rfl h0 (by decide) (Or.inl rfl) rfl rfl ?_
  refine jg_ifne (pc' := 7) rfl rfl (fun hc => ?_) (fun hc => ?_)
  · have h := jg_t h (show jg_wr (σ.1 a0 5) = 0 from hc)
    refine jg_A (pc' := 8) rfl rfl (fun _ _ _ => rfl) ?_
    refine jg_getI (pc' := 11) (bi := 7) rfl h0 (by decide) (Or.inl rfl) rfl rfl ?_
    refine jg_A (pc' := 13) rfl rfl (fun _ _ _ => rfl) ?_
    refine jg_ceq (pc' := 16) rfl rfl (fun hc => ?_) (fun hc => ?_)
    · have h := jg_t h (show jg_wr (σ.1 a0 7) = 687183296 from hc)
      refine jg_A (pc' := 48) rfl rfl (fun _ _ _ => rfl) ?_
      exact jg_zret rfl rfl (by decide) h
    · have h := jg_f h (show ¬ (jg_wr (σ.1 a0 7) = 687183296) from hc)
      refine jg_A (pc' := 17) rfl rfl (fun _ _ _ => rfl) ?_
      refine jg_getI (pc' := 20) (bi := 7) rfl h0 (by decide) (Or.inl rfl) rfl rfl ?_
      refine jg_A (pc' := 22) rfl rfl (fun _ _ _ => rfl) ?_
      refine jg_ceq (pc' := 25) rfl rfl (fun hc => ?_) (fun hc => ?_)
      · have h := jg_t h (show jg_wr (σ.1 a0 7) = 378998784 from hc)
        refine jg_A (pc' := 48) rfl rfl (fun _ _ _ => rfl) ?_
        exact jg_zret rfl rfl (by decide) h
      · have h := jg_f h (show ¬ (jg_wr (σ.1 a0 7) = 378998784) from hc)
        refine jg_A (pc' := 26) rfl rfl (fun _ _ _ => rfl) ?_
        refine jg_getI (pc' := 29) (bi := 7) rfl h0 (by decide) (Or.inl rfl) rfl rfl ?_
        refine jg_A (pc' := 31) rfl rfl (fun _ _ _ => rfl) ?_
        refine jg_ceq (pc' := 34) rfl rfl (fun hc => ?_) (fun hc => ?_)
        · have h := jg_t h (show jg_wr (σ.1 a0 7) = 626398208 from hc)
          refine jg_A (pc' := 48) rfl rfl (fun _ _ _ => rfl) ?_
          exact jg_zret rfl rfl (by decide) h
        · have h := jg_f h (show ¬ (jg_wr (σ.1 a0 7) = 626398208) from hc)
          refine jg_A (pc' := 35) rfl rfl (fun _ _ _ => rfl) ?_
          refine jg_getI (pc' := 38) (bi := 7) rfl h0 (by decide) (Or.inl rfl) rfl rfl ?_
          refine jg_A (pc' := 40) rfl rfl (fun _ _ _ => rfl) ?_
          refine jg_ceq (pc' := 43) rfl rfl (fun hc => ?_) (fun hc => ?_)
          · have h := jg_t h (show jg_wr (σ.1 a0 7) = 605498368 from hc)
            refine jg_A (pc' := 48) rfl rfl (fun _ _ _ => rfl) ?_
            exact jg_zret rfl rfl (by decide) h
          · have h := jg_f h (show ¬ (jg_wr (σ.1 a0 7) = 605498368) from hc)
            refine jg_A (pc' := 44) rfl rfl (fun _ _ _ => rfl) ?_
            refine jg_goto rfl ?_
            exact jg_zret rfl rfl (by decide) h
  · have h := jg_f h (show ¬ (jg_wr (σ.1 a0 5) = 0) from hc)
    refine jg_A (pc' := 48) rfl rfl (fun _ _ _ => rfl) ?_
    exact jg_zret rfl rfl (by decide) h
set_option maxRecDepth 100000 in
set_option maxHeartbeats 4000000 in
theorem jb_X9_advance_0 {w : Nat} {a0 : Nat} {u1 : Value} {σ : jg_M} {Q : jg_M → Prop} (h0 : jg_sh a0 = (9, 0)) (h : (if jg_wr (σ.1 a0 3) ≤ jg_wr (σ.1 a0 4) then ∀ m101 : jg_M, m101 = jg_sI σ a0 6 (σ.1 a0 4) → jg_CI w 0 mm_X9_signAt [.ref a0, .int (.ofInt (m101.1 a0 4))] m101 (fun (z103 : Int) (m102 : jg_M) => (if jg_wr z103 = (-1) then ∀ m104 : jg_M, m104 = jg_sI m102 a0 5 3 → Q m104 else jg_CI w 0 mm_X9_isLetter [.int (.ofInt z103)] m102 (fun (z106 : Int) (m105 : jg_M) => (if jg_wr z106 = 0 then jg_CI w 0 mm_X9_isDigit [.int (.ofInt z103)] m105 (fun (z108 : Int) (m107 : jg_M) => (if jg_wr z108 = 0 then (if jg_wr z103 = 59 then ∀ m109 : jg_M, m109 = jg_sI m107 a0 5 2 → ∀ m110 : jg_M, m110 = jg_sI m109 a0 4 ((m109.1 a0 4) + 1) → Q m110 else ∀ m111 : jg_M, m111 = jg_sI m107 a0 5 4 → ∀ m112 : jg_M, m112 = jg_sI m111 a0 4 ((m111.1 a0 4) + 1) → Q m112) else jg_CV w 1 mm_X9_passNumber [.ref a0] m107 (fun (m113 : jg_M) => Q m113))) else jg_CV w 1 mm_X9_passWord [.ref a0] m105 (fun (m114 : jg_M) => Q m114))))) else jg_CI w 0 mm_X9_signAt [.ref a0, .int (.ofInt (σ.1 a0 4))] σ (fun (z116 : Int) (m115 : jg_M) => jg_CI w 0 mm_X9_isBlank [.int (.ofInt z116)] m115 (fun (z118 : Int) (m117 : jg_M) => (if jg_wr z118 = 0 then ∀ m119 : jg_M, m119 = jg_sI m117 a0 6 (m117.1 a0 4) → jg_CI w 0 mm_X9_signAt [.ref a0, .int (.ofInt (m119.1 a0 4))] m119 (fun (z121 : Int) (m120 : jg_M) => (if jg_wr z121 = (-1) then ∀ m122 : jg_M, m122 = jg_sI m120 a0 5 3 → Q m122 else jg_CI w 0 mm_X9_isLetter [.int (.ofInt z121)] m120 (fun (z124 : Int) (m123 : jg_M) => (if jg_wr z124 = 0 then jg_CI w 0 mm_X9_isDigit [.int (.ofInt z121)] m123 (fun (z126 : Int) (m125 : jg_M) => (if jg_wr z126 = 0 then (if jg_wr z121 = 59 then ∀ m127 : jg_M, m127 = jg_sI m125 a0 5 2 → ∀ m128 : jg_M, m128 = jg_sI m127 a0 4 ((m127.1 a0 4) + 1) → Q m128 else ∀ m129 : jg_M, m129 = jg_sI m125 a0 5 4 → ∀ m130 : jg_M, m130 = jg_sI m129 a0 4 ((m129.1 a0 4) + 1) → Q m130) else jg_CV w 1 mm_X9_passNumber [.ref a0] m125 (fun (m131 : jg_M) => Q m131))) else jg_CV w 1 mm_X9_passWord [.ref a0] m123 (fun (m132 : jg_M) => Q m132))))) else ∀ m133 : jg_M, m133 = jg_sI m117 a0 4 ((m117.1 a0 4) + 1) → jg_GV w 2 mm_X9_advance 0 [.ref a0, u1] m133 Q))))) : jg_GV w 2 mm_X9_advance 0 [.ref a0, u1] σ Q := by
  show jg_G w 2 mm_X9_advance 0 [.ref a0, u1] [] σ (jg_QV Q)
  refine jg_A (pc' := 1) rfl rfl (fun _ _ _ => rfl) ?_
  refine jg_getI (pc' := 4) (bi := 4) rfl h0 (by decide) (Or.inl rfl) rfl rfl ?_
  refine jg_A (pc' := 5) rfl rfl (fun _ _ _ => rfl) ?_
  refine jg_getI (pc' := 8) (bi := 3) rfl h0 (by decide) (Or.inl rfl) rfl rfl ?_
  refine jg_cge (pc' := 11) rfl rfl (fun hc => ?_) (fun hc => ?_)
  · have h := jg_t h (show jg_wr (σ.1 a0 3) ≤ jg_wr (σ.1 a0 4) from hc)
    refine jg_A (pc' := 39) rfl rfl (fun _ _ _ => rfl) ?_
    refine jg_A (pc' := 40) rfl rfl (fun _ _ _ => rfl) ?_
    refine jg_getI (pc' := 43) (bi := 4) rfl h0 (by decide) (Or.inl rfl) rfl rfl ?_
    refine jg_putI (pc' := 46) (bi := 6) rfl h0 (by decide) rfl rfl rfl rfl (fun m101 hm101 => ?_)
    have h := h m101 hm101
    refine jg_A (pc' := 47) rfl rfl (fun _ _ _ => rfl) ?_
    refine jg_A (pc' := 48) rfl rfl (fun _ _ _ => rfl) ?_
    refine jg_getI (pc' := 51) (bi := 4) rfl h0 (by decide) (Or.inl rfl) rfl rfl ?_
    refine jg_calX (M1 := mm_X9_signAt) (hy := 0) (pc' := 54) rfl jm_X9_signAt (by decide) rfl h0 (by decide) ⟨Nat.le_of_ble_eq_true rfl, rfl⟩ (Nat.le_of_ble_eq_true rfl) rfl h (jg_kI (fun z103 m102 h => ?_))
    refine jg_A (pc' := 55) (ls' := [.ref a0, .int (.ofInt z103)]) rfl rfl (fun _ _ _ => rfl) ?_
    refine jg_A (pc' := 56) rfl rfl (fun _ _ _ => rfl) ?_
    refine jg_A (pc' := 57) rfl rfl (fun _ _ _ => rfl) ?_
    refine jg_cne (pc' := 60) rfl rfl (fun hc => ?_) (fun hc => ?_)
    · have h := jg_t h (show jg_wr z103 = (-1) from hc)
      refine jg_A (pc' := 61) rfl rfl (fun _ _ _ => rfl) ?_
      refine jg_A (pc' := 62) rfl rfl (fun _ _ _ => rfl) ?_
      refine jg_putI (pc' := 65) (bi := 5) rfl h0 (by decide) rfl rfl rfl rfl (fun m104 hm104 => ?_)
      have h := h m104 hm104
      refine jg_goto rfl ?_
      exact jg_vret rfl rfl h
    · have h := jg_f h (show ¬ (jg_wr z103 = (-1)) from hc)
      refine jg_A (pc' := 69) rfl rfl (fun _ _ _ => rfl) ?_
      refine jg_calS (M1 := mm_X9_isLetter) (hy := 0) (pc' := 72) rfl (Or.inl rfl) jm_X9_isLetter (by decide) rfl ⟨Nat.le_of_ble_eq_true rfl, rfl⟩ (Nat.le_of_ble_eq_true rfl) rfl h (jg_kI (fun z106 m105 h => ?_))
      refine jg_ifeq (pc' := 75) rfl rfl (fun hc => ?_) (fun hc => ?_)
      · have h := jg_t h (show jg_wr z106 = 0 from hc)
        refine jg_A (pc' := 83) rfl rfl (fun _ _ _ => rfl) ?_
        refine jg_calS (M1 := mm_X9_isDigit) (hy := 0) (pc' := 86) rfl (Or.inl rfl) jm_X9_isDigit (by decide) rfl ⟨Nat.le_of_ble_eq_true rfl, rfl⟩ (Nat.le_of_ble_eq_true rfl) rfl h (jg_kI (fun z108 m107 h => ?_))
        refine jg_ifeq (pc' := 89) rfl rfl (fun hc => ?_) (fun hc => ?_)
        · have h := jg_t h (show jg_wr z108 = 0 from hc)
          refine jg_A (pc' := 97) rfl rfl (fun _ _ _ => rfl) ?_
          refine jg_A (pc' := 98) rfl rfl (fun _ _ _ => rfl) ?_
          refine jg_A (pc' := 100) rfl rfl (fun _ _ _ => rfl) ?_
          refine jg_cne (pc' := 103) rfl rfl (fun hc => ?_) (fun hc => ?_)
          · have h := jg_t h (show jg_wr z103 = 59 from hc)
            refine jg_A (pc' := 104) rfl rfl (fun _ _ _ => rfl) ?_
            refine jg_goto rfl ?_
            refine jg_putI (pc' := 111) (bi := 5) rfl h0 (by decide) rfl rfl rfl rfl (fun m109 hm109 => ?_)
            have h := h m109 hm109
            refine jg_A (pc' := 112) rfl rfl (fun _ _ _ => rfl) ?_
            refine jg_A (pc' := 113) rfl rfl (fun _ _ _ => rfl) ?_
            refine jg_getI (pc' := 116) (bi := 4) rfl h0 (by decide) (Or.inl rfl) rfl rfl ?_
            refine jg_A (pc' := 117) rfl rfl (fun _ _ _ => rfl) ?_
            refine jg_iadd (pc' := 118) rfl rfl ?_
            refine jg_putI (pc' := 121) (bi := 4) rfl h0 (by decide) rfl rfl rfl rfl (fun m110 hm110 => ?_)
            have h := h m110 hm110
            exact jg_vret rfl rfl h
          · have h := jg_f h (show ¬ (jg_wr z103 = 59) from hc)
            refine jg_A (pc' := 108) rfl rfl (fun _ _ _ => rfl) ?_
            refine jg_putI (pc' := 111) (bi := 5) rfl h0 (by decide) rfl rfl rfl rfl (fun m111 hm111 => ?_)
            have h := h m111 hm111
            refine jg_A (pc' := 112) rfl rfl (fun _ _ _ => rfl) ?_
            refine jg_A (pc' := 113) rfl rfl (fun _ _ _ => rfl) ?_
            refine jg_getI (pc' := 116) (bi := 4) rfl h0 (by decide) (Or.inl rfl) rfl rfl ?_
            refine jg_A (pc' := 117) rfl rfl (fun _ _ _ => rfl) ?_
            refine jg_iadd (pc' := 118) rfl rfl ?_
            refine jg_putI (pc' := 121) (bi := 4) rfl h0 (by decide) rfl rfl rfl rfl (fun m112 hm112 => ?_)
            have h := h m112 hm112
            exact jg_vret rfl rfl h
        · have h := jg_f h (show ¬ (jg_wr z108 = 0) from hc)
          refine jg_A (pc' := 90) rfl rfl (fun _ _ _ => rfl) ?_
          refine jg_calX (M1 := mm_X9_passNumber) (hy := 1) (pc' := 93) rfl jm_X9_passNumber (by decide) rfl h0 (by decide) ⟨Nat.le_of_ble_eq_true rfl, rfl⟩ (Nat.le_of_ble_eq_true rfl) rfl h (jg_kV (fun m113 h => ?_))
          refine jg_goto rfl ?_
          exact jg_vret rfl rfl h
      · have h := jg_f h (show ¬ (jg_wr z106 = 0) from hc)
        refine jg_A (pc' := 76) rfl rfl (fun _ _ _ => rfl) ?_
        refine jg_calX (M1 := mm_X9_passWord) (hy := 1) (pc' := 79) rfl jm_X9_passWord (by decide) rfl h0 (by decide) ⟨Nat.le_of_ble_eq_true rfl, rfl⟩ (Nat.le_of_ble_eq_true rfl) rfl h (jg_kV (fun m114 h => ?_))
        refine jg_goto rfl ?_
        exact jg_vret rfl rfl h
  · have h := jg_f h (show ¬ (jg_wr (σ.1 a0 3) ≤ jg_wr (σ.1 a0 4)) from hc)
    refine jg_A (pc' := 12) rfl rfl (fun _ _ _ => rfl) ?_
    refine jg_A (pc' := 13) rfl rfl (fun _ _ _ => rfl) ?_
    refine jg_getI (pc' := 16) (bi := 4) rfl h0 (by decide) (Or.inl rfl) rfl rfl ?_
    refine jg_calX (M1 := mm_X9_signAt) (hy := 0) (pc' := 19) rfl jm_X9_signAt (by decide) rfl h0 (by decide) ⟨Nat.le_of_ble_eq_true rfl, rfl⟩ (Nat.le_of_ble_eq_true rfl) rfl h (jg_kI (fun z116 m115 h => ?_))
    refine jg_calS (M1 := mm_X9_isBlank) (hy := 0) (pc' := 22) rfl (Or.inl rfl) jm_X9_isBlank (by decide) rfl ⟨Nat.le_of_ble_eq_true rfl, rfl⟩ (Nat.le_of_ble_eq_true rfl) rfl h (jg_kI (fun z118 m117 h => ?_))
    refine jg_ifeq (pc' := 25) rfl rfl (fun hc => ?_) (fun hc => ?_)
    · have h := jg_t h (show jg_wr z118 = 0 from hc)
      refine jg_A (pc' := 39) rfl rfl (fun _ _ _ => rfl) ?_
      refine jg_A (pc' := 40) rfl rfl (fun _ _ _ => rfl) ?_
      refine jg_getI (pc' := 43) (bi := 4) rfl h0 (by decide) (Or.inl rfl) rfl rfl ?_
      refine jg_putI (pc' := 46) (bi := 6) rfl h0 (by decide) rfl rfl rfl rfl (fun m119 hm119 => ?_)
      have h := h m119 hm119
      refine jg_A (pc' := 47) rfl rfl (fun _ _ _ => rfl) ?_
      refine jg_A (pc' := 48) rfl rfl (fun _ _ _ => rfl) ?_
      refine jg_getI (pc' := 51) (bi := 4) rfl h0 (by decide) (Or.inl rfl) rfl rfl ?_
      refine jg_calX (M1 := mm_X9_signAt) (hy := 0) (pc' := 54) rfl jm_X9_signAt (by decide) rfl h0 (by decide) ⟨Nat.le_of_ble_eq_true rfl, rfl⟩ (Nat.le_of_ble_eq_true rfl) rfl h (jg_kI (fun z121 m120 h => ?_))
      refine jg_A (pc' := 55) (ls' := [.ref a0, .int (.ofInt z121)]) rfl rfl (fun _ _ _ => rfl) ?_
      refine jg_A (pc' := 56) rfl rfl (fun _ _ _ => rfl) ?_
      refine jg_A (pc' := 57) rfl rfl (fun _ _ _ => rfl) ?_
      refine jg_cne (pc' := 60) rfl rfl (fun hc => ?_) (fun hc => ?_)
      · have h := jg_t h (show jg_wr z121 = (-1) from hc)
        refine jg_A (pc' := 61) rfl rfl (fun _ _ _ => rfl) ?_
        refine jg_A (pc' := 62) rfl rfl (fun _ _ _ => rfl) ?_
        refine jg_putI (pc' := 65) (bi := 5) rfl h0 (by decide) rfl rfl rfl rfl (fun m122 hm122 => ?_)
        have h := h m122 hm122
        refine jg_goto rfl ?_
        exact jg_vret rfl rfl h
      · have h := jg_f h (show ¬ (jg_wr z121 = (-1)) from hc)
        refine jg_A (pc' := 69) rfl rfl (fun _ _ _ => rfl) ?_
        refine jg_calS (M1 := mm_X9_isLetter) (hy := 0) (pc' := 72) rfl (Or.inl rfl) jm_X9_isLetter (by decide) rfl ⟨Nat.le_of_ble_eq_true rfl, rfl⟩ (Nat.le_of_ble_eq_true rfl) rfl h (jg_kI (fun z124 m123 h => ?_))
        refine jg_ifeq (pc' := 75) rfl rfl (fun hc => ?_) (fun hc => ?_)
        · have h := jg_t h (show jg_wr z124 = 0 from hc)
          refine jg_A (pc' := 83) rfl rfl (fun _ _ _ => rfl) ?_
          refine jg_calS (M1 := mm_X9_isDigit) (hy := 0) (pc' := 86) rfl (Or.inl rfl) jm_X9_isDigit (by decide) rfl ⟨Nat.le_of_ble_eq_true rfl, rfl⟩ (Nat.le_of_ble_eq_true rfl) rfl h (jg_kI (fun z126 m125 h => ?_))
          refine jg_ifeq (pc' := 89) rfl rfl (fun hc => ?_) (fun hc => ?_)
          · have h := jg_t h (show jg_wr z126 = 0 from hc)
            refine jg_A (pc' := 97) rfl rfl (fun _ _ _ => rfl) ?_
            refine jg_A (pc' := 98) rfl rfl (fun _ _ _ => rfl) ?_
            refine jg_A (pc' := 100) rfl rfl (fun _ _ _ => rfl) ?_
            refine jg_cne (pc' := 103) rfl rfl (fun hc => ?_) (fun hc => ?_)
            · have h := jg_t h (show jg_wr z121 = 59 from hc)
              refine jg_A (pc' := 104) rfl rfl (fun _ _ _ => rfl) ?_
              refine jg_goto rfl ?_
              refine jg_putI (pc' := 111) (bi := 5) rfl h0 (by decide) rfl rfl rfl rfl (fun m127 hm127 => ?_)
              have h := h m127 hm127
              refine jg_A (pc' := 112) rfl rfl (fun _ _ _ => rfl) ?_
              refine jg_A (pc' := 113) rfl rfl (fun _ _ _ => rfl) ?_
              refine jg_getI (pc' := 116) (bi := 4) rfl h0 (by decide) (Or.inl rfl) rfl rfl ?_
              refine jg_A (pc' := 117) rfl rfl (fun _ _ _ => rfl) ?_
              refine jg_iadd (pc' := 118) rfl rfl ?_
              refine jg_putI (pc' := 121) (bi := 4) rfl h0 (by decide) rfl rfl rfl rfl (fun m128 hm128 => ?_)
              have h := h m128 hm128
              exact jg_vret rfl rfl h
            · have h := jg_f h (show ¬ (jg_wr z121 = 59) from hc)
              refine jg_A (pc' := 108) rfl rfl (fun _ _ _ => rfl) ?_
              refine jg_putI (pc' := 111) (bi := 5) rfl h0 (by decide) rfl rfl rfl rfl (fun m129 hm129 => ?_)
              have h := h m129 hm129
              refine jg_A (pc' := 112) rfl rfl (fun _ _ _ => rfl) ?_
              refine jg_A (pc' := 113) rfl rfl (fun _ _ _ => rfl) ?_
              refine jg_getI (pc' := 116) (bi := 4) rfl h0 (by decide) (Or.inl rfl) rfl rfl ?_
              refine jg_A (pc' := 117) rfl rfl (fun _ _ _ => rfl) ?_
              refine jg_iadd (pc' := 118) rfl rfl ?_
              refine jg_putI (pc' := 121) (bi := 4) rfl h0 (by decide) rfl rfl rfl rfl (fun m130 hm130 => ?_)
              have h := h m130 hm130
              exact jg_vret rfl rfl h
          · have h := jg_f h (show ¬ (jg_wr z126 = 0) from hc)
            refine jg_A (pc' := 90) rfl rfl (fun _ _ _ => rfl) ?_
            refine jg_calX (M1 := mm_X9_passNumber) (hy := 1) (pc' := 93) rfl jm_X9_passNumber (by decide) rfl h0 (by decide) ⟨Nat.le_of_ble_eq_true rfl, rfl⟩ (Nat.le_of_ble_eq_true rfl) rfl h (jg_kV (fun m131 h => ?_))
            refine jg_goto rfl ?_
            exact jg_vret rfl rfl h
        · have h := jg_f h (show ¬ (jg_wr z124 = 0) from hc)
          refine jg_A (pc' := 76) rfl rfl (fun _ _ _ => rfl) ?_
          refine jg_calX (M1 := mm_X9_passWord) (hy := 1) (pc' := 79) rfl jm_X9_passWord (by decide) rfl h0 (by decide) ⟨Nat.le_of_ble_eq_true rfl, rfl⟩ (Nat.le_of_ble_eq_true rfl) rfl h (jg_kV (fun m132 h => ?_))
          refine jg_goto rfl ?_
          exact jg_vret rfl rfl h
    · have h := jg_f h (show ¬ (jg_wr z118 = 0) from hc)
      refine jg_A (pc' := 26) rfl rfl (fun _ _ _ => rfl) ?_
      refine jg_A (pc' := 27) rfl rfl (fun _ _ _ => rfl) ?_
      refine jg_getI (pc' := 30) (bi := 4) rfl h0 (by decide) (Or.inl rfl) rfl rfl ?_
      refine jg_A (pc' := 31) rfl rfl (fun _ _ _ => rfl) ?_
      refine jg_iadd (pc' := 32) rfl rfl ?_
      refine jg_putI (pc' := 35) (bi := 4) rfl h0 (by decide) rfl rfl rfl rfl (fun m133 hm133 => ?_)
      have h := h m133 hm133
      refine jg_goto rfl ?_
      exact h
set_option maxRecDepth 100000 in
set_option maxHeartbeats 4000000 in
theorem jb_X9_passWord_0 {w : Nat} {a0 : Nat} {σ : jg_M} {Q : jg_M → Prop} (h0 : jg_sh a0 = (9, 0)) (h : ∀ m101 : jg_M, m101 = jg_sI σ a0 7 0 → jg_GV w 1 mm_X9_passWord 5 [.ref a0, mj_U] m101 Q) : jg_CV w 1 mm_X9_passWord [.ref a0] σ Q := by
  show jg_G w 1 mm_X9_passWord 0 [.ref a0, mj_U] [] σ (jg_QV Q)
  refine jg_A (pc' := 1) rfl rfl (fun _ _ _ => rfl) ?_
  refine jg_A (pc' := 2) rfl rfl (fun _ _ _ => rfl) ?_
  refine jg_putI (pc' := 5) (bi := 7) rfl h0 (by decide) rfl rfl rfl rfl (fun m101 hm101 => ?_)
  have h := h m101 hm101
  exact h
set_option maxRecDepth 100000 in
set_option maxHeartbeats 4000000 in
theorem jb_X9_passWord_5 {w : Nat} {a0 : Nat} {u1 : Value} {σ : jg_M} {Q : jg_M → Prop} (h0 : jg_sh a0 = (9, 0)) (h : (if jg_wr (σ.1 a0 3) ≤ jg_wr (σ.1 a0 4) then (if jg_wr ((σ.1 a0 4) - (σ.1 a0 6)) ≤ 6 then ∀ m101 : jg_M, m101 = jg_sI σ a0 5 0 → Q m101 else ∀ m102 : jg_M, m102 = jg_sI σ a0 5 4 → Q m102) else jg_CI w 0 mm_X9_signAt [.ref a0, .int (.ofInt (σ.1 a0 4))] σ (fun (z104 : Int) (m103 : jg_M) => jg_CI w 0 mm_X9_isLetter [.int (.ofInt z104)] m103 (fun (z106 : Int) (m105 : jg_M) => (if jg_wr z106 = 0 then (if jg_wr ((m105.1 a0 4) - (m105.1 a0 6)) ≤ 6 then ∀ m107 : jg_M, m107 = jg_sI m105 a0 5 0 → Q m107 else ∀ m108 : jg_M, m108 = jg_sI m105 a0 5 4 → Q m108) else ∀ t109 : Int, t109 = ((m105.1 a0 4) - (m105.1 a0 6)) → (if 6 ≤ jg_wr t109 then ∀ m110 : jg_M, m110 = jg_sI m105 a0 4 ((m105.1 a0 4) + 1) → jg_GV w 1 mm_X9_passWord 5 [.ref a0, .int (.ofInt t109)] m110 Q else jg_CI w 0 mm_X9_signAt [.ref a0, .int (.ofInt (m105.1 a0 4))] m105 (fun (z112 : Int) (m111 : jg_M) => ∀ m113 : jg_M, m113 = jg_sI m111 a0 7 (jg_or (m105.1 a0 7) (jg_shl ((z112 - 97) + 1) ((5 - t109) * 5))) → ∀ m114 : jg_M, m114 = jg_sI m113 a0 4 ((m113.1 a0 4) + 1) → jg_GV w 1 mm_X9_passWord 5 [.ref a0, .int (.ofInt t109)] m114 Q))))))) : jg_GV w 1 mm_X9_passWord 5 [.ref a0, u1] σ Q := by
  show jg_G w 1 mm_X9_passWord 5 [.ref a0, u1] [] σ (jg_QV Q)
  refine jg_A (pc' := 6) rfl rfl (fun _ _ _ => rfl) ?_
  refine jg_getI (pc' := 9) (bi := 4) rfl h0 (by decide) (Or.inl rfl) rfl rfl ?_
  refine jg_A (pc' := 10) rfl rfl (fun _ _ _ => rfl) ?_
  refine jg_getI (pc' := 13) (bi := 3) rfl h0 (by decide) (Or.inl rfl) rfl rfl ?_
  refine jg_cge (pc' := 16) rfl rfl (fun hc => ?_) (fun hc => ?_)
  · have h := jg_t h (show jg_wr (σ.1 a0 3) ≤ jg_wr (σ.1 a0 4) from hc)
    refine jg_A (pc' := 88) rfl rfl (fun _ _ _ => rfl) ?_
    refine jg_A (pc' := 89) rfl rfl (fun _ _ _ => rfl) ?_
    refine jg_getI (pc' := 92) (bi := 4) rfl h0 (by decide) (Or.inl rfl) rfl rfl ?_
    refine jg_A (pc' := 93) rfl rfl (fun _ _ _ => rfl) ?_
    refine jg_getI (pc' := 96) (bi := 6) rfl h0 (by decide) (Or.inl rfl) rfl rfl ?_
    refine jg_isub (pc' := 97) rfl rfl ?_
    refine jg_A (pc' := 99) rfl rfl (fun _ _ _ => rfl) ?_
    refine jg_cle (pc' := 102) rfl rfl (fun hc => ?_) (fun hc => ?_)
    · have h := jg_t h (show jg_wr ((σ.1 a0 4) - (σ.1 a0 6)) ≤ 6 from hc)
      refine jg_A (pc' := 107) rfl rfl (fun _ _ _ => rfl) ?_
      refine jg_putI (pc' := 110) (bi := 5) rfl h0 (by decide) rfl rfl rfl rfl (fun m101 hm101 => ?_)
      have h := h m101 hm101
      exact jg_vret rfl rfl h
    · have h := jg_f h (show ¬ (jg_wr ((σ.1 a0 4) - (σ.1 a0 6)) ≤ 6) from hc)
      refine jg_A (pc' := 103) rfl rfl (fun _ _ _ => rfl) ?_
      refine jg_goto rfl ?_
      refine jg_putI (pc' := 110) (bi := 5) rfl h0 (by decide) rfl rfl rfl rfl (fun m102 hm102 => ?_)
      have h := h m102 hm102
      exact jg_vret rfl rfl h
  · have h := jg_f h (show ¬ (jg_wr (σ.1 a0 3) ≤ jg_wr (σ.1 a0 4)) from hc)
    refine jg_A (pc' := 17) rfl rfl (fun _ _ _ => rfl) ?_
    refine jg_A (pc' := 18) rfl rfl (fun _ _ _ => rfl) ?_
    refine jg_getI (pc' := 21) (bi := 4) rfl h0 (by decide) (Or.inl rfl) rfl rfl ?_
    refine jg_calX (M1 := mm_X9_signAt) (hy := 0) (pc' := 24) rfl jm_X9_signAt (by decide) rfl h0 (by decide) ⟨Nat.le_of_ble_eq_true rfl, rfl⟩ (Nat.le_of_ble_eq_true rfl) rfl h (jg_kI (fun z104 m103 h => ?_))
    refine jg_calS (M1 := mm_X9_isLetter) (hy := 0) (pc' := 27) rfl (Or.inl rfl) jm_X9_isLetter (by decide) rfl ⟨Nat.le_of_ble_eq_true rfl, rfl⟩ (Nat.le_of_ble_eq_true rfl) rfl h (jg_kI (fun z106 m105 h => ?_))
    refine jg_ifeq (pc' := 30) rfl rfl (fun hc => ?_) (fun hc => ?_)
    · have h := jg_t h (show jg_wr z106 = 0 from hc)
      refine jg_A (pc' := 88) rfl rfl (fun _ _ _ => rfl) ?_
      refine jg_A (pc' := 89) rfl rfl (fun _ _ _ => rfl) ?_
      refine jg_getI (pc' := 92) (bi := 4) rfl h0 (by decide) (Or.inl rfl) rfl rfl ?_
      refine jg_A (pc' := 93) rfl rfl (fun _ _ _ => rfl) ?_
      refine jg_getI (pc' := 96) (bi := 6) rfl h0 (by decide) (Or.inl rfl) rfl rfl ?_
      refine jg_isub (pc' := 97) rfl rfl ?_
      refine jg_A (pc' := 99) rfl rfl (fun _ _ _ => rfl) ?_
      refine jg_cle (pc' := 102) rfl rfl (fun hc => ?_) (fun hc => ?_)
      · have h := jg_t h (show jg_wr ((m105.1 a0 4) - (m105.1 a0 6)) ≤ 6 from hc)
        refine jg_A (pc' := 107) rfl rfl (fun _ _ _ => rfl) ?_
        refine jg_putI (pc' := 110) (bi := 5) rfl h0 (by decide) rfl rfl rfl rfl (fun m107 hm107 => ?_)
        have h := h m107 hm107
        exact jg_vret rfl rfl h
      · have h := jg_f h (show ¬ (jg_wr ((m105.1 a0 4) - (m105.1 a0 6)) ≤ 6) from hc)
        refine jg_A (pc' := 103) rfl rfl (fun _ _ _ => rfl) ?_
        refine jg_goto rfl ?_
        refine jg_putI (pc' := 110) (bi := 5) rfl h0 (by decide) rfl rfl rfl rfl (fun m108 hm108 => ?_)
        have h := h m108 hm108
        exact jg_vret rfl rfl h
    · have h := jg_f h (show ¬ (jg_wr z106 = 0) from hc)
      refine jg_A (pc' := 31) rfl rfl (fun _ _ _ => rfl) ?_
      refine jg_getI (pc' := 34) (bi := 4) rfl h0 (by decide) (Or.inl rfl) rfl rfl ?_
      refine jg_A (pc' := 35) rfl rfl (fun _ _ _ => rfl) ?_
      refine jg_getI (pc' := 38) (bi := 6) rfl h0 (by decide) (Or.inl rfl) rfl rfl ?_
      refine jg_isub (pc' := 39) rfl rfl ?_
      refine jg_nm (F := fun t109 => jg_G w 1 mm_X9_passWord 39 [.ref a0, u1] [.int (.ofInt t109)] m105 (jg_QV Q)) ((m105.1 a0 4) - (m105.1 a0 6)) (fun t109 ht109 => ?_)
      have h := h t109 ht109
      refine jg_A (pc' := 40) (ls' := [.ref a0, .int (.ofInt t109)]) rfl rfl (fun _ _ _ => rfl) ?_
      refine jg_A (pc' := 41) rfl rfl (fun _ _ _ => rfl) ?_
      refine jg_A (pc' := 43) rfl rfl (fun _ _ _ => rfl) ?_
      refine jg_cge (pc' := 46) rfl rfl (fun hc => ?_) (fun hc => ?_)
      · have h := jg_t h (show 6 ≤ jg_wr t109 from hc)
        refine jg_A (pc' := 75) rfl rfl (fun _ _ _ => rfl) ?_
        refine jg_A (pc' := 76) rfl rfl (fun _ _ _ => rfl) ?_
        refine jg_getI (pc' := 79) (bi := 4) rfl h0 (by decide) (Or.inl rfl) rfl rfl ?_
        refine jg_A (pc' := 80) rfl rfl (fun _ _ _ => rfl) ?_
        refine jg_iadd (pc' := 81) rfl rfl ?_
        refine jg_putI (pc' := 84) (bi := 4) rfl h0 (by decide) rfl rfl rfl rfl (fun m110 hm110 => ?_)
        have h := h m110 hm110
        refine jg_goto rfl ?_
        exact h
      · have h := jg_f h (show ¬ (6 ≤ jg_wr t109) from hc)
        refine jg_A (pc' := 47) rfl rfl (fun _ _ _ => rfl) ?_
        refine jg_A (pc' := 48) rfl rfl (fun _ _ _ => rfl) ?_
        refine jg_getI (pc' := 51) (bi := 7) rfl h0 (by decide) (Or.inl rfl) rfl rfl ?_
        refine jg_A (pc' := 52) rfl rfl (fun _ _ _ => rfl) ?_
        refine jg_A (pc' := 53) rfl rfl (fun _ _ _ => rfl) ?_
        refine jg_getI (pc' := 56) (bi := 4) rfl h0 (by decide) (Or.inl rfl) rfl rfl ?_
        refine jg_calX (M1 := mm_X9_signAt) (hy := 0) (pc' := 59) rfl jm_X9_signAt (by decide) rfl h0 (by decide) ⟨Nat.le_of_ble_eq_true rfl, rfl⟩ (Nat.le_of_ble_eq_true rfl) rfl h (jg_kI (fun z112 m111 h => ?_))
        refine jg_A (pc' := 61) rfl rfl (fun _ _ _ => rfl) ?_
        refine jg_isub (pc' := 62) rfl rfl ?_
        refine jg_A (pc' := 63) rfl rfl (fun _ _ _ => rfl) ?_
        refine jg_iadd (pc' := 64) rfl rfl ?_
        refine jg_A (pc' := 65) rfl rfl (fun _ _ _ => rfl) ?_
        refine jg_A (pc' := 66) rfl rfl (fun _ _ _ => rfl) ?_
        refine jg_isub (pc' := 67) rfl rfl ?_
        refine jg_A (pc' := 68) rfl rfl (fun _ _ _ => rfl) ?_
        refine jg_imul (pc' := 69) rfl rfl ?_
        refine jg_ishl (pc' := 70) rfl rfl ?_
        refine jg_ior (pc' := 71) rfl rfl ?_
        refine jg_putI (pc' := 74) (bi := 7) rfl h0 (by decide) rfl rfl rfl rfl (fun m113 hm113 => ?_)
        have h := h m113 hm113
        refine jg_A (pc' := 75) rfl rfl (fun _ _ _ => rfl) ?_
        refine jg_A (pc' := 76) rfl rfl (fun _ _ _ => rfl) ?_
        refine jg_getI (pc' := 79) (bi := 4) rfl h0 (by decide) (Or.inl rfl) rfl rfl ?_
        refine jg_A (pc' := 80) rfl rfl (fun _ _ _ => rfl) ?_
        refine jg_iadd (pc' := 81) rfl rfl ?_
        refine jg_putI (pc' := 84) (bi := 4) rfl h0 (by decide) rfl rfl rfl rfl (fun m114 hm114 => ?_)
        have h := h m114 hm114
        refine jg_goto rfl ?_
        exact h
set_option maxRecDepth 100000 in
set_option maxHeartbeats 4000000 in
theorem jb_X9_passNumber_0 {w : Nat} {a0 : Nat} {σ : jg_M} {Q : jg_M → Prop} (h0 : jg_sh a0 = (9, 0)) (h : ∀ m101 : jg_M, m101 = jg_sI σ a0 8 0 → jg_GV w 1 mm_X9_passNumber 5 [.ref a0] m101 Q) : jg_CV w 1 mm_X9_passNumber [.ref a0] σ Q := by
  show jg_G w 1 mm_X9_passNumber 0 [.ref a0] [] σ (jg_QV Q)
  refine jg_A (pc' := 1) rfl rfl (fun _ _ _ => rfl) ?_
  refine jg_A (pc' := 2) rfl rfl (fun _ _ _ => rfl) ?_
  refine jg_putI (pc' := 5) (bi := 8) rfl h0 (by decide) rfl rfl rfl rfl (fun m101 hm101 => ?_)
  have h := h m101 hm101
  exact h
set_option maxRecDepth 100000 in
set_option maxHeartbeats 4000000 in
theorem jb_X9_passNumber_5 {w : Nat} {a0 : Nat} {σ : jg_M} {Q : jg_M → Prop} (h0 : jg_sh a0 = (9, 0)) (h : (if jg_wr (σ.1 a0 3) ≤ jg_wr (σ.1 a0 4) then ∀ m101 : jg_M, m101 = jg_sI σ a0 5 1 → Q m101 else jg_CI w 0 mm_X9_signAt [.ref a0, .int (.ofInt (σ.1 a0 4))] σ (fun (z103 : Int) (m102 : jg_M) => jg_CI w 0 mm_X9_isDigit [.int (.ofInt z103)] m102 (fun (z105 : Int) (m104 : jg_M) => (if jg_wr z105 = 0 then ∀ m106 : jg_M, m106 = jg_sI m104 a0 5 1 → Q m106 else jg_CI w 0 mm_X9_signAt [.ref a0, .int (.ofInt (m104.1 a0 4))] m104 (fun (z108 : Int) (m107 : jg_M) => ∀ m109 : jg_M, m109 = jg_sI m107 a0 8 (if jg_wr ((((m104.1 a0 8) * 10) + z108) - 48) < 1000 then ((((m104.1 a0 8) * 10) + z108) - 48) else 1000) → ∀ m110 : jg_M, m110 = jg_sI m109 a0 4 ((m109.1 a0 4) + 1) → jg_GV w 1 mm_X9_passNumber 5 [.ref a0] m110 Q)))))) : jg_GV w 1 mm_X9_passNumber 5 [.ref a0] σ Q := by
  show jg_G w 1 mm_X9_passNumber 5 [.ref a0] [] σ (jg_QV Q)
  refine jg_A (pc' := 6) rfl rfl (fun _ _ _ => rfl) ?_
  refine jg_getI (pc' := 9) (bi := 4) rfl h0 (by decide) (Or.inl rfl) rfl rfl ?_
  refine jg_A (pc' := 10) rfl rfl (fun _ _ _ => rfl) ?_
  refine jg_getI (pc' := 13) (bi := 3) rfl h0 (by decide) (Or.inl rfl) rfl rfl ?_
  refine jg_cge (pc' := 16) rfl rfl (fun hc => ?_) (fun hc => ?_)
  · have h := jg_t h (show jg_wr (σ.1 a0 3) ≤ jg_wr (σ.1 a0 4) from hc)
    refine jg_A (pc' := 73) rfl rfl (fun _ _ _ => rfl) ?_
    refine jg_A (pc' := 74) rfl rfl (fun _ _ _ => rfl) ?_
    refine jg_putI (pc' := 77) (bi := 5) rfl h0 (by decide) rfl rfl rfl rfl (fun m101 hm101 => ?_)
    have h := h m101 hm101
    exact jg_vret rfl rfl h
  · have h := jg_f h (show ¬ (jg_wr (σ.1 a0 3) ≤ jg_wr (σ.1 a0 4)) from hc)
    refine jg_A (pc' := 17) rfl rfl (fun _ _ _ => rfl) ?_
    refine jg_A (pc' := 18) rfl rfl (fun _ _ _ => rfl) ?_
    refine jg_getI (pc' := 21) (bi := 4) rfl h0 (by decide) (Or.inl rfl) rfl rfl ?_
    refine jg_calX (M1 := mm_X9_signAt) (hy := 0) (pc' := 24) rfl jm_X9_signAt (by decide) rfl h0 (by decide) ⟨Nat.le_of_ble_eq_true rfl, rfl⟩ (Nat.le_of_ble_eq_true rfl) rfl h (jg_kI (fun z103 m102 h => ?_))
    refine jg_calS (M1 := mm_X9_isDigit) (hy := 0) (pc' := 27) rfl (Or.inl rfl) jm_X9_isDigit (by decide) rfl ⟨Nat.le_of_ble_eq_true rfl, rfl⟩ (Nat.le_of_ble_eq_true rfl) rfl h (jg_kI (fun z105 m104 h => ?_))
    refine jg_ifeq (pc' := 30) rfl rfl (fun hc => ?_) (fun hc => ?_)
    · have h := jg_t h (show jg_wr z105 = 0 from hc)
      refine jg_A (pc' := 73) rfl rfl (fun _ _ _ => rfl) ?_
      refine jg_A (pc' := 74) rfl rfl (fun _ _ _ => rfl) ?_
      refine jg_putI (pc' := 77) (bi := 5) rfl h0 (by decide) rfl rfl rfl rfl (fun m106 hm106 => ?_)
      have h := h m106 hm106
      exact jg_vret rfl rfl h
    · have h := jg_f h (show ¬ (jg_wr z105 = 0) from hc)
      refine jg_A (pc' := 31) rfl rfl (fun _ _ _ => rfl) ?_
      refine jg_A (pc' := 34) rfl rfl (fun _ _ _ => rfl) ?_
      refine jg_A (pc' := 35) rfl rfl (fun _ _ _ => rfl) ?_
      refine jg_getI (pc' := 38) (bi := 8) rfl h0 (by decide) (Or.inl rfl) rfl rfl ?_
      refine jg_A (pc' := 40) rfl rfl (fun _ _ _ => rfl) ?_
      refine jg_imul (pc' := 41) rfl rfl ?_
      refine jg_A (pc' := 42) rfl rfl (fun _ _ _ => rfl) ?_
      refine jg_A (pc' := 43) rfl rfl (fun _ _ _ => rfl) ?_
      refine jg_getI (pc' := 46) (bi := 4) rfl h0 (by decide) (Or.inl rfl) rfl rfl ?_
      refine jg_calX (M1 := mm_X9_signAt) (hy := 0) (pc' := 49) rfl jm_X9_signAt (by decide) rfl h0 (by decide) ⟨Nat.le_of_ble_eq_true rfl, rfl⟩ (Nat.le_of_ble_eq_true rfl) rfl h (jg_kI (fun z108 m107 h => ?_))
      refine jg_iadd (pc' := 50) rfl rfl ?_
      refine jg_A (pc' := 52) rfl rfl (fun _ _ _ => rfl) ?_
      refine jg_isub (pc' := 53) rfl rfl ?_
      refine jg_min (pc' := 56) rfl (by decide) (Nat.le_of_ble_eq_true rfl) rfl ?_
      refine jg_putI (pc' := 59) (bi := 8) rfl h0 (by decide) rfl rfl rfl rfl (fun m109 hm109 => ?_)
      have h := h m109 hm109
      refine jg_A (pc' := 60) rfl rfl (fun _ _ _ => rfl) ?_
      refine jg_A (pc' := 61) rfl rfl (fun _ _ _ => rfl) ?_
      refine jg_getI (pc' := 64) (bi := 4) rfl h0 (by decide) (Or.inl rfl) rfl rfl ?_
      refine jg_A (pc' := 65) rfl rfl (fun _ _ _ => rfl) ?_
      refine jg_iadd (pc' := 66) rfl rfl ?_
      refine jg_putI (pc' := 69) (bi := 4) rfl h0 (by decide) rfl rfl rfl rfl (fun m110 hm110 => ?_)
      have h := h m110 hm110
      refine jg_goto rfl ?_
      exact h
set_option maxRecDepth 100000 in
set_option maxHeartbeats 4000000 in
theorem jb_X9_signAt_0 {w : Nat} {a0 : Nat} {x1 : Int} {σ : jg_M} {Q : Int → jg_M → Prop} (h0 : jg_sh a0 = (9, 0)) (h : (if jg_wr x1 < 0 then Q (-1) σ else (if jg_wr (σ.1 a0 3) ≤ jg_wr x1 then Q (-1) σ else (if 700 ≤ jg_wr x1 then Q (-1) σ else ((0 : Int) ≤ jg_wr x1 ∧ jg_wr x1 < (700 : Int)) ∧ Q (σ.1 (a0 + 1) (jg_wr x1)) σ)))) : jg_CI w 0 mm_X9_signAt [.ref a0, .int (.ofInt x1)] σ Q := by
  show jg_G w 0 mm_X9_signAt 0 [.ref a0, .int (.ofInt x1)] [] σ (jg_QI Q)
  refine jg_A (pc' := 1) rfl rfl (fun _ _ _ => rfl) ?_
  refine jg_iflt (pc' := 4) rfl rfl (fun hc => ?_) (fun hc => ?_)
  · have h := jg_t h (show jg_wr x1 < 0 from hc)
    refine jg_A (pc' := 29) rfl rfl (fun _ _ _ => rfl) ?_
    exact jg_iret rfl rfl h
  · have h := jg_f h (show ¬ (jg_wr x1 < 0) from hc)
    refine jg_A (pc' := 5) rfl rfl (fun _ _ _ => rfl) ?_
    refine jg_A (pc' := 6) rfl rfl (fun _ _ _ => rfl) ?_
    refine jg_getI (pc' := 9) (bi := 3) rfl h0 (by decide) (Or.inl rfl) rfl rfl ?_
    refine jg_cge (pc' := 12) rfl rfl (fun hc => ?_) (fun hc => ?_)
    · have h := jg_t h (show jg_wr (σ.1 a0 3) ≤ jg_wr x1 from hc)
      refine jg_A (pc' := 29) rfl rfl (fun _ _ _ => rfl) ?_
      exact jg_iret rfl rfl h
    · have h := jg_f h (show ¬ (jg_wr (σ.1 a0 3) ≤ jg_wr x1) from hc)
      refine jg_A (pc' := 13) rfl rfl (fun _ _ _ => rfl) ?_
      refine jg_A (pc' := 16) rfl rfl (fun _ _ _ => rfl) ?_
      refine jg_cge (pc' := 19) rfl rfl (fun hc => ?_) (fun hc => ?_)
      · have h := jg_t h (show 700 ≤ jg_wr x1 from hc)
        refine jg_A (pc' := 29) rfl rfl (fun _ _ _ => rfl) ?_
        exact jg_iret rfl rfl h
      · have h := jg_f h (show ¬ (700 ≤ jg_wr x1) from hc)
        refine jg_A (pc' := 20) rfl rfl (fun _ _ _ => rfl) ?_
        refine jg_getO (pc' := 23) (k := 1) rfl h0 (by decide) rfl rfl ?_
        refine jg_A (pc' := 24) rfl rfl (fun _ _ _ => rfl) ?_
        obtain ⟨hg, h⟩ := h
        refine jg_iald (pc' := 25) rfl (jg_sX9_2 h0) hg rfl ?_
        refine jg_goto rfl ?_
        exact jg_iret rfl rfl h
set_option maxRecDepth 100000 in
set_option maxHeartbeats 4000000 in
theorem jb_X9_isBlank_0 {w : Nat} {x0 : Int} {σ : jg_M} {Q : Int → jg_M → Prop} (h : (if jg_wr x0 = 10 then Q 1 σ else (if jg_wr x0 = 32 then Q 1 σ else Q 0 σ))) : jg_CI w 0 mm_X9_isBlank [.int (.ofInt x0)] σ Q := by
  show jg_G w 0 mm_X9_isBlank 0 [.int (.ofInt x0)] [] σ (jg_QI Q)
  refine jg_A (pc' := 1) rfl rfl (fun _ _ _ => rfl) ?_
  refine jg_A (pc' := 3) rfl rfl (fun _ _ _ => rfl) ?_
  refine jg_ceq (pc' := 6) rfl rfl (fun hc => ?_) (fun hc => ?_)
  · have h := jg_t h (show jg_wr x0 = 10 from hc)
    refine jg_A (pc' := 13) rfl rfl (fun _ _ _ => rfl) ?_
    refine jg_goto rfl ?_
    exact jg_zret rfl rfl (by decide) h
  · have h := jg_f h (show ¬ (jg_wr x0 = 10) from hc)
    refine jg_A (pc' := 7) rfl rfl (fun _ _ _ => rfl) ?_
    refine jg_A (pc' := 9) rfl rfl (fun _ _ _ => rfl) ?_
    refine jg_cne (pc' := 12) rfl rfl (fun hc => ?_) (fun hc => ?_)
    · have h := jg_t h (show jg_wr x0 = 32 from hc)
      refine jg_A (pc' := 13) rfl rfl (fun _ _ _ => rfl) ?_
      refine jg_goto rfl ?_
      exact jg_zret rfl rfl (by decide) h
    · have h := jg_f h (show ¬ (jg_wr x0 = 32) from hc)
      refine jg_A (pc' := 17) rfl rfl (fun _ _ _ => rfl) ?_
      exact jg_zret rfl rfl (by decide) h
set_option maxRecDepth 100000 in
set_option maxHeartbeats 4000000 in
theorem jb_X9_isLetter_0 {w : Nat} {x0 : Int} {σ : jg_M} {Q : Int → jg_M → Prop} (h : (if jg_wr x0 < 97 then Q 0 σ else (if 122 < jg_wr x0 then Q 0 σ else Q 1 σ))) : jg_CI w 0 mm_X9_isLetter [.int (.ofInt x0)] σ Q := by
  show jg_G w 0 mm_X9_isLetter 0 [.int (.ofInt x0)] [] σ (jg_QI Q)
  refine jg_A (pc' := 1) rfl rfl (fun _ _ _ => rfl) ?_
  refine jg_A (pc' := 3) rfl rfl (fun _ _ _ => rfl) ?_
  refine jg_clt (pc' := 6) rfl rfl (fun hc => ?_) (fun hc => ?_)
  · have h := jg_t h (show jg_wr x0 < 97 from hc)
    refine jg_A (pc' := 17) rfl rfl (fun _ _ _ => rfl) ?_
    exact jg_zret rfl rfl (by decide) h
  · have h := jg_f h (show ¬ (jg_wr x0 < 97) from hc)
    refine jg_A (pc' := 7) rfl rfl (fun _ _ _ => rfl) ?_
    refine jg_A (pc' := 9) rfl rfl (fun _ _ _ => rfl) ?_
    refine jg_cgt (pc' := 12) rfl rfl (fun hc => ?_) (fun hc => ?_)
    · have h := jg_t h (show 122 < jg_wr x0 from hc)
      refine jg_A (pc' := 17) rfl rfl (fun _ _ _ => rfl) ?_
      exact jg_zret rfl rfl (by decide) h
    · have h := jg_f h (show ¬ (122 < jg_wr x0) from hc)
      refine jg_A (pc' := 13) rfl rfl (fun _ _ _ => rfl) ?_
      refine jg_goto rfl ?_
      exact jg_zret rfl rfl (by decide) h
set_option maxRecDepth 100000 in
set_option maxHeartbeats 4000000 in
theorem jb_X9_isDigit_0 {w : Nat} {x0 : Int} {σ : jg_M} {Q : Int → jg_M → Prop} (h : (if jg_wr x0 < 48 then Q 0 σ else (if 57 < jg_wr x0 then Q 0 σ else Q 1 σ))) : jg_CI w 0 mm_X9_isDigit [.int (.ofInt x0)] σ Q := by
  show jg_G w 0 mm_X9_isDigit 0 [.int (.ofInt x0)] [] σ (jg_QI Q)
  refine jg_A (pc' := 1) rfl rfl (fun _ _ _ => rfl) ?_
  refine jg_A (pc' := 3) rfl rfl (fun _ _ _ => rfl) ?_
  refine jg_clt (pc' := 6) rfl rfl (fun hc => ?_) (fun hc => ?_)
  · have h := jg_t h (show jg_wr x0 < 48 from hc)
    refine jg_A (pc' := 17) rfl rfl (fun _ _ _ => rfl) ?_
    exact jg_zret rfl rfl (by decide) h
  · have h := jg_f h (show ¬ (jg_wr x0 < 48) from hc)
    refine jg_A (pc' := 7) rfl rfl (fun _ _ _ => rfl) ?_
    refine jg_A (pc' := 9) rfl rfl (fun _ _ _ => rfl) ?_
    refine jg_cgt (pc' := 12) rfl rfl (fun hc => ?_) (fun hc => ?_)
    · have h := jg_t h (show 57 < jg_wr x0 from hc)
      refine jg_A (pc' := 17) rfl rfl (fun _ _ _ => rfl) ?_
      exact jg_zret rfl rfl (by decide) h
    · have h := jg_f h (show ¬ (57 < jg_wr x0) from hc)
      refine jg_A (pc' := 13) rfl rfl (fun _ _ _ => rfl) ?_
      refine jg_goto rfl ?_
      exact jg_zret rfl rfl (by decide) h
set_option maxRecDepth 100000 in
set_option maxHeartbeats 4000000 in
theorem jb_X10_forget_0 {w : Nat} {a0 : Nat} {σ : jg_M} {Q : jg_M → Prop} (h0 : jg_sh a0 = (10, 0)) (h : ∀ m101 : jg_M, m101 = jg_sI σ a0 0 0 → Q m101) : jg_CV w 0 mm_X10_forget [.ref a0] σ Q := by
  show jg_G w 0 mm_X10_forget 0 [.ref a0] [] σ (jg_QV Q)
  refine jg_A (pc' := 1) rfl rfl (fun _ _ _ => rfl) ?_
  refine jg_A (pc' := 2) rfl rfl (fun _ _ _ => rfl) ?_
  refine jg_putZ (pc' := 5) (bi := 0) rfl h0 (by decide) rfl rfl (by decide) rfl rfl (fun m101 hm101 => ?_)
  have h := h m101 hm101
  exact jg_vret rfl rfl h
set_option maxRecDepth 100000 in
set_option maxHeartbeats 4000000 in
theorem jb_X10_placeOf_0 {w : Nat} {x0 : Int} {x1 : Int} {x2 : Int} {σ : jg_M} {Q : Int → jg_M → Prop} (h : (if jg_wr x0 < 0 then Q (-1) σ else (if 4 < jg_wr x0 then Q (-1) σ else (if 0 ≤ jg_wr x1 then ((0 : Int) ≤ jg_wr x0 ∧ jg_wr x0 < (6 : Int)) ∧ ∀ t101 : Int, t101 = (jg_pl (jg_wr x0)) → jg_GI w 0 mm_X10_placeOf 30 [.int (.ofInt x0), .int (.ofInt x1), .int (.ofInt x2), .int (.ofInt t101), .int (.ofInt x1), .int (.ofInt 1), .int (.ofInt 0)] σ Q else Q (-1) σ)))) : jg_CI w 0 mm_X10_placeOf [.int (.ofInt x0), .int (.ofInt x1), .int (.ofInt x2)] σ Q := by
  show jg_G w 0 mm_X10_placeOf 0 [.int (.ofInt x0), .int (.ofInt x1), .int (.ofInt x2), mj_U, mj_U, mj_U, mj_U] [] σ (jg_QI Q)
  refine jg_A (pc' := 1) rfl rfl (fun _ _ _ => rfl) ?_
  refine jg_iflt (pc' := 4) rfl rfl (fun hc => ?_) (fun hc => ?_)
  · have h := jg_t h (show jg_wr x0 < 0 from hc)
    refine jg_A (pc' := 14) rfl rfl (fun _ _ _ => rfl) ?_
    exact jg_iret rfl rfl h
  · have h := jg_f h (show ¬ (jg_wr x0 < 0) from hc)
    refine jg_A (pc' := 5) rfl rfl (fun _ _ _ => rfl) ?_
    refine jg_A (pc' := 6) rfl rfl (fun _ _ _ => rfl) ?_
    refine jg_cgt (pc' := 9) rfl rfl (fun hc => ?_) (fun hc => ?_)
    · have h := jg_t h (show 4 < jg_wr x0 from hc)
      refine jg_A (pc' := 14) rfl rfl (fun _ _ _ => rfl) ?_
      exact jg_iret rfl rfl h
    · have h := jg_f h (show ¬ (4 < jg_wr x0) from hc)
      refine jg_A (pc' := 10) rfl rfl (fun _ _ _ => rfl) ?_
      refine jg_ifge (pc' := 13) rfl rfl (fun hc => ?_) (fun hc => ?_)
      · have h := jg_t h (show 0 ≤ jg_wr x1 from hc)
        refine jg_gets (pc' := 18) rfl rfl ?_
        refine jg_A (pc' := 19) rfl rfl (fun _ _ _ => rfl) ?_
        obtain ⟨hg, h⟩ := h
        refine jg_tald (pc' := 20) rfl hg rfl ?_
        refine jg_nm (F := fun t101 => jg_G w 0 mm_X10_placeOf 20 [.int (.ofInt x0), .int (.ofInt x1), .int (.ofInt x2), mj_U, mj_U, mj_U, mj_U] [.int (.ofInt t101)] σ (jg_QI Q)) (jg_pl (jg_wr x0)) (fun t101 ht101 => ?_)
        have h := h t101 ht101
        refine jg_A (pc' := 21) (ls' := [.int (.ofInt x0), .int (.ofInt x1), .int (.ofInt x2), .int (.ofInt t101), mj_U, mj_U, mj_U]) rfl rfl (fun _ _ _ => rfl) ?_
        refine jg_A (pc' := 22) rfl rfl (fun _ _ _ => rfl) ?_
        refine jg_A (pc' := 24) (ls' := [.int (.ofInt x0), .int (.ofInt x1), .int (.ofInt x2), .int (.ofInt t101), .int (.ofInt x1), mj_U, mj_U]) rfl rfl (fun _ _ _ => rfl) ?_
        refine jg_A (pc' := 25) rfl rfl (fun _ _ _ => rfl) ?_
        refine jg_A (pc' := 27) (ls' := [.int (.ofInt x0), .int (.ofInt x1), .int (.ofInt x2), .int (.ofInt t101), .int (.ofInt x1), .int (.ofInt 1), mj_U]) rfl rfl (fun _ _ _ => rfl) ?_
        refine jg_A (pc' := 28) rfl rfl (fun _ _ _ => rfl) ?_
        refine jg_A (pc' := 30) (ls' := [.int (.ofInt x0), .int (.ofInt x1), .int (.ofInt x2), .int (.ofInt t101), .int (.ofInt x1), .int (.ofInt 1), .int (.ofInt 0)]) rfl rfl (fun _ _ _ => rfl) ?_
        exact h
      · have h := jg_f h (show ¬ (0 ≤ jg_wr x1) from hc)
        refine jg_A (pc' := 14) rfl rfl (fun _ _ _ => rfl) ?_
        exact jg_iret rfl rfl h
set_option maxRecDepth 100000 in
set_option maxHeartbeats 4000000 in
theorem jb_X10_placeOf_30 {w : Nat} {x0 : Int} {u1 : Value} {x2 : Int} {x3 : Int} {x4 : Int} {x5 : Int} {x6 : Int} {σ : jg_M} {Q : Int → jg_M → Prop} (h : (if jg_wr x0 ≤ jg_wr x6 then (if jg_wr x4 = 0 then Q x3 σ else Q (-1) σ) else (if jg_wr (jg_rem x4 10) < jg_wr x2 then ∀ t101 : Int, t101 = (x3 + ((jg_rem x4 10) * x5)) → ∀ t102 : Int, t102 = (jg_div x4 10) → ∀ t103 : Int, t103 = (x5 * 7) → jg_GI w 0 mm_X10_placeOf 30 [.int (.ofInt x0), u1, .int (.ofInt x2), .int (.ofInt t101), .int (.ofInt t102), .int (.ofInt t103), .int (.ofInt (x6 + 1))] σ Q else Q (-1) σ))) : jg_GI w 0 mm_X10_placeOf 30 [.int (.ofInt x0), u1, .int (.ofInt x2), .int (.ofInt x3), .int (.ofInt x4), .int (.ofInt x5), .int (.ofInt x6)] σ Q := by
  show jg_G w 0 mm_X10_placeOf 30 [.int (.ofInt x0), u1, .int (.ofInt x2), .int (.ofInt x3), .int (.ofInt x4), .int (.ofInt x5), .int (.ofInt x6)] [] σ (jg_QI Q)
  refine jg_A (pc' := 32) rfl rfl (fun _ _ _ => rfl) ?_
  refine jg_A (pc' := 33) rfl rfl (fun _ _ _ => rfl) ?_
  refine jg_cge (pc' := 36) rfl rfl (fun hc => ?_) (fun hc => ?_)
  · have h := jg_t h (show jg_wr x0 ≤ jg_wr x6 from hc)
    refine jg_A (pc' := 80) rfl rfl (fun _ _ _ => rfl) ?_
    refine jg_ifne (pc' := 83) rfl rfl (fun hc => ?_) (fun hc => ?_)
    · have h := jg_t h (show jg_wr x4 = 0 from hc)
      refine jg_A (pc' := 84) rfl rfl (fun _ _ _ => rfl) ?_
      refine jg_goto rfl ?_
      exact jg_iret rfl rfl h
    · have h := jg_f h (show ¬ (jg_wr x4 = 0) from hc)
      refine jg_A (pc' := 88) rfl rfl (fun _ _ _ => rfl) ?_
      exact jg_iret rfl rfl h
  · have h := jg_f h (show ¬ (jg_wr x0 ≤ jg_wr x6) from hc)
    refine jg_A (pc' := 38) rfl rfl (fun _ _ _ => rfl) ?_
    refine jg_A (pc' := 40) rfl rfl (fun _ _ _ => rfl) ?_
    refine jg_irem (pc' := 41) rfl rfl (by decide) ?_
    refine jg_A (pc' := 42) rfl rfl (fun _ _ _ => rfl) ?_
    refine jg_clt (pc' := 45) rfl rfl (fun hc => ?_) (fun hc => ?_)
    · have h := jg_t h (show jg_wr (jg_rem x4 10) < jg_wr x2 from hc)
      refine jg_A (pc' := 48) rfl rfl (fun _ _ _ => rfl) ?_
      refine jg_A (pc' := 50) rfl rfl (fun _ _ _ => rfl) ?_
      refine jg_A (pc' := 52) rfl rfl (fun _ _ _ => rfl) ?_
      refine jg_irem (pc' := 53) rfl rfl (by decide) ?_
      refine jg_A (pc' := 55) rfl rfl (fun _ _ _ => rfl) ?_
      refine jg_imul (pc' := 56) rfl rfl ?_
      refine jg_iadd (pc' := 57) rfl rfl ?_
      refine jg_nm (F := fun t101 => jg_G w 0 mm_X10_placeOf 57 [.int (.ofInt x0), u1, .int (.ofInt x2), .int (.ofInt x3), .int (.ofInt x4), .int (.ofInt x5), .int (.ofInt x6)] [.int (.ofInt t101)] σ (jg_QI Q)) (x3 + ((jg_rem x4 10) * x5)) (fun t101 ht101 => ?_)
      have h := h t101 ht101
      refine jg_A (pc' := 58) (ls' := [.int (.ofInt x0), u1, .int (.ofInt x2), .int (.ofInt t101), .int (.ofInt x4), .int (.ofInt x5), .int (.ofInt x6)]) rfl rfl (fun _ _ _ => rfl) ?_
      refine jg_A (pc' := 60) rfl rfl (fun _ _ _ => rfl) ?_
      refine jg_A (pc' := 62) rfl rfl (fun _ _ _ => rfl) ?_
      refine jg_idiv (pc' := 63) rfl rfl (by decide) ?_
      refine jg_nm (F := fun t102 => jg_G w 0 mm_X10_placeOf 63 [.int (.ofInt x0), u1, .int (.ofInt x2), .int (.ofInt t101), .int (.ofInt x4), .int (.ofInt x5), .int (.ofInt x6)] [.int (.ofInt t102)] σ (jg_QI Q)) (jg_div x4 10) (fun t102 ht102 => ?_)
      have h := h t102 ht102
      refine jg_A (pc' := 65) (ls' := [.int (.ofInt x0), u1, .int (.ofInt x2), .int (.ofInt t101), .int (.ofInt t102), .int (.ofInt x5), .int (.ofInt x6)]) rfl rfl (fun _ _ _ => rfl) ?_
      refine jg_A (pc' := 67) rfl rfl (fun _ _ _ => rfl) ?_
      refine jg_A (pc' := 69) rfl rfl (fun _ _ _ => rfl) ?_
      refine jg_imul (pc' := 70) rfl rfl ?_
      refine jg_nm (F := fun t103 => jg_G w 0 mm_X10_placeOf 70 [.int (.ofInt x0), u1, .int (.ofInt x2), .int (.ofInt t101), .int (.ofInt t102), .int (.ofInt x5), .int (.ofInt x6)] [.int (.ofInt t103)] σ (jg_QI Q)) (x5 * 7) (fun t103 ht103 => ?_)
      have h := h t103 ht103
      refine jg_A (pc' := 72) (ls' := [.int (.ofInt x0), u1, .int (.ofInt x2), .int (.ofInt t101), .int (.ofInt t102), .int (.ofInt t103), .int (.ofInt x6)]) rfl rfl (fun _ _ _ => rfl) ?_
      refine jg_iinc (pc' := 75) (ls' := [.int (.ofInt x0), u1, .int (.ofInt x2), .int (.ofInt t101), .int (.ofInt t102), .int (.ofInt t103), .int (.ofInt (x6 + 1))]) rfl rfl rfl rfl ?_
      refine jg_goto rfl ?_
      exact h
    · have h := jg_f h (show ¬ (jg_wr (jg_rem x4 10) < jg_wr x2) from hc)
      refine jg_A (pc' := 46) rfl rfl (fun _ _ _ => rfl) ?_
      exact jg_iret rfl rfl h
set_option maxRecDepth 100000 in
set_option maxHeartbeats 4000000 in
theorem jb_X10_learn_0 {w : Nat} {a0 : Nat} {a1 : Nat} {a2 : Nat} {a3 : Nat} {σ : jg_M} {Q : jg_M → Prop} (h0 : jg_sh a0 = (10, 0)) (h1 : jg_sh a1 = (0, 0)) (h2 : jg_sh a2 = (8, 0)) (h3 : jg_sh a3 = (5, 0)) (h : (if jg_wr (σ.1 a0 0) = 0 then ∀ m101 : jg_M, m101 = jg_sI σ a0 0 1 → ∀ m102 : jg_M, m102 = jg_sI m101 a0 1 0 → jg_CV w 0 mm_J7_fill_53178 [.ref (a0 + 1), .int (.ofInt 0)] m102 (fun (m103 : jg_M) => jg_GV w 13 mm_X10_learn 29 [.ref a0, .ref a1, .ref a2, .ref a3, .int (.ofInt 0)] m103 Q) else Q σ)) : jg_CV w 13 mm_X10_learn [.ref a0, .ref a1, .ref a2, .ref a3] σ Q := by
  show jg_G w 13 mm_X10_learn 0 [.ref a0, .ref a1, .ref a2, .ref a3, mj_U] [] σ (jg_QV Q)
  refine jg_A (pc' := 1) rfl rfl (fun _ _ _ => rfl) ?_
  refine jg_getI (pc' := 4) (bi := 0) rfl h0 (by decide) (Or.inr rfl) rfl rfl ?_
  refine jg_ifeq (pc' := 7) rfl rfl (fun hc => ?_) (fun hc => ?_)
  · have h := jg_t h (show jg_wr (σ.1 a0 0) = 0 from hc)
    refine jg_A (pc' := 9) rfl rfl (fun _ _ _ => rfl) ?_
    refine jg_A (pc' := 10) rfl rfl (fun _ _ _ => rfl) ?_
    refine jg_putZ (pc' := 13) (bi := 0) rfl h0 (by decide) rfl rfl (by decide) rfl rfl (fun m101 hm101 => ?_)
    have h := h m101 hm101
    refine jg_A (pc' := 14) rfl rfl (fun _ _ _ => rfl) ?_
    refine jg_A (pc' := 15) rfl rfl (fun _ _ _ => rfl) ?_
    refine jg_putI (pc' := 18) (bi := 1) rfl h0 (by decide) rfl rfl rfl rfl (fun m102 hm102 => ?_)
    have h := h m102 hm102
    refine jg_A (pc' := 19) rfl rfl (fun _ _ _ => rfl) ?_
    refine jg_getO (pc' := 22) (k := 1) rfl h0 (by decide) rfl rfl ?_
    refine jg_A (pc' := 23) rfl rfl (fun _ _ _ => rfl) ?_
    refine jg_calS (M1 := mm_J7_fill_53178) (hy := 0) (pc' := 26) rfl (Or.inl rfl) jm_J7_fill_53178 (by decide) rfl ⟨Nat.le_of_ble_eq_true rfl, rfl⟩ (Nat.le_of_ble_eq_true rfl) rfl h (jg_kV (fun m103 h => ?_))
    refine jg_A (pc' := 27) rfl rfl (fun _ _ _ => rfl) ?_
    refine jg_A (pc' := 29) (ls' := [.ref a0, .ref a1, .ref a2, .ref a3, .int (.ofInt 0)]) rfl rfl (fun _ _ _ => rfl) ?_
    exact h
  · have h := jg_f h (show ¬ (jg_wr (σ.1 a0 0) = 0) from hc)
    exact jg_vret rfl rfl h
set_option maxRecDepth 100000 in
set_option maxHeartbeats 4000000 in
theorem jb_X10_learn_29 {w : Nat} {a0 : Nat} {a1 : Nat} {a2 : Nat} {a3 : Nat} {x4 : Int} {σ : jg_M} {Q : jg_M → Prop} (h0 : jg_sh a0 = (10, 0)) (h1 : jg_sh a1 = (0, 0)) (h2 : jg_sh a2 = (8, 0)) (h3 : jg_sh a3 = (5, 0)) (h : (if jg_wr (σ.1 a1 2) ≤ jg_wr x4 then Q σ else jg_CV w 1 mm_X0_copy [.ref (a2 + 1), .ref a1] σ (fun (m101 : jg_M) => ∀ m102 : jg_M, m102 = jg_sI m101 (a2 + 1) 4 x4 → jg_CI w 5 mm_X8_make [.ref a2, .int (.ofInt 0)] m102 (fun (z104 : Int) (m103 : jg_M) => (if jg_wr z104 = 0 then jg_GV w 13 mm_X10_learn 29 [.ref a0, .ref a1, .ref a2, .ref a3, .int (.ofInt (x4 + 1))] m103 Q else ∀ m105 : jg_M, m105 = jg_sI m103 a0 1 (jg_or (m103.1 a0 1) (jg_shl 1 x4)) → jg_CV w 1 mm_X5_begin [.ref a3, .ref a2] m105 (fun (m106 : jg_M) => jg_CV w 12 mm_X10_mark [.ref a2, .ref a3, .ref (a0 + 1), .int (.ofInt 0), .int (.ofInt 0)] m106 (fun (m107 : jg_M) => jg_GV w 13 mm_X10_learn 29 [.ref a0, .ref a1, .ref a2, .ref a3, .int (.ofInt (x4 + 1))] m107 Q))))))) : jg_GV w 13 mm_X10_learn 29 [.ref a0, .ref a1, .ref a2, .ref a3, .int (.ofInt x4)] σ Q := by
  show jg_G w 13 mm_X10_learn 29 [.ref a0, .ref a1, .ref a2, .ref a3, .int (.ofInt x4)] [] σ (jg_QV Q)
  refine jg_A (pc' := 31) rfl rfl (fun _ _ _ => rfl) ?_
  refine jg_A (pc' := 32) rfl rfl (fun _ _ _ => rfl) ?_
  refine jg_getI (pc' := 35) (bi := 2) rfl h1 (by decide) (Or.inl rfl) rfl rfl ?_
  refine jg_cge (pc' := 38) rfl rfl (fun hc => ?_) (fun hc => ?_)
  · have h := jg_t h (show jg_wr (σ.1 a1 2) ≤ jg_wr x4 from hc)
    exact jg_vret rfl rfl h
  · have h := jg_f h (show ¬ (jg_wr (σ.1 a1 2) ≤ jg_wr x4) from hc)
    refine jg_A (pc' := 39) rfl rfl (fun _ _ _ => rfl) ?_
    refine jg_getO (pc' := 42) (k := 1) rfl h2 (by decide) rfl rfl ?_
    refine jg_A (pc' := 43) rfl rfl (fun _ _ _ => rfl) ?_
    refine jg_calX (M1 := mm_X0_copy) (hy := 1) (pc' := 46) rfl jm_X0_copy (by decide) rfl (jg_sX8_0 h2) (by decide) ⟨Nat.le_of_ble_eq_true rfl, rfl⟩ (Nat.le_of_ble_eq_true rfl) rfl h (jg_kV (fun m101 h => ?_))
    refine jg_A (pc' := 47) rfl rfl (fun _ _ _ => rfl) ?_
    refine jg_getO (pc' := 50) (k := 1) rfl h2 (by decide) rfl rfl ?_
    refine jg_A (pc' := 52) rfl rfl (fun _ _ _ => rfl) ?_
    refine jg_putI (pc' := 55) (bi := 4) rfl (jg_sX8_0 h2) (by decide) rfl rfl rfl rfl (fun m102 hm102 => ?_)
    have h := h m102 hm102
    refine jg_A (pc' := 56) rfl rfl (fun _ _ _ => rfl) ?_
    refine jg_A (pc' := 57) rfl rfl (fun _ _ _ => rfl) ?_
    refine jg_calX (M1 := mm_X8_make) (hy := 5) (pc' := 60) rfl jm_X8_make (by decide) rfl h2 (by decide) ⟨Nat.le_of_ble_eq_true rfl, rfl⟩ (Nat.le_of_ble_eq_true rfl) rfl h (jg_kI (fun z104 m103 h => ?_))
    refine jg_ifeq (pc' := 63) rfl rfl (fun hc => ?_) (fun hc => ?_)
    · have h := jg_t h (show jg_wr z104 = 0 from hc)
      refine jg_iinc (pc' := 95) (ls' := [.ref a0, .ref a1, .ref a2, .ref a3, .int (.ofInt (x4 + 1))]) rfl rfl rfl rfl ?_
      refine jg_goto rfl ?_
      exact h
    · have h := jg_f h (show ¬ (jg_wr z104 = 0) from hc)
      refine jg_A (pc' := 64) rfl rfl (fun _ _ _ => rfl) ?_
      refine jg_A (pc' := 65) rfl rfl (fun _ _ _ => rfl) ?_
      refine jg_getI (pc' := 68) (bi := 1) rfl h0 (by decide) (Or.inl rfl) rfl rfl ?_
      refine jg_A (pc' := 69) rfl rfl (fun _ _ _ => rfl) ?_
      refine jg_A (pc' := 71) rfl rfl (fun _ _ _ => rfl) ?_
      refine jg_ishl (pc' := 72) rfl rfl ?_
      refine jg_ior (pc' := 73) rfl rfl ?_
      refine jg_putI (pc' := 76) (bi := 1) rfl h0 (by decide) rfl rfl rfl rfl (fun m105 hm105 => ?_)
      have h := h m105 hm105
      refine jg_A (pc' := 77) rfl rfl (fun _ _ _ => rfl) ?_
      refine jg_A (pc' := 78) rfl rfl (fun _ _ _ => rfl) ?_
      refine jg_calX (M1 := mm_X5_begin) (hy := 1) (pc' := 81) rfl jm_X5_begin (by decide) rfl h3 (by decide) ⟨Nat.le_of_ble_eq_true rfl, rfl⟩ (Nat.le_of_ble_eq_true rfl) rfl h (jg_kV (fun m106 h => ?_))
      refine jg_A (pc' := 82) rfl rfl (fun _ _ _ => rfl) ?_
      refine jg_A (pc' := 83) rfl rfl (fun _ _ _ => rfl) ?_
      refine jg_A (pc' := 84) rfl rfl (fun _ _ _ => rfl) ?_
      refine jg_getO (pc' := 87) (k := 1) rfl h0 (by decide) rfl rfl ?_
      refine jg_A (pc' := 88) rfl rfl (fun _ _ _ => rfl) ?_
      refine jg_A (pc' := 89) rfl rfl (fun _ _ _ => rfl) ?_
      refine jg_calS (M1 := mm_X10_mark) (hy := 12) (pc' := 92) rfl (Or.inl rfl) jm_X10_mark (by decide) rfl ⟨Nat.le_of_ble_eq_true rfl, rfl⟩ (Nat.le_of_ble_eq_true rfl) rfl h (jg_kV (fun m107 h => ?_))
      refine jg_iinc (pc' := 95) (ls' := [.ref a0, .ref a1, .ref a2, .ref a3, .int (.ofInt (x4 + 1))]) rfl rfl rfl rfl ?_
      refine jg_goto rfl ?_
      exact h
set_option maxRecDepth 100000 in
set_option maxHeartbeats 4000000 in
theorem jb_X10_mark_0 {w : Nat} {a0 : Nat} {a1 : Nat} {a2 : Nat} {n2 : Nat} {x3 : Int} {x4 : Int} {d : Nat} {σ : jg_M} {Q : jg_M → Prop} (hd : 4 ≤ d) (h0 : jg_sh a0 = (8, 0)) (h1 : jg_sh a1 = (5, 0)) (h2 : jg_sh a2 = (20, n2)) (h : (if jg_bot a1 = true then Q σ else (if jg_wr x3 < 0 then Q σ else (if jg_wr x3 ≤ 4 then ((0 : Int) ≤ jg_wr x3 ∧ jg_wr x3 < (6 : Int)) ∧ ∀ t106 : Int, t106 = ((jg_pl (jg_wr x3)) + x4) → jg_CV w 1 mm_X5_copy [.ref (a1 - 2), .ref a1] σ (fun (m107 : jg_M) => jg_CI w 3 mm_X5_take [.ref (a1 - 2), .ref a0, .int (.ofInt (m107.1 (a0 + 1) 0))] m107 (fun (z109 : Int) (m108 : jg_M) => (if jg_wr z109 < 0 then jg_GV w (d + 1) mm_X10_mark 84 [.ref a0, .ref a1, .ref a2, .int (.ofInt x3), .int (.ofInt x4), .ref (a1 - 2), .int (.ofInt t106), .int (.ofInt 0)] m108 Q else (if jg_wr t106 < 0 then jg_GV w (d + 1) mm_X10_mark 84 [.ref a0, .ref a1, .ref a2, .int (.ofInt x3), .int (.ofInt x4), .ref (a1 - 2), .int (.ofInt t106), .int (.ofInt 0)] m108 Q else (if jg_wr (n2 : Int) ≤ jg_wr t106 then jg_GV w (d + 1) mm_X10_mark 84 [.ref a0, .ref a1, .ref a2, .int (.ofInt x3), .int (.ofInt x4), .ref (a1 - 2), .int (.ofInt t106), .int (.ofInt 0)] m108 Q else ((0 : Int) ≤ jg_wr t106 ∧ jg_wr t106 < (n2 : Int)) ∧ ((0 : Int) ≤ (jg_wr t106) ∧ (jg_wr t106) < (n2 : Int)) ∧ ∀ m110 : jg_M, m110 = jg_sI m108 a2 (jg_wr t106) (jg_or (m108.1 a2 (jg_wr t106)) (jg_shl 1 (m108.1 (a0 + 1) 4))) → jg_GV w (d + 1) mm_X10_mark 84 [.ref a0, .ref a1, .ref a2, .int (.ofInt x3), .int (.ofInt x4), .ref (a1 - 2), .int (.ofInt t106), .int (.ofInt 0)] m110 Q))))) else Q σ)))) : jg_CV w (d + 1) mm_X10_mark [.ref a0, .ref a1, .ref a2, .int (.ofInt x3), .int (.ofInt x4)] σ Q := by
  show jg_G w (d + 1) mm_X10_mark 0 [.ref a0, .ref a1, .ref a2, .int (.ofInt x3), .int (.ofInt x4), mj_U, mj_U, mj_U] [] σ (jg_QV Q)
  refine jg_A (pc' := 1) rfl rfl (fun _ _ _ => rfl) ?_
  refine jg_getN (pc' := 4) rfl h1 (by decide) rfl rfl (fun hc => ?_) (fun hcn => ?_)
  · have h := jg_t h hc
    refine jg_A (pc' := 6) (ls' := [.ref a0, .ref a1, .ref a2, .int (.ofInt x3), .int (.ofInt x4), .null, mj_U, mj_U]) rfl rfl (fun _ _ _ => rfl) ?_
    refine jg_A (pc' := 8) rfl rfl (fun _ _ _ => rfl) ?_
    refine jg_nullT rfl ?_
    exact jg_vret rfl rfl h
  · have h := jg_f h hcn
    refine jg_A (pc' := 6) (ls' := [.ref a0, .ref a1, .ref a2, .int (.ofInt x3), .int (.ofInt x4), .ref (a1 - 2), mj_U, mj_U]) rfl rfl (fun _ _ _ => rfl) ?_
    refine jg_A (pc' := 8) rfl rfl (fun _ _ _ => rfl) ?_
    refine jg_nullF (pc' := 11) rfl rfl ?_
    refine jg_A (pc' := 12) rfl rfl (fun _ _ _ => rfl) ?_
    refine jg_iflt (pc' := 15) rfl rfl (fun hc => ?_) (fun hc => ?_)
    · have h := jg_t h (show jg_wr x3 < 0 from hc)
      exact jg_vret rfl rfl h
    · have h := jg_f h (show ¬ (jg_wr x3 < 0) from hc)
      refine jg_A (pc' := 16) rfl rfl (fun _ _ _ => rfl) ?_
      refine jg_A (pc' := 17) rfl rfl (fun _ _ _ => rfl) ?_
      refine jg_cle (pc' := 20) rfl rfl (fun hc => ?_) (fun hc => ?_)
      · have h := jg_t h (show jg_wr x3 ≤ 4 from hc)
        refine jg_gets (pc' := 24) rfl rfl ?_
        refine jg_A (pc' := 25) rfl rfl (fun _ _ _ => rfl) ?_
        obtain ⟨hg, h⟩ := h
        refine jg_tald (pc' := 26) rfl hg rfl ?_
        refine jg_A (pc' := 28) rfl rfl (fun _ _ _ => rfl) ?_
        refine jg_iadd (pc' := 29) rfl rfl ?_
        refine jg_nm (F := fun t106 => jg_G w (d + 1) mm_X10_mark 29 [.ref a0, .ref a1, .ref a2, .int (.ofInt x3), .int (.ofInt x4), .ref (a1 - 2), mj_U, mj_U] [.int (.ofInt t106)] σ (jg_QV Q)) ((jg_pl (jg_wr x3)) + x4) (fun t106 ht106 => ?_)
        have h := h t106 ht106
        refine jg_A (pc' := 31) (ls' := [.ref a0, .ref a1, .ref a2, .int (.ofInt x3), .int (.ofInt x4), .ref (a1 - 2), .int (.ofInt t106), mj_U]) rfl rfl (fun _ _ _ => rfl) ?_
        refine jg_A (pc' := 33) rfl rfl (fun _ _ _ => rfl) ?_
        refine jg_A (pc' := 34) rfl rfl (fun _ _ _ => rfl) ?_
        refine jg_calX (M1 := mm_X5_copy) (hy := 1) (pc' := 37) rfl jm_X5_copy (by omega) rfl (jg_sX5_0 h1 hcn) (by decide) ⟨Nat.le_of_ble_eq_true rfl, rfl⟩ (Nat.le_of_ble_eq_true rfl) rfl h (jg_kV (fun m107 h => ?_))
        refine jg_A (pc' := 39) rfl rfl (fun _ _ _ => rfl) ?_
        refine jg_A (pc' := 40) rfl rfl (fun _ _ _ => rfl) ?_
        refine jg_A (pc' := 41) rfl rfl (fun _ _ _ => rfl) ?_
        refine jg_getO (pc' := 44) (k := 1) rfl h0 (by decide) rfl rfl ?_
        refine jg_getI (pc' := 47) (bi := 0) rfl (jg_sX8_0 h0) (by decide) (Or.inl rfl) rfl rfl ?_
        refine jg_calX (M1 := mm_X5_take) (hy := 3) (pc' := 50) rfl jm_X5_take (by omega) rfl (jg_sX5_0 h1 hcn) (by decide) ⟨Nat.le_of_ble_eq_true rfl, rfl⟩ (Nat.le_of_ble_eq_true rfl) rfl h (jg_kI (fun z109 m108 h => ?_))
        refine jg_iflt (pc' := 53) rfl rfl (fun hc => ?_) (fun hc => ?_)
        · have h := jg_t h (show jg_wr z109 < 0 from hc)
          refine jg_A (pc' := 82) rfl rfl (fun _ _ _ => rfl) ?_
          refine jg_A (pc' := 84) (ls' := [.ref a0, .ref a1, .ref a2, .int (.ofInt x3), .int (.ofInt x4), .ref (a1 - 2), .int (.ofInt t106), .int (.ofInt 0)]) rfl rfl (fun _ _ _ => rfl) ?_
          exact h
        · have h := jg_f h (show ¬ (jg_wr z109 < 0) from hc)
          refine jg_A (pc' := 55) rfl rfl (fun _ _ _ => rfl) ?_
          refine jg_iflt (pc' := 58) rfl rfl (fun hc => ?_) (fun hc => ?_)
          · have h := jg_t h (show jg_wr t106 < 0 from hc)
            refine jg_A (pc' := 82) rfl rfl (fun _ _ _ => rfl) ?_
            refine jg_A (pc' := 84) (ls' := [.ref a0, .ref a1, .ref a2, .int (.ofInt x3), .int (.ofInt x4), .ref (a1 - 2), .int (.ofInt t106), .int (.ofInt 0)]) rfl rfl (fun _ _ _ => rfl) ?_
            exact h
          · have h := jg_f h (show ¬ (jg_wr t106 < 0) from hc)
            refine jg_A (pc' := 60) rfl rfl (fun _ _ _ => rfl) ?_
            refine jg_A (pc' := 61) rfl rfl (fun _ _ _ => rfl) ?_
            refine jg_alen (pc' := 62) (ni := (n2 : Int)) rfl h2 (by decide) rfl rfl ?_
            refine jg_cge (pc' := 65) rfl rfl (fun hc => ?_) (fun hc => ?_)
            · have h := jg_t h (show jg_wr (n2 : Int) ≤ jg_wr t106 from hc)
              refine jg_A (pc' := 82) rfl rfl (fun _ _ _ => rfl) ?_
              refine jg_A (pc' := 84) (ls' := [.ref a0, .ref a1, .ref a2, .int (.ofInt x3), .int (.ofInt x4), .ref (a1 - 2), .int (.ofInt t106), .int (.ofInt 0)]) rfl rfl (fun _ _ _ => rfl) ?_
              exact h
            · have h := jg_f h (show ¬ (jg_wr (n2 : Int) ≤ jg_wr t106) from hc)
              refine jg_A (pc' := 66) rfl rfl (fun _ _ _ => rfl) ?_
              refine jg_A (pc' := 68) rfl rfl (fun _ _ _ => rfl) ?_
              refine jg_A (pc' := 69) rfl rfl (fun _ _ _ => rfl) ?_
              obtain ⟨hg, h⟩ := h
              refine jg_iald (pc' := 70) rfl h2 hg rfl ?_
              refine jg_A (pc' := 71) rfl rfl (fun _ _ _ => rfl) ?_
              refine jg_A (pc' := 72) rfl rfl (fun _ _ _ => rfl) ?_
              refine jg_getO (pc' := 75) (k := 1) rfl h0 (by decide) rfl rfl ?_
              refine jg_getI (pc' := 78) (bi := 4) rfl (jg_sX8_0 h0) (by decide) (Or.inl rfl) rfl rfl ?_
              refine jg_ishl (pc' := 79) rfl rfl ?_
              refine jg_ior (pc' := 80) rfl rfl ?_
              obtain ⟨hg, h⟩ := h
              refine jg_iast (pc' := 81) rfl h2 hg rfl (fun m110 hm110 => ?_)
              have h := h m110 hm110
              refine jg_A (pc' := 82) rfl rfl (fun _ _ _ => rfl) ?_
              refine jg_A (pc' := 84) (ls' := [.ref a0, .ref a1, .ref a2, .int (.ofInt x3), .int (.ofInt x4), .ref (a1 - 2), .int (.ofInt t106), .int (.ofInt 0)]) rfl rfl (fun _ _ _ => rfl) ?_
              exact h
      · have h := jg_f h (show ¬ (jg_wr x3 ≤ 4) from hc)
        exact jg_vret rfl rfl h
set_option maxRecDepth 100000 in
set_option maxHeartbeats 4000000 in
theorem jb_X10_mark_84 {w : Nat} {a0 : Nat} {a1 : Nat} {n2 : Nat} {a2 : Nat} {x3 : Int} {x4 : Int} {a5 : Nat} {u6 : Value} {x7 : Int} {d : Nat} {σ : jg_M} {Q : jg_M → Prop} (hd : 4 ≤ d) (h0 : jg_sh a0 = (8, 0)) (h1 : jg_sh a1 = (5, 0)) (h2 : jg_sh a2 = (20, n2)) (h5 : jg_sh a5 = (5, 0)) (h : (if 4 ≤ jg_wr x3 then Q σ else (if jg_wr (σ.1 (a0 + 1) 0) ≤ jg_wr x7 then Q σ else jg_CV w 1 mm_X5_copy [.ref a5, .ref a1] σ (fun (m101 : jg_M) => jg_CI w 3 mm_X5_take [.ref a5, .ref a0, .int (.ofInt x7)] m101 (fun (z103 : Int) (m102 : jg_M) => (if jg_wr z103 < 0 then jg_GV w (d + 1) mm_X10_mark 84 [.ref a0, .ref a1, .ref a2, .int (.ofInt x3), .int (.ofInt x4), .ref a5, u6, .int (.ofInt (x7 + 1))] m102 Q else jg_CV w d mm_X10_mark [.ref a0, .ref a5, .ref a2, .int (.ofInt (x3 + 1)), .int (.ofInt ((x4 * 7) + x7))] m102 (fun (m104 : jg_M) => jg_GV w (d + 1) mm_X10_mark 84 [.ref a0, .ref a1, .ref a2, .int (.ofInt x3), .int (.ofInt x4), .ref a5, u6, .int (.ofInt (x7 + 1))] m104 Q))))))) : jg_GV w (d + 1) mm_X10_mark 84 [.ref a0, .ref a1, .ref a2, .int (.ofInt x3), .int (.ofInt x4), .ref a5, u6, .int (.ofInt x7)] σ Q := by
  show jg_G w (d + 1) mm_X10_mark 84 [.ref a0, .ref a1, .ref a2, .int (.ofInt x3), .int (.ofInt x4), .ref a5, u6, .int (.ofInt x7)] [] σ (jg_QV Q)
  refine jg_A (pc' := 85) rfl rfl (fun _ _ _ => rfl) ?_
  refine jg_A (pc' := 86) rfl rfl (fun _ _ _ => rfl) ?_
  refine jg_cge (pc' := 89) rfl rfl (fun hc => ?_) (fun hc => ?_)
  · have h := jg_t h (show 4 ≤ jg_wr x3 from hc)
    exact jg_vret rfl rfl h
  · have h := jg_f h (show ¬ (4 ≤ jg_wr x3) from hc)
    refine jg_A (pc' := 91) rfl rfl (fun _ _ _ => rfl) ?_
    refine jg_A (pc' := 92) rfl rfl (fun _ _ _ => rfl) ?_
    refine jg_getO (pc' := 95) (k := 1) rfl h0 (by decide) rfl rfl ?_
    refine jg_getI (pc' := 98) (bi := 0) rfl (jg_sX8_0 h0) (by decide) (Or.inl rfl) rfl rfl ?_
    refine jg_cge (pc' := 101) rfl rfl (fun hc => ?_) (fun hc => ?_)
    · have h := jg_t h (show jg_wr (σ.1 (a0 + 1) 0) ≤ jg_wr x7 from hc)
      exact jg_vret rfl rfl h
    · have h := jg_f h (show ¬ (jg_wr (σ.1 (a0 + 1) 0) ≤ jg_wr x7) from hc)
      refine jg_A (pc' := 103) rfl rfl (fun _ _ _ => rfl) ?_
      refine jg_A (pc' := 104) rfl rfl (fun _ _ _ => rfl) ?_
      refine jg_calX (M1 := mm_X5_copy) (hy := 1) (pc' := 107) rfl jm_X5_copy (by omega) rfl h5 (by decide) ⟨Nat.le_of_ble_eq_true rfl, rfl⟩ (Nat.le_of_ble_eq_true rfl) rfl h (jg_kV (fun m101 h => ?_))
      refine jg_A (pc' := 109) rfl rfl (fun _ _ _ => rfl) ?_
      refine jg_A (pc' := 110) rfl rfl (fun _ _ _ => rfl) ?_
      refine jg_A (pc' := 112) rfl rfl (fun _ _ _ => rfl) ?_
      refine jg_calX (M1 := mm_X5_take) (hy := 3) (pc' := 115) rfl jm_X5_take (by omega) rfl h5 (by decide) ⟨Nat.le_of_ble_eq_true rfl, rfl⟩ (Nat.le_of_ble_eq_true rfl) rfl h (jg_kI (fun z103 m102 h => ?_))
      refine jg_iflt (pc' := 118) rfl rfl (fun hc => ?_) (fun hc => ?_)
      · have h := jg_t h (show jg_wr z103 < 0 from hc)
        refine jg_iinc (pc' := 139) (ls' := [.ref a0, .ref a1, .ref a2, .int (.ofInt x3), .int (.ofInt x4), .ref a5, u6, .int (.ofInt (x7 + 1))]) rfl rfl rfl rfl ?_
        refine jg_goto rfl ?_
        exact h
      · have h := jg_f h (show ¬ (jg_wr z103 < 0) from hc)
        refine jg_A (pc' := 119) rfl rfl (fun _ _ _ => rfl) ?_
        refine jg_A (pc' := 121) rfl rfl (fun _ _ _ => rfl) ?_
        refine jg_A (pc' := 122) rfl rfl (fun _ _ _ => rfl) ?_
        refine jg_A (pc' := 123) rfl rfl (fun _ _ _ => rfl) ?_
        refine jg_A (pc' := 124) rfl rfl (fun _ _ _ => rfl) ?_
        refine jg_iadd (pc' := 125) rfl rfl ?_
        refine jg_A (pc' := 127) rfl rfl (fun _ _ _ => rfl) ?_
        refine jg_A (pc' := 129) rfl rfl (fun _ _ _ => rfl) ?_
        refine jg_imul (pc' := 130) rfl rfl ?_
        refine jg_A (pc' := 132) rfl rfl (fun _ _ _ => rfl) ?_
        refine jg_iadd (pc' := 133) rfl rfl ?_
        refine jg_calS (M1 := mm_X10_mark) (hy := d) (pc' := 136) rfl (Or.inl rfl) jm_X10_mark (by omega) rfl ⟨Nat.le_of_ble_eq_true rfl, rfl⟩ (Nat.le_of_ble_eq_true rfl) rfl h (jg_kV (fun m104 h => ?_))
        refine jg_iinc (pc' := 139) (ls' := [.ref a0, .ref a1, .ref a2, .int (.ofInt x3), .int (.ofInt x4), .ref a5, u6, .int (.ofInt (x7 + 1))]) rfl rfl rfl rfl ?_
        refine jg_goto rfl ?_
        exact h
set_option maxRecDepth 100000 in
set_option maxHeartbeats 4000000 in
theorem jb_X10_withoutsAt_0 {w : Nat} {a0 : Nat} {x1 : Int} {σ : jg_M} {Q : Int → jg_M → Prop} (h0 : jg_sh a0 = (10, 0)) (h : (if jg_wr x1 < 0 then Q 0 σ else (if 2801 ≤ jg_wr x1 then Q 0 σ else ((0 : Int) ≤ jg_wr x1 ∧ jg_wr x1 < (2801 : Int)) ∧ Q (σ.1 (a0 + 1) (jg_wr x1)) σ))) : jg_CI w 0 mm_X10_withoutsAt [.ref a0, .int (.ofInt x1)] σ Q := by
  show jg_G w 0 mm_X10_withoutsAt 0 [.ref a0, .int (.ofInt x1)] [] σ (jg_QI Q)
  refine jg_A (pc' := 1) rfl rfl (fun _ _ _ => rfl) ?_
  refine jg_iflt (pc' := 4) rfl rfl (fun hc => ?_) (fun hc => ?_)
  · have h := jg_t h (show jg_wr x1 < 0 from hc)
    refine jg_A (pc' := 21) rfl rfl (fun _ _ _ => rfl) ?_
    exact jg_iret rfl rfl h
  · have h := jg_f h (show ¬ (jg_wr x1 < 0) from hc)
    refine jg_A (pc' := 5) rfl rfl (fun _ _ _ => rfl) ?_
    refine jg_A (pc' := 8) rfl rfl (fun _ _ _ => rfl) ?_
    refine jg_cge (pc' := 11) rfl rfl (fun hc => ?_) (fun hc => ?_)
    · have h := jg_t h (show 2801 ≤ jg_wr x1 from hc)
      refine jg_A (pc' := 21) rfl rfl (fun _ _ _ => rfl) ?_
      exact jg_iret rfl rfl h
    · have h := jg_f h (show ¬ (2801 ≤ jg_wr x1) from hc)
      refine jg_A (pc' := 12) rfl rfl (fun _ _ _ => rfl) ?_
      refine jg_getO (pc' := 15) (k := 1) rfl h0 (by decide) rfl rfl ?_
      refine jg_A (pc' := 16) rfl rfl (fun _ _ _ => rfl) ?_
      obtain ⟨hg, h⟩ := h
      refine jg_iald (pc' := 17) rfl (jg_sX10_2 h0) hg rfl ?_
      refine jg_goto rfl ?_
      exact jg_iret rfl rfl h
set_option maxRecDepth 100000 in
set_option maxHeartbeats 4000000 in
theorem jb_X10_missingBy_0 {w : Nat} {a0 : Nat} {a1 : Nat} {σ : jg_M} {Q : Int → jg_M → Prop} (h0 : jg_sh a0 = (10, 0)) (h1 : jg_sh a1 = (1, 0)) (h : jg_CI w 1 mm_X1_knownNotes [.ref a1] σ (fun (z102 : Int) (m101 : jg_M) => ∀ t103 : Int, t103 = (m101.1 a0 1) → jg_GI w 2 mm_X10_missingBy 13 [.ref a0, .ref a1, .int (.ofInt z102), .int (.ofInt t103), .int (.ofInt 0), mj_U] m101 Q)) : jg_CI w 2 mm_X10_missingBy [.ref a0, .ref a1] σ Q := by
  show jg_G w 2 mm_X10_missingBy 0 [.ref a0, .ref a1, mj_U, mj_U, mj_U, mj_U] [] σ (jg_QI Q)
  refine jg_A (pc' := 1) rfl rfl (fun _ _ _ => rfl) ?_
  refine jg_calX (M1 := mm_X1_knownNotes) (hy := 1) (pc' := 4) rfl jm_X1_knownNotes (by decide) rfl h1 (by decide) ⟨Nat.le_of_ble_eq_true rfl, rfl⟩ (Nat.le_of_ble_eq_true rfl) rfl h (jg_kI (fun z102 m101 h => ?_))
  refine jg_A (pc' := 5) (ls' := [.ref a0, .ref a1, .int (.ofInt z102), mj_U, mj_U, mj_U]) rfl rfl (fun _ _ _ => rfl) ?_
  refine jg_A (pc' := 6) rfl rfl (fun _ _ _ => rfl) ?_
  refine jg_getI (pc' := 9) (bi := 1) rfl h0 (by decide) (Or.inl rfl) rfl rfl ?_
  refine jg_nm (F := fun t103 => jg_G w 2 mm_X10_missingBy 9 [.ref a0, .ref a1, .int (.ofInt z102), mj_U, mj_U, mj_U] [.int (.ofInt t103)] m101 (jg_QI Q)) (m101.1 a0 1) (fun t103 ht103 => ?_)
  have h := h t103 ht103
  refine jg_A (pc' := 10) (ls' := [.ref a0, .ref a1, .int (.ofInt z102), .int (.ofInt t103), mj_U, mj_U]) rfl rfl (fun _ _ _ => rfl) ?_
  refine jg_A (pc' := 11) rfl rfl (fun _ _ _ => rfl) ?_
  refine jg_A (pc' := 13) (ls' := [.ref a0, .ref a1, .int (.ofInt z102), .int (.ofInt t103), .int (.ofInt 0), mj_U]) rfl rfl (fun _ _ _ => rfl) ?_
  exact h
set_option maxRecDepth 100000 in
set_option maxHeartbeats 4000000 in
theorem jb_X10_missingBy_13 {w : Nat} {a0 : Nat} {a1 : Nat} {x2 : Int} {x3 : Int} {x4 : Int} {u5 : Value} {σ : jg_M} {Q : Int → jg_M → Prop} (h0 : jg_sh a0 = (10, 0)) (h1 : jg_sh a1 = (1, 0)) (h : (if 24 ≤ jg_wr x4 then Q x3 σ else jg_CI w 0 mm_X11_inBits [.long (.ofInt (jg_wr x2)), .int (.ofInt x4)] σ (fun (z102 : Int) (m101 : jg_M) => (if jg_wr z102 = 0 then jg_GI w 2 mm_X10_missingBy 13 [.ref a0, .ref a1, .int (.ofInt x2), .int (.ofInt x3), .int (.ofInt (x4 + 1)), u5] m101 Q else ((0 : Int) ≤ jg_wr x4 ∧ jg_wr x4 < (24 : Int)) ∧ jg_CI w 0 mm_X10_withoutsAt [.ref a0, .int (.ofInt (m101.1 (a1 + 1) (jg_wr x4)))] m101 (fun (z104 : Int) (m103 : jg_M) => ((0 : Int) ≤ jg_wr x4 ∧ jg_wr x4 < (24 : Int)) ∧ (if jg_wr (m103.1 (a1 + 2) (jg_wr x4)) = 0 then ∀ t105 : Int, t105 = (jg_and x3 (jg_xor z104 (-1))) → jg_GI w 2 mm_X10_missingBy 13 [.ref a0, .ref a1, .int (.ofInt x2), .int (.ofInt t105), .int (.ofInt (x4 + 1)), .int (.ofInt z104)] m103 Q else ∀ t106 : Int, t106 = (jg_and x3 z104) → jg_GI w 2 mm_X10_missingBy 13 [.ref a0, .ref a1, .int (.ofInt x2), .int (.ofInt t106), .int (.ofInt (x4 + 1)), .int (.ofInt z104)] m103 Q)))))) : jg_GI w 2 mm_X10_missingBy 13 [.ref a0, .ref a1, .int (.ofInt x2), .int (.ofInt x3), .int (.ofInt x4), u5] σ Q := by
  show jg_G w 2 mm_X10_missingBy 13 [.ref a0, .ref a1, .int (.ofInt x2), .int (.ofInt x3), .int (.ofInt x4), u5] [] σ (jg_QI Q)
  refine jg_A (pc' := 15) rfl rfl (fun _ _ _ => rfl) ?_
  refine jg_A (pc' := 17) rfl rfl (fun _ _ _ => rfl) ?_
  refine jg_cge (pc' := 20) rfl rfl (fun hc => ?_) (fun hc => ?_)
  · have h := jg_t h (show 24 ≤ jg_wr x4 from hc)
    refine jg_A (pc' := 72) rfl rfl (fun _ _ _ => rfl) ?_
    exact jg_iret rfl rfl h
  · have h := jg_f h (show ¬ (24 ≤ jg_wr x4) from hc)
    refine jg_A (pc' := 21) rfl rfl (fun _ _ _ => rfl) ?_
    refine jg_i2l (pc' := 22) rfl rfl ?_
    refine jg_A (pc' := 24) rfl rfl (fun _ _ _ => rfl) ?_
    refine jg_calS (M1 := mm_X11_inBits) (hy := 0) (pc' := 27) rfl (Or.inr rfl) jm_X11_inBits (by decide) rfl ⟨Nat.le_of_ble_eq_true rfl, rfl⟩ (Nat.le_of_ble_eq_true rfl) rfl h (jg_kI (fun z102 m101 h => ?_))
    refine jg_ifeq (pc' := 30) rfl rfl (fun hc => ?_) (fun hc => ?_)
    · have h := jg_t h (show jg_wr z102 = 0 from hc)
      refine jg_iinc (pc' := 68) (ls' := [.ref a0, .ref a1, .int (.ofInt x2), .int (.ofInt x3), .int (.ofInt (x4 + 1)), u5]) rfl rfl rfl rfl ?_
      refine jg_goto rfl ?_
      exact h
    · have h := jg_f h (show ¬ (jg_wr z102 = 0) from hc)
      refine jg_A (pc' := 31) rfl rfl (fun _ _ _ => rfl) ?_
      refine jg_A (pc' := 32) rfl rfl (fun _ _ _ => rfl) ?_
      refine jg_getO (pc' := 35) (k := 1) rfl h1 (by decide) rfl rfl ?_
      refine jg_A (pc' := 37) rfl rfl (fun _ _ _ => rfl) ?_
      obtain ⟨hg, h⟩ := h
      refine jg_iald (pc' := 38) rfl (jg_sX1_2 h1) hg rfl ?_
      refine jg_calX (M1 := mm_X10_withoutsAt) (hy := 0) (pc' := 41) rfl jm_X10_withoutsAt (by decide) rfl h0 (by decide) ⟨Nat.le_of_ble_eq_true rfl, rfl⟩ (Nat.le_of_ble_eq_true rfl) rfl h (jg_kI (fun z104 m103 h => ?_))
      refine jg_A (pc' := 43) (ls' := [.ref a0, .ref a1, .int (.ofInt x2), .int (.ofInt x3), .int (.ofInt x4), .int (.ofInt z104)]) rfl rfl (fun _ _ _ => rfl) ?_
      refine jg_A (pc' := 44) rfl rfl (fun _ _ _ => rfl) ?_
      refine jg_A (pc' := 45) rfl rfl (fun _ _ _ => rfl) ?_
      refine jg_getO (pc' := 48) (k := 2) rfl h1 (by decide) rfl rfl ?_
      refine jg_A (pc' := 50) rfl rfl (fun _ _ _ => rfl) ?_
      obtain ⟨hg, h⟩ := h
      refine jg_zald (pc' := 51) rfl (jg_sX1_3 h1) hg rfl ?_
      refine jg_ifeq (pc' := 54) rfl rfl (fun hc => ?_) (fun hc => ?_)
      · have h := jg_t h (show jg_wr (m103.1 (a1 + 2) (jg_wr x4)) = 0 from hc)
        refine jg_A (pc' := 61) rfl rfl (fun _ _ _ => rfl) ?_
        refine jg_A (pc' := 62) rfl rfl (fun _ _ _ => rfl) ?_
        refine jg_ixor (pc' := 63) rfl rfl ?_
        refine jg_iand (pc' := 64) rfl rfl ?_
        refine jg_nm (F := fun t105 => jg_G w 2 mm_X10_missingBy 64 [.ref a0, .ref a1, .int (.ofInt x2), .int (.ofInt x3), .int (.ofInt x4), .int (.ofInt z104)] [.int (.ofInt t105)] m103 (jg_QI Q)) (jg_and x3 (jg_xor z104 (-1))) (fun t105 ht105 => ?_)
        have h := h t105 ht105
        refine jg_A (pc' := 65) (ls' := [.ref a0, .ref a1, .int (.ofInt x2), .int (.ofInt t105), .int (.ofInt x4), .int (.ofInt z104)]) rfl rfl (fun _ _ _ => rfl) ?_
        refine jg_iinc (pc' := 68) (ls' := [.ref a0, .ref a1, .int (.ofInt x2), .int (.ofInt t105), .int (.ofInt (x4 + 1)), .int (.ofInt z104)]) rfl rfl rfl rfl ?_
        refine jg_goto rfl ?_
        exact h
      · have h := jg_f h (show ¬ (jg_wr (m103.1 (a1 + 2) (jg_wr x4)) = 0) from hc)
        refine jg_A (pc' := 56) rfl rfl (fun _ _ _ => rfl) ?_
        refine jg_goto rfl ?_
        refine jg_iand (pc' := 64) rfl rfl ?_
        refine jg_nm (F := fun t106 => jg_G w 2 mm_X10_missingBy 64 [.ref a0, .ref a1, .int (.ofInt x2), .int (.ofInt x3), .int (.ofInt x4), .int (.ofInt z104)] [.int (.ofInt t106)] m103 (jg_QI Q)) (jg_and x3 z104) (fun t106 ht106 => ?_)
        have h := h t106 ht106
        refine jg_A (pc' := 65) (ls' := [.ref a0, .ref a1, .int (.ofInt x2), .int (.ofInt t106), .int (.ofInt x4), .int (.ofInt z104)]) rfl rfl (fun _ _ _ => rfl) ?_
        refine jg_iinc (pc' := 68) (ls' := [.ref a0, .ref a1, .int (.ofInt x2), .int (.ofInt t106), .int (.ofInt (x4 + 1)), .int (.ofInt z104)]) rfl rfl rfl rfl ?_
        refine jg_goto rfl ?_
        exact h
set_option maxRecDepth 100000 in
set_option maxHeartbeats 4000000 in
theorem jb_X11_feed_0 {w : Nat} {a0 : Nat} {x1 : Int} {x2 : Int} {x3 : Int} {x4 : Int} {x5 : Int} {σ : jg_M} {Q : Int → jg_M → Prop} (h0 : jg_sh a0 = (11, 0)) (h : (if jg_wr ((σ.1 a0 1) + 20) ≤ 700 then jg_CV w 0 mm_X11_putBytes [.ref a0, .int (.ofInt x1)] σ (fun (m101 : jg_M) => jg_CV w 0 mm_X11_putBytes [.ref a0, .int (.ofInt x2)] m101 (fun (m102 : jg_M) => jg_CV w 0 mm_X11_putBytes [.ref a0, .int (.ofInt x3)] m102 (fun (m103 : jg_M) => jg_CV w 0 mm_X11_putBytes [.ref a0, .int (.ofInt x4)] m103 (fun (m104 : jg_M) => jg_CV w 0 mm_X11_putBytes [.ref a0, .int (.ofInt x5)] m104 (fun (m105 : jg_M) => Q (m105.1 a0 1) m105))))) else Q (-1) σ)) : jg_CI w 1 mm_X11_feed [.ref a0, .int (.ofInt x1), .int (.ofInt x2), .int (.ofInt x3), .int (.ofInt x4), .int (.ofInt x5)] σ Q := by
  show jg_G w 1 mm_X11_feed 0 [.ref a0, .int (.ofInt x1), .int (.ofInt x2), .int (.ofInt x3), .int (.ofInt x4), .int (.ofInt x5)] [] σ (jg_QI Q)
  refine jg_A (pc' := 1) rfl rfl (fun _ _ _ => rfl) ?_
  refine jg_getI (pc' := 4) (bi := 1) rfl h0 (by decide) (Or.inl rfl) rfl rfl ?_
  refine jg_A (pc' := 6) rfl rfl (fun _ _ _ => rfl) ?_
  refine jg_iadd (pc' := 7) rfl rfl ?_
  refine jg_A (pc' := 10) rfl rfl (fun _ _ _ => rfl) ?_
  refine jg_cle (pc' := 13) rfl rfl (fun hc => ?_) (fun hc => ?_)
  · have h := jg_t h (show jg_wr ((σ.1 a0 1) + 20) ≤ 700 from hc)
    refine jg_A (pc' := 16) rfl rfl (fun _ _ _ => rfl) ?_
    refine jg_A (pc' := 17) rfl rfl (fun _ _ _ => rfl) ?_
    refine jg_calX (M1 := mm_X11_putBytes) (hy := 0) (pc' := 20) rfl jm_X11_putBytes (by decide) rfl h0 (by decide) ⟨Nat.le_of_ble_eq_true rfl, rfl⟩ (Nat.le_of_ble_eq_true rfl) rfl h (jg_kV (fun m101 h => ?_))
    refine jg_A (pc' := 21) rfl rfl (fun _ _ _ => rfl) ?_
    refine jg_A (pc' := 22) rfl rfl (fun _ _ _ => rfl) ?_
    refine jg_calX (M1 := mm_X11_putBytes) (hy := 0) (pc' := 25) rfl jm_X11_putBytes (by decide) rfl h0 (by decide) ⟨Nat.le_of_ble_eq_true rfl, rfl⟩ (Nat.le_of_ble_eq_true rfl) rfl h (jg_kV (fun m102 h => ?_))
    refine jg_A (pc' := 26) rfl rfl (fun _ _ _ => rfl) ?_
    refine jg_A (pc' := 27) rfl rfl (fun _ _ _ => rfl) ?_
    refine jg_calX (M1 := mm_X11_putBytes) (hy := 0) (pc' := 30) rfl jm_X11_putBytes (by decide) rfl h0 (by decide) ⟨Nat.le_of_ble_eq_true rfl, rfl⟩ (Nat.le_of_ble_eq_true rfl) rfl h (jg_kV (fun m103 h => ?_))
    refine jg_A (pc' := 31) rfl rfl (fun _ _ _ => rfl) ?_
    refine jg_A (pc' := 33) rfl rfl (fun _ _ _ => rfl) ?_
    refine jg_calX (M1 := mm_X11_putBytes) (hy := 0) (pc' := 36) rfl jm_X11_putBytes (by decide) rfl h0 (by decide) ⟨Nat.le_of_ble_eq_true rfl, rfl⟩ (Nat.le_of_ble_eq_true rfl) rfl h (jg_kV (fun m104 h => ?_))
    refine jg_A (pc' := 37) rfl rfl (fun _ _ _ => rfl) ?_
    refine jg_A (pc' := 39) rfl rfl (fun _ _ _ => rfl) ?_
    refine jg_calX (M1 := mm_X11_putBytes) (hy := 0) (pc' := 42) rfl jm_X11_putBytes (by decide) rfl h0 (by decide) ⟨Nat.le_of_ble_eq_true rfl, rfl⟩ (Nat.le_of_ble_eq_true rfl) rfl h (jg_kV (fun m105 h => ?_))
    refine jg_A (pc' := 43) rfl rfl (fun _ _ _ => rfl) ?_
    refine jg_getI (pc' := 46) (bi := 1) rfl h0 (by decide) (Or.inl rfl) rfl rfl ?_
    exact jg_iret rfl rfl h
  · have h := jg_f h (show ¬ (jg_wr ((σ.1 a0 1) + 20) ≤ 700) from hc)
    refine jg_A (pc' := 14) rfl rfl (fun _ _ _ => rfl) ?_
    exact jg_iret rfl rfl h
set_option maxRecDepth 100000 in
set_option maxHeartbeats 4000000 in
theorem jb_X11_putBytes_0 {w : Nat} {a0 : Nat} {x1 : Int} {σ : jg_M} {Q : jg_M → Prop} (h0 : jg_sh a0 = (11, 0)) (h : jg_GV w 0 mm_X11_putBytes 3 [.ref a0, .int (.ofInt x1), .int (.ofInt 24)] σ Q) : jg_CV w 0 mm_X11_putBytes [.ref a0, .int (.ofInt x1)] σ Q := by
  show jg_G w 0 mm_X11_putBytes 0 [.ref a0, .int (.ofInt x1), mj_U] [] σ (jg_QV Q)
  refine jg_A (pc' := 2) rfl rfl (fun _ _ _ => rfl) ?_
  refine jg_A (pc' := 3) (ls' := [.ref a0, .int (.ofInt x1), .int (.ofInt 24)]) rfl rfl (fun _ _ _ => rfl) ?_
  exact h
set_option maxRecDepth 100000 in
set_option maxHeartbeats 4000000 in
theorem jb_X11_putBytes_3 {w : Nat} {a0 : Nat} {x1 : Int} {x2 : Int} {σ : jg_M} {Q : jg_M → Prop} (h0 : jg_sh a0 = (11, 0)) (h : (if jg_wr x2 < 0 then Q σ else (if 700 ≤ jg_wr (σ.1 a0 1) then jg_GV w 0 mm_X11_putBytes 3 [.ref a0, .int (.ofInt x1), .int (.ofInt (x2 + (-8)))] σ Q else ((0 : Int) ≤ (jg_wr (σ.1 a0 1)) ∧ (jg_wr (σ.1 a0 1)) < (700 : Int)) ∧ ∀ m101 : jg_M, m101 = jg_sI σ (a0 + 1) (jg_wr (σ.1 a0 1)) (jg_and (jg_ushr x1 x2) 255) → ∀ m102 : jg_M, m102 = jg_sI m101 a0 1 ((m101.1 a0 1) + 1) → jg_GV w 0 mm_X11_putBytes 3 [.ref a0, .int (.ofInt x1), .int (.ofInt (x2 + (-8)))] m102 Q))) : jg_GV w 0 mm_X11_putBytes 3 [.ref a0, .int (.ofInt x1), .int (.ofInt x2)] σ Q := by
  show jg_G w 0 mm_X11_putBytes 3 [.ref a0, .int (.ofInt x1), .int (.ofInt x2)] [] σ (jg_QV Q)
  refine jg_A (pc' := 4) rfl rfl (fun _ _ _ => rfl) ?_
  refine jg_iflt (pc' := 7) rfl rfl (fun hc => ?_) (fun hc => ?_)
  · have h := jg_t h (show jg_wr x2 < 0 from hc)
    exact jg_vret rfl rfl h
  · have h := jg_f h (show ¬ (jg_wr x2 < 0) from hc)
    refine jg_A (pc' := 8) rfl rfl (fun _ _ _ => rfl) ?_
    refine jg_getI (pc' := 11) (bi := 1) rfl h0 (by decide) (Or.inl rfl) rfl rfl ?_
    refine jg_A (pc' := 14) rfl rfl (fun _ _ _ => rfl) ?_
    refine jg_cge (pc' := 17) rfl rfl (fun hc => ?_) (fun hc => ?_)
    · have h := jg_t h (show 700 ≤ jg_wr (σ.1 a0 1) from hc)
      refine jg_iinc (pc' := 46) (ls' := [.ref a0, .int (.ofInt x1), .int (.ofInt (x2 + (-8)))]) rfl rfl rfl rfl ?_
      refine jg_goto rfl ?_
      exact h
    · have h := jg_f h (show ¬ (700 ≤ jg_wr (σ.1 a0 1)) from hc)
      refine jg_A (pc' := 18) rfl rfl (fun _ _ _ => rfl) ?_
      refine jg_getO (pc' := 21) (k := 1) rfl h0 (by decide) rfl rfl ?_
      refine jg_A (pc' := 22) rfl rfl (fun _ _ _ => rfl) ?_
      refine jg_getI (pc' := 25) (bi := 1) rfl h0 (by decide) (Or.inl rfl) rfl rfl ?_
      refine jg_A (pc' := 26) rfl rfl (fun _ _ _ => rfl) ?_
      refine jg_A (pc' := 27) rfl rfl (fun _ _ _ => rfl) ?_
      refine jg_iushr (pc' := 28) rfl rfl ?_
      refine jg_A (pc' := 31) rfl rfl (fun _ _ _ => rfl) ?_
      refine jg_iand (pc' := 32) rfl rfl ?_
      obtain ⟨hg, h⟩ := h
      refine jg_iast (pc' := 33) rfl (jg_sX11_0 h0) hg rfl (fun m101 hm101 => ?_)
      have h := h m101 hm101
      refine jg_A (pc' := 34) rfl rfl (fun _ _ _ => rfl) ?_
      refine jg_A (pc' := 35) rfl rfl (fun _ _ _ => rfl) ?_
      refine jg_getI (pc' := 38) (bi := 1) rfl h0 (by decide) (Or.inl rfl) rfl rfl ?_
      refine jg_A (pc' := 39) rfl rfl (fun _ _ _ => rfl) ?_
      refine jg_iadd (pc' := 40) rfl rfl ?_
      refine jg_putI (pc' := 43) (bi := 1) rfl h0 (by decide) rfl rfl rfl rfl (fun m102 hm102 => ?_)
      have h := h m102 hm102
      refine jg_iinc (pc' := 46) (ls' := [.ref a0, .int (.ofInt x1), .int (.ofInt (x2 + (-8)))]) rfl rfl rfl rfl ?_
      refine jg_goto rfl ?_
      exact h
set_option maxRecDepth 100000 in
set_option maxHeartbeats 4000000 in
theorem jb_X11_text_0 {w : Nat} {a0 : Nat} {x1 : Int} {σ : jg_M} {Q : Int → jg_M → Prop} (h0 : jg_sh a0 = (11, 0)) (h : (if jg_wr x1 < 0 then Q (-2) σ else (if jg_wr x1 ≤ jg_wr (σ.1 a0 1) then ∀ m101 : jg_M, m101 = jg_sI σ a0 1 0 → ∀ r102 : Nat, r102 = (m101.1 a0 4).toNat → jg_sh r102 = (8, 0) ∧ jg_CI w 6 mm_X9_linesOf [.ref (a0 + 2), .ref (a0 + 1), .int (.ofInt x1), .ref (r102 + 1)] m101 (fun (z104 : Int) (m103 : jg_M) => (if jg_wr z104 = (-1) then Q (-1) m103 else ∀ r105 : Nat, r105 = (m103.1 a0 4).toNat → jg_sh r105 = (8, 0) ∧ jg_CI w 5 mm_X8_make [.ref r105, .int (.ofInt 0)] m103 (fun (z107 : Int) (m106 : jg_M) => (if jg_wr z107 = 0 then jg_CV w 0 mm_X9_blame [.ref (a0 + 2), .int (.ofInt 2), .int (.ofInt x1)] m106 (fun (m108 : jg_M) => Q (-1) m108) else jg_CV w 6 mm_X11_takeSpare [.ref a0] m106 (fun (m109 : jg_M) => Q z104 m109))))) else Q (-2) σ))) : jg_CI w 7 mm_X11_text [.ref a0, .int (.ofInt x1)] σ Q := by
  show jg_G w 7 mm_X11_text 0 [.ref a0, .int (.ofInt x1), mj_U] [] σ (jg_QI Q)
  refine jg_A (pc' := 1) rfl rfl (fun _ _ _ => rfl) ?_
  refine jg_iflt (pc' := 4) rfl rfl (fun hc => ?_) (fun hc => ?_)
  · have h := jg_t h (show jg_wr x1 < 0 from hc)
    refine jg_A (pc' := 14) rfl rfl (fun _ _ _ => rfl) ?_
    exact jg_iret rfl rfl h
  · have h := jg_f h (show ¬ (jg_wr x1 < 0) from hc)
    refine jg_A (pc' := 5) rfl rfl (fun _ _ _ => rfl) ?_
    refine jg_A (pc' := 6) rfl rfl (fun _ _ _ => rfl) ?_
    refine jg_getI (pc' := 9) (bi := 1) rfl h0 (by decide) (Or.inl rfl) rfl rfl ?_
    refine jg_cle (pc' := 12) rfl rfl (fun hc => ?_) (fun hc => ?_)
    · have h := jg_t h (show jg_wr x1 ≤ jg_wr (σ.1 a0 1) from hc)
      refine jg_A (pc' := 16) rfl rfl (fun _ _ _ => rfl) ?_
      refine jg_A (pc' := 17) rfl rfl (fun _ _ _ => rfl) ?_
      refine jg_putI (pc' := 20) (bi := 1) rfl h0 (by decide) rfl rfl rfl rfl (fun m101 hm101 => ?_)
      have h := h m101 hm101
      refine jg_A (pc' := 21) rfl rfl (fun _ _ _ => rfl) ?_
      refine jg_getO (pc' := 24) (k := 2) rfl h0 (by decide) rfl rfl ?_
      refine jg_A (pc' := 25) rfl rfl (fun _ _ _ => rfl) ?_
      refine jg_getO (pc' := 28) (k := 1) rfl h0 (by decide) rfl rfl ?_
      refine jg_A (pc' := 29) rfl rfl (fun _ _ _ => rfl) ?_
      refine jg_A (pc' := 30) rfl rfl (fun _ _ _ => rfl) ?_
      refine jg_getR (pc' := 33) (bi := 4) rfl h0 (by decide) rfl rfl rfl (fun r102 er102 => ?_)
      obtain ⟨hr102, h⟩ := h r102 er102
      refine jg_getO (pc' := 36) (k := 1) rfl hr102 (by decide) rfl rfl ?_
      refine jg_calX (M1 := mm_X9_linesOf) (hy := 6) (pc' := 39) rfl jm_X9_linesOf (by decide) rfl (jg_sX11_2 h0) (by decide) ⟨Nat.le_of_ble_eq_true rfl, rfl⟩ (Nat.le_of_ble_eq_true rfl) rfl h (jg_kI (fun z104 m103 h => ?_))
      refine jg_A (pc' := 40) (ls' := [.ref a0, .int (.ofInt x1), .int (.ofInt z104)]) rfl rfl (fun _ _ _ => rfl) ?_
      refine jg_A (pc' := 41) rfl rfl (fun _ _ _ => rfl) ?_
      refine jg_A (pc' := 42) rfl rfl (fun _ _ _ => rfl) ?_
      refine jg_cne (pc' := 45) rfl rfl (fun hc => ?_) (fun hc => ?_)
      · have h := jg_t h (show jg_wr z104 = (-1) from hc)
        refine jg_A (pc' := 46) rfl rfl (fun _ _ _ => rfl) ?_
        exact jg_iret rfl rfl h
      · have h := jg_f h (show ¬ (jg_wr z104 = (-1)) from hc)
        refine jg_A (pc' := 48) rfl rfl (fun _ _ _ => rfl) ?_
        refine jg_getR (pc' := 51) (bi := 4) rfl h0 (by decide) rfl rfl rfl (fun r105 er105 => ?_)
        obtain ⟨hr105, h⟩ := h r105 er105
        refine jg_A (pc' := 52) rfl rfl (fun _ _ _ => rfl) ?_
        refine jg_calX (M1 := mm_X8_make) (hy := 5) (pc' := 55) rfl jm_X8_make (by decide) rfl hr105 (by decide) ⟨Nat.le_of_ble_eq_true rfl, rfl⟩ (Nat.le_of_ble_eq_true rfl) rfl h (jg_kI (fun z107 m106 h => ?_))
        refine jg_ifne (pc' := 58) rfl rfl (fun hc => ?_) (fun hc => ?_)
        · have h := jg_t h (show jg_wr z107 = 0 from hc)
          refine jg_A (pc' := 59) rfl rfl (fun _ _ _ => rfl) ?_
          refine jg_getO (pc' := 62) (k := 2) rfl h0 (by decide) rfl rfl ?_
          refine jg_A (pc' := 63) rfl rfl (fun _ _ _ => rfl) ?_
          refine jg_A (pc' := 64) rfl rfl (fun _ _ _ => rfl) ?_
          refine jg_calX (M1 := mm_X9_blame) (hy := 0) (pc' := 67) rfl jm_X9_blame (by decide) rfl (jg_sX11_2 h0) (by decide) ⟨Nat.le_of_ble_eq_true rfl, rfl⟩ (Nat.le_of_ble_eq_true rfl) rfl h (jg_kV (fun m108 h => ?_))
          refine jg_A (pc' := 68) rfl rfl (fun _ _ _ => rfl) ?_
          exact jg_iret rfl rfl h
        · have h := jg_f h (show ¬ (jg_wr z107 = 0) from hc)
          refine jg_A (pc' := 70) rfl rfl (fun _ _ _ => rfl) ?_
          refine jg_calX (M1 := mm_X11_takeSpare) (hy := 6) (pc' := 73) rfl jm_X11_takeSpare (by decide) rfl h0 (by decide) ⟨Nat.le_of_ble_eq_true rfl, rfl⟩ (Nat.le_of_ble_eq_true rfl) rfl h (jg_kV (fun m109 h => ?_))
          refine jg_A (pc' := 74) rfl rfl (fun _ _ _ => rfl) ?_
          exact jg_iret rfl rfl h
    · have h := jg_f h (show ¬ (jg_wr x1 ≤ jg_wr (σ.1 a0 1)) from hc)
      refine jg_A (pc' := 14) rfl rfl (fun _ _ _ => rfl) ?_
      exact jg_iret rfl rfl h
set_option maxRecDepth 100000 in
set_option maxHeartbeats 4000000 in
theorem jb_X11_takeSpare_0 {w : Nat} {a0 : Nat} {σ : jg_M} {Q : jg_M → Prop} (h0 : jg_sh a0 = (11, 0)) (h : ∀ r101 : Nat, r101 = (σ.1 a0 4).toNat → jg_sh r101 = (8, 0) ∧ ∀ r102 : Nat, r102 = (σ.1 a0 3).toNat → jg_sh r102 = (8, 0) ∧ ∀ m103 : jg_M, m103 = jg_sI σ a0 4 ((r102 : Nat) : Int) → ∀ m104 : jg_M, m104 = jg_sI m103 a0 3 ((r101 : Nat) : Int) → ∀ r105 : Nat, r105 = (m104.1 a0 3).toNat → jg_sh r105 = (8, 0) ∧ jg_CV w 5 mm_X4_make [.ref (a0 + 48), .ref r105] m104 (fun (m106 : jg_M) => ∀ r107 : Nat, r107 = (m106.1 a0 3).toNat → jg_sh r107 = (8, 0) ∧ jg_CV w 4 mm_X6_make [.ref (a0 + 55), .ref r107] m106 (fun (m108 : jg_M) => ∀ r109 : Nat, r109 = (m108.1 a0 3).toNat → jg_sh r109 = (8, 0) ∧ jg_CV w 4 mm_X2_make [.ref (a0 + 61), .ref r109] m108 (fun (m110 : jg_M) => ∀ r111 : Nat, r111 = (m110.1 a0 3).toNat → jg_sh r111 = (8, 0) ∧ jg_CV w 1 mm_X5_begin [.ref (a0 + 65), .ref r111] m110 (fun (m112 : jg_M) => jg_CV w 0 mm_X3_forget [.ref (a0 + 69)] m112 (fun (m113 : jg_M) => ∀ m114 : jg_M, m114 = jg_sI m113 a0 11 0 → jg_CV w 0 mm_X1_forget [.ref (a0 + 74)] m114 (fun (m115 : jg_M) => jg_CV w 0 mm_X10_forget [.ref (a0 + 78)] m115 (fun (m116 : jg_M) => Q m116)))))))) : jg_CV w 6 mm_X11_takeSpare [.ref a0] σ Q := by
  show jg_G w 6 mm_X11_takeSpare 0 [.ref a0, mj_U] [] σ (jg_QV Q)
  refine jg_A (pc' := 1) rfl rfl (fun _ _ _ => rfl) ?_
  refine jg_getR (pc' := 4) (bi := 4) rfl h0 (by decide) rfl rfl rfl (fun r101 er101 => ?_)
  obtain ⟨hr101, h⟩ := h r101 er101
  refine jg_A (pc' := 5) (ls' := [.ref a0, .ref r101]) rfl rfl (fun _ _ _ => rfl) ?_
  refine jg_A (pc' := 6) rfl rfl (fun _ _ _ => rfl) ?_
  refine jg_A (pc' := 7) rfl rfl (fun _ _ _ => rfl) ?_
  refine jg_getR (pc' := 10) (bi := 3) rfl h0 (by decide) rfl rfl rfl (fun r102 er102 => ?_)
  obtain ⟨hr102, h⟩ := h r102 er102
  refine jg_putR (pc' := 13) (bi := 4) rfl h0 (by decide) rfl rfl rfl rfl (fun m103 hm103 => ?_)
  have h := h m103 hm103
  refine jg_A (pc' := 14) rfl rfl (fun _ _ _ => rfl) ?_
  refine jg_A (pc' := 15) rfl rfl (fun _ _ _ => rfl) ?_
  refine jg_putR (pc' := 18) (bi := 3) rfl h0 (by decide) rfl rfl rfl rfl (fun m104 hm104 => ?_)
  have h := h m104 hm104
  refine jg_A (pc' := 19) rfl rfl (fun _ _ _ => rfl) ?_
  refine jg_getO (pc' := 22) (k := 48) rfl h0 (by decide) rfl rfl ?_
  refine jg_A (pc' := 23) rfl rfl (fun _ _ _ => rfl) ?_
  refine jg_getR (pc' := 26) (bi := 3) rfl h0 (by decide) rfl rfl rfl (fun r105 er105 => ?_)
  obtain ⟨hr105, h⟩ := h r105 er105
  refine jg_calX (M1 := mm_X4_make) (hy := 5) (pc' := 29) rfl jm_X4_make (by decide) rfl (jg_sX11_5 h0) (by decide) ⟨Nat.le_of_ble_eq_true rfl, rfl⟩ (Nat.le_of_ble_eq_true rfl) rfl h (jg_kV (fun m106 h => ?_))
  refine jg_A (pc' := 30) rfl rfl (fun _ _ _ => rfl) ?_
  refine jg_getO (pc' := 33) (k := 55) rfl h0 (by decide) rfl rfl ?_
  refine jg_A (pc' := 34) rfl rfl (fun _ _ _ => rfl) ?_
  refine jg_getR (pc' := 37) (bi := 3) rfl h0 (by decide) rfl rfl rfl (fun r107 er107 => ?_)
  obtain ⟨hr107, h⟩ := h r107 er107
  refine jg_calX (M1 := mm_X6_make) (hy := 4) (pc' := 40) rfl jm_X6_make (by decide) rfl (jg_sX11_6 h0) (by decide) ⟨Nat.le_of_ble_eq_true rfl, rfl⟩ (Nat.le_of_ble_eq_true rfl) rfl h (jg_kV (fun m108 h => ?_))
  refine jg_A (pc' := 41) rfl rfl (fun _ _ _ => rfl) ?_
  refine jg_getO (pc' := 44) (k := 61) rfl h0 (by decide) rfl rfl ?_
  refine jg_A (pc' := 45) rfl rfl (fun _ _ _ => rfl) ?_
  refine jg_getR (pc' := 48) (bi := 3) rfl h0 (by decide) rfl rfl rfl (fun r109 er109 => ?_)
  obtain ⟨hr109, h⟩ := h r109 er109
  refine jg_calX (M1 := mm_X2_make) (hy := 4) (pc' := 51) rfl jm_X2_make (by decide) rfl (jg_sX11_7 h0) (by decide) ⟨Nat.le_of_ble_eq_true rfl, rfl⟩ (Nat.le_of_ble_eq_true rfl) rfl h (jg_kV (fun m110 h => ?_))
  refine jg_A (pc' := 52) rfl rfl (fun _ _ _ => rfl) ?_
  refine jg_getO (pc' := 55) (k := 65) rfl h0 (by decide) rfl rfl ?_
  refine jg_A (pc' := 56) rfl rfl (fun _ _ _ => rfl) ?_
  refine jg_getR (pc' := 59) (bi := 3) rfl h0 (by decide) rfl rfl rfl (fun r111 er111 => ?_)
  obtain ⟨hr111, h⟩ := h r111 er111
  refine jg_calX (M1 := mm_X5_begin) (hy := 1) (pc' := 62) rfl jm_X5_begin (by decide) rfl (jg_sX11_8 h0) (by decide) ⟨Nat.le_of_ble_eq_true rfl, rfl⟩ (Nat.le_of_ble_eq_true rfl) rfl h (jg_kV (fun m112 h => ?_))
  refine jg_A (pc' := 63) rfl rfl (fun _ _ _ => rfl) ?_
  refine jg_getO (pc' := 66) (k := 69) rfl h0 (by decide) rfl rfl ?_
  refine jg_calX (M1 := mm_X3_forget) (hy := 0) (pc' := 69) rfl jm_X3_forget (by decide) rfl (jg_sX11_12 h0) (by decide) ⟨Nat.le_of_ble_eq_true rfl, rfl⟩ (Nat.le_of_ble_eq_true rfl) rfl h (jg_kV (fun m113 h => ?_))
  refine jg_A (pc' := 70) rfl rfl (fun _ _ _ => rfl) ?_
  refine jg_A (pc' := 71) rfl rfl (fun _ _ _ => rfl) ?_
  refine jg_putZ (pc' := 74) (bi := 11) rfl h0 (by decide) rfl rfl (by decide) rfl rfl (fun m114 hm114 => ?_)
  have h := h m114 hm114
  refine jg_A (pc' := 75) rfl rfl (fun _ _ _ => rfl) ?_
  refine jg_getO (pc' := 78) (k := 74) rfl h0 (by decide) rfl rfl ?_
  refine jg_calX (M1 := mm_X1_forget) (hy := 0) (pc' := 81) rfl jm_X1_forget (by decide) rfl (jg_sX11_13 h0) (by decide) ⟨Nat.le_of_ble_eq_true rfl, rfl⟩ (Nat.le_of_ble_eq_true rfl) rfl h (jg_kV (fun m115 h => ?_))
  refine jg_A (pc' := 82) rfl rfl (fun _ _ _ => rfl) ?_
  refine jg_getO (pc' := 85) (k := 78) rfl h0 (by decide) rfl rfl ?_
  refine jg_calX (M1 := mm_X10_forget) (hy := 0) (pc' := 88) rfl jm_X10_forget (by decide) rfl (jg_sX11_14 h0) (by decide) ⟨Nat.le_of_ble_eq_true rfl, rfl⟩ (Nat.le_of_ble_eq_true rfl) rfl h (jg_kV (fun m116 h => ?_))
  exact jg_vret rfl rfl h
set_option maxRecDepth 100000 in
set_option maxHeartbeats 4000000 in
theorem jb_X11_rule_0 {w : Nat} {a0 : Nat} {x1 : Int} {x2 : Int} {σ : jg_M} {Q : Int → jg_M → Prop} (h0 : jg_sh a0 = (11, 0)) (h : ∀ r101 : Nat, r101 = (σ.1 a0 3).toNat → jg_sh r101 = (8, 0) ∧ jg_CI w 0 mm_X0_hasRule [.ref (r101 + 1), .int (.ofInt x1)] σ (fun (z103 : Int) (m102 : jg_M) => (if jg_wr z103 = 0 then Q (-1) m102 else (if jg_wr x2 = 0 then jg_CI w 1 mm_X0_kindOf [.ref (r101 + 1), .int (.ofInt x1)] m102 (fun (z105 : Int) (m104 : jg_M) => Q z105 m104) else (if jg_wr x2 = 1 then jg_CI w 0 mm_X0_lengthOf [.ref (r101 + 1), .int (.ofInt x1)] m102 (fun (z107 : Int) (m106 : jg_M) => Q z107 m106) else (if jg_wr x2 < 2 then (if jg_wr x2 = 6 then jg_CI w 2 mm_X0_rankOf [.ref (r101 + 1), .int (.ofInt x1)] m102 (fun (z109 : Int) (m108 : jg_M) => Q z109 m108) else Q (-1) m102) else (if 6 ≤ jg_wr x2 then (if jg_wr x2 = 6 then jg_CI w 2 mm_X0_rankOf [.ref (r101 + 1), .int (.ofInt x1)] m102 (fun (z111 : Int) (m110 : jg_M) => Q z111 m110) else Q (-1) m102) else jg_CI w 1 mm_X0_symbolAt [.ref (r101 + 1), .int (.ofInt x1), .int (.ofInt (x2 - 2))] m102 (fun (z113 : Int) (m112 : jg_M) => Q z113 m112)))))))) : jg_CI w 3 mm_X11_rule [.ref a0, .int (.ofInt x1), .int (.ofInt x2)] σ Q := by
  show jg_G w 3 mm_X11_rule 0 [.ref a0, .int (.ofInt x1), .int (.ofInt x2), mj_U] [] σ (jg_QI Q)
  refine jg_A (pc' := 1) rfl rfl (fun _ _ _ => rfl) ?_
  refine jg_getR (pc' := 4) (bi := 3) rfl h0 (by decide) rfl rfl rfl (fun r101 er101 => ?_)
  obtain ⟨hr101, h⟩ := h r101 er101
  refine jg_getO (pc' := 7) (k := 1) rfl hr101 (by decide) rfl rfl ?_
  refine jg_A (pc' := 8) (ls' := [.ref a0, .int (.ofInt x1), .int (.ofInt x2), .ref (r101 + 1)]) rfl rfl (fun _ _ _ => rfl) ?_
  refine jg_A (pc' := 9) rfl rfl (fun _ _ _ => rfl) ?_
  refine jg_A (pc' := 10) rfl rfl (fun _ _ _ => rfl) ?_
  refine jg_calX (M1 := mm_X0_hasRule) (hy := 0) (pc' := 13) rfl jm_X0_hasRule (by decide) rfl (jg_sX8_0 hr101) (by decide) ⟨Nat.le_of_ble_eq_true rfl, rfl⟩ (Nat.le_of_ble_eq_true rfl) rfl h (jg_kI (fun z103 m102 h => ?_))
  refine jg_ifne (pc' := 16) rfl rfl (fun hc => ?_) (fun hc => ?_)
  · have h := jg_t h (show jg_wr z103 = 0 from hc)
    refine jg_A (pc' := 17) rfl rfl (fun _ _ _ => rfl) ?_
    exact jg_iret rfl rfl h
  · have h := jg_f h (show ¬ (jg_wr z103 = 0) from hc)
    refine jg_A (pc' := 19) rfl rfl (fun _ _ _ => rfl) ?_
    refine jg_ifne (pc' := 22) rfl rfl (fun hc => ?_) (fun hc => ?_)
    · have h := jg_t h (show jg_wr x2 = 0 from hc)
      refine jg_A (pc' := 23) rfl rfl (fun _ _ _ => rfl) ?_
      refine jg_A (pc' := 24) rfl rfl (fun _ _ _ => rfl) ?_
      refine jg_calX (M1 := mm_X0_kindOf) (hy := 1) (pc' := 27) rfl jm_X0_kindOf (by decide) rfl (jg_sX8_0 hr101) (by decide) ⟨Nat.le_of_ble_eq_true rfl, rfl⟩ (Nat.le_of_ble_eq_true rfl) rfl h (jg_kI (fun z105 m104 h => ?_))
      exact jg_iret rfl rfl h
    · have h := jg_f h (show ¬ (jg_wr x2 = 0) from hc)
      refine jg_A (pc' := 29) rfl rfl (fun _ _ _ => rfl) ?_
      refine jg_A (pc' := 30) rfl rfl (fun _ _ _ => rfl) ?_
      refine jg_cne (pc' := 33) rfl rfl (fun hc => ?_) (fun hc => ?_)
      · have h := jg_t h (show jg_wr x2 = 1 from hc)
        refine jg_A (pc' := 34) rfl rfl (fun _ _ _ => rfl) ?_
        refine jg_A (pc' := 35) rfl rfl (fun _ _ _ => rfl) ?_
        refine jg_calX (M1 := mm_X0_lengthOf) (hy := 0) (pc' := 38) rfl jm_X0_lengthOf (by decide) rfl (jg_sX8_0 hr101) (by decide) ⟨Nat.le_of_ble_eq_true rfl, rfl⟩ (Nat.le_of_ble_eq_true rfl) rfl h (jg_kI (fun z107 m106 h => ?_))
        exact jg_iret rfl rfl h
      · have h := jg_f h (show ¬ (jg_wr x2 = 1) from hc)
        refine jg_A (pc' := 40) rfl rfl (fun _ _ _ => rfl) ?_
        refine jg_A (pc' := 41) rfl rfl (fun _ _ _ => rfl) ?_
        refine jg_clt (pc' := 44) rfl rfl (fun hc => ?_) (fun hc => ?_)
        · have h := jg_t h (show jg_wr x2 < 2 from hc)
          refine jg_A (pc' := 60) rfl rfl (fun _ _ _ => rfl) ?_
          refine jg_A (pc' := 62) rfl rfl (fun _ _ _ => rfl) ?_
          refine jg_cne (pc' := 65) rfl rfl (fun hc => ?_) (fun hc => ?_)
          · have h := jg_t h (show jg_wr x2 = 6 from hc)
            refine jg_A (pc' := 66) rfl rfl (fun _ _ _ => rfl) ?_
            refine jg_A (pc' := 67) rfl rfl (fun _ _ _ => rfl) ?_
            refine jg_calX (M1 := mm_X0_rankOf) (hy := 2) (pc' := 70) rfl jm_X0_rankOf (by decide) rfl (jg_sX8_0 hr101) (by decide) ⟨Nat.le_of_ble_eq_true rfl, rfl⟩ (Nat.le_of_ble_eq_true rfl) rfl h (jg_kI (fun z109 m108 h => ?_))
            refine jg_goto rfl ?_
            exact jg_iret rfl rfl h
          · have h := jg_f h (show ¬ (jg_wr x2 = 6) from hc)
            refine jg_A (pc' := 74) rfl rfl (fun _ _ _ => rfl) ?_
            exact jg_iret rfl rfl h
        · have h := jg_f h (show ¬ (jg_wr x2 < 2) from hc)
          refine jg_A (pc' := 45) rfl rfl (fun _ _ _ => rfl) ?_
          refine jg_A (pc' := 47) rfl rfl (fun _ _ _ => rfl) ?_
          refine jg_cge (pc' := 50) rfl rfl (fun hc => ?_) (fun hc => ?_)
          · have h := jg_t h (show 6 ≤ jg_wr x2 from hc)
            refine jg_A (pc' := 60) rfl rfl (fun _ _ _ => rfl) ?_
            refine jg_A (pc' := 62) rfl rfl (fun _ _ _ => rfl) ?_
            refine jg_cne (pc' := 65) rfl rfl (fun hc => ?_) (fun hc => ?_)
            · have h := jg_t h (show jg_wr x2 = 6 from hc)
              refine jg_A (pc' := 66) rfl rfl (fun _ _ _ => rfl) ?_
              refine jg_A (pc' := 67) rfl rfl (fun _ _ _ => rfl) ?_
              refine jg_calX (M1 := mm_X0_rankOf) (hy := 2) (pc' := 70) rfl jm_X0_rankOf (by decide) rfl (jg_sX8_0 hr101) (by decide) ⟨Nat.le_of_ble_eq_true rfl, rfl⟩ (Nat.le_of_ble_eq_true rfl) rfl h (jg_kI (fun z111 m110 h => ?_))
              refine jg_goto rfl ?_
              exact jg_iret rfl rfl h
            · have h := jg_f h (show ¬ (jg_wr x2 = 6) from hc)
              refine jg_A (pc' := 74) rfl rfl (fun _ _ _ => rfl) ?_
              exact jg_iret rfl rfl h
          · have h := jg_f h (show ¬ (6 ≤ jg_wr x2) from hc)
            refine jg_A (pc' := 51) rfl rfl (fun _ _ _ => rfl) ?_
            refine jg_A (pc' := 52) rfl rfl (fun _ _ _ => rfl) ?_
            refine jg_A (pc' := 53) rfl rfl (fun _ _ _ => rfl) ?_
            refine jg_A (pc' := 54) rfl rfl (fun _ _ _ => rfl) ?_
            refine jg_isub (pc' := 55) rfl rfl ?_
            refine jg_calX (M1 := mm_X0_symbolAt) (hy := 1) (pc' := 58) rfl jm_X0_symbolAt (by decide) rfl (jg_sX8_0 hr101) (by decide) ⟨Nat.le_of_ble_eq_true rfl, rfl⟩ (Nat.le_of_ble_eq_true rfl) rfl h (jg_kI (fun z113 m112 h => ?_))
            exact jg_iret rfl rfl h
set_option maxRecDepth 100000 in
set_option maxHeartbeats 4000000 in
theorem jb_X11_state_0 {w : Nat} {a0 : Nat} {x1 : Int} {x2 : Int} {σ : jg_M} {Q : Int → jg_M → Prop} (h0 : jg_sh a0 = (11, 0)) (h : ∀ r101 : Nat, r101 = (σ.1 a0 3).toNat → jg_sh r101 = (8, 0) ∧ jg_CI w 0 mm_X7_has [.ref (r101 + 10), .int (.ofInt x1)] σ (fun (z103 : Int) (m102 : jg_M) => (if jg_wr z103 = 0 then Q (-1) m102 else (if jg_wr x2 = 0 then ((0 : Int) ≤ jg_wr x1 ∧ jg_wr x1 < (48 : Int)) ∧ jg_CI w 0 mm_J13_bitCount_95d88 [.long (.ofInt (m102.2 ((r101 + 10) + 1) (jg_wr x1)))] m102 (fun (z105 : Int) (m104 : jg_M) => Q z105 m104) else (if jg_wr x2 = 1 then ((0 : Int) ≤ jg_wr x1 ∧ jg_wr x1 < (48 : Int)) ∧ jg_CI w 0 mm_J13_bitCount_95d88 [.long (.ofInt (m102.2 ((r101 + 10) + 2) (jg_wr x1)))] m102 (fun (z107 : Int) (m106 : jg_M) => Q z107 m106) else (if jg_wr x2 = 2 then ((0 : Int) ≤ jg_wr x1 ∧ jg_wr x1 < (48 : Int)) ∧ Q (m102.1 ((r101 + 10) + 3) (jg_wr x1)) m102 else (if jg_wr x2 = 3 then ((0 : Int) ≤ jg_wr x1 ∧ jg_wr x1 < (48 : Int)) ∧ Q (m102.1 ((a0 + 55) + 2) (jg_wr x1)) m102 else (if jg_wr x2 = 4 then ∀ r108 : Nat, r108 = (m102.1 a0 3).toNat → jg_sh r108 = (8, 0) ∧ jg_CI w 2 mm_X8_actionsIn [.ref r108, .int (.ofInt x1)] m102 (fun (z110 : Int) (m109 : jg_M) => Q z110 m109) else Q (-1) m102)))))))) : jg_CI w 3 mm_X11_state [.ref a0, .int (.ofInt x1), .int (.ofInt x2)] σ Q := by
  show jg_G w 3 mm_X11_state 0 [.ref a0, .int (.ofInt x1), .int (.ofInt x2), mj_U] [] σ (jg_QI Q)
  refine jg_A (pc' := 1) rfl rfl (fun _ _ _ => rfl) ?_
  refine jg_getR (pc' := 4) (bi := 3) rfl h0 (by decide) rfl rfl rfl (fun r101 er101 => ?_)
  obtain ⟨hr101, h⟩ := h r101 er101
  refine jg_getO (pc' := 7) (k := 10) rfl hr101 (by decide) rfl rfl ?_
  refine jg_A (pc' := 8) (ls' := [.ref a0, .int (.ofInt x1), .int (.ofInt x2), .ref (r101 + 10)]) rfl rfl (fun _ _ _ => rfl) ?_
  refine jg_A (pc' := 9) rfl rfl (fun _ _ _ => rfl) ?_
  refine jg_A (pc' := 10) rfl rfl (fun _ _ _ => rfl) ?_
  refine jg_calX (M1 := mm_X7_has) (hy := 0) (pc' := 13) rfl jm_X7_has (by decide) rfl (jg_sX8_1 hr101) (by decide) ⟨Nat.le_of_ble_eq_true rfl, rfl⟩ (Nat.le_of_ble_eq_true rfl) rfl h (jg_kI (fun z103 m102 h => ?_))
  refine jg_ifne (pc' := 16) rfl rfl (fun hc => ?_) (fun hc => ?_)
  · have h := jg_t h (show jg_wr z103 = 0 from hc)
    refine jg_A (pc' := 17) rfl rfl (fun _ _ _ => rfl) ?_
    exact jg_iret rfl rfl h
  · have h := jg_f h (show ¬ (jg_wr z103 = 0) from hc)
    refine jg_A (pc' := 19) rfl rfl (fun _ _ _ => rfl) ?_
    refine jg_tsw rfl rfl ?_
    refine jg_swc (v := 0) (t := 52) (fun hc => ?_) (fun hc => ?_)
    · have h := jg_t h hc
      refine jg_A (pc' := 53) rfl rfl (fun _ _ _ => rfl) ?_
      refine jg_getO (pc' := 56) (k := 1) rfl (jg_sX8_1 hr101) (by decide) rfl rfl ?_
      refine jg_A (pc' := 57) rfl rfl (fun _ _ _ => rfl) ?_
      obtain ⟨hg, h⟩ := h
      refine jg_lald (pc' := 58) rfl (jg_sX7_1 (jg_sX8_1 hr101)) hg rfl ?_
      refine jg_calS (M1 := mm_J13_bitCount_95d88) (hy := 0) (pc' := 61) rfl (Or.inl rfl) jm_J13_bitCount_95d88 (by decide) rfl ⟨Nat.le_of_ble_eq_true rfl, rfl⟩ (Nat.le_of_ble_eq_true rfl) rfl h (jg_kI (fun z105 m104 h => ?_))
      exact jg_iret rfl rfl h
    have h := jg_f h hc
    refine jg_swc (v := 1) (t := 62) (fun hc => ?_) (fun hc => ?_)
    · have h := jg_t h hc
      refine jg_A (pc' := 63) rfl rfl (fun _ _ _ => rfl) ?_
      refine jg_getO (pc' := 66) (k := 2) rfl (jg_sX8_1 hr101) (by decide) rfl rfl ?_
      refine jg_A (pc' := 67) rfl rfl (fun _ _ _ => rfl) ?_
      obtain ⟨hg, h⟩ := h
      refine jg_lald (pc' := 68) rfl (jg_sX7_2 (jg_sX8_1 hr101)) hg rfl ?_
      refine jg_calS (M1 := mm_J13_bitCount_95d88) (hy := 0) (pc' := 71) rfl (Or.inl rfl) jm_J13_bitCount_95d88 (by decide) rfl ⟨Nat.le_of_ble_eq_true rfl, rfl⟩ (Nat.le_of_ble_eq_true rfl) rfl h (jg_kI (fun z107 m106 h => ?_))
      exact jg_iret rfl rfl h
    have h := jg_f h hc
    refine jg_swc (v := 2) (t := 72) (fun hc => ?_) (fun hc => ?_)
    · have h := jg_t h hc
      refine jg_A (pc' := 73) rfl rfl (fun _ _ _ => rfl) ?_
      refine jg_getO (pc' := 76) (k := 3) rfl (jg_sX8_1 hr101) (by decide) rfl rfl ?_
      refine jg_A (pc' := 77) rfl rfl (fun _ _ _ => rfl) ?_
      obtain ⟨hg, h⟩ := h
      refine jg_iald (pc' := 78) rfl (jg_sX7_3 (jg_sX8_1 hr101)) hg rfl ?_
      exact jg_iret rfl rfl h
    have h := jg_f h hc
    refine jg_swc (v := 3) (t := 79) (fun hc => ?_) (fun hc => ?_)
    · have h := jg_t h hc
      refine jg_A (pc' := 80) rfl rfl (fun _ _ _ => rfl) ?_
      refine jg_getO (pc' := 83) (k := 55) rfl h0 (by decide) rfl rfl ?_
      refine jg_getO (pc' := 86) (k := 2) rfl (jg_sX11_6 h0) (by decide) rfl rfl ?_
      refine jg_A (pc' := 87) rfl rfl (fun _ _ _ => rfl) ?_
      obtain ⟨hg, h⟩ := h
      refine jg_iald (pc' := 88) rfl (jg_sX6_1 (jg_sX11_6 h0)) hg rfl ?_
      exact jg_iret rfl rfl h
    have h := jg_f h hc
    refine jg_swc (v := 4) (t := 89) (fun hc => ?_) (fun hc => ?_)
    · have h := jg_t h hc
      refine jg_A (pc' := 90) rfl rfl (fun _ _ _ => rfl) ?_
      refine jg_getR (pc' := 93) (bi := 3) rfl h0 (by decide) rfl rfl rfl (fun r108 er108 => ?_)
      obtain ⟨hr108, h⟩ := h r108 er108
      refine jg_A (pc' := 94) rfl rfl (fun _ _ _ => rfl) ?_
      refine jg_calX (M1 := mm_X8_actionsIn) (hy := 2) (pc' := 97) rfl jm_X8_actionsIn (by decide) rfl hr108 (by decide) ⟨Nat.le_of_ble_eq_true rfl, rfl⟩ (Nat.le_of_ble_eq_true rfl) rfl h (jg_kI (fun z110 m109 h => ?_))
      exact jg_iret rfl rfl h
    have h := jg_f h hc
    show jg_G w 3 mm_X11_state 98 [.ref a0, .int (.ofInt x1), .int (.ofInt x2), .ref (r101 + 10)] [] m102 (jg_QI Q)
    refine jg_A (pc' := 99) rfl rfl (fun _ _ _ => rfl) ?_
    exact jg_iret rfl rfl h
set_option maxRecDepth 100000 in
set_option maxHeartbeats 4000000 in
theorem jb_X11_action_0 {w : Nat} {a0 : Nat} {x1 : Int} {x2 : Int} {σ : jg_M} {Q : Int → jg_M → Prop} (h0 : jg_sh a0 = (11, 0)) (h : ∀ r101 : Nat, r101 = (σ.1 a0 3).toNat → jg_sh r101 = (8, 0) ∧ jg_CI w 0 mm_X7_has [.ref (r101 + 10), .int (.ofInt x1)] σ (fun (z103 : Int) (m102 : jg_M) => (if jg_wr z103 = 0 then Q (-1) m102 else ∀ r104 : Nat, r104 = (m102.1 a0 3).toNat → jg_sh r104 = (8, 0) ∧ jg_CI w 0 mm_X0_hasTerminal [.ref (r104 + 1), .int (.ofInt x2)] m102 (fun (z106 : Int) (m105 : jg_M) => (if jg_wr z106 = 0 then Q (-1) m105 else ∀ r107 : Nat, r107 = (m105.1 a0 3).toNat → jg_sh r107 = (8, 0) ∧ jg_CI w 1 mm_X8_actionFor [.ref r107, .int (.ofInt x1), .int (.ofInt x2)] m105 (fun (z109 : Int) (m108 : jg_M) => Q z109 m108)))))) : jg_CI w 2 mm_X11_action [.ref a0, .int (.ofInt x1), .int (.ofInt x2)] σ Q := by
  show jg_G w 2 mm_X11_action 0 [.ref a0, .int (.ofInt x1), .int (.ofInt x2)] [] σ (jg_QI Q)
  refine jg_A (pc' := 1) rfl rfl (fun _ _ _ => rfl) ?_
  refine jg_getR (pc' := 4) (bi := 3) rfl h0 (by decide) rfl rfl rfl (fun r101 er101 => ?_)
  obtain ⟨hr101, h⟩ := h r101 er101
  refine jg_getO (pc' := 7) (k := 10) rfl hr101 (by decide) rfl rfl ?_
  refine jg_A (pc' := 8) rfl rfl (fun _ _ _ => rfl) ?_
  refine jg_calX (M1 := mm_X7_has) (hy := 0) (pc' := 11) rfl jm_X7_has (by decide) rfl (jg_sX8_1 hr101) (by decide) ⟨Nat.le_of_ble_eq_true rfl, rfl⟩ (Nat.le_of_ble_eq_true rfl) rfl h (jg_kI (fun z103 m102 h => ?_))
  refine jg_ifeq (pc' := 14) rfl rfl (fun hc => ?_) (fun hc => ?_)
  · have h := jg_t h (show jg_wr z103 = 0 from hc)
    refine jg_A (pc' := 29) rfl rfl (fun _ _ _ => rfl) ?_
    exact jg_iret rfl rfl h
  · have h := jg_f h (show ¬ (jg_wr z103 = 0) from hc)
    refine jg_A (pc' := 15) rfl rfl (fun _ _ _ => rfl) ?_
    refine jg_getR (pc' := 18) (bi := 3) rfl h0 (by decide) rfl rfl rfl (fun r104 er104 => ?_)
    obtain ⟨hr104, h⟩ := h r104 er104
    refine jg_getO (pc' := 21) (k := 1) rfl hr104 (by decide) rfl rfl ?_
    refine jg_A (pc' := 22) rfl rfl (fun _ _ _ => rfl) ?_
    refine jg_calX (M1 := mm_X0_hasTerminal) (hy := 0) (pc' := 25) rfl jm_X0_hasTerminal (by decide) rfl (jg_sX8_0 hr104) (by decide) ⟨Nat.le_of_ble_eq_true rfl, rfl⟩ (Nat.le_of_ble_eq_true rfl) rfl h (jg_kI (fun z106 m105 h => ?_))
    refine jg_ifne (pc' := 28) rfl rfl (fun hc => ?_) (fun hc => ?_)
    · have h := jg_t h (show jg_wr z106 = 0 from hc)
      refine jg_A (pc' := 29) rfl rfl (fun _ _ _ => rfl) ?_
      exact jg_iret rfl rfl h
    · have h := jg_f h (show ¬ (jg_wr z106 = 0) from hc)
      refine jg_A (pc' := 31) rfl rfl (fun _ _ _ => rfl) ?_
      refine jg_getR (pc' := 34) (bi := 3) rfl h0 (by decide) rfl rfl rfl (fun r107 er107 => ?_)
      obtain ⟨hr107, h⟩ := h r107 er107
      refine jg_A (pc' := 35) rfl rfl (fun _ _ _ => rfl) ?_
      refine jg_A (pc' := 36) rfl rfl (fun _ _ _ => rfl) ?_
      refine jg_calX (M1 := mm_X8_actionFor) (hy := 1) (pc' := 39) rfl jm_X8_actionFor (by decide) rfl hr107 (by decide) ⟨Nat.le_of_ble_eq_true rfl, rfl⟩ (Nat.le_of_ble_eq_true rfl) rfl h (jg_kI (fun z109 m108 h => ?_))
      exact jg_iret rfl rfl h
