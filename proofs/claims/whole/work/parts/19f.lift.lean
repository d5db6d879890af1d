/-! LIFTED METHODS, 5: from a method's entry, and from each loop's head, what must hold for its run to end with Q (printed by wip/whole/gen/gen18.py) -/
set_option maxRecDepth 100000 in
set_option maxHeartbeats 4000000 in
theorem jb_X12_isNext_5 {w : Nat} {a0 : Nat} {x1 : Int} {x2 : Int} {x3 : Int} {x4 : Int} {σ : jg_M} {Q : Int → jg_M → Prop} (h0 : jg_sh a0 = (12, 0)) (h : (if 65 ≤ jg_wr x4 then jg_GI w 1 mm_X12_isNext 29 [.ref a0, .int (.ofInt x1), .int (.ofInt x2), .int (.ofInt x3), .int (.ofInt 0)] σ Q else ((0 : Int) ≤ (jg_wr x4) ∧ (jg_wr x4) < (65 : Int)) ∧ ∀ m101 : jg_M, m101 = jg_sI σ (a0 + 24) (jg_wr x4) (jg_nar 0) → jg_GI w 1 mm_X12_isNext 5 [.ref a0, .int (.ofInt x1), .int (.ofInt x2), .int (.ofInt x3), .int (.ofInt (x4 + 1))] m101 Q)) : jg_GI w 1 mm_X12_isNext 5 [.ref a0, .int (.ofInt x1), .int (.ofInt x2), .int (.ofInt x3), .int (.ofInt x4)] σ Q := by
  show jg_G w 1 mm_X12_isNext 5 [.ref a0, .int (.ofInt x1), .int (.ofInt x2), .int (.ofInt x3), .int (.ofInt x4)] [] σ (jg_QI Q)
  refine jg_A (pc' := 7) rfl rfl (fun _ _ _ => rfl) ?_
  refine jg_A (pc' := 9) rfl rfl (fun _ _ _ => rfl) ?_
  refine jg_cge (pc' := 12) rfl rfl (fun hc => ?_) (fun hc => ?_)
  · have h := jg_t h (show 65 ≤ jg_wr x4 from hc)
    refine jg_A (pc' := 27) rfl rfl (fun _ _ _ => rfl) ?_
    refine jg_A (pc' := 29) (ls' := [.ref a0, .int (.ofInt x1), .int (.ofInt x2), .int (.ofInt x3), .int (.ofInt 0)]) rfl rfl (fun _ _ _ => rfl) ?_
    exact h
  · have h := jg_f h (show ¬ (65 ≤ jg_wr x4) from hc)
    refine jg_A (pc' := 13) rfl rfl (fun _ _ _ => rfl) ?_
    refine jg_getO (pc' := 16) (k := 24) rfl h0 (by decide) rfl rfl ?_
    refine jg_A (pc' := 18) rfl rfl (fun _ _ _ => rfl) ?_
    refine jg_A (pc' := 19) rfl rfl (fun _ _ _ => rfl) ?_
    obtain ⟨hg, h⟩ := h
    refine jg_zast (pc' := 20) rfl (jg_sX12_37 h0) hg rfl (fun m101 hm101 => ?_)
    have h := h m101 hm101
    refine jg_iinc (pc' := 23) (ls' := [.ref a0, .int (.ofInt x1), .int (.ofInt x2), .int (.ofInt x3), .int (.ofInt (x4 + 1))]) rfl rfl rfl rfl ?_
    refine jg_goto rfl ?_
    exact h
set_option maxRecDepth 100000 in
set_option maxHeartbeats 4000000 in
theorem jb_X12_isNext_29 {w : Nat} {a0 : Nat} {x1 : Int} {x2 : Int} {x3 : Int} {x4 : Int} {σ : jg_M} {Q : Int → jg_M → Prop} (h0 : jg_sh a0 = (12, 0)) (h : (if 65 ≤ jg_wr x4 then ((jg_wr x3 = 0 ∨ jg_wr x3 = 1) ∧ Q x3 σ) else jg_CI w 0 mm_X12_itemAt [.ref a0, .int (.ofInt x1), .int (.ofInt x4)] σ (fun (z102 : Int) (m101 : jg_M) => ((0 : Int) ≤ jg_wr z102 ∧ jg_wr z102 < (6240 : Int)) ∧ (if jg_wr (m101.1 (a0 + 15) (jg_wr z102)) = 0 then jg_GI w 1 mm_X12_isNext 29 [.ref a0, .int (.ofInt x1), .int (.ofInt x2), .int (.ofInt x3), .int (.ofInt (x4 + 1))] m101 Q else jg_CI w 0 mm_X12_moveBy [.ref a0, .int (.ofInt (jg_div x4 5)), .int (.ofInt (jg_rem x4 5))] m101 (fun (z104 : Int) (m103 : jg_M) => (if jg_wr z104 = jg_wr x2 then ((0 : Int) ≤ (jg_wr (x4 + 1)) ∧ (jg_wr (x4 + 1)) < (65 : Int)) ∧ ∀ m105 : jg_M, m105 = jg_sI m103 (a0 + 24) (jg_wr (x4 + 1)) (jg_nar 1) → jg_GI w 1 mm_X12_isNext 29 [.ref a0, .int (.ofInt x1), .int (.ofInt x2), .int (.ofInt 1), .int (.ofInt (x4 + 1))] m105 Q else jg_GI w 1 mm_X12_isNext 29 [.ref a0, .int (.ofInt x1), .int (.ofInt x2), .int (.ofInt x3), .int (.ofInt (x4 + 1))] m103 Q)))))) : jg_GI w 1 mm_X12_isNext 29 [.ref a0, .int (.ofInt x1), .int (.ofInt x2), .int (.ofInt x3), .int (.ofInt x4)] σ Q := by
  show jg_G w 1 mm_X12_isNext 29 [.ref a0, .int (.ofInt x1), .int (.ofInt x2), .int (.ofInt x3), .int (.ofInt x4)] [] σ (jg_QI Q)
  refine jg_A (pc' := 31) rfl rfl (fun _ _ _ => rfl) ?_
  refine jg_A (pc' := 33) rfl rfl (fun _ _ _ => rfl) ?_
  refine jg_cge (pc' := 36) rfl rfl (fun hc => ?_) (fun hc => ?_)
  · have h := jg_t h (show 65 ≤ jg_wr x4 from hc)
    refine jg_A (pc' := 89) rfl rfl (fun _ _ _ => rfl) ?_
    exact jg_zret rfl rfl h.1 h.2
  · have h := jg_f h (show ¬ (65 ≤ jg_wr x4) from hc)
    refine jg_A (pc' := 37) rfl rfl (fun _ _ _ => rfl) ?_
    refine jg_getO (pc' := 40) (k := 15) rfl h0 (by decide) rfl rfl ?_
    refine jg_A (pc' := 41) rfl rfl (fun _ _ _ => rfl) ?_
    refine jg_A (pc' := 42) rfl rfl (fun _ _ _ => rfl) ?_
    refine jg_A (pc' := 44) rfl rfl (fun _ _ _ => rfl) ?_
    refine jg_calX (M1 := mm_X12_itemAt) (hy := 0) (pc' := 47) rfl jm_X12_itemAt (by decide) rfl h0 (by decide) ⟨Nat.le_of_ble_eq_true rfl, rfl⟩ (Nat.le_of_ble_eq_true rfl) rfl h (jg_kI (fun z102 m101 h => ?_))
    obtain ⟨hg, h⟩ := h
    refine jg_zald (pc' := 48) rfl (jg_sX12_24 h0) hg rfl ?_
    refine jg_ifeq (pc' := 51) rfl rfl (fun hc => ?_) (fun hc => ?_)
    · have h := jg_t h (show jg_wr (m101.1 (a0 + 15) (jg_wr z102)) = 0 from hc)
      refine jg_iinc (pc' := 85) (ls' := [.ref a0, .int (.ofInt x1), .int (.ofInt x2), .int (.ofInt x3), .int (.ofInt (x4 + 1))]) rfl rfl rfl rfl ?_
      refine jg_goto rfl ?_
      exact h
    · have h := jg_f h (show ¬ (jg_wr (m101.1 (a0 + 15) (jg_wr z102)) = 0) from hc)
      refine jg_A (pc' := 52) rfl rfl (fun _ _ _ => rfl) ?_
      refine jg_A (pc' := 54) rfl rfl (fun _ _ _ => rfl) ?_
      refine jg_A (pc' := 55) rfl rfl (fun _ _ _ => rfl) ?_
      refine jg_idiv (pc' := 56) rfl rfl (by decide) ?_
      refine jg_A (pc' := 58) rfl rfl (fun _ _ _ => rfl) ?_
      refine jg_A (pc' := 59) rfl rfl (fun _ _ _ => rfl) ?_
      refine jg_irem (pc' := 60) rfl rfl (by decide) ?_
      refine jg_calX (M1 := mm_X12_moveBy) (hy := 0) (pc' := 63) rfl jm_X12_moveBy (by decide) rfl h0 (by decide) ⟨Nat.le_of_ble_eq_true rfl, rfl⟩ (Nat.le_of_ble_eq_true rfl) rfl h (jg_kI (fun z104 m103 h => ?_))
      refine jg_A (pc' := 64) rfl rfl (fun _ _ _ => rfl) ?_
      refine jg_ceq (pc' := 67) rfl rfl (fun hc => ?_) (fun hc => ?_)
      · have h := jg_t h (show jg_wr z104 = jg_wr x2 from hc)
        refine jg_A (pc' := 71) rfl rfl (fun _ _ _ => rfl) ?_
        refine jg_getO (pc' := 74) (k := 24) rfl h0 (by decide) rfl rfl ?_
        refine jg_A (pc' := 76) rfl rfl (fun _ _ _ => rfl) ?_
        refine jg_A (pc' := 77) rfl rfl (fun _ _ _ => rfl) ?_
        refine jg_iadd (pc' := 78) rfl rfl ?_
        refine jg_A (pc' := 79) rfl rfl (fun _ _ _ => rfl) ?_
        obtain ⟨hg, h⟩ := h
        refine jg_zast (pc' := 80) rfl (jg_sX12_37 h0) hg rfl (fun m105 hm105 => ?_)
        have h := h m105 hm105
        refine jg_A (pc' := 81) rfl rfl (fun _ _ _ => rfl) ?_
        refine jg_A (pc' := 82) (ls' := [.ref a0, .int (.ofInt x1), .int (.ofInt x2), .int (.ofInt 1), .int (.ofInt x4)]) rfl rfl (fun _ _ _ => rfl) ?_
        refine jg_iinc (pc' := 85) (ls' := [.ref a0, .int (.ofInt x1), .int (.ofInt x2), .int (.ofInt 1), .int (.ofInt (x4 + 1))]) rfl rfl rfl rfl ?_
        refine jg_goto rfl ?_
        exact h
      · have h := jg_f h (show ¬ (jg_wr z104 = jg_wr x2) from hc)
        refine jg_goto rfl ?_
        refine jg_iinc (pc' := 85) (ls' := [.ref a0, .int (.ofInt x1), .int (.ofInt x2), .int (.ofInt x3), .int (.ofInt (x4 + 1))]) rfl rfl rfl rfl ?_
        refine jg_goto rfl ?_
        exact h
set_option maxRecDepth 100000 in
set_option maxHeartbeats 4000000 in
theorem jb_X12_isKernel_0 {w : Nat} {a0 : Nat} {x1 : Int} {σ : jg_M} {Q : Int → jg_M → Prop} (h0 : jg_sh a0 = (12, 0)) (h : jg_GI w 1 mm_X12_isKernel 2 [.ref a0, .int (.ofInt x1), .int (.ofInt 0)] σ Q) : jg_CI w 1 mm_X12_isKernel [.ref a0, .int (.ofInt x1)] σ Q := by
  show jg_G w 1 mm_X12_isKernel 0 [.ref a0, .int (.ofInt x1), mj_U] [] σ (jg_QI Q)
  refine jg_A (pc' := 1) rfl rfl (fun _ _ _ => rfl) ?_
  refine jg_A (pc' := 2) (ls' := [.ref a0, .int (.ofInt x1), .int (.ofInt 0)]) rfl rfl (fun _ _ _ => rfl) ?_
  exact h
set_option maxRecDepth 100000 in
set_option maxHeartbeats 4000000 in
theorem jb_X12_isKernel_2 {w : Nat} {a0 : Nat} {x1 : Int} {x2 : Int} {σ : jg_M} {Q : Int → jg_M → Prop} (h0 : jg_sh a0 = (12, 0)) (h : (if 65 ≤ jg_wr x2 then Q 1 σ else jg_CI w 0 mm_X12_itemAt [.ref a0, .int (.ofInt x1), .int (.ofInt x2)] σ (fun (z102 : Int) (m101 : jg_M) => ((0 : Int) ≤ jg_wr z102 ∧ jg_wr z102 < (6240 : Int)) ∧ ((0 : Int) ≤ jg_wr x2 ∧ jg_wr x2 < (65 : Int)) ∧ (if jg_wr (m101.1 (a0 + 14) (jg_wr z102)) = jg_wr (m101.1 (a0 + 24) (jg_wr x2)) then jg_GI w 1 mm_X12_isKernel 2 [.ref a0, .int (.ofInt x1), .int (.ofInt (x2 + 1))] m101 Q else Q 0 m101)))) : jg_GI w 1 mm_X12_isKernel 2 [.ref a0, .int (.ofInt x1), .int (.ofInt x2)] σ Q := by
  show jg_G w 1 mm_X12_isKernel 2 [.ref a0, .int (.ofInt x1), .int (.ofInt x2)] [] σ (jg_QI Q)
  refine jg_A (pc' := 3) rfl rfl (fun _ _ _ => rfl) ?_
  refine jg_A (pc' := 5) rfl rfl (fun _ _ _ => rfl) ?_
  refine jg_cge (pc' := 8) rfl rfl (fun hc => ?_) (fun hc => ?_)
  · have h := jg_t h (show 65 ≤ jg_wr x2 from hc)
    refine jg_A (pc' := 37) rfl rfl (fun _ _ _ => rfl) ?_
    exact jg_zret rfl rfl (by decide) h
  · have h := jg_f h (show ¬ (65 ≤ jg_wr x2) from hc)
    refine jg_A (pc' := 9) rfl rfl (fun _ _ _ => rfl) ?_
    refine jg_getO (pc' := 12) (k := 14) rfl h0 (by decide) rfl rfl ?_
    refine jg_A (pc' := 13) rfl rfl (fun _ _ _ => rfl) ?_
    refine jg_A (pc' := 14) rfl rfl (fun _ _ _ => rfl) ?_
    refine jg_A (pc' := 15) rfl rfl (fun _ _ _ => rfl) ?_
    refine jg_calX (M1 := mm_X12_itemAt) (hy := 0) (pc' := 18) rfl jm_X12_itemAt (by decide) rfl h0 (by decide) ⟨Nat.le_of_ble_eq_true rfl, rfl⟩ (Nat.le_of_ble_eq_true rfl) rfl h (jg_kI (fun z102 m101 h => ?_))
    obtain ⟨hg, h⟩ := h
    refine jg_zald (pc' := 19) rfl (jg_sX12_23 h0) hg rfl ?_
    refine jg_A (pc' := 20) rfl rfl (fun _ _ _ => rfl) ?_
    refine jg_getO (pc' := 23) (k := 24) rfl h0 (by decide) rfl rfl ?_
    refine jg_A (pc' := 24) rfl rfl (fun _ _ _ => rfl) ?_
    obtain ⟨hg, h⟩ := h
    refine jg_zald (pc' := 25) rfl (jg_sX12_37 h0) hg rfl ?_
    refine jg_ceq (pc' := 28) rfl rfl (fun hc => ?_) (fun hc => ?_)
    · have h := jg_t h (show jg_wr (m101.1 (a0 + 14) (jg_wr z102)) = jg_wr (m101.1 (a0 + 24) (jg_wr x2)) from hc)
      refine jg_iinc (pc' := 33) (ls' := [.ref a0, .int (.ofInt x1), .int (.ofInt (x2 + 1))]) rfl rfl rfl rfl ?_
      refine jg_goto rfl ?_
      exact h
    · have h := jg_f h (show ¬ (jg_wr (m101.1 (a0 + 14) (jg_wr z102)) = jg_wr (m101.1 (a0 + 24) (jg_wr x2))) from hc)
      refine jg_A (pc' := 29) rfl rfl (fun _ _ _ => rfl) ?_
      exact jg_zret rfl rfl (by decide) h
set_option maxRecDepth 100000 in
set_option maxHeartbeats 4000000 in
theorem jb_X12_stateOfKernel_0 {w : Nat} {a0 : Nat} {σ : jg_M} {Q : Int → jg_M → Prop} (h0 : jg_sh a0 = (12, 0)) (h : jg_GI w 2 mm_X12_stateOfKernel 2 [.ref a0, .int (.ofInt 0)] σ Q) : jg_CI w 2 mm_X12_stateOfKernel [.ref a0] σ Q := by
  show jg_G w 2 mm_X12_stateOfKernel 0 [.ref a0, mj_U] [] σ (jg_QI Q)
  refine jg_A (pc' := 1) rfl rfl (fun _ _ _ => rfl) ?_
  refine jg_A (pc' := 2) (ls' := [.ref a0, .int (.ofInt 0)]) rfl rfl (fun _ _ _ => rfl) ?_
  exact h
set_option maxRecDepth 100000 in
set_option maxHeartbeats 4000000 in
theorem jb_X12_stateOfKernel_2 {w : Nat} {a0 : Nat} {x1 : Int} {σ : jg_M} {Q : Int → jg_M → Prop} (h0 : jg_sh a0 = (12, 0)) (h : ((0 : Int) ≤ jg_wr (σ.1 a0 36) ∧ jg_wr (σ.1 a0 36) < (2 : Int)) ∧ (if jg_wr (σ.1 (a0 + 13) (jg_wr (σ.1 a0 36))) ≤ jg_wr x1 then Q (-1) σ else jg_CI w 1 mm_X12_isKernel [.ref a0, .int (.ofInt x1)] σ (fun (z102 : Int) (m101 : jg_M) => (if jg_wr z102 = 0 then jg_GI w 2 mm_X12_stateOfKernel 2 [.ref a0, .int (.ofInt (x1 + 1))] m101 Q else Q x1 m101)))) : jg_GI w 2 mm_X12_stateOfKernel 2 [.ref a0, .int (.ofInt x1)] σ Q := by
  show jg_G w 2 mm_X12_stateOfKernel 2 [.ref a0, .int (.ofInt x1)] [] σ (jg_QI Q)
  refine jg_A (pc' := 3) rfl rfl (fun _ _ _ => rfl) ?_
  refine jg_A (pc' := 4) rfl rfl (fun _ _ _ => rfl) ?_
  refine jg_getO (pc' := 7) (k := 13) rfl h0 (by decide) rfl rfl ?_
  refine jg_A (pc' := 8) rfl rfl (fun _ _ _ => rfl) ?_
  refine jg_getI (pc' := 11) (bi := 36) rfl h0 (by decide) (Or.inl rfl) rfl rfl ?_
  obtain ⟨hg, h⟩ := h
  refine jg_iald (pc' := 12) rfl (jg_sX12_22 h0) hg rfl ?_
  refine jg_cge (pc' := 15) rfl rfl (fun hc => ?_) (fun hc => ?_)
  · have h := jg_t h (show jg_wr (σ.1 (a0 + 13) (jg_wr (σ.1 a0 36))) ≤ jg_wr x1 from hc)
    refine jg_A (pc' := 32) rfl rfl (fun _ _ _ => rfl) ?_
    exact jg_iret rfl rfl h
  · have h := jg_f h (show ¬ (jg_wr (σ.1 (a0 + 13) (jg_wr (σ.1 a0 36))) ≤ jg_wr x1) from hc)
    refine jg_A (pc' := 16) rfl rfl (fun _ _ _ => rfl) ?_
    refine jg_A (pc' := 17) rfl rfl (fun _ _ _ => rfl) ?_
    refine jg_calX (M1 := mm_X12_isKernel) (hy := 1) (pc' := 20) rfl jm_X12_isKernel (by decide) rfl h0 (by decide) ⟨Nat.le_of_ble_eq_true rfl, rfl⟩ (Nat.le_of_ble_eq_true rfl) rfl h (jg_kI (fun z102 m101 h => ?_))
    refine jg_ifeq (pc' := 23) rfl rfl (fun hc => ?_) (fun hc => ?_)
    · have h := jg_t h (show jg_wr z102 = 0 from hc)
      refine jg_iinc (pc' := 28) (ls' := [.ref a0, .int (.ofInt (x1 + 1))]) rfl rfl rfl rfl ?_
      refine jg_goto rfl ?_
      exact h
    · have h := jg_f h (show ¬ (jg_wr z102 = 0) from hc)
      refine jg_A (pc' := 24) rfl rfl (fun _ _ _ => rfl) ?_
      exact jg_iret rfl rfl h
set_option maxRecDepth 100000 in
set_option maxHeartbeats 4000000 in
theorem jb_X12_addState_0 {w : Nat} {a0 : Nat} {x1 : Int} {σ : jg_M} {Q : jg_M → Prop} (h0 : jg_sh a0 = (12, 0)) (h : ((0 : Int) ≤ jg_wr (σ.1 a0 36) ∧ jg_wr (σ.1 a0 36) < (2 : Int)) ∧ ∀ t101 : Int, t101 = (σ.1 (a0 + 13) (jg_wr (σ.1 a0 36))) → jg_GV w 2 mm_X12_addState 12 [.ref a0, .int (.ofInt x1), .int (.ofInt t101), .int (.ofInt 0)] σ Q) : jg_CV w 2 mm_X12_addState [.ref a0, .int (.ofInt x1)] σ Q := by
  show jg_G w 2 mm_X12_addState 0 [.ref a0, .int (.ofInt x1), mj_U, mj_U] [] σ (jg_QV Q)
  refine jg_A (pc' := 1) rfl rfl (fun _ _ _ => rfl) ?_
  refine jg_getO (pc' := 4) (k := 13) rfl h0 (by decide) rfl rfl ?_
  refine jg_A (pc' := 5) rfl rfl (fun _ _ _ => rfl) ?_
  refine jg_getI (pc' := 8) (bi := 36) rfl h0 (by decide) (Or.inl rfl) rfl rfl ?_
  obtain ⟨hg, h⟩ := h
  refine jg_iald (pc' := 9) rfl (jg_sX12_22 h0) hg rfl ?_
  refine jg_nm (F := fun t101 => jg_G w 2 mm_X12_addState 9 [.ref a0, .int (.ofInt x1), mj_U, mj_U] [.int (.ofInt t101)] σ (jg_QV Q)) (σ.1 (a0 + 13) (jg_wr (σ.1 a0 36))) (fun t101 ht101 => ?_)
  have h := h t101 ht101
  refine jg_A (pc' := 10) (ls' := [.ref a0, .int (.ofInt x1), .int (.ofInt t101), mj_U]) rfl rfl (fun _ _ _ => rfl) ?_
  refine jg_A (pc' := 11) rfl rfl (fun _ _ _ => rfl) ?_
  refine jg_A (pc' := 12) (ls' := [.ref a0, .int (.ofInt x1), .int (.ofInt t101), .int (.ofInt 0)]) rfl rfl (fun _ _ _ => rfl) ?_
  exact h
set_option maxRecDepth 100000 in
set_option maxHeartbeats 4000000 in
theorem jb_X12_addState_12 {w : Nat} {a0 : Nat} {x1 : Int} {x2 : Int} {x3 : Int} {σ : jg_M} {Q : jg_M → Prop} (h0 : jg_sh a0 = (12, 0)) (h : (if 65 ≤ jg_wr x3 then ((0 : Int) ≤ (jg_wr ((48 * (σ.1 a0 36)) + x2)) ∧ (jg_wr ((48 * (σ.1 a0 36)) + x2)) < (96 : Int)) ∧ ∀ m101 : jg_M, m101 = jg_sI σ (a0 + 17) (jg_wr ((48 * (σ.1 a0 36)) + x2)) x1 → ((0 : Int) ≤ jg_wr (m101.1 a0 36) ∧ jg_wr (m101.1 a0 36) < (2 : Int)) ∧ ((0 : Int) ≤ (jg_wr (m101.1 a0 36)) ∧ (jg_wr (m101.1 a0 36)) < (2 : Int)) ∧ ∀ m102 : jg_M, m102 = jg_sI m101 (a0 + 13) (jg_wr (m101.1 a0 36)) ((m101.1 (a0 + 13) (jg_wr (m101.1 a0 36))) + 1) → jg_CV w 1 mm_X12_closes [.ref a0, .int (.ofInt x2)] m102 (fun (m103 : jg_M) => Q m103) else jg_CI w 0 mm_X12_itemAt [.ref a0, .int (.ofInt x2), .int (.ofInt x3)] σ (fun (z105 : Int) (m104 : jg_M) => ((0 : Int) ≤ jg_wr x3 ∧ jg_wr x3 < (65 : Int)) ∧ ((0 : Int) ≤ (jg_wr z105) ∧ (jg_wr z105) < (6240 : Int)) ∧ ∀ m106 : jg_M, m106 = jg_sI m104 (a0 + 14) (jg_wr z105) (jg_nar (m104.1 (a0 + 24) (jg_wr x3))) → jg_CI w 0 mm_X12_itemAt [.ref a0, .int (.ofInt x2), .int (.ofInt x3)] m106 (fun (z108 : Int) (m107 : jg_M) => ((0 : Int) ≤ (jg_wr z108) ∧ (jg_wr z108) < (6240 : Int)) ∧ ∀ m109 : jg_M, m109 = jg_sI m107 (a0 + 18) (jg_wr z108) 0 → jg_GV w 2 mm_X12_addState 12 [.ref a0, .int (.ofInt x1), .int (.ofInt x2), .int (.ofInt (x3 + 1))] m109 Q)))) : jg_GV w 2 mm_X12_addState 12 [.ref a0, .int (.ofInt x1), .int (.ofInt x2), .int (.ofInt x3)] σ Q := by
  show jg_G w 2 mm_X12_addState 12 [.ref a0, .int (.ofInt x1), .int (.ofInt x2), .int (.ofInt x3)] [] σ (jg_QV Q)
  refine jg_A (pc' := 13) rfl rfl (fun _ _ _ => rfl) ?_
  refine jg_A (pc' := 15) rfl rfl (fun _ _ _ => rfl) ?_
  refine jg_cge (pc' := 18) rfl rfl (fun hc => ?_) (fun hc => ?_)
  · have h := jg_t h (show 65 ≤ jg_wr x3 from hc)
    refine jg_A (pc' := 54) rfl rfl (fun _ _ _ => rfl) ?_
    refine jg_getO (pc' := 57) (k := 17) rfl h0 (by decide) rfl rfl ?_
    refine jg_A (pc' := 59) rfl rfl (fun _ _ _ => rfl) ?_
    refine jg_A (pc' := 60) rfl rfl (fun _ _ _ => rfl) ?_
    refine jg_getI (pc' := 63) (bi := 36) rfl h0 (by decide) (Or.inl rfl) rfl rfl ?_
    refine jg_imul (pc' := 64) rfl rfl ?_
    refine jg_A (pc' := 65) rfl rfl (fun _ _ _ => rfl) ?_
    refine jg_iadd (pc' := 66) rfl rfl ?_
    refine jg_A (pc' := 67) rfl rfl (fun _ _ _ => rfl) ?_
    obtain ⟨hg, h⟩ := h
    refine jg_iast (pc' := 68) rfl (jg_sX12_26 h0) hg rfl (fun m101 hm101 => ?_)
    have h := h m101 hm101
    refine jg_A (pc' := 69) rfl rfl (fun _ _ _ => rfl) ?_
    refine jg_getO (pc' := 72) (k := 13) rfl h0 (by decide) rfl rfl ?_
    refine jg_A (pc' := 73) rfl rfl (fun _ _ _ => rfl) ?_
    refine jg_getI (pc' := 76) (bi := 36) rfl h0 (by decide) (Or.inl rfl) rfl rfl ?_
    refine jg_A (pc' := 77) rfl rfl (fun _ _ _ => rfl) ?_
    obtain ⟨hg, h⟩ := h
    refine jg_iald (pc' := 78) rfl (jg_sX12_22 h0) hg rfl ?_
    refine jg_A (pc' := 79) rfl rfl (fun _ _ _ => rfl) ?_
    refine jg_iadd (pc' := 80) rfl rfl ?_
    obtain ⟨hg, h⟩ := h
    refine jg_iast (pc' := 81) rfl (jg_sX12_22 h0) hg rfl (fun m102 hm102 => ?_)
    have h := h m102 hm102
    refine jg_A (pc' := 82) rfl rfl (fun _ _ _ => rfl) ?_
    refine jg_A (pc' := 83) rfl rfl (fun _ _ _ => rfl) ?_
    refine jg_calX (M1 := mm_X12_closes) (hy := 1) (pc' := 86) rfl jm_X12_closes (by decide) rfl h0 (by decide) ⟨Nat.le_of_ble_eq_true rfl, rfl⟩ (Nat.le_of_ble_eq_true rfl) rfl h (jg_kV (fun m103 h => ?_))
    exact jg_vret rfl rfl h
  · have h := jg_f h (show ¬ (65 ≤ jg_wr x3) from hc)
    refine jg_A (pc' := 19) rfl rfl (fun _ _ _ => rfl) ?_
    refine jg_getO (pc' := 22) (k := 14) rfl h0 (by decide) rfl rfl ?_
    refine jg_A (pc' := 23) rfl rfl (fun _ _ _ => rfl) ?_
    refine jg_A (pc' := 24) rfl rfl (fun _ _ _ => rfl) ?_
    refine jg_A (pc' := 25) rfl rfl (fun _ _ _ => rfl) ?_
    refine jg_calX (M1 := mm_X12_itemAt) (hy := 0) (pc' := 28) rfl jm_X12_itemAt (by decide) rfl h0 (by decide) ⟨Nat.le_of_ble_eq_true rfl, rfl⟩ (Nat.le_of_ble_eq_true rfl) rfl h (jg_kI (fun z105 m104 h => ?_))
    refine jg_A (pc' := 29) rfl rfl (fun _ _ _ => rfl) ?_
    refine jg_getO (pc' := 32) (k := 24) rfl h0 (by decide) rfl rfl ?_
    refine jg_A (pc' := 33) rfl rfl (fun _ _ _ => rfl) ?_
    obtain ⟨hg, h⟩ := h
    refine jg_zald (pc' := 34) rfl (jg_sX12_37 h0) hg rfl ?_
    obtain ⟨hg, h⟩ := h
    refine jg_zast (pc' := 35) rfl (jg_sX12_23 h0) hg rfl (fun m106 hm106 => ?_)
    have h := h m106 hm106
    refine jg_A (pc' := 36) rfl rfl (fun _ _ _ => rfl) ?_
    refine jg_getO (pc' := 39) (k := 18) rfl h0 (by decide) rfl rfl ?_
    refine jg_A (pc' := 40) rfl rfl (fun _ _ _ => rfl) ?_
    refine jg_A (pc' := 41) rfl rfl (fun _ _ _ => rfl) ?_
    refine jg_A (pc' := 42) rfl rfl (fun _ _ _ => rfl) ?_
    refine jg_calX (M1 := mm_X12_itemAt) (hy := 0) (pc' := 45) rfl jm_X12_itemAt (by decide) rfl h0 (by decide) ⟨Nat.le_of_ble_eq_true rfl, rfl⟩ (Nat.le_of_ble_eq_true rfl) rfl h (jg_kI (fun z108 m107 h => ?_))
    refine jg_A (pc' := 46) rfl rfl (fun _ _ _ => rfl) ?_
    obtain ⟨hg, h⟩ := h
    refine jg_iast (pc' := 47) rfl (jg_sX12_27 h0) hg rfl (fun m109 hm109 => ?_)
    have h := h m109 hm109
    refine jg_iinc (pc' := 50) (ls' := [.ref a0, .int (.ofInt x1), .int (.ofInt x2), .int (.ofInt (x3 + 1))]) rfl rfl rfl rfl ?_
    refine jg_goto rfl ?_
    exact h
set_option maxRecDepth 100000 in
set_option maxHeartbeats 4000000 in
theorem jb_X12_symbolOf_0 {w : Nat} {x0 : Int} {σ : jg_M} {Q : Int → jg_M → Prop} (h : (if 7 ≤ jg_wr x0 then Q (x0 + 3) σ else Q x0 σ)) : jg_CI w 0 mm_X12_symbolOf [.int (.ofInt x0)] σ Q := by
  show jg_G w 0 mm_X12_symbolOf 0 [.int (.ofInt x0)] [] σ (jg_QI Q)
  refine jg_A (pc' := 1) rfl rfl (fun _ _ _ => rfl) ?_
  refine jg_A (pc' := 3) rfl rfl (fun _ _ _ => rfl) ?_
  refine jg_cge (pc' := 6) rfl rfl (fun hc => ?_) (fun hc => ?_)
  · have h := jg_t h (show 7 ≤ jg_wr x0 from hc)
    refine jg_A (pc' := 11) rfl rfl (fun _ _ _ => rfl) ?_
    refine jg_A (pc' := 12) rfl rfl (fun _ _ _ => rfl) ?_
    refine jg_iadd (pc' := 13) rfl rfl ?_
    exact jg_iret rfl rfl h
  · have h := jg_f h (show ¬ (7 ≤ jg_wr x0) from hc)
    refine jg_A (pc' := 7) rfl rfl (fun _ _ _ => rfl) ?_
    refine jg_goto rfl ?_
    exact jg_iret rfl rfl h
set_option maxRecDepth 100000 in
set_option maxHeartbeats 4000000 in
theorem jb_X12_layStates_0 {w : Nat} {a0 : Nat} {σ : jg_M} {Q : Int → jg_M → Prop} (h0 : jg_sh a0 = (12, 0)) (h : ((0 : Int) ≤ (jg_wr (σ.1 a0 36)) ∧ (jg_wr (σ.1 a0 36)) < (2 : Int)) ∧ ∀ m101 : jg_M, m101 = jg_sI σ (a0 + 13) (jg_wr (σ.1 a0 36)) 0 → ((0 : Int) ≤ jg_wr (m101.1 a0 35) ∧ jg_wr (m101.1 a0 35) < (2 : Int)) ∧ (if jg_wr (m101.1 (a0 + 4) (jg_wr (m101.1 a0 35))) = 0 then Q 1 m101 else jg_GI w 3 mm_X12_layStates 26 [.ref a0, .int (.ofInt 0), mj_U, mj_U] m101 Q)) : jg_CI w 3 mm_X12_layStates [.ref a0] σ Q := by
  show jg_G w 3 mm_X12_layStates 0 [.ref a0, mj_U, mj_U, mj_U] [] σ (jg_QI Q)
  refine jg_A (pc' := 1) rfl rfl (fun _ _ _ => rfl) ?_
  refine jg_getO (pc' := 4) (k := 13) rfl h0 (by decide) rfl rfl ?_
  refine jg_A (pc' := 5) rfl rfl (fun _ _ _ => rfl) ?_
  refine jg_getI (pc' := 8) (bi := 36) rfl h0 (by decide) (Or.inl rfl) rfl rfl ?_
  refine jg_A (pc' := 9) rfl rfl (fun _ _ _ => rfl) ?_
  obtain ⟨hg, h⟩ := h
  refine jg_iast (pc' := 10) rfl (jg_sX12_22 h0) hg rfl (fun m101 hm101 => ?_)
  have h := h m101 hm101
  refine jg_A (pc' := 11) rfl rfl (fun _ _ _ => rfl) ?_
  refine jg_getO (pc' := 14) (k := 4) rfl h0 (by decide) rfl rfl ?_
  refine jg_A (pc' := 15) rfl rfl (fun _ _ _ => rfl) ?_
  refine jg_getI (pc' := 18) (bi := 35) rfl h0 (by decide) (Or.inl rfl) rfl rfl ?_
  obtain ⟨hg, h⟩ := h
  refine jg_iald (pc' := 19) rfl (jg_sX12_13 h0) hg rfl ?_
  refine jg_ifne (pc' := 22) rfl rfl (fun hc => ?_) (fun hc => ?_)
  · have h := jg_t h (show jg_wr (m101.1 (a0 + 4) (jg_wr (m101.1 a0 35))) = 0 from hc)
    refine jg_A (pc' := 23) rfl rfl (fun _ _ _ => rfl) ?_
    exact jg_zret rfl rfl (by decide) h
  · have h := jg_f h (show ¬ (jg_wr (m101.1 (a0 + 4) (jg_wr (m101.1 a0 35))) = 0) from hc)
    refine jg_A (pc' := 25) rfl rfl (fun _ _ _ => rfl) ?_
    refine jg_A (pc' := 26) (ls' := [.ref a0, .int (.ofInt 0), mj_U, mj_U]) rfl rfl (fun _ _ _ => rfl) ?_
    exact h
set_option maxRecDepth 100000 in
set_option maxHeartbeats 4000000 in
theorem jb_X12_layStates_26 {w : Nat} {a0 : Nat} {x1 : Int} {u2 : Value} {u3 : Value} {σ : jg_M} {Q : Int → jg_M → Prop} (h0 : jg_sh a0 = (12, 0)) (h : (if 65 ≤ jg_wr x1 then jg_CV w 2 mm_X12_addState [.ref a0, .int (.ofInt (-1))] σ (fun (m101 : jg_M) => jg_GI w 3 mm_X12_layStates 71 [.ref a0, .int (.ofInt 0), u2, u3] m101 Q) else ((0 : Int) ≤ jg_wr (σ.1 a0 35) ∧ jg_wr (σ.1 a0 35) < (2 : Int)) ∧ (if jg_wr x1 = jg_wr (5 * (σ.1 (a0 + 5) (jg_wr (σ.1 a0 35)))) then ((0 : Int) ≤ (jg_wr x1) ∧ (jg_wr x1) < (65 : Int)) ∧ ∀ m102 : jg_M, m102 = jg_sI σ (a0 + 24) (jg_wr x1) (jg_nar 1) → jg_GI w 3 mm_X12_layStates 26 [.ref a0, .int (.ofInt (x1 + 1)), u2, u3] m102 Q else ((0 : Int) ≤ (jg_wr x1) ∧ (jg_wr x1) < (65 : Int)) ∧ ∀ m103 : jg_M, m103 = jg_sI σ (a0 + 24) (jg_wr x1) (jg_nar 0) → jg_GI w 3 mm_X12_layStates 26 [.ref a0, .int (.ofInt (x1 + 1)), u2, u3] m103 Q))) : jg_GI w 3 mm_X12_layStates 26 [.ref a0, .int (.ofInt x1), u2, u3] σ Q := by
  show jg_G w 3 mm_X12_layStates 26 [.ref a0, .int (.ofInt x1), u2, u3] [] σ (jg_QI Q)
  refine jg_A (pc' := 27) rfl rfl (fun _ _ _ => rfl) ?_
  refine jg_A (pc' := 29) rfl rfl (fun _ _ _ => rfl) ?_
  refine jg_cge (pc' := 32) rfl rfl (fun hc => ?_) (fun hc => ?_)
  · have h := jg_t h (show 65 ≤ jg_wr x1 from hc)
    refine jg_A (pc' := 65) rfl rfl (fun _ _ _ => rfl) ?_
    refine jg_A (pc' := 66) rfl rfl (fun _ _ _ => rfl) ?_
    refine jg_calX (M1 := mm_X12_addState) (hy := 2) (pc' := 69) rfl jm_X12_addState (by decide) rfl h0 (by decide) ⟨Nat.le_of_ble_eq_true rfl, rfl⟩ (Nat.le_of_ble_eq_true rfl) rfl h (jg_kV (fun m101 h => ?_))
    refine jg_A (pc' := 70) rfl rfl (fun _ _ _ => rfl) ?_
    refine jg_A (pc' := 71) (ls' := [.ref a0, .int (.ofInt 0), u2, u3]) rfl rfl (fun _ _ _ => rfl) ?_
    exact h
  · have h := jg_f h (show ¬ (65 ≤ jg_wr x1) from hc)
    refine jg_A (pc' := 33) rfl rfl (fun _ _ _ => rfl) ?_
    refine jg_getO (pc' := 36) (k := 24) rfl h0 (by decide) rfl rfl ?_
    refine jg_A (pc' := 37) rfl rfl (fun _ _ _ => rfl) ?_
    refine jg_A (pc' := 38) rfl rfl (fun _ _ _ => rfl) ?_
    refine jg_A (pc' := 39) rfl rfl (fun _ _ _ => rfl) ?_
    refine jg_A (pc' := 40) rfl rfl (fun _ _ _ => rfl) ?_
    refine jg_getO (pc' := 43) (k := 5) rfl h0 (by decide) rfl rfl ?_
    refine jg_A (pc' := 44) rfl rfl (fun _ _ _ => rfl) ?_
    refine jg_getI (pc' := 47) (bi := 35) rfl h0 (by decide) (Or.inl rfl) rfl rfl ?_
    obtain ⟨hg, h⟩ := h
    refine jg_iald (pc' := 48) rfl (jg_sX12_14 h0) hg rfl ?_
    refine jg_imul (pc' := 49) rfl rfl ?_
    refine jg_cne (pc' := 52) rfl rfl (fun hc => ?_) (fun hc => ?_)
    · have h := jg_t h (show jg_wr x1 = jg_wr (5 * (σ.1 (a0 + 5) (jg_wr (σ.1 a0 35)))) from hc)
      refine jg_A (pc' := 53) rfl rfl (fun _ _ _ => rfl) ?_
      refine jg_goto rfl ?_
      obtain ⟨hg, h⟩ := h
      refine jg_zast (pc' := 58) rfl (jg_sX12_37 h0) hg rfl (fun m102 hm102 => ?_)
      have h := h m102 hm102
      refine jg_iinc (pc' := 61) (ls' := [.ref a0, .int (.ofInt (x1 + 1)), u2, u3]) rfl rfl rfl rfl ?_
      refine jg_goto rfl ?_
      exact h
    · have h := jg_f h (show ¬ (jg_wr x1 = jg_wr (5 * (σ.1 (a0 + 5) (jg_wr (σ.1 a0 35))))) from hc)
      refine jg_A (pc' := 57) rfl rfl (fun _ _ _ => rfl) ?_
      obtain ⟨hg, h⟩ := h
      refine jg_zast (pc' := 58) rfl (jg_sX12_37 h0) hg rfl (fun m103 hm103 => ?_)
      have h := h m103 hm103
      refine jg_iinc (pc' := 61) (ls' := [.ref a0, .int (.ofInt (x1 + 1)), u2, u3]) rfl rfl rfl rfl ?_
      refine jg_goto rfl ?_
      exact h
set_option maxRecDepth 100000 in
set_option maxHeartbeats 4000000 in
theorem jb_X12_layStates_71 {w : Nat} {a0 : Nat} {x1 : Int} {u2 : Value} {u3 : Value} {σ : jg_M} {Q : Int → jg_M → Prop} (h0 : jg_sh a0 = (12, 0)) (h : ((0 : Int) ≤ jg_wr (σ.1 a0 36) ∧ jg_wr (σ.1 a0 36) < (2 : Int)) ∧ (if jg_wr (σ.1 (a0 + 13) (jg_wr (σ.1 a0 36))) ≤ jg_wr x1 then Q 1 σ else jg_GI w 3 mm_X12_layStates 86 [.ref a0, .int (.ofInt x1), .int (.ofInt 0), u3] σ Q)) : jg_GI w 3 mm_X12_layStates 71 [.ref a0, .int (.ofInt x1), u2, u3] σ Q := by
  show jg_G w 3 mm_X12_layStates 71 [.ref a0, .int (.ofInt x1), u2, u3] [] σ (jg_QI Q)
  refine jg_A (pc' := 72) rfl rfl (fun _ _ _ => rfl) ?_
  refine jg_A (pc' := 73) rfl rfl (fun _ _ _ => rfl) ?_
  refine jg_getO (pc' := 76) (k := 13) rfl h0 (by decide) rfl rfl ?_
  refine jg_A (pc' := 77) rfl rfl (fun _ _ _ => rfl) ?_
  refine jg_getI (pc' := 80) (bi := 36) rfl h0 (by decide) (Or.inl rfl) rfl rfl ?_
  obtain ⟨hg, h⟩ := h
  refine jg_iald (pc' := 81) rfl (jg_sX12_22 h0) hg rfl ?_
  refine jg_cge (pc' := 84) rfl rfl (fun hc => ?_) (fun hc => ?_)
  · have h := jg_t h (show jg_wr (σ.1 (a0 + 13) (jg_wr (σ.1 a0 36))) ≤ jg_wr x1 from hc)
    refine jg_A (pc' := 185) rfl rfl (fun _ _ _ => rfl) ?_
    exact jg_zret rfl rfl (by decide) h
  · have h := jg_f h (show ¬ (jg_wr (σ.1 (a0 + 13) (jg_wr (σ.1 a0 36))) ≤ jg_wr x1) from hc)
    refine jg_A (pc' := 85) rfl rfl (fun _ _ _ => rfl) ?_
    refine jg_A (pc' := 86) (ls' := [.ref a0, .int (.ofInt x1), .int (.ofInt 0), u3]) rfl rfl (fun _ _ _ => rfl) ?_
    exact h
set_option maxRecDepth 100000 in
set_option maxHeartbeats 4000000 in
theorem jb_X12_layStates_86 {w : Nat} {a0 : Nat} {x1 : Int} {x2 : Int} {u3 : Value} {σ : jg_M} {Q : Int → jg_M → Prop} (h0 : jg_sh a0 = (12, 0)) (h : (if 12 ≤ jg_wr x2 then jg_GI w 3 mm_X12_layStates 71 [.ref a0, .int (.ofInt (x1 + 1)), .int (.ofInt x2), u3] σ Q else jg_CI w 0 mm_X12_moveAt [.ref a0, .int (.ofInt x1), .int (.ofInt x2)] σ (fun (z102 : Int) (m101 : jg_M) => ((0 : Int) ≤ (jg_wr z102) ∧ (jg_wr z102) < (1152 : Int)) ∧ ∀ m103 : jg_M, m103 = jg_sI m101 (a0 + 16) (jg_wr z102) (-1) → jg_CI w 1 mm_X12_isNext [.ref a0, .int (.ofInt x1), .int (.ofInt x2)] m103 (fun (z105 : Int) (m104 : jg_M) => (if jg_wr z105 = 0 then jg_GI w 3 mm_X12_layStates 86 [.ref a0, .int (.ofInt x1), .int (.ofInt (x2 + 1)), u3] m104 Q else jg_CI w 2 mm_X12_stateOfKernel [.ref a0] m104 (fun (z107 : Int) (m106 : jg_M) => (if 0 ≤ jg_wr z107 then (if 0 ≤ jg_wr z107 then jg_CI w 0 mm_X12_moveAt [.ref a0, .int (.ofInt x1), .int (.ofInt x2)] m106 (fun (z109 : Int) (m108 : jg_M) => ((0 : Int) ≤ (jg_wr z109) ∧ (jg_wr z109) < (1152 : Int)) ∧ ∀ m110 : jg_M, m110 = jg_sI m108 (a0 + 16) (jg_wr z109) z107 → jg_GI w 3 mm_X12_layStates 86 [.ref a0, .int (.ofInt x1), .int (.ofInt (x2 + 1)), .int (.ofInt z107)] m110 Q) else ((0 : Int) ≤ jg_wr (m106.1 a0 36) ∧ jg_wr (m106.1 a0 36) < (2 : Int)) ∧ ∀ t111 : Int, t111 = (m106.1 (a0 + 13) (jg_wr (m106.1 a0 36))) → jg_CV w 2 mm_X12_addState [.ref a0, .int (.ofInt x2)] m106 (fun (m112 : jg_M) => jg_CI w 0 mm_X12_moveAt [.ref a0, .int (.ofInt x1), .int (.ofInt x2)] m112 (fun (z114 : Int) (m113 : jg_M) => ((0 : Int) ≤ (jg_wr z114) ∧ (jg_wr z114) < (1152 : Int)) ∧ ∀ m115 : jg_M, m115 = jg_sI m113 (a0 + 16) (jg_wr z114) t111 → jg_GI w 3 mm_X12_layStates 86 [.ref a0, .int (.ofInt x1), .int (.ofInt (x2 + 1)), .int (.ofInt t111)] m115 Q))) else ((0 : Int) ≤ jg_wr (m106.1 a0 36) ∧ jg_wr (m106.1 a0 36) < (2 : Int)) ∧ (if jg_wr (m106.1 (a0 + 13) (jg_wr (m106.1 a0 36))) = 48 then Q 0 m106 else (if 0 ≤ jg_wr z107 then jg_CI w 0 mm_X12_moveAt [.ref a0, .int (.ofInt x1), .int (.ofInt x2)] m106 (fun (z117 : Int) (m116 : jg_M) => ((0 : Int) ≤ (jg_wr z117) ∧ (jg_wr z117) < (1152 : Int)) ∧ ∀ m118 : jg_M, m118 = jg_sI m116 (a0 + 16) (jg_wr z117) z107 → jg_GI w 3 mm_X12_layStates 86 [.ref a0, .int (.ofInt x1), .int (.ofInt (x2 + 1)), .int (.ofInt z107)] m118 Q) else ((0 : Int) ≤ jg_wr (m106.1 a0 36) ∧ jg_wr (m106.1 a0 36) < (2 : Int)) ∧ ∀ t119 : Int, t119 = (m106.1 (a0 + 13) (jg_wr (m106.1 a0 36))) → jg_CV w 2 mm_X12_addState [.ref a0, .int (.ofInt x2)] m106 (fun (m120 : jg_M) => jg_CI w 0 mm_X12_moveAt [.ref a0, .int (.ofInt x1), .int (.ofInt x2)] m120 (fun (z122 : Int) (m121 : jg_M) => ((0 : Int) ≤ (jg_wr z122) ∧ (jg_wr z122) < (1152 : Int)) ∧ ∀ m123 : jg_M, m123 = jg_sI m121 (a0 + 16) (jg_wr z122) t119 → jg_GI w 3 mm_X12_layStates 86 [.ref a0, .int (.ofInt x1), .int (.ofInt (x2 + 1)), .int (.ofInt t119)] m123 Q))))))))))) : jg_GI w 3 mm_X12_layStates 86 [.ref a0, .int (.ofInt x1), .int (.ofInt x2), u3] σ Q := by
  show jg_G w 3 mm_X12_layStates 86 [.ref a0, .int (.ofInt x1), .int (.ofInt x2), u3] [] σ (jg_QI Q)
  refine jg_A (pc' := 87) rfl rfl (fun _ _ _ => rfl) ?_
  refine jg_A (pc' := 89) rfl rfl (fun _ _ _ => rfl) ?_
  refine jg_cge (pc' := 92) rfl rfl (fun hc => ?_) (fun hc => ?_)
  · have h := jg_t h (show 12 ≤ jg_wr x2 from hc)
    refine jg_iinc (pc' := 181) (ls' := [.ref a0, .int (.ofInt (x1 + 1)), .int (.ofInt x2), u3]) rfl rfl rfl rfl ?_
    refine jg_goto rfl ?_
    exact h
  · have h := jg_f h (show ¬ (12 ≤ jg_wr x2) from hc)
    refine jg_A (pc' := 93) rfl rfl (fun _ _ _ => rfl) ?_
    refine jg_getO (pc' := 96) (k := 16) rfl h0 (by decide) rfl rfl ?_
    refine jg_A (pc' := 97) rfl rfl (fun _ _ _ => rfl) ?_
    refine jg_A (pc' := 98) rfl rfl (fun _ _ _ => rfl) ?_
    refine jg_A (pc' := 99) rfl rfl (fun _ _ _ => rfl) ?_
    refine jg_calX (M1 := mm_X12_moveAt) (hy := 0) (pc' := 102) rfl jm_X12_moveAt (by decide) rfl h0 (by decide) ⟨Nat.le_of_ble_eq_true rfl, rfl⟩ (Nat.le_of_ble_eq_true rfl) rfl h (jg_kI (fun z102 m101 h => ?_))
    refine jg_A (pc' := 103) rfl rfl (fun _ _ _ => rfl) ?_
    obtain ⟨hg, h⟩ := h
    refine jg_iast (pc' := 104) rfl (jg_sX12_25 h0) hg rfl (fun m103 hm103 => ?_)
    have h := h m103 hm103
    refine jg_A (pc' := 105) rfl rfl (fun _ _ _ => rfl) ?_
    refine jg_A (pc' := 106) rfl rfl (fun _ _ _ => rfl) ?_
    refine jg_A (pc' := 107) rfl rfl (fun _ _ _ => rfl) ?_
    refine jg_calX (M1 := mm_X12_isNext) (hy := 1) (pc' := 110) rfl jm_X12_isNext (by decide) rfl h0 (by decide) ⟨Nat.le_of_ble_eq_true rfl, rfl⟩ (Nat.le_of_ble_eq_true rfl) rfl h (jg_kI (fun z105 m104 h => ?_))
    refine jg_ifne (pc' := 113) rfl rfl (fun hc => ?_) (fun hc => ?_)
    · have h := jg_t h (show jg_wr z105 = 0 from hc)
      refine jg_goto rfl ?_
      refine jg_iinc (pc' := 175) (ls' := [.ref a0, .int (.ofInt x1), .int (.ofInt (x2 + 1)), u3]) rfl rfl rfl rfl ?_
      refine jg_goto rfl ?_
      exact h
    · have h := jg_f h (show ¬ (jg_wr z105 = 0) from hc)
      refine jg_A (pc' := 117) rfl rfl (fun _ _ _ => rfl) ?_
      refine jg_calX (M1 := mm_X12_stateOfKernel) (hy := 2) (pc' := 120) rfl jm_X12_stateOfKernel (by decide) rfl h0 (by decide) ⟨Nat.le_of_ble_eq_true rfl, rfl⟩ (Nat.le_of_ble_eq_true rfl) rfl h (jg_kI (fun z107 m106 h => ?_))
      refine jg_A (pc' := 121) (ls' := [.ref a0, .int (.ofInt x1), .int (.ofInt x2), .int (.ofInt z107)]) rfl rfl (fun _ _ _ => rfl) ?_
      refine jg_A (pc' := 122) rfl rfl (fun _ _ _ => rfl) ?_
      refine jg_ifge (pc' := 125) rfl rfl (fun hc => ?_) (fun hc => ?_)
      · have h := jg_t h (show 0 ≤ jg_wr z107 from hc)
        refine jg_A (pc' := 142) rfl rfl (fun _ _ _ => rfl) ?_
        refine jg_ifge (pc' := 145) rfl rfl (fun hc => ?_) (fun hc => ?_)
        · have h := jg_t h (show 0 ≤ jg_wr z107 from hc)
          refine jg_A (pc' := 161) rfl rfl (fun _ _ _ => rfl) ?_
          refine jg_getO (pc' := 164) (k := 16) rfl h0 (by decide) rfl rfl ?_
          refine jg_A (pc' := 165) rfl rfl (fun _ _ _ => rfl) ?_
          refine jg_A (pc' := 166) rfl rfl (fun _ _ _ => rfl) ?_
          refine jg_A (pc' := 167) rfl rfl (fun _ _ _ => rfl) ?_
          refine jg_calX (M1 := mm_X12_moveAt) (hy := 0) (pc' := 170) rfl jm_X12_moveAt (by decide) rfl h0 (by decide) ⟨Nat.le_of_ble_eq_true rfl, rfl⟩ (Nat.le_of_ble_eq_true rfl) rfl h (jg_kI (fun z109 m108 h => ?_))
          refine jg_A (pc' := 171) rfl rfl (fun _ _ _ => rfl) ?_
          obtain ⟨hg, h⟩ := h
          refine jg_iast (pc' := 172) rfl (jg_sX12_25 h0) hg rfl (fun m110 hm110 => ?_)
          have h := h m110 hm110
          refine jg_iinc (pc' := 175) (ls' := [.ref a0, .int (.ofInt x1), .int (.ofInt (x2 + 1)), .int (.ofInt z107)]) rfl rfl rfl rfl ?_
          refine jg_goto rfl ?_
          exact h
        · have h := jg_f h (show ¬ (0 ≤ jg_wr z107) from hc)
          refine jg_A (pc' := 146) rfl rfl (fun _ _ _ => rfl) ?_
          refine jg_getO (pc' := 149) (k := 13) rfl h0 (by decide) rfl rfl ?_
          refine jg_A (pc' := 150) rfl rfl (fun _ _ _ => rfl) ?_
          refine jg_getI (pc' := 153) (bi := 36) rfl h0 (by decide) (Or.inl rfl) rfl rfl ?_
          obtain ⟨hg, h⟩ := h
          refine jg_iald (pc' := 154) rfl (jg_sX12_22 h0) hg rfl ?_
          refine jg_nm (F := fun t111 => jg_G w 3 mm_X12_layStates 154 [.ref a0, .int (.ofInt x1), .int (.ofInt x2), .int (.ofInt z107)] [.int (.ofInt t111)] m106 (jg_QI Q)) (m106.1 (a0 + 13) (jg_wr (m106.1 a0 36))) (fun t111 ht111 => ?_)
          have h := h t111 ht111
          refine jg_A (pc' := 155) (ls' := [.ref a0, .int (.ofInt x1), .int (.ofInt x2), .int (.ofInt t111)]) rfl rfl (fun _ _ _ => rfl) ?_
          refine jg_A (pc' := 156) rfl rfl (fun _ _ _ => rfl) ?_
          refine jg_A (pc' := 157) rfl rfl (fun _ _ _ => rfl) ?_
          refine jg_calX (M1 := mm_X12_addState) (hy := 2) (pc' := 160) rfl jm_X12_addState (by decide) rfl h0 (by decide) ⟨Nat.le_of_ble_eq_true rfl, rfl⟩ (Nat.le_of_ble_eq_true rfl) rfl h (jg_kV (fun m112 h => ?_))
          refine jg_A (pc' := 161) rfl rfl (fun _ _ _ => rfl) ?_
          refine jg_getO (pc' := 164) (k := 16) rfl h0 (by decide) rfl rfl ?_
          refine jg_A (pc' := 165) rfl rfl (fun _ _ _ => rfl) ?_
          refine jg_A (pc' := 166) rfl rfl (fun _ _ _ => rfl) ?_
          refine jg_A (pc' := 167) rfl rfl (fun _ _ _ => rfl) ?_
          refine jg_calX (M1 := mm_X12_moveAt) (hy := 0) (pc' := 170) rfl jm_X12_moveAt (by decide) rfl h0 (by decide) ⟨Nat.le_of_ble_eq_true rfl, rfl⟩ (Nat.le_of_ble_eq_true rfl) rfl h (jg_kI (fun z114 m113 h => ?_))
          refine jg_A (pc' := 171) rfl rfl (fun _ _ _ => rfl) ?_
          obtain ⟨hg, h⟩ := h
          refine jg_iast (pc' := 172) rfl (jg_sX12_25 h0) hg rfl (fun m115 hm115 => ?_)
          have h := h m115 hm115
          refine jg_iinc (pc' := 175) (ls' := [.ref a0, .int (.ofInt x1), .int (.ofInt (x2 + 1)), .int (.ofInt t111)]) rfl rfl rfl rfl ?_
          refine jg_goto rfl ?_
          exact h
      · have h := jg_f h (show ¬ (0 ≤ jg_wr z107) from hc)
        refine jg_A (pc' := 126) rfl rfl (fun _ _ _ => rfl) ?_
        refine jg_getO (pc' := 129) (k := 13) rfl h0 (by decide) rfl rfl ?_
        refine jg_A (pc' := 130) rfl rfl (fun _ _ _ => rfl) ?_
        refine jg_getI (pc' := 133) (bi := 36) rfl h0 (by decide) (Or.inl rfl) rfl rfl ?_
        obtain ⟨hg, h⟩ := h
        refine jg_iald (pc' := 134) rfl (jg_sX12_22 h0) hg rfl ?_
        refine jg_A (pc' := 136) rfl rfl (fun _ _ _ => rfl) ?_
        refine jg_cne (pc' := 139) rfl rfl (fun hc => ?_) (fun hc => ?_)
        · have h := jg_t h (show jg_wr (m106.1 (a0 + 13) (jg_wr (m106.1 a0 36))) = 48 from hc)
          refine jg_A (pc' := 140) rfl rfl (fun _ _ _ => rfl) ?_
          exact jg_zret rfl rfl (by decide) h
        · have h := jg_f h (show ¬ (jg_wr (m106.1 (a0 + 13) (jg_wr (m106.1 a0 36))) = 48) from hc)
          refine jg_A (pc' := 142) rfl rfl (fun _ _ _ => rfl) ?_
          refine jg_ifge (pc' := 145) rfl rfl (fun hc => ?_) (fun hc => ?_)
          · have h := jg_t h (show 0 ≤ jg_wr z107 from hc)
            refine jg_A (pc' := 161) rfl rfl (fun _ _ _ => rfl) ?_
            refine jg_getO (pc' := 164) (k := 16) rfl h0 (by decide) rfl rfl ?_
            refine jg_A (pc' := 165) rfl rfl (fun _ _ _ => rfl) ?_
            refine jg_A (pc' := 166) rfl rfl (fun _ _ _ => rfl) ?_
            refine jg_A (pc' := 167) rfl rfl (fun _ _ _ => rfl) ?_
            refine jg_calX (M1 := mm_X12_moveAt) (hy := 0) (pc' := 170) rfl jm_X12_moveAt (by decide) rfl h0 (by decide) ⟨Nat.le_of_ble_eq_true rfl, rfl⟩ (Nat.le_of_ble_eq_true rfl) rfl h (jg_kI (fun z117 m116 h => ?_))
            refine jg_A (pc' := 171) rfl rfl (fun _ _ _ => rfl) ?_
            obtain ⟨hg, h⟩ := h
            refine jg_iast (pc' := 172) rfl (jg_sX12_25 h0) hg rfl (fun m118 hm118 => ?_)
            have h := h m118 hm118
            refine jg_iinc (pc' := 175) (ls' := [.ref a0, .int (.ofInt x1), .int (.ofInt (x2 + 1)), .int (.ofInt z107)]) rfl rfl rfl rfl ?_
            refine jg_goto rfl ?_
            exact h
          · have h := jg_f h (show ¬ (0 ≤ jg_wr z107) from hc)
            refine jg_A (pc' := 146) rfl rfl (fun _ _ _ => rfl) ?_
            refine jg_getO (pc' := 149) (k := 13) rfl h0 (by decide) rfl rfl ?_
            refine jg_A (pc' := 150) rfl rfl (fun _ _ _ => rfl) ?_
            refine jg_getI (pc' := 153) (bi := 36) rfl h0 (by decide) (Or.inl rfl) rfl rfl ?_
            obtain ⟨hg, h⟩ := h
            refine jg_iald (pc' := 154) rfl (jg_sX12_22 h0) hg rfl ?_
            refine jg_nm (F := fun t119 => jg_G w 3 mm_X12_layStates 154 [.ref a0, .int (.ofInt x1), .int (.ofInt x2), .int (.ofInt z107)] [.int (.ofInt t119)] m106 (jg_QI Q)) (m106.1 (a0 + 13) (jg_wr (m106.1 a0 36))) (fun t119 ht119 => ?_)
            have h := h t119 ht119
            refine jg_A (pc' := 155) (ls' := [.ref a0, .int (.ofInt x1), .int (.ofInt x2), .int (.ofInt t119)]) rfl rfl (fun _ _ _ => rfl) ?_
            refine jg_A (pc' := 156) rfl rfl (fun _ _ _ => rfl) ?_
            refine jg_A (pc' := 157) rfl rfl (fun _ _ _ => rfl) ?_
            refine jg_calX (M1 := mm_X12_addState) (hy := 2) (pc' := 160) rfl jm_X12_addState (by decide) rfl h0 (by decide) ⟨Nat.le_of_ble_eq_true rfl, rfl⟩ (Nat.le_of_ble_eq_true rfl) rfl h (jg_kV (fun m120 h => ?_))
            refine jg_A (pc' := 161) rfl rfl (fun _ _ _ => rfl) ?_
            refine jg_getO (pc' := 164) (k := 16) rfl h0 (by decide) rfl rfl ?_
            refine jg_A (pc' := 165) rfl rfl (fun _ _ _ => rfl) ?_
            refine jg_A (pc' := 166) rfl rfl (fun _ _ _ => rfl) ?_
            refine jg_A (pc' := 167) rfl rfl (fun _ _ _ => rfl) ?_
            refine jg_calX (M1 := mm_X12_moveAt) (hy := 0) (pc' := 170) rfl jm_X12_moveAt (by decide) rfl h0 (by decide) ⟨Nat.le_of_ble_eq_true rfl, rfl⟩ (Nat.le_of_ble_eq_true rfl) rfl h (jg_kI (fun z122 m121 h => ?_))
            refine jg_A (pc' := 171) rfl rfl (fun _ _ _ => rfl) ?_
            obtain ⟨hg, h⟩ := h
            refine jg_iast (pc' := 172) rfl (jg_sX12_25 h0) hg rfl (fun m123 hm123 => ?_)
            have h := h m123 hm123
            refine jg_iinc (pc' := 175) (ls' := [.ref a0, .int (.ofInt x1), .int (.ofInt (x2 + 1)), .int (.ofInt t119)]) rfl rfl rfl rfl ?_
            refine jg_goto rfl ?_
            exact h
set_option maxRecDepth 100000 in
set_option maxHeartbeats 4000000 in
theorem jb_X12_moreLook_0 {w : Nat} {a0 : Nat} {x1 : Int} {x2 : Int} {σ : jg_M} {Q : Int → jg_M → Prop} (h0 : jg_sh a0 = (12, 0)) (h : ((0 : Int) ≤ jg_wr x1 ∧ jg_wr x1 < (6240 : Int)) ∧ (if jg_wr (jg_and x2 (jg_xor (σ.1 (a0 + 18) (jg_wr x1)) (-1))) = 0 then Q 0 σ else ((0 : Int) ≤ jg_wr x1 ∧ jg_wr x1 < (6240 : Int)) ∧ ((0 : Int) ≤ (jg_wr x1) ∧ (jg_wr x1) < (6240 : Int)) ∧ ∀ m101 : jg_M, m101 = jg_sI σ (a0 + 18) (jg_wr x1) (jg_or (σ.1 (a0 + 18) (jg_wr x1)) x2) → Q 1 m101)) : jg_CI w 0 mm_X12_moreLook [.ref a0, .int (.ofInt x1), .int (.ofInt x2)] σ Q := by
  show jg_G w 0 mm_X12_moreLook 0 [.ref a0, .int (.ofInt x1), .int (.ofInt x2)] [] σ (jg_QI Q)
  refine jg_A (pc' := 1) rfl rfl (fun _ _ _ => rfl) ?_
  refine jg_A (pc' := 2) rfl rfl (fun _ _ _ => rfl) ?_
  refine jg_getO (pc' := 5) (k := 18) rfl h0 (by decide) rfl rfl ?_
  refine jg_A (pc' := 6) rfl rfl (fun _ _ _ => rfl) ?_
  obtain ⟨hg, h⟩ := h
  refine jg_iald (pc' := 7) rfl (jg_sX12_27 h0) hg rfl ?_
  refine jg_A (pc' := 8) rfl rfl (fun _ _ _ => rfl) ?_
  refine jg_ixor (pc' := 9) rfl rfl ?_
  refine jg_iand (pc' := 10) rfl rfl ?_
  refine jg_ifne (pc' := 13) rfl rfl (fun hc => ?_) (fun hc => ?_)
  · have h := jg_t h (show jg_wr (jg_and x2 (jg_xor (σ.1 (a0 + 18) (jg_wr x1)) (-1))) = 0 from hc)
    refine jg_A (pc' := 14) rfl rfl (fun _ _ _ => rfl) ?_
    exact jg_zret rfl rfl (by decide) h
  · have h := jg_f h (show ¬ (jg_wr (jg_and x2 (jg_xor (σ.1 (a0 + 18) (jg_wr x1)) (-1))) = 0) from hc)
    refine jg_A (pc' := 16) rfl rfl (fun _ _ _ => rfl) ?_
    refine jg_getO (pc' := 19) (k := 18) rfl h0 (by decide) rfl rfl ?_
    refine jg_A (pc' := 20) rfl rfl (fun _ _ _ => rfl) ?_
    refine jg_A (pc' := 21) rfl rfl (fun _ _ _ => rfl) ?_
    obtain ⟨hg, h⟩ := h
    refine jg_iald (pc' := 22) rfl (jg_sX12_27 h0) hg rfl ?_
    refine jg_A (pc' := 23) rfl rfl (fun _ _ _ => rfl) ?_
    refine jg_ior (pc' := 24) rfl rfl ?_
    obtain ⟨hg, h⟩ := h
    refine jg_iast (pc' := 25) rfl (jg_sX12_27 h0) hg rfl (fun m101 hm101 => ?_)
    have h := h m101 hm101
    refine jg_A (pc' := 26) rfl rfl (fun _ _ _ => rfl) ?_
    exact jg_zret rfl rfl (by decide) h
set_option maxRecDepth 100000 in
set_option maxHeartbeats 4000000 in
theorem jb_X12_layLooks_0 {w : Nat} {a0 : Nat} {σ : jg_M} {Q : jg_M → Prop} (h0 : jg_sh a0 = (12, 0)) (h : ((0 : Int) ≤ jg_wr (σ.1 a0 36) ∧ jg_wr (σ.1 a0 36) < (2 : Int)) ∧ (if jg_wr (σ.1 (a0 + 13) (jg_wr (σ.1 a0 36))) = 0 then Q σ else ((0 : Int) ≤ jg_wr (σ.1 a0 35) ∧ jg_wr (σ.1 a0 35) < (2 : Int)) ∧ jg_CI w 0 mm_X12_itemAt [.ref a0, .int (.ofInt 0), .int (.ofInt (5 * (σ.1 (a0 + 5) (jg_wr (σ.1 a0 35)))))] σ (fun (z102 : Int) (m101 : jg_M) => ((0 : Int) ≤ jg_wr (m101.1 a0 35) ∧ jg_wr (m101.1 a0 35) < (2 : Int)) ∧ ((0 : Int) ≤ (jg_wr z102) ∧ (jg_wr z102) < (6240 : Int)) ∧ ∀ m103 : jg_M, m103 = jg_sI m101 (a0 + 18) (jg_wr z102) (jg_shl 1 (m101.1 (a0 + 3) (jg_wr (m101.1 a0 35)))) → jg_GV w 3 mm_X12_layLooks 47 [.ref a0, .int (.ofInt 1), mj_U, mj_U, mj_U, mj_U, mj_U, mj_U] m103 Q))) : jg_CV w 3 mm_X12_layLooks [.ref a0] σ Q := by
  show jg_G w 3 mm_X12_layLooks 0 [.ref a0, mj_U, mj_U, mj_U, mj_U, mj_U, mj_U, mj_U] [] σ (jg_QV Q)
  refine jg_A (pc' := 1) rfl rfl (fun _ _ _ => rfl) ?_
  refine jg_getO (pc' := 4) (k := 13) rfl h0 (by decide) rfl rfl ?_
  refine jg_A (pc' := 5) rfl rfl (fun _ _ _ => rfl) ?_
  refine jg_getI (pc' := 8) (bi := 36) rfl h0 (by decide) (Or.inl rfl) rfl rfl ?_
  obtain ⟨hg, h⟩ := h
  refine jg_iald (pc' := 9) rfl (jg_sX12_22 h0) hg rfl ?_
  refine jg_ifne (pc' := 12) rfl rfl (fun hc => ?_) (fun hc => ?_)
  · have h := jg_t h (show jg_wr (σ.1 (a0 + 13) (jg_wr (σ.1 a0 36))) = 0 from hc)
    exact jg_vret rfl rfl h
  · have h := jg_f h (show ¬ (jg_wr (σ.1 (a0 + 13) (jg_wr (σ.1 a0 36))) = 0) from hc)
    refine jg_A (pc' := 14) rfl rfl (fun _ _ _ => rfl) ?_
    refine jg_getO (pc' := 17) (k := 18) rfl h0 (by decide) rfl rfl ?_
    refine jg_A (pc' := 18) rfl rfl (fun _ _ _ => rfl) ?_
    refine jg_A (pc' := 19) rfl rfl (fun _ _ _ => rfl) ?_
    refine jg_A (pc' := 20) rfl rfl (fun _ _ _ => rfl) ?_
    refine jg_A (pc' := 21) rfl rfl (fun _ _ _ => rfl) ?_
    refine jg_getO (pc' := 24) (k := 5) rfl h0 (by decide) rfl rfl ?_
    refine jg_A (pc' := 25) rfl rfl (fun _ _ _ => rfl) ?_
    refine jg_getI (pc' := 28) (bi := 35) rfl h0 (by decide) (Or.inl rfl) rfl rfl ?_
    obtain ⟨hg, h⟩ := h
    refine jg_iald (pc' := 29) rfl (jg_sX12_14 h0) hg rfl ?_
    refine jg_imul (pc' := 30) rfl rfl ?_
    refine jg_calX (M1 := mm_X12_itemAt) (hy := 0) (pc' := 33) rfl jm_X12_itemAt (by decide) rfl h0 (by decide) ⟨Nat.le_of_ble_eq_true rfl, rfl⟩ (Nat.le_of_ble_eq_true rfl) rfl h (jg_kI (fun z102 m101 h => ?_))
    refine jg_A (pc' := 34) rfl rfl (fun _ _ _ => rfl) ?_
    refine jg_A (pc' := 35) rfl rfl (fun _ _ _ => rfl) ?_
    refine jg_getO (pc' := 38) (k := 3) rfl h0 (by decide) rfl rfl ?_
    refine jg_A (pc' := 39) rfl rfl (fun _ _ _ => rfl) ?_
    refine jg_getI (pc' := 42) (bi := 35) rfl h0 (by decide) (Or.inl rfl) rfl rfl ?_
    obtain ⟨hg, h⟩ := h
    refine jg_iald (pc' := 43) rfl (jg_sX12_12 h0) hg rfl ?_
    refine jg_ishl (pc' := 44) rfl rfl ?_
    obtain ⟨hg, h⟩ := h
    refine jg_iast (pc' := 45) rfl (jg_sX12_27 h0) hg rfl (fun m103 hm103 => ?_)
    have h := h m103 hm103
    refine jg_A (pc' := 46) rfl rfl (fun _ _ _ => rfl) ?_
    refine jg_A (pc' := 47) (ls' := [.ref a0, .int (.ofInt 1), mj_U, mj_U, mj_U, mj_U, mj_U, mj_U]) rfl rfl (fun _ _ _ => rfl) ?_
    exact h
set_option maxRecDepth 100000 in
set_option maxHeartbeats 4000000 in
theorem jb_X12_layLooks_47 {w : Nat} {a0 : Nat} {x1 : Int} {u2 : Value} {u3 : Value} {u4 : Value} {u5 : Value} {u6 : Value} {u7 : Value} {σ : jg_M} {Q : jg_M → Prop} (h0 : jg_sh a0 = (12, 0)) (h : (if jg_wr x1 = 0 then Q σ else jg_GV w 3 mm_X12_layLooks 55 [.ref a0, .int (.ofInt 0), .int (.ofInt 0), u3, u4, u5, u6, u7] σ Q)) : jg_GV w 3 mm_X12_layLooks 47 [.ref a0, .int (.ofInt x1), u2, u3, u4, u5, u6, u7] σ Q := by
  show jg_G w 3 mm_X12_layLooks 47 [.ref a0, .int (.ofInt x1), u2, u3, u4, u5, u6, u7] [] σ (jg_QV Q)
  refine jg_A (pc' := 48) rfl rfl (fun _ _ _ => rfl) ?_
  refine jg_ifeq (pc' := 51) rfl rfl (fun hc => ?_) (fun hc => ?_)
  · have h := jg_t h (show jg_wr x1 = 0 from hc)
    exact jg_vret rfl rfl h
  · have h := jg_f h (show ¬ (jg_wr x1 = 0) from hc)
    refine jg_A (pc' := 52) rfl rfl (fun _ _ _ => rfl) ?_
    refine jg_A (pc' := 53) (ls' := [.ref a0, .int (.ofInt 0), u2, u3, u4, u5, u6, u7]) rfl rfl (fun _ _ _ => rfl) ?_
    refine jg_A (pc' := 54) rfl rfl (fun _ _ _ => rfl) ?_
    refine jg_A (pc' := 55) (ls' := [.ref a0, .int (.ofInt 0), .int (.ofInt 0), u3, u4, u5, u6, u7]) rfl rfl (fun _ _ _ => rfl) ?_
    exact h
set_option maxRecDepth 100000 in
set_option maxHeartbeats 4000000 in
theorem jb_X12_layLooks_55 {w : Nat} {a0 : Nat} {x1 : Int} {x2 : Int} {u3 : Value} {u4 : Value} {u5 : Value} {u6 : Value} {u7 : Value} {σ : jg_M} {Q : jg_M → Prop} (h0 : jg_sh a0 = (12, 0)) (h : ((0 : Int) ≤ jg_wr (σ.1 a0 36) ∧ jg_wr (σ.1 a0 36) < (2 : Int)) ∧ (if jg_wr (σ.1 (a0 + 13) (jg_wr (σ.1 a0 36))) ≤ jg_wr x2 then jg_GV w 3 mm_X12_layLooks 47 [.ref a0, .int (.ofInt x1), .int (.ofInt x2), u3, u4, u5, u6, u7] σ Q else jg_GV w 3 mm_X12_layLooks 70 [.ref a0, .int (.ofInt x1), .int (.ofInt x2), .int (.ofInt 0), u4, u5, u6, u7] σ Q)) : jg_GV w 3 mm_X12_layLooks 55 [.ref a0, .int (.ofInt x1), .int (.ofInt x2), u3, u4, u5, u6, u7] σ Q := by
  show jg_G w 3 mm_X12_layLooks 55 [.ref a0, .int (.ofInt x1), .int (.ofInt x2), u3, u4, u5, u6, u7] [] σ (jg_QV Q)
  refine jg_A (pc' := 56) rfl rfl (fun _ _ _ => rfl) ?_
  refine jg_A (pc' := 57) rfl rfl (fun _ _ _ => rfl) ?_
  refine jg_getO (pc' := 60) (k := 13) rfl h0 (by decide) rfl rfl ?_
  refine jg_A (pc' := 61) rfl rfl (fun _ _ _ => rfl) ?_
  refine jg_getI (pc' := 64) (bi := 36) rfl h0 (by decide) (Or.inl rfl) rfl rfl ?_
  obtain ⟨hg, h⟩ := h
  refine jg_iald (pc' := 65) rfl (jg_sX12_22 h0) hg rfl ?_
  refine jg_cge (pc' := 68) rfl rfl (fun hc => ?_) (fun hc => ?_)
  · have h := jg_t h (show jg_wr (σ.1 (a0 + 13) (jg_wr (σ.1 a0 36))) ≤ jg_wr x2 from hc)
    refine jg_goto rfl ?_
    exact h
  · have h := jg_f h (show ¬ (jg_wr (σ.1 (a0 + 13) (jg_wr (σ.1 a0 36))) ≤ jg_wr x2) from hc)
    refine jg_A (pc' := 69) rfl rfl (fun _ _ _ => rfl) ?_
    refine jg_A (pc' := 70) (ls' := [.ref a0, .int (.ofInt x1), .int (.ofInt x2), .int (.ofInt 0), u4, u5, u6, u7]) rfl rfl (fun _ _ _ => rfl) ?_
    exact h
set_option maxRecDepth 100000 in
set_option maxHeartbeats 4000000 in
theorem jb_X12_layLooks_70 {w : Nat} {a0 : Nat} {x1 : Int} {x2 : Int} {x3 : Int} {u4 : Value} {u5 : Value} {u6 : Value} {u7 : Value} {σ : jg_M} {Q : jg_M → Prop} (h0 : jg_sh a0 = (12, 0)) (h : (if 65 ≤ jg_wr x3 then jg_GV w 3 mm_X12_layLooks 55 [.ref a0, .int (.ofInt x1), .int (.ofInt (x2 + 1)), .int (.ofInt x3), u4, u5, u6, u7] σ Q else jg_CI w 0 mm_X12_itemAt [.ref a0, .int (.ofInt x2), .int (.ofInt x3)] σ (fun (z102 : Int) (m101 : jg_M) => ((0 : Int) ≤ jg_wr z102 ∧ jg_wr z102 < (6240 : Int)) ∧ (if jg_wr (m101.1 (a0 + 15) (jg_wr z102)) = 0 then jg_GV w 3 mm_X12_layLooks 70 [.ref a0, .int (.ofInt x1), .int (.ofInt x2), .int (.ofInt (x3 + 1)), .int (.ofInt (-1)), u5, u6, u7] m101 Q else jg_CI w 0 mm_X12_moveBy [.ref a0, .int (.ofInt (jg_div x3 5)), .int (.ofInt (jg_rem x3 5))] m101 (fun (z104 : Int) (m103 : jg_M) => (if 0 ≤ jg_wr z104 then jg_CI w 0 mm_X12_itemAt [.ref a0, .int (.ofInt x2), .int (.ofInt x3)] m103 (fun (z106 : Int) (m105 : jg_M) => ((0 : Int) ≤ jg_wr z106 ∧ jg_wr z106 < (6240 : Int)) ∧ ∀ t107 : Int, t107 = (m105.1 (a0 + 18) (jg_wr z106)) → jg_CI w 0 mm_X12_moveAt [.ref a0, .int (.ofInt x2), .int (.ofInt z104)] m105 (fun (z109 : Int) (m108 : jg_M) => ((0 : Int) ≤ jg_wr z109 ∧ jg_wr z109 < (1152 : Int)) ∧ jg_CI w 0 mm_X12_itemAt [.ref a0, .int (.ofInt (m108.1 (a0 + 16) (jg_wr z109))), .int (.ofInt (x3 + 1))] m108 (fun (z111 : Int) (m110 : jg_M) => jg_CI w 0 mm_X12_moreLook [.ref a0, .int (.ofInt z111), .int (.ofInt t107)] m110 (fun (z113 : Int) (m112 : jg_M) => ∀ t114 : Int, t114 = (jg_or x1 z113) → (if 7 ≤ jg_wr z104 then jg_CI w 2 mm_X12_firstFrom [.ref a0, .int (.ofInt (jg_div x3 5)), .int (.ofInt ((jg_rem x3 5) + 1))] m112 (fun (z116 : Int) (m115 : jg_M) => jg_CI w 2 mm_X12_isEmptyFrom [.ref a0, .int (.ofInt (jg_div x3 5)), .int (.ofInt ((jg_rem x3 5) + 1))] m115 (fun (z118 : Int) (m117 : jg_M) => (if jg_wr z118 = 0 then ∀ t119 : Int, t119 = (jg_or z116 0) → jg_GV w 3 mm_X12_layLooks 204 [.ref a0, .int (.ofInt t114), .int (.ofInt x2), .int (.ofInt x3), .int (.ofInt z104), .int (.ofInt t107), .int (.ofInt t119), .int (.ofInt 0)] m117 Q else ∀ t120 : Int, t120 = (jg_or z116 t107) → jg_GV w 3 mm_X12_layLooks 204 [.ref a0, .int (.ofInt t114), .int (.ofInt x2), .int (.ofInt x3), .int (.ofInt z104), .int (.ofInt t107), .int (.ofInt t120), .int (.ofInt 0)] m117 Q))) else jg_GV w 3 mm_X12_layLooks 70 [.ref a0, .int (.ofInt t114), .int (.ofInt x2), .int (.ofInt (x3 + 1)), .int (.ofInt z104), .int (.ofInt t107), u6, u7] m112 Q))))) else jg_GV w 3 mm_X12_layLooks 70 [.ref a0, .int (.ofInt x1), .int (.ofInt x2), .int (.ofInt (x3 + 1)), .int (.ofInt z104), u5, u6, u7] m103 Q)))))) : jg_GV w 3 mm_X12_layLooks 70 [.ref a0, .int (.ofInt x1), .int (.ofInt x2), .int (.ofInt x3), u4, u5, u6, u7] σ Q := by
  show jg_G w 3 mm_X12_layLooks 70 [.ref a0, .int (.ofInt x1), .int (.ofInt x2), .int (.ofInt x3), u4, u5, u6, u7] [] σ (jg_QV Q)
  refine jg_A (pc' := 71) rfl rfl (fun _ _ _ => rfl) ?_
  refine jg_A (pc' := 73) rfl rfl (fun _ _ _ => rfl) ?_
  refine jg_cge (pc' := 76) rfl rfl (fun hc => ?_) (fun hc => ?_)
  · have h := jg_t h (show 65 ≤ jg_wr x3 from hc)
    refine jg_iinc (pc' := 265) (ls' := [.ref a0, .int (.ofInt x1), .int (.ofInt (x2 + 1)), .int (.ofInt x3), u4, u5, u6, u7]) rfl rfl rfl rfl ?_
    refine jg_goto rfl ?_
    exact h
  · have h := jg_f h (show ¬ (65 ≤ jg_wr x3) from hc)
    refine jg_A (pc' := 77) rfl rfl (fun _ _ _ => rfl) ?_
    refine jg_getO (pc' := 80) (k := 15) rfl h0 (by decide) rfl rfl ?_
    refine jg_A (pc' := 81) rfl rfl (fun _ _ _ => rfl) ?_
    refine jg_A (pc' := 82) rfl rfl (fun _ _ _ => rfl) ?_
    refine jg_A (pc' := 83) rfl rfl (fun _ _ _ => rfl) ?_
    refine jg_calX (M1 := mm_X12_itemAt) (hy := 0) (pc' := 86) rfl jm_X12_itemAt (by decide) rfl h0 (by decide) ⟨Nat.le_of_ble_eq_true rfl, rfl⟩ (Nat.le_of_ble_eq_true rfl) rfl h (jg_kI (fun z102 m101 h => ?_))
    obtain ⟨hg, h⟩ := h
    refine jg_zald (pc' := 87) rfl (jg_sX12_24 h0) hg rfl ?_
    refine jg_ifeq (pc' := 90) rfl rfl (fun hc => ?_) (fun hc => ?_)
    · have h := jg_t h (show jg_wr (m101.1 (a0 + 15) (jg_wr z102)) = 0 from hc)
      refine jg_A (pc' := 104) rfl rfl (fun _ _ _ => rfl) ?_
      refine jg_A (pc' := 106) (ls' := [.ref a0, .int (.ofInt x1), .int (.ofInt x2), .int (.ofInt x3), .int (.ofInt (-1)), u5, u6, u7]) rfl rfl (fun _ _ _ => rfl) ?_
      refine jg_A (pc' := 108) rfl rfl (fun _ _ _ => rfl) ?_
      refine jg_ifge (pc' := 111) rfl rfl (fun hc => absurd hc (show ¬ (0 ≤ (-1)) by decide)) (fun hc => ?_)
      refine jg_goto rfl ?_
      refine jg_iinc (pc' := 259) (ls' := [.ref a0, .int (.ofInt x1), .int (.ofInt x2), .int (.ofInt (x3 + 1)), .int (.ofInt (-1)), u5, u6, u7]) rfl rfl rfl rfl ?_
      refine jg_goto rfl ?_
      exact h
    · have h := jg_f h (show ¬ (jg_wr (m101.1 (a0 + 15) (jg_wr z102)) = 0) from hc)
      refine jg_A (pc' := 91) rfl rfl (fun _ _ _ => rfl) ?_
      refine jg_A (pc' := 92) rfl rfl (fun _ _ _ => rfl) ?_
      refine jg_A (pc' := 93) rfl rfl (fun _ _ _ => rfl) ?_
      refine jg_idiv (pc' := 94) rfl rfl (by decide) ?_
      refine jg_A (pc' := 95) rfl rfl (fun _ _ _ => rfl) ?_
      refine jg_A (pc' := 96) rfl rfl (fun _ _ _ => rfl) ?_
      refine jg_irem (pc' := 97) rfl rfl (by decide) ?_
      refine jg_calX (M1 := mm_X12_moveBy) (hy := 0) (pc' := 100) rfl jm_X12_moveBy (by decide) rfl h0 (by decide) ⟨Nat.le_of_ble_eq_true rfl, rfl⟩ (Nat.le_of_ble_eq_true rfl) rfl h (jg_kI (fun z104 m103 h => ?_))
      refine jg_goto rfl ?_
      refine jg_A (pc' := 106) (ls' := [.ref a0, .int (.ofInt x1), .int (.ofInt x2), .int (.ofInt x3), .int (.ofInt z104), u5, u6, u7]) rfl rfl (fun _ _ _ => rfl) ?_
      refine jg_A (pc' := 108) rfl rfl (fun _ _ _ => rfl) ?_
      refine jg_ifge (pc' := 111) rfl rfl (fun hc => ?_) (fun hc => ?_)
      · have h := jg_t h (show 0 ≤ jg_wr z104 from hc)
        refine jg_A (pc' := 115) rfl rfl (fun _ _ _ => rfl) ?_
        refine jg_getO (pc' := 118) (k := 18) rfl h0 (by decide) rfl rfl ?_
        refine jg_A (pc' := 119) rfl rfl (fun _ _ _ => rfl) ?_
        refine jg_A (pc' := 120) rfl rfl (fun _ _ _ => rfl) ?_
        refine jg_A (pc' := 121) rfl rfl (fun _ _ _ => rfl) ?_
        refine jg_calX (M1 := mm_X12_itemAt) (hy := 0) (pc' := 124) rfl jm_X12_itemAt (by decide) rfl h0 (by decide) ⟨Nat.le_of_ble_eq_true rfl, rfl⟩ (Nat.le_of_ble_eq_true rfl) rfl h (jg_kI (fun z106 m105 h => ?_))
        obtain ⟨hg, h⟩ := h
        refine jg_iald (pc' := 125) rfl (jg_sX12_27 h0) hg rfl ?_
        refine jg_nm (F := fun t107 => jg_G w 3 mm_X12_layLooks 125 [.ref a0, .int (.ofInt x1), .int (.ofInt x2), .int (.ofInt x3), .int (.ofInt z104), u5, u6, u7] [.int (.ofInt t107)] m105 (jg_QV Q)) (m105.1 (a0 + 18) (jg_wr z106)) (fun t107 ht107 => ?_)
        have h := h t107 ht107
        refine jg_A (pc' := 127) (ls' := [.ref a0, .int (.ofInt x1), .int (.ofInt x2), .int (.ofInt x3), .int (.ofInt z104), .int (.ofInt t107), u6, u7]) rfl rfl (fun _ _ _ => rfl) ?_
        refine jg_A (pc' := 128) rfl rfl (fun _ _ _ => rfl) ?_
        refine jg_A (pc' := 129) rfl rfl (fun _ _ _ => rfl) ?_
        refine jg_A (pc' := 130) rfl rfl (fun _ _ _ => rfl) ?_
        refine jg_A (pc' := 131) rfl rfl (fun _ _ _ => rfl) ?_
        refine jg_getO (pc' := 134) (k := 16) rfl h0 (by decide) rfl rfl ?_
        refine jg_A (pc' := 135) rfl rfl (fun _ _ _ => rfl) ?_
        refine jg_A (pc' := 136) rfl rfl (fun _ _ _ => rfl) ?_
        refine jg_A (pc' := 138) rfl rfl (fun _ _ _ => rfl) ?_
        refine jg_calX (M1 := mm_X12_moveAt) (hy := 0) (pc' := 141) rfl jm_X12_moveAt (by decide) rfl h0 (by decide) ⟨Nat.le_of_ble_eq_true rfl, rfl⟩ (Nat.le_of_ble_eq_true rfl) rfl h (jg_kI (fun z109 m108 h => ?_))
        obtain ⟨hg, h⟩ := h
        refine jg_iald (pc' := 142) rfl (jg_sX12_25 h0) hg rfl ?_
        refine jg_A (pc' := 143) rfl rfl (fun _ _ _ => rfl) ?_
        refine jg_A (pc' := 144) rfl rfl (fun _ _ _ => rfl) ?_
        refine jg_iadd (pc' := 145) rfl rfl ?_
        refine jg_calX (M1 := mm_X12_itemAt) (hy := 0) (pc' := 148) rfl jm_X12_itemAt (by decide) rfl h0 (by decide) ⟨Nat.le_of_ble_eq_true rfl, rfl⟩ (Nat.le_of_ble_eq_true rfl) rfl h (jg_kI (fun z111 m110 h => ?_))
        refine jg_A (pc' := 150) rfl rfl (fun _ _ _ => rfl) ?_
        refine jg_calX (M1 := mm_X12_moreLook) (hy := 0) (pc' := 153) rfl jm_X12_moreLook (by decide) rfl h0 (by decide) ⟨Nat.le_of_ble_eq_true rfl, rfl⟩ (Nat.le_of_ble_eq_true rfl) rfl h (jg_kI (fun z113 m112 h => ?_))
        refine jg_ior (pc' := 154) rfl rfl ?_
        refine jg_nm (F := fun t114 => jg_G w 3 mm_X12_layLooks 154 [.ref a0, .int (.ofInt x1), .int (.ofInt x2), .int (.ofInt x3), .int (.ofInt z104), .int (.ofInt t107), u6, u7] [.int (.ofInt t114)] m112 (jg_QV Q)) (jg_or x1 z113) (fun t114 ht114 => ?_)
        have h := h t114 ht114
        refine jg_A (pc' := 155) (ls' := [.ref a0, .int (.ofInt t114), .int (.ofInt x2), .int (.ofInt x3), .int (.ofInt z104), .int (.ofInt t107), u6, u7]) rfl rfl (fun _ _ _ => rfl) ?_
        refine jg_A (pc' := 157) rfl rfl (fun _ _ _ => rfl) ?_
        refine jg_A (pc' := 159) rfl rfl (fun _ _ _ => rfl) ?_
        refine jg_cge (pc' := 162) rfl rfl (fun hc => ?_) (fun hc => ?_)
        · have h := jg_t h (show 7 ≤ jg_wr z104 from hc)
          refine jg_A (pc' := 166) rfl rfl (fun _ _ _ => rfl) ?_
          refine jg_A (pc' := 167) rfl rfl (fun _ _ _ => rfl) ?_
          refine jg_A (pc' := 168) rfl rfl (fun _ _ _ => rfl) ?_
          refine jg_idiv (pc' := 169) rfl rfl (by decide) ?_
          refine jg_A (pc' := 170) rfl rfl (fun _ _ _ => rfl) ?_
          refine jg_A (pc' := 171) rfl rfl (fun _ _ _ => rfl) ?_
          refine jg_irem (pc' := 172) rfl rfl (by decide) ?_
          refine jg_A (pc' := 173) rfl rfl (fun _ _ _ => rfl) ?_
          refine jg_iadd (pc' := 174) rfl rfl ?_
          refine jg_calX (M1 := mm_X12_firstFrom) (hy := 2) (pc' := 177) rfl jm_X12_firstFrom (by decide) rfl h0 (by decide) ⟨Nat.le_of_ble_eq_true rfl, rfl⟩ (Nat.le_of_ble_eq_true rfl) rfl h (jg_kI (fun z116 m115 h => ?_))
          refine jg_A (pc' := 178) rfl rfl (fun _ _ _ => rfl) ?_
          refine jg_A (pc' := 179) rfl rfl (fun _ _ _ => rfl) ?_
          refine jg_A (pc' := 180) rfl rfl (fun _ _ _ => rfl) ?_
          refine jg_idiv (pc' := 181) rfl rfl (by decide) ?_
          refine jg_A (pc' := 182) rfl rfl (fun _ _ _ => rfl) ?_
          refine jg_A (pc' := 183) rfl rfl (fun _ _ _ => rfl) ?_
          refine jg_irem (pc' := 184) rfl rfl (by decide) ?_
          refine jg_A (pc' := 185) rfl rfl (fun _ _ _ => rfl) ?_
          refine jg_iadd (pc' := 186) rfl rfl ?_
          refine jg_calX (M1 := mm_X12_isEmptyFrom) (hy := 2) (pc' := 189) rfl jm_X12_isEmptyFrom (by decide) rfl h0 (by decide) ⟨Nat.le_of_ble_eq_true rfl, rfl⟩ (Nat.le_of_ble_eq_true rfl) rfl h (jg_kI (fun z118 m117 h => ?_))
          refine jg_ifeq (pc' := 192) rfl rfl (fun hc => ?_) (fun hc => ?_)
          · have h := jg_t h (show jg_wr z118 = 0 from hc)
            refine jg_A (pc' := 198) rfl rfl (fun _ _ _ => rfl) ?_
            refine jg_ior (pc' := 199) rfl rfl ?_
            refine jg_nm (F := fun t119 => jg_G w 3 mm_X12_layLooks 199 [.ref a0, .int (.ofInt t114), .int (.ofInt x2), .int (.ofInt x3), .int (.ofInt z104), .int (.ofInt t107), u6, u7] [.int (.ofInt t119)] m117 (jg_QV Q)) (jg_or z116 0) (fun t119 ht119 => ?_)
            have h := h t119 ht119
            refine jg_A (pc' := 201) (ls' := [.ref a0, .int (.ofInt t114), .int (.ofInt x2), .int (.ofInt x3), .int (.ofInt z104), .int (.ofInt t107), .int (.ofInt t119), u7]) rfl rfl (fun _ _ _ => rfl) ?_
            refine jg_A (pc' := 202) rfl rfl (fun _ _ _ => rfl) ?_
            refine jg_A (pc' := 204) (ls' := [.ref a0, .int (.ofInt t114), .int (.ofInt x2), .int (.ofInt x3), .int (.ofInt z104), .int (.ofInt t107), .int (.ofInt t119), .int (.ofInt 0)]) rfl rfl (fun _ _ _ => rfl) ?_
            exact h
          · have h := jg_f h (show ¬ (jg_wr z118 = 0) from hc)
            refine jg_A (pc' := 194) rfl rfl (fun _ _ _ => rfl) ?_
            refine jg_goto rfl ?_
            refine jg_ior (pc' := 199) rfl rfl ?_
            refine jg_nm (F := fun t120 => jg_G w 3 mm_X12_layLooks 199 [.ref a0, .int (.ofInt t114), .int (.ofInt x2), .int (.ofInt x3), .int (.ofInt z104), .int (.ofInt t107), u6, u7] [.int (.ofInt t120)] m117 (jg_QV Q)) (jg_or z116 t107) (fun t120 ht120 => ?_)
            have h := h t120 ht120
            refine jg_A (pc' := 201) (ls' := [.ref a0, .int (.ofInt t114), .int (.ofInt x2), .int (.ofInt x3), .int (.ofInt z104), .int (.ofInt t107), .int (.ofInt t120), u7]) rfl rfl (fun _ _ _ => rfl) ?_
            refine jg_A (pc' := 202) rfl rfl (fun _ _ _ => rfl) ?_
            refine jg_A (pc' := 204) (ls' := [.ref a0, .int (.ofInt t114), .int (.ofInt x2), .int (.ofInt x3), .int (.ofInt z104), .int (.ofInt t107), .int (.ofInt t120), .int (.ofInt 0)]) rfl rfl (fun _ _ _ => rfl) ?_
            exact h
        · have h := jg_f h (show ¬ (7 ≤ jg_wr z104) from hc)
          refine jg_goto rfl ?_
          refine jg_iinc (pc' := 259) (ls' := [.ref a0, .int (.ofInt t114), .int (.ofInt x2), .int (.ofInt (x3 + 1)), .int (.ofInt z104), .int (.ofInt t107), u6, u7]) rfl rfl rfl rfl ?_
          refine jg_goto rfl ?_
          exact h
      · have h := jg_f h (show ¬ (0 ≤ jg_wr z104) from hc)
        refine jg_goto rfl ?_
        refine jg_iinc (pc' := 259) (ls' := [.ref a0, .int (.ofInt x1), .int (.ofInt x2), .int (.ofInt (x3 + 1)), .int (.ofInt z104), u5, u6, u7]) rfl rfl rfl rfl ?_
        refine jg_goto rfl ?_
        exact h
set_option maxRecDepth 100000 in
set_option maxHeartbeats 4000000 in
theorem jb_X12_layLooks_204 {w : Nat} {a0 : Nat} {x1 : Int} {x2 : Int} {x3 : Int} {x4 : Int} {u5 : Value} {x6 : Int} {x7 : Int} {σ : jg_M} {Q : jg_M → Prop} (h0 : jg_sh a0 = (12, 0)) (h : ((0 : Int) ≤ jg_wr (σ.1 a0 35) ∧ jg_wr (σ.1 a0 35) < (2 : Int)) ∧ (if jg_wr (σ.1 (a0 + 5) (jg_wr (σ.1 a0 35))) ≤ jg_wr x7 then jg_GV w 3 mm_X12_layLooks 70 [.ref a0, .int (.ofInt x1), .int (.ofInt x2), .int (.ofInt (x3 + 1)), .int (.ofInt x4), u5, .int (.ofInt x6), .int (.ofInt x7)] σ Q else jg_CI w 0 mm_X12_isRuleOf [.ref a0, .int (.ofInt x7), .int (.ofInt (x4 - 7))] σ (fun (z102 : Int) (m101 : jg_M) => (if jg_wr z102 = 0 then jg_GV w 3 mm_X12_layLooks 204 [.ref a0, .int (.ofInt x1), .int (.ofInt x2), .int (.ofInt x3), .int (.ofInt x4), u5, .int (.ofInt x6), .int (.ofInt (x7 + 1))] m101 Q else jg_CI w 0 mm_X12_itemAt [.ref a0, .int (.ofInt x2), .int (.ofInt (5 * x7))] m101 (fun (z104 : Int) (m103 : jg_M) => jg_CI w 0 mm_X12_moreLook [.ref a0, .int (.ofInt z104), .int (.ofInt x6)] m103 (fun (z106 : Int) (m105 : jg_M) => ∀ t107 : Int, t107 = (jg_or x1 z106) → jg_GV w 3 mm_X12_layLooks 204 [.ref a0, .int (.ofInt t107), .int (.ofInt x2), .int (.ofInt x3), .int (.ofInt x4), u5, .int (.ofInt x6), .int (.ofInt (x7 + 1))] m105 Q)))))) : jg_GV w 3 mm_X12_layLooks 204 [.ref a0, .int (.ofInt x1), .int (.ofInt x2), .int (.ofInt x3), .int (.ofInt x4), u5, .int (.ofInt x6), .int (.ofInt x7)] σ Q := by
  show jg_G w 3 mm_X12_layLooks 204 [.ref a0, .int (.ofInt x1), .int (.ofInt x2), .int (.ofInt x3), .int (.ofInt x4), u5, .int (.ofInt x6), .int (.ofInt x7)] [] σ (jg_QV Q)
  refine jg_A (pc' := 206) rfl rfl (fun _ _ _ => rfl) ?_
  refine jg_A (pc' := 207) rfl rfl (fun _ _ _ => rfl) ?_
  refine jg_getO (pc' := 210) (k := 5) rfl h0 (by decide) rfl rfl ?_
  refine jg_A (pc' := 211) rfl rfl (fun _ _ _ => rfl) ?_
  refine jg_getI (pc' := 214) (bi := 35) rfl h0 (by decide) (Or.inl rfl) rfl rfl ?_
  obtain ⟨hg, h⟩ := h
  refine jg_iald (pc' := 215) rfl (jg_sX12_14 h0) hg rfl ?_
  refine jg_cge (pc' := 218) rfl rfl (fun hc => ?_) (fun hc => ?_)
  · have h := jg_t h (show jg_wr (σ.1 (a0 + 5) (jg_wr (σ.1 a0 35))) ≤ jg_wr x7 from hc)
    refine jg_iinc (pc' := 259) (ls' := [.ref a0, .int (.ofInt x1), .int (.ofInt x2), .int (.ofInt (x3 + 1)), .int (.ofInt x4), u5, .int (.ofInt x6), .int (.ofInt x7)]) rfl rfl rfl rfl ?_
    refine jg_goto rfl ?_
    exact h
  · have h := jg_f h (show ¬ (jg_wr (σ.1 (a0 + 5) (jg_wr (σ.1 a0 35))) ≤ jg_wr x7) from hc)
    refine jg_A (pc' := 219) rfl rfl (fun _ _ _ => rfl) ?_
    refine jg_A (pc' := 221) rfl rfl (fun _ _ _ => rfl) ?_
    refine jg_A (pc' := 223) rfl rfl (fun _ _ _ => rfl) ?_
    refine jg_A (pc' := 225) rfl rfl (fun _ _ _ => rfl) ?_
    refine jg_isub (pc' := 226) rfl rfl ?_
    refine jg_calX (M1 := mm_X12_isRuleOf) (hy := 0) (pc' := 229) rfl jm_X12_isRuleOf (by decide) rfl h0 (by decide) ⟨Nat.le_of_ble_eq_true rfl, rfl⟩ (Nat.le_of_ble_eq_true rfl) rfl h (jg_kI (fun z102 m101 h => ?_))
    refine jg_ifeq (pc' := 232) rfl rfl (fun hc => ?_) (fun hc => ?_)
    · have h := jg_t h (show jg_wr z102 = 0 from hc)
      refine jg_iinc (pc' := 253) (ls' := [.ref a0, .int (.ofInt x1), .int (.ofInt x2), .int (.ofInt x3), .int (.ofInt x4), u5, .int (.ofInt x6), .int (.ofInt (x7 + 1))]) rfl rfl rfl rfl ?_
      refine jg_goto rfl ?_
      exact h
    · have h := jg_f h (show ¬ (jg_wr z102 = 0) from hc)
      refine jg_A (pc' := 233) rfl rfl (fun _ _ _ => rfl) ?_
      refine jg_A (pc' := 234) rfl rfl (fun _ _ _ => rfl) ?_
      refine jg_A (pc' := 235) rfl rfl (fun _ _ _ => rfl) ?_
      refine jg_A (pc' := 236) rfl rfl (fun _ _ _ => rfl) ?_
      refine jg_A (pc' := 237) rfl rfl (fun _ _ _ => rfl) ?_
      refine jg_A (pc' := 239) rfl rfl (fun _ _ _ => rfl) ?_
      refine jg_imul (pc' := 240) rfl rfl ?_
      refine jg_calX (M1 := mm_X12_itemAt) (hy := 0) (pc' := 243) rfl jm_X12_itemAt (by decide) rfl h0 (by decide) ⟨Nat.le_of_ble_eq_true rfl, rfl⟩ (Nat.le_of_ble_eq_true rfl) rfl h (jg_kI (fun z104 m103 h => ?_))
      refine jg_A (pc' := 245) rfl rfl (fun _ _ _ => rfl) ?_
      refine jg_calX (M1 := mm_X12_moreLook) (hy := 0) (pc' := 248) rfl jm_X12_moreLook (by decide) rfl h0 (by decide) ⟨Nat.le_of_ble_eq_true rfl, rfl⟩ (Nat.le_of_ble_eq_true rfl) rfl h (jg_kI (fun z106 m105 h => ?_))
      refine jg_ior (pc' := 249) rfl rfl ?_
      refine jg_nm (F := fun t107 => jg_G w 3 mm_X12_layLooks 249 [.ref a0, .int (.ofInt x1), .int (.ofInt x2), .int (.ofInt x3), .int (.ofInt x4), u5, .int (.ofInt x6), .int (.ofInt x7)] [.int (.ofInt t107)] m105 (jg_QV Q)) (jg_or x1 z106) (fun t107 ht107 => ?_)
      have h := h t107 ht107
      refine jg_A (pc' := 250) (ls' := [.ref a0, .int (.ofInt t107), .int (.ofInt x2), .int (.ofInt x3), .int (.ofInt x4), u5, .int (.ofInt x6), .int (.ofInt x7)]) rfl rfl (fun _ _ _ => rfl) ?_
      refine jg_iinc (pc' := 253) (ls' := [.ref a0, .int (.ofInt t107), .int (.ofInt x2), .int (.ofInt x3), .int (.ofInt x4), u5, .int (.ofInt x6), .int (.ofInt (x7 + 1))]) rfl rfl rfl rfl ?_
      refine jg_goto rfl ?_
      exact h
set_option maxRecDepth 100000 in
set_option maxHeartbeats 4000000 in
theorem jb_X12_rankOf_0 {w : Nat} {a0 : Nat} {x1 : Int} {σ : jg_M} {Q : Int → jg_M → Prop} (h0 : jg_sh a0 = (12, 0)) (h : (if jg_wr (σ.1 a0 38) = 1 then Q 0 σ else ((0 : Int) ≤ jg_wr ((7 * (σ.1 a0 35)) + x1) ∧ jg_wr ((7 * (σ.1 a0 35)) + x1) < (14 : Int)) ∧ Q (σ.1 (a0 + 8) (jg_wr ((7 * (σ.1 a0 35)) + x1))) σ)) : jg_CI w 0 mm_X12_rankOf [.ref a0, .int (.ofInt x1)] σ Q := by
  show jg_G w 0 mm_X12_rankOf 0 [.ref a0, .int (.ofInt x1)] [] σ (jg_QI Q)
  refine jg_A (pc' := 1) rfl rfl (fun _ _ _ => rfl) ?_
  refine jg_getI (pc' := 4) (bi := 38) rfl h0 (by decide) (Or.inl rfl) rfl rfl ?_
  refine jg_A (pc' := 5) rfl rfl (fun _ _ _ => rfl) ?_
  refine jg_cne (pc' := 8) rfl rfl (fun hc => ?_) (fun hc => ?_)
  · have h := jg_t h (show jg_wr (σ.1 a0 38) = 1 from hc)
    refine jg_A (pc' := 9) rfl rfl (fun _ _ _ => rfl) ?_
    refine jg_goto rfl ?_
    exact jg_iret rfl rfl h
  · have h := jg_f h (show ¬ (jg_wr (σ.1 a0 38) = 1) from hc)
    refine jg_A (pc' := 13) rfl rfl (fun _ _ _ => rfl) ?_
    refine jg_getO (pc' := 16) (k := 8) rfl h0 (by decide) rfl rfl ?_
    refine jg_A (pc' := 18) rfl rfl (fun _ _ _ => rfl) ?_
    refine jg_A (pc' := 19) rfl rfl (fun _ _ _ => rfl) ?_
    refine jg_getI (pc' := 22) (bi := 35) rfl h0 (by decide) (Or.inl rfl) rfl rfl ?_
    refine jg_imul (pc' := 23) rfl rfl ?_
    refine jg_A (pc' := 24) rfl rfl (fun _ _ _ => rfl) ?_
    refine jg_iadd (pc' := 25) rfl rfl ?_
    obtain ⟨hg, h⟩ := h
    refine jg_iald (pc' := 26) rfl (jg_sX12_17 h0) hg rfl ?_
    exact jg_iret rfl rfl h
set_option maxRecDepth 100000 in
set_option maxHeartbeats 4000000 in
theorem jb_X12_ruleRank_0 {w : Nat} {a0 : Nat} {x1 : Int} {σ : jg_M} {Q : Int → jg_M → Prop} (h0 : jg_sh a0 = (12, 0)) (h : jg_GI w 1 mm_X12_ruleRank 4 [.ref a0, .int (.ofInt x1), .int (.ofInt 0), .int (.ofInt 0)] σ Q) : jg_CI w 1 mm_X12_ruleRank [.ref a0, .int (.ofInt x1)] σ Q := by
  show jg_G w 1 mm_X12_ruleRank 0 [.ref a0, .int (.ofInt x1), mj_U, mj_U] [] σ (jg_QI Q)
  refine jg_A (pc' := 1) rfl rfl (fun _ _ _ => rfl) ?_
  refine jg_A (pc' := 2) (ls' := [.ref a0, .int (.ofInt x1), .int (.ofInt 0), mj_U]) rfl rfl (fun _ _ _ => rfl) ?_
  refine jg_A (pc' := 3) rfl rfl (fun _ _ _ => rfl) ?_
  refine jg_A (pc' := 4) (ls' := [.ref a0, .int (.ofInt x1), .int (.ofInt 0), .int (.ofInt 0)]) rfl rfl (fun _ _ _ => rfl) ?_
  exact h
set_option maxRecDepth 100000 in
set_option maxHeartbeats 4000000 in
theorem jb_X12_ruleRank_4 {w : Nat} {a0 : Nat} {x1 : Int} {x2 : Int} {x3 : Int} {σ : jg_M} {Q : Int → jg_M → Prop} (h0 : jg_sh a0 = (12, 0)) (h : jg_CI w 0 mm_X12_longOf [.ref a0, .int (.ofInt x1)] σ (fun (z102 : Int) (m101 : jg_M) => (if jg_wr z102 ≤ jg_wr x3 then Q x2 m101 else jg_CI w 0 mm_X12_moveBy [.ref a0, .int (.ofInt x1), .int (.ofInt x3)] m101 (fun (z104 : Int) (m103 : jg_M) => (if 7 ≤ jg_wr z104 then jg_GI w 1 mm_X12_ruleRank 4 [.ref a0, .int (.ofInt x1), .int (.ofInt x2), .int (.ofInt (x3 + 1))] m103 Q else jg_CI w 0 mm_X12_moveBy [.ref a0, .int (.ofInt x1), .int (.ofInt x3)] m103 (fun (z106 : Int) (m105 : jg_M) => jg_CI w 0 mm_X12_rankOf [.ref a0, .int (.ofInt z106)] m105 (fun (z108 : Int) (m107 : jg_M) => jg_GI w 1 mm_X12_ruleRank 4 [.ref a0, .int (.ofInt x1), .int (.ofInt z108), .int (.ofInt (x3 + 1))] m107 Q))))))) : jg_GI w 1 mm_X12_ruleRank 4 [.ref a0, .int (.ofInt x1), .int (.ofInt x2), .int (.ofInt x3)] σ Q := by
  show jg_G w 1 mm_X12_ruleRank 4 [.ref a0, .int (.ofInt x1), .int (.ofInt x2), .int (.ofInt x3)] [] σ (jg_QI Q)
  refine jg_A (pc' := 5) rfl rfl (fun _ _ _ => rfl) ?_
  refine jg_A (pc' := 6) rfl rfl (fun _ _ _ => rfl) ?_
  refine jg_A (pc' := 7) rfl rfl (fun _ _ _ => rfl) ?_
  refine jg_calX (M1 := mm_X12_longOf) (hy := 0) (pc' := 10) rfl jm_X12_longOf (by decide) rfl h0 (by decide) ⟨Nat.le_of_ble_eq_true rfl, rfl⟩ (Nat.le_of_ble_eq_true rfl) rfl h (jg_kI (fun z102 m101 h => ?_))
  refine jg_cge (pc' := 13) rfl rfl (fun hc => ?_) (fun hc => ?_)
  · have h := jg_t h (show jg_wr z102 ≤ jg_wr x3 from hc)
    refine jg_A (pc' := 46) rfl rfl (fun _ _ _ => rfl) ?_
    exact jg_iret rfl rfl h
  · have h := jg_f h (show ¬ (jg_wr z102 ≤ jg_wr x3) from hc)
    refine jg_A (pc' := 14) rfl rfl (fun _ _ _ => rfl) ?_
    refine jg_A (pc' := 15) rfl rfl (fun _ _ _ => rfl) ?_
    refine jg_A (pc' := 16) rfl rfl (fun _ _ _ => rfl) ?_
    refine jg_calX (M1 := mm_X12_moveBy) (hy := 0) (pc' := 19) rfl jm_X12_moveBy (by decide) rfl h0 (by decide) ⟨Nat.le_of_ble_eq_true rfl, rfl⟩ (Nat.le_of_ble_eq_true rfl) rfl h (jg_kI (fun z104 m103 h => ?_))
    refine jg_A (pc' := 21) rfl rfl (fun _ _ _ => rfl) ?_
    refine jg_cge (pc' := 24) rfl rfl (fun hc => ?_) (fun hc => ?_)
    · have h := jg_t h (show 7 ≤ jg_wr z104 from hc)
      refine jg_A (pc' := 38) rfl rfl (fun _ _ _ => rfl) ?_
      refine jg_A (pc' := 39) (ls' := [.ref a0, .int (.ofInt x1), .int (.ofInt x2), .int (.ofInt x3)]) rfl rfl (fun _ _ _ => rfl) ?_
      refine jg_iinc (pc' := 42) (ls' := [.ref a0, .int (.ofInt x1), .int (.ofInt x2), .int (.ofInt (x3 + 1))]) rfl rfl rfl rfl ?_
      refine jg_goto rfl ?_
      exact h
    · have h := jg_f h (show ¬ (7 ≤ jg_wr z104) from hc)
      refine jg_A (pc' := 25) rfl rfl (fun _ _ _ => rfl) ?_
      refine jg_A (pc' := 26) rfl rfl (fun _ _ _ => rfl) ?_
      refine jg_A (pc' := 27) rfl rfl (fun _ _ _ => rfl) ?_
      refine jg_A (pc' := 28) rfl rfl (fun _ _ _ => rfl) ?_
      refine jg_calX (M1 := mm_X12_moveBy) (hy := 0) (pc' := 31) rfl jm_X12_moveBy (by decide) rfl h0 (by decide) ⟨Nat.le_of_ble_eq_true rfl, rfl⟩ (Nat.le_of_ble_eq_true rfl) rfl h (jg_kI (fun z106 m105 h => ?_))
      refine jg_calX (M1 := mm_X12_rankOf) (hy := 0) (pc' := 34) rfl jm_X12_rankOf (by decide) rfl h0 (by decide) ⟨Nat.le_of_ble_eq_true rfl, rfl⟩ (Nat.le_of_ble_eq_true rfl) rfl h (jg_kI (fun z108 m107 h => ?_))
      refine jg_goto rfl ?_
      refine jg_A (pc' := 39) (ls' := [.ref a0, .int (.ofInt x1), .int (.ofInt z108), .int (.ofInt x3)]) rfl rfl (fun _ _ _ => rfl) ?_
      refine jg_iinc (pc' := 42) (ls' := [.ref a0, .int (.ofInt x1), .int (.ofInt z108), .int (.ofInt (x3 + 1))]) rfl rfl rfl rfl ?_
      refine jg_goto rfl ?_
      exact h
set_option maxRecDepth 100000 in
set_option maxHeartbeats 4000000 in
theorem jb_X12_isReduced_0 {w : Nat} {a0 : Nat} {x1 : Int} {x2 : Int} {x3 : Int} {σ : jg_M} {Q : Int → jg_M → Prop} (h0 : jg_sh a0 = (12, 0)) (h : (if jg_wr x3 = jg_wr (σ.1 a0 34) then Q 0 σ else jg_CI w 0 mm_X12_longOf [.ref a0, .int (.ofInt x3)] σ (fun (z102 : Int) (m101 : jg_M) => jg_CI w 0 mm_X12_itemAt [.ref a0, .int (.ofInt x1), .int (.ofInt ((5 * x3) + z102))] m101 (fun (z104 : Int) (m103 : jg_M) => ((0 : Int) ≤ jg_wr z104 ∧ jg_wr z104 < (6240 : Int)) ∧ (if jg_wr (m103.1 (a0 + 15) (jg_wr z104)) = 0 then Q 0 m103 else (if jg_wr (m103.1 a0 38) = 3 then ((0 : Int) ≤ jg_wr ((13 * (m103.1 a0 35)) + x3) ∧ jg_wr ((13 * (m103.1 a0 35)) + x3) < (26 : Int)) ∧ ((0 : Int) ≤ jg_wr (m103.1 (a0 + 10) (jg_wr ((13 * (m103.1 a0 35)) + x3))) ∧ jg_wr (m103.1 (a0 + 10) (jg_wr ((13 * (m103.1 a0 35)) + x3))) < (5 : Int)) ∧ jg_CI w 0 mm_X12_isOf [.int (.ofInt (m103.1 (a0 + 25) (jg_wr (m103.1 (a0 + 10) (jg_wr ((13 * (m103.1 a0 35)) + x3)))))), .int (.ofInt x2)] m103 (fun (z106 : Int) (m105 : jg_M) => ((jg_wr z106 = 0 ∨ jg_wr z106 = 1) ∧ Q z106 m105)) else jg_CI w 0 mm_X12_longOf [.ref a0, .int (.ofInt x3)] m103 (fun (z108 : Int) (m107 : jg_M) => jg_CI w 0 mm_X12_itemAt [.ref a0, .int (.ofInt x1), .int (.ofInt ((5 * x3) + z108))] m107 (fun (z110 : Int) (m109 : jg_M) => ((0 : Int) ≤ jg_wr z110 ∧ jg_wr z110 < (6240 : Int)) ∧ jg_CI w 0 mm_X12_isOf [.int (.ofInt (m109.1 (a0 + 18) (jg_wr z110))), .int (.ofInt x2)] m109 (fun (z112 : Int) (m111 : jg_M) => ((jg_wr z112 = 0 ∨ jg_wr z112 = 1) ∧ Q z112 m111)))))))))) : jg_CI w 1 mm_X12_isReduced [.ref a0, .int (.ofInt x1), .int (.ofInt x2), .int (.ofInt x3)] σ Q := by
  show jg_G w 1 mm_X12_isReduced 0 [.ref a0, .int (.ofInt x1), .int (.ofInt x2), .int (.ofInt x3)] [] σ (jg_QI Q)
  refine jg_A (pc' := 1) rfl rfl (fun _ _ _ => rfl) ?_
  refine jg_A (pc' := 2) rfl rfl (fun _ _ _ => rfl) ?_
  refine jg_getI (pc' := 5) (bi := 34) rfl h0 (by decide) (Or.inl rfl) rfl rfl ?_
  refine jg_ceq (pc' := 8) rfl rfl (fun hc => ?_) (fun hc => ?_)
  · have h := jg_t h (show jg_wr x3 = jg_wr (σ.1 a0 34) from hc)
    refine jg_A (pc' := 31) rfl rfl (fun _ _ _ => rfl) ?_
    exact jg_zret rfl rfl (by decide) h
  · have h := jg_f h (show ¬ (jg_wr x3 = jg_wr (σ.1 a0 34)) from hc)
    refine jg_A (pc' := 9) rfl rfl (fun _ _ _ => rfl) ?_
    refine jg_getO (pc' := 12) (k := 15) rfl h0 (by decide) rfl rfl ?_
    refine jg_A (pc' := 13) rfl rfl (fun _ _ _ => rfl) ?_
    refine jg_A (pc' := 14) rfl rfl (fun _ _ _ => rfl) ?_
    refine jg_A (pc' := 15) rfl rfl (fun _ _ _ => rfl) ?_
    refine jg_A (pc' := 16) rfl rfl (fun _ _ _ => rfl) ?_
    refine jg_imul (pc' := 17) rfl rfl ?_
    refine jg_A (pc' := 18) rfl rfl (fun _ _ _ => rfl) ?_
    refine jg_A (pc' := 19) rfl rfl (fun _ _ _ => rfl) ?_
    refine jg_calX (M1 := mm_X12_longOf) (hy := 0) (pc' := 22) rfl jm_X12_longOf (by decide) rfl h0 (by decide) ⟨Nat.le_of_ble_eq_true rfl, rfl⟩ (Nat.le_of_ble_eq_true rfl) rfl h (jg_kI (fun z102 m101 h => ?_))
    refine jg_iadd (pc' := 23) rfl rfl ?_
    refine jg_calX (M1 := mm_X12_itemAt) (hy := 0) (pc' := 26) rfl jm_X12_itemAt (by decide) rfl h0 (by decide) ⟨Nat.le_of_ble_eq_true rfl, rfl⟩ (Nat.le_of_ble_eq_true rfl) rfl h (jg_kI (fun z104 m103 h => ?_))
    obtain ⟨hg, h⟩ := h
    refine jg_zald (pc' := 27) rfl (jg_sX12_24 h0) hg rfl ?_
    refine jg_ifne (pc' := 30) rfl rfl (fun hc => ?_) (fun hc => ?_)
    · have h := jg_t h (show jg_wr (m103.1 (a0 + 15) (jg_wr z104)) = 0 from hc)
      refine jg_A (pc' := 31) rfl rfl (fun _ _ _ => rfl) ?_
      exact jg_zret rfl rfl (by decide) h
    · have h := jg_f h (show ¬ (jg_wr (m103.1 (a0 + 15) (jg_wr z104)) = 0) from hc)
      refine jg_A (pc' := 33) rfl rfl (fun _ _ _ => rfl) ?_
      refine jg_getI (pc' := 36) (bi := 38) rfl h0 (by decide) (Or.inl rfl) rfl rfl ?_
      refine jg_A (pc' := 37) rfl rfl (fun _ _ _ => rfl) ?_
      refine jg_cne (pc' := 40) rfl rfl (fun hc => ?_) (fun hc => ?_)
      · have h := jg_t h (show jg_wr (m103.1 a0 38) = 3 from hc)
        refine jg_A (pc' := 41) rfl rfl (fun _ _ _ => rfl) ?_
        refine jg_getO (pc' := 44) (k := 25) rfl h0 (by decide) rfl rfl ?_
        refine jg_A (pc' := 45) rfl rfl (fun _ _ _ => rfl) ?_
        refine jg_getO (pc' := 48) (k := 10) rfl h0 (by decide) rfl rfl ?_
        refine jg_A (pc' := 50) rfl rfl (fun _ _ _ => rfl) ?_
        refine jg_A (pc' := 51) rfl rfl (fun _ _ _ => rfl) ?_
        refine jg_getI (pc' := 54) (bi := 35) rfl h0 (by decide) (Or.inl rfl) rfl rfl ?_
        refine jg_imul (pc' := 55) rfl rfl ?_
        refine jg_A (pc' := 56) rfl rfl (fun _ _ _ => rfl) ?_
        refine jg_iadd (pc' := 57) rfl rfl ?_
        obtain ⟨hg, h⟩ := h
        refine jg_iald (pc' := 58) rfl (jg_sX12_19 h0) hg rfl ?_
        obtain ⟨hg, h⟩ := h
        refine jg_iald (pc' := 59) rfl (jg_sX12_39 h0) hg rfl ?_
        refine jg_goto rfl ?_
        refine jg_A (pc' := 82) rfl rfl (fun _ _ _ => rfl) ?_
        refine jg_calS (M1 := mm_X12_isOf) (hy := 0) (pc' := 85) rfl (Or.inl rfl) jm_X12_isOf (by decide) rfl ⟨Nat.le_of_ble_eq_true rfl, rfl⟩ (Nat.le_of_ble_eq_true rfl) rfl h (jg_kI (fun z106 m105 h => ?_))
        exact jg_zret rfl rfl h.1 h.2
      · have h := jg_f h (show ¬ (jg_wr (m103.1 a0 38) = 3) from hc)
        refine jg_A (pc' := 63) rfl rfl (fun _ _ _ => rfl) ?_
        refine jg_getO (pc' := 66) (k := 18) rfl h0 (by decide) rfl rfl ?_
        refine jg_A (pc' := 67) rfl rfl (fun _ _ _ => rfl) ?_
        refine jg_A (pc' := 68) rfl rfl (fun _ _ _ => rfl) ?_
        refine jg_A (pc' := 69) rfl rfl (fun _ _ _ => rfl) ?_
        refine jg_A (pc' := 70) rfl rfl (fun _ _ _ => rfl) ?_
        refine jg_imul (pc' := 71) rfl rfl ?_
        refine jg_A (pc' := 72) rfl rfl (fun _ _ _ => rfl) ?_
        refine jg_A (pc' := 73) rfl rfl (fun _ _ _ => rfl) ?_
        refine jg_calX (M1 := mm_X12_longOf) (hy := 0) (pc' := 76) rfl jm_X12_longOf (by decide) rfl h0 (by decide) ⟨Nat.le_of_ble_eq_true rfl, rfl⟩ (Nat.le_of_ble_eq_true rfl) rfl h (jg_kI (fun z108 m107 h => ?_))
        refine jg_iadd (pc' := 77) rfl rfl ?_
        refine jg_calX (M1 := mm_X12_itemAt) (hy := 0) (pc' := 80) rfl jm_X12_itemAt (by decide) rfl h0 (by decide) ⟨Nat.le_of_ble_eq_true rfl, rfl⟩ (Nat.le_of_ble_eq_true rfl) rfl h (jg_kI (fun z110 m109 h => ?_))
        obtain ⟨hg, h⟩ := h
        refine jg_iald (pc' := 81) rfl (jg_sX12_27 h0) hg rfl ?_
        refine jg_A (pc' := 82) rfl rfl (fun _ _ _ => rfl) ?_
        refine jg_calS (M1 := mm_X12_isOf) (hy := 0) (pc' := 85) rfl (Or.inl rfl) jm_X12_isOf (by decide) rfl ⟨Nat.le_of_ble_eq_true rfl, rfl⟩ (Nat.le_of_ble_eq_true rfl) rfl h (jg_kI (fun z112 m111 h => ?_))
        exact jg_zret rfl rfl h.1 h.2
set_option maxRecDepth 100000 in
set_option maxHeartbeats 4000000 in
theorem jb_X12_leavesOut_0 {w : Nat} {a0 : Nat} {x1 : Int} {x2 : Int} {x3 : Int} {σ : jg_M} {Q : jg_M → Prop} (h0 : jg_sh a0 = (12, 0)) (h : (if jg_wr (σ.1 a0 36) = 0 then ((0 : Int) ≤ (jg_wr (σ.1 (a0 + 22) (0))) ∧ (jg_wr (σ.1 (a0 + 22) (0))) < (4608 : Int)) ∧ ∀ m101 : jg_M, m101 = jg_sI σ (a0 + 23) (jg_wr (σ.1 (a0 + 22) (0))) (((128 * x1) + (16 * x2)) + x3) → ((0 : Int) ≤ jg_wr (m101.1 a0 36) ∧ jg_wr (m101.1 a0 36) < (2 : Int)) ∧ ((0 : Int) ≤ (jg_wr (m101.1 a0 36)) ∧ (jg_wr (m101.1 a0 36)) < (2 : Int)) ∧ ∀ m102 : jg_M, m102 = jg_sI m101 (a0 + 22) (jg_wr (m101.1 a0 36)) ((m101.1 (a0 + 22) (jg_wr (m101.1 a0 36))) + 1) → Q m102 else ((0 : Int) ≤ jg_wr (σ.1 a0 36) ∧ jg_wr (σ.1 a0 36) < (2 : Int)) ∧ ((0 : Int) ≤ (jg_wr (σ.1 a0 36)) ∧ (jg_wr (σ.1 a0 36)) < (2 : Int)) ∧ ∀ m103 : jg_M, m103 = jg_sI σ (a0 + 22) (jg_wr (σ.1 a0 36)) ((σ.1 (a0 + 22) (jg_wr (σ.1 a0 36))) + 1) → Q m103)) : jg_CV w 0 mm_X12_leavesOut [.ref a0, .int (.ofInt x1), .int (.ofInt x2), .int (.ofInt x3)] σ Q := by
  show jg_G w 0 mm_X12_leavesOut 0 [.ref a0, .int (.ofInt x1), .int (.ofInt x2), .int (.ofInt x3)] [] σ (jg_QV Q)
  refine jg_A (pc' := 1) rfl rfl (fun _ _ _ => rfl) ?_
  refine jg_getI (pc' := 4) (bi := 36) rfl h0 (by decide) (Or.inl rfl) rfl rfl ?_
  refine jg_ifne (pc' := 7) rfl rfl (fun hc => ?_) (fun hc => ?_)
  · have h := jg_t h (show jg_wr (σ.1 a0 36) = 0 from hc)
    refine jg_A (pc' := 8) rfl rfl (fun _ _ _ => rfl) ?_
    refine jg_getO (pc' := 11) (k := 23) rfl h0 (by decide) rfl rfl ?_
    refine jg_A (pc' := 12) rfl rfl (fun _ _ _ => rfl) ?_
    refine jg_getO (pc' := 15) (k := 22) rfl h0 (by decide) rfl rfl ?_
    refine jg_A (pc' := 16) rfl rfl (fun _ _ _ => rfl) ?_
    refine jg_ialdK (pc' := 17) (xi := 0) rfl (jg_sX12_31 h0) (by decide) (by decide) rfl ?_
    refine jg_A (pc' := 20) rfl rfl (fun _ _ _ => rfl) ?_
    refine jg_A (pc' := 21) rfl rfl (fun _ _ _ => rfl) ?_
    refine jg_imul (pc' := 22) rfl rfl ?_
    refine jg_A (pc' := 24) rfl rfl (fun _ _ _ => rfl) ?_
    refine jg_A (pc' := 25) rfl rfl (fun _ _ _ => rfl) ?_
    refine jg_imul (pc' := 26) rfl rfl ?_
    refine jg_iadd (pc' := 27) rfl rfl ?_
    refine jg_A (pc' := 28) rfl rfl (fun _ _ _ => rfl) ?_
    refine jg_iadd (pc' := 29) rfl rfl ?_
    obtain ⟨hg, h⟩ := h
    refine jg_iast (pc' := 30) rfl (jg_sX12_32 h0) hg rfl (fun m101 hm101 => ?_)
    have h := h m101 hm101
    refine jg_A (pc' := 31) rfl rfl (fun _ _ _ => rfl) ?_
    refine jg_getO (pc' := 34) (k := 22) rfl h0 (by decide) rfl rfl ?_
    refine jg_A (pc' := 35) rfl rfl (fun _ _ _ => rfl) ?_
    refine jg_getI (pc' := 38) (bi := 36) rfl h0 (by decide) (Or.inl rfl) rfl rfl ?_
    refine jg_A (pc' := 39) rfl rfl (fun _ _ _ => rfl) ?_
    obtain ⟨hg, h⟩ := h
    refine jg_iald (pc' := 40) rfl (jg_sX12_31 h0) hg rfl ?_
    refine jg_A (pc' := 41) rfl rfl (fun _ _ _ => rfl) ?_
    refine jg_iadd (pc' := 42) rfl rfl ?_
    obtain ⟨hg, h⟩ := h
    refine jg_iast (pc' := 43) rfl (jg_sX12_31 h0) hg rfl (fun m102 hm102 => ?_)
    have h := h m102 hm102
    exact jg_vret rfl rfl h
  · have h := jg_f h (show ¬ (jg_wr (σ.1 a0 36) = 0) from hc)
    refine jg_A (pc' := 31) rfl rfl (fun _ _ _ => rfl) ?_
    refine jg_getO (pc' := 34) (k := 22) rfl h0 (by decide) rfl rfl ?_
    refine jg_A (pc' := 35) rfl rfl (fun _ _ _ => rfl) ?_
    refine jg_getI (pc' := 38) (bi := 36) rfl h0 (by decide) (Or.inl rfl) rfl rfl ?_
    refine jg_A (pc' := 39) rfl rfl (fun _ _ _ => rfl) ?_
    obtain ⟨hg, h⟩ := h
    refine jg_iald (pc' := 40) rfl (jg_sX12_31 h0) hg rfl ?_
    refine jg_A (pc' := 41) rfl rfl (fun _ _ _ => rfl) ?_
    refine jg_iadd (pc' := 42) rfl rfl ?_
    obtain ⟨hg, h⟩ := h
    refine jg_iast (pc' := 43) rfl (jg_sX12_31 h0) hg rfl (fun m103 hm103 => ?_)
    have h := h m103 hm103
    exact jg_vret rfl rfl h
set_option maxRecDepth 100000 in
set_option maxHeartbeats 4000000 in
theorem jb_X12_actionOf_0 {w : Nat} {a0 : Nat} {x1 : Int} {x2 : Int} {σ : jg_M} {Q : Int → jg_M → Prop} (h0 : jg_sh a0 = (12, 0)) (h : ((0 : Int) ≤ jg_wr (σ.1 a0 35) ∧ jg_wr (σ.1 a0 35) < (2 : Int)) ∧ ∀ t101 : Int, t101 = ((σ.1 (a0 + 5) (jg_wr (σ.1 a0 35))) - 1) → jg_GI w 2 mm_X12_actionOf 15 [.ref a0, .int (.ofInt x1), .int (.ofInt x2), .int (.ofInt (-1)), .int (.ofInt t101), mj_U, mj_U, mj_U, mj_U, mj_U, mj_U] σ Q) : jg_CI w 2 mm_X12_actionOf [.ref a0, .int (.ofInt x1), .int (.ofInt x2)] σ Q := by
  show jg_G w 2 mm_X12_actionOf 0 [.ref a0, .int (.ofInt x1), .int (.ofInt x2), mj_U, mj_U, mj_U, mj_U, mj_U, mj_U, mj_U, mj_U] [] σ (jg_QI Q)
  refine jg_A (pc' := 1) rfl rfl (fun _ _ _ => rfl) ?_
  refine jg_A (pc' := 2) (ls' := [.ref a0, .int (.ofInt x1), .int (.ofInt x2), .int (.ofInt (-1)), mj_U, mj_U, mj_U, mj_U, mj_U, mj_U, mj_U]) rfl rfl (fun _ _ _ => rfl) ?_
  refine jg_A (pc' := 3) rfl rfl (fun _ _ _ => rfl) ?_
  refine jg_getO (pc' := 6) (k := 5) rfl h0 (by decide) rfl rfl ?_
  refine jg_A (pc' := 7) rfl rfl (fun _ _ _ => rfl) ?_
  refine jg_getI (pc' := 10) (bi := 35) rfl h0 (by decide) (Or.inl rfl) rfl rfl ?_
  obtain ⟨hg, h⟩ := h
  refine jg_iald (pc' := 11) rfl (jg_sX12_14 h0) hg rfl ?_
  refine jg_A (pc' := 12) rfl rfl (fun _ _ _ => rfl) ?_
  refine jg_isub (pc' := 13) rfl rfl ?_
  refine jg_nm (F := fun t101 => jg_G w 2 mm_X12_actionOf 13 [.ref a0, .int (.ofInt x1), .int (.ofInt x2), .int (.ofInt (-1)), mj_U, mj_U, mj_U, mj_U, mj_U, mj_U, mj_U] [.int (.ofInt t101)] σ (jg_QI Q)) ((σ.1 (a0 + 5) (jg_wr (σ.1 a0 35))) - 1) (fun t101 ht101 => ?_)
  have h := h t101 ht101
  refine jg_A (pc' := 15) (ls' := [.ref a0, .int (.ofInt x1), .int (.ofInt x2), .int (.ofInt (-1)), .int (.ofInt t101), mj_U, mj_U, mj_U, mj_U, mj_U, mj_U]) rfl rfl (fun _ _ _ => rfl) ?_
  exact h
set_option maxRecDepth 100000 in
set_option maxHeartbeats 4000000 in
theorem jb_X12_actionOf_15 {w : Nat} {a0 : Nat} {x1 : Int} {x2 : Int} {x3 : Int} {x4 : Int} {u5 : Value} {u6 : Value} {u7 : Value} {u8 : Value} {u9 : Value} {u10 : Value} {σ : jg_M} {Q : Int → jg_M → Prop} (h0 : jg_sh a0 = (12, 0)) (h : (if jg_wr x4 < 0 then ((0 : Int) ≤ jg_wr (σ.1 a0 35) ∧ jg_wr (σ.1 a0 35) < (2 : Int)) ∧ (if jg_wr x2 = jg_wr (σ.1 (a0 + 3) (jg_wr (σ.1 a0 35))) then ((0 : Int) ≤ jg_wr (σ.1 a0 35) ∧ jg_wr (σ.1 a0 35) < (2 : Int)) ∧ jg_CI w 0 mm_X12_itemAt [.ref a0, .int (.ofInt x1), .int (.ofInt ((5 * (σ.1 (a0 + 5) (jg_wr (σ.1 a0 35)))) + 1))] σ (fun (z102 : Int) (m101 : jg_M) => ((0 : Int) ≤ jg_wr z102 ∧ jg_wr z102 < (6240 : Int)) ∧ (if jg_wr (m101.1 (a0 + 15) (jg_wr z102)) = 0 then jg_GI w 2 mm_X12_actionOf 87 [.ref a0, .int (.ofInt x1), .int (.ofInt x2), .int (.ofInt x3), .int (.ofInt x4), u5, u6, u7, u8, u9, u10] m101 Q else jg_G w 2 mm_X12_actionOf 88 [.ref a0, .int (.ofInt x1), .int (.ofInt x2), .int (.ofInt x3), .int (.ofInt x4), u5, u6, u7, u8, u9, u10] [.int (.ofInt 1)] m101 (jg_QI Q))) else jg_GI w 2 mm_X12_actionOf 87 [.ref a0, .int (.ofInt x1), .int (.ofInt x2), .int (.ofInt x3), .int (.ofInt x4), u5, u6, u7, u8, u9, u10] σ Q) else jg_CI w 1 mm_X12_isReduced [.ref a0, .int (.ofInt x1), .int (.ofInt x2), .int (.ofInt x4)] σ (fun (z104 : Int) (m103 : jg_M) => (if jg_wr z104 = 0 then jg_G w 2 mm_X12_actionOf 37 [.ref a0, .int (.ofInt x1), .int (.ofInt x2), .int (.ofInt x3), .int (.ofInt x4), u5, u6, u7, u8, u9, u10] [.int (.ofInt x3)] m103 (jg_QI Q) else jg_G w 2 mm_X12_actionOf 37 [.ref a0, .int (.ofInt x1), .int (.ofInt x2), .int (.ofInt x3), .int (.ofInt x4), u5, u6, u7, u8, u9, u10] [.int (.ofInt x4)] m103 (jg_QI Q))))) : jg_GI w 2 mm_X12_actionOf 15 [.ref a0, .int (.ofInt x1), .int (.ofInt x2), .int (.ofInt x3), .int (.ofInt x4), u5, u6, u7, u8, u9, u10] σ Q := by
  show jg_G w 2 mm_X12_actionOf 15 [.ref a0, .int (.ofInt x1), .int (.ofInt x2), .int (.ofInt x3), .int (.ofInt x4), u5, u6, u7, u8, u9, u10] [] σ (jg_QI Q)
  refine jg_A (pc' := 17) rfl rfl (fun _ _ _ => rfl) ?_
  refine jg_iflt (pc' := 20) rfl rfl (fun hc => ?_) (fun hc => ?_)
  · have h := jg_t h (show jg_wr x4 < 0 from hc)
    refine jg_A (pc' := 45) rfl rfl (fun _ _ _ => rfl) ?_
    refine jg_A (pc' := 46) rfl rfl (fun _ _ _ => rfl) ?_
    refine jg_getO (pc' := 49) (k := 3) rfl h0 (by decide) rfl rfl ?_
    refine jg_A (pc' := 50) rfl rfl (fun _ _ _ => rfl) ?_
    refine jg_getI (pc' := 53) (bi := 35) rfl h0 (by decide) (Or.inl rfl) rfl rfl ?_
    obtain ⟨hg, h⟩ := h
    refine jg_iald (pc' := 54) rfl (jg_sX12_12 h0) hg rfl ?_
    refine jg_cne (pc' := 57) rfl rfl (fun hc => ?_) (fun hc => ?_)
    · have h := jg_t h (show jg_wr x2 = jg_wr (σ.1 (a0 + 3) (jg_wr (σ.1 a0 35))) from hc)
      refine jg_A (pc' := 58) rfl rfl (fun _ _ _ => rfl) ?_
      refine jg_getO (pc' := 61) (k := 15) rfl h0 (by decide) rfl rfl ?_
      refine jg_A (pc' := 62) rfl rfl (fun _ _ _ => rfl) ?_
      refine jg_A (pc' := 63) rfl rfl (fun _ _ _ => rfl) ?_
      refine jg_A (pc' := 64) rfl rfl (fun _ _ _ => rfl) ?_
      refine jg_A (pc' := 65) rfl rfl (fun _ _ _ => rfl) ?_
      refine jg_getO (pc' := 68) (k := 5) rfl h0 (by decide) rfl rfl ?_
      refine jg_A (pc' := 69) rfl rfl (fun _ _ _ => rfl) ?_
      refine jg_getI (pc' := 72) (bi := 35) rfl h0 (by decide) (Or.inl rfl) rfl rfl ?_
      obtain ⟨hg, h⟩ := h
      refine jg_iald (pc' := 73) rfl (jg_sX12_14 h0) hg rfl ?_
      refine jg_imul (pc' := 74) rfl rfl ?_
      refine jg_A (pc' := 75) rfl rfl (fun _ _ _ => rfl) ?_
      refine jg_iadd (pc' := 76) rfl rfl ?_
      refine jg_calX (M1 := mm_X12_itemAt) (hy := 0) (pc' := 79) rfl jm_X12_itemAt (by decide) rfl h0 (by decide) ⟨Nat.le_of_ble_eq_true rfl, rfl⟩ (Nat.le_of_ble_eq_true rfl) rfl h (jg_kI (fun z102 m101 h => ?_))
      obtain ⟨hg, h⟩ := h
      refine jg_zald (pc' := 80) rfl (jg_sX12_24 h0) hg rfl ?_
      refine jg_ifeq (pc' := 83) rfl rfl (fun hc => ?_) (fun hc => ?_)
      · have h := jg_t h (show jg_wr (m101.1 (a0 + 15) (jg_wr z102)) = 0 from hc)
        exact h
      · have h := jg_f h (show ¬ (jg_wr (m101.1 (a0 + 15) (jg_wr z102)) = 0) from hc)
        refine jg_A (pc' := 84) rfl rfl (fun _ _ _ => rfl) ?_
        refine jg_goto rfl ?_
        exact h
    · have h := jg_f h (show ¬ (jg_wr x2 = jg_wr (σ.1 (a0 + 3) (jg_wr (σ.1 a0 35)))) from hc)
      exact h
  · have h := jg_f h (show ¬ (jg_wr x4 < 0) from hc)
    refine jg_A (pc' := 21) rfl rfl (fun _ _ _ => rfl) ?_
    refine jg_A (pc' := 22) rfl rfl (fun _ _ _ => rfl) ?_
    refine jg_A (pc' := 23) rfl rfl (fun _ _ _ => rfl) ?_
    refine jg_A (pc' := 25) rfl rfl (fun _ _ _ => rfl) ?_
    refine jg_calX (M1 := mm_X12_isReduced) (hy := 1) (pc' := 28) rfl jm_X12_isReduced (by decide) rfl h0 (by decide) ⟨Nat.le_of_ble_eq_true rfl, rfl⟩ (Nat.le_of_ble_eq_true rfl) rfl h (jg_kI (fun z104 m103 h => ?_))
    refine jg_ifeq (pc' := 31) rfl rfl (fun hc => ?_) (fun hc => ?_)
    · have h := jg_t h (show jg_wr z104 = 0 from hc)
      refine jg_A (pc' := 37) rfl rfl (fun _ _ _ => rfl) ?_
      exact h
    · have h := jg_f h (show ¬ (jg_wr z104 = 0) from hc)
      refine jg_A (pc' := 33) rfl rfl (fun _ _ _ => rfl) ?_
      refine jg_goto rfl ?_
      exact h
set_option maxRecDepth 100000 in
set_option maxHeartbeats 4000000 in
theorem jb_X12_actionOf_87 {w : Nat} {a0 : Nat} {x1 : Int} {x2 : Int} {x3 : Int} {u4 : Value} {u5 : Value} {u6 : Value} {u7 : Value} {u8 : Value} {u9 : Value} {u10 : Value} {σ : jg_M} {Q : Int → jg_M → Prop} (h0 : jg_sh a0 = (12, 0)) (h : jg_G w 2 mm_X12_actionOf 88 [.ref a0, .int (.ofInt x1), .int (.ofInt x2), .int (.ofInt x3), u4, u5, u6, u7, u8, u9, u10] [.int (.ofInt 0)] σ (jg_QI Q)) : jg_GI w 2 mm_X12_actionOf 87 [.ref a0, .int (.ofInt x1), .int (.ofInt x2), .int (.ofInt x3), u4, u5, u6, u7, u8, u9, u10] σ Q := by
  show jg_G w 2 mm_X12_actionOf 87 [.ref a0, .int (.ofInt x1), .int (.ofInt x2), .int (.ofInt x3), u4, u5, u6, u7, u8, u9, u10] [] σ (jg_QI Q)
  refine jg_A (pc' := 88) rfl rfl (fun _ _ _ => rfl) ?_
  exact h
set_option maxRecDepth 100000 in
set_option maxHeartbeats 4000000 in
theorem jb_X12_actionOf_88 {w : Nat} {a0 : Nat} {x1 : Int} {x2 : Int} {x3 : Int} {u4 : Value} {u5 : Value} {u6 : Value} {u7 : Value} {u8 : Value} {u9 : Value} {u10 : Value} {y0 : Int} {σ : jg_M} {Q : Int → jg_M → Prop} (h0 : jg_sh a0 = (12, 0)) (h : ((0 : Int) ≤ jg_wr (σ.1 a0 35) ∧ jg_wr (σ.1 a0 35) < (2 : Int)) ∧ (if jg_wr (σ.1 (a0 + 3) (jg_wr (σ.1 a0 35))) ≤ jg_wr x2 then jg_G w 2 mm_X12_actionOf 118 [.ref a0, .int (.ofInt x1), .int (.ofInt x2), .int (.ofInt x3), .int (.ofInt y0), u5, u6, u7, u8, u9, u10] [.int (.ofInt (-1))] σ (jg_QI Q) else jg_CI w 0 mm_X12_moveAt [.ref a0, .int (.ofInt x1), .int (.ofInt x2)] σ (fun (z102 : Int) (m101 : jg_M) => ((0 : Int) ≤ jg_wr z102 ∧ jg_wr z102 < (1152 : Int)) ∧ jg_G w 2 mm_X12_actionOf 118 [.ref a0, .int (.ofInt x1), .int (.ofInt x2), .int (.ofInt x3), .int (.ofInt y0), u5, u6, u7, u8, u9, u10] [.int (.ofInt (m101.1 (a0 + 16) (jg_wr z102)))] m101 (jg_QI Q)))) : jg_G w 2 mm_X12_actionOf 88 [.ref a0, .int (.ofInt x1), .int (.ofInt x2), .int (.ofInt x3), u4, u5, u6, u7, u8, u9, u10] [.int (.ofInt y0)] σ (jg_QI Q) := by
  show jg_G w 2 mm_X12_actionOf 88 [.ref a0, .int (.ofInt x1), .int (.ofInt x2), .int (.ofInt x3), u4, u5, u6, u7, u8, u9, u10] [.int (.ofInt y0)] σ (jg_QI Q)
  refine jg_A (pc' := 90) (ls' := [.ref a0, .int (.ofInt x1), .int (.ofInt x2), .int (.ofInt x3), .int (.ofInt y0), u5, u6, u7, u8, u9, u10]) rfl rfl (fun _ _ _ => rfl) ?_
  refine jg_A (pc' := 91) rfl rfl (fun _ _ _ => rfl) ?_
  refine jg_A (pc' := 92) rfl rfl (fun _ _ _ => rfl) ?_
  refine jg_getO (pc' := 95) (k := 3) rfl h0 (by decide) rfl rfl ?_
  refine jg_A (pc' := 96) rfl rfl (fun _ _ _ => rfl) ?_
  refine jg_getI (pc' := 99) (bi := 35) rfl h0 (by decide) (Or.inl rfl) rfl rfl ?_
  obtain ⟨hg, h⟩ := h
  refine jg_iald (pc' := 100) rfl (jg_sX12_12 h0) hg rfl ?_
  refine jg_cge (pc' := 103) rfl rfl (fun hc => ?_) (fun hc => ?_)
  · have h := jg_t h (show jg_wr (σ.1 (a0 + 3) (jg_wr (σ.1 a0 35))) ≤ jg_wr x2 from hc)
    refine jg_A (pc' := 118) rfl rfl (fun _ _ _ => rfl) ?_
    exact h
  · have h := jg_f h (show ¬ (jg_wr (σ.1 (a0 + 3) (jg_wr (σ.1 a0 35))) ≤ jg_wr x2) from hc)
    refine jg_A (pc' := 104) rfl rfl (fun _ _ _ => rfl) ?_
    refine jg_getO (pc' := 107) (k := 16) rfl h0 (by decide) rfl rfl ?_
    refine jg_A (pc' := 108) rfl rfl (fun _ _ _ => rfl) ?_
    refine jg_A (pc' := 109) rfl rfl (fun _ _ _ => rfl) ?_
    refine jg_A (pc' := 110) rfl rfl (fun _ _ _ => rfl) ?_
    refine jg_calX (M1 := mm_X12_moveAt) (hy := 0) (pc' := 113) rfl jm_X12_moveAt (by decide) rfl h0 (by decide) ⟨Nat.le_of_ble_eq_true rfl, rfl⟩ (Nat.le_of_ble_eq_true rfl) rfl h (jg_kI (fun z102 m101 h => ?_))
    obtain ⟨hg, h⟩ := h
    refine jg_iald (pc' := 114) rfl (jg_sX12_25 h0) hg rfl ?_
    refine jg_goto rfl ?_
    exact h
set_option maxRecDepth 100000 in
set_option maxHeartbeats 4000000 in
theorem jb_X12_actionOf_37 {w : Nat} {a0 : Nat} {x1 : Int} {x2 : Int} {u3 : Value} {x4 : Int} {u5 : Value} {u6 : Value} {u7 : Value} {u8 : Value} {u9 : Value} {u10 : Value} {y0 : Int} {σ : jg_M} {Q : Int → jg_M → Prop} (h0 : jg_sh a0 = (12, 0)) (h : jg_GI w 2 mm_X12_actionOf 15 [.ref a0, .int (.ofInt x1), .int (.ofInt x2), .int (.ofInt y0), .int (.ofInt (x4 + (-1))), u5, u6, u7, u8, u9, u10] σ Q) : jg_G w 2 mm_X12_actionOf 37 [.ref a0, .int (.ofInt x1), .int (.ofInt x2), u3, .int (.ofInt x4), u5, u6, u7, u8, u9, u10] [.int (.ofInt y0)] σ (jg_QI Q) := by
  show jg_G w 2 mm_X12_actionOf 37 [.ref a0, .int (.ofInt x1), .int (.ofInt x2), u3, .int (.ofInt x4), u5, u6, u7, u8, u9, u10] [.int (.ofInt y0)] σ (jg_QI Q)
  refine jg_A (pc' := 38) (ls' := [.ref a0, .int (.ofInt x1), .int (.ofInt x2), .int (.ofInt y0), .int (.ofInt x4), u5, u6, u7, u8, u9, u10]) rfl rfl (fun _ _ _ => rfl) ?_
  refine jg_iinc (pc' := 41) (ls' := [.ref a0, .int (.ofInt x1), .int (.ofInt x2), .int (.ofInt y0), .int (.ofInt (x4 + (-1))), u5, u6, u7, u8, u9, u10]) rfl rfl rfl rfl ?_
  refine jg_goto rfl ?_
  exact h
set_option maxRecDepth 100000 in
set_option maxHeartbeats 4000000 in
theorem jb_X12_actionOf_118 {w : Nat} {a0 : Nat} {x1 : Int} {x2 : Int} {x3 : Int} {x4 : Int} {u5 : Value} {u6 : Value} {u7 : Value} {u8 : Value} {u9 : Value} {u10 : Value} {y0 : Int} {σ : jg_M} {Q : Int → jg_M → Prop} (h0 : jg_sh a0 = (12, 0)) (h : (if jg_wr x4 = 0 then (if jg_wr x3 < 0 then (if jg_wr y0 < 0 then jg_G w 2 mm_X12_actionOf 147 [.ref a0, .int (.ofInt x1), .int (.ofInt x2), .int (.ofInt x3), .int (.ofInt x4), .int (.ofInt y0), u6, u7, u8, u9, u10] [.int (.ofInt 0)] σ (jg_QI Q) else jg_G w 2 mm_X12_actionOf 147 [.ref a0, .int (.ofInt x1), .int (.ofInt x2), .int (.ofInt x3), .int (.ofInt x4), .int (.ofInt y0), u6, u7, u8, u9, u10] [.int (.ofInt 1)] σ (jg_QI Q)) else jg_G w 2 mm_X12_actionOf 147 [.ref a0, .int (.ofInt x1), .int (.ofInt x2), .int (.ofInt x3), .int (.ofInt x4), .int (.ofInt y0), u6, u7, u8, u9, u10] [.int (.ofInt 2)] σ (jg_QI Q)) else jg_G w 2 mm_X12_actionOf 147 [.ref a0, .int (.ofInt x1), .int (.ofInt x2), .int (.ofInt x3), .int (.ofInt x4), .int (.ofInt y0), u6, u7, u8, u9, u10] [.int (.ofInt 3)] σ (jg_QI Q))) : jg_G w 2 mm_X12_actionOf 118 [.ref a0, .int (.ofInt x1), .int (.ofInt x2), .int (.ofInt x3), .int (.ofInt x4), u5, u6, u7, u8, u9, u10] [.int (.ofInt y0)] σ (jg_QI Q) := by
  show jg_G w 2 mm_X12_actionOf 118 [.ref a0, .int (.ofInt x1), .int (.ofInt x2), .int (.ofInt x3), .int (.ofInt x4), u5, u6, u7, u8, u9, u10] [.int (.ofInt y0)] σ (jg_QI Q)
  refine jg_A (pc' := 120) (ls' := [.ref a0, .int (.ofInt x1), .int (.ofInt x2), .int (.ofInt x3), .int (.ofInt x4), .int (.ofInt y0), u6, u7, u8, u9, u10]) rfl rfl (fun _ _ _ => rfl) ?_
  refine jg_A (pc' := 122) rfl rfl (fun _ _ _ => rfl) ?_
  refine jg_ifeq (pc' := 125) rfl rfl (fun hc => ?_) (fun hc => ?_)
  · have h := jg_t h (show jg_wr x4 = 0 from hc)
    refine jg_A (pc' := 130) rfl rfl (fun _ _ _ => rfl) ?_
    refine jg_iflt (pc' := 133) rfl rfl (fun hc => ?_) (fun hc => ?_)
    · have h := jg_t h (show jg_wr x3 < 0 from hc)
      refine jg_A (pc' := 139) rfl rfl (fun _ _ _ => rfl) ?_
      refine jg_iflt (pc' := 142) rfl rfl (fun hc => ?_) (fun hc => ?_)
      · have h := jg_t h (show jg_wr y0 < 0 from hc)
        refine jg_A (pc' := 147) rfl rfl (fun _ _ _ => rfl) ?_
        exact h
      · have h := jg_f h (show ¬ (jg_wr y0 < 0) from hc)
        refine jg_A (pc' := 143) rfl rfl (fun _ _ _ => rfl) ?_
        refine jg_goto rfl ?_
        exact h
    · have h := jg_f h (show ¬ (jg_wr x3 < 0) from hc)
      refine jg_A (pc' := 134) rfl rfl (fun _ _ _ => rfl) ?_
      refine jg_goto rfl ?_
      exact h
  · have h := jg_f h (show ¬ (jg_wr x4 = 0) from hc)
    refine jg_A (pc' := 126) rfl rfl (fun _ _ _ => rfl) ?_
    refine jg_goto rfl ?_
    exact h
set_option maxRecDepth 100000 in
set_option maxHeartbeats 4000000 in
theorem jb_X12_actionOf_147 {w : Nat} {a0 : Nat} {x1 : Int} {x2 : Int} {x3 : Int} {x4 : Int} {x5 : Int} {u6 : Value} {u7 : Value} {u8 : Value} {u9 : Value} {u10 : Value} {y0 : Int} {σ : jg_M} {Q : Int → jg_M → Prop} (h0 : jg_sh a0 = (12, 0)) (h : (if jg_wr y0 = 2 then (if jg_wr x5 < 0 then jg_GI w 2 mm_X12_actionOf 276 [.ref a0, .int (.ofInt x1), .int (.ofInt x2), .int (.ofInt x3), .int (.ofInt x4), .int (.ofInt x5), .int (.ofInt y0), .int (.ofInt x4), u8, u9, u10] σ Q else jg_CI w 1 mm_X12_ruleRank [.ref a0, .int (.ofInt x3)] σ (fun (z102 : Int) (m101 : jg_M) => jg_CI w 0 mm_X12_rankOf [.ref a0, .int (.ofInt x2)] m101 (fun (z104 : Int) (m103 : jg_M) => (if jg_wr (m103.1 a0 38) = 2 then jg_G w 2 mm_X12_actionOf 204 [.ref a0, .int (.ofInt x1), .int (.ofInt x2), .int (.ofInt x3), .int (.ofInt x4), .int (.ofInt x5), .int (.ofInt y0), .int (.ofInt x4), .int (.ofInt z102), .int (.ofInt z104), u10] [.int (.ofInt 1)] m103 (jg_QI Q) else ((0 : Int) ≤ jg_wr ((7 * (m103.1 a0 35)) + x2) ∧ jg_wr ((7 * (m103.1 a0 35)) + x2) < (14 : Int)) ∧ jg_G w 2 mm_X12_actionOf 204 [.ref a0, .int (.ofInt x1), .int (.ofInt x2), .int (.ofInt x3), .int (.ofInt x4), .int (.ofInt x5), .int (.ofInt y0), .int (.ofInt x4), .int (.ofInt z102), .int (.ofInt z104), u10] [.int (.ofInt (m103.1 (a0 + 9) (jg_wr ((7 * (m103.1 a0 35)) + x2))))] m103 (jg_QI Q))))) else jg_GI w 2 mm_X12_actionOf 276 [.ref a0, .int (.ofInt x1), .int (.ofInt x2), .int (.ofInt x3), .int (.ofInt x4), .int (.ofInt x5), .int (.ofInt y0), .int (.ofInt x4), u8, u9, u10] σ Q)) : jg_G w 2 mm_X12_actionOf 147 [.ref a0, .int (.ofInt x1), .int (.ofInt x2), .int (.ofInt x3), .int (.ofInt x4), .int (.ofInt x5), u6, u7, u8, u9, u10] [.int (.ofInt y0)] σ (jg_QI Q) := by
  show jg_G w 2 mm_X12_actionOf 147 [.ref a0, .int (.ofInt x1), .int (.ofInt x2), .int (.ofInt x3), .int (.ofInt x4), .int (.ofInt x5), u6, u7, u8, u9, u10] [.int (.ofInt y0)] σ (jg_QI Q)
  refine jg_A (pc' := 149) (ls' := [.ref a0, .int (.ofInt x1), .int (.ofInt x2), .int (.ofInt x3), .int (.ofInt x4), .int (.ofInt x5), .int (.ofInt y0), u7, u8, u9, u10]) rfl rfl (fun _ _ _ => rfl) ?_
  refine jg_A (pc' := 151) rfl rfl (fun _ _ _ => rfl) ?_
  refine jg_A (pc' := 153) (ls' := [.ref a0, .int (.ofInt x1), .int (.ofInt x2), .int (.ofInt x3), .int (.ofInt x4), .int (.ofInt x5), .int (.ofInt y0), .int (.ofInt x4), u8, u9, u10]) rfl rfl (fun _ _ _ => rfl) ?_
  refine jg_A (pc' := 155) rfl rfl (fun _ _ _ => rfl) ?_
  refine jg_A (pc' := 156) rfl rfl (fun _ _ _ => rfl) ?_
  refine jg_cne (pc' := 159) rfl rfl (fun hc => ?_) (fun hc => ?_)
  · have h := jg_t h (show jg_wr y0 = 2 from hc)
    refine jg_A (pc' := 161) rfl rfl (fun _ _ _ => rfl) ?_
    refine jg_iflt (pc' := 164) rfl rfl (fun hc => ?_) (fun hc => ?_)
    · have h := jg_t h (show jg_wr x5 < 0 from hc)
      exact h
    · have h := jg_f h (show ¬ (jg_wr x5 < 0) from hc)
      refine jg_A (pc' := 165) rfl rfl (fun _ _ _ => rfl) ?_
      refine jg_A (pc' := 166) rfl rfl (fun _ _ _ => rfl) ?_
      refine jg_calX (M1 := mm_X12_ruleRank) (hy := 1) (pc' := 169) rfl jm_X12_ruleRank (by decide) rfl h0 (by decide) ⟨Nat.le_of_ble_eq_true rfl, rfl⟩ (Nat.le_of_ble_eq_true rfl) rfl h (jg_kI (fun z102 m101 h => ?_))
      refine jg_A (pc' := 171) (ls' := [.ref a0, .int (.ofInt x1), .int (.ofInt x2), .int (.ofInt x3), .int (.ofInt x4), .int (.ofInt x5), .int (.ofInt y0), .int (.ofInt x4), .int (.ofInt z102), u9, u10]) rfl rfl (fun _ _ _ => rfl) ?_
      refine jg_A (pc' := 172) rfl rfl (fun _ _ _ => rfl) ?_
      refine jg_A (pc' := 173) rfl rfl (fun _ _ _ => rfl) ?_
      refine jg_calX (M1 := mm_X12_rankOf) (hy := 0) (pc' := 176) rfl jm_X12_rankOf (by decide) rfl h0 (by decide) ⟨Nat.le_of_ble_eq_true rfl, rfl⟩ (Nat.le_of_ble_eq_true rfl) rfl h (jg_kI (fun z104 m103 h => ?_))
      refine jg_A (pc' := 178) (ls' := [.ref a0, .int (.ofInt x1), .int (.ofInt x2), .int (.ofInt x3), .int (.ofInt x4), .int (.ofInt x5), .int (.ofInt y0), .int (.ofInt x4), .int (.ofInt z102), .int (.ofInt z104), u10]) rfl rfl (fun _ _ _ => rfl) ?_
      refine jg_A (pc' := 179) rfl rfl (fun _ _ _ => rfl) ?_
      refine jg_getI (pc' := 182) (bi := 38) rfl h0 (by decide) (Or.inl rfl) rfl rfl ?_
      refine jg_A (pc' := 183) rfl rfl (fun _ _ _ => rfl) ?_
      refine jg_cne (pc' := 186) rfl rfl (fun hc => ?_) (fun hc => ?_)
      · have h := jg_t h (show jg_wr (m103.1 a0 38) = 2 from hc)
        refine jg_A (pc' := 187) rfl rfl (fun _ _ _ => rfl) ?_
        refine jg_goto rfl ?_
        exact h
      · have h := jg_f h (show ¬ (jg_wr (m103.1 a0 38) = 2) from hc)
        refine jg_A (pc' := 191) rfl rfl (fun _ _ _ => rfl) ?_
        refine jg_getO (pc' := 194) (k := 9) rfl h0 (by decide) rfl rfl ?_
        refine jg_A (pc' := 196) rfl rfl (fun _ _ _ => rfl) ?_
        refine jg_A (pc' := 197) rfl rfl (fun _ _ _ => rfl) ?_
        refine jg_getI (pc' := 200) (bi := 35) rfl h0 (by decide) (Or.inl rfl) rfl rfl ?_
        refine jg_imul (pc' := 201) rfl rfl ?_
        refine jg_A (pc' := 202) rfl rfl (fun _ _ _ => rfl) ?_
        refine jg_iadd (pc' := 203) rfl rfl ?_
        obtain ⟨hg, h⟩ := h
        refine jg_iald (pc' := 204) rfl (jg_sX12_18 h0) hg rfl ?_
        exact h
  · have h := jg_f h (show ¬ (jg_wr y0 = 2) from hc)
    exact h
set_option maxRecDepth 100000 in
set_option maxHeartbeats 4000000 in
theorem jb_X12_actionOf_276 {w : Nat} {a0 : Nat} {x1 : Int} {x2 : Int} {x3 : Int} {u4 : Value} {x5 : Int} {x6 : Int} {x7 : Int} {u8 : Value} {u9 : Value} {u10 : Value} {σ : jg_M} {Q : Int → jg_M → Prop} (h0 : jg_sh a0 = (12, 0)) (h : jg_GI w 2 mm_X12_actionOf 279 [.ref a0, .int (.ofInt x1), .int (.ofInt x2), .int (.ofInt x3), u4, .int (.ofInt x5), .int (.ofInt x6), .int (.ofInt x7), .int (.ofInt 0), u9, u10] σ Q) : jg_GI w 2 mm_X12_actionOf 276 [.ref a0, .int (.ofInt x1), .int (.ofInt x2), .int (.ofInt x3), u4, .int (.ofInt x5), .int (.ofInt x6), .int (.ofInt x7), u8, u9, u10] σ Q := by
  show jg_G w 2 mm_X12_actionOf 276 [.ref a0, .int (.ofInt x1), .int (.ofInt x2), .int (.ofInt x3), u4, .int (.ofInt x5), .int (.ofInt x6), .int (.ofInt x7), u8, u9, u10] [] σ (jg_QI Q)
  refine jg_A (pc' := 277) rfl rfl (fun _ _ _ => rfl) ?_
  refine jg_A (pc' := 279) (ls' := [.ref a0, .int (.ofInt x1), .int (.ofInt x2), .int (.ofInt x3), u4, .int (.ofInt x5), .int (.ofInt x6), .int (.ofInt x7), .int (.ofInt 0), u9, u10]) rfl rfl (fun _ _ _ => rfl) ?_
  exact h
set_option maxRecDepth 100000 in
set_option maxHeartbeats 4000000 in
theorem jb_X12_actionOf_204 {w : Nat} {a0 : Nat} {x1 : Int} {x2 : Int} {x3 : Int} {u4 : Value} {x5 : Int} {u6 : Value} {u7 : Value} {x8 : Int} {x9 : Int} {u10 : Value} {y0 : Int} {σ : jg_M} {Q : Int → jg_M → Prop} (h0 : jg_sh a0 = (12, 0)) (h : (if jg_wr x8 = 0 then jg_GI w 2 mm_X12_actionOf 216 [.ref a0, .int (.ofInt x1), .int (.ofInt x2), .int (.ofInt x3), u4, .int (.ofInt x5), u6, u7, .int (.ofInt x8), .int (.ofInt x9), .int (.ofInt y0)] σ Q else (if jg_wr x9 = 0 then jg_GI w 2 mm_X12_actionOf 216 [.ref a0, .int (.ofInt x1), .int (.ofInt x2), .int (.ofInt x3), u4, .int (.ofInt x5), u6, u7, .int (.ofInt x8), .int (.ofInt x9), .int (.ofInt y0)] σ Q else jg_G w 2 mm_X12_actionOf 221 [.ref a0, .int (.ofInt x1), .int (.ofInt x2), .int (.ofInt x3), u4, .int (.ofInt x5), u6, u7, .int (.ofInt x8), .int (.ofInt x9), .int (.ofInt y0)] [.int (.ofInt 0)] σ (jg_QI Q)))) : jg_G w 2 mm_X12_actionOf 204 [.ref a0, .int (.ofInt x1), .int (.ofInt x2), .int (.ofInt x3), u4, .int (.ofInt x5), u6, u7, .int (.ofInt x8), .int (.ofInt x9), u10] [.int (.ofInt y0)] σ (jg_QI Q) := by
  show jg_G w 2 mm_X12_actionOf 204 [.ref a0, .int (.ofInt x1), .int (.ofInt x2), .int (.ofInt x3), u4, .int (.ofInt x5), u6, u7, .int (.ofInt x8), .int (.ofInt x9), u10] [.int (.ofInt y0)] σ (jg_QI Q)
  refine jg_A (pc' := 206) (ls' := [.ref a0, .int (.ofInt x1), .int (.ofInt x2), .int (.ofInt x3), u4, .int (.ofInt x5), u6, u7, .int (.ofInt x8), .int (.ofInt x9), .int (.ofInt y0)]) rfl rfl (fun _ _ _ => rfl) ?_
  refine jg_A (pc' := 208) rfl rfl (fun _ _ _ => rfl) ?_
  refine jg_ifeq (pc' := 211) rfl rfl (fun hc => ?_) (fun hc => ?_)
  · have h := jg_t h (show jg_wr x8 = 0 from hc)
    exact h
  · have h := jg_f h (show ¬ (jg_wr x8 = 0) from hc)
    refine jg_A (pc' := 213) rfl rfl (fun _ _ _ => rfl) ?_
    refine jg_ifne (pc' := 216) rfl rfl (fun hc => ?_) (fun hc => ?_)
    · have h := jg_t h (show jg_wr x9 = 0 from hc)
      exact h
    · have h := jg_f h (show ¬ (jg_wr x9 = 0) from hc)
      refine jg_A (pc' := 221) rfl rfl (fun _ _ _ => rfl) ?_
      exact h
set_option maxRecDepth 100000 in
set_option maxHeartbeats 4000000 in
theorem jb_X12_actionOf_279 {w : Nat} {a0 : Nat} {x1 : Int} {x2 : Int} {x3 : Int} {u4 : Value} {x5 : Int} {x6 : Int} {x7 : Int} {x8 : Int} {u9 : Value} {u10 : Value} {σ : jg_M} {Q : Int → jg_M → Prop} (h0 : jg_sh a0 = (12, 0)) (h : ((0 : Int) ≤ jg_wr (σ.1 a0 35) ∧ jg_wr (σ.1 a0 35) < (2 : Int)) ∧ (if jg_wr (σ.1 (a0 + 5) (jg_wr (σ.1 a0 35))) ≤ jg_wr x8 then (if jg_wr x6 = 0 then Q 0 σ else (if jg_wr x6 = 1 then Q (1000 + x5) σ else (if jg_wr x6 = 2 then Q (2000 + x3) σ else Q 3000 σ))) else jg_CI w 1 mm_X12_isReduced [.ref a0, .int (.ofInt x1), .int (.ofInt x2), .int (.ofInt x8)] σ (fun (z102 : Int) (m101 : jg_M) => (if jg_wr z102 = 0 then jg_GI w 2 mm_X12_actionOf 323 [.ref a0, .int (.ofInt x1), .int (.ofInt x2), .int (.ofInt x3), u4, .int (.ofInt x5), .int (.ofInt x6), .int (.ofInt x7), .int (.ofInt x8), u9, u10] m101 Q else (if jg_wr x8 = jg_wr x3 then (if jg_wr x7 = 0 then jg_GI w 2 mm_X12_actionOf 323 [.ref a0, .int (.ofInt x1), .int (.ofInt x2), .int (.ofInt x3), u4, .int (.ofInt x5), .int (.ofInt x6), .int (.ofInt x7), .int (.ofInt x8), u9, u10] m101 Q else jg_GI w 2 mm_X12_actionOf 315 [.ref a0, .int (.ofInt x1), .int (.ofInt x2), .int (.ofInt x3), u4, .int (.ofInt x5), .int (.ofInt x6), .int (.ofInt x7), .int (.ofInt x8), u9, u10] m101 Q) else jg_GI w 2 mm_X12_actionOf 315 [.ref a0, .int (.ofInt x1), .int (.ofInt x2), .int (.ofInt x3), u4, .int (.ofInt x5), .int (.ofInt x6), .int (.ofInt x7), .int (.ofInt x8), u9, u10] m101 Q))))) : jg_GI w 2 mm_X12_actionOf 279 [.ref a0, .int (.ofInt x1), .int (.ofInt x2), .int (.ofInt x3), u4, .int (.ofInt x5), .int (.ofInt x6), .int (.ofInt x7), .int (.ofInt x8), u9, u10] σ Q := by
  show jg_G w 2 mm_X12_actionOf 279 [.ref a0, .int (.ofInt x1), .int (.ofInt x2), .int (.ofInt x3), u4, .int (.ofInt x5), .int (.ofInt x6), .int (.ofInt x7), .int (.ofInt x8), u9, u10] [] σ (jg_QI Q)
  refine jg_A (pc' := 281) rfl rfl (fun _ _ _ => rfl) ?_
  refine jg_A (pc' := 282) rfl rfl (fun _ _ _ => rfl) ?_
  refine jg_getO (pc' := 285) (k := 5) rfl h0 (by decide) rfl rfl ?_
  refine jg_A (pc' := 286) rfl rfl (fun _ _ _ => rfl) ?_
  refine jg_getI (pc' := 289) (bi := 35) rfl h0 (by decide) (Or.inl rfl) rfl rfl ?_
  obtain ⟨hg, h⟩ := h
  refine jg_iald (pc' := 290) rfl (jg_sX12_14 h0) hg rfl ?_
  refine jg_cge (pc' := 293) rfl rfl (fun hc => ?_) (fun hc => ?_)
  · have h := jg_t h (show jg_wr (σ.1 (a0 + 5) (jg_wr (σ.1 a0 35))) ≤ jg_wr x8 from hc)
    refine jg_A (pc' := 331) rfl rfl (fun _ _ _ => rfl) ?_
    refine jg_ifne (pc' := 334) rfl rfl (fun hc => ?_) (fun hc => ?_)
    · have h := jg_t h (show jg_wr x6 = 0 from hc)
      refine jg_A (pc' := 335) rfl rfl (fun _ _ _ => rfl) ?_
      refine jg_goto rfl ?_
      exact jg_iret rfl rfl h
    · have h := jg_f h (show ¬ (jg_wr x6 = 0) from hc)
      refine jg_A (pc' := 340) rfl rfl (fun _ _ _ => rfl) ?_
      refine jg_A (pc' := 341) rfl rfl (fun _ _ _ => rfl) ?_
      refine jg_cne (pc' := 344) rfl rfl (fun hc => ?_) (fun hc => ?_)
      · have h := jg_t h (show jg_wr x6 = 1 from hc)
        refine jg_A (pc' := 347) rfl rfl (fun _ _ _ => rfl) ?_
        refine jg_A (pc' := 349) rfl rfl (fun _ _ _ => rfl) ?_
        refine jg_iadd (pc' := 350) rfl rfl ?_
        refine jg_goto rfl ?_
        exact jg_iret rfl rfl h
      · have h := jg_f h (show ¬ (jg_wr x6 = 1) from hc)
        refine jg_A (pc' := 355) rfl rfl (fun _ _ _ => rfl) ?_
        refine jg_A (pc' := 356) rfl rfl (fun _ _ _ => rfl) ?_
        refine jg_cne (pc' := 359) rfl rfl (fun hc => ?_) (fun hc => ?_)
        · have h := jg_t h (show jg_wr x6 = 2 from hc)
          refine jg_A (pc' := 362) rfl rfl (fun _ _ _ => rfl) ?_
          refine jg_A (pc' := 363) rfl rfl (fun _ _ _ => rfl) ?_
          refine jg_iadd (pc' := 364) rfl rfl ?_
          refine jg_goto rfl ?_
          exact jg_iret rfl rfl h
        · have h := jg_f h (show ¬ (jg_wr x6 = 2) from hc)
          refine jg_A (pc' := 370) rfl rfl (fun _ _ _ => rfl) ?_
          exact jg_iret rfl rfl h
  · have h := jg_f h (show ¬ (jg_wr (σ.1 (a0 + 5) (jg_wr (σ.1 a0 35))) ≤ jg_wr x8) from hc)
    refine jg_A (pc' := 294) rfl rfl (fun _ _ _ => rfl) ?_
    refine jg_A (pc' := 295) rfl rfl (fun _ _ _ => rfl) ?_
    refine jg_A (pc' := 296) rfl rfl (fun _ _ _ => rfl) ?_
    refine jg_A (pc' := 298) rfl rfl (fun _ _ _ => rfl) ?_
    refine jg_calX (M1 := mm_X12_isReduced) (hy := 1) (pc' := 301) rfl jm_X12_isReduced (by decide) rfl h0 (by decide) ⟨Nat.le_of_ble_eq_true rfl, rfl⟩ (Nat.le_of_ble_eq_true rfl) rfl h (jg_kI (fun z102 m101 h => ?_))
    refine jg_ifeq (pc' := 304) rfl rfl (fun hc => ?_) (fun hc => ?_)
    · have h := jg_t h (show jg_wr z102 = 0 from hc)
      exact h
    · have h := jg_f h (show ¬ (jg_wr z102 = 0) from hc)
      refine jg_A (pc' := 306) rfl rfl (fun _ _ _ => rfl) ?_
      refine jg_A (pc' := 307) rfl rfl (fun _ _ _ => rfl) ?_
      refine jg_cne (pc' := 310) rfl rfl (fun hc => ?_) (fun hc => ?_)
      · have h := jg_t h (show jg_wr x8 = jg_wr x3 from hc)
        refine jg_A (pc' := 312) rfl rfl (fun _ _ _ => rfl) ?_
        refine jg_ifeq (pc' := 315) rfl rfl (fun hc => ?_) (fun hc => ?_)
        · have h := jg_t h (show jg_wr x7 = 0 from hc)
          exact h
        · have h := jg_f h (show ¬ (jg_wr x7 = 0) from hc)
          exact h
      · have h := jg_f h (show ¬ (jg_wr x8 = jg_wr x3) from hc)
        exact h
set_option maxRecDepth 100000 in
set_option maxHeartbeats 4000000 in
theorem jb_X12_actionOf_216 {w : Nat} {a0 : Nat} {x1 : Int} {x2 : Int} {x3 : Int} {u4 : Value} {x5 : Int} {u6 : Value} {u7 : Value} {x8 : Int} {x9 : Int} {x10 : Int} {σ : jg_M} {Q : Int → jg_M → Prop} (h0 : jg_sh a0 = (12, 0)) (h : jg_G w 2 mm_X12_actionOf 221 [.ref a0, .int (.ofInt x1), .int (.ofInt x2), .int (.ofInt x3), u4, .int (.ofInt x5), u6, u7, .int (.ofInt x8), .int (.ofInt x9), .int (.ofInt x10)] [.int (.ofInt 1)] σ (jg_QI Q)) : jg_GI w 2 mm_X12_actionOf 216 [.ref a0, .int (.ofInt x1), .int (.ofInt x2), .int (.ofInt x3), u4, .int (.ofInt x5), u6, u7, .int (.ofInt x8), .int (.ofInt x9), .int (.ofInt x10)] σ Q := by
  show jg_G w 2 mm_X12_actionOf 216 [.ref a0, .int (.ofInt x1), .int (.ofInt x2), .int (.ofInt x3), u4, .int (.ofInt x5), u6, u7, .int (.ofInt x8), .int (.ofInt x9), .int (.ofInt x10)] [] σ (jg_QI Q)
  refine jg_A (pc' := 217) rfl rfl (fun _ _ _ => rfl) ?_
  refine jg_goto rfl ?_
  exact h
set_option maxRecDepth 100000 in
set_option maxHeartbeats 4000000 in
theorem jb_X12_actionOf_221 {w : Nat} {a0 : Nat} {x1 : Int} {x2 : Int} {x3 : Int} {u4 : Value} {x5 : Int} {u6 : Value} {u7 : Value} {x8 : Int} {x9 : Int} {x10 : Int} {y0 : Int} {σ : jg_M} {Q : Int → jg_M → Prop} (h0 : jg_sh a0 = (12, 0)) (h : (if jg_wr y0 = 0 then (if jg_wr x8 ≤ jg_wr x9 then (if jg_wr x9 ≤ jg_wr x8 then (if jg_wr x10 = 0 then jg_G w 2 mm_X12_actionOf 274 [.ref a0, .int (.ofInt x1), .int (.ofInt x2), .int (.ofInt x3), u4, .int (.ofInt x5), u6, .int (.ofInt y0), .int (.ofInt x8), .int (.ofInt x9), .int (.ofInt x10)] [.int (.ofInt 2)] σ (jg_QI Q) else (if jg_wr x10 = 1 then jg_G w 2 mm_X12_actionOf 274 [.ref a0, .int (.ofInt x1), .int (.ofInt x2), .int (.ofInt x3), u4, .int (.ofInt x5), u6, .int (.ofInt y0), .int (.ofInt x8), .int (.ofInt x9), .int (.ofInt x10)] [.int (.ofInt 1)] σ (jg_QI Q) else jg_G w 2 mm_X12_actionOf 274 [.ref a0, .int (.ofInt x1), .int (.ofInt x2), .int (.ofInt x3), u4, .int (.ofInt x5), u6, .int (.ofInt y0), .int (.ofInt x8), .int (.ofInt x9), .int (.ofInt x10)] [.int (.ofInt 0)] σ (jg_QI Q))) else jg_G w 2 mm_X12_actionOf 274 [.ref a0, .int (.ofInt x1), .int (.ofInt x2), .int (.ofInt x3), u4, .int (.ofInt x5), u6, .int (.ofInt y0), .int (.ofInt x8), .int (.ofInt x9), .int (.ofInt x10)] [.int (.ofInt 1)] σ (jg_QI Q)) else jg_G w 2 mm_X12_actionOf 274 [.ref a0, .int (.ofInt x1), .int (.ofInt x2), .int (.ofInt x3), u4, .int (.ofInt x5), u6, .int (.ofInt y0), .int (.ofInt x8), .int (.ofInt x9), .int (.ofInt x10)] [.int (.ofInt 2)] σ (jg_QI Q)) else jg_G w 2 mm_X12_actionOf 274 [.ref a0, .int (.ofInt x1), .int (.ofInt x2), .int (.ofInt x3), u4, .int (.ofInt x5), u6, .int (.ofInt y0), .int (.ofInt x8), .int (.ofInt x9), .int (.ofInt x10)] [.int (.ofInt 1)] σ (jg_QI Q))) : jg_G w 2 mm_X12_actionOf 221 [.ref a0, .int (.ofInt x1), .int (.ofInt x2), .int (.ofInt x3), u4, .int (.ofInt x5), u6, u7, .int (.ofInt x8), .int (.ofInt x9), .int (.ofInt x10)] [.int (.ofInt y0)] σ (jg_QI Q) := by
  show jg_G w 2 mm_X12_actionOf 221 [.ref a0, .int (.ofInt x1), .int (.ofInt x2), .int (.ofInt x3), u4, .int (.ofInt x5), u6, u7, .int (.ofInt x8), .int (.ofInt x9), .int (.ofInt x10)] [.int (.ofInt y0)] σ (jg_QI Q)
  refine jg_A (pc' := 223) (ls' := [.ref a0, .int (.ofInt x1), .int (.ofInt x2), .int (.ofInt x3), u4, .int (.ofInt x5), u6, .int (.ofInt y0), .int (.ofInt x8), .int (.ofInt x9), .int (.ofInt x10)]) rfl rfl (fun _ _ _ => rfl) ?_
  refine jg_A (pc' := 225) rfl rfl (fun _ _ _ => rfl) ?_
  refine jg_ifeq (pc' := 228) rfl rfl (fun hc => ?_) (fun hc => ?_)
  · have h := jg_t h (show jg_wr y0 = 0 from hc)
    refine jg_A (pc' := 234) rfl rfl (fun _ _ _ => rfl) ?_
    refine jg_A (pc' := 236) rfl rfl (fun _ _ _ => rfl) ?_
    refine jg_cle (pc' := 239) rfl rfl (fun hc => ?_) (fun hc => ?_)
    · have h := jg_t h (show jg_wr x8 ≤ jg_wr x9 from hc)
      refine jg_A (pc' := 245) rfl rfl (fun _ _ _ => rfl) ?_
      refine jg_A (pc' := 247) rfl rfl (fun _ _ _ => rfl) ?_
      refine jg_cge (pc' := 250) rfl rfl (fun hc => ?_) (fun hc => ?_)
      · have h := jg_t h (show jg_wr x9 ≤ jg_wr x8 from hc)
        refine jg_A (pc' := 256) rfl rfl (fun _ _ _ => rfl) ?_
        refine jg_ifne (pc' := 259) rfl rfl (fun hc => ?_) (fun hc => ?_)
        · have h := jg_t h (show jg_wr x10 = 0 from hc)
          refine jg_A (pc' := 260) rfl rfl (fun _ _ _ => rfl) ?_
          refine jg_goto rfl ?_
          exact h
        · have h := jg_f h (show ¬ (jg_wr x10 = 0) from hc)
          refine jg_A (pc' := 265) rfl rfl (fun _ _ _ => rfl) ?_
          refine jg_A (pc' := 266) rfl rfl (fun _ _ _ => rfl) ?_
          refine jg_cne (pc' := 269) rfl rfl (fun hc => ?_) (fun hc => ?_)
          · have h := jg_t h (show jg_wr x10 = 1 from hc)
            refine jg_A (pc' := 270) rfl rfl (fun _ _ _ => rfl) ?_
            refine jg_goto rfl ?_
            exact h
          · have h := jg_f h (show ¬ (jg_wr x10 = 1) from hc)
            refine jg_A (pc' := 274) rfl rfl (fun _ _ _ => rfl) ?_
            exact h
      · have h := jg_f h (show ¬ (jg_wr x9 ≤ jg_wr x8) from hc)
        refine jg_A (pc' := 251) rfl rfl (fun _ _ _ => rfl) ?_
        refine jg_goto rfl ?_
        exact h
    · have h := jg_f h (show ¬ (jg_wr x8 ≤ jg_wr x9) from hc)
      refine jg_A (pc' := 240) rfl rfl (fun _ _ _ => rfl) ?_
      refine jg_goto rfl ?_
      exact h
  · have h := jg_f h (show ¬ (jg_wr y0 = 0) from hc)
    refine jg_A (pc' := 229) rfl rfl (fun _ _ _ => rfl) ?_
    refine jg_goto rfl ?_
    exact h
set_option maxRecDepth 100000 in
set_option maxHeartbeats 4000000 in
theorem jb_X12_actionOf_323 {w : Nat} {a0 : Nat} {x1 : Int} {x2 : Int} {x3 : Int} {u4 : Value} {x5 : Int} {x6 : Int} {x7 : Int} {x8 : Int} {u9 : Value} {u10 : Value} {σ : jg_M} {Q : Int → jg_M → Prop} (h0 : jg_sh a0 = (12, 0)) (h : jg_GI w 2 mm_X12_actionOf 279 [.ref a0, .int (.ofInt x1), .int (.ofInt x2), .int (.ofInt x3), u4, .int (.ofInt x5), .int (.ofInt x6), .int (.ofInt x7), .int (.ofInt (x8 + 1)), u9, u10] σ Q) : jg_GI w 2 mm_X12_actionOf 323 [.ref a0, .int (.ofInt x1), .int (.ofInt x2), .int (.ofInt x3), u4, .int (.ofInt x5), .int (.ofInt x6), .int (.ofInt x7), .int (.ofInt x8), u9, u10] σ Q := by
  show jg_G w 2 mm_X12_actionOf 323 [.ref a0, .int (.ofInt x1), .int (.ofInt x2), .int (.ofInt x3), u4, .int (.ofInt x5), .int (.ofInt x6), .int (.ofInt x7), .int (.ofInt x8), u9, u10] [] σ (jg_QI Q)
  refine jg_iinc (pc' := 326) (ls' := [.ref a0, .int (.ofInt x1), .int (.ofInt x2), .int (.ofInt x3), u4, .int (.ofInt x5), .int (.ofInt x6), .int (.ofInt x7), .int (.ofInt (x8 + 1)), u9, u10]) rfl rfl rfl rfl ?_
  refine jg_goto rfl ?_
  exact h
set_option maxRecDepth 100000 in
set_option maxHeartbeats 4000000 in
theorem jb_X12_actionOf_315 {w : Nat} {a0 : Nat} {x1 : Int} {x2 : Int} {x3 : Int} {u4 : Value} {x5 : Int} {x6 : Int} {x7 : Int} {x8 : Int} {u9 : Value} {u10 : Value} {σ : jg_M} {Q : Int → jg_M → Prop} (h0 : jg_sh a0 = (12, 0)) (h : jg_CV w 0 mm_X12_leavesOut [.ref a0, .int (.ofInt x1), .int (.ofInt x2), .int (.ofInt x8)] σ (fun (m101 : jg_M) => jg_GI w 2 mm_X12_actionOf 323 [.ref a0, .int (.ofInt x1), .int (.ofInt x2), .int (.ofInt x3), u4, .int (.ofInt x5), .int (.ofInt x6), .int (.ofInt x7), .int (.ofInt x8), u9, u10] m101 Q)) : jg_GI w 2 mm_X12_actionOf 315 [.ref a0, .int (.ofInt x1), .int (.ofInt x2), .int (.ofInt x3), u4, .int (.ofInt x5), .int (.ofInt x6), .int (.ofInt x7), .int (.ofInt x8), u9, u10] σ Q := by
  show jg_G w 2 mm_X12_actionOf 315 [.ref a0, .int (.ofInt x1), .int (.ofInt x2), .int (.ofInt x3), u4, .int (.ofInt x5), .int (.ofInt x6), .int (.ofInt x7), .int (.ofInt x8), u9, u10] [] σ (jg_QI Q)
  refine jg_A (pc' := 316) rfl rfl (fun _ _ _ => rfl) ?_
  refine jg_A (pc' := 317) rfl rfl (fun _ _ _ => rfl) ?_
  refine jg_A (pc' := 318) rfl rfl (fun _ _ _ => rfl) ?_
  refine jg_A (pc' := 320) rfl rfl (fun _ _ _ => rfl) ?_
  refine jg_calX (M1 := mm_X12_leavesOut) (hy := 0) (pc' := 323) rfl jm_X12_leavesOut (by decide) rfl h0 (by decide) ⟨Nat.le_of_ble_eq_true rfl, rfl⟩ (Nat.le_of_ble_eq_true rfl) rfl h (jg_kV (fun m101 h => ?_))
  exact h
set_option maxRecDepth 100000 in
set_option maxHeartbeats 4000000 in
theorem jb_X12_actionOf_274 {w : Nat} {a0 : Nat} {x1 : Int} {x2 : Int} {x3 : Int} {u4 : Value} {x5 : Int} {u6 : Value} {x7 : Int} {u8 : Value} {u9 : Value} {u10 : Value} {y0 : Int} {σ : jg_M} {Q : Int → jg_M → Prop} (h0 : jg_sh a0 = (12, 0)) (h : jg_GI w 2 mm_X12_actionOf 276 [.ref a0, .int (.ofInt x1), .int (.ofInt x2), .int (.ofInt x3), u4, .int (.ofInt x5), .int (.ofInt y0), .int (.ofInt x7), u8, u9, u10] σ Q) : jg_G w 2 mm_X12_actionOf 274 [.ref a0, .int (.ofInt x1), .int (.ofInt x2), .int (.ofInt x3), u4, .int (.ofInt x5), u6, .int (.ofInt x7), u8, u9, u10] [.int (.ofInt y0)] σ (jg_QI Q) := by
  show jg_G w 2 mm_X12_actionOf 274 [.ref a0, .int (.ofInt x1), .int (.ofInt x2), .int (.ofInt x3), u4, .int (.ofInt x5), u6, .int (.ofInt x7), u8, u9, u10] [.int (.ofInt y0)] σ (jg_QI Q)
  refine jg_A (pc' := 276) (ls' := [.ref a0, .int (.ofInt x1), .int (.ofInt x2), .int (.ofInt x3), u4, .int (.ofInt x5), .int (.ofInt y0), .int (.ofInt x7), u8, u9, u10]) rfl rfl (fun _ _ _ => rfl) ?_
  exact h
set_option maxRecDepth 100000 in
set_option maxHeartbeats 4000000 in
theorem jb_X12_layActions_0 {w : Nat} {a0 : Nat} {σ : jg_M} {Q : jg_M → Prop} (h0 : jg_sh a0 = (12, 0)) (h : ((0 : Int) ≤ (jg_wr (σ.1 a0 36)) ∧ (jg_wr (σ.1 a0 36)) < (2 : Int)) ∧ ∀ m101 : jg_M, m101 = jg_sI σ (a0 + 22) (jg_wr (σ.1 a0 36)) 0 → jg_GV w 3 mm_X12_layActions 12 [.ref a0, .int (.ofInt 0), mj_U] m101 Q) : jg_CV w 3 mm_X12_layActions [.ref a0] σ Q := by
  show jg_G w 3 mm_X12_layActions 0 [.ref a0, mj_U, mj_U] [] σ (jg_QV Q)
  refine jg_A (pc' := 1) rfl rfl (fun _ _ _ => rfl) ?_
  refine jg_getO (pc' := 4) (k := 22) rfl h0 (by decide) rfl rfl ?_
  refine jg_A (pc' := 5) rfl rfl (fun _ _ _ => rfl) ?_
  refine jg_getI (pc' := 8) (bi := 36) rfl h0 (by decide) (Or.inl rfl) rfl rfl ?_
  refine jg_A (pc' := 9) rfl rfl (fun _ _ _ => rfl) ?_
  obtain ⟨hg, h⟩ := h
  refine jg_iast (pc' := 10) rfl (jg_sX12_31 h0) hg rfl (fun m101 hm101 => ?_)
  have h := h m101 hm101
  refine jg_A (pc' := 11) rfl rfl (fun _ _ _ => rfl) ?_
  refine jg_A (pc' := 12) (ls' := [.ref a0, .int (.ofInt 0), mj_U]) rfl rfl (fun _ _ _ => rfl) ?_
  exact h
set_option maxRecDepth 100000 in
set_option maxHeartbeats 4000000 in
theorem jb_X12_layActions_12 {w : Nat} {a0 : Nat} {x1 : Int} {u2 : Value} {σ : jg_M} {Q : jg_M → Prop} (h0 : jg_sh a0 = (12, 0)) (h : ((0 : Int) ≤ jg_wr (σ.1 a0 36) ∧ jg_wr (σ.1 a0 36) < (2 : Int)) ∧ (if jg_wr (σ.1 (a0 + 13) (jg_wr (σ.1 a0 36))) ≤ jg_wr x1 then Q σ else jg_GV w 3 mm_X12_layActions 27 [.ref a0, .int (.ofInt x1), .int (.ofInt 0)] σ Q)) : jg_GV w 3 mm_X12_layActions 12 [.ref a0, .int (.ofInt x1), u2] σ Q := by
  show jg_G w 3 mm_X12_layActions 12 [.ref a0, .int (.ofInt x1), u2] [] σ (jg_QV Q)
  refine jg_A (pc' := 13) rfl rfl (fun _ _ _ => rfl) ?_
  refine jg_A (pc' := 14) rfl rfl (fun _ _ _ => rfl) ?_
  refine jg_getO (pc' := 17) (k := 13) rfl h0 (by decide) rfl rfl ?_
  refine jg_A (pc' := 18) rfl rfl (fun _ _ _ => rfl) ?_
  refine jg_getI (pc' := 21) (bi := 36) rfl h0 (by decide) (Or.inl rfl) rfl rfl ?_
  obtain ⟨hg, h⟩ := h
  refine jg_iald (pc' := 22) rfl (jg_sX12_22 h0) hg rfl ?_
  refine jg_cge (pc' := 25) rfl rfl (fun hc => ?_) (fun hc => ?_)
  · have h := jg_t h (show jg_wr (σ.1 (a0 + 13) (jg_wr (σ.1 a0 36))) ≤ jg_wr x1 from hc)
    exact jg_vret rfl rfl h
  · have h := jg_f h (show ¬ (jg_wr (σ.1 (a0 + 13) (jg_wr (σ.1 a0 36))) ≤ jg_wr x1) from hc)
    refine jg_A (pc' := 26) rfl rfl (fun _ _ _ => rfl) ?_
    refine jg_A (pc' := 27) (ls' := [.ref a0, .int (.ofInt x1), .int (.ofInt 0)]) rfl rfl (fun _ _ _ => rfl) ?_
    exact h
set_option maxRecDepth 100000 in
set_option maxHeartbeats 4000000 in
theorem jb_X12_layActions_27 {w : Nat} {a0 : Nat} {x1 : Int} {x2 : Int} {σ : jg_M} {Q : jg_M → Prop} (h0 : jg_sh a0 = (12, 0)) (h : ((0 : Int) ≤ jg_wr (σ.1 a0 35) ∧ jg_wr (σ.1 a0 35) < (2 : Int)) ∧ (if jg_wr (σ.1 (a0 + 3) (jg_wr (σ.1 a0 35))) < jg_wr x2 then jg_GV w 3 mm_X12_layActions 12 [.ref a0, .int (.ofInt (x1 + 1)), .int (.ofInt x2)] σ Q else jg_CI w 2 mm_X12_actionOf [.ref a0, .int (.ofInt x1), .int (.ofInt x2)] σ (fun (z102 : Int) (m101 : jg_M) => ((0 : Int) ≤ (jg_wr ((8 * ((48 * (σ.1 a0 36)) + x1)) + x2)) ∧ (jg_wr ((8 * ((48 * (σ.1 a0 36)) + x1)) + x2)) < (768 : Int)) ∧ ∀ m103 : jg_M, m103 = jg_sI m101 (a0 + 19) (jg_wr ((8 * ((48 * (σ.1 a0 36)) + x1)) + x2)) z102 → jg_GV w 3 mm_X12_layActions 27 [.ref a0, .int (.ofInt x1), .int (.ofInt (x2 + 1))] m103 Q))) : jg_GV w 3 mm_X12_layActions 27 [.ref a0, .int (.ofInt x1), .int (.ofInt x2)] σ Q := by
  show jg_G w 3 mm_X12_layActions 27 [.ref a0, .int (.ofInt x1), .int (.ofInt x2)] [] σ (jg_QV Q)
  refine jg_A (pc' := 28) rfl rfl (fun _ _ _ => rfl) ?_
  refine jg_A (pc' := 29) rfl rfl (fun _ _ _ => rfl) ?_
  refine jg_getO (pc' := 32) (k := 3) rfl h0 (by decide) rfl rfl ?_
  refine jg_A (pc' := 33) rfl rfl (fun _ _ _ => rfl) ?_
  refine jg_getI (pc' := 36) (bi := 35) rfl h0 (by decide) (Or.inl rfl) rfl rfl ?_
  obtain ⟨hg, h⟩ := h
  refine jg_iald (pc' := 37) rfl (jg_sX12_12 h0) hg rfl ?_
  refine jg_cgt (pc' := 40) rfl rfl (fun hc => ?_) (fun hc => ?_)
  · have h := jg_t h (show jg_wr (σ.1 (a0 + 3) (jg_wr (σ.1 a0 35))) < jg_wr x2 from hc)
    refine jg_iinc (pc' := 74) (ls' := [.ref a0, .int (.ofInt (x1 + 1)), .int (.ofInt x2)]) rfl rfl rfl rfl ?_
    refine jg_goto rfl ?_
    exact h
  · have h := jg_f h (show ¬ (jg_wr (σ.1 (a0 + 3) (jg_wr (σ.1 a0 35))) < jg_wr x2) from hc)
    refine jg_A (pc' := 41) rfl rfl (fun _ _ _ => rfl) ?_
    refine jg_getO (pc' := 44) (k := 19) rfl h0 (by decide) rfl rfl ?_
    refine jg_A (pc' := 46) rfl rfl (fun _ _ _ => rfl) ?_
    refine jg_A (pc' := 48) rfl rfl (fun _ _ _ => rfl) ?_
    refine jg_A (pc' := 49) rfl rfl (fun _ _ _ => rfl) ?_
    refine jg_getI (pc' := 52) (bi := 36) rfl h0 (by decide) (Or.inl rfl) rfl rfl ?_
    refine jg_imul (pc' := 53) rfl rfl ?_
    refine jg_A (pc' := 54) rfl rfl (fun _ _ _ => rfl) ?_
    refine jg_iadd (pc' := 55) rfl rfl ?_
    refine jg_imul (pc' := 56) rfl rfl ?_
    refine jg_A (pc' := 57) rfl rfl (fun _ _ _ => rfl) ?_
    refine jg_iadd (pc' := 58) rfl rfl ?_
    refine jg_A (pc' := 59) rfl rfl (fun _ _ _ => rfl) ?_
    refine jg_A (pc' := 60) rfl rfl (fun _ _ _ => rfl) ?_
    refine jg_A (pc' := 61) rfl rfl (fun _ _ _ => rfl) ?_
    refine jg_calX (M1 := mm_X12_actionOf) (hy := 2) (pc' := 64) rfl jm_X12_actionOf (by decide) rfl h0 (by decide) ⟨Nat.le_of_ble_eq_true rfl, rfl⟩ (Nat.le_of_ble_eq_true rfl) rfl h (jg_kI (fun z102 m101 h => ?_))
    obtain ⟨hg, h⟩ := h
    refine jg_iast (pc' := 65) rfl (jg_sX12_28 h0) hg rfl (fun m103 hm103 => ?_)
    have h := h m103 hm103
    refine jg_iinc (pc' := 68) (ls' := [.ref a0, .int (.ofInt x1), .int (.ofInt (x2 + 1))]) rfl rfl rfl rfl ?_
    refine jg_goto rfl ?_
    exact h
set_option maxRecDepth 100000 in
set_option maxHeartbeats 4000000 in
theorem jb_X12_layAll_0 {w : Nat} {a0 : Nat} {x1 : Int} {x2 : Int} {x3 : Int} {σ : jg_M} {Q : Int → jg_M → Prop} (h0 : jg_sh a0 = (12, 0)) (h : ∀ m101 : jg_M, m101 = jg_sI σ a0 36 x1 → ∀ m102 : jg_M, m102 = jg_sI m101 a0 35 x2 → ∀ m103 : jg_M, m103 = jg_sI m102 a0 34 x3 → jg_CV w 3 mm_X12_layFirsts [.ref a0] m103 (fun (m104 : jg_M) => jg_CI w 3 mm_X12_layStates [.ref a0] m104 (fun (z106 : Int) (m105 : jg_M) => (if jg_wr z106 = 0 then Q 0 m105 else jg_CV w 3 mm_X12_layLooks [.ref a0] m105 (fun (m107 : jg_M) => Q 1 m107))))) : jg_CI w 4 mm_X12_layAll [.ref a0, .int (.ofInt x1), .int (.ofInt x2), .int (.ofInt x3)] σ Q := by
  show jg_G w 4 mm_X12_layAll 0 [.ref a0, .int (.ofInt x1), .int (.ofInt x2), .int (.ofInt x3)] [] σ (jg_QI Q)
  refine jg_A (pc' := 1) rfl rfl (fun _ _ _ => rfl) ?_
  refine jg_A (pc' := 2) rfl rfl (fun _ _ _ => rfl) ?_
  refine jg_putI (pc' := 5) (bi := 36) rfl h0 (by decide) rfl rfl rfl rfl (fun m101 hm101 => ?_)
  have h := h m101 hm101
  refine jg_A (pc' := 6) rfl rfl (fun _ _ _ => rfl) ?_
  refine jg_A (pc' := 7) rfl rfl (fun _ _ _ => rfl) ?_
  refine jg_putI (pc' := 10) (bi := 35) rfl h0 (by decide) rfl rfl rfl rfl (fun m102 hm102 => ?_)
  have h := h m102 hm102
  refine jg_A (pc' := 11) rfl rfl (fun _ _ _ => rfl) ?_
  refine jg_A (pc' := 12) rfl rfl (fun _ _ _ => rfl) ?_
  refine jg_putI (pc' := 15) (bi := 34) rfl h0 (by decide) rfl rfl rfl rfl (fun m103 hm103 => ?_)
  have h := h m103 hm103
  refine jg_A (pc' := 16) rfl rfl (fun _ _ _ => rfl) ?_
  refine jg_calX (M1 := mm_X12_layFirsts) (hy := 3) (pc' := 19) rfl jm_X12_layFirsts (by decide) rfl h0 (by decide) ⟨Nat.le_of_ble_eq_true rfl, rfl⟩ (Nat.le_of_ble_eq_true rfl) rfl h (jg_kV (fun m104 h => ?_))
  refine jg_A (pc' := 20) rfl rfl (fun _ _ _ => rfl) ?_
  refine jg_calX (M1 := mm_X12_layStates) (hy := 3) (pc' := 23) rfl jm_X12_layStates (by decide) rfl h0 (by decide) ⟨Nat.le_of_ble_eq_true rfl, rfl⟩ (Nat.le_of_ble_eq_true rfl) rfl h (jg_kI (fun z106 m105 h => ?_))
  refine jg_ifne (pc' := 26) rfl rfl (fun hc => ?_) (fun hc => ?_)
  · have h := jg_t h (show jg_wr z106 = 0 from hc)
    refine jg_A (pc' := 27) rfl rfl (fun _ _ _ => rfl) ?_
    exact jg_zret rfl rfl (by decide) h
  · have h := jg_f h (show ¬ (jg_wr z106 = 0) from hc)
    refine jg_A (pc' := 29) rfl rfl (fun _ _ _ => rfl) ?_
    refine jg_calX (M1 := mm_X12_layLooks) (hy := 3) (pc' := 32) rfl jm_X12_layLooks (by decide) rfl h0 (by decide) ⟨Nat.le_of_ble_eq_true rfl, rfl⟩ (Nat.le_of_ble_eq_true rfl) rfl h (jg_kV (fun m107 h => ?_))
    refine jg_A (pc' := 33) rfl rfl (fun _ _ _ => rfl) ?_
    exact jg_zret rfl rfl (by decide) h
set_option maxRecDepth 100000 in
set_option maxHeartbeats 4000000 in
theorem jb_X12_layTables_0 {w : Nat} {a0 : Nat} {x1 : Int} {x2 : Int} {x3 : Int} {σ : jg_M} {Q : Int → jg_M → Prop} (h0 : jg_sh a0 = (12, 0)) (h : ∀ m101 : jg_M, m101 = jg_sI σ a0 33 0 → ∀ m102 : jg_M, m102 = jg_sI m101 a0 38 0 → jg_CI w 4 mm_X12_layAll [.ref a0, .int (.ofInt x1), .int (.ofInt x2), .int (.ofInt x3)] m102 (fun (z104 : Int) (m103 : jg_M) => (if jg_wr z104 = 0 then Q 0 m103 else jg_CV w 3 mm_X12_layActions [.ref a0] m103 (fun (m105 : jg_M) => Q 1 m105)))) : jg_CI w 5 mm_X12_layTables [.ref a0, .int (.ofInt x1), .int (.ofInt x2), .int (.ofInt x3)] σ Q := by
  show jg_G w 5 mm_X12_layTables 0 [.ref a0, .int (.ofInt x1), .int (.ofInt x2), .int (.ofInt x3)] [] σ (jg_QI Q)
  refine jg_A (pc' := 1) rfl rfl (fun _ _ _ => rfl) ?_
  refine jg_A (pc' := 2) rfl rfl (fun _ _ _ => rfl) ?_
  refine jg_putI (pc' := 5) (bi := 33) rfl h0 (by decide) rfl rfl rfl rfl (fun m101 hm101 => ?_)
  have h := h m101 hm101
  refine jg_A (pc' := 6) rfl rfl (fun _ _ _ => rfl) ?_
  refine jg_A (pc' := 7) rfl rfl (fun _ _ _ => rfl) ?_
  refine jg_putI (pc' := 10) (bi := 38) rfl h0 (by decide) rfl rfl rfl rfl (fun m102 hm102 => ?_)
  have h := h m102 hm102
  refine jg_A (pc' := 11) rfl rfl (fun _ _ _ => rfl) ?_
  refine jg_A (pc' := 12) rfl rfl (fun _ _ _ => rfl) ?_
  refine jg_A (pc' := 13) rfl rfl (fun _ _ _ => rfl) ?_
  refine jg_A (pc' := 14) rfl rfl (fun _ _ _ => rfl) ?_
  refine jg_calX (M1 := mm_X12_layAll) (hy := 4) (pc' := 17) rfl jm_X12_layAll (by decide) rfl h0 (by decide) ⟨Nat.le_of_ble_eq_true rfl, rfl⟩ (Nat.le_of_ble_eq_true rfl) rfl h (jg_kI (fun z104 m103 h => ?_))
  refine jg_ifne (pc' := 20) rfl rfl (fun hc => ?_) (fun hc => ?_)
  · have h := jg_t h (show jg_wr z104 = 0 from hc)
    refine jg_A (pc' := 21) rfl rfl (fun _ _ _ => rfl) ?_
    exact jg_zret rfl rfl (by decide) h
  · have h := jg_f h (show ¬ (jg_wr z104 = 0) from hc)
    refine jg_A (pc' := 23) rfl rfl (fun _ _ _ => rfl) ?_
    refine jg_calX (M1 := mm_X12_layActions) (hy := 3) (pc' := 26) rfl jm_X12_layActions (by decide) rfl h0 (by decide) ⟨Nat.le_of_ble_eq_true rfl, rfl⟩ (Nat.le_of_ble_eq_true rfl) rfl h (jg_kV (fun m105 h => ?_))
    refine jg_A (pc' := 27) rfl rfl (fun _ _ _ => rfl) ?_
    exact jg_zret rfl rfl (by decide) h
set_option maxRecDepth 100000 in
set_option maxHeartbeats 4000000 in
theorem jb_X12_layFollow_0 {w : Nat} {a0 : Nat} {x1 : Int} {x2 : Int} {x3 : Int} {x4 : Int} {σ : jg_M} {Q : jg_M → Prop} (h0 : jg_sh a0 = (12, 0)) (h : ∀ m101 : jg_M, m101 = jg_sI σ a0 36 x1 → ∀ m102 : jg_M, m102 = jg_sI m101 a0 35 x2 → ∀ m103 : jg_M, m103 = jg_sI m102 a0 34 x3 → ∀ m104 : jg_M, m104 = jg_sI m103 a0 33 x4 → jg_GV w 3 mm_X12_layFollow 24 [.ref a0, .int (.ofInt x1), .int (.ofInt x2), .int (.ofInt x3), .int (.ofInt x4), .int (.ofInt 0), mj_U, mj_U, mj_U, mj_U] m104 Q) : jg_CV w 3 mm_X12_layFollow [.ref a0, .int (.ofInt x1), .int (.ofInt x2), .int (.ofInt x3), .int (.ofInt x4)] σ Q := by
  show jg_G w 3 mm_X12_layFollow 0 [.ref a0, .int (.ofInt x1), .int (.ofInt x2), .int (.ofInt x3), .int (.ofInt x4), mj_U, mj_U, mj_U, mj_U, mj_U] [] σ (jg_QV Q)
  refine jg_A (pc' := 1) rfl rfl (fun _ _ _ => rfl) ?_
  refine jg_A (pc' := 2) rfl rfl (fun _ _ _ => rfl) ?_
  refine jg_putI (pc' := 5) (bi := 36) rfl h0 (by decide) rfl rfl rfl rfl (fun m101 hm101 => ?_)
  have h := h m101 hm101
  refine jg_A (pc' := 6) rfl rfl (fun _ _ _ => rfl) ?_
  refine jg_A (pc' := 7) rfl rfl (fun _ _ _ => rfl) ?_
  refine jg_putI (pc' := 10) (bi := 35) rfl h0 (by decide) rfl rfl rfl rfl (fun m102 hm102 => ?_)
  have h := h m102 hm102
  refine jg_A (pc' := 11) rfl rfl (fun _ _ _ => rfl) ?_
  refine jg_A (pc' := 12) rfl rfl (fun _ _ _ => rfl) ?_
  refine jg_putI (pc' := 15) (bi := 34) rfl h0 (by decide) rfl rfl rfl rfl (fun m103 hm103 => ?_)
  have h := h m103 hm103
  refine jg_A (pc' := 16) rfl rfl (fun _ _ _ => rfl) ?_
  refine jg_A (pc' := 18) rfl rfl (fun _ _ _ => rfl) ?_
  refine jg_putI (pc' := 21) (bi := 33) rfl h0 (by decide) rfl rfl rfl rfl (fun m104 hm104 => ?_)
  have h := h m104 hm104
  refine jg_A (pc' := 22) rfl rfl (fun _ _ _ => rfl) ?_
  refine jg_A (pc' := 24) (ls' := [.ref a0, .int (.ofInt x1), .int (.ofInt x2), .int (.ofInt x3), .int (.ofInt x4), .int (.ofInt 0), mj_U, mj_U, mj_U, mj_U]) rfl rfl (fun _ _ _ => rfl) ?_
  exact h
set_option maxRecDepth 100000 in
set_option maxHeartbeats 4000000 in
theorem jb_X12_layFollow_24 {w : Nat} {a0 : Nat} {u1 : Value} {x2 : Int} {x3 : Int} {x4 : Int} {x5 : Int} {u6 : Value} {u7 : Value} {u8 : Value} {u9 : Value} {σ : jg_M} {Q : jg_M → Prop} (h0 : jg_sh a0 = (12, 0)) (h : (if 5 ≤ jg_wr x5 then jg_GV w 3 mm_X12_layFollow 74 [.ref a0, u1, .int (.ofInt x2), .int (.ofInt x3), .int (.ofInt x4), .int (.ofInt 1), u6, u7, u8, u9] σ Q else (if jg_wr x5 = jg_wr x4 then ((0 : Int) ≤ jg_wr x2 ∧ jg_wr x2 < (2 : Int)) ∧ (if jg_wr (σ.1 (a0 + 4) (jg_wr x2)) ≤ 0 then ((0 : Int) ≤ (jg_wr x5) ∧ (jg_wr x5) < (5 : Int)) ∧ ∀ m101 : jg_M, m101 = jg_sI σ (a0 + 25) (jg_wr x5) 0 → jg_GV w 3 mm_X12_layFollow 24 [.ref a0, u1, .int (.ofInt x2), .int (.ofInt x3), .int (.ofInt x4), .int (.ofInt (x5 + 1)), u6, u7, u8, u9] m101 Q else ((0 : Int) ≤ jg_wr x2 ∧ jg_wr x2 < (2 : Int)) ∧ ((0 : Int) ≤ (jg_wr x5) ∧ (jg_wr x5) < (5 : Int)) ∧ ∀ m102 : jg_M, m102 = jg_sI σ (a0 + 25) (jg_wr x5) (jg_shl 1 (σ.1 (a0 + 3) (jg_wr x2))) → jg_GV w 3 mm_X12_layFollow 24 [.ref a0, u1, .int (.ofInt x2), .int (.ofInt x3), .int (.ofInt x4), .int (.ofInt (x5 + 1)), u6, u7, u8, u9] m102 Q) else ((0 : Int) ≤ (jg_wr x5) ∧ (jg_wr x5) < (5 : Int)) ∧ ∀ m103 : jg_M, m103 = jg_sI σ (a0 + 25) (jg_wr x5) 0 → jg_GV w 3 mm_X12_layFollow 24 [.ref a0, u1, .int (.ofInt x2), .int (.ofInt x3), .int (.ofInt x4), .int (.ofInt (x5 + 1)), u6, u7, u8, u9] m103 Q))) : jg_GV w 3 mm_X12_layFollow 24 [.ref a0, u1, .int (.ofInt x2), .int (.ofInt x3), .int (.ofInt x4), .int (.ofInt x5), u6, u7, u8, u9] σ Q := by
  show jg_G w 3 mm_X12_layFollow 24 [.ref a0, u1, .int (.ofInt x2), .int (.ofInt x3), .int (.ofInt x4), .int (.ofInt x5), u6, u7, u8, u9] [] σ (jg_QV Q)
  refine jg_A (pc' := 26) rfl rfl (fun _ _ _ => rfl) ?_
  refine jg_A (pc' := 27) rfl rfl (fun _ _ _ => rfl) ?_
  refine jg_cge (pc' := 30) rfl rfl (fun hc => ?_) (fun hc => ?_)
  · have h := jg_t h (show 5 ≤ jg_wr x5 from hc)
    refine jg_A (pc' := 72) rfl rfl (fun _ _ _ => rfl) ?_
    refine jg_A (pc' := 74) (ls' := [.ref a0, u1, .int (.ofInt x2), .int (.ofInt x3), .int (.ofInt x4), .int (.ofInt 1), u6, u7, u8, u9]) rfl rfl (fun _ _ _ => rfl) ?_
    exact h
  · have h := jg_f h (show ¬ (5 ≤ jg_wr x5) from hc)
    refine jg_A (pc' := 31) rfl rfl (fun _ _ _ => rfl) ?_
    refine jg_getO (pc' := 34) (k := 25) rfl h0 (by decide) rfl rfl ?_
    refine jg_A (pc' := 36) rfl rfl (fun _ _ _ => rfl) ?_
    refine jg_A (pc' := 38) rfl rfl (fun _ _ _ => rfl) ?_
    refine jg_A (pc' := 40) rfl rfl (fun _ _ _ => rfl) ?_
    refine jg_cne (pc' := 43) rfl rfl (fun hc => ?_) (fun hc => ?_)
    · have h := jg_t h (show jg_wr x5 = jg_wr x4 from hc)
      refine jg_A (pc' := 44) rfl rfl (fun _ _ _ => rfl) ?_
      refine jg_getO (pc' := 47) (k := 4) rfl h0 (by decide) rfl rfl ?_
      refine jg_A (pc' := 48) rfl rfl (fun _ _ _ => rfl) ?_
      obtain ⟨hg, h⟩ := h
      refine jg_iald (pc' := 49) rfl (jg_sX12_13 h0) hg rfl ?_
      refine jg_ifle (pc' := 52) rfl rfl (fun hc => ?_) (fun hc => ?_)
      · have h := jg_t h (show jg_wr (σ.1 (a0 + 4) (jg_wr x2)) ≤ 0 from hc)
        refine jg_A (pc' := 64) rfl rfl (fun _ _ _ => rfl) ?_
        obtain ⟨hg, h⟩ := h
        refine jg_iast (pc' := 65) rfl (jg_sX12_39 h0) hg rfl (fun m101 hm101 => ?_)
        have h := h m101 hm101
        refine jg_iinc (pc' := 68) (ls' := [.ref a0, u1, .int (.ofInt x2), .int (.ofInt x3), .int (.ofInt x4), .int (.ofInt (x5 + 1)), u6, u7, u8, u9]) rfl rfl rfl rfl ?_
        refine jg_goto rfl ?_
        exact h
      · have h := jg_f h (show ¬ (jg_wr (σ.1 (a0 + 4) (jg_wr x2)) ≤ 0) from hc)
        refine jg_A (pc' := 53) rfl rfl (fun _ _ _ => rfl) ?_
        refine jg_A (pc' := 54) rfl rfl (fun _ _ _ => rfl) ?_
        refine jg_getO (pc' := 57) (k := 3) rfl h0 (by decide) rfl rfl ?_
        refine jg_A (pc' := 58) rfl rfl (fun _ _ _ => rfl) ?_
        obtain ⟨hg, h⟩ := h
        refine jg_iald (pc' := 59) rfl (jg_sX12_12 h0) hg rfl ?_
        refine jg_ishl (pc' := 60) rfl rfl ?_
        refine jg_goto rfl ?_
        obtain ⟨hg, h⟩ := h
        refine jg_iast (pc' := 65) rfl (jg_sX12_39 h0) hg rfl (fun m102 hm102 => ?_)
        have h := h m102 hm102
        refine jg_iinc (pc' := 68) (ls' := [.ref a0, u1, .int (.ofInt x2), .int (.ofInt x3), .int (.ofInt x4), .int (.ofInt (x5 + 1)), u6, u7, u8, u9]) rfl rfl rfl rfl ?_
        refine jg_goto rfl ?_
        exact h
    · have h := jg_f h (show ¬ (jg_wr x5 = jg_wr x4) from hc)
      refine jg_A (pc' := 64) rfl rfl (fun _ _ _ => rfl) ?_
      obtain ⟨hg, h⟩ := h
      refine jg_iast (pc' := 65) rfl (jg_sX12_39 h0) hg rfl (fun m103 hm103 => ?_)
      have h := h m103 hm103
      refine jg_iinc (pc' := 68) (ls' := [.ref a0, u1, .int (.ofInt x2), .int (.ofInt x3), .int (.ofInt x4), .int (.ofInt (x5 + 1)), u6, u7, u8, u9]) rfl rfl rfl rfl ?_
      refine jg_goto rfl ?_
      exact h
set_option maxRecDepth 100000 in
set_option maxHeartbeats 4000000 in
theorem jb_X12_layFollow_74 {w : Nat} {a0 : Nat} {u1 : Value} {x2 : Int} {x3 : Int} {u4 : Value} {x5 : Int} {u6 : Value} {u7 : Value} {u8 : Value} {u9 : Value} {σ : jg_M} {Q : jg_M → Prop} (h0 : jg_sh a0 = (12, 0)) (h : (if jg_wr x5 = 0 then ∀ m101 : jg_M, m101 = jg_sI σ a0 33 0 → Q m101 else jg_GV w 3 mm_X12_layFollow 85 [.ref a0, u1, .int (.ofInt x2), .int (.ofInt x3), u4, .int (.ofInt 0), .int (.ofInt 0), u7, u8, u9] σ Q)) : jg_GV w 3 mm_X12_layFollow 74 [.ref a0, u1, .int (.ofInt x2), .int (.ofInt x3), u4, .int (.ofInt x5), u6, u7, u8, u9] σ Q := by
  show jg_G w 3 mm_X12_layFollow 74 [.ref a0, u1, .int (.ofInt x2), .int (.ofInt x3), u4, .int (.ofInt x5), u6, u7, u8, u9] [] σ (jg_QV Q)
  refine jg_A (pc' := 76) rfl rfl (fun _ _ _ => rfl) ?_
  refine jg_ifeq (pc' := 79) rfl rfl (fun hc => ?_) (fun hc => ?_)
  · have h := jg_t h (show jg_wr x5 = 0 from hc)
    refine jg_A (pc' := 244) rfl rfl (fun _ _ _ => rfl) ?_
    refine jg_A (pc' := 245) rfl rfl (fun _ _ _ => rfl) ?_
    refine jg_putI (pc' := 248) (bi := 33) rfl h0 (by decide) rfl rfl rfl rfl (fun m101 hm101 => ?_)
    have h := h m101 hm101
    exact jg_vret rfl rfl h
  · have h := jg_f h (show ¬ (jg_wr x5 = 0) from hc)
    refine jg_A (pc' := 80) rfl rfl (fun _ _ _ => rfl) ?_
    refine jg_A (pc' := 82) (ls' := [.ref a0, u1, .int (.ofInt x2), .int (.ofInt x3), u4, .int (.ofInt 0), u6, u7, u8, u9]) rfl rfl (fun _ _ _ => rfl) ?_
    refine jg_A (pc' := 83) rfl rfl (fun _ _ _ => rfl) ?_
    refine jg_A (pc' := 85) (ls' := [.ref a0, u1, .int (.ofInt x2), .int (.ofInt x3), u4, .int (.ofInt 0), .int (.ofInt 0), u7, u8, u9]) rfl rfl (fun _ _ _ => rfl) ?_
    exact h
set_option maxRecDepth 100000 in
set_option maxHeartbeats 4000000 in
theorem jb_X12_layFollow_85 {w : Nat} {a0 : Nat} {u1 : Value} {x2 : Int} {x3 : Int} {u4 : Value} {x5 : Int} {x6 : Int} {u7 : Value} {u8 : Value} {u9 : Value} {σ : jg_M} {Q : jg_M → Prop} (h0 : jg_sh a0 = (12, 0)) (h : ((0 : Int) ≤ jg_wr x2 ∧ jg_wr x2 < (2 : Int)) ∧ (if jg_wr (σ.1 (a0 + 5) (jg_wr x2)) ≤ jg_wr x6 then jg_GV w 3 mm_X12_layFollow 74 [.ref a0, u1, .int (.ofInt x2), .int (.ofInt x3), u4, .int (.ofInt x5), .int (.ofInt x6), u7, u8, u9] σ Q else jg_GV w 3 mm_X12_layFollow 99 [.ref a0, u1, .int (.ofInt x2), .int (.ofInt x3), u4, .int (.ofInt x5), .int (.ofInt x6), .int (.ofInt 0), u8, u9] σ Q)) : jg_GV w 3 mm_X12_layFollow 85 [.ref a0, u1, .int (.ofInt x2), .int (.ofInt x3), u4, .int (.ofInt x5), .int (.ofInt x6), u7, u8, u9] σ Q := by
  show jg_G w 3 mm_X12_layFollow 85 [.ref a0, u1, .int (.ofInt x2), .int (.ofInt x3), u4, .int (.ofInt x5), .int (.ofInt x6), u7, u8, u9] [] σ (jg_QV Q)
  refine jg_A (pc' := 87) rfl rfl (fun _ _ _ => rfl) ?_
  refine jg_A (pc' := 88) rfl rfl (fun _ _ _ => rfl) ?_
  refine jg_getO (pc' := 91) (k := 5) rfl h0 (by decide) rfl rfl ?_
  refine jg_A (pc' := 92) rfl rfl (fun _ _ _ => rfl) ?_
  obtain ⟨hg, h⟩ := h
  refine jg_iald (pc' := 93) rfl (jg_sX12_14 h0) hg rfl ?_
  refine jg_cge (pc' := 96) rfl rfl (fun hc => ?_) (fun hc => ?_)
  · have h := jg_t h (show jg_wr (σ.1 (a0 + 5) (jg_wr x2)) ≤ jg_wr x6 from hc)
    refine jg_goto rfl ?_
    exact h
  · have h := jg_f h (show ¬ (jg_wr (σ.1 (a0 + 5) (jg_wr x2)) ≤ jg_wr x6) from hc)
    refine jg_A (pc' := 97) rfl rfl (fun _ _ _ => rfl) ?_
    refine jg_A (pc' := 99) (ls' := [.ref a0, u1, .int (.ofInt x2), .int (.ofInt x3), u4, .int (.ofInt x5), .int (.ofInt x6), .int (.ofInt 0), u8, u9]) rfl rfl (fun _ _ _ => rfl) ?_
    exact h
set_option maxRecDepth 100000 in
set_option maxHeartbeats 4000000 in
theorem jb_X12_layFollow_99 {w : Nat} {a0 : Nat} {u1 : Value} {x2 : Int} {x3 : Int} {u4 : Value} {x5 : Int} {x6 : Int} {x7 : Int} {u8 : Value} {u9 : Value} {σ : jg_M} {Q : jg_M → Prop} (h0 : jg_sh a0 = (12, 0)) (h : jg_CI w 0 mm_X12_longOf [.ref a0, .int (.ofInt x6)] σ (fun (z102 : Int) (m101 : jg_M) => (if jg_wr z102 ≤ jg_wr x7 then jg_GV w 3 mm_X12_layFollow 85 [.ref a0, u1, .int (.ofInt x2), .int (.ofInt x3), u4, .int (.ofInt x5), .int (.ofInt (x6 + 1)), .int (.ofInt x7), u8, u9] m101 Q else jg_CI w 0 mm_X12_moveBy [.ref a0, .int (.ofInt x6), .int (.ofInt x7)] m101 (fun (z104 : Int) (m103 : jg_M) => (if jg_wr x6 = jg_wr x3 then jg_GV w 3 mm_X12_layFollow 99 [.ref a0, u1, .int (.ofInt x2), .int (.ofInt x3), u4, .int (.ofInt x5), .int (.ofInt x6), .int (.ofInt (x7 + 1)), .int (.ofInt z104), u9] m103 Q else (if 7 ≤ jg_wr z104 then jg_CI w 2 mm_X12_firstFrom [.ref a0, .int (.ofInt x6), .int (.ofInt (x7 + 1))] m103 (fun (z106 : Int) (m105 : jg_M) => jg_CI w 2 mm_X12_isEmptyFrom [.ref a0, .int (.ofInt x6), .int (.ofInt (x7 + 1))] m105 (fun (z108 : Int) (m107 : jg_M) => (if jg_wr z108 = 0 then ∀ t109 : Int, t109 = (jg_or z106 0) → (if jg_wr x5 = 0 then ((0 : Int) ≤ jg_wr (z104 - 7) ∧ jg_wr (z104 - 7) < (5 : Int)) ∧ (if jg_wr (jg_and t109 (jg_xor (m107.1 (a0 + 25) (jg_wr (z104 - 7))) (-1))) = 0 then ((0 : Int) ≤ jg_wr (z104 - 7) ∧ jg_wr (z104 - 7) < (5 : Int)) ∧ ((0 : Int) ≤ (jg_wr (z104 - 7)) ∧ (jg_wr (z104 - 7)) < (5 : Int)) ∧ ∀ m110 : jg_M, m110 = jg_sI m107 (a0 + 25) (jg_wr (z104 - 7)) (jg_or (m107.1 (a0 + 25) (jg_wr (z104 - 7))) t109) → jg_GV w 3 mm_X12_layFollow 99 [.ref a0, u1, .int (.ofInt x2), .int (.ofInt x3), u4, .int (.ofInt 0), .int (.ofInt x6), .int (.ofInt (x7 + 1)), .int (.ofInt z104), .int (.ofInt t109)] m110 Q else ((0 : Int) ≤ jg_wr (z104 - 7) ∧ jg_wr (z104 - 7) < (5 : Int)) ∧ ((0 : Int) ≤ (jg_wr (z104 - 7)) ∧ (jg_wr (z104 - 7)) < (5 : Int)) ∧ ∀ m111 : jg_M, m111 = jg_sI m107 (a0 + 25) (jg_wr (z104 - 7)) (jg_or (m107.1 (a0 + 25) (jg_wr (z104 - 7))) t109) → jg_GV w 3 mm_X12_layFollow 99 [.ref a0, u1, .int (.ofInt x2), .int (.ofInt x3), u4, .int (.ofInt 1), .int (.ofInt x6), .int (.ofInt (x7 + 1)), .int (.ofInt z104), .int (.ofInt t109)] m111 Q) else ((0 : Int) ≤ jg_wr (z104 - 7) ∧ jg_wr (z104 - 7) < (5 : Int)) ∧ ((0 : Int) ≤ (jg_wr (z104 - 7)) ∧ (jg_wr (z104 - 7)) < (5 : Int)) ∧ ∀ m112 : jg_M, m112 = jg_sI m107 (a0 + 25) (jg_wr (z104 - 7)) (jg_or (m107.1 (a0 + 25) (jg_wr (z104 - 7))) t109) → jg_GV w 3 mm_X12_layFollow 99 [.ref a0, u1, .int (.ofInt x2), .int (.ofInt x3), u4, .int (.ofInt 1), .int (.ofInt x6), .int (.ofInt (x7 + 1)), .int (.ofInt z104), .int (.ofInt t109)] m112 Q) else ((0 : Int) ≤ jg_wr ((13 * x2) + x6) ∧ jg_wr ((13 * x2) + x6) < (26 : Int)) ∧ ((0 : Int) ≤ jg_wr (m107.1 (a0 + 10) (jg_wr ((13 * x2) + x6))) ∧ jg_wr (m107.1 (a0 + 10) (jg_wr ((13 * x2) + x6))) < (5 : Int)) ∧ ∀ t113 : Int, t113 = (jg_or z106 (m107.1 (a0 + 25) (jg_wr (m107.1 (a0 + 10) (jg_wr ((13 * x2) + x6)))))) → (if jg_wr x5 = 0 then ((0 : Int) ≤ jg_wr (z104 - 7) ∧ jg_wr (z104 - 7) < (5 : Int)) ∧ (if jg_wr (jg_and t113 (jg_xor (m107.1 (a0 + 25) (jg_wr (z104 - 7))) (-1))) = 0 then ((0 : Int) ≤ jg_wr (z104 - 7) ∧ jg_wr (z104 - 7) < (5 : Int)) ∧ ((0 : Int) ≤ (jg_wr (z104 - 7)) ∧ (jg_wr (z104 - 7)) < (5 : Int)) ∧ ∀ m114 : jg_M, m114 = jg_sI m107 (a0 + 25) (jg_wr (z104 - 7)) (jg_or (m107.1 (a0 + 25) (jg_wr (z104 - 7))) t113) → jg_GV w 3 mm_X12_layFollow 99 [.ref a0, u1, .int (.ofInt x2), .int (.ofInt x3), u4, .int (.ofInt 0), .int (.ofInt x6), .int (.ofInt (x7 + 1)), .int (.ofInt z104), .int (.ofInt t113)] m114 Q else ((0 : Int) ≤ jg_wr (z104 - 7) ∧ jg_wr (z104 - 7) < (5 : Int)) ∧ ((0 : Int) ≤ (jg_wr (z104 - 7)) ∧ (jg_wr (z104 - 7)) < (5 : Int)) ∧ ∀ m115 : jg_M, m115 = jg_sI m107 (a0 + 25) (jg_wr (z104 - 7)) (jg_or (m107.1 (a0 + 25) (jg_wr (z104 - 7))) t113) → jg_GV w 3 mm_X12_layFollow 99 [.ref a0, u1, .int (.ofInt x2), .int (.ofInt x3), u4, .int (.ofInt 1), .int (.ofInt x6), .int (.ofInt (x7 + 1)), .int (.ofInt z104), .int (.ofInt t113)] m115 Q) else ((0 : Int) ≤ jg_wr (z104 - 7) ∧ jg_wr (z104 - 7) < (5 : Int)) ∧ ((0 : Int) ≤ (jg_wr (z104 - 7)) ∧ (jg_wr (z104 - 7)) < (5 : Int)) ∧ ∀ m116 : jg_M, m116 = jg_sI m107 (a0 + 25) (jg_wr (z104 - 7)) (jg_or (m107.1 (a0 + 25) (jg_wr (z104 - 7))) t113) → jg_GV w 3 mm_X12_layFollow 99 [.ref a0, u1, .int (.ofInt x2), .int (.ofInt x3), u4, .int (.ofInt 1), .int (.ofInt x6), .int (.ofInt (x7 + 1)), .int (.ofInt z104), .int (.ofInt t113)] m116 Q)))) else jg_GV w 3 mm_X12_layFollow 99 [.ref a0, u1, .int (.ofInt x2), .int (.ofInt x3), u4, .int (.ofInt x5), .int (.ofInt x6), .int (.ofInt (x7 + 1)), .int (.ofInt z104), u9] m103 Q)))))) : jg_GV w 3 mm_X12_layFollow 99 [.ref a0, u1, .int (.ofInt x2), .int (.ofInt x3), u4, .int (.ofInt x5), .int (.ofInt x6), .int (.ofInt x7), u8, u9] σ Q := by
  show jg_G w 3 mm_X12_layFollow 99 [.ref a0, u1, .int (.ofInt x2), .int (.ofInt x3), u4, .int (.ofInt x5), .int (.ofInt x6), .int (.ofInt x7), u8, u9] [] σ (jg_QV Q)
  refine jg_A (pc' := 101) rfl rfl (fun _ _ _ => rfl) ?_
  refine jg_A (pc' := 102) rfl rfl (fun _ _ _ => rfl) ?_
  refine jg_A (pc' := 104) rfl rfl (fun _ _ _ => rfl) ?_
  refine jg_calX (M1 := mm_X12_longOf) (hy := 0) (pc' := 107) rfl jm_X12_longOf (by decide) rfl h0 (by decide) ⟨Nat.le_of_ble_eq_true rfl, rfl⟩ (Nat.le_of_ble_eq_true rfl) rfl h (jg_kI (fun z102 m101 h => ?_))
  refine jg_cge (pc' := 110) rfl rfl (fun hc => ?_) (fun hc => ?_)
  · have h := jg_t h (show jg_wr z102 ≤ jg_wr x7 from hc)
    refine jg_iinc (pc' := 237) (ls' := [.ref a0, u1, .int (.ofInt x2), .int (.ofInt x3), u4, .int (.ofInt x5), .int (.ofInt (x6 + 1)), .int (.ofInt x7), u8, u9]) rfl rfl rfl rfl ?_
    refine jg_goto rfl ?_
    exact h
  · have h := jg_f h (show ¬ (jg_wr z102 ≤ jg_wr x7) from hc)
    refine jg_A (pc' := 111) rfl rfl (fun _ _ _ => rfl) ?_
    refine jg_A (pc' := 113) rfl rfl (fun _ _ _ => rfl) ?_
    refine jg_A (pc' := 115) rfl rfl (fun _ _ _ => rfl) ?_
    refine jg_calX (M1 := mm_X12_moveBy) (hy := 0) (pc' := 118) rfl jm_X12_moveBy (by decide) rfl h0 (by decide) ⟨Nat.le_of_ble_eq_true rfl, rfl⟩ (Nat.le_of_ble_eq_true rfl) rfl h (jg_kI (fun z104 m103 h => ?_))
    refine jg_A (pc' := 120) (ls' := [.ref a0, u1, .int (.ofInt x2), .int (.ofInt x3), u4, .int (.ofInt x5), .int (.ofInt x6), .int (.ofInt x7), .int (.ofInt z104), u9]) rfl rfl (fun _ _ _ => rfl) ?_
    refine jg_A (pc' := 122) rfl rfl (fun _ _ _ => rfl) ?_
    refine jg_A (pc' := 123) rfl rfl (fun _ _ _ => rfl) ?_
    refine jg_ceq (pc' := 126) rfl rfl (fun hc => ?_) (fun hc => ?_)
    · have h := jg_t h (show jg_wr x6 = jg_wr x3 from hc)
      refine jg_iinc (pc' := 231) (ls' := [.ref a0, u1, .int (.ofInt x2), .int (.ofInt x3), u4, .int (.ofInt x5), .int (.ofInt x6), .int (.ofInt (x7 + 1)), .int (.ofInt z104), u9]) rfl rfl rfl rfl ?_
      refine jg_goto rfl ?_
      exact h
    · have h := jg_f h (show ¬ (jg_wr x6 = jg_wr x3) from hc)
      refine jg_A (pc' := 128) rfl rfl (fun _ _ _ => rfl) ?_
      refine jg_A (pc' := 130) rfl rfl (fun _ _ _ => rfl) ?_
      refine jg_cge (pc' := 133) rfl rfl (fun hc => ?_) (fun hc => ?_)
      · have h := jg_t h (show 7 ≤ jg_wr z104 from hc)
        refine jg_A (pc' := 137) rfl rfl (fun _ _ _ => rfl) ?_
        refine jg_A (pc' := 139) rfl rfl (fun _ _ _ => rfl) ?_
        refine jg_A (pc' := 141) rfl rfl (fun _ _ _ => rfl) ?_
        refine jg_A (pc' := 142) rfl rfl (fun _ _ _ => rfl) ?_
        refine jg_iadd (pc' := 143) rfl rfl ?_
        refine jg_calX (M1 := mm_X12_firstFrom) (hy := 2) (pc' := 146) rfl jm_X12_firstFrom (by decide) rfl h0 (by decide) ⟨Nat.le_of_ble_eq_true rfl, rfl⟩ (Nat.le_of_ble_eq_true rfl) rfl h (jg_kI (fun z106 m105 h => ?_))
        refine jg_A (pc' := 147) rfl rfl (fun _ _ _ => rfl) ?_
        refine jg_A (pc' := 149) rfl rfl (fun _ _ _ => rfl) ?_
        refine jg_A (pc' := 151) rfl rfl (fun _ _ _ => rfl) ?_
        refine jg_A (pc' := 152) rfl rfl (fun _ _ _ => rfl) ?_
        refine jg_iadd (pc' := 153) rfl rfl ?_
        refine jg_calX (M1 := mm_X12_isEmptyFrom) (hy := 2) (pc' := 156) rfl jm_X12_isEmptyFrom (by decide) rfl h0 (by decide) ⟨Nat.le_of_ble_eq_true rfl, rfl⟩ (Nat.le_of_ble_eq_true rfl) rfl h (jg_kI (fun z108 m107 h => ?_))
        refine jg_ifeq (pc' := 159) rfl rfl (fun hc => ?_) (fun hc => ?_)
        · have h := jg_t h (show jg_wr z108 = 0 from hc)
          refine jg_A (pc' := 180) rfl rfl (fun _ _ _ => rfl) ?_
          refine jg_ior (pc' := 181) rfl rfl ?_
          refine jg_nm (F := fun t109 => jg_G w 3 mm_X12_layFollow 181 [.ref a0, u1, .int (.ofInt x2), .int (.ofInt x3), u4, .int (.ofInt x5), .int (.ofInt x6), .int (.ofInt x7), .int (.ofInt z104), u9] [.int (.ofInt t109)] m107 (jg_QV Q)) (jg_or z106 0) (fun t109 ht109 => ?_)
          have h := h t109 ht109
          refine jg_A (pc' := 183) (ls' := [.ref a0, u1, .int (.ofInt x2), .int (.ofInt x3), u4, .int (.ofInt x5), .int (.ofInt x6), .int (.ofInt x7), .int (.ofInt z104), .int (.ofInt t109)]) rfl rfl (fun _ _ _ => rfl) ?_
          refine jg_A (pc' := 185) rfl rfl (fun _ _ _ => rfl) ?_
          refine jg_ifne (pc' := 188) rfl rfl (fun hc => ?_) (fun hc => ?_)
          · have h := jg_t h (show jg_wr x5 = 0 from hc)
            refine jg_A (pc' := 190) rfl rfl (fun _ _ _ => rfl) ?_
            refine jg_A (pc' := 191) rfl rfl (fun _ _ _ => rfl) ?_
            refine jg_getO (pc' := 194) (k := 25) rfl h0 (by decide) rfl rfl ?_
            refine jg_A (pc' := 196) rfl rfl (fun _ _ _ => rfl) ?_
            refine jg_A (pc' := 198) rfl rfl (fun _ _ _ => rfl) ?_
            refine jg_isub (pc' := 199) rfl rfl ?_
            obtain ⟨hg, h⟩ := h
            refine jg_iald (pc' := 200) rfl (jg_sX12_39 h0) hg rfl ?_
            refine jg_A (pc' := 201) rfl rfl (fun _ _ _ => rfl) ?_
            refine jg_ixor (pc' := 202) rfl rfl ?_
            refine jg_iand (pc' := 203) rfl rfl ?_
            refine jg_ifeq (pc' := 206) rfl rfl (fun hc => ?_) (fun hc => ?_)
            · have h := jg_t h (show jg_wr (jg_and t109 (jg_xor (m107.1 (a0 + 25) (jg_wr (z104 - 7))) (-1))) = 0 from hc)
              refine jg_A (pc' := 211) rfl rfl (fun _ _ _ => rfl) ?_
              refine jg_A (pc' := 213) (ls' := [.ref a0, u1, .int (.ofInt x2), .int (.ofInt x3), u4, .int (.ofInt 0), .int (.ofInt x6), .int (.ofInt x7), .int (.ofInt z104), .int (.ofInt t109)]) rfl rfl (fun _ _ _ => rfl) ?_
              refine jg_A (pc' := 214) rfl rfl (fun _ _ _ => rfl) ?_
              refine jg_getO (pc' := 217) (k := 25) rfl h0 (by decide) rfl rfl ?_
              refine jg_A (pc' := 219) rfl rfl (fun _ _ _ => rfl) ?_
              refine jg_A (pc' := 221) rfl rfl (fun _ _ _ => rfl) ?_
              refine jg_isub (pc' := 222) rfl rfl ?_
              refine jg_A (pc' := 223) rfl rfl (fun _ _ _ => rfl) ?_
              obtain ⟨hg, h⟩ := h
              refine jg_iald (pc' := 224) rfl (jg_sX12_39 h0) hg rfl ?_
              refine jg_A (pc' := 226) rfl rfl (fun _ _ _ => rfl) ?_
              refine jg_ior (pc' := 227) rfl rfl ?_
              obtain ⟨hg, h⟩ := h
              refine jg_iast (pc' := 228) rfl (jg_sX12_39 h0) hg rfl (fun m110 hm110 => ?_)
              have h := h m110 hm110
              refine jg_iinc (pc' := 231) (ls' := [.ref a0, u1, .int (.ofInt x2), .int (.ofInt x3), u4, .int (.ofInt 0), .int (.ofInt x6), .int (.ofInt (x7 + 1)), .int (.ofInt z104), .int (.ofInt t109)]) rfl rfl rfl rfl ?_
              refine jg_goto rfl ?_
              exact h
            · have h := jg_f h (show ¬ (jg_wr (jg_and t109 (jg_xor (m107.1 (a0 + 25) (jg_wr (z104 - 7))) (-1))) = 0) from hc)
              refine jg_A (pc' := 207) rfl rfl (fun _ _ _ => rfl) ?_
              refine jg_goto rfl ?_
              refine jg_A (pc' := 213) (ls' := [.ref a0, u1, .int (.ofInt x2), .int (.ofInt x3), u4, .int (.ofInt 1), .int (.ofInt x6), .int (.ofInt x7), .int (.ofInt z104), .int (.ofInt t109)]) rfl rfl (fun _ _ _ => rfl) ?_
              refine jg_A (pc' := 214) rfl rfl (fun _ _ _ => rfl) ?_
              refine jg_getO (pc' := 217) (k := 25) rfl h0 (by decide) rfl rfl ?_
              refine jg_A (pc' := 219) rfl rfl (fun _ _ _ => rfl) ?_
              refine jg_A (pc' := 221) rfl rfl (fun _ _ _ => rfl) ?_
              refine jg_isub (pc' := 222) rfl rfl ?_
              refine jg_A (pc' := 223) rfl rfl (fun _ _ _ => rfl) ?_
              obtain ⟨hg, h⟩ := h
              refine jg_iald (pc' := 224) rfl (jg_sX12_39 h0) hg rfl ?_
              refine jg_A (pc' := 226) rfl rfl (fun _ _ _ => rfl) ?_
              refine jg_ior (pc' := 227) rfl rfl ?_
              obtain ⟨hg, h⟩ := h
              refine jg_iast (pc' := 228) rfl (jg_sX12_39 h0) hg rfl (fun m111 hm111 => ?_)
              have h := h m111 hm111
              refine jg_iinc (pc' := 231) (ls' := [.ref a0, u1, .int (.ofInt x2), .int (.ofInt x3), u4, .int (.ofInt 1), .int (.ofInt x6), .int (.ofInt (x7 + 1)), .int (.ofInt z104), .int (.ofInt t109)]) rfl rfl rfl rfl ?_
              refine jg_goto rfl ?_
              exact h
          · have h := jg_f h (show ¬ (jg_wr x5 = 0) from hc)
            refine jg_A (pc' := 207) rfl rfl (fun _ _ _ => rfl) ?_
            refine jg_goto rfl ?_
            refine jg_A (pc' := 213) (ls' := [.ref a0, u1, .int (.ofInt x2), .int (.ofInt x3), u4, .int (.ofInt 1), .int (.ofInt x6), .int (.ofInt x7), .int (.ofInt z104), .int (.ofInt t109)]) rfl rfl (fun _ _ _ => rfl) ?_
            refine jg_A (pc' := 214) rfl rfl (fun _ _ _ => rfl) ?_
            refine jg_getO (pc' := 217) (k := 25) rfl h0 (by decide) rfl rfl ?_
            refine jg_A (pc' := 219) rfl rfl (fun _ _ _ => rfl) ?_
            refine jg_A (pc' := 221) rfl rfl (fun _ _ _ => rfl) ?_
            refine jg_isub (pc' := 222) rfl rfl ?_
            refine jg_A (pc' := 223) rfl rfl (fun _ _ _ => rfl) ?_
            obtain ⟨hg, h⟩ := h
            refine jg_iald (pc' := 224) rfl (jg_sX12_39 h0) hg rfl ?_
            refine jg_A (pc' := 226) rfl rfl (fun _ _ _ => rfl) ?_
            refine jg_ior (pc' := 227) rfl rfl ?_
            obtain ⟨hg, h⟩ := h
            refine jg_iast (pc' := 228) rfl (jg_sX12_39 h0) hg rfl (fun m112 hm112 => ?_)
            have h := h m112 hm112
            refine jg_iinc (pc' := 231) (ls' := [.ref a0, u1, .int (.ofInt x2), .int (.ofInt x3), u4, .int (.ofInt 1), .int (.ofInt x6), .int (.ofInt (x7 + 1)), .int (.ofInt z104), .int (.ofInt t109)]) rfl rfl rfl rfl ?_
            refine jg_goto rfl ?_
            exact h
        · have h := jg_f h (show ¬ (jg_wr z108 = 0) from hc)
          refine jg_A (pc' := 160) rfl rfl (fun _ _ _ => rfl) ?_
          refine jg_getO (pc' := 163) (k := 25) rfl h0 (by decide) rfl rfl ?_
          refine jg_A (pc' := 164) rfl rfl (fun _ _ _ => rfl) ?_
          refine jg_getO (pc' := 167) (k := 10) rfl h0 (by decide) rfl rfl ?_
          refine jg_A (pc' := 169) rfl rfl (fun _ _ _ => rfl) ?_
          refine jg_A (pc' := 170) rfl rfl (fun _ _ _ => rfl) ?_
          refine jg_imul (pc' := 171) rfl rfl ?_
          refine jg_A (pc' := 173) rfl rfl (fun _ _ _ => rfl) ?_
          refine jg_iadd (pc' := 174) rfl rfl ?_
          obtain ⟨hg, h⟩ := h
          refine jg_iald (pc' := 175) rfl (jg_sX12_19 h0) hg rfl ?_
          obtain ⟨hg, h⟩ := h
          refine jg_iald (pc' := 176) rfl (jg_sX12_39 h0) hg rfl ?_
          refine jg_goto rfl ?_
          refine jg_ior (pc' := 181) rfl rfl ?_
          refine jg_nm (F := fun t113 => jg_G w 3 mm_X12_layFollow 181 [.ref a0, u1, .int (.ofInt x2), .int (.ofInt x3), u4, .int (.ofInt x5), .int (.ofInt x6), .int (.ofInt x7), .int (.ofInt z104), u9] [.int (.ofInt t113)] m107 (jg_QV Q)) (jg_or z106 (m107.1 (a0 + 25) (jg_wr (m107.1 (a0 + 10) (jg_wr ((13 * x2) + x6)))))) (fun t113 ht113 => ?_)
          have h := h t113 ht113
          refine jg_A (pc' := 183) (ls' := [.ref a0, u1, .int (.ofInt x2), .int (.ofInt x3), u4, .int (.ofInt x5), .int (.ofInt x6), .int (.ofInt x7), .int (.ofInt z104), .int (.ofInt t113)]) rfl rfl (fun _ _ _ => rfl) ?_
          refine jg_A (pc' := 185) rfl rfl (fun _ _ _ => rfl) ?_
          refine jg_ifne (pc' := 188) rfl rfl (fun hc => ?_) (fun hc => ?_)
          · have h := jg_t h (show jg_wr x5 = 0 from hc)
            refine jg_A (pc' := 190) rfl rfl (fun _ _ _ => rfl) ?_
            refine jg_A (pc' := 191) rfl rfl (fun _ _ _ => rfl) ?_
            refine jg_getO (pc' := 194) (k := 25) rfl h0 (by decide) rfl rfl ?_
            refine jg_A (pc' := 196) rfl rfl (fun _ _ _ => rfl) ?_
            refine jg_A (pc' := 198) rfl rfl (fun _ _ _ => rfl) ?_
            refine jg_isub (pc' := 199) rfl rfl ?_
            obtain ⟨hg, h⟩ := h
            refine jg_iald (pc' := 200) rfl (jg_sX12_39 h0) hg rfl ?_
            refine jg_A (pc' := 201) rfl rfl (fun _ _ _ => rfl) ?_
            refine jg_ixor (pc' := 202) rfl rfl ?_
            refine jg_iand (pc' := 203) rfl rfl ?_
            refine jg_ifeq (pc' := 206) rfl rfl (fun hc => ?_) (fun hc => ?_)
            · have h := jg_t h (show jg_wr (jg_and t113 (jg_xor (m107.1 (a0 + 25) (jg_wr (z104 - 7))) (-1))) = 0 from hc)
              refine jg_A (pc' := 211) rfl rfl (fun _ _ _ => rfl) ?_
              refine jg_A (pc' := 213) (ls' := [.ref a0, u1, .int (.ofInt x2), .int (.ofInt x3), u4, .int (.ofInt 0), .int (.ofInt x6), .int (.ofInt x7), .int (.ofInt z104), .int (.ofInt t113)]) rfl rfl (fun _ _ _ => rfl) ?_
              refine jg_A (pc' := 214) rfl rfl (fun _ _ _ => rfl) ?_
              refine jg_getO (pc' := 217) (k := 25) rfl h0 (by decide) rfl rfl ?_
              refine jg_A (pc' := 219) rfl rfl (fun _ _ _ => rfl) ?_
              refine jg_A (pc' := 221) rfl rfl (fun _ _ _ => rfl) ?_
              refine jg_isub (pc' := 222) rfl rfl ?_
              refine jg_A (pc' := 223) rfl rfl (fun _ _ _ => rfl) ?_
              obtain ⟨hg, h⟩ := h
              refine jg_iald (pc' := 224) rfl (jg_sX12_39 h0) hg rfl ?_
              refine jg_A (pc' := 226) rfl rfl (fun _ _ _ => rfl) ?_
              refine jg_ior (pc' := 227) rfl rfl ?_
              obtain ⟨hg, h⟩ := h
              refine jg_iast (pc' := 228) rfl (jg_sX12_39 h0) hg rfl (fun m114 hm114 => ?_)
              have h := h m114 hm114
              refine jg_iinc (pc' := 231) (ls' := [.ref a0, u1, .int (.ofInt x2), .int (.ofInt x3), u4, .int (.ofInt 0), .int (.ofInt x6), .int (.ofInt (x7 + 1)), .int (.ofInt z104), .int (.ofInt t113)]) rfl rfl rfl rfl ?_
              refine jg_goto rfl ?_
              exact h
            · have h := jg_f h (show ¬ (jg_wr (jg_and t113 (jg_xor (m107.1 (a0 + 25) (jg_wr (z104 - 7))) (-1))) = 0) from hc)
              refine jg_A (pc' := 207) rfl rfl (fun _ _ _ => rfl) ?_
              refine jg_goto rfl ?_
              refine jg_A (pc' := 213) (ls' := [.ref a0, u1, .int (.ofInt x2), .int (.ofInt x3), u4, .int (.ofInt 1), .int (.ofInt x6), .int (.ofInt x7), .int (.ofInt z104), .int (.ofInt t113)]) rfl rfl (fun _ _ _ => rfl) ?_
              refine jg_A (pc' := 214) rfl rfl (fun _ _ _ => rfl) ?_
              refine jg_getO (pc' := 217) (k := 25) rfl h0 (by decide) rfl rfl ?_
              refine jg_A (pc' := 219) rfl rfl (fun _ _ _ => rfl) ?_
              refine jg_A (pc' := 221) rfl rfl (fun _ _ _ => rfl) ?_
              refine jg_isub (pc' := 222) rfl rfl ?_
              refine jg_A (pc' := 223) rfl rfl (fun _ _ _ => rfl) ?_
              obtain ⟨hg, h⟩ := h
              refine jg_iald (pc' := 224) rfl (jg_sX12_39 h0) hg rfl ?_
              refine jg_A (pc' := 226) rfl rfl (fun _ _ _ => rfl) ?_
              refine jg_ior (pc' := 227) rfl rfl ?_
              obtain ⟨hg, h⟩ := h
              refine jg_iast (pc' := 228) rfl (jg_sX12_39 h0) hg rfl (fun m115 hm115 => ?_)
              have h := h m115 hm115
              refine jg_iinc (pc' := 231) (ls' := [.ref a0, u1, .int (.ofInt x2), .int (.ofInt x3), u4, .int (.ofInt 1), .int (.ofInt x6), .int (.ofInt (x7 + 1)), .int (.ofInt z104), .int (.ofInt t113)]) rfl rfl rfl rfl ?_
              refine jg_goto rfl ?_
              exact h
          · have h := jg_f h (show ¬ (jg_wr x5 = 0) from hc)
            refine jg_A (pc' := 207) rfl rfl (fun _ _ _ => rfl) ?_
            refine jg_goto rfl ?_
            refine jg_A (pc' := 213) (ls' := [.ref a0, u1, .int (.ofInt x2), .int (.ofInt x3), u4, .int (.ofInt 1), .int (.ofInt x6), .int (.ofInt x7), .int (.ofInt z104), .int (.ofInt t113)]) rfl rfl (fun _ _ _ => rfl) ?_
            refine jg_A (pc' := 214) rfl rfl (fun _ _ _ => rfl) ?_
            refine jg_getO (pc' := 217) (k := 25) rfl h0 (by decide) rfl rfl ?_
            refine jg_A (pc' := 219) rfl rfl (fun _ _ _ => rfl) ?_
            refine jg_A (pc' := 221) rfl rfl (fun _ _ _ => rfl) ?_
            refine jg_isub (pc' := 222) rfl rfl ?_
            refine jg_A (pc' := 223) rfl rfl (fun _ _ _ => rfl) ?_
            obtain ⟨hg, h⟩ := h
            refine jg_iald (pc' := 224) rfl (jg_sX12_39 h0) hg rfl ?_
            refine jg_A (pc' := 226) rfl rfl (fun _ _ _ => rfl) ?_
            refine jg_ior (pc' := 227) rfl rfl ?_
            obtain ⟨hg, h⟩ := h
            refine jg_iast (pc' := 228) rfl (jg_sX12_39 h0) hg rfl (fun m116 hm116 => ?_)
            have h := h m116 hm116
            refine jg_iinc (pc' := 231) (ls' := [.ref a0, u1, .int (.ofInt x2), .int (.ofInt x3), u4, .int (.ofInt 1), .int (.ofInt x6), .int (.ofInt (x7 + 1)), .int (.ofInt z104), .int (.ofInt t113)]) rfl rfl rfl rfl ?_
            refine jg_goto rfl ?_
            exact h
      · have h := jg_f h (show ¬ (7 ≤ jg_wr z104) from hc)
        refine jg_goto rfl ?_
        refine jg_iinc (pc' := 231) (ls' := [.ref a0, u1, .int (.ofInt x2), .int (.ofInt x3), u4, .int (.ofInt x5), .int (.ofInt x6), .int (.ofInt (x7 + 1)), .int (.ofInt z104), u9]) rfl rfl rfl rfl ?_
        refine jg_goto rfl ?_
        exact h
set_option maxRecDepth 100000 in
set_option maxHeartbeats 4000000 in
theorem jb_X12_kindMove_0 {w : Nat} {a0 : Nat} {x1 : Int} {x2 : Int} {σ : jg_M} {Q : Int → jg_M → Prop} (h0 : jg_sh a0 = (12, 0)) (h : ((0 : Int) ≤ jg_wr (((12 * x1) + 7) + x2) ∧ jg_wr (((12 * x1) + 7) + x2) < (1152 : Int)) ∧ Q (σ.1 (a0 + 16) (jg_wr (((12 * x1) + 7) + x2))) σ) : jg_CI w 0 mm_X12_kindMove [.ref a0, .int (.ofInt x1), .int (.ofInt x2)] σ Q := by
  show jg_G w 0 mm_X12_kindMove 0 [.ref a0, .int (.ofInt x1), .int (.ofInt x2)] [] σ (jg_QI Q)
  refine jg_A (pc' := 1) rfl rfl (fun _ _ _ => rfl) ?_
  refine jg_getO (pc' := 4) (k := 16) rfl h0 (by decide) rfl rfl ?_
  refine jg_A (pc' := 6) rfl rfl (fun _ _ _ => rfl) ?_
  refine jg_A (pc' := 7) rfl rfl (fun _ _ _ => rfl) ?_
  refine jg_imul (pc' := 8) rfl rfl ?_
  refine jg_A (pc' := 10) rfl rfl (fun _ _ _ => rfl) ?_
  refine jg_iadd (pc' := 11) rfl rfl ?_
  refine jg_A (pc' := 12) rfl rfl (fun _ _ _ => rfl) ?_
  refine jg_iadd (pc' := 13) rfl rfl ?_
  obtain ⟨hg, h⟩ := h
  refine jg_iald (pc' := 14) rfl (jg_sX12_25 h0) hg rfl ?_
  exact jg_iret rfl rfl h
set_option maxRecDepth 100000 in
set_option maxHeartbeats 4000000 in
theorem jb_X12_isMove_0 {w : Nat} {a0 : Nat} {x1 : Int} {σ : jg_M} {Q : Int → jg_M → Prop} (h0 : jg_sh a0 = (12, 0)) (h : jg_CI w 0 mm_X12_kindMove [.ref a0, .int (.ofInt (jg_div x1 5)), .int (.ofInt (jg_rem x1 5))] σ (fun (z102 : Int) (m101 : jg_M) => (if jg_wr z102 < 0 then Q 0 m101 else Q 1 m101))) : jg_CI w 1 mm_X12_isMove [.ref a0, .int (.ofInt x1)] σ Q := by
  show jg_G w 1 mm_X12_isMove 0 [.ref a0, .int (.ofInt x1)] [] σ (jg_QI Q)
  refine jg_A (pc' := 1) rfl rfl (fun _ _ _ => rfl) ?_
  refine jg_A (pc' := 2) rfl rfl (fun _ _ _ => rfl) ?_
  refine jg_A (pc' := 3) rfl rfl (fun _ _ _ => rfl) ?_
  refine jg_idiv (pc' := 4) rfl rfl (by decide) ?_
  refine jg_A (pc' := 5) rfl rfl (fun _ _ _ => rfl) ?_
  refine jg_A (pc' := 6) rfl rfl (fun _ _ _ => rfl) ?_
  refine jg_irem (pc' := 7) rfl rfl (by decide) ?_
  refine jg_calX (M1 := mm_X12_kindMove) (hy := 0) (pc' := 10) rfl jm_X12_kindMove (by decide) rfl h0 (by decide) ⟨Nat.le_of_ble_eq_true rfl, rfl⟩ (Nat.le_of_ble_eq_true rfl) rfl h (jg_kI (fun z102 m101 h => ?_))
  refine jg_iflt (pc' := 13) rfl rfl (fun hc => ?_) (fun hc => ?_)
  · have h := jg_t h (show jg_wr z102 < 0 from hc)
    refine jg_A (pc' := 18) rfl rfl (fun _ _ _ => rfl) ?_
    exact jg_zret rfl rfl (by decide) h
  · have h := jg_f h (show ¬ (jg_wr z102 < 0) from hc)
    refine jg_A (pc' := 14) rfl rfl (fun _ _ _ => rfl) ?_
    refine jg_goto rfl ?_
    exact jg_zret rfl rfl (by decide) h
set_option maxRecDepth 100000 in
set_option maxHeartbeats 4000000 in
theorem jb_X12_wayBy_0 {w : Nat} {a0 : Nat} {x1 : Int} {x2 : Int} {x3 : Int} {σ : jg_M} {Q : Int → jg_M → Prop} (h0 : jg_sh a0 = (12, 0)) (h : jg_GI w 1 mm_X12_wayBy 6 [.ref a0, .int (.ofInt x1), .int (.ofInt x2), .int (.ofInt x3), .int (.ofInt x1), .int (.ofInt 0)] σ Q) : jg_CI w 1 mm_X12_wayBy [.ref a0, .int (.ofInt x1), .int (.ofInt x2), .int (.ofInt x3)] σ Q := by
  show jg_G w 1 mm_X12_wayBy 0 [.ref a0, .int (.ofInt x1), .int (.ofInt x2), .int (.ofInt x3), mj_U, mj_U] [] σ (jg_QI Q)
  refine jg_A (pc' := 1) rfl rfl (fun _ _ _ => rfl) ?_
  refine jg_A (pc' := 3) (ls' := [.ref a0, .int (.ofInt x1), .int (.ofInt x2), .int (.ofInt x3), .int (.ofInt x1), mj_U]) rfl rfl (fun _ _ _ => rfl) ?_
  refine jg_A (pc' := 4) rfl rfl (fun _ _ _ => rfl) ?_
  refine jg_A (pc' := 6) (ls' := [.ref a0, .int (.ofInt x1), .int (.ofInt x2), .int (.ofInt x3), .int (.ofInt x1), .int (.ofInt 0)]) rfl rfl (fun _ _ _ => rfl) ?_
  exact h
set_option maxRecDepth 100000 in
set_option maxHeartbeats 4000000 in
theorem jb_X12_wayBy_6 {w : Nat} {a0 : Nat} {u1 : Value} {x2 : Int} {x3 : Int} {x4 : Int} {x5 : Int} {σ : jg_M} {Q : Int → jg_M → Prop} (h0 : jg_sh a0 = (12, 0)) (h : (if jg_wr x3 ≤ jg_wr x5 then Q x4 σ else (if jg_wr x4 < 0 then Q x4 σ else jg_CI w 0 mm_X12_moveBy [.ref a0, .int (.ofInt x2), .int (.ofInt x5)] σ (fun (z102 : Int) (m101 : jg_M) => ((0 : Int) ≤ jg_wr ((12 * x4) + z102) ∧ jg_wr ((12 * x4) + z102) < (1152 : Int)) ∧ ∀ t103 : Int, t103 = (m101.1 (a0 + 16) (jg_wr ((12 * x4) + z102))) → jg_GI w 1 mm_X12_wayBy 6 [.ref a0, u1, .int (.ofInt x2), .int (.ofInt x3), .int (.ofInt t103), .int (.ofInt (x5 + 1))] m101 Q)))) : jg_GI w 1 mm_X12_wayBy 6 [.ref a0, u1, .int (.ofInt x2), .int (.ofInt x3), .int (.ofInt x4), .int (.ofInt x5)] σ Q := by
  show jg_G w 1 mm_X12_wayBy 6 [.ref a0, u1, .int (.ofInt x2), .int (.ofInt x3), .int (.ofInt x4), .int (.ofInt x5)] [] σ (jg_QI Q)
  refine jg_A (pc' := 8) rfl rfl (fun _ _ _ => rfl) ?_
  refine jg_A (pc' := 9) rfl rfl (fun _ _ _ => rfl) ?_
  refine jg_cge (pc' := 12) rfl rfl (fun hc => ?_) (fun hc => ?_)
  · have h := jg_t h (show jg_wr x3 ≤ jg_wr x5 from hc)
    refine jg_A (pc' := 45) rfl rfl (fun _ _ _ => rfl) ?_
    exact jg_iret rfl rfl h
  · have h := jg_f h (show ¬ (jg_wr x3 ≤ jg_wr x5) from hc)
    refine jg_A (pc' := 14) rfl rfl (fun _ _ _ => rfl) ?_
    refine jg_iflt (pc' := 17) rfl rfl (fun hc => ?_) (fun hc => ?_)
    · have h := jg_t h (show jg_wr x4 < 0 from hc)
      refine jg_A (pc' := 45) rfl rfl (fun _ _ _ => rfl) ?_
      exact jg_iret rfl rfl h
    · have h := jg_f h (show ¬ (jg_wr x4 < 0) from hc)
      refine jg_A (pc' := 18) rfl rfl (fun _ _ _ => rfl) ?_
      refine jg_getO (pc' := 21) (k := 16) rfl h0 (by decide) rfl rfl ?_
      refine jg_A (pc' := 23) rfl rfl (fun _ _ _ => rfl) ?_
      refine jg_A (pc' := 25) rfl rfl (fun _ _ _ => rfl) ?_
      refine jg_imul (pc' := 26) rfl rfl ?_
      refine jg_A (pc' := 27) rfl rfl (fun _ _ _ => rfl) ?_
      refine jg_A (pc' := 28) rfl rfl (fun _ _ _ => rfl) ?_
      refine jg_A (pc' := 30) rfl rfl (fun _ _ _ => rfl) ?_
      refine jg_calX (M1 := mm_X12_moveBy) (hy := 0) (pc' := 33) rfl jm_X12_moveBy (by decide) rfl h0 (by decide) ⟨Nat.le_of_ble_eq_true rfl, rfl⟩ (Nat.le_of_ble_eq_true rfl) rfl h (jg_kI (fun z102 m101 h => ?_))
      refine jg_iadd (pc' := 34) rfl rfl ?_
      obtain ⟨hg, h⟩ := h
      refine jg_iald (pc' := 35) rfl (jg_sX12_25 h0) hg rfl ?_
      refine jg_nm (F := fun t103 => jg_G w 1 mm_X12_wayBy 35 [.ref a0, u1, .int (.ofInt x2), .int (.ofInt x3), .int (.ofInt x4), .int (.ofInt x5)] [.int (.ofInt t103)] m101 (jg_QI Q)) (m101.1 (a0 + 16) (jg_wr ((12 * x4) + z102))) (fun t103 ht103 => ?_)
      have h := h t103 ht103
      refine jg_A (pc' := 37) (ls' := [.ref a0, u1, .int (.ofInt x2), .int (.ofInt x3), .int (.ofInt t103), .int (.ofInt x5)]) rfl rfl (fun _ _ _ => rfl) ?_
      refine jg_iinc (pc' := 40) (ls' := [.ref a0, u1, .int (.ofInt x2), .int (.ofInt x3), .int (.ofInt t103), .int (.ofInt (x5 + 1))]) rfl rfl rfl rfl ?_
      refine jg_goto rfl ?_
      exact h
set_option maxRecDepth 100000 in
set_option maxHeartbeats 4000000 in
theorem jb_X12_layIncludes_0 {w : Nat} {a0 : Nat} {σ : jg_M} {Q : jg_M → Prop} (h0 : jg_sh a0 = (12, 0)) (h : jg_GV w 3 mm_X12_layIncludes 2 [.ref a0, .int (.ofInt 0), mj_U, mj_U, mj_U, mj_U, mj_U, mj_U] σ Q) : jg_CV w 3 mm_X12_layIncludes [.ref a0] σ Q := by
  show jg_G w 3 mm_X12_layIncludes 0 [.ref a0, mj_U, mj_U, mj_U, mj_U, mj_U, mj_U, mj_U] [] σ (jg_QV Q)
  refine jg_A (pc' := 1) rfl rfl (fun _ _ _ => rfl) ?_
  refine jg_A (pc' := 2) (ls' := [.ref a0, .int (.ofInt 0), mj_U, mj_U, mj_U, mj_U, mj_U, mj_U]) rfl rfl (fun _ _ _ => rfl) ?_
  exact h
set_option maxRecDepth 100000 in
set_option maxHeartbeats 4000000 in
theorem jb_X12_layIncludes_2 {w : Nat} {a0 : Nat} {x1 : Int} {u2 : Value} {u3 : Value} {u4 : Value} {u5 : Value} {u6 : Value} {u7 : Value} {σ : jg_M} {Q : jg_M → Prop} (h0 : jg_sh a0 = (12, 0)) (h : (if 1920 ≤ jg_wr x1 then jg_GV w 3 mm_X12_layIncludes 24 [.ref a0, .int (.ofInt 0), u2, u3, u4, u5, u6, u7] σ Q else ((0 : Int) ≤ (jg_wr x1) ∧ (jg_wr x1) < (1920 : Int)) ∧ ∀ m101 : jg_M, m101 = jg_sI σ (a0 + 27) (jg_wr x1) 0 → jg_GV w 3 mm_X12_layIncludes 2 [.ref a0, .int (.ofInt (x1 + 1)), u2, u3, u4, u5, u6, u7] m101 Q)) : jg_GV w 3 mm_X12_layIncludes 2 [.ref a0, .int (.ofInt x1), u2, u3, u4, u5, u6, u7] σ Q := by
  show jg_G w 3 mm_X12_layIncludes 2 [.ref a0, .int (.ofInt x1), u2, u3, u4, u5, u6, u7] [] σ (jg_QV Q)
  refine jg_A (pc' := 3) rfl rfl (fun _ _ _ => rfl) ?_
  refine jg_A (pc' := 6) rfl rfl (fun _ _ _ => rfl) ?_
  refine jg_cge (pc' := 9) rfl rfl (fun hc => ?_) (fun hc => ?_)
  · have h := jg_t h (show 1920 ≤ jg_wr x1 from hc)
    refine jg_A (pc' := 23) rfl rfl (fun _ _ _ => rfl) ?_
    refine jg_A (pc' := 24) (ls' := [.ref a0, .int (.ofInt 0), u2, u3, u4, u5, u6, u7]) rfl rfl (fun _ _ _ => rfl) ?_
    exact h
  · have h := jg_f h (show ¬ (1920 ≤ jg_wr x1) from hc)
    refine jg_A (pc' := 10) rfl rfl (fun _ _ _ => rfl) ?_
    refine jg_getO (pc' := 13) (k := 27) rfl h0 (by decide) rfl rfl ?_
    refine jg_A (pc' := 14) rfl rfl (fun _ _ _ => rfl) ?_
    refine jg_A (pc' := 15) rfl rfl (fun _ _ _ => rfl) ?_
    obtain ⟨hg, h⟩ := h
    refine jg_iast (pc' := 16) rfl (jg_sX12_41 h0) hg rfl (fun m101 hm101 => ?_)
    have h := h m101 hm101
    refine jg_iinc (pc' := 19) (ls' := [.ref a0, .int (.ofInt (x1 + 1)), u2, u3, u4, u5, u6, u7]) rfl rfl rfl rfl ?_
    refine jg_goto rfl ?_
    exact h
set_option maxRecDepth 100000 in
set_option maxHeartbeats 4000000 in
theorem jb_X12_layIncludes_24 {w : Nat} {a0 : Nat} {x1 : Int} {u2 : Value} {u3 : Value} {u4 : Value} {u5 : Value} {u6 : Value} {u7 : Value} {σ : jg_M} {Q : jg_M → Prop} (h0 : jg_sh a0 = (12, 0)) (h : (if jg_wr (σ.1 (a0 + 13) (0)) ≤ jg_wr x1 then Q σ else jg_GV w 3 mm_X12_layIncludes 36 [.ref a0, .int (.ofInt x1), .int (.ofInt 0), u3, u4, u5, u6, u7] σ Q)) : jg_GV w 3 mm_X12_layIncludes 24 [.ref a0, .int (.ofInt x1), u2, u3, u4, u5, u6, u7] σ Q := by
  show jg_G w 3 mm_X12_layIncludes 24 [.ref a0, .int (.ofInt x1), u2, u3, u4, u5, u6, u7] [] σ (jg_QV Q)
  refine jg_A (pc' := 25) rfl rfl (fun _ _ _ => rfl) ?_
  refine jg_A (pc' := 26) rfl rfl (fun _ _ _ => rfl) ?_
  refine jg_getO (pc' := 29) (k := 13) rfl h0 (by decide) rfl rfl ?_
  refine jg_A (pc' := 30) rfl rfl (fun _ _ _ => rfl) ?_
  refine jg_ialdK (pc' := 31) (xi := 0) rfl (jg_sX12_22 h0) (by decide) (by decide) rfl ?_
  refine jg_cge (pc' := 34) rfl rfl (fun hc => ?_) (fun hc => ?_)
  · have h := jg_t h (show jg_wr (σ.1 (a0 + 13) (0)) ≤ jg_wr x1 from hc)
    exact jg_vret rfl rfl h
  · have h := jg_f h (show ¬ (jg_wr (σ.1 (a0 + 13) (0)) ≤ jg_wr x1) from hc)
    refine jg_A (pc' := 35) rfl rfl (fun _ _ _ => rfl) ?_
    refine jg_A (pc' := 36) (ls' := [.ref a0, .int (.ofInt x1), .int (.ofInt 0), u3, u4, u5, u6, u7]) rfl rfl (fun _ _ _ => rfl) ?_
    exact h
set_option maxRecDepth 100000 in
set_option maxHeartbeats 4000000 in
theorem jb_X12_layIncludes_36 {w : Nat} {a0 : Nat} {x1 : Int} {x2 : Int} {u3 : Value} {u4 : Value} {u5 : Value} {u6 : Value} {u7 : Value} {σ : jg_M} {Q : jg_M → Prop} (h0 : jg_sh a0 = (12, 0)) (h : (if jg_wr (σ.1 (a0 + 5) (0)) ≤ jg_wr x2 then jg_GV w 3 mm_X12_layIncludes 24 [.ref a0, .int (.ofInt (x1 + 1)), .int (.ofInt x2), u3, u4, u5, u6, u7] σ Q else ((0 : Int) ≤ jg_wr x2 ∧ jg_wr x2 < (26 : Int)) ∧ ∀ t101 : Int, t101 = (σ.1 (a0 + 10) (jg_wr x2)) → jg_GV w 3 mm_X12_layIncludes 56 [.ref a0, .int (.ofInt x1), .int (.ofInt x2), .int (.ofInt t101), .int (.ofInt 0), u5, u6, u7] σ Q)) : jg_GV w 3 mm_X12_layIncludes 36 [.ref a0, .int (.ofInt x1), .int (.ofInt x2), u3, u4, u5, u6, u7] σ Q := by
  show jg_G w 3 mm_X12_layIncludes 36 [.ref a0, .int (.ofInt x1), .int (.ofInt x2), u3, u4, u5, u6, u7] [] σ (jg_QV Q)
  refine jg_A (pc' := 37) rfl rfl (fun _ _ _ => rfl) ?_
  refine jg_A (pc' := 38) rfl rfl (fun _ _ _ => rfl) ?_
  refine jg_getO (pc' := 41) (k := 5) rfl h0 (by decide) rfl rfl ?_
  refine jg_A (pc' := 42) rfl rfl (fun _ _ _ => rfl) ?_
  refine jg_ialdK (pc' := 43) (xi := 0) rfl (jg_sX12_14 h0) (by decide) (by decide) rfl ?_
  refine jg_cge (pc' := 46) rfl rfl (fun hc => ?_) (fun hc => ?_)
  · have h := jg_t h (show jg_wr (σ.1 (a0 + 5) (0)) ≤ jg_wr x2 from hc)
    refine jg_iinc (pc' := 195) (ls' := [.ref a0, .int (.ofInt (x1 + 1)), .int (.ofInt x2), u3, u4, u5, u6, u7]) rfl rfl rfl rfl ?_
    refine jg_goto rfl ?_
    exact h
  · have h := jg_f h (show ¬ (jg_wr (σ.1 (a0 + 5) (0)) ≤ jg_wr x2) from hc)
    refine jg_A (pc' := 47) rfl rfl (fun _ _ _ => rfl) ?_
    refine jg_getO (pc' := 50) (k := 10) rfl h0 (by decide) rfl rfl ?_
    refine jg_A (pc' := 51) rfl rfl (fun _ _ _ => rfl) ?_
    obtain ⟨hg, h⟩ := h
    refine jg_iald (pc' := 52) rfl (jg_sX12_19 h0) hg rfl ?_
    refine jg_nm (F := fun t101 => jg_G w 3 mm_X12_layIncludes 52 [.ref a0, .int (.ofInt x1), .int (.ofInt x2), u3, u4, u5, u6, u7] [.int (.ofInt t101)] σ (jg_QV Q)) (σ.1 (a0 + 10) (jg_wr x2)) (fun t101 ht101 => ?_)
    have h := h t101 ht101
    refine jg_A (pc' := 53) (ls' := [.ref a0, .int (.ofInt x1), .int (.ofInt x2), .int (.ofInt t101), u4, u5, u6, u7]) rfl rfl (fun _ _ _ => rfl) ?_
    refine jg_A (pc' := 54) rfl rfl (fun _ _ _ => rfl) ?_
    refine jg_A (pc' := 56) (ls' := [.ref a0, .int (.ofInt x1), .int (.ofInt x2), .int (.ofInt t101), .int (.ofInt 0), u5, u6, u7]) rfl rfl (fun _ _ _ => rfl) ?_
    exact h
set_option maxRecDepth 100000 in
set_option maxHeartbeats 4000000 in
theorem jb_X12_layIncludes_56 {w : Nat} {a0 : Nat} {x1 : Int} {x2 : Int} {x3 : Int} {x4 : Int} {u5 : Value} {u6 : Value} {u7 : Value} {σ : jg_M} {Q : jg_M → Prop} (h0 : jg_sh a0 = (12, 0)) (h : jg_CI w 0 mm_X12_longOf [.ref a0, .int (.ofInt x2)] σ (fun (z102 : Int) (m101 : jg_M) => (if jg_wr z102 ≤ jg_wr x4 then jg_CI w 0 mm_X12_kindMove [.ref a0, .int (.ofInt x1), .int (.ofInt x3)] m101 (fun (z104 : Int) (m103 : jg_M) => (if jg_wr z104 < 0 then ∀ m105 : jg_M, m105 = jg_sI m103 (a0 + 28) 3 ((m101.1 (a0 + 28) (3)) + 0) → jg_GV w 3 mm_X12_layIncludes 36 [.ref a0, .int (.ofInt x1), .int (.ofInt (x2 + 1)), .int (.ofInt x3), .int (.ofInt x4), u5, u6, u7] m105 Q else ∀ m106 : jg_M, m106 = jg_sI m103 (a0 + 28) 3 ((m101.1 (a0 + 28) (3)) + 1) → jg_GV w 3 mm_X12_layIncludes 36 [.ref a0, .int (.ofInt x1), .int (.ofInt (x2 + 1)), .int (.ofInt x3), .int (.ofInt x4), u5, u6, u7] m106 Q)) else jg_CI w 0 mm_X12_kindMove [.ref a0, .int (.ofInt x1), .int (.ofInt x3)] m101 (fun (z108 : Int) (m107 : jg_M) => (if jg_wr z108 < 0 then jg_CI w 0 mm_X12_kindMove [.ref a0, .int (.ofInt x1), .int (.ofInt x3)] m107 (fun (z110 : Int) (m109 : jg_M) => (if jg_wr z110 < 0 then ∀ m111 : jg_M, m111 = jg_sI m109 (a0 + 28) 3 ((m107.1 (a0 + 28) (3)) + 0) → jg_GV w 3 mm_X12_layIncludes 36 [.ref a0, .int (.ofInt x1), .int (.ofInt (x2 + 1)), .int (.ofInt x3), .int (.ofInt x4), u5, u6, u7] m111 Q else ∀ m112 : jg_M, m112 = jg_sI m109 (a0 + 28) 3 ((m107.1 (a0 + 28) (3)) + 1) → jg_GV w 3 mm_X12_layIncludes 36 [.ref a0, .int (.ofInt x1), .int (.ofInt (x2 + 1)), .int (.ofInt x3), .int (.ofInt x4), u5, u6, u7] m112 Q)) else jg_CI w 0 mm_X12_moveBy [.ref a0, .int (.ofInt x2), .int (.ofInt x4)] m107 (fun (z114 : Int) (m113 : jg_M) => (if jg_wr z114 < 7 then jg_GV w 3 mm_X12_layIncludes 56 [.ref a0, .int (.ofInt x1), .int (.ofInt x2), .int (.ofInt x3), .int (.ofInt (x4 + 1)), .int (.ofInt z114), u6, u7] m113 Q else jg_CI w 2 mm_X12_isEmptyFrom [.ref a0, .int (.ofInt x2), .int (.ofInt (x4 + 1))] m113 (fun (z116 : Int) (m115 : jg_M) => (if jg_wr z116 = 0 then jg_GV w 3 mm_X12_layIncludes 56 [.ref a0, .int (.ofInt x1), .int (.ofInt x2), .int (.ofInt x3), .int (.ofInt (x4 + 1)), .int (.ofInt z114), u6, u7] m115 Q else jg_CI w 1 mm_X12_wayBy [.ref a0, .int (.ofInt x1), .int (.ofInt x2), .int (.ofInt x4)] m115 (fun (z118 : Int) (m117 : jg_M) => ∀ t119 : Int, t119 = (((5 * z118) + z114) - 7) → ∀ t120 : Int, t120 = ((5 * x1) + x3) → ((0 : Int) ≤ jg_wr ((8 * t119) + (jg_div t120 30)) ∧ jg_wr ((8 * t119) + (jg_div t120 30)) < (1920 : Int)) ∧ ((0 : Int) ≤ (jg_wr ((8 * t119) + (jg_div t120 30))) ∧ (jg_wr ((8 * t119) + (jg_div t120 30))) < (1920 : Int)) ∧ ∀ m121 : jg_M, m121 = jg_sI m117 (a0 + 27) (jg_wr ((8 * t119) + (jg_div t120 30))) (jg_or (m117.1 (a0 + 27) (jg_wr ((8 * t119) + (jg_div t120 30)))) (jg_shl 1 (jg_rem t120 30))) → jg_GV w 3 mm_X12_layIncludes 56 [.ref a0, .int (.ofInt x1), .int (.ofInt x2), .int (.ofInt x3), .int (.ofInt (x4 + 1)), .int (.ofInt z114), .int (.ofInt t119), .int (.ofInt t120)] m121 Q)))))))))) : jg_GV w 3 mm_X12_layIncludes 56 [.ref a0, .int (.ofInt x1), .int (.ofInt x2), .int (.ofInt x3), .int (.ofInt x4), u5, u6, u7] σ Q := by
  show jg_G w 3 mm_X12_layIncludes 56 [.ref a0, .int (.ofInt x1), .int (.ofInt x2), .int (.ofInt x3), .int (.ofInt x4), u5, u6, u7] [] σ (jg_QV Q)
  refine jg_A (pc' := 58) rfl rfl (fun _ _ _ => rfl) ?_
  refine jg_A (pc' := 59) rfl rfl (fun _ _ _ => rfl) ?_
  refine jg_A (pc' := 60) rfl rfl (fun _ _ _ => rfl) ?_
  refine jg_calX (M1 := mm_X12_longOf) (hy := 0) (pc' := 63) rfl jm_X12_longOf (by decide) rfl h0 (by decide) ⟨Nat.le_of_ble_eq_true rfl, rfl⟩ (Nat.le_of_ble_eq_true rfl) rfl h (jg_kI (fun z102 m101 h => ?_))
  refine jg_cge (pc' := 66) rfl rfl (fun hc => ?_) (fun hc => ?_)
  · have h := jg_t h (show jg_wr z102 ≤ jg_wr x4 from hc)
    refine jg_A (pc' := 164) rfl rfl (fun _ _ _ => rfl) ?_
    refine jg_getO (pc' := 167) (k := 28) rfl h0 (by decide) rfl rfl ?_
    refine jg_A (pc' := 168) rfl rfl (fun _ _ _ => rfl) ?_
    refine jg_A (pc' := 169) rfl rfl (fun _ _ _ => rfl) ?_
    refine jg_ialdK (pc' := 170) (xi := 3) rfl (jg_sX12_42 h0) (by decide) (by decide) rfl ?_
    refine jg_A (pc' := 171) rfl rfl (fun _ _ _ => rfl) ?_
    refine jg_A (pc' := 172) rfl rfl (fun _ _ _ => rfl) ?_
    refine jg_A (pc' := 173) rfl rfl (fun _ _ _ => rfl) ?_
    refine jg_calX (M1 := mm_X12_kindMove) (hy := 0) (pc' := 176) rfl jm_X12_kindMove (by decide) rfl h0 (by decide) ⟨Nat.le_of_ble_eq_true rfl, rfl⟩ (Nat.le_of_ble_eq_true rfl) rfl h (jg_kI (fun z104 m103 h => ?_))
    refine jg_iflt (pc' := 179) rfl rfl (fun hc => ?_) (fun hc => ?_)
    · have h := jg_t h (show jg_wr z104 < 0 from hc)
      refine jg_A (pc' := 184) rfl rfl (fun _ _ _ => rfl) ?_
      refine jg_iadd (pc' := 185) rfl rfl ?_
      refine jg_iastK (pc' := 186) (xi := 3) rfl (jg_sX12_42 h0) (by decide) (by decide) rfl (fun m105 hm105 => ?_)
      have h := h m105 hm105
      refine jg_iinc (pc' := 189) (ls' := [.ref a0, .int (.ofInt x1), .int (.ofInt (x2 + 1)), .int (.ofInt x3), .int (.ofInt x4), u5, u6, u7]) rfl rfl rfl rfl ?_
      refine jg_goto rfl ?_
      exact h
    · have h := jg_f h (show ¬ (jg_wr z104 < 0) from hc)
      refine jg_A (pc' := 180) rfl rfl (fun _ _ _ => rfl) ?_
      refine jg_goto rfl ?_
      refine jg_iadd (pc' := 185) rfl rfl ?_
      refine jg_iastK (pc' := 186) (xi := 3) rfl (jg_sX12_42 h0) (by decide) (by decide) rfl (fun m106 hm106 => ?_)
      have h := h m106 hm106
      refine jg_iinc (pc' := 189) (ls' := [.ref a0, .int (.ofInt x1), .int (.ofInt (x2 + 1)), .int (.ofInt x3), .int (.ofInt x4), u5, u6, u7]) rfl rfl rfl rfl ?_
      refine jg_goto rfl ?_
      exact h
  · have h := jg_f h (show ¬ (jg_wr z102 ≤ jg_wr x4) from hc)
    refine jg_A (pc' := 67) rfl rfl (fun _ _ _ => rfl) ?_
    refine jg_A (pc' := 68) rfl rfl (fun _ _ _ => rfl) ?_
    refine jg_A (pc' := 69) rfl rfl (fun _ _ _ => rfl) ?_
    refine jg_calX (M1 := mm_X12_kindMove) (hy := 0) (pc' := 72) rfl jm_X12_kindMove (by decide) rfl h0 (by decide) ⟨Nat.le_of_ble_eq_true rfl, rfl⟩ (Nat.le_of_ble_eq_true rfl) rfl h (jg_kI (fun z108 m107 h => ?_))
    refine jg_iflt (pc' := 75) rfl rfl (fun hc => ?_) (fun hc => ?_)
    · have h := jg_t h (show jg_wr z108 < 0 from hc)
      refine jg_A (pc' := 164) rfl rfl (fun _ _ _ => rfl) ?_
      refine jg_getO (pc' := 167) (k := 28) rfl h0 (by decide) rfl rfl ?_
      refine jg_A (pc' := 168) rfl rfl (fun _ _ _ => rfl) ?_
      refine jg_A (pc' := 169) rfl rfl (fun _ _ _ => rfl) ?_
      refine jg_ialdK (pc' := 170) (xi := 3) rfl (jg_sX12_42 h0) (by decide) (by decide) rfl ?_
      refine jg_A (pc' := 171) rfl rfl (fun _ _ _ => rfl) ?_
      refine jg_A (pc' := 172) rfl rfl (fun _ _ _ => rfl) ?_
      refine jg_A (pc' := 173) rfl rfl (fun _ _ _ => rfl) ?_
      refine jg_calX (M1 := mm_X12_kindMove) (hy := 0) (pc' := 176) rfl jm_X12_kindMove (by decide) rfl h0 (by decide) ⟨Nat.le_of_ble_eq_true rfl, rfl⟩ (Nat.le_of_ble_eq_true rfl) rfl h (jg_kI (fun z110 m109 h => ?_))
      refine jg_iflt (pc' := 179) rfl rfl (fun hc => ?_) (fun hc => ?_)
      · have h := jg_t h (show jg_wr z110 < 0 from hc)
        refine jg_A (pc' := 184) rfl rfl (fun _ _ _ => rfl) ?_
        refine jg_iadd (pc' := 185) rfl rfl ?_
        refine jg_iastK (pc' := 186) (xi := 3) rfl (jg_sX12_42 h0) (by decide) (by decide) rfl (fun m111 hm111 => ?_)
        have h := h m111 hm111
        refine jg_iinc (pc' := 189) (ls' := [.ref a0, .int (.ofInt x1), .int (.ofInt (x2 + 1)), .int (.ofInt x3), .int (.ofInt x4), u5, u6, u7]) rfl rfl rfl rfl ?_
        refine jg_goto rfl ?_
        exact h
      · have h := jg_f h (show ¬ (jg_wr z110 < 0) from hc)
        refine jg_A (pc' := 180) rfl rfl (fun _ _ _ => rfl) ?_
        refine jg_goto rfl ?_
        refine jg_iadd (pc' := 185) rfl rfl ?_
        refine jg_iastK (pc' := 186) (xi := 3) rfl (jg_sX12_42 h0) (by decide) (by decide) rfl (fun m112 hm112 => ?_)
        have h := h m112 hm112
        refine jg_iinc (pc' := 189) (ls' := [.ref a0, .int (.ofInt x1), .int (.ofInt (x2 + 1)), .int (.ofInt x3), .int (.ofInt x4), u5, u6, u7]) rfl rfl rfl rfl ?_
        refine jg_goto rfl ?_
        exact h
    · have h := jg_f h (show ¬ (jg_wr z108 < 0) from hc)
      refine jg_A (pc' := 76) rfl rfl (fun _ _ _ => rfl) ?_
      refine jg_A (pc' := 77) rfl rfl (fun _ _ _ => rfl) ?_
      refine jg_A (pc' := 79) rfl rfl (fun _ _ _ => rfl) ?_
      refine jg_calX (M1 := mm_X12_moveBy) (hy := 0) (pc' := 82) rfl jm_X12_moveBy (by decide) rfl h0 (by decide) ⟨Nat.le_of_ble_eq_true rfl, rfl⟩ (Nat.le_of_ble_eq_true rfl) rfl h (jg_kI (fun z114 m113 h => ?_))
      refine jg_A (pc' := 84) (ls' := [.ref a0, .int (.ofInt x1), .int (.ofInt x2), .int (.ofInt x3), .int (.ofInt x4), .int (.ofInt z114), u6, u7]) rfl rfl (fun _ _ _ => rfl) ?_
      refine jg_A (pc' := 86) rfl rfl (fun _ _ _ => rfl) ?_
      refine jg_A (pc' := 88) rfl rfl (fun _ _ _ => rfl) ?_
      refine jg_clt (pc' := 91) rfl rfl (fun hc => ?_) (fun hc => ?_)
      · have h := jg_t h (show jg_wr z114 < 7 from hc)
        refine jg_iinc (pc' := 160) (ls' := [.ref a0, .int (.ofInt x1), .int (.ofInt x2), .int (.ofInt x3), .int (.ofInt (x4 + 1)), .int (.ofInt z114), u6, u7]) rfl rfl rfl rfl ?_
        refine jg_goto rfl ?_
        exact h
      · have h := jg_f h (show ¬ (jg_wr z114 < 7) from hc)
        refine jg_A (pc' := 92) rfl rfl (fun _ _ _ => rfl) ?_
        refine jg_A (pc' := 93) rfl rfl (fun _ _ _ => rfl) ?_
        refine jg_A (pc' := 95) rfl rfl (fun _ _ _ => rfl) ?_
        refine jg_A (pc' := 96) rfl rfl (fun _ _ _ => rfl) ?_
        refine jg_iadd (pc' := 97) rfl rfl ?_
        refine jg_calX (M1 := mm_X12_isEmptyFrom) (hy := 2) (pc' := 100) rfl jm_X12_isEmptyFrom (by decide) rfl h0 (by decide) ⟨Nat.le_of_ble_eq_true rfl, rfl⟩ (Nat.le_of_ble_eq_true rfl) rfl h (jg_kI (fun z116 m115 h => ?_))
        refine jg_ifne (pc' := 103) rfl rfl (fun hc => ?_) (fun hc => ?_)
        · have h := jg_t h (show jg_wr z116 = 0 from hc)
          refine jg_goto rfl ?_
          refine jg_iinc (pc' := 160) (ls' := [.ref a0, .int (.ofInt x1), .int (.ofInt x2), .int (.ofInt x3), .int (.ofInt (x4 + 1)), .int (.ofInt z114), u6, u7]) rfl rfl rfl rfl ?_
          refine jg_goto rfl ?_
          exact h
        · have h := jg_f h (show ¬ (jg_wr z116 = 0) from hc)
          refine jg_A (pc' := 107) rfl rfl (fun _ _ _ => rfl) ?_
          refine jg_A (pc' := 108) rfl rfl (fun _ _ _ => rfl) ?_
          refine jg_A (pc' := 109) rfl rfl (fun _ _ _ => rfl) ?_
          refine jg_A (pc' := 110) rfl rfl (fun _ _ _ => rfl) ?_
          refine jg_A (pc' := 112) rfl rfl (fun _ _ _ => rfl) ?_
          refine jg_calX (M1 := mm_X12_wayBy) (hy := 1) (pc' := 115) rfl jm_X12_wayBy (by decide) rfl h0 (by decide) ⟨Nat.le_of_ble_eq_true rfl, rfl⟩ (Nat.le_of_ble_eq_true rfl) rfl h (jg_kI (fun z118 m117 h => ?_))
          refine jg_imul (pc' := 116) rfl rfl ?_
          refine jg_A (pc' := 118) rfl rfl (fun _ _ _ => rfl) ?_
          refine jg_iadd (pc' := 119) rfl rfl ?_
          refine jg_A (pc' := 121) rfl rfl (fun _ _ _ => rfl) ?_
          refine jg_isub (pc' := 122) rfl rfl ?_
          refine jg_nm (F := fun t119 => jg_G w 3 mm_X12_layIncludes 122 [.ref a0, .int (.ofInt x1), .int (.ofInt x2), .int (.ofInt x3), .int (.ofInt x4), .int (.ofInt z114), u6, u7] [.int (.ofInt t119)] m117 (jg_QV Q)) (((5 * z118) + z114) - 7) (fun t119 ht119 => ?_)
          have h := h t119 ht119
          refine jg_A (pc' := 124) (ls' := [.ref a0, .int (.ofInt x1), .int (.ofInt x2), .int (.ofInt x3), .int (.ofInt x4), .int (.ofInt z114), .int (.ofInt t119), u7]) rfl rfl (fun _ _ _ => rfl) ?_
          refine jg_A (pc' := 125) rfl rfl (fun _ _ _ => rfl) ?_
          refine jg_A (pc' := 126) rfl rfl (fun _ _ _ => rfl) ?_
          refine jg_imul (pc' := 127) rfl rfl ?_
          refine jg_A (pc' := 128) rfl rfl (fun _ _ _ => rfl) ?_
          refine jg_iadd (pc' := 129) rfl rfl ?_
          refine jg_nm (F := fun t120 => jg_G w 3 mm_X12_layIncludes 129 [.ref a0, .int (.ofInt x1), .int (.ofInt x2), .int (.ofInt x3), .int (.ofInt x4), .int (.ofInt z114), .int (.ofInt t119), u7] [.int (.ofInt t120)] m117 (jg_QV Q)) ((5 * x1) + x3) (fun t120 ht120 => ?_)
          have h := h t120 ht120
          refine jg_A (pc' := 131) (ls' := [.ref a0, .int (.ofInt x1), .int (.ofInt x2), .int (.ofInt x3), .int (.ofInt x4), .int (.ofInt z114), .int (.ofInt t119), .int (.ofInt t120)]) rfl rfl (fun _ _ _ => rfl) ?_
          refine jg_A (pc' := 132) rfl rfl (fun _ _ _ => rfl) ?_
          refine jg_getO (pc' := 135) (k := 27) rfl h0 (by decide) rfl rfl ?_
          refine jg_A (pc' := 137) rfl rfl (fun _ _ _ => rfl) ?_
          refine jg_A (pc' := 139) rfl rfl (fun _ _ _ => rfl) ?_
          refine jg_imul (pc' := 140) rfl rfl ?_
          refine jg_A (pc' := 142) rfl rfl (fun _ _ _ => rfl) ?_
          refine jg_A (pc' := 144) rfl rfl (fun _ _ _ => rfl) ?_
          refine jg_idiv (pc' := 145) rfl rfl (by decide) ?_
          refine jg_iadd (pc' := 146) rfl rfl ?_
          refine jg_A (pc' := 147) rfl rfl (fun _ _ _ => rfl) ?_
          obtain ⟨hg, h⟩ := h
          refine jg_iald (pc' := 148) rfl (jg_sX12_41 h0) hg rfl ?_
          refine jg_A (pc' := 149) rfl rfl (fun _ _ _ => rfl) ?_
          refine jg_A (pc' := 151) rfl rfl (fun _ _ _ => rfl) ?_
          refine jg_A (pc' := 153) rfl rfl (fun _ _ _ => rfl) ?_
          refine jg_irem (pc' := 154) rfl rfl (by decide) ?_
          refine jg_ishl (pc' := 155) rfl rfl ?_
          refine jg_ior (pc' := 156) rfl rfl ?_
          obtain ⟨hg, h⟩ := h
          refine jg_iast (pc' := 157) rfl (jg_sX12_41 h0) hg rfl (fun m121 hm121 => ?_)
          have h := h m121 hm121
          refine jg_iinc (pc' := 160) (ls' := [.ref a0, .int (.ofInt x1), .int (.ofInt x2), .int (.ofInt x3), .int (.ofInt (x4 + 1)), .int (.ofInt z114), .int (.ofInt t119), .int (.ofInt t120)]) rfl rfl rfl rfl ?_
          refine jg_goto rfl ?_
          exact h
set_option maxRecDepth 100000 in
set_option maxHeartbeats 4000000 in
theorem jb_X12_isIncluded_0 {w : Nat} {a0 : Nat} {x1 : Int} {x2 : Int} {σ : jg_M} {Q : Int → jg_M → Prop} (h0 : jg_sh a0 = (12, 0)) (h : ((0 : Int) ≤ jg_wr ((8 * x1) + (jg_div x2 30)) ∧ jg_wr ((8 * x1) + (jg_div x2 30)) < (1920 : Int)) ∧ jg_CI w 0 mm_X12_isOf [.int (.ofInt (σ.1 (a0 + 27) (jg_wr ((8 * x1) + (jg_div x2 30))))), .int (.ofInt (jg_rem x2 30))] σ (fun (z102 : Int) (m101 : jg_M) => ((jg_wr z102 = 0 ∨ jg_wr z102 = 1) ∧ Q z102 m101))) : jg_CI w 1 mm_X12_isIncluded [.ref a0, .int (.ofInt x1), .int (.ofInt x2)] σ Q := by
  show jg_G w 1 mm_X12_isIncluded 0 [.ref a0, .int (.ofInt x1), .int (.ofInt x2)] [] σ (jg_QI Q)
  refine jg_A (pc' := 1) rfl rfl (fun _ _ _ => rfl) ?_
  refine jg_getO (pc' := 4) (k := 27) rfl h0 (by decide) rfl rfl ?_
  refine jg_A (pc' := 6) rfl rfl (fun _ _ _ => rfl) ?_
  refine jg_A (pc' := 7) rfl rfl (fun _ _ _ => rfl) ?_
  refine jg_imul (pc' := 8) rfl rfl ?_
  refine jg_A (pc' := 9) rfl rfl (fun _ _ _ => rfl) ?_
  refine jg_A (pc' := 11) rfl rfl (fun _ _ _ => rfl) ?_
  refine jg_idiv (pc' := 12) rfl rfl (by decide) ?_
  refine jg_iadd (pc' := 13) rfl rfl ?_
  obtain ⟨hg, h⟩ := h
  refine jg_iald (pc' := 14) rfl (jg_sX12_41 h0) hg rfl ?_
  refine jg_A (pc' := 15) rfl rfl (fun _ _ _ => rfl) ?_
  refine jg_A (pc' := 17) rfl rfl (fun _ _ _ => rfl) ?_
  refine jg_irem (pc' := 18) rfl rfl (by decide) ?_
  refine jg_calS (M1 := mm_X12_isOf) (hy := 0) (pc' := 21) rfl (Or.inl rfl) jm_X12_isOf (by decide) rfl ⟨Nat.le_of_ble_eq_true rfl, rfl⟩ (Nat.le_of_ble_eq_true rfl) rfl h (jg_kI (fun z102 m101 h => ?_))
  exact jg_zret rfl rfl h.1 h.2
set_option maxRecDepth 100000 in
set_option maxHeartbeats 4000000 in
theorem jb_X12_moreAfter_0 {w : Nat} {a0 : Nat} {x1 : Int} {σ : jg_M} {Q : Int → jg_M → Prop} (h0 : jg_sh a0 = (12, 0)) (h : ((0 : Int) ≤ jg_wr x1 ∧ jg_wr x1 < (240 : Int)) ∧ ∀ t101 : Int, t101 = (σ.1 (a0 + 26) (jg_wr x1)) → jg_CI w 0 mm_X12_kindMove [.ref a0, .int (.ofInt (jg_div x1 5)), .int (.ofInt (jg_rem x1 5))] σ (fun (z103 : Int) (m102 : jg_M) => jg_GI w 2 mm_X12_moreAfter 21 [.ref a0, .int (.ofInt x1), .int (.ofInt t101), .int (.ofInt z103), .int (.ofInt 0)] m102 Q)) : jg_CI w 2 mm_X12_moreAfter [.ref a0, .int (.ofInt x1)] σ Q := by
  show jg_G w 2 mm_X12_moreAfter 0 [.ref a0, .int (.ofInt x1), mj_U, mj_U, mj_U] [] σ (jg_QI Q)
  refine jg_A (pc' := 1) rfl rfl (fun _ _ _ => rfl) ?_
  refine jg_getO (pc' := 4) (k := 26) rfl h0 (by decide) rfl rfl ?_
  refine jg_A (pc' := 5) rfl rfl (fun _ _ _ => rfl) ?_
  obtain ⟨hg, h⟩ := h
  refine jg_iald (pc' := 6) rfl (jg_sX12_40 h0) hg rfl ?_
  refine jg_nm (F := fun t101 => jg_G w 2 mm_X12_moreAfter 6 [.ref a0, .int (.ofInt x1), mj_U, mj_U, mj_U] [.int (.ofInt t101)] σ (jg_QI Q)) (σ.1 (a0 + 26) (jg_wr x1)) (fun t101 ht101 => ?_)
  have h := h t101 ht101
  refine jg_A (pc' := 7) (ls' := [.ref a0, .int (.ofInt x1), .int (.ofInt t101), mj_U, mj_U]) rfl rfl (fun _ _ _ => rfl) ?_
  refine jg_A (pc' := 8) rfl rfl (fun _ _ _ => rfl) ?_
  refine jg_A (pc' := 9) rfl rfl (fun _ _ _ => rfl) ?_
  refine jg_A (pc' := 10) rfl rfl (fun _ _ _ => rfl) ?_
  refine jg_idiv (pc' := 11) rfl rfl (by decide) ?_
  refine jg_A (pc' := 12) rfl rfl (fun _ _ _ => rfl) ?_
  refine jg_A (pc' := 13) rfl rfl (fun _ _ _ => rfl) ?_
  refine jg_irem (pc' := 14) rfl rfl (by decide) ?_
  refine jg_calX (M1 := mm_X12_kindMove) (hy := 0) (pc' := 17) rfl jm_X12_kindMove (by decide) rfl h0 (by decide) ⟨Nat.le_of_ble_eq_true rfl, rfl⟩ (Nat.le_of_ble_eq_true rfl) rfl h (jg_kI (fun z103 m102 h => ?_))
  refine jg_A (pc' := 18) (ls' := [.ref a0, .int (.ofInt x1), .int (.ofInt t101), .int (.ofInt z103), mj_U]) rfl rfl (fun _ _ _ => rfl) ?_
  refine jg_A (pc' := 19) rfl rfl (fun _ _ _ => rfl) ?_
  refine jg_A (pc' := 21) (ls' := [.ref a0, .int (.ofInt x1), .int (.ofInt t101), .int (.ofInt z103), .int (.ofInt 0)]) rfl rfl (fun _ _ _ => rfl) ?_
  exact h
set_option maxRecDepth 100000 in
set_option maxHeartbeats 4000000 in
theorem jb_X12_moreAfter_21 {w : Nat} {a0 : Nat} {x1 : Int} {x2 : Int} {x3 : Int} {x4 : Int} {σ : jg_M} {Q : Int → jg_M → Prop} (h0 : jg_sh a0 = (12, 0)) (h : (if jg_wr (σ.1 (a0 + 4) (0)) ≤ jg_wr x4 then jg_GI w 2 mm_X12_moreAfter 89 [.ref a0, .int (.ofInt x1), .int (.ofInt x2), .int (.ofInt x3), .int (.ofInt 0)] σ Q else ((0 : Int) ≤ jg_wr x1 ∧ jg_wr x1 < (240 : Int)) ∧ jg_CI w 0 mm_X12_isOf [.int (.ofInt (σ.1 (a0 + 20) (0))), .int (.ofInt x4)] σ (fun (z102 : Int) (m101 : jg_M) => (if jg_wr z102 = 0 then ((0 : Int) ≤ (jg_wr x1) ∧ (jg_wr x1) < (240 : Int)) ∧ ∀ m103 : jg_M, m103 = jg_sI m101 (a0 + 26) (jg_wr x1) (jg_or (σ.1 (a0 + 26) (jg_wr x1)) 0) → jg_GI w 2 mm_X12_moreAfter 21 [.ref a0, .int (.ofInt x1), .int (.ofInt x2), .int (.ofInt x3), .int (.ofInt (x4 + 1))] m103 Q else jg_CI w 0 mm_X12_kindMove [.ref a0, .int (.ofInt x3), .int (.ofInt x4)] m101 (fun (z105 : Int) (m104 : jg_M) => (if jg_wr z105 < 0 then ((0 : Int) ≤ (jg_wr x1) ∧ (jg_wr x1) < (240 : Int)) ∧ ∀ m106 : jg_M, m106 = jg_sI m104 (a0 + 26) (jg_wr x1) (jg_or (σ.1 (a0 + 26) (jg_wr x1)) 0) → jg_GI w 2 mm_X12_moreAfter 21 [.ref a0, .int (.ofInt x1), .int (.ofInt x2), .int (.ofInt x3), .int (.ofInt (x4 + 1))] m106 Q else ((0 : Int) ≤ jg_wr ((5 * x3) + x4) ∧ jg_wr ((5 * x3) + x4) < (240 : Int)) ∧ ((0 : Int) ≤ (jg_wr x1) ∧ (jg_wr x1) < (240 : Int)) ∧ ∀ m107 : jg_M, m107 = jg_sI m104 (a0 + 26) (jg_wr x1) (jg_or (σ.1 (a0 + 26) (jg_wr x1)) (m104.1 (a0 + 26) (jg_wr ((5 * x3) + x4)))) → jg_GI w 2 mm_X12_moreAfter 21 [.ref a0, .int (.ofInt x1), .int (.ofInt x2), .int (.ofInt x3), .int (.ofInt (x4 + 1))] m107 Q)))))) : jg_GI w 2 mm_X12_moreAfter 21 [.ref a0, .int (.ofInt x1), .int (.ofInt x2), .int (.ofInt x3), .int (.ofInt x4)] σ Q := by
  show jg_G w 2 mm_X12_moreAfter 21 [.ref a0, .int (.ofInt x1), .int (.ofInt x2), .int (.ofInt x3), .int (.ofInt x4)] [] σ (jg_QI Q)
  refine jg_A (pc' := 23) rfl rfl (fun _ _ _ => rfl) ?_
  refine jg_A (pc' := 24) rfl rfl (fun _ _ _ => rfl) ?_
  refine jg_getO (pc' := 27) (k := 4) rfl h0 (by decide) rfl rfl ?_
  refine jg_A (pc' := 28) rfl rfl (fun _ _ _ => rfl) ?_
  refine jg_ialdK (pc' := 29) (xi := 0) rfl (jg_sX12_13 h0) (by decide) (by decide) rfl ?_
  refine jg_cge (pc' := 32) rfl rfl (fun hc => ?_) (fun hc => ?_)
  · have h := jg_t h (show jg_wr (σ.1 (a0 + 4) (0)) ≤ jg_wr x4 from hc)
    refine jg_A (pc' := 87) rfl rfl (fun _ _ _ => rfl) ?_
    refine jg_A (pc' := 89) (ls' := [.ref a0, .int (.ofInt x1), .int (.ofInt x2), .int (.ofInt x3), .int (.ofInt 0)]) rfl rfl (fun _ _ _ => rfl) ?_
    exact h
  · have h := jg_f h (show ¬ (jg_wr (σ.1 (a0 + 4) (0)) ≤ jg_wr x4) from hc)
    refine jg_A (pc' := 33) rfl rfl (fun _ _ _ => rfl) ?_
    refine jg_getO (pc' := 36) (k := 26) rfl h0 (by decide) rfl rfl ?_
    refine jg_A (pc' := 37) rfl rfl (fun _ _ _ => rfl) ?_
    refine jg_A (pc' := 38) rfl rfl (fun _ _ _ => rfl) ?_
    obtain ⟨hg, h⟩ := h
    refine jg_iald (pc' := 39) rfl (jg_sX12_40 h0) hg rfl ?_
    refine jg_A (pc' := 40) rfl rfl (fun _ _ _ => rfl) ?_
    refine jg_getO (pc' := 43) (k := 20) rfl h0 (by decide) rfl rfl ?_
    refine jg_A (pc' := 44) rfl rfl (fun _ _ _ => rfl) ?_
    refine jg_ialdK (pc' := 45) (xi := 0) rfl (jg_sX12_29 h0) (by decide) (by decide) rfl ?_
    refine jg_A (pc' := 47) rfl rfl (fun _ _ _ => rfl) ?_
    refine jg_calS (M1 := mm_X12_isOf) (hy := 0) (pc' := 50) rfl (Or.inl rfl) jm_X12_isOf (by decide) rfl ⟨Nat.le_of_ble_eq_true rfl, rfl⟩ (Nat.le_of_ble_eq_true rfl) rfl h (jg_kI (fun z102 m101 h => ?_))
    refine jg_ifeq (pc' := 53) rfl rfl (fun hc => ?_) (fun hc => ?_)
    · have h := jg_t h (show jg_wr z102 = 0 from hc)
      refine jg_A (pc' := 78) rfl rfl (fun _ _ _ => rfl) ?_
      refine jg_ior (pc' := 79) rfl rfl ?_
      obtain ⟨hg, h⟩ := h
      refine jg_iast (pc' := 80) rfl (jg_sX12_40 h0) hg rfl (fun m103 hm103 => ?_)
      have h := h m103 hm103
      refine jg_iinc (pc' := 83) (ls' := [.ref a0, .int (.ofInt x1), .int (.ofInt x2), .int (.ofInt x3), .int (.ofInt (x4 + 1))]) rfl rfl rfl rfl ?_
      refine jg_goto rfl ?_
      exact h
    · have h := jg_f h (show ¬ (jg_wr z102 = 0) from hc)
      refine jg_A (pc' := 54) rfl rfl (fun _ _ _ => rfl) ?_
      refine jg_A (pc' := 55) rfl rfl (fun _ _ _ => rfl) ?_
      refine jg_A (pc' := 57) rfl rfl (fun _ _ _ => rfl) ?_
      refine jg_calX (M1 := mm_X12_kindMove) (hy := 0) (pc' := 60) rfl jm_X12_kindMove (by decide) rfl h0 (by decide) ⟨Nat.le_of_ble_eq_true rfl, rfl⟩ (Nat.le_of_ble_eq_true rfl) rfl h (jg_kI (fun z105 m104 h => ?_))
      refine jg_iflt (pc' := 63) rfl rfl (fun hc => ?_) (fun hc => ?_)
      · have h := jg_t h (show jg_wr z105 < 0 from hc)
        refine jg_A (pc' := 78) rfl rfl (fun _ _ _ => rfl) ?_
        refine jg_ior (pc' := 79) rfl rfl ?_
        obtain ⟨hg, h⟩ := h
        refine jg_iast (pc' := 80) rfl (jg_sX12_40 h0) hg rfl (fun m106 hm106 => ?_)
        have h := h m106 hm106
        refine jg_iinc (pc' := 83) (ls' := [.ref a0, .int (.ofInt x1), .int (.ofInt x2), .int (.ofInt x3), .int (.ofInt (x4 + 1))]) rfl rfl rfl rfl ?_
        refine jg_goto rfl ?_
        exact h
      · have h := jg_f h (show ¬ (jg_wr z105 < 0) from hc)
        refine jg_A (pc' := 64) rfl rfl (fun _ _ _ => rfl) ?_
        refine jg_getO (pc' := 67) (k := 26) rfl h0 (by decide) rfl rfl ?_
        refine jg_A (pc' := 68) rfl rfl (fun _ _ _ => rfl) ?_
        refine jg_A (pc' := 69) rfl rfl (fun _ _ _ => rfl) ?_
        refine jg_imul (pc' := 70) rfl rfl ?_
        refine jg_A (pc' := 72) rfl rfl (fun _ _ _ => rfl) ?_
        refine jg_iadd (pc' := 73) rfl rfl ?_
        obtain ⟨hg, h⟩ := h
        refine jg_iald (pc' := 74) rfl (jg_sX12_40 h0) hg rfl ?_
        refine jg_goto rfl ?_
        refine jg_ior (pc' := 79) rfl rfl ?_
        obtain ⟨hg, h⟩ := h
        refine jg_iast (pc' := 80) rfl (jg_sX12_40 h0) hg rfl (fun m107 hm107 => ?_)
        have h := h m107 hm107
        refine jg_iinc (pc' := 83) (ls' := [.ref a0, .int (.ofInt x1), .int (.ofInt x2), .int (.ofInt x3), .int (.ofInt (x4 + 1))]) rfl rfl rfl rfl ?_
        refine jg_goto rfl ?_
        exact h
set_option maxRecDepth 100000 in
set_option maxHeartbeats 4000000 in
theorem jb_X12_moreAfter_89 {w : Nat} {a0 : Nat} {x1 : Int} {x2 : Int} {u3 : Value} {x4 : Int} {σ : jg_M} {Q : Int → jg_M → Prop} (h0 : jg_sh a0 = (12, 0)) (h : (if jg_wr (5 * (σ.1 (a0 + 13) (0))) ≤ jg_wr x4 then ((0 : Int) ≤ jg_wr x1 ∧ jg_wr x1 < (240 : Int)) ∧ (if jg_wr x2 = jg_wr (σ.1 (a0 + 26) (jg_wr x1)) then Q 0 σ else Q 1 σ) else ((0 : Int) ≤ jg_wr x1 ∧ jg_wr x1 < (240 : Int)) ∧ jg_CI w 1 mm_X12_isIncluded [.ref a0, .int (.ofInt x1), .int (.ofInt x4)] σ (fun (z102 : Int) (m101 : jg_M) => (if jg_wr z102 = 0 then ((0 : Int) ≤ (jg_wr x1) ∧ (jg_wr x1) < (240 : Int)) ∧ ∀ m103 : jg_M, m103 = jg_sI m101 (a0 + 26) (jg_wr x1) (jg_or (σ.1 (a0 + 26) (jg_wr x1)) 0) → jg_GI w 2 mm_X12_moreAfter 89 [.ref a0, .int (.ofInt x1), .int (.ofInt x2), u3, .int (.ofInt (x4 + 1))] m103 Q else ((0 : Int) ≤ jg_wr x4 ∧ jg_wr x4 < (240 : Int)) ∧ ((0 : Int) ≤ (jg_wr x1) ∧ (jg_wr x1) < (240 : Int)) ∧ ∀ m104 : jg_M, m104 = jg_sI m101 (a0 + 26) (jg_wr x1) (jg_or (σ.1 (a0 + 26) (jg_wr x1)) (m101.1 (a0 + 26) (jg_wr x4))) → jg_GI w 2 mm_X12_moreAfter 89 [.ref a0, .int (.ofInt x1), .int (.ofInt x2), u3, .int (.ofInt (x4 + 1))] m104 Q)))) : jg_GI w 2 mm_X12_moreAfter 89 [.ref a0, .int (.ofInt x1), .int (.ofInt x2), u3, .int (.ofInt x4)] σ Q := by
  show jg_G w 2 mm_X12_moreAfter 89 [.ref a0, .int (.ofInt x1), .int (.ofInt x2), u3, .int (.ofInt x4)] [] σ (jg_QI Q)
  refine jg_A (pc' := 91) rfl rfl (fun _ _ _ => rfl) ?_
  refine jg_A (pc' := 92) rfl rfl (fun _ _ _ => rfl) ?_
  refine jg_A (pc' := 93) rfl rfl (fun _ _ _ => rfl) ?_
  refine jg_getO (pc' := 96) (k := 13) rfl h0 (by decide) rfl rfl ?_
  refine jg_A (pc' := 97) rfl rfl (fun _ _ _ => rfl) ?_
  refine jg_ialdK (pc' := 98) (xi := 0) rfl (jg_sX12_22 h0) (by decide) (by decide) rfl ?_
  refine jg_imul (pc' := 99) rfl rfl ?_
  refine jg_cge (pc' := 102) rfl rfl (fun hc => ?_) (fun hc => ?_)
  · have h := jg_t h (show jg_wr (5 * (σ.1 (a0 + 13) (0))) ≤ jg_wr x4 from hc)
    refine jg_A (pc' := 139) rfl rfl (fun _ _ _ => rfl) ?_
    refine jg_A (pc' := 140) rfl rfl (fun _ _ _ => rfl) ?_
    refine jg_getO (pc' := 143) (k := 26) rfl h0 (by decide) rfl rfl ?_
    refine jg_A (pc' := 144) rfl rfl (fun _ _ _ => rfl) ?_
    obtain ⟨hg, h⟩ := h
    refine jg_iald (pc' := 145) rfl (jg_sX12_40 h0) hg rfl ?_
    refine jg_ceq (pc' := 148) rfl rfl (fun hc => ?_) (fun hc => ?_)
    · have h := jg_t h (show jg_wr x2 = jg_wr (σ.1 (a0 + 26) (jg_wr x1)) from hc)
      refine jg_A (pc' := 153) rfl rfl (fun _ _ _ => rfl) ?_
      exact jg_zret rfl rfl (by decide) h
    · have h := jg_f h (show ¬ (jg_wr x2 = jg_wr (σ.1 (a0 + 26) (jg_wr x1))) from hc)
      refine jg_A (pc' := 149) rfl rfl (fun _ _ _ => rfl) ?_
      refine jg_goto rfl ?_
      exact jg_zret rfl rfl (by decide) h
  · have h := jg_f h (show ¬ (jg_wr (5 * (σ.1 (a0 + 13) (0))) ≤ jg_wr x4) from hc)
    refine jg_A (pc' := 103) rfl rfl (fun _ _ _ => rfl) ?_
    refine jg_getO (pc' := 106) (k := 26) rfl h0 (by decide) rfl rfl ?_
    refine jg_A (pc' := 107) rfl rfl (fun _ _ _ => rfl) ?_
    refine jg_A (pc' := 108) rfl rfl (fun _ _ _ => rfl) ?_
    obtain ⟨hg, h⟩ := h
    refine jg_iald (pc' := 109) rfl (jg_sX12_40 h0) hg rfl ?_
    refine jg_A (pc' := 110) rfl rfl (fun _ _ _ => rfl) ?_
    refine jg_A (pc' := 111) rfl rfl (fun _ _ _ => rfl) ?_
    refine jg_A (pc' := 113) rfl rfl (fun _ _ _ => rfl) ?_
    refine jg_calX (M1 := mm_X12_isIncluded) (hy := 1) (pc' := 116) rfl jm_X12_isIncluded (by decide) rfl h0 (by decide) ⟨Nat.le_of_ble_eq_true rfl, rfl⟩ (Nat.le_of_ble_eq_true rfl) rfl h (jg_kI (fun z102 m101 h => ?_))
    refine jg_ifeq (pc' := 119) rfl rfl (fun hc => ?_) (fun hc => ?_)
    · have h := jg_t h (show jg_wr z102 = 0 from hc)
      refine jg_A (pc' := 130) rfl rfl (fun _ _ _ => rfl) ?_
      refine jg_ior (pc' := 131) rfl rfl ?_
      obtain ⟨hg, h⟩ := h
      refine jg_iast (pc' := 132) rfl (jg_sX12_40 h0) hg rfl (fun m103 hm103 => ?_)
      have h := h m103 hm103
      refine jg_iinc (pc' := 135) (ls' := [.ref a0, .int (.ofInt x1), .int (.ofInt x2), u3, .int (.ofInt (x4 + 1))]) rfl rfl rfl rfl ?_
      refine jg_goto rfl ?_
      exact h
    · have h := jg_f h (show ¬ (jg_wr z102 = 0) from hc)
      refine jg_A (pc' := 120) rfl rfl (fun _ _ _ => rfl) ?_
      refine jg_getO (pc' := 123) (k := 26) rfl h0 (by decide) rfl rfl ?_
      refine jg_A (pc' := 125) rfl rfl (fun _ _ _ => rfl) ?_
      obtain ⟨hg, h⟩ := h
      refine jg_iald (pc' := 126) rfl (jg_sX12_40 h0) hg rfl ?_
      refine jg_goto rfl ?_
      refine jg_ior (pc' := 131) rfl rfl ?_
      obtain ⟨hg, h⟩ := h
      refine jg_iast (pc' := 132) rfl (jg_sX12_40 h0) hg rfl (fun m104 hm104 => ?_)
      have h := h m104 hm104
      refine jg_iinc (pc' := 135) (ls' := [.ref a0, .int (.ofInt x1), .int (.ofInt x2), u3, .int (.ofInt (x4 + 1))]) rfl rfl rfl rfl ?_
      refine jg_goto rfl ?_
      exact h
set_option maxRecDepth 100000 in
set_option maxHeartbeats 4000000 in
theorem jb_X12_layAfter_0 {w : Nat} {a0 : Nat} {σ : jg_M} {Q : jg_M → Prop} (h0 : jg_sh a0 = (12, 0)) (h : ∀ m101 : jg_M, m101 = jg_sI σ a0 36 0 → ∀ m102 : jg_M, m102 = jg_sI m101 a0 35 0 → ∀ m103 : jg_M, m103 = jg_sI m102 a0 34 (-1) → ∀ m104 : jg_M, m104 = jg_sI m103 a0 33 0 → jg_GV w 4 mm_X12_layAfter 22 [.ref a0, .int (.ofInt 0), mj_U, mj_U] m104 Q) : jg_CV w 4 mm_X12_layAfter [.ref a0] σ Q := by
  show jg_G w 4 mm_X12_layAfter 0 [.ref a0, mj_U, mj_U, mj_U] [] σ (jg_QV Q)
  refine jg_A (pc' := 1) rfl rfl (fun _ _ _ => rfl) ?_
  refine jg_A (pc' := 2) rfl rfl (fun _ _ _ => rfl) ?_
  refine jg_putI (pc' := 5) (bi := 36) rfl h0 (by decide) rfl rfl rfl rfl (fun m101 hm101 => ?_)
  have h := h m101 hm101
  refine jg_A (pc' := 6) rfl rfl (fun _ _ _ => rfl) ?_
  refine jg_A (pc' := 7) rfl rfl (fun _ _ _ => rfl) ?_
  refine jg_putI (pc' := 10) (bi := 35) rfl h0 (by decide) rfl rfl rfl rfl (fun m102 hm102 => ?_)
  have h := h m102 hm102
  refine jg_A (pc' := 11) rfl rfl (fun _ _ _ => rfl) ?_
  refine jg_A (pc' := 12) rfl rfl (fun _ _ _ => rfl) ?_
  refine jg_putI (pc' := 15) (bi := 34) rfl h0 (by decide) rfl rfl rfl rfl (fun m103 hm103 => ?_)
  have h := h m103 hm103
  refine jg_A (pc' := 16) rfl rfl (fun _ _ _ => rfl) ?_
  refine jg_A (pc' := 17) rfl rfl (fun _ _ _ => rfl) ?_
  refine jg_putI (pc' := 20) (bi := 33) rfl h0 (by decide) rfl rfl rfl rfl (fun m104 hm104 => ?_)
  have h := h m104 hm104
  refine jg_A (pc' := 21) rfl rfl (fun _ _ _ => rfl) ?_
  refine jg_A (pc' := 22) (ls' := [.ref a0, .int (.ofInt 0), mj_U, mj_U]) rfl rfl (fun _ _ _ => rfl) ?_
  exact h
set_option maxRecDepth 100000 in
set_option maxHeartbeats 4000000 in
theorem jb_X12_layAfter_22 {w : Nat} {a0 : Nat} {x1 : Int} {u2 : Value} {u3 : Value} {σ : jg_M} {Q : jg_M → Prop} (h0 : jg_sh a0 = (12, 0)) (h : (if 5 ≤ jg_wr x1 then jg_CV w 3 mm_X12_layIncludes [.ref a0] σ (fun (m101 : jg_M) => jg_GV w 4 mm_X12_layAfter 46 [.ref a0, .int (.ofInt 0), u2, u3] m101 Q) else ((0 : Int) ≤ (jg_wr x1) ∧ (jg_wr x1) < (5 : Int)) ∧ ∀ m102 : jg_M, m102 = jg_sI σ (a0 + 28) (jg_wr x1) 0 → jg_GV w 4 mm_X12_layAfter 22 [.ref a0, .int (.ofInt (x1 + 1)), u2, u3] m102 Q)) : jg_GV w 4 mm_X12_layAfter 22 [.ref a0, .int (.ofInt x1), u2, u3] σ Q := by
  show jg_G w 4 mm_X12_layAfter 22 [.ref a0, .int (.ofInt x1), u2, u3] [] σ (jg_QV Q)
  refine jg_A (pc' := 23) rfl rfl (fun _ _ _ => rfl) ?_
  refine jg_A (pc' := 24) rfl rfl (fun _ _ _ => rfl) ?_
  refine jg_cge (pc' := 27) rfl rfl (fun hc => ?_) (fun hc => ?_)
  · have h := jg_t h (show 5 ≤ jg_wr x1 from hc)
    refine jg_A (pc' := 41) rfl rfl (fun _ _ _ => rfl) ?_
    refine jg_calX (M1 := mm_X12_layIncludes) (hy := 3) (pc' := 44) rfl jm_X12_layIncludes (by decide) rfl h0 (by decide) ⟨Nat.le_of_ble_eq_true rfl, rfl⟩ (Nat.le_of_ble_eq_true rfl) rfl h (jg_kV (fun m101 h => ?_))
    refine jg_A (pc' := 45) rfl rfl (fun _ _ _ => rfl) ?_
    refine jg_A (pc' := 46) (ls' := [.ref a0, .int (.ofInt 0), u2, u3]) rfl rfl (fun _ _ _ => rfl) ?_
    exact h
  · have h := jg_f h (show ¬ (5 ≤ jg_wr x1) from hc)
    refine jg_A (pc' := 28) rfl rfl (fun _ _ _ => rfl) ?_
    refine jg_getO (pc' := 31) (k := 28) rfl h0 (by decide) rfl rfl ?_
    refine jg_A (pc' := 32) rfl rfl (fun _ _ _ => rfl) ?_
    refine jg_A (pc' := 33) rfl rfl (fun _ _ _ => rfl) ?_
    obtain ⟨hg, h⟩ := h
    refine jg_iast (pc' := 34) rfl (jg_sX12_42 h0) hg rfl (fun m102 hm102 => ?_)
    have h := h m102 hm102
    refine jg_iinc (pc' := 37) (ls' := [.ref a0, .int (.ofInt (x1 + 1)), u2, u3]) rfl rfl rfl rfl ?_
    refine jg_goto rfl ?_
    exact h
set_option maxRecDepth 100000 in
set_option maxHeartbeats 4000000 in
theorem jb_X12_layAfter_46 {w : Nat} {a0 : Nat} {x1 : Int} {u2 : Value} {u3 : Value} {σ : jg_M} {Q : jg_M → Prop} (h0 : jg_sh a0 = (12, 0)) (h : (if jg_wr (5 * (σ.1 (a0 + 13) (0))) ≤ jg_wr x1 then jg_GV w 4 mm_X12_layAfter 271 [.ref a0, .int (.ofInt 1), u2, u3] σ Q else ((0 : Int) ≤ (jg_wr x1) ∧ (jg_wr x1) < (240 : Int)) ∧ ∀ m101 : jg_M, m101 = jg_sI σ (a0 + 26) (jg_wr x1) 0 → jg_CI w 1 mm_X12_isMove [.ref a0, .int (.ofInt x1)] m101 (fun (z103 : Int) (m102 : jg_M) => (if jg_wr z103 = 0 then jg_GV w 4 mm_X12_layAfter 46 [.ref a0, .int (.ofInt (x1 + 1)), u2, u3] m102 Q else ∀ m104 : jg_M, m104 = jg_sI m102 (a0 + 28) 0 ((m102.1 (a0 + 28) (0)) + 1) → jg_CI w 0 mm_X12_kindMove [.ref a0, .int (.ofInt (jg_div x1 5)), .int (.ofInt (jg_rem x1 5))] m104 (fun (z106 : Int) (m105 : jg_M) => jg_GV w 4 mm_X12_layAfter 99 [.ref a0, .int (.ofInt x1), .int (.ofInt z106), .int (.ofInt 0)] m105 Q))))) : jg_GV w 4 mm_X12_layAfter 46 [.ref a0, .int (.ofInt x1), u2, u3] σ Q := by
  show jg_G w 4 mm_X12_layAfter 46 [.ref a0, .int (.ofInt x1), u2, u3] [] σ (jg_QV Q)
  refine jg_A (pc' := 47) rfl rfl (fun _ _ _ => rfl) ?_
  refine jg_A (pc' := 48) rfl rfl (fun _ _ _ => rfl) ?_
  refine jg_A (pc' := 49) rfl rfl (fun _ _ _ => rfl) ?_
  refine jg_getO (pc' := 52) (k := 13) rfl h0 (by decide) rfl rfl ?_
  refine jg_A (pc' := 53) rfl rfl (fun _ _ _ => rfl) ?_
  refine jg_ialdK (pc' := 54) (xi := 0) rfl (jg_sX12_22 h0) (by decide) (by decide) rfl ?_
  refine jg_imul (pc' := 55) rfl rfl ?_
  refine jg_cge (pc' := 58) rfl rfl (fun hc => ?_) (fun hc => ?_)
  · have h := jg_t h (show jg_wr (5 * (σ.1 (a0 + 13) (0))) ≤ jg_wr x1 from hc)
    refine jg_A (pc' := 270) rfl rfl (fun _ _ _ => rfl) ?_
    refine jg_A (pc' := 271) (ls' := [.ref a0, .int (.ofInt 1), u2, u3]) rfl rfl (fun _ _ _ => rfl) ?_
    exact h
  · have h := jg_f h (show ¬ (jg_wr (5 * (σ.1 (a0 + 13) (0))) ≤ jg_wr x1) from hc)
    refine jg_A (pc' := 59) rfl rfl (fun _ _ _ => rfl) ?_
    refine jg_getO (pc' := 62) (k := 26) rfl h0 (by decide) rfl rfl ?_
    refine jg_A (pc' := 63) rfl rfl (fun _ _ _ => rfl) ?_
    refine jg_A (pc' := 64) rfl rfl (fun _ _ _ => rfl) ?_
    obtain ⟨hg, h⟩ := h
    refine jg_iast (pc' := 65) rfl (jg_sX12_40 h0) hg rfl (fun m101 hm101 => ?_)
    have h := h m101 hm101
    refine jg_A (pc' := 66) rfl rfl (fun _ _ _ => rfl) ?_
    refine jg_A (pc' := 67) rfl rfl (fun _ _ _ => rfl) ?_
    refine jg_calX (M1 := mm_X12_isMove) (hy := 1) (pc' := 70) rfl jm_X12_isMove (by decide) rfl h0 (by decide) ⟨Nat.le_of_ble_eq_true rfl, rfl⟩ (Nat.le_of_ble_eq_true rfl) rfl h (jg_kI (fun z103 m102 h => ?_))
    refine jg_ifne (pc' := 73) rfl rfl (fun hc => ?_) (fun hc => ?_)
    · have h := jg_t h (show jg_wr z103 = 0 from hc)
      refine jg_goto rfl ?_
      refine jg_iinc (pc' := 266) (ls' := [.ref a0, .int (.ofInt (x1 + 1)), u2, u3]) rfl rfl rfl rfl ?_
      refine jg_goto rfl ?_
      exact h
    · have h := jg_f h (show ¬ (jg_wr z103 = 0) from hc)
      refine jg_A (pc' := 77) rfl rfl (fun _ _ _ => rfl) ?_
      refine jg_getO (pc' := 80) (k := 28) rfl h0 (by decide) rfl rfl ?_
      refine jg_A (pc' := 81) rfl rfl (fun _ _ _ => rfl) ?_
      refine jg_A (pc' := 82) rfl rfl (fun _ _ _ => rfl) ?_
      refine jg_ialdK (pc' := 83) (xi := 0) rfl (jg_sX12_42 h0) (by decide) (by decide) rfl ?_
      refine jg_A (pc' := 84) rfl rfl (fun _ _ _ => rfl) ?_
      refine jg_iadd (pc' := 85) rfl rfl ?_
      refine jg_iastK (pc' := 86) (xi := 0) rfl (jg_sX12_42 h0) (by decide) (by decide) rfl (fun m104 hm104 => ?_)
      have h := h m104 hm104
      refine jg_A (pc' := 87) rfl rfl (fun _ _ _ => rfl) ?_
      refine jg_A (pc' := 88) rfl rfl (fun _ _ _ => rfl) ?_
      refine jg_A (pc' := 89) rfl rfl (fun _ _ _ => rfl) ?_
      refine jg_idiv (pc' := 90) rfl rfl (by decide) ?_
      refine jg_A (pc' := 91) rfl rfl (fun _ _ _ => rfl) ?_
      refine jg_A (pc' := 92) rfl rfl (fun _ _ _ => rfl) ?_
      refine jg_irem (pc' := 93) rfl rfl (by decide) ?_
      refine jg_calX (M1 := mm_X12_kindMove) (hy := 0) (pc' := 96) rfl jm_X12_kindMove (by decide) rfl h0 (by decide) ⟨Nat.le_of_ble_eq_true rfl, rfl⟩ (Nat.le_of_ble_eq_true rfl) rfl h (jg_kI (fun z106 m105 h => ?_))
      refine jg_A (pc' := 97) (ls' := [.ref a0, .int (.ofInt x1), .int (.ofInt z106), u3]) rfl rfl (fun _ _ _ => rfl) ?_
      refine jg_A (pc' := 98) rfl rfl (fun _ _ _ => rfl) ?_
      refine jg_A (pc' := 99) (ls' := [.ref a0, .int (.ofInt x1), .int (.ofInt z106), .int (.ofInt 0)]) rfl rfl (fun _ _ _ => rfl) ?_
      exact h
set_option maxRecDepth 100000 in
set_option maxHeartbeats 4000000 in
theorem jb_X12_layAfter_271 {w : Nat} {a0 : Nat} {x1 : Int} {u2 : Value} {u3 : Value} {σ : jg_M} {Q : jg_M → Prop} (h0 : jg_sh a0 = (12, 0)) (h : (if jg_wr x1 = 0 then jg_CV w 2 mm_X12_layRings [.ref a0] σ (fun (m101 : jg_M) => Q m101) else jg_GV w 4 mm_X12_layAfter 279 [.ref a0, .int (.ofInt 0), .int (.ofInt 0), u3] σ Q)) : jg_GV w 4 mm_X12_layAfter 271 [.ref a0, .int (.ofInt x1), u2, u3] σ Q := by
  show jg_G w 4 mm_X12_layAfter 271 [.ref a0, .int (.ofInt x1), u2, u3] [] σ (jg_QV Q)
  refine jg_A (pc' := 272) rfl rfl (fun _ _ _ => rfl) ?_
  refine jg_ifeq (pc' := 275) rfl rfl (fun hc => ?_) (fun hc => ?_)
  · have h := jg_t h (show jg_wr x1 = 0 from hc)
    refine jg_A (pc' := 325) rfl rfl (fun _ _ _ => rfl) ?_
    refine jg_calX (M1 := mm_X12_layRings) (hy := 2) (pc' := 328) rfl jm_X12_layRings (by decide) rfl h0 (by decide) ⟨Nat.le_of_ble_eq_true rfl, rfl⟩ (Nat.le_of_ble_eq_true rfl) rfl h (jg_kV (fun m101 h => ?_))
    exact jg_vret rfl rfl h
  · have h := jg_f h (show ¬ (jg_wr x1 = 0) from hc)
    refine jg_A (pc' := 276) rfl rfl (fun _ _ _ => rfl) ?_
    refine jg_A (pc' := 277) (ls' := [.ref a0, .int (.ofInt 0), u2, u3]) rfl rfl (fun _ _ _ => rfl) ?_
    refine jg_A (pc' := 278) rfl rfl (fun _ _ _ => rfl) ?_
    refine jg_A (pc' := 279) (ls' := [.ref a0, .int (.ofInt 0), .int (.ofInt 0), u3]) rfl rfl (fun _ _ _ => rfl) ?_
    exact h
