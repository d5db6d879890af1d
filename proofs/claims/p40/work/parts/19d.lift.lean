/-! LIFTED METHODS, 3: from a method's entry, and from each loop's head, what must hold for its run to end with Q (printed by wip/whole/gen/gen18.py) -/
set_option maxRecDepth 100000 in
set_option maxHeartbeats 4000000 in
theorem jb_X11_look_0 {w : Nat} {a0 : Nat} {x1 : Int} {x2 : Int} {σ : jg_M} {Q : Int → jg_M → Prop} (h0 : jg_sh a0 = (11, 0)) (h : ∀ r101 : Nat, r101 = (σ.1 a0 3).toNat → jg_sh r101 = (8, 0) ∧ ∀ r102 : Nat, r102 = (σ.1 a0 3).toNat → jg_sh r102 = (8, 0) ∧ jg_CI w 0 mm_X7_has [.ref (r102 + 10), .int (.ofInt x1)] σ (fun (z104 : Int) (m103 : jg_M) => (if jg_wr z104 = 0 then Q (-1) m103 else (if jg_wr x2 < 0 then Q (-1) m103 else (if jg_wr x2 ≤ jg_wr (m103.1 (r101 + 1) 2) then jg_CI w 1 mm_X0_itemAtEnd [.ref (r101 + 1), .int (.ofInt x2)] m103 (fun (z106 : Int) (m105 : jg_M) => ∀ r107 : Nat, r107 = (m105.1 a0 3).toNat → jg_sh r107 = (8, 0) ∧ jg_CI w 1 mm_X7_hasItem [.ref (r107 + 10), .int (.ofInt x1), .int (.ofInt z106)] m105 (fun (z109 : Int) (m108 : jg_M) => (if jg_wr z109 = 0 then Q (-2) m108 else ∀ r110 : Nat, r110 = (m108.1 a0 3).toNat → jg_sh r110 = (8, 0) ∧ jg_CI w 1 mm_X7_behind [.ref (r110 + 10), .int (.ofInt x1), .int (.ofInt z106)] m108 (fun (z112 : Int) (m111 : jg_M) => Q z112 m111)))) else Q (-1) m103))))) : jg_CI w 2 mm_X11_look [.ref a0, .int (.ofInt x1), .int (.ofInt x2)] σ Q := by
  show jg_G w 2 mm_X11_look 0 [.ref a0, .int (.ofInt x1), .int (.ofInt x2), mj_U, mj_U] [] σ (jg_QI Q)
  refine jg_A (pc' := 1) rfl rfl (fun _ _ _ => rfl) ?_
  refine jg_getR (pc' := 4) (bi := 3) rfl h0 (by decide) rfl rfl rfl (fun r101 er101 => ?_)
  obtain ⟨hr101, h⟩ := h r101 er101
  refine jg_getO (pc' := 7) (k := 1) rfl hr101 (by decide) rfl rfl ?_
  refine jg_A (pc' := 8) (ls' := [.ref a0, .int (.ofInt x1), .int (.ofInt x2), .ref (r101 + 1), mj_U]) rfl rfl (fun _ _ _ => rfl) ?_
  refine jg_A (pc' := 9) rfl rfl (fun _ _ _ => rfl) ?_
  refine jg_getR (pc' := 12) (bi := 3) rfl h0 (by decide) rfl rfl rfl (fun r102 er102 => ?_)
  obtain ⟨hr102, h⟩ := h r102 er102
  refine jg_getO (pc' := 15) (k := 10) rfl hr102 (by decide) rfl rfl ?_
  refine jg_A (pc' := 16) rfl rfl (fun _ _ _ => rfl) ?_
  refine jg_calX (M1 := mm_X7_has) (hy := 0) (pc' := 19) rfl jm_X7_has (by decide) rfl (jg_sX8_1 hr102) (by decide) ⟨Nat.le_of_ble_eq_true rfl, rfl⟩ (Nat.le_of_ble_eq_true rfl) rfl h (jg_kI (fun z104 m103 h => ?_))
  refine jg_ifeq (pc' := 22) rfl rfl (fun hc => ?_) (fun hc => ?_)
  · have h := jg_t h (show jg_wr z104 = 0 from hc)
    refine jg_A (pc' := 35) rfl rfl (fun _ _ _ => rfl) ?_
    exact jg_iret rfl rfl h
  · have h := jg_f h (show ¬ (jg_wr z104 = 0) from hc)
    refine jg_A (pc' := 23) rfl rfl (fun _ _ _ => rfl) ?_
    refine jg_iflt (pc' := 26) rfl rfl (fun hc => ?_) (fun hc => ?_)
    · have h := jg_t h (show jg_wr x2 < 0 from hc)
      refine jg_A (pc' := 35) rfl rfl (fun _ _ _ => rfl) ?_
      exact jg_iret rfl rfl h
    · have h := jg_f h (show ¬ (jg_wr x2 < 0) from hc)
      refine jg_A (pc' := 27) rfl rfl (fun _ _ _ => rfl) ?_
      refine jg_A (pc' := 28) rfl rfl (fun _ _ _ => rfl) ?_
      refine jg_getI (pc' := 31) (bi := 2) rfl (jg_sX8_0 hr101) (by decide) (Or.inl rfl) rfl rfl ?_
      refine jg_cle (pc' := 34) rfl rfl (fun hc => ?_) (fun hc => ?_)
      · have h := jg_t h (show jg_wr x2 ≤ jg_wr (m103.1 (r101 + 1) 2) from hc)
        refine jg_A (pc' := 37) rfl rfl (fun _ _ _ => rfl) ?_
        refine jg_A (pc' := 38) rfl rfl (fun _ _ _ => rfl) ?_
        refine jg_calX (M1 := mm_X0_itemAtEnd) (hy := 1) (pc' := 41) rfl jm_X0_itemAtEnd (by decide) rfl (jg_sX8_0 hr101) (by decide) ⟨Nat.le_of_ble_eq_true rfl, rfl⟩ (Nat.le_of_ble_eq_true rfl) rfl h (jg_kI (fun z106 m105 h => ?_))
        refine jg_A (pc' := 43) (ls' := [.ref a0, .int (.ofInt x1), .int (.ofInt x2), .ref (r101 + 1), .int (.ofInt z106)]) rfl rfl (fun _ _ _ => rfl) ?_
        refine jg_A (pc' := 44) rfl rfl (fun _ _ _ => rfl) ?_
        refine jg_getR (pc' := 47) (bi := 3) rfl h0 (by decide) rfl rfl rfl (fun r107 er107 => ?_)
        obtain ⟨hr107, h⟩ := h r107 er107
        refine jg_getO (pc' := 50) (k := 10) rfl hr107 (by decide) rfl rfl ?_
        refine jg_A (pc' := 51) rfl rfl (fun _ _ _ => rfl) ?_
        refine jg_A (pc' := 53) rfl rfl (fun _ _ _ => rfl) ?_
        refine jg_calX (M1 := mm_X7_hasItem) (hy := 1) (pc' := 56) rfl jm_X7_hasItem (by decide) rfl (jg_sX8_1 hr107) (by decide) ⟨Nat.le_of_ble_eq_true rfl, rfl⟩ (Nat.le_of_ble_eq_true rfl) rfl h (jg_kI (fun z109 m108 h => ?_))
        refine jg_ifeq (pc' := 59) rfl rfl (fun hc => ?_) (fun hc => ?_)
        · have h := jg_t h (show jg_wr z109 = 0 from hc)
          refine jg_A (pc' := 77) rfl rfl (fun _ _ _ => rfl) ?_
          exact jg_iret rfl rfl h
        · have h := jg_f h (show ¬ (jg_wr z109 = 0) from hc)
          refine jg_A (pc' := 60) rfl rfl (fun _ _ _ => rfl) ?_
          refine jg_getR (pc' := 63) (bi := 3) rfl h0 (by decide) rfl rfl rfl (fun r110 er110 => ?_)
          obtain ⟨hr110, h⟩ := h r110 er110
          refine jg_getO (pc' := 66) (k := 10) rfl hr110 (by decide) rfl rfl ?_
          refine jg_A (pc' := 67) rfl rfl (fun _ _ _ => rfl) ?_
          refine jg_A (pc' := 69) rfl rfl (fun _ _ _ => rfl) ?_
          refine jg_calX (M1 := mm_X7_behind) (hy := 1) (pc' := 72) rfl jm_X7_behind (by decide) rfl (jg_sX8_1 hr110) (by decide) ⟨Nat.le_of_ble_eq_true rfl, rfl⟩ (Nat.le_of_ble_eq_true rfl) rfl h (jg_kI (fun z112 m111 h => ?_))
          refine jg_goto rfl ?_
          exact jg_iret rfl rfl h
      · have h := jg_f h (show ¬ (jg_wr x2 ≤ jg_wr (m103.1 (r101 + 1) 2)) from hc)
        refine jg_A (pc' := 35) rfl rfl (fun _ _ _ => rfl) ?_
        exact jg_iret rfl rfl h
set_option maxRecDepth 100000 in
set_option maxHeartbeats 4000000 in
theorem jb_X11_after_0 {w : Nat} {a0 : Nat} {x1 : Int} {x2 : Int} {σ : jg_M} {Q : Int → jg_M → Prop} (h0 : jg_sh a0 = (11, 0)) (h : ∀ r101 : Nat, r101 = (σ.1 a0 3).toNat → jg_sh r101 = (8, 0) ∧ jg_CI w 0 mm_X7_has [.ref (r101 + 10), .int (.ofInt x1)] σ (fun (z103 : Int) (m102 : jg_M) => (if jg_wr z103 = 0 then Q (-1) m102 else ∀ r104 : Nat, r104 = (m102.1 a0 3).toNat → jg_sh r104 = (8, 0) ∧ jg_CI w 0 mm_X0_hasKind [.ref (r104 + 1), .int (.ofInt x2)] m102 (fun (z106 : Int) (m105 : jg_M) => (if jg_wr z106 = 0 then Q (-1) m105 else jg_CI w 1 mm_X4_afterMove [.ref (a0 + 48), .int (.ofInt x1), .int (.ofInt x2)] m105 (fun (z108 : Int) (m107 : jg_M) => Q z108 m107)))))) : jg_CI w 2 mm_X11_after [.ref a0, .int (.ofInt x1), .int (.ofInt x2)] σ Q := by
  show jg_G w 2 mm_X11_after 0 [.ref a0, .int (.ofInt x1), .int (.ofInt x2)] [] σ (jg_QI Q)
  refine jg_A (pc' := 1) rfl rfl (fun _ _ _ => rfl) ?_
  refine jg_getR (pc' := 4) (bi := 3) rfl h0 (by decide) rfl rfl rfl (fun r101 er101 => ?_)
  obtain ⟨hr101, h⟩ := h r101 er101
  refine jg_getO (pc' := 7) (k := 10) rfl hr101 (by decide) rfl rfl ?_
  refine jg_A (pc' := 8) rfl rfl (fun _ _ _ => rfl) ?_
  refine jg_calX (M1 := mm_X7_has) (hy := 0) (pc' := 11) rfl jm_X7_has (by decide) rfl (jg_sX8_1 hr101) (by decide) ⟨Nat.le_of_ble_eq_true rfl, rfl⟩ (Nat.le_of_ble_eq_true rfl) rfl h (jg_kI (fun z103 m102 h => ?_))
  refine jg_ifeq (pc' := 14) rfl rfl (fun hc => ?_) (fun hc => ?_)
  · have h := jg_t h (show jg_wr z103 = 0 from hc)
    refine jg_A (pc' := 29) rfl rfl (fun _ _ _ => rfl) ?_
    exact jg_iret rfl rfl h
  · have h := jg_f h (show ¬ (jg_wr z103 = 0) from hc)
    refine jg_A (pc' := 15) rfl rfl (fun _ _ _ => rfl) ?_
    refine jg_getR (pc' := 18) (bi := 3) rfl h0 (by decide) rfl rfl rfl (fun r104 er104 => ?_)
    obtain ⟨hr104, h⟩ := h r104 er104
    refine jg_getO (pc' := 21) (k := 1) rfl hr104 (by decide) rfl rfl ?_
    refine jg_A (pc' := 22) rfl rfl (fun _ _ _ => rfl) ?_
    refine jg_calX (M1 := mm_X0_hasKind) (hy := 0) (pc' := 25) rfl jm_X0_hasKind (by decide) rfl (jg_sX8_0 hr104) (by decide) ⟨Nat.le_of_ble_eq_true rfl, rfl⟩ (Nat.le_of_ble_eq_true rfl) rfl h (jg_kI (fun z106 m105 h => ?_))
    refine jg_ifne (pc' := 28) rfl rfl (fun hc => ?_) (fun hc => ?_)
    · have h := jg_t h (show jg_wr z106 = 0 from hc)
      refine jg_A (pc' := 29) rfl rfl (fun _ _ _ => rfl) ?_
      exact jg_iret rfl rfl h
    · have h := jg_f h (show ¬ (jg_wr z106 = 0) from hc)
      refine jg_A (pc' := 31) rfl rfl (fun _ _ _ => rfl) ?_
      refine jg_getO (pc' := 34) (k := 48) rfl h0 (by decide) rfl rfl ?_
      refine jg_A (pc' := 35) rfl rfl (fun _ _ _ => rfl) ?_
      refine jg_A (pc' := 36) rfl rfl (fun _ _ _ => rfl) ?_
      refine jg_calX (M1 := mm_X4_afterMove) (hy := 1) (pc' := 39) rfl jm_X4_afterMove (by decide) rfl (jg_sX11_5 h0) (by decide) ⟨Nat.le_of_ble_eq_true rfl, rfl⟩ (Nat.le_of_ble_eq_true rfl) rfl h (jg_kI (fun z108 m107 h => ?_))
      exact jg_iret rfl rfl h
set_option maxRecDepth 100000 in
set_option maxHeartbeats 4000000 in
theorem jb_X11_relations_0 {w : Nat} {a0 : Nat} {x1 : Int} {σ : jg_M} {Q : Int → jg_M → Prop} (h0 : jg_sh a0 = (11, 0)) (h : (if jg_wr x1 = 0 then Q (σ.1 (a0 + 48) 0) σ else (if jg_wr x1 = 1 then Q (σ.1 (a0 + 48) 1) σ else (if jg_wr x1 = 2 then Q (σ.1 (a0 + 48) 2) σ else (if jg_wr x1 = 3 then Q (σ.1 (a0 + 48) 3) σ else (if jg_wr x1 = 4 then jg_CI w 3 mm_X4_rings [.ref (a0 + 48)] σ (fun (z102 : Int) (m101 : jg_M) => Q z102 m101) else Q (-1) σ)))))) : jg_CI w 4 mm_X11_relations [.ref a0, .int (.ofInt x1)] σ Q := by
  show jg_G w 4 mm_X11_relations 0 [.ref a0, .int (.ofInt x1)] [] σ (jg_QI Q)
  refine jg_A (pc' := 1) rfl rfl (fun _ _ _ => rfl) ?_
  refine jg_tsw rfl rfl ?_
  refine jg_swc (v := 0) (t := 36) (fun hc => ?_) (fun hc => ?_)
  · have h := jg_t h hc
    refine jg_A (pc' := 37) rfl rfl (fun _ _ _ => rfl) ?_
    refine jg_getO (pc' := 40) (k := 48) rfl h0 (by decide) rfl rfl ?_
    refine jg_getI (pc' := 43) (bi := 0) rfl (jg_sX11_5 h0) (by decide) (Or.inl rfl) rfl rfl ?_
    exact jg_iret rfl rfl h
  have h := jg_f h hc
  refine jg_swc (v := 1) (t := 44) (fun hc => ?_) (fun hc => ?_)
  · have h := jg_t h hc
    refine jg_A (pc' := 45) rfl rfl (fun _ _ _ => rfl) ?_
    refine jg_getO (pc' := 48) (k := 48) rfl h0 (by decide) rfl rfl ?_
    refine jg_getI (pc' := 51) (bi := 1) rfl (jg_sX11_5 h0) (by decide) (Or.inl rfl) rfl rfl ?_
    exact jg_iret rfl rfl h
  have h := jg_f h hc
  refine jg_swc (v := 2) (t := 52) (fun hc => ?_) (fun hc => ?_)
  · have h := jg_t h hc
    refine jg_A (pc' := 53) rfl rfl (fun _ _ _ => rfl) ?_
    refine jg_getO (pc' := 56) (k := 48) rfl h0 (by decide) rfl rfl ?_
    refine jg_getI (pc' := 59) (bi := 2) rfl (jg_sX11_5 h0) (by decide) (Or.inl rfl) rfl rfl ?_
    exact jg_iret rfl rfl h
  have h := jg_f h hc
  refine jg_swc (v := 3) (t := 60) (fun hc => ?_) (fun hc => ?_)
  · have h := jg_t h hc
    refine jg_A (pc' := 61) rfl rfl (fun _ _ _ => rfl) ?_
    refine jg_getO (pc' := 64) (k := 48) rfl h0 (by decide) rfl rfl ?_
    refine jg_getI (pc' := 67) (bi := 3) rfl (jg_sX11_5 h0) (by decide) (Or.inl rfl) rfl rfl ?_
    exact jg_iret rfl rfl h
  have h := jg_f h hc
  refine jg_swc (v := 4) (t := 68) (fun hc => ?_) (fun hc => ?_)
  · have h := jg_t h hc
    refine jg_A (pc' := 69) rfl rfl (fun _ _ _ => rfl) ?_
    refine jg_getO (pc' := 72) (k := 48) rfl h0 (by decide) rfl rfl ?_
    refine jg_calX (M1 := mm_X4_rings) (hy := 3) (pc' := 75) rfl jm_X4_rings (by decide) rfl (jg_sX11_5 h0) (by decide) ⟨Nat.le_of_ble_eq_true rfl, rfl⟩ (Nat.le_of_ble_eq_true rfl) rfl h (jg_kI (fun z102 m101 h => ?_))
    exact jg_iret rfl rfl h
  have h := jg_f h hc
  show jg_G w 4 mm_X11_relations 76 [.ref a0, .int (.ofInt x1)] [] σ (jg_QI Q)
  refine jg_A (pc' := 77) rfl rfl (fun _ _ _ => rfl) ?_
  exact jg_iret rfl rfl h
set_option maxRecDepth 100000 in
set_option maxHeartbeats 4000000 in
theorem jb_X11_conflicts_0 {w : Nat} {a0 : Nat} {σ : jg_M} {Q : Int → jg_M → Prop} (h0 : jg_sh a0 = (11, 0)) (h : ∀ r101 : Nat, r101 = (σ.1 a0 3).toNat → jg_sh r101 = (8, 0) ∧ jg_CI w 1 mm_X8_conflictCount [.ref r101] σ (fun (z103 : Int) (m102 : jg_M) => Q z103 m102)) : jg_CI w 2 mm_X11_conflicts [.ref a0] σ Q := by
  show jg_G w 2 mm_X11_conflicts 0 [.ref a0] [] σ (jg_QI Q)
  refine jg_A (pc' := 1) rfl rfl (fun _ _ _ => rfl) ?_
  refine jg_getR (pc' := 4) (bi := 3) rfl h0 (by decide) rfl rfl rfl (fun r101 er101 => ?_)
  obtain ⟨hr101, h⟩ := h r101 er101
  refine jg_calX (M1 := mm_X8_conflictCount) (hy := 1) (pc' := 7) rfl jm_X8_conflictCount (by decide) rfl hr101 (by decide) ⟨Nat.le_of_ble_eq_true rfl, rfl⟩ (Nat.le_of_ble_eq_true rfl) rfl h (jg_kI (fun z103 m102 h => ?_))
  exact jg_iret rfl rfl h
set_option maxRecDepth 100000 in
set_option maxHeartbeats 4000000 in
theorem jb_X11_conflict_0 {w : Nat} {a0 : Nat} {x1 : Int} {x2 : Int} {σ : jg_M} {Q : Int → jg_M → Prop} (h0 : jg_sh a0 = (11, 0)) (h : ∀ r101 : Nat, r101 = (σ.1 a0 3).toNat → jg_sh r101 = (8, 0) ∧ jg_CI w 1 mm_X8_cellOfConflict [.ref r101, .int (.ofInt x1)] σ (fun (z103 : Int) (m102 : jg_M) => (if 0 ≤ jg_wr z103 then (if jg_wr x2 = 0 then Q (jg_div z103 8) m102 else (if jg_wr x2 = 1 then Q (jg_rem z103 8) m102 else (if jg_wr x2 = 2 then ∀ r104 : Nat, r104 = (m102.1 a0 3).toNat → jg_sh r104 = (8, 0) ∧ jg_CI w 1 mm_X8_actionFor [.ref r104, .int (.ofInt (jg_div z103 8)), .int (.ofInt (jg_rem z103 8))] m102 (fun (z106 : Int) (m105 : jg_M) => Q z106 m105) else (if jg_wr x2 = 3 then ∀ r107 : Nat, r107 = (m102.1 a0 3).toNat → jg_sh r107 = (8, 0) ∧ jg_CI w 1 mm_X8_ruleOfConflict [.ref r107, .int (.ofInt x1), .int (.ofInt z103)] m102 (fun (z109 : Int) (m108 : jg_M) => Q z109 m108) else Q (-1) m102)))) else Q (-1) m102))) : jg_CI w 2 mm_X11_conflict [.ref a0, .int (.ofInt x1), .int (.ofInt x2)] σ Q := by
  show jg_G w 2 mm_X11_conflict 0 [.ref a0, .int (.ofInt x1), .int (.ofInt x2), mj_U] [] σ (jg_QI Q)
  refine jg_A (pc' := 1) rfl rfl (fun _ _ _ => rfl) ?_
  refine jg_getR (pc' := 4) (bi := 3) rfl h0 (by decide) rfl rfl rfl (fun r101 er101 => ?_)
  obtain ⟨hr101, h⟩ := h r101 er101
  refine jg_A (pc' := 5) rfl rfl (fun _ _ _ => rfl) ?_
  refine jg_calX (M1 := mm_X8_cellOfConflict) (hy := 1) (pc' := 8) rfl jm_X8_cellOfConflict (by decide) rfl hr101 (by decide) ⟨Nat.le_of_ble_eq_true rfl, rfl⟩ (Nat.le_of_ble_eq_true rfl) rfl h (jg_kI (fun z103 m102 h => ?_))
  refine jg_A (pc' := 9) (ls' := [.ref a0, .int (.ofInt x1), .int (.ofInt x2), .int (.ofInt z103)]) rfl rfl (fun _ _ _ => rfl) ?_
  refine jg_A (pc' := 10) rfl rfl (fun _ _ _ => rfl) ?_
  refine jg_ifge (pc' := 13) rfl rfl (fun hc => ?_) (fun hc => ?_)
  · have h := jg_t h (show 0 ≤ jg_wr z103 from hc)
    refine jg_A (pc' := 16) rfl rfl (fun _ _ _ => rfl) ?_
    refine jg_tsw rfl rfl ?_
    refine jg_swc (v := 0) (t := 48) (fun hc => ?_) (fun hc => ?_)
    · have h := jg_t h hc
      refine jg_A (pc' := 49) rfl rfl (fun _ _ _ => rfl) ?_
      refine jg_A (pc' := 51) rfl rfl (fun _ _ _ => rfl) ?_
      refine jg_idiv (pc' := 52) rfl rfl (by decide) ?_
      exact jg_iret rfl rfl h
    have h := jg_f h hc
    refine jg_swc (v := 1) (t := 53) (fun hc => ?_) (fun hc => ?_)
    · have h := jg_t h hc
      refine jg_A (pc' := 54) rfl rfl (fun _ _ _ => rfl) ?_
      refine jg_A (pc' := 56) rfl rfl (fun _ _ _ => rfl) ?_
      refine jg_irem (pc' := 57) rfl rfl (by decide) ?_
      exact jg_iret rfl rfl h
    have h := jg_f h hc
    refine jg_swc (v := 2) (t := 58) (fun hc => ?_) (fun hc => ?_)
    · have h := jg_t h hc
      refine jg_A (pc' := 59) rfl rfl (fun _ _ _ => rfl) ?_
      refine jg_getR (pc' := 62) (bi := 3) rfl h0 (by decide) rfl rfl rfl (fun r104 er104 => ?_)
      obtain ⟨hr104, h⟩ := h r104 er104
      refine jg_A (pc' := 63) rfl rfl (fun _ _ _ => rfl) ?_
      refine jg_A (pc' := 65) rfl rfl (fun _ _ _ => rfl) ?_
      refine jg_idiv (pc' := 66) rfl rfl (by decide) ?_
      refine jg_A (pc' := 67) rfl rfl (fun _ _ _ => rfl) ?_
      refine jg_A (pc' := 69) rfl rfl (fun _ _ _ => rfl) ?_
      refine jg_irem (pc' := 70) rfl rfl (by decide) ?_
      refine jg_calX (M1 := mm_X8_actionFor) (hy := 1) (pc' := 73) rfl jm_X8_actionFor (by decide) rfl hr104 (by decide) ⟨Nat.le_of_ble_eq_true rfl, rfl⟩ (Nat.le_of_ble_eq_true rfl) rfl h (jg_kI (fun z106 m105 h => ?_))
      exact jg_iret rfl rfl h
    have h := jg_f h hc
    refine jg_swc (v := 3) (t := 74) (fun hc => ?_) (fun hc => ?_)
    · have h := jg_t h hc
      refine jg_A (pc' := 75) rfl rfl (fun _ _ _ => rfl) ?_
      refine jg_getR (pc' := 78) (bi := 3) rfl h0 (by decide) rfl rfl rfl (fun r107 er107 => ?_)
      obtain ⟨hr107, h⟩ := h r107 er107
      refine jg_A (pc' := 79) rfl rfl (fun _ _ _ => rfl) ?_
      refine jg_A (pc' := 80) rfl rfl (fun _ _ _ => rfl) ?_
      refine jg_calX (M1 := mm_X8_ruleOfConflict) (hy := 1) (pc' := 83) rfl jm_X8_ruleOfConflict (by decide) rfl hr107 (by decide) ⟨Nat.le_of_ble_eq_true rfl, rfl⟩ (Nat.le_of_ble_eq_true rfl) rfl h (jg_kI (fun z109 m108 h => ?_))
      exact jg_iret rfl rfl h
    have h := jg_f h hc
    show jg_G w 2 mm_X11_conflict 84 [.ref a0, .int (.ofInt x1), .int (.ofInt x2), .int (.ofInt z103)] [] m102 (jg_QI Q)
    refine jg_A (pc' := 85) rfl rfl (fun _ _ _ => rfl) ?_
    exact jg_iret rfl rfl h
  · have h := jg_f h (show ¬ (0 ≤ jg_wr z103) from hc)
    refine jg_A (pc' := 14) rfl rfl (fun _ _ _ => rfl) ?_
    exact jg_iret rfl rfl h
set_option maxRecDepth 100000 in
set_option maxHeartbeats 4000000 in
theorem jb_X11_shortest_0 {w : Nat} {a0 : Nat} {x1 : Int} {x2 : Int} {σ : jg_M} {Q : Int → jg_M → Prop} (h0 : jg_sh a0 = (11, 0)) (h : ∀ r101 : Nat, r101 = (σ.1 a0 3).toNat → jg_sh r101 = (8, 0) ∧ jg_CI w 0 mm_X0_hasKind [.ref (r101 + 1), .int (.ofInt x1)] σ (fun (z103 : Int) (m102 : jg_M) => (if jg_wr z103 = 0 then Q (-1) m102 else (if 0 ≤ jg_wr x2 then jg_CI w 0 mm_X6_tokenOfKind [.ref (a0 + 55), .int (.ofInt x1), .int (.ofInt x2)] m102 (fun (z105 : Int) (m104 : jg_M) => Q z105 m104) else Q (-1) m102)))) : jg_CI w 1 mm_X11_shortest [.ref a0, .int (.ofInt x1), .int (.ofInt x2)] σ Q := by
  show jg_G w 1 mm_X11_shortest 0 [.ref a0, .int (.ofInt x1), .int (.ofInt x2)] [] σ (jg_QI Q)
  refine jg_A (pc' := 1) rfl rfl (fun _ _ _ => rfl) ?_
  refine jg_getR (pc' := 4) (bi := 3) rfl h0 (by decide) rfl rfl rfl (fun r101 er101 => ?_)
  obtain ⟨hr101, h⟩ := h r101 er101
  refine jg_getO (pc' := 7) (k := 1) rfl hr101 (by decide) rfl rfl ?_
  refine jg_A (pc' := 8) rfl rfl (fun _ _ _ => rfl) ?_
  refine jg_calX (M1 := mm_X0_hasKind) (hy := 0) (pc' := 11) rfl jm_X0_hasKind (by decide) rfl (jg_sX8_0 hr101) (by decide) ⟨Nat.le_of_ble_eq_true rfl, rfl⟩ (Nat.le_of_ble_eq_true rfl) rfl h (jg_kI (fun z103 m102 h => ?_))
  refine jg_ifeq (pc' := 14) rfl rfl (fun hc => ?_) (fun hc => ?_)
  · have h := jg_t h (show jg_wr z103 = 0 from hc)
    refine jg_A (pc' := 19) rfl rfl (fun _ _ _ => rfl) ?_
    exact jg_iret rfl rfl h
  · have h := jg_f h (show ¬ (jg_wr z103 = 0) from hc)
    refine jg_A (pc' := 15) rfl rfl (fun _ _ _ => rfl) ?_
    refine jg_ifge (pc' := 18) rfl rfl (fun hc => ?_) (fun hc => ?_)
    · have h := jg_t h (show 0 ≤ jg_wr x2 from hc)
      refine jg_A (pc' := 21) rfl rfl (fun _ _ _ => rfl) ?_
      refine jg_getO (pc' := 24) (k := 55) rfl h0 (by decide) rfl rfl ?_
      refine jg_A (pc' := 25) rfl rfl (fun _ _ _ => rfl) ?_
      refine jg_A (pc' := 26) rfl rfl (fun _ _ _ => rfl) ?_
      refine jg_calX (M1 := mm_X6_tokenOfKind) (hy := 0) (pc' := 29) rfl jm_X6_tokenOfKind (by decide) rfl (jg_sX11_6 h0) (by decide) ⟨Nat.le_of_ble_eq_true rfl, rfl⟩ (Nat.le_of_ble_eq_true rfl) rfl h (jg_kI (fun z105 m104 h => ?_))
      exact jg_iret rfl rfl h
    · have h := jg_f h (show ¬ (0 ≤ jg_wr x2) from hc)
      refine jg_A (pc' := 19) rfl rfl (fun _ _ _ => rfl) ?_
      exact jg_iret rfl rfl h
set_option maxRecDepth 100000 in
set_option maxHeartbeats 4000000 in
theorem jb_X11_sentences_0 {w : Nat} {a0 : Nat} {x1 : Int} {σ : jg_M} {Q : Int → jg_M → Prop} (h0 : jg_sh a0 = (11, 0)) (h : (if jg_wr x1 < 0 then Q (-1) σ else (if jg_wr x1 ≤ 4 then ∀ r101 : Nat, r101 = (σ.1 a0 3).toNat → jg_sh r101 = (8, 0) ∧ jg_CV w 1 mm_X5_begin [.ref (a0 + 90), .ref r101] σ (fun (m102 : jg_M) => ∀ r103 : Nat, r103 = (m102.1 a0 3).toNat → jg_sh r103 = (8, 0) ∧ jg_CI w 12 mm_X11_sentencesFrom [.ref r103, .ref (a0 + 90), .int (.ofInt x1)] m102 (fun (z105 : Int) (m104 : jg_M) => Q z105 m104)) else Q (-1) σ))) : jg_CI w 13 mm_X11_sentences [.ref a0, .int (.ofInt x1)] σ Q := by
  show jg_G w 13 mm_X11_sentences 0 [.ref a0, .int (.ofInt x1)] [] σ (jg_QI Q)
  refine jg_A (pc' := 1) rfl rfl (fun _ _ _ => rfl) ?_
  refine jg_iflt (pc' := 4) rfl rfl (fun hc => ?_) (fun hc => ?_)
  · have h := jg_t h (show jg_wr x1 < 0 from hc)
    refine jg_A (pc' := 10) rfl rfl (fun _ _ _ => rfl) ?_
    exact jg_iret rfl rfl h
  · have h := jg_f h (show ¬ (jg_wr x1 < 0) from hc)
    refine jg_A (pc' := 5) rfl rfl (fun _ _ _ => rfl) ?_
    refine jg_A (pc' := 6) rfl rfl (fun _ _ _ => rfl) ?_
    refine jg_cle (pc' := 9) rfl rfl (fun hc => ?_) (fun hc => ?_)
    · have h := jg_t h (show jg_wr x1 ≤ 4 from hc)
      refine jg_A (pc' := 12) rfl rfl (fun _ _ _ => rfl) ?_
      refine jg_getO (pc' := 15) (k := 90) rfl h0 (by decide) rfl rfl ?_
      refine jg_A (pc' := 16) rfl rfl (fun _ _ _ => rfl) ?_
      refine jg_getR (pc' := 19) (bi := 3) rfl h0 (by decide) rfl rfl rfl (fun r101 er101 => ?_)
      obtain ⟨hr101, h⟩ := h r101 er101
      refine jg_calX (M1 := mm_X5_begin) (hy := 1) (pc' := 22) rfl jm_X5_begin (by decide) rfl (jg_sX11_9 h0) (by decide) ⟨Nat.le_of_ble_eq_true rfl, rfl⟩ (Nat.le_of_ble_eq_true rfl) rfl h (jg_kV (fun m102 h => ?_))
      refine jg_A (pc' := 23) rfl rfl (fun _ _ _ => rfl) ?_
      refine jg_getR (pc' := 26) (bi := 3) rfl h0 (by decide) rfl rfl rfl (fun r103 er103 => ?_)
      obtain ⟨hr103, h⟩ := h r103 er103
      refine jg_A (pc' := 27) rfl rfl (fun _ _ _ => rfl) ?_
      refine jg_getO (pc' := 30) (k := 90) rfl h0 (by decide) rfl rfl ?_
      refine jg_A (pc' := 31) rfl rfl (fun _ _ _ => rfl) ?_
      refine jg_calS (M1 := mm_X11_sentencesFrom) (hy := 12) (pc' := 34) rfl (Or.inl rfl) jm_X11_sentencesFrom (by decide) rfl ⟨Nat.le_of_ble_eq_true rfl, rfl⟩ (Nat.le_of_ble_eq_true rfl) rfl h (jg_kI (fun z105 m104 h => ?_))
      exact jg_iret rfl rfl h
    · have h := jg_f h (show ¬ (jg_wr x1 ≤ 4) from hc)
      refine jg_A (pc' := 10) rfl rfl (fun _ _ _ => rfl) ?_
      exact jg_iret rfl rfl h
set_option maxRecDepth 100000 in
set_option maxHeartbeats 4000000 in
theorem jb_X11_sentencesFrom_0 {w : Nat} {a0 : Nat} {a1 : Nat} {x2 : Int} {d : Nat} {σ : jg_M} {Q : Int → jg_M → Prop} (hd : 4 ≤ d) (h0 : jg_sh a0 = (8, 0)) (h1 : jg_sh a1 = (5, 0)) (h : (if jg_bot a1 = true then Q 0 σ else (if 0 < jg_wr x2 then jg_GI w (d + 1) mm_X11_sentencesFrom 47 [.ref a0, .ref a1, .int (.ofInt x2), .ref (a1 - 2), .int (.ofInt 0), .int (.ofInt 0)] σ Q else jg_CV w 1 mm_X5_copy [.ref (a1 - 2), .ref a1] σ (fun (m104 : jg_M) => jg_CI w 3 mm_X5_take [.ref (a1 - 2), .ref a0, .int (.ofInt (m104.1 (a0 + 1) 0))] m104 (fun (z106 : Int) (m105 : jg_M) => (if jg_wr z106 < 0 then Q 0 m105 else Q 1 m105)))))) : jg_CI w (d + 1) mm_X11_sentencesFrom [.ref a0, .ref a1, .int (.ofInt x2)] σ Q := by
  show jg_G w (d + 1) mm_X11_sentencesFrom 0 [.ref a0, .ref a1, .int (.ofInt x2), mj_U, mj_U, mj_U] [] σ (jg_QI Q)
  refine jg_A (pc' := 1) rfl rfl (fun _ _ _ => rfl) ?_
  refine jg_getN (pc' := 4) rfl h1 (by decide) rfl rfl (fun hc => ?_) (fun hcn => ?_)
  · have h := jg_t h hc
    refine jg_A (pc' := 5) (ls' := [.ref a0, .ref a1, .int (.ofInt x2), .null, mj_U, mj_U]) rfl rfl (fun _ _ _ => rfl) ?_
    refine jg_A (pc' := 6) rfl rfl (fun _ _ _ => rfl) ?_
    refine jg_nonnullF (pc' := 9) rfl rfl ?_
    refine jg_A (pc' := 10) rfl rfl (fun _ _ _ => rfl) ?_
    exact jg_iret rfl rfl h
  · have h := jg_f h hcn
    refine jg_A (pc' := 5) (ls' := [.ref a0, .ref a1, .int (.ofInt x2), .ref (a1 - 2), mj_U, mj_U]) rfl rfl (fun _ _ _ => rfl) ?_
    refine jg_A (pc' := 6) rfl rfl (fun _ _ _ => rfl) ?_
    refine jg_nonnullT rfl ?_
    refine jg_A (pc' := 12) rfl rfl (fun _ _ _ => rfl) ?_
    refine jg_ifgt (pc' := 15) rfl rfl (fun hc => ?_) (fun hc => ?_)
    · have h := jg_t h (show 0 < jg_wr x2 from hc)
      refine jg_A (pc' := 42) rfl rfl (fun _ _ _ => rfl) ?_
      refine jg_A (pc' := 44) (ls' := [.ref a0, .ref a1, .int (.ofInt x2), .ref (a1 - 2), .int (.ofInt 0), mj_U]) rfl rfl (fun _ _ _ => rfl) ?_
      refine jg_A (pc' := 45) rfl rfl (fun _ _ _ => rfl) ?_
      refine jg_A (pc' := 47) (ls' := [.ref a0, .ref a1, .int (.ofInt x2), .ref (a1 - 2), .int (.ofInt 0), .int (.ofInt 0)]) rfl rfl (fun _ _ _ => rfl) ?_
      exact h
    · have h := jg_f h (show ¬ (0 < jg_wr x2) from hc)
      refine jg_A (pc' := 16) rfl rfl (fun _ _ _ => rfl) ?_
      refine jg_A (pc' := 17) rfl rfl (fun _ _ _ => rfl) ?_
      refine jg_calX (M1 := mm_X5_copy) (hy := 1) (pc' := 20) rfl jm_X5_copy (by omega) rfl (jg_sX5_0 h1 hcn) (by decide) ⟨Nat.le_of_ble_eq_true rfl, rfl⟩ (Nat.le_of_ble_eq_true rfl) rfl h (jg_kV (fun m104 h => ?_))
      refine jg_A (pc' := 21) rfl rfl (fun _ _ _ => rfl) ?_
      refine jg_A (pc' := 22) rfl rfl (fun _ _ _ => rfl) ?_
      refine jg_A (pc' := 23) rfl rfl (fun _ _ _ => rfl) ?_
      refine jg_getO (pc' := 26) (k := 1) rfl h0 (by decide) rfl rfl ?_
      refine jg_getI (pc' := 29) (bi := 0) rfl (jg_sX8_0 h0) (by decide) (Or.inl rfl) rfl rfl ?_
      refine jg_calX (M1 := mm_X5_take) (hy := 3) (pc' := 32) rfl jm_X5_take (by omega) rfl (jg_sX5_0 h1 hcn) (by decide) ⟨Nat.le_of_ble_eq_true rfl, rfl⟩ (Nat.le_of_ble_eq_true rfl) rfl h (jg_kI (fun z106 m105 h => ?_))
      refine jg_iflt (pc' := 35) rfl rfl (fun hc => ?_) (fun hc => ?_)
      · have h := jg_t h (show jg_wr z106 < 0 from hc)
        refine jg_A (pc' := 40) rfl rfl (fun _ _ _ => rfl) ?_
        exact jg_iret rfl rfl h
      · have h := jg_f h (show ¬ (jg_wr z106 < 0) from hc)
        refine jg_A (pc' := 36) rfl rfl (fun _ _ _ => rfl) ?_
        refine jg_goto rfl ?_
        exact jg_iret rfl rfl h
set_option maxRecDepth 100000 in
set_option maxHeartbeats 4000000 in
theorem jb_X11_sentencesFrom_47 {w : Nat} {a0 : Nat} {a1 : Nat} {x2 : Int} {a3 : Nat} {x4 : Int} {x5 : Int} {d : Nat} {σ : jg_M} {Q : Int → jg_M → Prop} (hd : 4 ≤ d) (h0 : jg_sh a0 = (8, 0)) (h1 : jg_sh a1 = (5, 0)) (h3 : jg_sh a3 = (5, 0)) (h : (if jg_wr (σ.1 (a0 + 1) 0) ≤ jg_wr x5 then Q x4 σ else jg_CV w 1 mm_X5_copy [.ref a3, .ref a1] σ (fun (m101 : jg_M) => jg_CI w 3 mm_X5_take [.ref a3, .ref a0, .int (.ofInt x5)] m101 (fun (z103 : Int) (m102 : jg_M) => (if jg_wr z103 < 0 then jg_GI w (d + 1) mm_X11_sentencesFrom 47 [.ref a0, .ref a1, .int (.ofInt x2), .ref a3, .int (.ofInt x4), .int (.ofInt (x5 + 1))] m102 Q else jg_CI w d mm_X11_sentencesFrom [.ref a0, .ref a3, .int (.ofInt (x2 - 1))] m102 (fun (z105 : Int) (m104 : jg_M) => ∀ t106 : Int, t106 = (x4 + z105) → jg_GI w (d + 1) mm_X11_sentencesFrom 47 [.ref a0, .ref a1, .int (.ofInt x2), .ref a3, .int (.ofInt t106), .int (.ofInt (x5 + 1))] m104 Q)))))) : jg_GI w (d + 1) mm_X11_sentencesFrom 47 [.ref a0, .ref a1, .int (.ofInt x2), .ref a3, .int (.ofInt x4), .int (.ofInt x5)] σ Q := by
  show jg_G w (d + 1) mm_X11_sentencesFrom 47 [.ref a0, .ref a1, .int (.ofInt x2), .ref a3, .int (.ofInt x4), .int (.ofInt x5)] [] σ (jg_QI Q)
  refine jg_A (pc' := 49) rfl rfl (fun _ _ _ => rfl) ?_
  refine jg_A (pc' := 50) rfl rfl (fun _ _ _ => rfl) ?_
  refine jg_getO (pc' := 53) (k := 1) rfl h0 (by decide) rfl rfl ?_
  refine jg_getI (pc' := 56) (bi := 0) rfl (jg_sX8_0 h0) (by decide) (Or.inl rfl) rfl rfl ?_
  refine jg_cge (pc' := 59) rfl rfl (fun hc => ?_) (fun hc => ?_)
  · have h := jg_t h (show jg_wr (σ.1 (a0 + 1) 0) ≤ jg_wr x5 from hc)
    refine jg_A (pc' := 95) rfl rfl (fun _ _ _ => rfl) ?_
    exact jg_iret rfl rfl h
  · have h := jg_f h (show ¬ (jg_wr (σ.1 (a0 + 1) 0) ≤ jg_wr x5) from hc)
    refine jg_A (pc' := 60) rfl rfl (fun _ _ _ => rfl) ?_
    refine jg_A (pc' := 61) rfl rfl (fun _ _ _ => rfl) ?_
    refine jg_calX (M1 := mm_X5_copy) (hy := 1) (pc' := 64) rfl jm_X5_copy (by omega) rfl h3 (by decide) ⟨Nat.le_of_ble_eq_true rfl, rfl⟩ (Nat.le_of_ble_eq_true rfl) rfl h (jg_kV (fun m101 h => ?_))
    refine jg_A (pc' := 65) rfl rfl (fun _ _ _ => rfl) ?_
    refine jg_A (pc' := 66) rfl rfl (fun _ _ _ => rfl) ?_
    refine jg_A (pc' := 68) rfl rfl (fun _ _ _ => rfl) ?_
    refine jg_calX (M1 := mm_X5_take) (hy := 3) (pc' := 71) rfl jm_X5_take (by omega) rfl h3 (by decide) ⟨Nat.le_of_ble_eq_true rfl, rfl⟩ (Nat.le_of_ble_eq_true rfl) rfl h (jg_kI (fun z103 m102 h => ?_))
    refine jg_iflt (pc' := 74) rfl rfl (fun hc => ?_) (fun hc => ?_)
    · have h := jg_t h (show jg_wr z103 < 0 from hc)
      refine jg_iinc (pc' := 90) (ls' := [.ref a0, .ref a1, .int (.ofInt x2), .ref a3, .int (.ofInt x4), .int (.ofInt (x5 + 1))]) rfl rfl rfl rfl ?_
      refine jg_goto rfl ?_
      exact h
    · have h := jg_f h (show ¬ (jg_wr z103 < 0) from hc)
      refine jg_A (pc' := 76) rfl rfl (fun _ _ _ => rfl) ?_
      refine jg_A (pc' := 77) rfl rfl (fun _ _ _ => rfl) ?_
      refine jg_A (pc' := 78) rfl rfl (fun _ _ _ => rfl) ?_
      refine jg_A (pc' := 79) rfl rfl (fun _ _ _ => rfl) ?_
      refine jg_A (pc' := 80) rfl rfl (fun _ _ _ => rfl) ?_
      refine jg_isub (pc' := 81) rfl rfl ?_
      refine jg_calS (M1 := mm_X11_sentencesFrom) (hy := d) (pc' := 84) rfl (Or.inl rfl) jm_X11_sentencesFrom (by omega) rfl ⟨Nat.le_of_ble_eq_true rfl, rfl⟩ (Nat.le_of_ble_eq_true rfl) rfl h (jg_kI (fun z105 m104 h => ?_))
      refine jg_iadd (pc' := 85) rfl rfl ?_
      refine jg_nm (F := fun t106 => jg_G w (d + 1) mm_X11_sentencesFrom 85 [.ref a0, .ref a1, .int (.ofInt x2), .ref a3, .int (.ofInt x4), .int (.ofInt x5)] [.int (.ofInt t106)] m104 (jg_QI Q)) (x4 + z105) (fun t106 ht106 => ?_)
      have h := h t106 ht106
      refine jg_A (pc' := 87) (ls' := [.ref a0, .ref a1, .int (.ofInt x2), .ref a3, .int (.ofInt t106), .int (.ofInt x5)]) rfl rfl (fun _ _ _ => rfl) ?_
      refine jg_iinc (pc' := 90) (ls' := [.ref a0, .ref a1, .int (.ofInt x2), .ref a3, .int (.ofInt t106), .int (.ofInt (x5 + 1))]) rfl rfl rfl rfl ?_
      refine jg_goto rfl ?_
      exact h
set_option maxRecDepth 100000 in
set_option maxHeartbeats 4000000 in
theorem jb_X11_hasStates_0 {w : Nat} {a0 : Nat} {σ : jg_M} {Q : Int → jg_M → Prop} (h0 : jg_sh a0 = (11, 0)) (h : ∀ r101 : Nat, r101 = (σ.1 a0 3).toNat → jg_sh r101 = (8, 0) ∧ (if jg_wr (σ.1 (r101 + 10) 0) ≤ 0 then Q 0 σ else Q 1 σ)) : jg_CI w 0 mm_X11_hasStates [.ref a0] σ Q := by
  show jg_G w 0 mm_X11_hasStates 0 [.ref a0] [] σ (jg_QI Q)
  refine jg_A (pc' := 1) rfl rfl (fun _ _ _ => rfl) ?_
  refine jg_getR (pc' := 4) (bi := 3) rfl h0 (by decide) rfl rfl rfl (fun r101 er101 => ?_)
  obtain ⟨hr101, h⟩ := h r101 er101
  refine jg_getO (pc' := 7) (k := 10) rfl hr101 (by decide) rfl rfl ?_
  refine jg_getI (pc' := 10) (bi := 0) rfl (jg_sX8_1 hr101) (by decide) (Or.inl rfl) rfl rfl ?_
  refine jg_ifle (pc' := 13) rfl rfl (fun hc => ?_) (fun hc => ?_)
  · have h := jg_t h (show jg_wr (σ.1 (r101 + 10) 0) ≤ 0 from hc)
    refine jg_A (pc' := 18) rfl rfl (fun _ _ _ => rfl) ?_
    exact jg_zret rfl rfl (by decide) h
  · have h := jg_f h (show ¬ (jg_wr (σ.1 (r101 + 10) 0) ≤ 0) from hc)
    refine jg_A (pc' := 14) rfl rfl (fun _ _ _ => rfl) ?_
    refine jg_goto rfl ?_
    exact jg_zret rfl rfl (by decide) h
set_option maxRecDepth 100000 in
set_option maxHeartbeats 4000000 in
theorem jb_X11_read_0 {w : Nat} {a0 : Nat} {x1 : Int} {σ : jg_M} {Q : Int → jg_M → Prop} (h0 : jg_sh a0 = (11, 0)) (h : ∀ r101 : Nat, r101 = (σ.1 a0 3).toNat → jg_sh r101 = (8, 0) ∧ jg_CI w 0 mm_X0_hasToken [.ref (r101 + 1), .int (.ofInt x1)] σ (fun (z103 : Int) (m102 : jg_M) => (if jg_wr z103 = 0 then Q (-1) m102 else jg_CI w 0 mm_X11_hasStates [.ref a0] m102 (fun (z105 : Int) (m104 : jg_M) => (if jg_wr z105 = 0 then Q (-1) m104 else jg_CV w 1 mm_X5_copy [.ref (a0 + 90), .ref (a0 + 65)] m104 (fun (m106 : jg_M) => ∀ r107 : Nat, r107 = (m106.1 a0 3).toNat → jg_sh r107 = (8, 0) ∧ jg_CI w 3 mm_X5_take [.ref (a0 + 90), .ref r107, .int (.ofInt x1)] m106 (fun (z109 : Int) (m108 : jg_M) => (if jg_wr z109 < 0 then Q z109 m108 else jg_CV w 1 mm_X3_add [.ref (a0 + 69), .ref (a0 + 65)] m108 (fun (m110 : jg_M) => jg_CV w 1 mm_X5_copy [.ref (a0 + 65), .ref (a0 + 90)] m110 (fun (m111 : jg_M) => Q z109 m111)))))))))) : jg_CI w 4 mm_X11_read [.ref a0, .int (.ofInt x1)] σ Q := by
  show jg_G w 4 mm_X11_read 0 [.ref a0, .int (.ofInt x1), mj_U] [] σ (jg_QI Q)
  refine jg_A (pc' := 1) rfl rfl (fun _ _ _ => rfl) ?_
  refine jg_getR (pc' := 4) (bi := 3) rfl h0 (by decide) rfl rfl rfl (fun r101 er101 => ?_)
  obtain ⟨hr101, h⟩ := h r101 er101
  refine jg_getO (pc' := 7) (k := 1) rfl hr101 (by decide) rfl rfl ?_
  refine jg_A (pc' := 8) rfl rfl (fun _ _ _ => rfl) ?_
  refine jg_calX (M1 := mm_X0_hasToken) (hy := 0) (pc' := 11) rfl jm_X0_hasToken (by decide) rfl (jg_sX8_0 hr101) (by decide) ⟨Nat.le_of_ble_eq_true rfl, rfl⟩ (Nat.le_of_ble_eq_true rfl) rfl h (jg_kI (fun z103 m102 h => ?_))
  refine jg_ifeq (pc' := 14) rfl rfl (fun hc => ?_) (fun hc => ?_)
  · have h := jg_t h (show jg_wr z103 = 0 from hc)
    refine jg_A (pc' := 22) rfl rfl (fun _ _ _ => rfl) ?_
    exact jg_iret rfl rfl h
  · have h := jg_f h (show ¬ (jg_wr z103 = 0) from hc)
    refine jg_A (pc' := 15) rfl rfl (fun _ _ _ => rfl) ?_
    refine jg_calX (M1 := mm_X11_hasStates) (hy := 0) (pc' := 18) rfl jm_X11_hasStates (by decide) rfl h0 (by decide) ⟨Nat.le_of_ble_eq_true rfl, rfl⟩ (Nat.le_of_ble_eq_true rfl) rfl h (jg_kI (fun z105 m104 h => ?_))
    refine jg_ifne (pc' := 21) rfl rfl (fun hc => ?_) (fun hc => ?_)
    · have h := jg_t h (show jg_wr z105 = 0 from hc)
      refine jg_A (pc' := 22) rfl rfl (fun _ _ _ => rfl) ?_
      exact jg_iret rfl rfl h
    · have h := jg_f h (show ¬ (jg_wr z105 = 0) from hc)
      refine jg_A (pc' := 24) rfl rfl (fun _ _ _ => rfl) ?_
      refine jg_getO (pc' := 27) (k := 90) rfl h0 (by decide) rfl rfl ?_
      refine jg_A (pc' := 28) rfl rfl (fun _ _ _ => rfl) ?_
      refine jg_getO (pc' := 31) (k := 65) rfl h0 (by decide) rfl rfl ?_
      refine jg_calX (M1 := mm_X5_copy) (hy := 1) (pc' := 34) rfl jm_X5_copy (by decide) rfl (jg_sX11_9 h0) (by decide) ⟨Nat.le_of_ble_eq_true rfl, rfl⟩ (Nat.le_of_ble_eq_true rfl) rfl h (jg_kV (fun m106 h => ?_))
      refine jg_A (pc' := 35) rfl rfl (fun _ _ _ => rfl) ?_
      refine jg_getO (pc' := 38) (k := 90) rfl h0 (by decide) rfl rfl ?_
      refine jg_A (pc' := 39) rfl rfl (fun _ _ _ => rfl) ?_
      refine jg_getR (pc' := 42) (bi := 3) rfl h0 (by decide) rfl rfl rfl (fun r107 er107 => ?_)
      obtain ⟨hr107, h⟩ := h r107 er107
      refine jg_A (pc' := 43) rfl rfl (fun _ _ _ => rfl) ?_
      refine jg_calX (M1 := mm_X5_take) (hy := 3) (pc' := 46) rfl jm_X5_take (by decide) rfl (jg_sX11_9 h0) (by decide) ⟨Nat.le_of_ble_eq_true rfl, rfl⟩ (Nat.le_of_ble_eq_true rfl) rfl h (jg_kI (fun z109 m108 h => ?_))
      refine jg_A (pc' := 47) (ls' := [.ref a0, .int (.ofInt x1), .int (.ofInt z109)]) rfl rfl (fun _ _ _ => rfl) ?_
      refine jg_A (pc' := 48) rfl rfl (fun _ _ _ => rfl) ?_
      refine jg_iflt (pc' := 51) rfl rfl (fun hc => ?_) (fun hc => ?_)
      · have h := jg_t h (show jg_wr z109 < 0 from hc)
        refine jg_A (pc' := 74) rfl rfl (fun _ _ _ => rfl) ?_
        exact jg_iret rfl rfl h
      · have h := jg_f h (show ¬ (jg_wr z109 < 0) from hc)
        refine jg_A (pc' := 52) rfl rfl (fun _ _ _ => rfl) ?_
        refine jg_getO (pc' := 55) (k := 69) rfl h0 (by decide) rfl rfl ?_
        refine jg_A (pc' := 56) rfl rfl (fun _ _ _ => rfl) ?_
        refine jg_getO (pc' := 59) (k := 65) rfl h0 (by decide) rfl rfl ?_
        refine jg_calX (M1 := mm_X3_add) (hy := 1) (pc' := 62) rfl jm_X3_add (by decide) rfl (jg_sX11_12 h0) (by decide) ⟨Nat.le_of_ble_eq_true rfl, rfl⟩ (Nat.le_of_ble_eq_true rfl) rfl h (jg_kV (fun m110 h => ?_))
        refine jg_A (pc' := 63) rfl rfl (fun _ _ _ => rfl) ?_
        refine jg_getO (pc' := 66) (k := 65) rfl h0 (by decide) rfl rfl ?_
        refine jg_A (pc' := 67) rfl rfl (fun _ _ _ => rfl) ?_
        refine jg_getO (pc' := 70) (k := 90) rfl h0 (by decide) rfl rfl ?_
        refine jg_calX (M1 := mm_X5_copy) (hy := 1) (pc' := 73) rfl jm_X5_copy (by decide) rfl (jg_sX11_8 h0) (by decide) ⟨Nat.le_of_ble_eq_true rfl, rfl⟩ (Nat.le_of_ble_eq_true rfl) rfl h (jg_kV (fun m111 h => ?_))
        refine jg_A (pc' := 74) rfl rfl (fun _ _ _ => rfl) ?_
        exact jg_iret rfl rfl h
set_option maxRecDepth 100000 in
set_option maxHeartbeats 4000000 in
theorem jb_X11_whole_0 {w : Nat} {a0 : Nat} {σ : jg_M} {Q : Int → jg_M → Prop} (h0 : jg_sh a0 = (11, 0)) (h : jg_CI w 0 mm_X11_hasStates [.ref a0] σ (fun (z102 : Int) (m101 : jg_M) => (if jg_wr z102 = 0 then Q (-1) m101 else jg_CV w 1 mm_X5_copy [.ref (a0 + 90), .ref (a0 + 65)] m101 (fun (m103 : jg_M) => ∀ r104 : Nat, r104 = (m103.1 a0 3).toNat → jg_sh r104 = (8, 0) ∧ ∀ r105 : Nat, r105 = (m103.1 a0 3).toNat → jg_sh r105 = (8, 0) ∧ jg_CI w 3 mm_X5_take [.ref (a0 + 90), .ref r104, .int (.ofInt (m103.1 (r105 + 1) 0))] m103 (fun (z107 : Int) (m106 : jg_M) => (if jg_wr z107 < 0 then Q 0 m106 else Q 1 m106)))))) : jg_CI w 4 mm_X11_whole [.ref a0] σ Q := by
  show jg_G w 4 mm_X11_whole 0 [.ref a0] [] σ (jg_QI Q)
  refine jg_A (pc' := 1) rfl rfl (fun _ _ _ => rfl) ?_
  refine jg_calX (M1 := mm_X11_hasStates) (hy := 0) (pc' := 4) rfl jm_X11_hasStates (by decide) rfl h0 (by decide) ⟨Nat.le_of_ble_eq_true rfl, rfl⟩ (Nat.le_of_ble_eq_true rfl) rfl h (jg_kI (fun z102 m101 h => ?_))
  refine jg_ifne (pc' := 7) rfl rfl (fun hc => ?_) (fun hc => ?_)
  · have h := jg_t h (show jg_wr z102 = 0 from hc)
    refine jg_A (pc' := 8) rfl rfl (fun _ _ _ => rfl) ?_
    exact jg_iret rfl rfl h
  · have h := jg_f h (show ¬ (jg_wr z102 = 0) from hc)
    refine jg_A (pc' := 10) rfl rfl (fun _ _ _ => rfl) ?_
    refine jg_getO (pc' := 13) (k := 90) rfl h0 (by decide) rfl rfl ?_
    refine jg_A (pc' := 14) rfl rfl (fun _ _ _ => rfl) ?_
    refine jg_getO (pc' := 17) (k := 65) rfl h0 (by decide) rfl rfl ?_
    refine jg_calX (M1 := mm_X5_copy) (hy := 1) (pc' := 20) rfl jm_X5_copy (by decide) rfl (jg_sX11_9 h0) (by decide) ⟨Nat.le_of_ble_eq_true rfl, rfl⟩ (Nat.le_of_ble_eq_true rfl) rfl h (jg_kV (fun m103 h => ?_))
    refine jg_A (pc' := 21) rfl rfl (fun _ _ _ => rfl) ?_
    refine jg_getO (pc' := 24) (k := 90) rfl h0 (by decide) rfl rfl ?_
    refine jg_A (pc' := 25) rfl rfl (fun _ _ _ => rfl) ?_
    refine jg_getR (pc' := 28) (bi := 3) rfl h0 (by decide) rfl rfl rfl (fun r104 er104 => ?_)
    obtain ⟨hr104, h⟩ := h r104 er104
    refine jg_A (pc' := 29) rfl rfl (fun _ _ _ => rfl) ?_
    refine jg_getR (pc' := 32) (bi := 3) rfl h0 (by decide) rfl rfl rfl (fun r105 er105 => ?_)
    obtain ⟨hr105, h⟩ := h r105 er105
    refine jg_getO (pc' := 35) (k := 1) rfl hr105 (by decide) rfl rfl ?_
    refine jg_getI (pc' := 38) (bi := 0) rfl (jg_sX8_0 hr105) (by decide) (Or.inl rfl) rfl rfl ?_
    refine jg_calX (M1 := mm_X5_take) (hy := 3) (pc' := 41) rfl jm_X5_take (by decide) rfl (jg_sX11_9 h0) (by decide) ⟨Nat.le_of_ble_eq_true rfl, rfl⟩ (Nat.le_of_ble_eq_true rfl) rfl h (jg_kI (fun z107 m106 h => ?_))
    refine jg_iflt (pc' := 44) rfl rfl (fun hc => ?_) (fun hc => ?_)
    · have h := jg_t h (show jg_wr z107 < 0 from hc)
      refine jg_A (pc' := 49) rfl rfl (fun _ _ _ => rfl) ?_
      exact jg_iret rfl rfl h
    · have h := jg_f h (show ¬ (jg_wr z107 < 0) from hc)
      refine jg_A (pc' := 45) rfl rfl (fun _ _ _ => rfl) ?_
      refine jg_goto rfl ?_
      exact jg_iret rfl rfl h
set_option maxRecDepth 100000 in
set_option maxHeartbeats 4000000 in
theorem jb_X11_expected_0 {w : Nat} {a0 : Nat} {σ : jg_M} {Q : Int → jg_M → Prop} (h0 : jg_sh a0 = (11, 0)) (h : jg_GI w 4 mm_X11_expected 4 [.ref a0, .int (.ofInt 0), .int (.ofInt 0)] σ Q) : jg_CI w 4 mm_X11_expected [.ref a0] σ Q := by
  show jg_G w 4 mm_X11_expected 0 [.ref a0, mj_U, mj_U] [] σ (jg_QI Q)
  refine jg_A (pc' := 1) rfl rfl (fun _ _ _ => rfl) ?_
  refine jg_A (pc' := 2) (ls' := [.ref a0, .int (.ofInt 0), mj_U]) rfl rfl (fun _ _ _ => rfl) ?_
  refine jg_A (pc' := 3) rfl rfl (fun _ _ _ => rfl) ?_
  refine jg_A (pc' := 4) (ls' := [.ref a0, .int (.ofInt 0), .int (.ofInt 0)]) rfl rfl (fun _ _ _ => rfl) ?_
  exact h
set_option maxRecDepth 100000 in
set_option maxHeartbeats 4000000 in
theorem jb_X11_expected_4 {w : Nat} {a0 : Nat} {x1 : Int} {x2 : Int} {σ : jg_M} {Q : Int → jg_M → Prop} (h0 : jg_sh a0 = (11, 0)) (h : ∀ r101 : Nat, r101 = (σ.1 a0 3).toNat → jg_sh r101 = (8, 0) ∧ (if jg_wr (σ.1 (r101 + 1) 0) ≤ jg_wr x2 then Q x1 σ else jg_CV w 1 mm_X5_copy [.ref (a0 + 90), .ref (a0 + 65)] σ (fun (m102 : jg_M) => ∀ r103 : Nat, r103 = (m102.1 a0 3).toNat → jg_sh r103 = (8, 0) ∧ jg_CI w 3 mm_X5_take [.ref (a0 + 90), .ref r103, .int (.ofInt x2)] m102 (fun (z105 : Int) (m104 : jg_M) => (if jg_wr z105 < 0 then jg_GI w 4 mm_X11_expected 4 [.ref a0, .int (.ofInt x1), .int (.ofInt (x2 + 1))] m104 Q else ∀ t106 : Int, t106 = (jg_or x1 (jg_shl 1 x2)) → jg_GI w 4 mm_X11_expected 4 [.ref a0, .int (.ofInt t106), .int (.ofInt (x2 + 1))] m104 Q))))) : jg_GI w 4 mm_X11_expected 4 [.ref a0, .int (.ofInt x1), .int (.ofInt x2)] σ Q := by
  show jg_G w 4 mm_X11_expected 4 [.ref a0, .int (.ofInt x1), .int (.ofInt x2)] [] σ (jg_QI Q)
  refine jg_A (pc' := 5) rfl rfl (fun _ _ _ => rfl) ?_
  refine jg_A (pc' := 6) rfl rfl (fun _ _ _ => rfl) ?_
  refine jg_getR (pc' := 9) (bi := 3) rfl h0 (by decide) rfl rfl rfl (fun r101 er101 => ?_)
  obtain ⟨hr101, h⟩ := h r101 er101
  refine jg_getO (pc' := 12) (k := 1) rfl hr101 (by decide) rfl rfl ?_
  refine jg_getI (pc' := 15) (bi := 0) rfl (jg_sX8_0 hr101) (by decide) (Or.inl rfl) rfl rfl ?_
  refine jg_cge (pc' := 18) rfl rfl (fun hc => ?_) (fun hc => ?_)
  · have h := jg_t h (show jg_wr (σ.1 (r101 + 1) 0) ≤ jg_wr x2 from hc)
    refine jg_A (pc' := 57) rfl rfl (fun _ _ _ => rfl) ?_
    exact jg_iret rfl rfl h
  · have h := jg_f h (show ¬ (jg_wr (σ.1 (r101 + 1) 0) ≤ jg_wr x2) from hc)
    refine jg_A (pc' := 19) rfl rfl (fun _ _ _ => rfl) ?_
    refine jg_getO (pc' := 22) (k := 90) rfl h0 (by decide) rfl rfl ?_
    refine jg_A (pc' := 23) rfl rfl (fun _ _ _ => rfl) ?_
    refine jg_getO (pc' := 26) (k := 65) rfl h0 (by decide) rfl rfl ?_
    refine jg_calX (M1 := mm_X5_copy) (hy := 1) (pc' := 29) rfl jm_X5_copy (by decide) rfl (jg_sX11_9 h0) (by decide) ⟨Nat.le_of_ble_eq_true rfl, rfl⟩ (Nat.le_of_ble_eq_true rfl) rfl h (jg_kV (fun m102 h => ?_))
    refine jg_A (pc' := 30) rfl rfl (fun _ _ _ => rfl) ?_
    refine jg_getO (pc' := 33) (k := 90) rfl h0 (by decide) rfl rfl ?_
    refine jg_A (pc' := 34) rfl rfl (fun _ _ _ => rfl) ?_
    refine jg_getR (pc' := 37) (bi := 3) rfl h0 (by decide) rfl rfl rfl (fun r103 er103 => ?_)
    obtain ⟨hr103, h⟩ := h r103 er103
    refine jg_A (pc' := 38) rfl rfl (fun _ _ _ => rfl) ?_
    refine jg_calX (M1 := mm_X5_take) (hy := 3) (pc' := 41) rfl jm_X5_take (by decide) rfl (jg_sX11_9 h0) (by decide) ⟨Nat.le_of_ble_eq_true rfl, rfl⟩ (Nat.le_of_ble_eq_true rfl) rfl h (jg_kI (fun z105 m104 h => ?_))
    refine jg_iflt (pc' := 44) rfl rfl (fun hc => ?_) (fun hc => ?_)
    · have h := jg_t h (show jg_wr z105 < 0 from hc)
      refine jg_iinc (pc' := 53) (ls' := [.ref a0, .int (.ofInt x1), .int (.ofInt (x2 + 1))]) rfl rfl rfl rfl ?_
      refine jg_goto rfl ?_
      exact h
    · have h := jg_f h (show ¬ (jg_wr z105 < 0) from hc)
      refine jg_A (pc' := 45) rfl rfl (fun _ _ _ => rfl) ?_
      refine jg_A (pc' := 46) rfl rfl (fun _ _ _ => rfl) ?_
      refine jg_A (pc' := 47) rfl rfl (fun _ _ _ => rfl) ?_
      refine jg_ishl (pc' := 48) rfl rfl ?_
      refine jg_ior (pc' := 49) rfl rfl ?_
      refine jg_nm (F := fun t106 => jg_G w 4 mm_X11_expected 49 [.ref a0, .int (.ofInt x1), .int (.ofInt x2)] [.int (.ofInt t106)] m104 (jg_QI Q)) (jg_or x1 (jg_shl 1 x2)) (fun t106 ht106 => ?_)
      have h := h t106 ht106
      refine jg_A (pc' := 50) (ls' := [.ref a0, .int (.ofInt t106), .int (.ofInt x2)]) rfl rfl (fun _ _ _ => rfl) ?_
      refine jg_iinc (pc' := 53) (ls' := [.ref a0, .int (.ofInt t106), .int (.ofInt (x2 + 1))]) rfl rfl rfl rfl ?_
      refine jg_goto rfl ?_
      exact h
set_option maxRecDepth 100000 in
set_option maxHeartbeats 4000000 in
theorem jb_X11_stack_0 {w : Nat} {a0 : Nat} {x1 : Int} {σ : jg_M} {Q : Int → jg_M → Prop} (h0 : jg_sh a0 = (11, 0)) (h : (if jg_wr x1 < 0 then Q (-1) σ else jg_CI w 0 mm_X11_hasStates [.ref a0] σ (fun (z102 : Int) (m101 : jg_M) => (if jg_wr z102 = 0 then Q (-1) m101 else jg_CI w 0 mm_X5_stateBehindLast [.ref (a0 + 65), .int (.ofInt x1)] m101 (fun (z104 : Int) (m103 : jg_M) => Q z104 m103))))) : jg_CI w 1 mm_X11_stack [.ref a0, .int (.ofInt x1)] σ Q := by
  show jg_G w 1 mm_X11_stack 0 [.ref a0, .int (.ofInt x1)] [] σ (jg_QI Q)
  refine jg_A (pc' := 1) rfl rfl (fun _ _ _ => rfl) ?_
  refine jg_iflt (pc' := 4) rfl rfl (fun hc => ?_) (fun hc => ?_)
  · have h := jg_t h (show jg_wr x1 < 0 from hc)
    refine jg_A (pc' := 12) rfl rfl (fun _ _ _ => rfl) ?_
    exact jg_iret rfl rfl h
  · have h := jg_f h (show ¬ (jg_wr x1 < 0) from hc)
    refine jg_A (pc' := 5) rfl rfl (fun _ _ _ => rfl) ?_
    refine jg_calX (M1 := mm_X11_hasStates) (hy := 0) (pc' := 8) rfl jm_X11_hasStates (by decide) rfl h0 (by decide) ⟨Nat.le_of_ble_eq_true rfl, rfl⟩ (Nat.le_of_ble_eq_true rfl) rfl h (jg_kI (fun z102 m101 h => ?_))
    refine jg_ifne (pc' := 11) rfl rfl (fun hc => ?_) (fun hc => ?_)
    · have h := jg_t h (show jg_wr z102 = 0 from hc)
      refine jg_A (pc' := 12) rfl rfl (fun _ _ _ => rfl) ?_
      exact jg_iret rfl rfl h
    · have h := jg_f h (show ¬ (jg_wr z102 = 0) from hc)
      refine jg_A (pc' := 14) rfl rfl (fun _ _ _ => rfl) ?_
      refine jg_getO (pc' := 17) (k := 65) rfl h0 (by decide) rfl rfl ?_
      refine jg_A (pc' := 18) rfl rfl (fun _ _ _ => rfl) ?_
      refine jg_calX (M1 := mm_X5_stateBehindLast) (hy := 0) (pc' := 21) rfl jm_X5_stateBehindLast (by decide) rfl (jg_sX11_8 h0) (by decide) ⟨Nat.le_of_ble_eq_true rfl, rfl⟩ (Nat.le_of_ble_eq_true rfl) rfl h (jg_kI (fun z104 m103 h => ?_))
      exact jg_iret rfl rfl h
set_option maxRecDepth 100000 in
set_option maxHeartbeats 4000000 in
theorem jb_X11_game_0 {w : Nat} {a0 : Nat} {x1 : Int} {x2 : Int} {σ : jg_M} {Q : Int → jg_M → Prop} (h0 : jg_sh a0 = (11, 0)) (h : (if jg_wr x1 < 0 then Q (-1) σ else (if 4 < jg_wr x1 then Q (-1) σ else (if jg_wr x2 < 0 then Q (-1) σ else (if 1 < jg_wr x2 then Q (-1) σ else jg_CI w 0 mm_X11_hasStates [.ref a0] σ (fun (z102 : Int) (m101 : jg_M) => (if jg_wr z102 = 0 then Q (-1) m101 else jg_CV w 1 mm_X5_copy [.ref (a0 + 90), .ref (a0 + 65)] m101 (fun (m103 : jg_M) => ∀ r104 : Nat, r104 = (m103.1 a0 3).toNat → jg_sh r104 = (8, 0) ∧ jg_CI w 12 mm_X11_winningToken [.ref r104, .ref (a0 + 90), .int (.ofInt x1)] m103 (fun (z106 : Int) (m105 : jg_M) => (if jg_wr x2 = 1 then Q z106 m105 else (if jg_wr z106 < 0 then Q 1 m105 else Q 0 m105))))))))))) : jg_CI w 13 mm_X11_game [.ref a0, .int (.ofInt x1), .int (.ofInt x2)] σ Q := by
  show jg_G w 13 mm_X11_game 0 [.ref a0, .int (.ofInt x1), .int (.ofInt x2), mj_U] [] σ (jg_QI Q)
  refine jg_A (pc' := 1) rfl rfl (fun _ _ _ => rfl) ?_
  refine jg_iflt (pc' := 4) rfl rfl (fun hc => ?_) (fun hc => ?_)
  · have h := jg_t h (show jg_wr x1 < 0 from hc)
    refine jg_A (pc' := 26) rfl rfl (fun _ _ _ => rfl) ?_
    exact jg_iret rfl rfl h
  · have h := jg_f h (show ¬ (jg_wr x1 < 0) from hc)
    refine jg_A (pc' := 5) rfl rfl (fun _ _ _ => rfl) ?_
    refine jg_A (pc' := 6) rfl rfl (fun _ _ _ => rfl) ?_
    refine jg_cgt (pc' := 9) rfl rfl (fun hc => ?_) (fun hc => ?_)
    · have h := jg_t h (show 4 < jg_wr x1 from hc)
      refine jg_A (pc' := 26) rfl rfl (fun _ _ _ => rfl) ?_
      exact jg_iret rfl rfl h
    · have h := jg_f h (show ¬ (4 < jg_wr x1) from hc)
      refine jg_A (pc' := 10) rfl rfl (fun _ _ _ => rfl) ?_
      refine jg_iflt (pc' := 13) rfl rfl (fun hc => ?_) (fun hc => ?_)
      · have h := jg_t h (show jg_wr x2 < 0 from hc)
        refine jg_A (pc' := 26) rfl rfl (fun _ _ _ => rfl) ?_
        exact jg_iret rfl rfl h
      · have h := jg_f h (show ¬ (jg_wr x2 < 0) from hc)
        refine jg_A (pc' := 14) rfl rfl (fun _ _ _ => rfl) ?_
        refine jg_A (pc' := 15) rfl rfl (fun _ _ _ => rfl) ?_
        refine jg_cgt (pc' := 18) rfl rfl (fun hc => ?_) (fun hc => ?_)
        · have h := jg_t h (show 1 < jg_wr x2 from hc)
          refine jg_A (pc' := 26) rfl rfl (fun _ _ _ => rfl) ?_
          exact jg_iret rfl rfl h
        · have h := jg_f h (show ¬ (1 < jg_wr x2) from hc)
          refine jg_A (pc' := 19) rfl rfl (fun _ _ _ => rfl) ?_
          refine jg_calX (M1 := mm_X11_hasStates) (hy := 0) (pc' := 22) rfl jm_X11_hasStates (by decide) rfl h0 (by decide) ⟨Nat.le_of_ble_eq_true rfl, rfl⟩ (Nat.le_of_ble_eq_true rfl) rfl h (jg_kI (fun z102 m101 h => ?_))
          refine jg_ifne (pc' := 25) rfl rfl (fun hc => ?_) (fun hc => ?_)
          · have h := jg_t h (show jg_wr z102 = 0 from hc)
            refine jg_A (pc' := 26) rfl rfl (fun _ _ _ => rfl) ?_
            exact jg_iret rfl rfl h
          · have h := jg_f h (show ¬ (jg_wr z102 = 0) from hc)
            refine jg_A (pc' := 28) rfl rfl (fun _ _ _ => rfl) ?_
            refine jg_getO (pc' := 31) (k := 90) rfl h0 (by decide) rfl rfl ?_
            refine jg_A (pc' := 32) rfl rfl (fun _ _ _ => rfl) ?_
            refine jg_getO (pc' := 35) (k := 65) rfl h0 (by decide) rfl rfl ?_
            refine jg_calX (M1 := mm_X5_copy) (hy := 1) (pc' := 38) rfl jm_X5_copy (by decide) rfl (jg_sX11_9 h0) (by decide) ⟨Nat.le_of_ble_eq_true rfl, rfl⟩ (Nat.le_of_ble_eq_true rfl) rfl h (jg_kV (fun m103 h => ?_))
            refine jg_A (pc' := 39) rfl rfl (fun _ _ _ => rfl) ?_
            refine jg_getR (pc' := 42) (bi := 3) rfl h0 (by decide) rfl rfl rfl (fun r104 er104 => ?_)
            obtain ⟨hr104, h⟩ := h r104 er104
            refine jg_A (pc' := 43) rfl rfl (fun _ _ _ => rfl) ?_
            refine jg_getO (pc' := 46) (k := 90) rfl h0 (by decide) rfl rfl ?_
            refine jg_A (pc' := 47) rfl rfl (fun _ _ _ => rfl) ?_
            refine jg_calS (M1 := mm_X11_winningToken) (hy := 12) (pc' := 50) rfl (Or.inl rfl) jm_X11_winningToken (by decide) rfl ⟨Nat.le_of_ble_eq_true rfl, rfl⟩ (Nat.le_of_ble_eq_true rfl) rfl h (jg_kI (fun z106 m105 h => ?_))
            refine jg_A (pc' := 51) (ls' := [.ref a0, .int (.ofInt x1), .int (.ofInt x2), .int (.ofInt z106)]) rfl rfl (fun _ _ _ => rfl) ?_
            refine jg_A (pc' := 52) rfl rfl (fun _ _ _ => rfl) ?_
            refine jg_A (pc' := 53) rfl rfl (fun _ _ _ => rfl) ?_
            refine jg_cne (pc' := 56) rfl rfl (fun hc => ?_) (fun hc => ?_)
            · have h := jg_t h (show jg_wr x2 = 1 from hc)
              refine jg_A (pc' := 57) rfl rfl (fun _ _ _ => rfl) ?_
              exact jg_iret rfl rfl h
            · have h := jg_f h (show ¬ (jg_wr x2 = 1) from hc)
              refine jg_A (pc' := 59) rfl rfl (fun _ _ _ => rfl) ?_
              refine jg_iflt (pc' := 62) rfl rfl (fun hc => ?_) (fun hc => ?_)
              · have h := jg_t h (show jg_wr z106 < 0 from hc)
                refine jg_A (pc' := 67) rfl rfl (fun _ _ _ => rfl) ?_
                exact jg_iret rfl rfl h
              · have h := jg_f h (show ¬ (jg_wr z106 < 0) from hc)
                refine jg_A (pc' := 63) rfl rfl (fun _ _ _ => rfl) ?_
                refine jg_goto rfl ?_
                exact jg_iret rfl rfl h
set_option maxRecDepth 100000 in
set_option maxHeartbeats 4000000 in
theorem jb_X11_winningToken_0 {w : Nat} {a0 : Nat} {a1 : Nat} {x2 : Int} {d : Nat} {σ : jg_M} {Q : Int → jg_M → Prop} (hd : 4 ≤ d) (h0 : jg_sh a0 = (8, 0)) (h1 : jg_sh a1 = (5, 0)) (h : (if jg_bot a1 = true then (if jg_wr x2 ≤ 0 then Q (-2) σ else Q (-2) σ) else (if jg_wr x2 ≤ 0 then Q (-2) σ else jg_GI w (d + 1) mm_X11_winningToken 19 [.ref a0, .ref a1, .int (.ofInt x2), .ref (a1 - 2), .int (.ofInt 0)] σ Q))) : jg_CI w (d + 1) mm_X11_winningToken [.ref a0, .ref a1, .int (.ofInt x2)] σ Q := by
  show jg_G w (d + 1) mm_X11_winningToken 0 [.ref a0, .ref a1, .int (.ofInt x2), mj_U, mj_U] [] σ (jg_QI Q)
  refine jg_A (pc' := 1) rfl rfl (fun _ _ _ => rfl) ?_
  refine jg_getN (pc' := 4) rfl h1 (by decide) rfl rfl (fun hc => ?_) (fun hcn => ?_)
  · have h := jg_t h hc
    refine jg_A (pc' := 5) (ls' := [.ref a0, .ref a1, .int (.ofInt x2), .null, mj_U]) rfl rfl (fun _ _ _ => rfl) ?_
    refine jg_A (pc' := 6) rfl rfl (fun _ _ _ => rfl) ?_
    refine jg_ifle (pc' := 9) rfl rfl (fun hc => ?_) (fun hc => ?_)
    · have h := jg_t h (show jg_wr x2 ≤ 0 from hc)
      refine jg_A (pc' := 15) rfl rfl (fun _ _ _ => rfl) ?_
      exact jg_iret rfl rfl h
    · have h := jg_f h (show ¬ (jg_wr x2 ≤ 0) from hc)
      refine jg_A (pc' := 10) rfl rfl (fun _ _ _ => rfl) ?_
      refine jg_nonnullF (pc' := 13) rfl rfl ?_
      refine jg_A (pc' := 15) rfl rfl (fun _ _ _ => rfl) ?_
      exact jg_iret rfl rfl h
  · have h := jg_f h hcn
    refine jg_A (pc' := 5) (ls' := [.ref a0, .ref a1, .int (.ofInt x2), .ref (a1 - 2), mj_U]) rfl rfl (fun _ _ _ => rfl) ?_
    refine jg_A (pc' := 6) rfl rfl (fun _ _ _ => rfl) ?_
    refine jg_ifle (pc' := 9) rfl rfl (fun hc => ?_) (fun hc => ?_)
    · have h := jg_t h (show jg_wr x2 ≤ 0 from hc)
      refine jg_A (pc' := 15) rfl rfl (fun _ _ _ => rfl) ?_
      exact jg_iret rfl rfl h
    · have h := jg_f h (show ¬ (jg_wr x2 ≤ 0) from hc)
      refine jg_A (pc' := 10) rfl rfl (fun _ _ _ => rfl) ?_
      refine jg_nonnullT rfl ?_
      refine jg_A (pc' := 17) rfl rfl (fun _ _ _ => rfl) ?_
      refine jg_A (pc' := 19) (ls' := [.ref a0, .ref a1, .int (.ofInt x2), .ref (a1 - 2), .int (.ofInt 0)]) rfl rfl (fun _ _ _ => rfl) ?_
      exact h
set_option maxRecDepth 100000 in
set_option maxHeartbeats 4000000 in
theorem jb_X11_winningToken_19 {w : Nat} {a0 : Nat} {a1 : Nat} {x2 : Int} {a3 : Nat} {x4 : Int} {d : Nat} {σ : jg_M} {Q : Int → jg_M → Prop} (hd : 4 ≤ d) (h0 : jg_sh a0 = (8, 0)) (h1 : jg_sh a1 = (5, 0)) (h3 : jg_sh a3 = (5, 0)) (h : (if jg_wr (σ.1 (a0 + 1) 0) ≤ jg_wr x4 then Q (-2) σ else jg_CV w 1 mm_X5_copy [.ref a3, .ref a1] σ (fun (m101 : jg_M) => jg_CI w 3 mm_X5_take [.ref a3, .ref a0, .int (.ofInt x4)] m101 (fun (z103 : Int) (m102 : jg_M) => (if jg_wr z103 < 0 then jg_GI w (d + 1) mm_X11_winningToken 19 [.ref a0, .ref a1, .int (.ofInt x2), .ref a3, .int (.ofInt (x4 + 1))] m102 Q else jg_CI w d mm_X11_winningToken [.ref a0, .ref a3, .int (.ofInt (x2 - 1))] m102 (fun (z105 : Int) (m104 : jg_M) => (if 0 ≤ jg_wr z105 then jg_GI w (d + 1) mm_X11_winningToken 19 [.ref a0, .ref a1, .int (.ofInt x2), .ref a3, .int (.ofInt (x4 + 1))] m104 Q else Q x4 m104))))))) : jg_GI w (d + 1) mm_X11_winningToken 19 [.ref a0, .ref a1, .int (.ofInt x2), .ref a3, .int (.ofInt x4)] σ Q := by
  show jg_G w (d + 1) mm_X11_winningToken 19 [.ref a0, .ref a1, .int (.ofInt x2), .ref a3, .int (.ofInt x4)] [] σ (jg_QI Q)
  refine jg_A (pc' := 21) rfl rfl (fun _ _ _ => rfl) ?_
  refine jg_A (pc' := 22) rfl rfl (fun _ _ _ => rfl) ?_
  refine jg_getO (pc' := 25) (k := 1) rfl h0 (by decide) rfl rfl ?_
  refine jg_getI (pc' := 28) (bi := 0) rfl (jg_sX8_0 h0) (by decide) (Or.inl rfl) rfl rfl ?_
  refine jg_cge (pc' := 31) rfl rfl (fun hc => ?_) (fun hc => ?_)
  · have h := jg_t h (show jg_wr (σ.1 (a0 + 1) 0) ≤ jg_wr x4 from hc)
    refine jg_A (pc' := 68) rfl rfl (fun _ _ _ => rfl) ?_
    exact jg_iret rfl rfl h
  · have h := jg_f h (show ¬ (jg_wr (σ.1 (a0 + 1) 0) ≤ jg_wr x4) from hc)
    refine jg_A (pc' := 32) rfl rfl (fun _ _ _ => rfl) ?_
    refine jg_A (pc' := 33) rfl rfl (fun _ _ _ => rfl) ?_
    refine jg_calX (M1 := mm_X5_copy) (hy := 1) (pc' := 36) rfl jm_X5_copy (by omega) rfl h3 (by decide) ⟨Nat.le_of_ble_eq_true rfl, rfl⟩ (Nat.le_of_ble_eq_true rfl) rfl h (jg_kV (fun m101 h => ?_))
    refine jg_A (pc' := 37) rfl rfl (fun _ _ _ => rfl) ?_
    refine jg_A (pc' := 38) rfl rfl (fun _ _ _ => rfl) ?_
    refine jg_A (pc' := 40) rfl rfl (fun _ _ _ => rfl) ?_
    refine jg_calX (M1 := mm_X5_take) (hy := 3) (pc' := 43) rfl jm_X5_take (by omega) rfl h3 (by decide) ⟨Nat.le_of_ble_eq_true rfl, rfl⟩ (Nat.le_of_ble_eq_true rfl) rfl h (jg_kI (fun z103 m102 h => ?_))
    refine jg_iflt (pc' := 46) rfl rfl (fun hc => ?_) (fun hc => ?_)
    · have h := jg_t h (show jg_wr z103 < 0 from hc)
      refine jg_iinc (pc' := 63) (ls' := [.ref a0, .ref a1, .int (.ofInt x2), .ref a3, .int (.ofInt (x4 + 1))]) rfl rfl rfl rfl ?_
      refine jg_goto rfl ?_
      exact h
    · have h := jg_f h (show ¬ (jg_wr z103 < 0) from hc)
      refine jg_A (pc' := 47) rfl rfl (fun _ _ _ => rfl) ?_
      refine jg_A (pc' := 48) rfl rfl (fun _ _ _ => rfl) ?_
      refine jg_A (pc' := 49) rfl rfl (fun _ _ _ => rfl) ?_
      refine jg_A (pc' := 50) rfl rfl (fun _ _ _ => rfl) ?_
      refine jg_isub (pc' := 51) rfl rfl ?_
      refine jg_calS (M1 := mm_X11_winningToken) (hy := d) (pc' := 54) rfl (Or.inl rfl) jm_X11_winningToken (by omega) rfl ⟨Nat.le_of_ble_eq_true rfl, rfl⟩ (Nat.le_of_ble_eq_true rfl) rfl h (jg_kI (fun z105 m104 h => ?_))
      refine jg_ifge (pc' := 57) rfl rfl (fun hc => ?_) (fun hc => ?_)
      · have h := jg_t h (show 0 ≤ jg_wr z105 from hc)
        refine jg_iinc (pc' := 63) (ls' := [.ref a0, .ref a1, .int (.ofInt x2), .ref a3, .int (.ofInt (x4 + 1))]) rfl rfl rfl rfl ?_
        refine jg_goto rfl ?_
        exact h
      · have h := jg_f h (show ¬ (0 ≤ jg_wr z105) from hc)
        refine jg_A (pc' := 59) rfl rfl (fun _ _ _ => rfl) ?_
        exact jg_iret rfl rfl h
set_option maxRecDepth 100000 in
set_option maxHeartbeats 4000000 in
theorem jb_X11_note_0 {w : Nat} {a0 : Nat} {x1 : Int} {x2 : Int} {x3 : Int} {σ : jg_M} {Q : Int → jg_M → Prop} (h0 : jg_sh a0 = (11, 0)) (h : ∀ r101 : Nat, r101 = (σ.1 a0 3).toNat → jg_sh r101 = (8, 0) ∧ jg_CI w 0 mm_X10_placeOf [.int (.ofInt x1), .int (.ofInt x2), .int (.ofInt (σ.1 (r101 + 1) 0))] σ (fun (z103 : Int) (m102 : jg_M) => (if 0 ≤ jg_wr z103 then jg_CI w 0 mm_X1_addNote [.ref (a0 + 74), .int (.ofInt z103), .int (.ofInt x3)] m102 (fun (z105 : Int) (m104 : jg_M) => Q z105 m104) else Q (-1) m102))) : jg_CI w 1 mm_X11_note [.ref a0, .int (.ofInt x1), .int (.ofInt x2), .int (.ofInt x3)] σ Q := by
  show jg_G w 1 mm_X11_note 0 [.ref a0, .int (.ofInt x1), .int (.ofInt x2), .int (.ofInt x3), mj_U] [] σ (jg_QI Q)
  refine jg_A (pc' := 1) rfl rfl (fun _ _ _ => rfl) ?_
  refine jg_A (pc' := 2) rfl rfl (fun _ _ _ => rfl) ?_
  refine jg_A (pc' := 3) rfl rfl (fun _ _ _ => rfl) ?_
  refine jg_getR (pc' := 6) (bi := 3) rfl h0 (by decide) rfl rfl rfl (fun r101 er101 => ?_)
  obtain ⟨hr101, h⟩ := h r101 er101
  refine jg_getO (pc' := 9) (k := 1) rfl hr101 (by decide) rfl rfl ?_
  refine jg_getI (pc' := 12) (bi := 0) rfl (jg_sX8_0 hr101) (by decide) (Or.inl rfl) rfl rfl ?_
  refine jg_calS (M1 := mm_X10_placeOf) (hy := 0) (pc' := 15) rfl (Or.inl rfl) jm_X10_placeOf (by decide) rfl ⟨Nat.le_of_ble_eq_true rfl, rfl⟩ (Nat.le_of_ble_eq_true rfl) rfl h (jg_kI (fun z103 m102 h => ?_))
  refine jg_A (pc' := 17) (ls' := [.ref a0, .int (.ofInt x1), .int (.ofInt x2), .int (.ofInt x3), .int (.ofInt z103)]) rfl rfl (fun _ _ _ => rfl) ?_
  refine jg_A (pc' := 19) rfl rfl (fun _ _ _ => rfl) ?_
  refine jg_ifge (pc' := 22) rfl rfl (fun hc => ?_) (fun hc => ?_)
  · have h := jg_t h (show 0 ≤ jg_wr z103 from hc)
    refine jg_A (pc' := 27) rfl rfl (fun _ _ _ => rfl) ?_
    refine jg_getO (pc' := 30) (k := 74) rfl h0 (by decide) rfl rfl ?_
    refine jg_A (pc' := 32) rfl rfl (fun _ _ _ => rfl) ?_
    refine jg_A (pc' := 33) rfl rfl (fun _ _ _ => rfl) ?_
    refine jg_calX (M1 := mm_X1_addNote) (hy := 0) (pc' := 36) rfl jm_X1_addNote (by decide) rfl (jg_sX11_13 h0) (by decide) ⟨Nat.le_of_ble_eq_true rfl, rfl⟩ (Nat.le_of_ble_eq_true rfl) rfl h (jg_kI (fun z105 m104 h => ?_))
    exact jg_iret rfl rfl h
  · have h := jg_f h (show ¬ (0 ≤ jg_wr z103) from hc)
    refine jg_A (pc' := 23) rfl rfl (fun _ _ _ => rfl) ?_
    refine jg_goto rfl ?_
    exact jg_iret rfl rfl h
set_option maxRecDepth 100000 in
set_option maxHeartbeats 4000000 in
theorem jb_X11_strike_0 {w : Nat} {a0 : Nat} {x1 : Int} {σ : jg_M} {Q : Int → jg_M → Prop} (h0 : jg_sh a0 = (11, 0)) (h : jg_CI w 0 mm_X1_addStrike [.ref (a0 + 74), .int (.ofInt x1)] σ (fun (z102 : Int) (m101 : jg_M) => Q z102 m101)) : jg_CI w 1 mm_X11_strike [.ref a0, .int (.ofInt x1)] σ Q := by
  show jg_G w 1 mm_X11_strike 0 [.ref a0, .int (.ofInt x1)] [] σ (jg_QI Q)
  refine jg_A (pc' := 1) rfl rfl (fun _ _ _ => rfl) ?_
  refine jg_getO (pc' := 4) (k := 74) rfl h0 (by decide) rfl rfl ?_
  refine jg_A (pc' := 5) rfl rfl (fun _ _ _ => rfl) ?_
  refine jg_calX (M1 := mm_X1_addStrike) (hy := 0) (pc' := 8) rfl jm_X1_addStrike (by decide) rfl (jg_sX11_13 h0) (by decide) ⟨Nat.le_of_ble_eq_true rfl, rfl⟩ (Nat.le_of_ble_eq_true rfl) rfl h (jg_kI (fun z102 m101 h => ?_))
  exact jg_iret rfl rfl h
set_option maxRecDepth 100000 in
set_option maxHeartbeats 4000000 in
theorem jb_X11_known_0 {w : Nat} {a0 : Nat} {x1 : Int} {σ : jg_M} {Q : Int → jg_M → Prop} (h0 : jg_sh a0 = (11, 0)) (h : jg_CI w 0 mm_X1_limit [.ref (a0 + 74), .int (.ofInt x1)] σ (fun (z102 : Int) (m101 : jg_M) => ((jg_wr z102 = 0 ∨ jg_wr z102 = 1) ∧ Q z102 m101))) : jg_CI w 1 mm_X11_known [.ref a0, .int (.ofInt x1)] σ Q := by
  show jg_G w 1 mm_X11_known 0 [.ref a0, .int (.ofInt x1)] [] σ (jg_QI Q)
  refine jg_A (pc' := 1) rfl rfl (fun _ _ _ => rfl) ?_
  refine jg_getO (pc' := 4) (k := 74) rfl h0 (by decide) rfl rfl ?_
  refine jg_A (pc' := 5) rfl rfl (fun _ _ _ => rfl) ?_
  refine jg_calX (M1 := mm_X1_limit) (hy := 0) (pc' := 8) rfl jm_X1_limit (by decide) rfl (jg_sX11_13 h0) (by decide) ⟨Nat.le_of_ble_eq_true rfl, rfl⟩ (Nat.le_of_ble_eq_true rfl) rfl h (jg_kI (fun z102 m101 h => ?_))
  exact jg_zret rfl rfl h.1 h.2
set_option maxRecDepth 100000 in
set_option maxHeartbeats 4000000 in
theorem jb_X11_missing_0 {w : Nat} {a0 : Nat} {σ : jg_M} {Q : Int → jg_M → Prop} (h0 : jg_sh a0 = (11, 0)) (h : ∀ r101 : Nat, r101 = (σ.1 a0 3).toNat → jg_sh r101 = (8, 0) ∧ ∀ r102 : Nat, r102 = (σ.1 a0 4).toNat → jg_sh r102 = (8, 0) ∧ jg_CV w 13 mm_X10_learn [.ref (a0 + 78), .ref (r101 + 1), .ref r102, .ref (a0 + 90)] σ (fun (m103 : jg_M) => jg_CI w 2 mm_X10_missingBy [.ref (a0 + 78), .ref (a0 + 74)] m103 (fun (z105 : Int) (m104 : jg_M) => Q z105 m104))) : jg_CI w 14 mm_X11_missing [.ref a0] σ Q := by
  show jg_G w 14 mm_X11_missing 0 [.ref a0] [] σ (jg_QI Q)
  refine jg_A (pc' := 1) rfl rfl (fun _ _ _ => rfl) ?_
  refine jg_getO (pc' := 4) (k := 78) rfl h0 (by decide) rfl rfl ?_
  refine jg_A (pc' := 5) rfl rfl (fun _ _ _ => rfl) ?_
  refine jg_getR (pc' := 8) (bi := 3) rfl h0 (by decide) rfl rfl rfl (fun r101 er101 => ?_)
  obtain ⟨hr101, h⟩ := h r101 er101
  refine jg_getO (pc' := 11) (k := 1) rfl hr101 (by decide) rfl rfl ?_
  refine jg_A (pc' := 12) rfl rfl (fun _ _ _ => rfl) ?_
  refine jg_getR (pc' := 15) (bi := 4) rfl h0 (by decide) rfl rfl rfl (fun r102 er102 => ?_)
  obtain ⟨hr102, h⟩ := h r102 er102
  refine jg_A (pc' := 16) rfl rfl (fun _ _ _ => rfl) ?_
  refine jg_getO (pc' := 19) (k := 90) rfl h0 (by decide) rfl rfl ?_
  refine jg_calX (M1 := mm_X10_learn) (hy := 13) (pc' := 22) rfl jm_X10_learn (by decide) rfl (jg_sX11_14 h0) (by decide) ⟨Nat.le_of_ble_eq_true rfl, rfl⟩ (Nat.le_of_ble_eq_true rfl) rfl h (jg_kV (fun m103 h => ?_))
  refine jg_A (pc' := 23) rfl rfl (fun _ _ _ => rfl) ?_
  refine jg_getO (pc' := 26) (k := 78) rfl h0 (by decide) rfl rfl ?_
  refine jg_A (pc' := 27) rfl rfl (fun _ _ _ => rfl) ?_
  refine jg_getO (pc' := 30) (k := 74) rfl h0 (by decide) rfl rfl ?_
  refine jg_calX (M1 := mm_X10_missingBy) (hy := 2) (pc' := 33) rfl jm_X10_missingBy (by decide) rfl (jg_sX11_14 h0) (by decide) ⟨Nat.le_of_ble_eq_true rfl, rfl⟩ (Nat.le_of_ble_eq_true rfl) rfl h (jg_kI (fun z105 m104 h => ?_))
  exact jg_iret rfl rfl h
set_option maxRecDepth 100000 in
set_option maxHeartbeats 4000000 in
theorem jb_X11_tried_0 {w : Nat} {a0 : Nat} {x1 : Int} {x2 : Int} {σ : jg_M} {Q : Int → jg_M → Prop} (h0 : jg_sh a0 = (11, 0)) (h : jg_CI w 1 mm_X11_canTry [.ref a0, .int (.ofInt x1), .int (.ofInt x2)] σ (fun (z102 : Int) (m101 : jg_M) => (if jg_wr z102 = 0 then Q (-1) m101 else ∀ r103 : Nat, r103 = (m101.1 a0 4).toNat → jg_sh r103 = (8, 0) ∧ ∀ r104 : Nat, r104 = (m101.1 a0 3).toNat → jg_sh r104 = (8, 0) ∧ jg_CV w 1 mm_X0_copy [.ref (r103 + 1), .ref (r104 + 1)] m101 (fun (m105 : jg_M) => (if jg_wr x1 = 0 then jg_CV w 0 mm_J7_fill_53178 [.ref ((r103 + 1) + 2), .int (.ofInt 0)] m105 (fun (m106 : jg_M) => ∀ r107 : Nat, r107 = (m106.1 a0 4).toNat → jg_sh r107 = (8, 0) ∧ (if jg_wr x1 = 4 then jg_CI w 5 mm_X8_make [.ref r107, .int (.ofInt 1)] m106 (fun (z109 : Int) (m108 : jg_M) => (if jg_wr z109 = 0 then Q (-2) m108 else ∀ r110 : Nat, r110 = (m108.1 a0 4).toNat → jg_sh r110 = (8, 0) ∧ jg_CI w 1 mm_X8_conflictCount [.ref r110] m108 (fun (z112 : Int) (m111 : jg_M) => Q z112 m111))) else jg_CI w 5 mm_X8_make [.ref r107, .int (.ofInt 0)] m106 (fun (z114 : Int) (m113 : jg_M) => (if jg_wr z114 = 0 then Q (-2) m113 else ∀ r115 : Nat, r115 = (m113.1 a0 4).toNat → jg_sh r115 = (8, 0) ∧ jg_CI w 1 mm_X8_conflictCount [.ref r115] m113 (fun (z117 : Int) (m116 : jg_M) => Q z117 m116))))) else (if jg_wr x1 = 1 then jg_CV w 0 mm_J7_fill_53178 [.ref ((r103 + 1) + 3), .int (.ofInt 1)] m105 (fun (m118 : jg_M) => ∀ r119 : Nat, r119 = (m118.1 a0 4).toNat → jg_sh r119 = (8, 0) ∧ (if jg_wr x1 = 4 then jg_CI w 5 mm_X8_make [.ref r119, .int (.ofInt 1)] m118 (fun (z121 : Int) (m120 : jg_M) => (if jg_wr z121 = 0 then Q (-2) m120 else ∀ r122 : Nat, r122 = (m120.1 a0 4).toNat → jg_sh r122 = (8, 0) ∧ jg_CI w 1 mm_X8_conflictCount [.ref r122] m120 (fun (z124 : Int) (m123 : jg_M) => Q z124 m123))) else jg_CI w 5 mm_X8_make [.ref r119, .int (.ofInt 0)] m118 (fun (z126 : Int) (m125 : jg_M) => (if jg_wr z126 = 0 then Q (-2) m125 else ∀ r127 : Nat, r127 = (m125.1 a0 4).toNat → jg_sh r127 = (8, 0) ∧ jg_CI w 1 mm_X8_conflictCount [.ref r127] m125 (fun (z129 : Int) (m128 : jg_M) => Q z129 m128))))) else (if jg_wr x1 = 2 then ∀ m130 : jg_M, m130 = jg_sI m105 (r103 + 1) 4 x2 → ∀ r131 : Nat, r131 = (m130.1 a0 4).toNat → jg_sh r131 = (8, 0) ∧ (if jg_wr x1 = 4 then jg_CI w 5 mm_X8_make [.ref r131, .int (.ofInt 1)] m130 (fun (z133 : Int) (m132 : jg_M) => (if jg_wr z133 = 0 then Q (-2) m132 else ∀ r134 : Nat, r134 = (m132.1 a0 4).toNat → jg_sh r134 = (8, 0) ∧ jg_CI w 1 mm_X8_conflictCount [.ref r134] m132 (fun (z136 : Int) (m135 : jg_M) => Q z136 m135))) else jg_CI w 5 mm_X8_make [.ref r131, .int (.ofInt 0)] m130 (fun (z138 : Int) (m137 : jg_M) => (if jg_wr z138 = 0 then Q (-2) m137 else ∀ r139 : Nat, r139 = (m137.1 a0 4).toNat → jg_sh r139 = (8, 0) ∧ jg_CI w 1 mm_X8_conflictCount [.ref r139] m137 (fun (z141 : Int) (m140 : jg_M) => Q z141 m140)))) else (if jg_wr x1 = 3 then ∀ m142 : jg_M, m142 = jg_sI m105 (r103 + 1) 3 x2 → ∀ r143 : Nat, r143 = (m142.1 a0 4).toNat → jg_sh r143 = (8, 0) ∧ (if jg_wr x1 = 4 then jg_CI w 5 mm_X8_make [.ref r143, .int (.ofInt 1)] m142 (fun (z145 : Int) (m144 : jg_M) => (if jg_wr z145 = 0 then Q (-2) m144 else ∀ r146 : Nat, r146 = (m144.1 a0 4).toNat → jg_sh r146 = (8, 0) ∧ jg_CI w 1 mm_X8_conflictCount [.ref r146] m144 (fun (z148 : Int) (m147 : jg_M) => Q z148 m147))) else jg_CI w 5 mm_X8_make [.ref r143, .int (.ofInt 0)] m142 (fun (z150 : Int) (m149 : jg_M) => (if jg_wr z150 = 0 then Q (-2) m149 else ∀ r151 : Nat, r151 = (m149.1 a0 4).toNat → jg_sh r151 = (8, 0) ∧ jg_CI w 1 mm_X8_conflictCount [.ref r151] m149 (fun (z153 : Int) (m152 : jg_M) => Q z153 m152)))) else ∀ r154 : Nat, r154 = (m105.1 a0 4).toNat → jg_sh r154 = (8, 0) ∧ (if jg_wr x1 = 4 then jg_CI w 5 mm_X8_make [.ref r154, .int (.ofInt 1)] m105 (fun (z156 : Int) (m155 : jg_M) => (if jg_wr z156 = 0 then Q (-2) m155 else ∀ r157 : Nat, r157 = (m155.1 a0 4).toNat → jg_sh r157 = (8, 0) ∧ jg_CI w 1 mm_X8_conflictCount [.ref r157] m155 (fun (z159 : Int) (m158 : jg_M) => Q z159 m158))) else jg_CI w 5 mm_X8_make [.ref r154, .int (.ofInt 0)] m105 (fun (z161 : Int) (m160 : jg_M) => (if jg_wr z161 = 0 then Q (-2) m160 else ∀ r162 : Nat, r162 = (m160.1 a0 4).toNat → jg_sh r162 = (8, 0) ∧ jg_CI w 1 mm_X8_conflictCount [.ref r162] m160 (fun (z164 : Int) (m163 : jg_M) => Q z164 m163)))))))))))) : jg_CI w 6 mm_X11_tried [.ref a0, .int (.ofInt x1), .int (.ofInt x2)] σ Q := by
  show jg_G w 6 mm_X11_tried 0 [.ref a0, .int (.ofInt x1), .int (.ofInt x2), mj_U] [] σ (jg_QI Q)
  refine jg_A (pc' := 1) rfl rfl (fun _ _ _ => rfl) ?_
  refine jg_A (pc' := 2) rfl rfl (fun _ _ _ => rfl) ?_
  refine jg_A (pc' := 3) rfl rfl (fun _ _ _ => rfl) ?_
  refine jg_calX (M1 := mm_X11_canTry) (hy := 1) (pc' := 6) rfl jm_X11_canTry (by decide) rfl h0 (by decide) ⟨Nat.le_of_ble_eq_true rfl, rfl⟩ (Nat.le_of_ble_eq_true rfl) rfl h (jg_kI (fun z102 m101 h => ?_))
  refine jg_ifne (pc' := 9) rfl rfl (fun hc => ?_) (fun hc => ?_)
  · have h := jg_t h (show jg_wr z102 = 0 from hc)
    refine jg_A (pc' := 10) rfl rfl (fun _ _ _ => rfl) ?_
    exact jg_iret rfl rfl h
  · have h := jg_f h (show ¬ (jg_wr z102 = 0) from hc)
    refine jg_A (pc' := 12) rfl rfl (fun _ _ _ => rfl) ?_
    refine jg_getR (pc' := 15) (bi := 4) rfl h0 (by decide) rfl rfl rfl (fun r103 er103 => ?_)
    obtain ⟨hr103, h⟩ := h r103 er103
    refine jg_getO (pc' := 18) (k := 1) rfl hr103 (by decide) rfl rfl ?_
    refine jg_A (pc' := 19) (ls' := [.ref a0, .int (.ofInt x1), .int (.ofInt x2), .ref (r103 + 1)]) rfl rfl (fun _ _ _ => rfl) ?_
    refine jg_A (pc' := 20) rfl rfl (fun _ _ _ => rfl) ?_
    refine jg_A (pc' := 21) rfl rfl (fun _ _ _ => rfl) ?_
    refine jg_getR (pc' := 24) (bi := 3) rfl h0 (by decide) rfl rfl rfl (fun r104 er104 => ?_)
    obtain ⟨hr104, h⟩ := h r104 er104
    refine jg_getO (pc' := 27) (k := 1) rfl hr104 (by decide) rfl rfl ?_
    refine jg_calX (M1 := mm_X0_copy) (hy := 1) (pc' := 30) rfl jm_X0_copy (by decide) rfl (jg_sX8_0 hr103) (by decide) ⟨Nat.le_of_ble_eq_true rfl, rfl⟩ (Nat.le_of_ble_eq_true rfl) rfl h (jg_kV (fun m105 h => ?_))
    refine jg_A (pc' := 31) rfl rfl (fun _ _ _ => rfl) ?_
    refine jg_ifne (pc' := 34) rfl rfl (fun hc => ?_) (fun hc => ?_)
    · have h := jg_t h (show jg_wr x1 = 0 from hc)
      refine jg_A (pc' := 35) rfl rfl (fun _ _ _ => rfl) ?_
      refine jg_getO (pc' := 38) (k := 2) rfl (jg_sX8_0 hr103) (by decide) rfl rfl ?_
      refine jg_A (pc' := 39) rfl rfl (fun _ _ _ => rfl) ?_
      refine jg_calS (M1 := mm_J7_fill_53178) (hy := 0) (pc' := 42) rfl (Or.inl rfl) jm_J7_fill_53178 (by decide) rfl ⟨Nat.le_of_ble_eq_true rfl, rfl⟩ (Nat.le_of_ble_eq_true rfl) rfl h (jg_kV (fun m106 h => ?_))
      refine jg_goto rfl ?_
      refine jg_A (pc' := 85) rfl rfl (fun _ _ _ => rfl) ?_
      refine jg_getR (pc' := 88) (bi := 4) rfl h0 (by decide) rfl rfl rfl (fun r107 er107 => ?_)
      obtain ⟨hr107, h⟩ := h r107 er107
      refine jg_A (pc' := 89) rfl rfl (fun _ _ _ => rfl) ?_
      refine jg_A (pc' := 90) rfl rfl (fun _ _ _ => rfl) ?_
      refine jg_cne (pc' := 93) rfl rfl (fun hc => ?_) (fun hc => ?_)
      · have h := jg_t h (show jg_wr x1 = 4 from hc)
        refine jg_A (pc' := 94) rfl rfl (fun _ _ _ => rfl) ?_
        refine jg_goto rfl ?_
        refine jg_calX (M1 := mm_X8_make) (hy := 5) (pc' := 101) rfl jm_X8_make (by decide) rfl hr107 (by decide) ⟨Nat.le_of_ble_eq_true rfl, rfl⟩ (Nat.le_of_ble_eq_true rfl) rfl h (jg_kI (fun z109 m108 h => ?_))
        refine jg_ifeq (pc' := 104) rfl rfl (fun hc => ?_) (fun hc => ?_)
        · have h := jg_t h (show jg_wr z109 = 0 from hc)
          refine jg_A (pc' := 116) rfl rfl (fun _ _ _ => rfl) ?_
          exact jg_iret rfl rfl h
        · have h := jg_f h (show ¬ (jg_wr z109 = 0) from hc)
          refine jg_A (pc' := 105) rfl rfl (fun _ _ _ => rfl) ?_
          refine jg_getR (pc' := 108) (bi := 4) rfl h0 (by decide) rfl rfl rfl (fun r110 er110 => ?_)
          obtain ⟨hr110, h⟩ := h r110 er110
          refine jg_calX (M1 := mm_X8_conflictCount) (hy := 1) (pc' := 111) rfl jm_X8_conflictCount (by decide) rfl hr110 (by decide) ⟨Nat.le_of_ble_eq_true rfl, rfl⟩ (Nat.le_of_ble_eq_true rfl) rfl h (jg_kI (fun z112 m111 h => ?_))
          refine jg_goto rfl ?_
          exact jg_iret rfl rfl h
      · have h := jg_f h (show ¬ (jg_wr x1 = 4) from hc)
        refine jg_A (pc' := 98) rfl rfl (fun _ _ _ => rfl) ?_
        refine jg_calX (M1 := mm_X8_make) (hy := 5) (pc' := 101) rfl jm_X8_make (by decide) rfl hr107 (by decide) ⟨Nat.le_of_ble_eq_true rfl, rfl⟩ (Nat.le_of_ble_eq_true rfl) rfl h (jg_kI (fun z114 m113 h => ?_))
        refine jg_ifeq (pc' := 104) rfl rfl (fun hc => ?_) (fun hc => ?_)
        · have h := jg_t h (show jg_wr z114 = 0 from hc)
          refine jg_A (pc' := 116) rfl rfl (fun _ _ _ => rfl) ?_
          exact jg_iret rfl rfl h
        · have h := jg_f h (show ¬ (jg_wr z114 = 0) from hc)
          refine jg_A (pc' := 105) rfl rfl (fun _ _ _ => rfl) ?_
          refine jg_getR (pc' := 108) (bi := 4) rfl h0 (by decide) rfl rfl rfl (fun r115 er115 => ?_)
          obtain ⟨hr115, h⟩ := h r115 er115
          refine jg_calX (M1 := mm_X8_conflictCount) (hy := 1) (pc' := 111) rfl jm_X8_conflictCount (by decide) rfl hr115 (by decide) ⟨Nat.le_of_ble_eq_true rfl, rfl⟩ (Nat.le_of_ble_eq_true rfl) rfl h (jg_kI (fun z117 m116 h => ?_))
          refine jg_goto rfl ?_
          exact jg_iret rfl rfl h
    · have h := jg_f h (show ¬ (jg_wr x1 = 0) from hc)
      refine jg_A (pc' := 46) rfl rfl (fun _ _ _ => rfl) ?_
      refine jg_A (pc' := 47) rfl rfl (fun _ _ _ => rfl) ?_
      refine jg_cne (pc' := 50) rfl rfl (fun hc => ?_) (fun hc => ?_)
      · have h := jg_t h (show jg_wr x1 = 1 from hc)
        refine jg_A (pc' := 51) rfl rfl (fun _ _ _ => rfl) ?_
        refine jg_getO (pc' := 54) (k := 3) rfl (jg_sX8_0 hr103) (by decide) rfl rfl ?_
        refine jg_A (pc' := 55) rfl rfl (fun _ _ _ => rfl) ?_
        refine jg_calS (M1 := mm_J7_fill_53178) (hy := 0) (pc' := 58) rfl (Or.inl rfl) jm_J7_fill_53178 (by decide) rfl ⟨Nat.le_of_ble_eq_true rfl, rfl⟩ (Nat.le_of_ble_eq_true rfl) rfl h (jg_kV (fun m118 h => ?_))
        refine jg_goto rfl ?_
        refine jg_A (pc' := 85) rfl rfl (fun _ _ _ => rfl) ?_
        refine jg_getR (pc' := 88) (bi := 4) rfl h0 (by decide) rfl rfl rfl (fun r119 er119 => ?_)
        obtain ⟨hr119, h⟩ := h r119 er119
        refine jg_A (pc' := 89) rfl rfl (fun _ _ _ => rfl) ?_
        refine jg_A (pc' := 90) rfl rfl (fun _ _ _ => rfl) ?_
        refine jg_cne (pc' := 93) rfl rfl (fun hc => ?_) (fun hc => ?_)
        · have h := jg_t h (show jg_wr x1 = 4 from hc)
          refine jg_A (pc' := 94) rfl rfl (fun _ _ _ => rfl) ?_
          refine jg_goto rfl ?_
          refine jg_calX (M1 := mm_X8_make) (hy := 5) (pc' := 101) rfl jm_X8_make (by decide) rfl hr119 (by decide) ⟨Nat.le_of_ble_eq_true rfl, rfl⟩ (Nat.le_of_ble_eq_true rfl) rfl h (jg_kI (fun z121 m120 h => ?_))
          refine jg_ifeq (pc' := 104) rfl rfl (fun hc => ?_) (fun hc => ?_)
          · have h := jg_t h (show jg_wr z121 = 0 from hc)
            refine jg_A (pc' := 116) rfl rfl (fun _ _ _ => rfl) ?_
            exact jg_iret rfl rfl h
          · have h := jg_f h (show ¬ (jg_wr z121 = 0) from hc)
            refine jg_A (pc' := 105) rfl rfl (fun _ _ _ => rfl) ?_
            refine jg_getR (pc' := 108) (bi := 4) rfl h0 (by decide) rfl rfl rfl (fun r122 er122 => ?_)
            obtain ⟨hr122, h⟩ := h r122 er122
            refine jg_calX (M1 := mm_X8_conflictCount) (hy := 1) (pc' := 111) rfl jm_X8_conflictCount (by decide) rfl hr122 (by decide) ⟨Nat.le_of_ble_eq_true rfl, rfl⟩ (Nat.le_of_ble_eq_true rfl) rfl h (jg_kI (fun z124 m123 h => ?_))
            refine jg_goto rfl ?_
            exact jg_iret rfl rfl h
        · have h := jg_f h (show ¬ (jg_wr x1 = 4) from hc)
          refine jg_A (pc' := 98) rfl rfl (fun _ _ _ => rfl) ?_
          refine jg_calX (M1 := mm_X8_make) (hy := 5) (pc' := 101) rfl jm_X8_make (by decide) rfl hr119 (by decide) ⟨Nat.le_of_ble_eq_true rfl, rfl⟩ (Nat.le_of_ble_eq_true rfl) rfl h (jg_kI (fun z126 m125 h => ?_))
          refine jg_ifeq (pc' := 104) rfl rfl (fun hc => ?_) (fun hc => ?_)
          · have h := jg_t h (show jg_wr z126 = 0 from hc)
            refine jg_A (pc' := 116) rfl rfl (fun _ _ _ => rfl) ?_
            exact jg_iret rfl rfl h
          · have h := jg_f h (show ¬ (jg_wr z126 = 0) from hc)
            refine jg_A (pc' := 105) rfl rfl (fun _ _ _ => rfl) ?_
            refine jg_getR (pc' := 108) (bi := 4) rfl h0 (by decide) rfl rfl rfl (fun r127 er127 => ?_)
            obtain ⟨hr127, h⟩ := h r127 er127
            refine jg_calX (M1 := mm_X8_conflictCount) (hy := 1) (pc' := 111) rfl jm_X8_conflictCount (by decide) rfl hr127 (by decide) ⟨Nat.le_of_ble_eq_true rfl, rfl⟩ (Nat.le_of_ble_eq_true rfl) rfl h (jg_kI (fun z129 m128 h => ?_))
            refine jg_goto rfl ?_
            exact jg_iret rfl rfl h
      · have h := jg_f h (show ¬ (jg_wr x1 = 1) from hc)
        refine jg_A (pc' := 62) rfl rfl (fun _ _ _ => rfl) ?_
        refine jg_A (pc' := 63) rfl rfl (fun _ _ _ => rfl) ?_
        refine jg_cne (pc' := 66) rfl rfl (fun hc => ?_) (fun hc => ?_)
        · have h := jg_t h (show jg_wr x1 = 2 from hc)
          refine jg_A (pc' := 67) rfl rfl (fun _ _ _ => rfl) ?_
          refine jg_A (pc' := 68) rfl rfl (fun _ _ _ => rfl) ?_
          refine jg_putI (pc' := 71) (bi := 4) rfl (jg_sX8_0 hr103) (by decide) rfl rfl rfl rfl (fun m130 hm130 => ?_)
          have h := h m130 hm130
          refine jg_goto rfl ?_
          refine jg_A (pc' := 85) rfl rfl (fun _ _ _ => rfl) ?_
          refine jg_getR (pc' := 88) (bi := 4) rfl h0 (by decide) rfl rfl rfl (fun r131 er131 => ?_)
          obtain ⟨hr131, h⟩ := h r131 er131
          refine jg_A (pc' := 89) rfl rfl (fun _ _ _ => rfl) ?_
          refine jg_A (pc' := 90) rfl rfl (fun _ _ _ => rfl) ?_
          refine jg_cne (pc' := 93) rfl rfl (fun hc => ?_) (fun hc => ?_)
          · have h := jg_t h (show jg_wr x1 = 4 from hc)
            refine jg_A (pc' := 94) rfl rfl (fun _ _ _ => rfl) ?_
            refine jg_goto rfl ?_
            refine jg_calX (M1 := mm_X8_make) (hy := 5) (pc' := 101) rfl jm_X8_make (by decide) rfl hr131 (by decide) ⟨Nat.le_of_ble_eq_true rfl, rfl⟩ (Nat.le_of_ble_eq_true rfl) rfl h (jg_kI (fun z133 m132 h => ?_))
            refine jg_ifeq (pc' := 104) rfl rfl (fun hc => ?_) (fun hc => ?_)
            · have h := jg_t h (show jg_wr z133 = 0 from hc)
              refine jg_A (pc' := 116) rfl rfl (fun _ _ _ => rfl) ?_
              exact jg_iret rfl rfl h
            · have h := jg_f h (show ¬ (jg_wr z133 = 0) from hc)
              refine jg_A (pc' := 105) rfl rfl (fun _ _ _ => rfl) ?_
              refine jg_getR (pc' := 108) (bi := 4) rfl h0 (by decide) rfl rfl rfl (fun r134 er134 => ?_)
              obtain ⟨hr134, h⟩ := h r134 er134
              refine jg_calX (M1 := mm_X8_conflictCount) (hy := 1) (pc' := 111) rfl jm_X8_conflictCount (by decide) rfl hr134 (by decide) ⟨Nat.le_of_ble_eq_true rfl, rfl⟩ (Nat.le_of_ble_eq_true rfl) rfl h (jg_kI (fun z136 m135 h => ?_))
              refine jg_goto rfl ?_
              exact jg_iret rfl rfl h
          · have h := jg_f h (show ¬ (jg_wr x1 = 4) from hc)
            refine jg_A (pc' := 98) rfl rfl (fun _ _ _ => rfl) ?_
            refine jg_calX (M1 := mm_X8_make) (hy := 5) (pc' := 101) rfl jm_X8_make (by decide) rfl hr131 (by decide) ⟨Nat.le_of_ble_eq_true rfl, rfl⟩ (Nat.le_of_ble_eq_true rfl) rfl h (jg_kI (fun z138 m137 h => ?_))
            refine jg_ifeq (pc' := 104) rfl rfl (fun hc => ?_) (fun hc => ?_)
            · have h := jg_t h (show jg_wr z138 = 0 from hc)
              refine jg_A (pc' := 116) rfl rfl (fun _ _ _ => rfl) ?_
              exact jg_iret rfl rfl h
            · have h := jg_f h (show ¬ (jg_wr z138 = 0) from hc)
              refine jg_A (pc' := 105) rfl rfl (fun _ _ _ => rfl) ?_
              refine jg_getR (pc' := 108) (bi := 4) rfl h0 (by decide) rfl rfl rfl (fun r139 er139 => ?_)
              obtain ⟨hr139, h⟩ := h r139 er139
              refine jg_calX (M1 := mm_X8_conflictCount) (hy := 1) (pc' := 111) rfl jm_X8_conflictCount (by decide) rfl hr139 (by decide) ⟨Nat.le_of_ble_eq_true rfl, rfl⟩ (Nat.le_of_ble_eq_true rfl) rfl h (jg_kI (fun z141 m140 h => ?_))
              refine jg_goto rfl ?_
              exact jg_iret rfl rfl h
        · have h := jg_f h (show ¬ (jg_wr x1 = 2) from hc)
          refine jg_A (pc' := 75) rfl rfl (fun _ _ _ => rfl) ?_
          refine jg_A (pc' := 76) rfl rfl (fun _ _ _ => rfl) ?_
          refine jg_cne (pc' := 79) rfl rfl (fun hc => ?_) (fun hc => ?_)
          · have h := jg_t h (show jg_wr x1 = 3 from hc)
            refine jg_A (pc' := 80) rfl rfl (fun _ _ _ => rfl) ?_
            refine jg_A (pc' := 81) rfl rfl (fun _ _ _ => rfl) ?_
            refine jg_putI (pc' := 84) (bi := 3) rfl (jg_sX8_0 hr103) (by decide) rfl rfl rfl rfl (fun m142 hm142 => ?_)
            have h := h m142 hm142
            refine jg_A (pc' := 85) rfl rfl (fun _ _ _ => rfl) ?_
            refine jg_getR (pc' := 88) (bi := 4) rfl h0 (by decide) rfl rfl rfl (fun r143 er143 => ?_)
            obtain ⟨hr143, h⟩ := h r143 er143
            refine jg_A (pc' := 89) rfl rfl (fun _ _ _ => rfl) ?_
            refine jg_A (pc' := 90) rfl rfl (fun _ _ _ => rfl) ?_
            refine jg_cne (pc' := 93) rfl rfl (fun hc => ?_) (fun hc => ?_)
            · have h := jg_t h (show jg_wr x1 = 4 from hc)
              refine jg_A (pc' := 94) rfl rfl (fun _ _ _ => rfl) ?_
              refine jg_goto rfl ?_
              refine jg_calX (M1 := mm_X8_make) (hy := 5) (pc' := 101) rfl jm_X8_make (by decide) rfl hr143 (by decide) ⟨Nat.le_of_ble_eq_true rfl, rfl⟩ (Nat.le_of_ble_eq_true rfl) rfl h (jg_kI (fun z145 m144 h => ?_))
              refine jg_ifeq (pc' := 104) rfl rfl (fun hc => ?_) (fun hc => ?_)
              · have h := jg_t h (show jg_wr z145 = 0 from hc)
                refine jg_A (pc' := 116) rfl rfl (fun _ _ _ => rfl) ?_
                exact jg_iret rfl rfl h
              · have h := jg_f h (show ¬ (jg_wr z145 = 0) from hc)
                refine jg_A (pc' := 105) rfl rfl (fun _ _ _ => rfl) ?_
                refine jg_getR (pc' := 108) (bi := 4) rfl h0 (by decide) rfl rfl rfl (fun r146 er146 => ?_)
                obtain ⟨hr146, h⟩ := h r146 er146
                refine jg_calX (M1 := mm_X8_conflictCount) (hy := 1) (pc' := 111) rfl jm_X8_conflictCount (by decide) rfl hr146 (by decide) ⟨Nat.le_of_ble_eq_true rfl, rfl⟩ (Nat.le_of_ble_eq_true rfl) rfl h (jg_kI (fun z148 m147 h => ?_))
                refine jg_goto rfl ?_
                exact jg_iret rfl rfl h
            · have h := jg_f h (show ¬ (jg_wr x1 = 4) from hc)
              refine jg_A (pc' := 98) rfl rfl (fun _ _ _ => rfl) ?_
              refine jg_calX (M1 := mm_X8_make) (hy := 5) (pc' := 101) rfl jm_X8_make (by decide) rfl hr143 (by decide) ⟨Nat.le_of_ble_eq_true rfl, rfl⟩ (Nat.le_of_ble_eq_true rfl) rfl h (jg_kI (fun z150 m149 h => ?_))
              refine jg_ifeq (pc' := 104) rfl rfl (fun hc => ?_) (fun hc => ?_)
              · have h := jg_t h (show jg_wr z150 = 0 from hc)
                refine jg_A (pc' := 116) rfl rfl (fun _ _ _ => rfl) ?_
                exact jg_iret rfl rfl h
              · have h := jg_f h (show ¬ (jg_wr z150 = 0) from hc)
                refine jg_A (pc' := 105) rfl rfl (fun _ _ _ => rfl) ?_
                refine jg_getR (pc' := 108) (bi := 4) rfl h0 (by decide) rfl rfl rfl (fun r151 er151 => ?_)
                obtain ⟨hr151, h⟩ := h r151 er151
                refine jg_calX (M1 := mm_X8_conflictCount) (hy := 1) (pc' := 111) rfl jm_X8_conflictCount (by decide) rfl hr151 (by decide) ⟨Nat.le_of_ble_eq_true rfl, rfl⟩ (Nat.le_of_ble_eq_true rfl) rfl h (jg_kI (fun z153 m152 h => ?_))
                refine jg_goto rfl ?_
                exact jg_iret rfl rfl h
          · have h := jg_f h (show ¬ (jg_wr x1 = 3) from hc)
            refine jg_A (pc' := 85) rfl rfl (fun _ _ _ => rfl) ?_
            refine jg_getR (pc' := 88) (bi := 4) rfl h0 (by decide) rfl rfl rfl (fun r154 er154 => ?_)
            obtain ⟨hr154, h⟩ := h r154 er154
            refine jg_A (pc' := 89) rfl rfl (fun _ _ _ => rfl) ?_
            refine jg_A (pc' := 90) rfl rfl (fun _ _ _ => rfl) ?_
            refine jg_cne (pc' := 93) rfl rfl (fun hc => ?_) (fun hc => ?_)
            · have h := jg_t h (show jg_wr x1 = 4 from hc)
              refine jg_A (pc' := 94) rfl rfl (fun _ _ _ => rfl) ?_
              refine jg_goto rfl ?_
              refine jg_calX (M1 := mm_X8_make) (hy := 5) (pc' := 101) rfl jm_X8_make (by decide) rfl hr154 (by decide) ⟨Nat.le_of_ble_eq_true rfl, rfl⟩ (Nat.le_of_ble_eq_true rfl) rfl h (jg_kI (fun z156 m155 h => ?_))
              refine jg_ifeq (pc' := 104) rfl rfl (fun hc => ?_) (fun hc => ?_)
              · have h := jg_t h (show jg_wr z156 = 0 from hc)
                refine jg_A (pc' := 116) rfl rfl (fun _ _ _ => rfl) ?_
                exact jg_iret rfl rfl h
              · have h := jg_f h (show ¬ (jg_wr z156 = 0) from hc)
                refine jg_A (pc' := 105) rfl rfl (fun _ _ _ => rfl) ?_
                refine jg_getR (pc' := 108) (bi := 4) rfl h0 (by decide) rfl rfl rfl (fun r157 er157 => ?_)
                obtain ⟨hr157, h⟩ := h r157 er157
                refine jg_calX (M1 := mm_X8_conflictCount) (hy := 1) (pc' := 111) rfl jm_X8_conflictCount (by decide) rfl hr157 (by decide) ⟨Nat.le_of_ble_eq_true rfl, rfl⟩ (Nat.le_of_ble_eq_true rfl) rfl h (jg_kI (fun z159 m158 h => ?_))
                refine jg_goto rfl ?_
                exact jg_iret rfl rfl h
            · have h := jg_f h (show ¬ (jg_wr x1 = 4) from hc)
              refine jg_A (pc' := 98) rfl rfl (fun _ _ _ => rfl) ?_
              refine jg_calX (M1 := mm_X8_make) (hy := 5) (pc' := 101) rfl jm_X8_make (by decide) rfl hr154 (by decide) ⟨Nat.le_of_ble_eq_true rfl, rfl⟩ (Nat.le_of_ble_eq_true rfl) rfl h (jg_kI (fun z161 m160 h => ?_))
              refine jg_ifeq (pc' := 104) rfl rfl (fun hc => ?_) (fun hc => ?_)
              · have h := jg_t h (show jg_wr z161 = 0 from hc)
                refine jg_A (pc' := 116) rfl rfl (fun _ _ _ => rfl) ?_
                exact jg_iret rfl rfl h
              · have h := jg_f h (show ¬ (jg_wr z161 = 0) from hc)
                refine jg_A (pc' := 105) rfl rfl (fun _ _ _ => rfl) ?_
                refine jg_getR (pc' := 108) (bi := 4) rfl h0 (by decide) rfl rfl rfl (fun r162 er162 => ?_)
                obtain ⟨hr162, h⟩ := h r162 er162
                refine jg_calX (M1 := mm_X8_conflictCount) (hy := 1) (pc' := 111) rfl jm_X8_conflictCount (by decide) rfl hr162 (by decide) ⟨Nat.le_of_ble_eq_true rfl, rfl⟩ (Nat.le_of_ble_eq_true rfl) rfl h (jg_kI (fun z164 m163 h => ?_))
                refine jg_goto rfl ?_
                exact jg_iret rfl rfl h
set_option maxRecDepth 100000 in
set_option maxHeartbeats 4000000 in
theorem jb_X11_canTry_0 {w : Nat} {a0 : Nat} {x1 : Int} {x2 : Int} {σ : jg_M} {Q : Int → jg_M → Prop} (h0 : jg_sh a0 = (11, 0)) (h : (if jg_wr x1 = 0 then (if jg_wr x2 = 0 then Q 1 σ else Q 0 σ) else (if jg_wr x1 = 1 then (if jg_wr x2 = 0 then Q 1 σ else Q 0 σ) else (if jg_wr x1 = 2 then ∀ r101 : Nat, r101 = (σ.1 a0 3).toNat → jg_sh r101 = (8, 0) ∧ jg_CI w 0 mm_X0_hasRule [.ref (r101 + 1), .int (.ofInt x2)] σ (fun (z103 : Int) (m102 : jg_M) => ((jg_wr z103 = 0 ∨ jg_wr z103 = 1) ∧ Q z103 m102)) else (if jg_wr x1 = 3 then ∀ r104 : Nat, r104 = (σ.1 a0 3).toNat → jg_sh r104 = (8, 0) ∧ jg_CI w 0 mm_X0_hasKind [.ref (r104 + 1), .int (.ofInt x2)] σ (fun (z106 : Int) (m105 : jg_M) => ((jg_wr z106 = 0 ∨ jg_wr z106 = 1) ∧ Q z106 m105)) else (if jg_wr x1 = 4 then (if jg_wr x2 = 0 then Q 1 σ else Q 0 σ) else Q 0 σ)))))) : jg_CI w 1 mm_X11_canTry [.ref a0, .int (.ofInt x1), .int (.ofInt x2)] σ Q := by
  show jg_G w 1 mm_X11_canTry 0 [.ref a0, .int (.ofInt x1), .int (.ofInt x2)] [] σ (jg_QI Q)
  refine jg_A (pc' := 1) rfl rfl (fun _ _ _ => rfl) ?_
  refine jg_tsw rfl rfl ?_
  refine jg_swc (v := 0) (t := 36) (fun hc => ?_) (fun hc => ?_)
  · have h := jg_t h hc
    refine jg_A (pc' := 37) rfl rfl (fun _ _ _ => rfl) ?_
    refine jg_ifne (pc' := 40) rfl rfl (fun hc => ?_) (fun hc => ?_)
    · have h := jg_t h (show jg_wr x2 = 0 from hc)
      refine jg_A (pc' := 41) rfl rfl (fun _ _ _ => rfl) ?_
      refine jg_goto rfl ?_
      exact jg_zret rfl rfl (by decide) h
    · have h := jg_f h (show ¬ (jg_wr x2 = 0) from hc)
      refine jg_A (pc' := 45) rfl rfl (fun _ _ _ => rfl) ?_
      exact jg_zret rfl rfl (by decide) h
  have h := jg_f h hc
  refine jg_swc (v := 1) (t := 36) (fun hc => ?_) (fun hc => ?_)
  · have h := jg_t h hc
    refine jg_A (pc' := 37) rfl rfl (fun _ _ _ => rfl) ?_
    refine jg_ifne (pc' := 40) rfl rfl (fun hc => ?_) (fun hc => ?_)
    · have h := jg_t h (show jg_wr x2 = 0 from hc)
      refine jg_A (pc' := 41) rfl rfl (fun _ _ _ => rfl) ?_
      refine jg_goto rfl ?_
      exact jg_zret rfl rfl (by decide) h
    · have h := jg_f h (show ¬ (jg_wr x2 = 0) from hc)
      refine jg_A (pc' := 45) rfl rfl (fun _ _ _ => rfl) ?_
      exact jg_zret rfl rfl (by decide) h
  have h := jg_f h hc
  refine jg_swc (v := 2) (t := 46) (fun hc => ?_) (fun hc => ?_)
  · have h := jg_t h hc
    refine jg_A (pc' := 47) rfl rfl (fun _ _ _ => rfl) ?_
    refine jg_getR (pc' := 50) (bi := 3) rfl h0 (by decide) rfl rfl rfl (fun r101 er101 => ?_)
    obtain ⟨hr101, h⟩ := h r101 er101
    refine jg_getO (pc' := 53) (k := 1) rfl hr101 (by decide) rfl rfl ?_
    refine jg_A (pc' := 54) rfl rfl (fun _ _ _ => rfl) ?_
    refine jg_calX (M1 := mm_X0_hasRule) (hy := 0) (pc' := 57) rfl jm_X0_hasRule (by decide) rfl (jg_sX8_0 hr101) (by decide) ⟨Nat.le_of_ble_eq_true rfl, rfl⟩ (Nat.le_of_ble_eq_true rfl) rfl h (jg_kI (fun z103 m102 h => ?_))
    exact jg_zret rfl rfl h.1 h.2
  have h := jg_f h hc
  refine jg_swc (v := 3) (t := 58) (fun hc => ?_) (fun hc => ?_)
  · have h := jg_t h hc
    refine jg_A (pc' := 59) rfl rfl (fun _ _ _ => rfl) ?_
    refine jg_getR (pc' := 62) (bi := 3) rfl h0 (by decide) rfl rfl rfl (fun r104 er104 => ?_)
    obtain ⟨hr104, h⟩ := h r104 er104
    refine jg_getO (pc' := 65) (k := 1) rfl hr104 (by decide) rfl rfl ?_
    refine jg_A (pc' := 66) rfl rfl (fun _ _ _ => rfl) ?_
    refine jg_calX (M1 := mm_X0_hasKind) (hy := 0) (pc' := 69) rfl jm_X0_hasKind (by decide) rfl (jg_sX8_0 hr104) (by decide) ⟨Nat.le_of_ble_eq_true rfl, rfl⟩ (Nat.le_of_ble_eq_true rfl) rfl h (jg_kI (fun z106 m105 h => ?_))
    exact jg_zret rfl rfl h.1 h.2
  have h := jg_f h hc
  refine jg_swc (v := 4) (t := 36) (fun hc => ?_) (fun hc => ?_)
  · have h := jg_t h hc
    refine jg_A (pc' := 37) rfl rfl (fun _ _ _ => rfl) ?_
    refine jg_ifne (pc' := 40) rfl rfl (fun hc => ?_) (fun hc => ?_)
    · have h := jg_t h (show jg_wr x2 = 0 from hc)
      refine jg_A (pc' := 41) rfl rfl (fun _ _ _ => rfl) ?_
      refine jg_goto rfl ?_
      exact jg_zret rfl rfl (by decide) h
    · have h := jg_f h (show ¬ (jg_wr x2 = 0) from hc)
      refine jg_A (pc' := 45) rfl rfl (fun _ _ _ => rfl) ?_
      exact jg_zret rfl rfl (by decide) h
  have h := jg_f h hc
  show jg_G w 1 mm_X11_canTry 70 [.ref a0, .int (.ofInt x1), .int (.ofInt x2)] [] σ (jg_QI Q)
  refine jg_A (pc' := 71) rfl rfl (fun _ _ _ => rfl) ?_
  exact jg_zret rfl rfl (by decide) h
set_option maxRecDepth 100000 in
set_option maxHeartbeats 4000000 in
theorem jb_X11_undo_0 {w : Nat} {a0 : Nat} {σ : jg_M} {Q : Int → jg_M → Prop} (h0 : jg_sh a0 = (11, 0)) (h : jg_CI w 1 mm_X3_takeBack [.ref (a0 + 69), .ref (a0 + 65)] σ (fun (z102 : Int) (m101 : jg_M) => Q z102 m101)) : jg_CI w 2 mm_X11_undo [.ref a0] σ Q := by
  show jg_G w 2 mm_X11_undo 0 [.ref a0] [] σ (jg_QI Q)
  refine jg_A (pc' := 1) rfl rfl (fun _ _ _ => rfl) ?_
  refine jg_getO (pc' := 4) (k := 69) rfl h0 (by decide) rfl rfl ?_
  refine jg_A (pc' := 5) rfl rfl (fun _ _ _ => rfl) ?_
  refine jg_getO (pc' := 8) (k := 65) rfl h0 (by decide) rfl rfl ?_
  refine jg_calX (M1 := mm_X3_takeBack) (hy := 1) (pc' := 11) rfl jm_X3_takeBack (by decide) rfl (jg_sX11_12 h0) (by decide) ⟨Nat.le_of_ble_eq_true rfl, rfl⟩ (Nat.le_of_ble_eq_true rfl) rfl h (jg_kI (fun z102 m101 h => ?_))
  exact jg_iret rfl rfl h
set_option maxRecDepth 100000 in
set_option maxHeartbeats 4000000 in
theorem jb_X11_keep_0 {w : Nat} {a0 : Nat} {σ : jg_M} {Q : Int → jg_M → Prop} (h0 : jg_sh a0 = (11, 0)) (h : jg_CV w 1 mm_X5_copy [.ref (a0 + 67), .ref (a0 + 65)] σ (fun (m101 : jg_M) => ∀ m102 : jg_M, m102 = jg_sI m101 a0 11 1 → Q (m102.1 (a0 + 65) 2) m102)) : jg_CI w 2 mm_X11_keep [.ref a0] σ Q := by
  show jg_G w 2 mm_X11_keep 0 [.ref a0] [] σ (jg_QI Q)
  refine jg_A (pc' := 1) rfl rfl (fun _ _ _ => rfl) ?_
  refine jg_getO (pc' := 4) (k := 67) rfl h0 (by decide) rfl rfl ?_
  refine jg_A (pc' := 5) rfl rfl (fun _ _ _ => rfl) ?_
  refine jg_getO (pc' := 8) (k := 65) rfl h0 (by decide) rfl rfl ?_
  refine jg_calX (M1 := mm_X5_copy) (hy := 1) (pc' := 11) rfl jm_X5_copy (by decide) rfl (jg_sX11_10 h0) (by decide) ⟨Nat.le_of_ble_eq_true rfl, rfl⟩ (Nat.le_of_ble_eq_true rfl) rfl h (jg_kV (fun m101 h => ?_))
  refine jg_A (pc' := 12) rfl rfl (fun _ _ _ => rfl) ?_
  refine jg_A (pc' := 13) rfl rfl (fun _ _ _ => rfl) ?_
  refine jg_putZ (pc' := 16) (bi := 11) rfl h0 (by decide) rfl rfl (by decide) rfl rfl (fun m102 hm102 => ?_)
  have h := h m102 hm102
  refine jg_A (pc' := 17) rfl rfl (fun _ _ _ => rfl) ?_
  refine jg_getO (pc' := 20) (k := 65) rfl h0 (by decide) rfl rfl ?_
  refine jg_getI (pc' := 23) (bi := 2) rfl (jg_sX11_8 h0) (by decide) (Or.inl rfl) rfl rfl ?_
  exact jg_iret rfl rfl h
set_option maxRecDepth 100000 in
set_option maxHeartbeats 4000000 in
theorem jb_X11_back_0 {w : Nat} {a0 : Nat} {σ : jg_M} {Q : Int → jg_M → Prop} (h0 : jg_sh a0 = (11, 0)) (h : (if jg_wr (σ.1 a0 11) = 0 then Q (-1) σ else jg_CV w 1 mm_X5_copy [.ref (a0 + 65), .ref (a0 + 67)] σ (fun (m101 : jg_M) => jg_CV w 0 mm_X3_forget [.ref (a0 + 69)] m101 (fun (m102 : jg_M) => Q (m102.1 (a0 + 65) 2) m102)))) : jg_CI w 2 mm_X11_back [.ref a0] σ Q := by
  show jg_G w 2 mm_X11_back 0 [.ref a0] [] σ (jg_QI Q)
  refine jg_A (pc' := 1) rfl rfl (fun _ _ _ => rfl) ?_
  refine jg_getI (pc' := 4) (bi := 11) rfl h0 (by decide) (Or.inr rfl) rfl rfl ?_
  refine jg_ifne (pc' := 7) rfl rfl (fun hc => ?_) (fun hc => ?_)
  · have h := jg_t h (show jg_wr (σ.1 a0 11) = 0 from hc)
    refine jg_A (pc' := 8) rfl rfl (fun _ _ _ => rfl) ?_
    exact jg_iret rfl rfl h
  · have h := jg_f h (show ¬ (jg_wr (σ.1 a0 11) = 0) from hc)
    refine jg_A (pc' := 10) rfl rfl (fun _ _ _ => rfl) ?_
    refine jg_getO (pc' := 13) (k := 65) rfl h0 (by decide) rfl rfl ?_
    refine jg_A (pc' := 14) rfl rfl (fun _ _ _ => rfl) ?_
    refine jg_getO (pc' := 17) (k := 67) rfl h0 (by decide) rfl rfl ?_
    refine jg_calX (M1 := mm_X5_copy) (hy := 1) (pc' := 20) rfl jm_X5_copy (by decide) rfl (jg_sX11_8 h0) (by decide) ⟨Nat.le_of_ble_eq_true rfl, rfl⟩ (Nat.le_of_ble_eq_true rfl) rfl h (jg_kV (fun m101 h => ?_))
    refine jg_A (pc' := 21) rfl rfl (fun _ _ _ => rfl) ?_
    refine jg_getO (pc' := 24) (k := 69) rfl h0 (by decide) rfl rfl ?_
    refine jg_calX (M1 := mm_X3_forget) (hy := 0) (pc' := 27) rfl jm_X3_forget (by decide) rfl (jg_sX11_12 h0) (by decide) ⟨Nat.le_of_ble_eq_true rfl, rfl⟩ (Nat.le_of_ble_eq_true rfl) rfl h (jg_kV (fun m102 h => ?_))
    refine jg_A (pc' := 28) rfl rfl (fun _ _ _ => rfl) ?_
    refine jg_getO (pc' := 31) (k := 65) rfl h0 (by decide) rfl rfl ?_
    refine jg_getI (pc' := 34) (bi := 2) rfl (jg_sX11_8 h0) (by decide) (Or.inl rfl) rfl rfl ?_
    exact jg_iret rfl rfl h
set_option maxRecDepth 100000 in
set_option maxHeartbeats 4000000 in
theorem jb_X11_count_0 {w : Nat} {a0 : Nat} {x1 : Int} {σ : jg_M} {Q : Int → jg_M → Prop} (h0 : jg_sh a0 = (11, 0)) (h : (if jg_wr x1 = 0 then ∀ r101 : Nat, r101 = (σ.1 a0 3).toNat → jg_sh r101 = (8, 0) ∧ Q (σ.1 (r101 + 1) 0) σ else (if jg_wr x1 = 1 then ∀ r102 : Nat, r102 = (σ.1 a0 3).toNat → jg_sh r102 = (8, 0) ∧ Q (σ.1 (r102 + 1) 1) σ else (if jg_wr x1 = 2 then ∀ r103 : Nat, r103 = (σ.1 a0 3).toNat → jg_sh r103 = (8, 0) ∧ Q (σ.1 (r103 + 1) 2) σ else (if jg_wr x1 = 3 then ∀ r104 : Nat, r104 = (σ.1 a0 3).toNat → jg_sh r104 = (8, 0) ∧ Q (σ.1 (r104 + 10) 0) σ else (if jg_wr x1 = 4 then ∀ r105 : Nat, r105 = (σ.1 a0 3).toNat → jg_sh r105 = (8, 0) ∧ jg_CI w 1 mm_X7_itemsInAll [.ref (r105 + 10)] σ (fun (z107 : Int) (m106 : jg_M) => Q z107 m106) else (if jg_wr x1 = 5 then ∀ r108 : Nat, r108 = (σ.1 a0 3).toNat → jg_sh r108 = (8, 0) ∧ jg_CI w 2 mm_X7_movesInAll [.ref (r108 + 10)] σ (fun (z110 : Int) (m109 : jg_M) => Q z110 m109) else (if jg_wr x1 = 6 then ∀ r111 : Nat, r111 = (σ.1 a0 3).toNat → jg_sh r111 = (8, 0) ∧ jg_CI w 3 mm_X8_actionsInAll [.ref r111] σ (fun (z113 : Int) (m112 : jg_M) => Q z113 m112) else (if jg_wr x1 = 7 then Q (σ.1 (a0 + 65) 3) σ else (if jg_wr x1 = 8 then Q (σ.1 (a0 + 65) 4) σ else (if jg_wr x1 = 9 then Q (σ.1 (a0 + 65) 2) σ else (if jg_wr x1 = 10 then Q (σ.1 (a0 + 61) 0) σ else (if jg_wr x1 = 11 then Q (σ.1 (a0 + 74) 0) σ else (if jg_wr x1 = 12 then jg_CI w 0 mm_X1_knownBy [.ref (a0 + 74)] σ (fun (z115 : Int) (m114 : jg_M) => Q z115 m114) else (if jg_wr x1 = 13 then Q (σ.1 (a0 + 69) 0) σ else Q (-1) σ))))))))))))))) : jg_CI w 4 mm_X11_count [.ref a0, .int (.ofInt x1)] σ Q := by
  show jg_G w 4 mm_X11_count 0 [.ref a0, .int (.ofInt x1)] [] σ (jg_QI Q)
  refine jg_A (pc' := 1) rfl rfl (fun _ _ _ => rfl) ?_
  refine jg_tsw rfl rfl ?_
  refine jg_swc (v := 0) (t := 72) (fun hc => ?_) (fun hc => ?_)
  · have h := jg_t h hc
    refine jg_A (pc' := 73) rfl rfl (fun _ _ _ => rfl) ?_
    refine jg_getR (pc' := 76) (bi := 3) rfl h0 (by decide) rfl rfl rfl (fun r101 er101 => ?_)
    obtain ⟨hr101, h⟩ := h r101 er101
    refine jg_getO (pc' := 79) (k := 1) rfl hr101 (by decide) rfl rfl ?_
    refine jg_getI (pc' := 82) (bi := 0) rfl (jg_sX8_0 hr101) (by decide) (Or.inl rfl) rfl rfl ?_
    exact jg_iret rfl rfl h
  have h := jg_f h hc
  refine jg_swc (v := 1) (t := 83) (fun hc => ?_) (fun hc => ?_)
  · have h := jg_t h hc
    refine jg_A (pc' := 84) rfl rfl (fun _ _ _ => rfl) ?_
    refine jg_getR (pc' := 87) (bi := 3) rfl h0 (by decide) rfl rfl rfl (fun r102 er102 => ?_)
    obtain ⟨hr102, h⟩ := h r102 er102
    refine jg_getO (pc' := 90) (k := 1) rfl hr102 (by decide) rfl rfl ?_
    refine jg_getI (pc' := 93) (bi := 1) rfl (jg_sX8_0 hr102) (by decide) (Or.inl rfl) rfl rfl ?_
    exact jg_iret rfl rfl h
  have h := jg_f h hc
  refine jg_swc (v := 2) (t := 94) (fun hc => ?_) (fun hc => ?_)
  · have h := jg_t h hc
    refine jg_A (pc' := 95) rfl rfl (fun _ _ _ => rfl) ?_
    refine jg_getR (pc' := 98) (bi := 3) rfl h0 (by decide) rfl rfl rfl (fun r103 er103 => ?_)
    obtain ⟨hr103, h⟩ := h r103 er103
    refine jg_getO (pc' := 101) (k := 1) rfl hr103 (by decide) rfl rfl ?_
    refine jg_getI (pc' := 104) (bi := 2) rfl (jg_sX8_0 hr103) (by decide) (Or.inl rfl) rfl rfl ?_
    exact jg_iret rfl rfl h
  have h := jg_f h hc
  refine jg_swc (v := 3) (t := 105) (fun hc => ?_) (fun hc => ?_)
  · have h := jg_t h hc
    refine jg_A (pc' := 106) rfl rfl (fun _ _ _ => rfl) ?_
    refine jg_getR (pc' := 109) (bi := 3) rfl h0 (by decide) rfl rfl rfl (fun r104 er104 => ?_)
    obtain ⟨hr104, h⟩ := h r104 er104
    refine jg_getO (pc' := 112) (k := 10) rfl hr104 (by decide) rfl rfl ?_
    refine jg_getI (pc' := 115) (bi := 0) rfl (jg_sX8_1 hr104) (by decide) (Or.inl rfl) rfl rfl ?_
    exact jg_iret rfl rfl h
  have h := jg_f h hc
  refine jg_swc (v := 4) (t := 116) (fun hc => ?_) (fun hc => ?_)
  · have h := jg_t h hc
    refine jg_A (pc' := 117) rfl rfl (fun _ _ _ => rfl) ?_
    refine jg_getR (pc' := 120) (bi := 3) rfl h0 (by decide) rfl rfl rfl (fun r105 er105 => ?_)
    obtain ⟨hr105, h⟩ := h r105 er105
    refine jg_getO (pc' := 123) (k := 10) rfl hr105 (by decide) rfl rfl ?_
    refine jg_calX (M1 := mm_X7_itemsInAll) (hy := 1) (pc' := 126) rfl jm_X7_itemsInAll (by decide) rfl (jg_sX8_1 hr105) (by decide) ⟨Nat.le_of_ble_eq_true rfl, rfl⟩ (Nat.le_of_ble_eq_true rfl) rfl h (jg_kI (fun z107 m106 h => ?_))
    exact jg_iret rfl rfl h
  have h := jg_f h hc
  refine jg_swc (v := 5) (t := 127) (fun hc => ?_) (fun hc => ?_)
  · have h := jg_t h hc
    refine jg_A (pc' := 128) rfl rfl (fun _ _ _ => rfl) ?_
    refine jg_getR (pc' := 131) (bi := 3) rfl h0 (by decide) rfl rfl rfl (fun r108 er108 => ?_)
    obtain ⟨hr108, h⟩ := h r108 er108
    refine jg_getO (pc' := 134) (k := 10) rfl hr108 (by decide) rfl rfl ?_
    refine jg_calX (M1 := mm_X7_movesInAll) (hy := 2) (pc' := 137) rfl jm_X7_movesInAll (by decide) rfl (jg_sX8_1 hr108) (by decide) ⟨Nat.le_of_ble_eq_true rfl, rfl⟩ (Nat.le_of_ble_eq_true rfl) rfl h (jg_kI (fun z110 m109 h => ?_))
    exact jg_iret rfl rfl h
  have h := jg_f h hc
  refine jg_swc (v := 6) (t := 138) (fun hc => ?_) (fun hc => ?_)
  · have h := jg_t h hc
    refine jg_A (pc' := 139) rfl rfl (fun _ _ _ => rfl) ?_
    refine jg_getR (pc' := 142) (bi := 3) rfl h0 (by decide) rfl rfl rfl (fun r111 er111 => ?_)
    obtain ⟨hr111, h⟩ := h r111 er111
    refine jg_calX (M1 := mm_X8_actionsInAll) (hy := 3) (pc' := 145) rfl jm_X8_actionsInAll (by decide) rfl hr111 (by decide) ⟨Nat.le_of_ble_eq_true rfl, rfl⟩ (Nat.le_of_ble_eq_true rfl) rfl h (jg_kI (fun z113 m112 h => ?_))
    exact jg_iret rfl rfl h
  have h := jg_f h hc
  refine jg_swc (v := 7) (t := 146) (fun hc => ?_) (fun hc => ?_)
  · have h := jg_t h hc
    refine jg_A (pc' := 147) rfl rfl (fun _ _ _ => rfl) ?_
    refine jg_getO (pc' := 150) (k := 65) rfl h0 (by decide) rfl rfl ?_
    refine jg_getI (pc' := 153) (bi := 3) rfl (jg_sX11_8 h0) (by decide) (Or.inl rfl) rfl rfl ?_
    exact jg_iret rfl rfl h
  have h := jg_f h hc
  refine jg_swc (v := 8) (t := 154) (fun hc => ?_) (fun hc => ?_)
  · have h := jg_t h hc
    refine jg_A (pc' := 155) rfl rfl (fun _ _ _ => rfl) ?_
    refine jg_getO (pc' := 158) (k := 65) rfl h0 (by decide) rfl rfl ?_
    refine jg_getI (pc' := 161) (bi := 4) rfl (jg_sX11_8 h0) (by decide) (Or.inl rfl) rfl rfl ?_
    exact jg_iret rfl rfl h
  have h := jg_f h hc
  refine jg_swc (v := 9) (t := 162) (fun hc => ?_) (fun hc => ?_)
  · have h := jg_t h hc
    refine jg_A (pc' := 163) rfl rfl (fun _ _ _ => rfl) ?_
    refine jg_getO (pc' := 166) (k := 65) rfl h0 (by decide) rfl rfl ?_
    refine jg_getI (pc' := 169) (bi := 2) rfl (jg_sX11_8 h0) (by decide) (Or.inl rfl) rfl rfl ?_
    exact jg_iret rfl rfl h
  have h := jg_f h hc
  refine jg_swc (v := 10) (t := 170) (fun hc => ?_) (fun hc => ?_)
  · have h := jg_t h hc
    refine jg_A (pc' := 171) rfl rfl (fun _ _ _ => rfl) ?_
    refine jg_getO (pc' := 174) (k := 61) rfl h0 (by decide) rfl rfl ?_
    refine jg_getI (pc' := 177) (bi := 0) rfl (jg_sX11_7 h0) (by decide) (Or.inl rfl) rfl rfl ?_
    exact jg_iret rfl rfl h
  have h := jg_f h hc
  refine jg_swc (v := 11) (t := 178) (fun hc => ?_) (fun hc => ?_)
  · have h := jg_t h hc
    refine jg_A (pc' := 179) rfl rfl (fun _ _ _ => rfl) ?_
    refine jg_getO (pc' := 182) (k := 74) rfl h0 (by decide) rfl rfl ?_
    refine jg_getI (pc' := 185) (bi := 0) rfl (jg_sX11_13 h0) (by decide) (Or.inl rfl) rfl rfl ?_
    exact jg_iret rfl rfl h
  have h := jg_f h hc
  refine jg_swc (v := 12) (t := 186) (fun hc => ?_) (fun hc => ?_)
  · have h := jg_t h hc
    refine jg_A (pc' := 187) rfl rfl (fun _ _ _ => rfl) ?_
    refine jg_getO (pc' := 190) (k := 74) rfl h0 (by decide) rfl rfl ?_
    refine jg_calX (M1 := mm_X1_knownBy) (hy := 0) (pc' := 193) rfl jm_X1_knownBy (by decide) rfl (jg_sX11_13 h0) (by decide) ⟨Nat.le_of_ble_eq_true rfl, rfl⟩ (Nat.le_of_ble_eq_true rfl) rfl h (jg_kI (fun z115 m114 h => ?_))
    exact jg_iret rfl rfl h
  have h := jg_f h hc
  refine jg_swc (v := 13) (t := 194) (fun hc => ?_) (fun hc => ?_)
  · have h := jg_t h hc
    refine jg_A (pc' := 195) rfl rfl (fun _ _ _ => rfl) ?_
    refine jg_getO (pc' := 198) (k := 69) rfl h0 (by decide) rfl rfl ?_
    refine jg_getI (pc' := 201) (bi := 0) rfl (jg_sX11_12 h0) (by decide) (Or.inl rfl) rfl rfl ?_
    exact jg_iret rfl rfl h
  have h := jg_f h hc
  show jg_G w 4 mm_X11_count 202 [.ref a0, .int (.ofInt x1)] [] σ (jg_QI Q)
  refine jg_A (pc' := 203) rfl rfl (fun _ _ _ => rfl) ?_
  exact jg_iret rfl rfl h
set_option maxRecDepth 100000 in
set_option maxHeartbeats 4000000 in
theorem jb_X11_inBits_0 {w : Nat} {l0 : Int} {x2 : Int} {σ : jg_M} {Q : Int → jg_M → Prop} (h : (if jg_wr x2 < 0 then Q 0 σ else (if 64 ≤ jg_wr x2 then Q 0 σ else (if jg_wr (jg_lc (jg_qand (jg_qushr l0 x2) 1) 0) = 0 then Q 0 σ else Q 1 σ)))) : jg_CI w 0 mm_X11_inBits [.long (.ofInt l0), .int (.ofInt x2)] σ Q := by
  show jg_G w 0 mm_X11_inBits 0 [.long (.ofInt l0), mj_U, .int (.ofInt x2)] [] σ (jg_QI Q)
  refine jg_A (pc' := 1) rfl rfl (fun _ _ _ => rfl) ?_
  refine jg_iflt (pc' := 4) rfl rfl (fun hc => ?_) (fun hc => ?_)
  · have h := jg_t h (show jg_wr x2 < 0 from hc)
    refine jg_A (pc' := 25) rfl rfl (fun _ _ _ => rfl) ?_
    exact jg_zret rfl rfl (by decide) h
  · have h := jg_f h (show ¬ (jg_wr x2 < 0) from hc)
    refine jg_A (pc' := 5) rfl rfl (fun _ _ _ => rfl) ?_
    refine jg_A (pc' := 7) rfl rfl (fun _ _ _ => rfl) ?_
    refine jg_cge (pc' := 10) rfl rfl (fun hc => ?_) (fun hc => ?_)
    · have h := jg_t h (show 64 ≤ jg_wr x2 from hc)
      refine jg_A (pc' := 25) rfl rfl (fun _ _ _ => rfl) ?_
      exact jg_zret rfl rfl (by decide) h
    · have h := jg_f h (show ¬ (64 ≤ jg_wr x2) from hc)
      refine jg_A (pc' := 11) rfl rfl (fun _ _ _ => rfl) ?_
      refine jg_A (pc' := 12) rfl rfl (fun _ _ _ => rfl) ?_
      refine jg_lushr (pc' := 13) rfl rfl ?_
      refine jg_lcst (pc' := 14) (x := 1) rfl rfl rfl ?_
      refine jg_land (pc' := 15) rfl rfl ?_
      refine jg_lcst (pc' := 16) (x := 0) rfl rfl rfl ?_
      refine jg_lcmp (pc' := 17) rfl rfl ?_
      refine jg_ifeq (pc' := 20) rfl rfl (fun hc => ?_) (fun hc => ?_)
      · have h := jg_t h (show jg_wr (jg_lc (jg_qand (jg_qushr l0 x2) 1) 0) = 0 from hc)
        refine jg_A (pc' := 25) rfl rfl (fun _ _ _ => rfl) ?_
        exact jg_zret rfl rfl (by decide) h
      · have h := jg_f h (show ¬ (jg_wr (jg_lc (jg_qand (jg_qushr l0 x2) 1) 0) = 0) from hc)
        refine jg_A (pc' := 21) rfl rfl (fun _ _ _ => rfl) ?_
        refine jg_goto rfl ?_
        exact jg_zret rfl rfl (by decide) h
set_option maxRecDepth 100000 in
set_option maxHeartbeats 4000000 in
theorem jb_J6_bitCount_0f7a4_0 {w : Nat} {x0 : Int} {σ : jg_M} {Q : Int → jg_M → Prop} (h : ∀ t101 : Int, t101 = (x0 - (jg_and (jg_ushr x0 1) ((1431655765 : Nat) : Int))) → ∀ t102 : Int, t102 = ((jg_and t101 ((858993459 : Nat) : Int)) + (jg_and (jg_ushr t101 2) ((858993459 : Nat) : Int))) → ∀ t103 : Int, t103 = (jg_and (t102 + (jg_ushr t102 4)) ((252645135 : Nat) : Int)) → ∀ t104 : Int, t104 = (t103 + (jg_ushr t103 8)) → ∀ t105 : Int, t105 = (t104 + (jg_ushr t104 16)) → Q (jg_and t105 63) σ) : jg_CI w 0 mm_J6_bitCount_0f7a4 [.int (.ofInt x0)] σ Q := by
  show jg_G w 0 mm_J6_bitCount_0f7a4 0 [.int (.ofInt x0)] [] σ (jg_QI Q)
  refine jg_A (pc' := 1) rfl rfl (fun _ _ _ => rfl) ?_
  refine jg_A (pc' := 2) rfl rfl (fun _ _ _ => rfl) ?_
  refine jg_A (pc' := 3) rfl rfl (fun _ _ _ => rfl) ?_
  refine jg_iushr (pc' := 4) rfl rfl ?_
  refine jg_A (pc' := 7) rfl rfl (fun _ _ _ => rfl) ?_
  refine jg_iand (pc' := 8) rfl rfl ?_
  refine jg_isub (pc' := 9) rfl rfl ?_
  refine jg_nm (F := fun t101 => jg_G w 0 mm_J6_bitCount_0f7a4 9 [.int (.ofInt x0)] [.int (.ofInt t101)] σ (jg_QI Q)) (x0 - (jg_and (jg_ushr x0 1) ((1431655765 : Nat) : Int))) (fun t101 ht101 => ?_)
  have h := h t101 ht101
  refine jg_A (pc' := 10) (ls' := [.int (.ofInt t101)]) rfl rfl (fun _ _ _ => rfl) ?_
  refine jg_A (pc' := 11) rfl rfl (fun _ _ _ => rfl) ?_
  refine jg_A (pc' := 14) rfl rfl (fun _ _ _ => rfl) ?_
  refine jg_iand (pc' := 15) rfl rfl ?_
  refine jg_A (pc' := 16) rfl rfl (fun _ _ _ => rfl) ?_
  refine jg_A (pc' := 17) rfl rfl (fun _ _ _ => rfl) ?_
  refine jg_iushr (pc' := 18) rfl rfl ?_
  refine jg_A (pc' := 21) rfl rfl (fun _ _ _ => rfl) ?_
  refine jg_iand (pc' := 22) rfl rfl ?_
  refine jg_iadd (pc' := 23) rfl rfl ?_
  refine jg_nm (F := fun t102 => jg_G w 0 mm_J6_bitCount_0f7a4 23 [.int (.ofInt t101)] [.int (.ofInt t102)] σ (jg_QI Q)) ((jg_and t101 ((858993459 : Nat) : Int)) + (jg_and (jg_ushr t101 2) ((858993459 : Nat) : Int))) (fun t102 ht102 => ?_)
  have h := h t102 ht102
  refine jg_A (pc' := 24) (ls' := [.int (.ofInt t102)]) rfl rfl (fun _ _ _ => rfl) ?_
  refine jg_A (pc' := 25) rfl rfl (fun _ _ _ => rfl) ?_
  refine jg_A (pc' := 26) rfl rfl (fun _ _ _ => rfl) ?_
  refine jg_A (pc' := 27) rfl rfl (fun _ _ _ => rfl) ?_
  refine jg_iushr (pc' := 28) rfl rfl ?_
  refine jg_iadd (pc' := 29) rfl rfl ?_
  refine jg_A (pc' := 32) rfl rfl (fun _ _ _ => rfl) ?_
  refine jg_iand (pc' := 33) rfl rfl ?_
  refine jg_nm (F := fun t103 => jg_G w 0 mm_J6_bitCount_0f7a4 33 [.int (.ofInt t102)] [.int (.ofInt t103)] σ (jg_QI Q)) (jg_and (t102 + (jg_ushr t102 4)) ((252645135 : Nat) : Int)) (fun t103 ht103 => ?_)
  have h := h t103 ht103
  refine jg_A (pc' := 34) (ls' := [.int (.ofInt t103)]) rfl rfl (fun _ _ _ => rfl) ?_
  refine jg_A (pc' := 35) rfl rfl (fun _ _ _ => rfl) ?_
  refine jg_A (pc' := 36) rfl rfl (fun _ _ _ => rfl) ?_
  refine jg_A (pc' := 38) rfl rfl (fun _ _ _ => rfl) ?_
  refine jg_iushr (pc' := 39) rfl rfl ?_
  refine jg_iadd (pc' := 40) rfl rfl ?_
  refine jg_nm (F := fun t104 => jg_G w 0 mm_J6_bitCount_0f7a4 40 [.int (.ofInt t103)] [.int (.ofInt t104)] σ (jg_QI Q)) (t103 + (jg_ushr t103 8)) (fun t104 ht104 => ?_)
  have h := h t104 ht104
  refine jg_A (pc' := 41) (ls' := [.int (.ofInt t104)]) rfl rfl (fun _ _ _ => rfl) ?_
  refine jg_A (pc' := 42) rfl rfl (fun _ _ _ => rfl) ?_
  refine jg_A (pc' := 43) rfl rfl (fun _ _ _ => rfl) ?_
  refine jg_A (pc' := 45) rfl rfl (fun _ _ _ => rfl) ?_
  refine jg_iushr (pc' := 46) rfl rfl ?_
  refine jg_iadd (pc' := 47) rfl rfl ?_
  refine jg_nm (F := fun t105 => jg_G w 0 mm_J6_bitCount_0f7a4 47 [.int (.ofInt t104)] [.int (.ofInt t105)] σ (jg_QI Q)) (t104 + (jg_ushr t104 16)) (fun t105 ht105 => ?_)
  have h := h t105 ht105
  refine jg_A (pc' := 48) (ls' := [.int (.ofInt t105)]) rfl rfl (fun _ _ _ => rfl) ?_
  refine jg_A (pc' := 49) rfl rfl (fun _ _ _ => rfl) ?_
  refine jg_A (pc' := 51) rfl rfl (fun _ _ _ => rfl) ?_
  refine jg_iand (pc' := 52) rfl rfl ?_
  exact jg_iret rfl rfl h
set_option maxRecDepth 100000 in
set_option maxHeartbeats 4000000 in
theorem jb_J13_bitCount_95d88_0 {w : Nat} {l0 : Int} {σ : jg_M} {Q : Int → jg_M → Prop} (h : ∀ t101 : Int, t101 = (l0 - (jg_qand (jg_qushr l0 1) ((6148914691236517205 : Nat) : Int))) → ∀ t102 : Int, t102 = ((jg_qand t101 ((3689348814741910323 : Nat) : Int)) + (jg_qand (jg_qushr t101 2) ((3689348814741910323 : Nat) : Int))) → ∀ t103 : Int, t103 = (jg_qand (t102 + (jg_qushr t102 4)) ((1085102592571150095 : Nat) : Int)) → ∀ t104 : Int, t104 = (t103 + (jg_qushr t103 8)) → ∀ t105 : Int, t105 = (t104 + (jg_qushr t104 16)) → ∀ t106 : Int, t106 = (t105 + (jg_qushr t105 32)) → Q (jg_and t106 127) σ) : jg_CI w 0 mm_J13_bitCount_95d88 [.long (.ofInt l0)] σ Q := by
  show jg_G w 0 mm_J13_bitCount_95d88 0 [.long (.ofInt l0), mj_U] [] σ (jg_QI Q)
  refine jg_A (pc' := 1) rfl rfl (fun _ _ _ => rfl) ?_
  refine jg_A (pc' := 2) rfl rfl (fun _ _ _ => rfl) ?_
  refine jg_A (pc' := 3) rfl rfl (fun _ _ _ => rfl) ?_
  refine jg_lushr (pc' := 4) rfl rfl ?_
  refine jg_A (pc' := 7) rfl rfl (fun _ _ _ => rfl) ?_
  refine jg_land (pc' := 8) rfl rfl ?_
  refine jg_lsub (pc' := 9) rfl rfl ?_
  refine jg_nm (F := fun t101 => jg_G w 0 mm_J13_bitCount_95d88 9 [.long (.ofInt l0), mj_U] [.long (.ofInt t101)] σ (jg_QI Q)) (l0 - (jg_qand (jg_qushr l0 1) ((6148914691236517205 : Nat) : Int))) (fun t101 ht101 => ?_)
  have h := h t101 ht101
  refine jg_A (pc' := 10) (ls' := [.long (.ofInt t101), mj_U]) rfl rfl (fun _ _ _ => rfl) ?_
  refine jg_A (pc' := 11) rfl rfl (fun _ _ _ => rfl) ?_
  refine jg_A (pc' := 14) rfl rfl (fun _ _ _ => rfl) ?_
  refine jg_land (pc' := 15) rfl rfl ?_
  refine jg_A (pc' := 16) rfl rfl (fun _ _ _ => rfl) ?_
  refine jg_A (pc' := 17) rfl rfl (fun _ _ _ => rfl) ?_
  refine jg_lushr (pc' := 18) rfl rfl ?_
  refine jg_A (pc' := 21) rfl rfl (fun _ _ _ => rfl) ?_
  refine jg_land (pc' := 22) rfl rfl ?_
  refine jg_ladd (pc' := 23) rfl rfl ?_
  refine jg_nm (F := fun t102 => jg_G w 0 mm_J13_bitCount_95d88 23 [.long (.ofInt t101), mj_U] [.long (.ofInt t102)] σ (jg_QI Q)) ((jg_qand t101 ((3689348814741910323 : Nat) : Int)) + (jg_qand (jg_qushr t101 2) ((3689348814741910323 : Nat) : Int))) (fun t102 ht102 => ?_)
  have h := h t102 ht102
  refine jg_A (pc' := 24) (ls' := [.long (.ofInt t102), mj_U]) rfl rfl (fun _ _ _ => rfl) ?_
  refine jg_A (pc' := 25) rfl rfl (fun _ _ _ => rfl) ?_
  refine jg_A (pc' := 26) rfl rfl (fun _ _ _ => rfl) ?_
  refine jg_A (pc' := 27) rfl rfl (fun _ _ _ => rfl) ?_
  refine jg_lushr (pc' := 28) rfl rfl ?_
  refine jg_ladd (pc' := 29) rfl rfl ?_
  refine jg_A (pc' := 32) rfl rfl (fun _ _ _ => rfl) ?_
  refine jg_land (pc' := 33) rfl rfl ?_
  refine jg_nm (F := fun t103 => jg_G w 0 mm_J13_bitCount_95d88 33 [.long (.ofInt t102), mj_U] [.long (.ofInt t103)] σ (jg_QI Q)) (jg_qand (t102 + (jg_qushr t102 4)) ((1085102592571150095 : Nat) : Int)) (fun t103 ht103 => ?_)
  have h := h t103 ht103
  refine jg_A (pc' := 34) (ls' := [.long (.ofInt t103), mj_U]) rfl rfl (fun _ _ _ => rfl) ?_
  refine jg_A (pc' := 35) rfl rfl (fun _ _ _ => rfl) ?_
  refine jg_A (pc' := 36) rfl rfl (fun _ _ _ => rfl) ?_
  refine jg_A (pc' := 38) rfl rfl (fun _ _ _ => rfl) ?_
  refine jg_lushr (pc' := 39) rfl rfl ?_
  refine jg_ladd (pc' := 40) rfl rfl ?_
  refine jg_nm (F := fun t104 => jg_G w 0 mm_J13_bitCount_95d88 40 [.long (.ofInt t103), mj_U] [.long (.ofInt t104)] σ (jg_QI Q)) (t103 + (jg_qushr t103 8)) (fun t104 ht104 => ?_)
  have h := h t104 ht104
  refine jg_A (pc' := 41) (ls' := [.long (.ofInt t104), mj_U]) rfl rfl (fun _ _ _ => rfl) ?_
  refine jg_A (pc' := 42) rfl rfl (fun _ _ _ => rfl) ?_
  refine jg_A (pc' := 43) rfl rfl (fun _ _ _ => rfl) ?_
  refine jg_A (pc' := 45) rfl rfl (fun _ _ _ => rfl) ?_
  refine jg_lushr (pc' := 46) rfl rfl ?_
  refine jg_ladd (pc' := 47) rfl rfl ?_
  refine jg_nm (F := fun t105 => jg_G w 0 mm_J13_bitCount_95d88 47 [.long (.ofInt t104), mj_U] [.long (.ofInt t105)] σ (jg_QI Q)) (t104 + (jg_qushr t104 16)) (fun t105 ht105 => ?_)
  have h := h t105 ht105
  refine jg_A (pc' := 48) (ls' := [.long (.ofInt t105), mj_U]) rfl rfl (fun _ _ _ => rfl) ?_
  refine jg_A (pc' := 49) rfl rfl (fun _ _ _ => rfl) ?_
  refine jg_A (pc' := 50) rfl rfl (fun _ _ _ => rfl) ?_
  refine jg_A (pc' := 52) rfl rfl (fun _ _ _ => rfl) ?_
  refine jg_lushr (pc' := 53) rfl rfl ?_
  refine jg_ladd (pc' := 54) rfl rfl ?_
  refine jg_nm (F := fun t106 => jg_G w 0 mm_J13_bitCount_95d88 54 [.long (.ofInt t105), mj_U] [.long (.ofInt t106)] σ (jg_QI Q)) (t105 + (jg_qushr t105 32)) (fun t106 ht106 => ?_)
  have h := h t106 ht106
  refine jg_A (pc' := 55) (ls' := [.long (.ofInt t106), mj_U]) rfl rfl (fun _ _ _ => rfl) ?_
  refine jg_A (pc' := 56) rfl rfl (fun _ _ _ => rfl) ?_
  refine jg_l2i (pc' := 57) rfl rfl ?_
  refine jg_A (pc' := 59) rfl rfl (fun _ _ _ => rfl) ?_
  refine jg_iand (pc' := 60) rfl rfl ?_
  exact jg_iret rfl rfl h
set_option maxRecDepth 100000 in
set_option maxHeartbeats 4000000 in
theorem jb_J7_fill_d0a16_0 {w : Nat} {a0 : Nat} {n0 : Nat} {l1 : Int} {σ : jg_M} {Q : jg_M → Prop} (h0 : jg_sh a0 = (21, n0)) (h : ∀ t101 : Int, t101 = (n0 : Int) → jg_GV w 0 mm_J7_fill_d0a16 6 [.ref a0, .long (.ofInt l1), mj_U, .int (.ofInt 0), .int (.ofInt t101)] σ Q) : jg_CV w 0 mm_J7_fill_d0a16 [.ref a0, .long (.ofInt l1)] σ Q := by
  show jg_G w 0 mm_J7_fill_d0a16 0 [.ref a0, .long (.ofInt l1), mj_U, mj_U, mj_U] [] σ (jg_QV Q)
  refine jg_A (pc' := 1) rfl rfl (fun _ _ _ => rfl) ?_
  refine jg_A (pc' := 2) (ls' := [.ref a0, .long (.ofInt l1), mj_U, .int (.ofInt 0), mj_U]) rfl rfl (fun _ _ _ => rfl) ?_
  refine jg_A (pc' := 3) rfl rfl (fun _ _ _ => rfl) ?_
  refine jg_alen (pc' := 4) (ni := (n0 : Int)) rfl h0 (by decide) rfl rfl ?_
  refine jg_nm (F := fun t101 => jg_G w 0 mm_J7_fill_d0a16 4 [.ref a0, .long (.ofInt l1), mj_U, .int (.ofInt 0), mj_U] [.int (.ofInt t101)] σ (jg_QV Q)) (n0 : Int) (fun t101 ht101 => ?_)
  have h := h t101 ht101
  refine jg_A (pc' := 6) (ls' := [.ref a0, .long (.ofInt l1), mj_U, .int (.ofInt 0), .int (.ofInt t101)]) rfl rfl (fun _ _ _ => rfl) ?_
  exact h
set_option maxRecDepth 100000 in
set_option maxHeartbeats 4000000 in
theorem jb_J7_fill_d0a16_6 {w : Nat} {n0 : Nat} {a0 : Nat} {l1 : Int} {u2 : Value} {x3 : Int} {x4 : Int} {σ : jg_M} {Q : jg_M → Prop} (h0 : jg_sh a0 = (21, n0)) (h : (if jg_wr x4 ≤ jg_wr x3 then Q σ else ((0 : Int) ≤ (jg_wr x3) ∧ (jg_wr x3) < (n0 : Int)) ∧ ∀ m101 : jg_M, m101 = jg_sL σ a0 (jg_wr x3) l1 → jg_GV w 0 mm_J7_fill_d0a16 6 [.ref a0, .long (.ofInt l1), u2, .int (.ofInt (x3 + 1)), .int (.ofInt x4)] m101 Q)) : jg_GV w 0 mm_J7_fill_d0a16 6 [.ref a0, .long (.ofInt l1), u2, .int (.ofInt x3), .int (.ofInt x4)] σ Q := by
  show jg_G w 0 mm_J7_fill_d0a16 6 [.ref a0, .long (.ofInt l1), u2, .int (.ofInt x3), .int (.ofInt x4)] [] σ (jg_QV Q)
  refine jg_A (pc' := 7) rfl rfl (fun _ _ _ => rfl) ?_
  refine jg_A (pc' := 9) rfl rfl (fun _ _ _ => rfl) ?_
  refine jg_cge (pc' := 12) rfl rfl (fun hc => ?_) (fun hc => ?_)
  · have h := jg_t h (show jg_wr x4 ≤ jg_wr x3 from hc)
    exact jg_vret rfl rfl h
  · have h := jg_f h (show ¬ (jg_wr x4 ≤ jg_wr x3) from hc)
    refine jg_A (pc' := 13) rfl rfl (fun _ _ _ => rfl) ?_
    refine jg_A (pc' := 14) rfl rfl (fun _ _ _ => rfl) ?_
    refine jg_A (pc' := 15) rfl rfl (fun _ _ _ => rfl) ?_
    obtain ⟨hg, h⟩ := h
    refine jg_last (pc' := 16) rfl h0 hg rfl (fun m101 hm101 => ?_)
    have h := h m101 hm101
    refine jg_iinc (pc' := 19) (ls' := [.ref a0, .long (.ofInt l1), u2, .int (.ofInt (x3 + 1)), .int (.ofInt x4)]) rfl rfl rfl rfl ?_
    refine jg_goto rfl ?_
    exact h
set_option maxRecDepth 100000 in
set_option maxHeartbeats 4000000 in
theorem jb_J7_fill_53178_0 {w : Nat} {a0 : Nat} {n0 : Nat} {x1 : Int} {σ : jg_M} {Q : jg_M → Prop} (h0 : jg_sh a0 = (20, n0)) (h : ∀ t101 : Int, t101 = (n0 : Int) → jg_GV w 0 mm_J7_fill_53178 5 [.ref a0, .int (.ofInt x1), .int (.ofInt 0), .int (.ofInt t101)] σ Q) : jg_CV w 0 mm_J7_fill_53178 [.ref a0, .int (.ofInt x1)] σ Q := by
  show jg_G w 0 mm_J7_fill_53178 0 [.ref a0, .int (.ofInt x1), mj_U, mj_U] [] σ (jg_QV Q)
  refine jg_A (pc' := 1) rfl rfl (fun _ _ _ => rfl) ?_
  refine jg_A (pc' := 2) (ls' := [.ref a0, .int (.ofInt x1), .int (.ofInt 0), mj_U]) rfl rfl (fun _ _ _ => rfl) ?_
  refine jg_A (pc' := 3) rfl rfl (fun _ _ _ => rfl) ?_
  refine jg_alen (pc' := 4) (ni := (n0 : Int)) rfl h0 (by decide) rfl rfl ?_
  refine jg_nm (F := fun t101 => jg_G w 0 mm_J7_fill_53178 4 [.ref a0, .int (.ofInt x1), .int (.ofInt 0), mj_U] [.int (.ofInt t101)] σ (jg_QV Q)) (n0 : Int) (fun t101 ht101 => ?_)
  have h := h t101 ht101
  refine jg_A (pc' := 5) (ls' := [.ref a0, .int (.ofInt x1), .int (.ofInt 0), .int (.ofInt t101)]) rfl rfl (fun _ _ _ => rfl) ?_
  exact h
set_option maxRecDepth 100000 in
set_option maxHeartbeats 4000000 in
theorem jb_J7_fill_53178_5 {w : Nat} {n0 : Nat} {a0 : Nat} {x1 : Int} {x2 : Int} {x3 : Int} {σ : jg_M} {Q : jg_M → Prop} (h0 : jg_sh a0 = (20, n0)) (h : (if jg_wr x3 ≤ jg_wr x2 then Q σ else ((0 : Int) ≤ (jg_wr x2) ∧ (jg_wr x2) < (n0 : Int)) ∧ ∀ m101 : jg_M, m101 = jg_sI σ a0 (jg_wr x2) x1 → jg_GV w 0 mm_J7_fill_53178 5 [.ref a0, .int (.ofInt x1), .int (.ofInt (x2 + 1)), .int (.ofInt x3)] m101 Q)) : jg_GV w 0 mm_J7_fill_53178 5 [.ref a0, .int (.ofInt x1), .int (.ofInt x2), .int (.ofInt x3)] σ Q := by
  show jg_G w 0 mm_J7_fill_53178 5 [.ref a0, .int (.ofInt x1), .int (.ofInt x2), .int (.ofInt x3)] [] σ (jg_QV Q)
  refine jg_A (pc' := 6) rfl rfl (fun _ _ _ => rfl) ?_
  refine jg_A (pc' := 7) rfl rfl (fun _ _ _ => rfl) ?_
  refine jg_cge (pc' := 10) rfl rfl (fun hc => ?_) (fun hc => ?_)
  · have h := jg_t h (show jg_wr x3 ≤ jg_wr x2 from hc)
    exact jg_vret rfl rfl h
  · have h := jg_f h (show ¬ (jg_wr x3 ≤ jg_wr x2) from hc)
    refine jg_A (pc' := 11) rfl rfl (fun _ _ _ => rfl) ?_
    refine jg_A (pc' := 12) rfl rfl (fun _ _ _ => rfl) ?_
    refine jg_A (pc' := 13) rfl rfl (fun _ _ _ => rfl) ?_
    obtain ⟨hg, h⟩ := h
    refine jg_iast (pc' := 14) rfl h0 hg rfl (fun m101 hm101 => ?_)
    have h := h m101 hm101
    refine jg_iinc (pc' := 17) (ls' := [.ref a0, .int (.ofInt x1), .int (.ofInt (x2 + 1)), .int (.ofInt x3)]) rfl rfl rfl rfl ?_
    refine jg_goto rfl ?_
    exact h
