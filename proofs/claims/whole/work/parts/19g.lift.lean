/-! LIFTED METHODS, 6: from a method's entry, and from each loop's head, what must hold for its run to end with Q (printed by wip/whole/gen/gen18.py) -/
set_option maxRecDepth 100000 in
set_option maxHeartbeats 4000000 in
theorem jb_X12_layAfter_99 {w : Nat} {a0 : Nat} {x1 : Int} {x2 : Int} {x3 : Int} {σ : jg_M} {Q : jg_M → Prop} (h0 : jg_sh a0 = (12, 0)) (h : (if jg_wr (σ.1 (a0 + 3) (0)) ≤ jg_wr x3 then (if jg_wr x1 = 0 then ((0 : Int) ≤ jg_wr x1 ∧ jg_wr x1 < (240 : Int)) ∧ ((0 : Int) ≤ (jg_wr x1) ∧ (jg_wr x1) < (240 : Int)) ∧ ∀ m101 : jg_M, m101 = jg_sI σ (a0 + 26) (jg_wr x1) (jg_or (σ.1 (a0 + 26) (jg_wr x1)) (jg_shl 1 (σ.1 (a0 + 3) (0)))) → jg_GV w 4 mm_X12_layAfter 168 [.ref a0, .int (.ofInt x1), .int (.ofInt x2), .int (.ofInt 0)] m101 Q else jg_GV w 4 mm_X12_layAfter 168 [.ref a0, .int (.ofInt x1), .int (.ofInt x2), .int (.ofInt 0)] σ Q) else ((0 : Int) ≤ jg_wr x1 ∧ jg_wr x1 < (240 : Int)) ∧ ((0 : Int) ≤ jg_wr ((12 * x2) + x3) ∧ jg_wr ((12 * x2) + x3) < (1152 : Int)) ∧ (if jg_wr (σ.1 (a0 + 16) (jg_wr ((12 * x2) + x3))) < 0 then ((0 : Int) ≤ (jg_wr x1) ∧ (jg_wr x1) < (240 : Int)) ∧ ∀ m102 : jg_M, m102 = jg_sI σ (a0 + 26) (jg_wr x1) (jg_or (σ.1 (a0 + 26) (jg_wr x1)) 0) → jg_GV w 4 mm_X12_layAfter 99 [.ref a0, .int (.ofInt x1), .int (.ofInt x2), .int (.ofInt (x3 + 1))] m102 Q else ((0 : Int) ≤ (jg_wr x1) ∧ (jg_wr x1) < (240 : Int)) ∧ ∀ m103 : jg_M, m103 = jg_sI σ (a0 + 26) (jg_wr x1) (jg_or (σ.1 (a0 + 26) (jg_wr x1)) (jg_shl 1 x3)) → jg_GV w 4 mm_X12_layAfter 99 [.ref a0, .int (.ofInt x1), .int (.ofInt x2), .int (.ofInt (x3 + 1))] m103 Q))) : jg_GV w 4 mm_X12_layAfter 99 [.ref a0, .int (.ofInt x1), .int (.ofInt x2), .int (.ofInt x3)] σ Q := by
  show jg_G w 4 mm_X12_layAfter 99 [.ref a0, .int (.ofInt x1), .int (.ofInt x2), .int (.ofInt x3)] [] σ (jg_QV Q)
  refine jg_A (pc' := 100) rfl rfl (fun _ _ _ => rfl) ?_
  refine jg_A (pc' := 101) rfl rfl (fun _ _ _ => rfl) ?_
  refine jg_getO (pc' := 104) (k := 3) rfl h0 (by decide) rfl rfl ?_
  refine jg_A (pc' := 105) rfl rfl (fun _ _ _ => rfl) ?_
  refine jg_ialdK (pc' := 106) (xi := 0) rfl (jg_sX12_12 h0) (by decide) (by decide) rfl ?_
  refine jg_cge (pc' := 109) rfl rfl (fun hc => ?_) (fun hc => ?_)
  · have h := jg_t h (show jg_wr (σ.1 (a0 + 3) (0)) ≤ jg_wr x3 from hc)
    refine jg_A (pc' := 146) rfl rfl (fun _ _ _ => rfl) ?_
    refine jg_ifne (pc' := 149) rfl rfl (fun hc => ?_) (fun hc => ?_)
    · have h := jg_t h (show jg_wr x1 = 0 from hc)
      refine jg_A (pc' := 150) rfl rfl (fun _ _ _ => rfl) ?_
      refine jg_getO (pc' := 153) (k := 26) rfl h0 (by decide) rfl rfl ?_
      refine jg_A (pc' := 154) rfl rfl (fun _ _ _ => rfl) ?_
      refine jg_A (pc' := 155) rfl rfl (fun _ _ _ => rfl) ?_
      obtain ⟨hg, h⟩ := h
      refine jg_iald (pc' := 156) rfl (jg_sX12_40 h0) hg rfl ?_
      refine jg_A (pc' := 157) rfl rfl (fun _ _ _ => rfl) ?_
      refine jg_A (pc' := 158) rfl rfl (fun _ _ _ => rfl) ?_
      refine jg_getO (pc' := 161) (k := 3) rfl h0 (by decide) rfl rfl ?_
      refine jg_A (pc' := 162) rfl rfl (fun _ _ _ => rfl) ?_
      refine jg_ialdK (pc' := 163) (xi := 0) rfl (jg_sX12_12 h0) (by decide) (by decide) rfl ?_
      refine jg_ishl (pc' := 164) rfl rfl ?_
      refine jg_ior (pc' := 165) rfl rfl ?_
      obtain ⟨hg, h⟩ := h
      refine jg_iast (pc' := 166) rfl (jg_sX12_40 h0) hg rfl (fun m101 hm101 => ?_)
      have h := h m101 hm101
      refine jg_A (pc' := 167) rfl rfl (fun _ _ _ => rfl) ?_
      refine jg_A (pc' := 168) (ls' := [.ref a0, .int (.ofInt x1), .int (.ofInt x2), .int (.ofInt 0)]) rfl rfl (fun _ _ _ => rfl) ?_
      exact h
    · have h := jg_f h (show ¬ (jg_wr x1 = 0) from hc)
      refine jg_A (pc' := 167) rfl rfl (fun _ _ _ => rfl) ?_
      refine jg_A (pc' := 168) (ls' := [.ref a0, .int (.ofInt x1), .int (.ofInt x2), .int (.ofInt 0)]) rfl rfl (fun _ _ _ => rfl) ?_
      exact h
  · have h := jg_f h (show ¬ (jg_wr (σ.1 (a0 + 3) (0)) ≤ jg_wr x3) from hc)
    refine jg_A (pc' := 110) rfl rfl (fun _ _ _ => rfl) ?_
    refine jg_getO (pc' := 113) (k := 26) rfl h0 (by decide) rfl rfl ?_
    refine jg_A (pc' := 114) rfl rfl (fun _ _ _ => rfl) ?_
    refine jg_A (pc' := 115) rfl rfl (fun _ _ _ => rfl) ?_
    obtain ⟨hg, h⟩ := h
    refine jg_iald (pc' := 116) rfl (jg_sX12_40 h0) hg rfl ?_
    refine jg_A (pc' := 117) rfl rfl (fun _ _ _ => rfl) ?_
    refine jg_getO (pc' := 120) (k := 16) rfl h0 (by decide) rfl rfl ?_
    refine jg_A (pc' := 122) rfl rfl (fun _ _ _ => rfl) ?_
    refine jg_A (pc' := 123) rfl rfl (fun _ _ _ => rfl) ?_
    refine jg_imul (pc' := 124) rfl rfl ?_
    refine jg_A (pc' := 125) rfl rfl (fun _ _ _ => rfl) ?_
    refine jg_iadd (pc' := 126) rfl rfl ?_
    obtain ⟨hg, h⟩ := h
    refine jg_iald (pc' := 127) rfl (jg_sX12_25 h0) hg rfl ?_
    refine jg_iflt (pc' := 130) rfl rfl (fun hc => ?_) (fun hc => ?_)
    · have h := jg_t h (show jg_wr (σ.1 (a0 + 16) (jg_wr ((12 * x2) + x3))) < 0 from hc)
      refine jg_A (pc' := 137) rfl rfl (fun _ _ _ => rfl) ?_
      refine jg_ior (pc' := 138) rfl rfl ?_
      obtain ⟨hg, h⟩ := h
      refine jg_iast (pc' := 139) rfl (jg_sX12_40 h0) hg rfl (fun m102 hm102 => ?_)
      have h := h m102 hm102
      refine jg_iinc (pc' := 142) (ls' := [.ref a0, .int (.ofInt x1), .int (.ofInt x2), .int (.ofInt (x3 + 1))]) rfl rfl rfl rfl ?_
      refine jg_goto rfl ?_
      exact h
    · have h := jg_f h (show ¬ (jg_wr (σ.1 (a0 + 16) (jg_wr ((12 * x2) + x3))) < 0) from hc)
      refine jg_A (pc' := 131) rfl rfl (fun _ _ _ => rfl) ?_
      refine jg_A (pc' := 132) rfl rfl (fun _ _ _ => rfl) ?_
      refine jg_ishl (pc' := 133) rfl rfl ?_
      refine jg_goto rfl ?_
      refine jg_ior (pc' := 138) rfl rfl ?_
      obtain ⟨hg, h⟩ := h
      refine jg_iast (pc' := 139) rfl (jg_sX12_40 h0) hg rfl (fun m103 hm103 => ?_)
      have h := h m103 hm103
      refine jg_iinc (pc' := 142) (ls' := [.ref a0, .int (.ofInt x1), .int (.ofInt x2), .int (.ofInt (x3 + 1))]) rfl rfl rfl rfl ?_
      refine jg_goto rfl ?_
      exact h
set_option maxRecDepth 100000 in
set_option maxHeartbeats 4000000 in
theorem jb_X12_layAfter_279 {w : Nat} {a0 : Nat} {x1 : Int} {x2 : Int} {u3 : Value} {σ : jg_M} {Q : jg_M → Prop} (h0 : jg_sh a0 = (12, 0)) (h : (if jg_wr (5 * (σ.1 (a0 + 13) (0))) ≤ jg_wr x2 then jg_GV w 4 mm_X12_layAfter 271 [.ref a0, .int (.ofInt x1), .int (.ofInt x2), u3] σ Q else jg_CI w 1 mm_X12_isMove [.ref a0, .int (.ofInt x2)] σ (fun (z102 : Int) (m101 : jg_M) => (if jg_wr z102 = 0 then ∀ t103 : Int, t103 = (jg_or x1 0) → jg_GV w 4 mm_X12_layAfter 279 [.ref a0, .int (.ofInt t103), .int (.ofInt (x2 + 1)), u3] m101 Q else jg_CI w 2 mm_X12_moreAfter [.ref a0, .int (.ofInt x2)] m101 (fun (z105 : Int) (m104 : jg_M) => (if jg_wr z105 = 0 then ∀ t106 : Int, t106 = (jg_or x1 0) → jg_GV w 4 mm_X12_layAfter 279 [.ref a0, .int (.ofInt t106), .int (.ofInt (x2 + 1)), u3] m104 Q else ∀ t107 : Int, t107 = (jg_or x1 1) → jg_GV w 4 mm_X12_layAfter 279 [.ref a0, .int (.ofInt t107), .int (.ofInt (x2 + 1)), u3] m104 Q)))))) : jg_GV w 4 mm_X12_layAfter 279 [.ref a0, .int (.ofInt x1), .int (.ofInt x2), u3] σ Q := by
  show jg_G w 4 mm_X12_layAfter 279 [.ref a0, .int (.ofInt x1), .int (.ofInt x2), u3] [] σ (jg_QV Q)
  refine jg_A (pc' := 280) rfl rfl (fun _ _ _ => rfl) ?_
  refine jg_A (pc' := 281) rfl rfl (fun _ _ _ => rfl) ?_
  refine jg_A (pc' := 282) rfl rfl (fun _ _ _ => rfl) ?_
  refine jg_getO (pc' := 285) (k := 13) rfl h0 (by decide) rfl rfl ?_
  refine jg_A (pc' := 286) rfl rfl (fun _ _ _ => rfl) ?_
  refine jg_ialdK (pc' := 287) (xi := 0) rfl (jg_sX12_22 h0) (by decide) (by decide) rfl ?_
  refine jg_imul (pc' := 288) rfl rfl ?_
  refine jg_cge (pc' := 291) rfl rfl (fun hc => ?_) (fun hc => ?_)
  · have h := jg_t h (show jg_wr (5 * (σ.1 (a0 + 13) (0))) ≤ jg_wr x2 from hc)
    refine jg_goto rfl ?_
    exact h
  · have h := jg_f h (show ¬ (jg_wr (5 * (σ.1 (a0 + 13) (0))) ≤ jg_wr x2) from hc)
    refine jg_A (pc' := 292) rfl rfl (fun _ _ _ => rfl) ?_
    refine jg_A (pc' := 293) rfl rfl (fun _ _ _ => rfl) ?_
    refine jg_A (pc' := 294) rfl rfl (fun _ _ _ => rfl) ?_
    refine jg_calX (M1 := mm_X12_isMove) (hy := 1) (pc' := 297) rfl jm_X12_isMove (by decide) rfl h0 (by decide) ⟨Nat.le_of_ble_eq_true rfl, rfl⟩ (Nat.le_of_ble_eq_true rfl) rfl h (jg_kI (fun z102 m101 h => ?_))
    refine jg_ifeq (pc' := 300) rfl rfl (fun hc => ?_) (fun hc => ?_)
    · have h := jg_t h (show jg_wr z102 = 0 from hc)
      refine jg_A (pc' := 313) rfl rfl (fun _ _ _ => rfl) ?_
      refine jg_ior (pc' := 314) rfl rfl ?_
      refine jg_nm (F := fun t103 => jg_G w 4 mm_X12_layAfter 314 [.ref a0, .int (.ofInt x1), .int (.ofInt x2), u3] [.int (.ofInt t103)] m101 (jg_QV Q)) (jg_or x1 0) (fun t103 ht103 => ?_)
      have h := h t103 ht103
      refine jg_A (pc' := 315) (ls' := [.ref a0, .int (.ofInt t103), .int (.ofInt x2), u3]) rfl rfl (fun _ _ _ => rfl) ?_
      refine jg_iinc (pc' := 318) (ls' := [.ref a0, .int (.ofInt t103), .int (.ofInt (x2 + 1)), u3]) rfl rfl rfl rfl ?_
      refine jg_goto rfl ?_
      exact h
    · have h := jg_f h (show ¬ (jg_wr z102 = 0) from hc)
      refine jg_A (pc' := 301) rfl rfl (fun _ _ _ => rfl) ?_
      refine jg_A (pc' := 302) rfl rfl (fun _ _ _ => rfl) ?_
      refine jg_calX (M1 := mm_X12_moreAfter) (hy := 2) (pc' := 305) rfl jm_X12_moreAfter (by decide) rfl h0 (by decide) ⟨Nat.le_of_ble_eq_true rfl, rfl⟩ (Nat.le_of_ble_eq_true rfl) rfl h (jg_kI (fun z105 m104 h => ?_))
      refine jg_ifeq (pc' := 308) rfl rfl (fun hc => ?_) (fun hc => ?_)
      · have h := jg_t h (show jg_wr z105 = 0 from hc)
        refine jg_A (pc' := 313) rfl rfl (fun _ _ _ => rfl) ?_
        refine jg_ior (pc' := 314) rfl rfl ?_
        refine jg_nm (F := fun t106 => jg_G w 4 mm_X12_layAfter 314 [.ref a0, .int (.ofInt x1), .int (.ofInt x2), u3] [.int (.ofInt t106)] m104 (jg_QV Q)) (jg_or x1 0) (fun t106 ht106 => ?_)
        have h := h t106 ht106
        refine jg_A (pc' := 315) (ls' := [.ref a0, .int (.ofInt t106), .int (.ofInt x2), u3]) rfl rfl (fun _ _ _ => rfl) ?_
        refine jg_iinc (pc' := 318) (ls' := [.ref a0, .int (.ofInt t106), .int (.ofInt (x2 + 1)), u3]) rfl rfl rfl rfl ?_
        refine jg_goto rfl ?_
        exact h
      · have h := jg_f h (show ¬ (jg_wr z105 = 0) from hc)
        refine jg_A (pc' := 309) rfl rfl (fun _ _ _ => rfl) ?_
        refine jg_goto rfl ?_
        refine jg_ior (pc' := 314) rfl rfl ?_
        refine jg_nm (F := fun t107 => jg_G w 4 mm_X12_layAfter 314 [.ref a0, .int (.ofInt x1), .int (.ofInt x2), u3] [.int (.ofInt t107)] m104 (jg_QV Q)) (jg_or x1 1) (fun t107 ht107 => ?_)
        have h := h t107 ht107
        refine jg_A (pc' := 315) (ls' := [.ref a0, .int (.ofInt t107), .int (.ofInt x2), u3]) rfl rfl (fun _ _ _ => rfl) ?_
        refine jg_iinc (pc' := 318) (ls' := [.ref a0, .int (.ofInt t107), .int (.ofInt (x2 + 1)), u3]) rfl rfl rfl rfl ?_
        refine jg_goto rfl ?_
        exact h
set_option maxRecDepth 100000 in
set_option maxHeartbeats 4000000 in
theorem jb_X12_layAfter_168 {w : Nat} {a0 : Nat} {x1 : Int} {x2 : Int} {x3 : Int} {σ : jg_M} {Q : jg_M → Prop} (h0 : jg_sh a0 = (12, 0)) (h : (if jg_wr (σ.1 (a0 + 4) (0)) ≤ jg_wr x3 then jg_GV w 4 mm_X12_layAfter 222 [.ref a0, .int (.ofInt x1), .int (.ofInt x2), .int (.ofInt 0)] σ Q else jg_CI w 0 mm_X12_isOf [.int (.ofInt (σ.1 (a0 + 20) (0))), .int (.ofInt x3)] σ (fun (z102 : Int) (m101 : jg_M) => (if jg_wr z102 = 0 then ∀ m103 : jg_M, m103 = jg_sI m101 (a0 + 28) 1 ((σ.1 (a0 + 28) (1)) + 0) → jg_GV w 4 mm_X12_layAfter 168 [.ref a0, .int (.ofInt x1), .int (.ofInt x2), .int (.ofInt (x3 + 1))] m103 Q else jg_CI w 0 mm_X12_kindMove [.ref a0, .int (.ofInt x2), .int (.ofInt x3)] m101 (fun (z105 : Int) (m104 : jg_M) => (if jg_wr z105 < 0 then ∀ m106 : jg_M, m106 = jg_sI m104 (a0 + 28) 1 ((σ.1 (a0 + 28) (1)) + 0) → jg_GV w 4 mm_X12_layAfter 168 [.ref a0, .int (.ofInt x1), .int (.ofInt x2), .int (.ofInt (x3 + 1))] m106 Q else ∀ m107 : jg_M, m107 = jg_sI m104 (a0 + 28) 1 ((σ.1 (a0 + 28) (1)) + 1) → jg_GV w 4 mm_X12_layAfter 168 [.ref a0, .int (.ofInt x1), .int (.ofInt x2), .int (.ofInt (x3 + 1))] m107 Q)))))) : jg_GV w 4 mm_X12_layAfter 168 [.ref a0, .int (.ofInt x1), .int (.ofInt x2), .int (.ofInt x3)] σ Q := by
  show jg_G w 4 mm_X12_layAfter 168 [.ref a0, .int (.ofInt x1), .int (.ofInt x2), .int (.ofInt x3)] [] σ (jg_QV Q)
  refine jg_A (pc' := 169) rfl rfl (fun _ _ _ => rfl) ?_
  refine jg_A (pc' := 170) rfl rfl (fun _ _ _ => rfl) ?_
  refine jg_getO (pc' := 173) (k := 4) rfl h0 (by decide) rfl rfl ?_
  refine jg_A (pc' := 174) rfl rfl (fun _ _ _ => rfl) ?_
  refine jg_ialdK (pc' := 175) (xi := 0) rfl (jg_sX12_13 h0) (by decide) (by decide) rfl ?_
  refine jg_cge (pc' := 178) rfl rfl (fun hc => ?_) (fun hc => ?_)
  · have h := jg_t h (show jg_wr (σ.1 (a0 + 4) (0)) ≤ jg_wr x3 from hc)
    refine jg_A (pc' := 221) rfl rfl (fun _ _ _ => rfl) ?_
    refine jg_A (pc' := 222) (ls' := [.ref a0, .int (.ofInt x1), .int (.ofInt x2), .int (.ofInt 0)]) rfl rfl (fun _ _ _ => rfl) ?_
    exact h
  · have h := jg_f h (show ¬ (jg_wr (σ.1 (a0 + 4) (0)) ≤ jg_wr x3) from hc)
    refine jg_A (pc' := 179) rfl rfl (fun _ _ _ => rfl) ?_
    refine jg_getO (pc' := 182) (k := 28) rfl h0 (by decide) rfl rfl ?_
    refine jg_A (pc' := 183) rfl rfl (fun _ _ _ => rfl) ?_
    refine jg_A (pc' := 184) rfl rfl (fun _ _ _ => rfl) ?_
    refine jg_ialdK (pc' := 185) (xi := 1) rfl (jg_sX12_42 h0) (by decide) (by decide) rfl ?_
    refine jg_A (pc' := 186) rfl rfl (fun _ _ _ => rfl) ?_
    refine jg_getO (pc' := 189) (k := 20) rfl h0 (by decide) rfl rfl ?_
    refine jg_A (pc' := 190) rfl rfl (fun _ _ _ => rfl) ?_
    refine jg_ialdK (pc' := 191) (xi := 0) rfl (jg_sX12_29 h0) (by decide) (by decide) rfl ?_
    refine jg_A (pc' := 192) rfl rfl (fun _ _ _ => rfl) ?_
    refine jg_calS (M1 := mm_X12_isOf) (hy := 0) (pc' := 195) rfl (Or.inl rfl) jm_X12_isOf (by decide) rfl ⟨Nat.le_of_ble_eq_true rfl, rfl⟩ (Nat.le_of_ble_eq_true rfl) rfl h (jg_kI (fun z102 m101 h => ?_))
    refine jg_ifeq (pc' := 198) rfl rfl (fun hc => ?_) (fun hc => ?_)
    · have h := jg_t h (show jg_wr z102 = 0 from hc)
      refine jg_A (pc' := 212) rfl rfl (fun _ _ _ => rfl) ?_
      refine jg_iadd (pc' := 213) rfl rfl ?_
      refine jg_iastK (pc' := 214) (xi := 1) rfl (jg_sX12_42 h0) (by decide) (by decide) rfl (fun m103 hm103 => ?_)
      have h := h m103 hm103
      refine jg_iinc (pc' := 217) (ls' := [.ref a0, .int (.ofInt x1), .int (.ofInt x2), .int (.ofInt (x3 + 1))]) rfl rfl rfl rfl ?_
      refine jg_goto rfl ?_
      exact h
    · have h := jg_f h (show ¬ (jg_wr z102 = 0) from hc)
      refine jg_A (pc' := 199) rfl rfl (fun _ _ _ => rfl) ?_
      refine jg_A (pc' := 200) rfl rfl (fun _ _ _ => rfl) ?_
      refine jg_A (pc' := 201) rfl rfl (fun _ _ _ => rfl) ?_
      refine jg_calX (M1 := mm_X12_kindMove) (hy := 0) (pc' := 204) rfl jm_X12_kindMove (by decide) rfl h0 (by decide) ⟨Nat.le_of_ble_eq_true rfl, rfl⟩ (Nat.le_of_ble_eq_true rfl) rfl h (jg_kI (fun z105 m104 h => ?_))
      refine jg_iflt (pc' := 207) rfl rfl (fun hc => ?_) (fun hc => ?_)
      · have h := jg_t h (show jg_wr z105 < 0 from hc)
        refine jg_A (pc' := 212) rfl rfl (fun _ _ _ => rfl) ?_
        refine jg_iadd (pc' := 213) rfl rfl ?_
        refine jg_iastK (pc' := 214) (xi := 1) rfl (jg_sX12_42 h0) (by decide) (by decide) rfl (fun m106 hm106 => ?_)
        have h := h m106 hm106
        refine jg_iinc (pc' := 217) (ls' := [.ref a0, .int (.ofInt x1), .int (.ofInt x2), .int (.ofInt (x3 + 1))]) rfl rfl rfl rfl ?_
        refine jg_goto rfl ?_
        exact h
      · have h := jg_f h (show ¬ (jg_wr z105 < 0) from hc)
        refine jg_A (pc' := 208) rfl rfl (fun _ _ _ => rfl) ?_
        refine jg_goto rfl ?_
        refine jg_iadd (pc' := 213) rfl rfl ?_
        refine jg_iastK (pc' := 214) (xi := 1) rfl (jg_sX12_42 h0) (by decide) (by decide) rfl (fun m107 hm107 => ?_)
        have h := h m107 hm107
        refine jg_iinc (pc' := 217) (ls' := [.ref a0, .int (.ofInt x1), .int (.ofInt x2), .int (.ofInt (x3 + 1))]) rfl rfl rfl rfl ?_
        refine jg_goto rfl ?_
        exact h
set_option maxRecDepth 100000 in
set_option maxHeartbeats 4000000 in
theorem jb_X12_layAfter_222 {w : Nat} {a0 : Nat} {x1 : Int} {u2 : Value} {x3 : Int} {σ : jg_M} {Q : jg_M → Prop} (h0 : jg_sh a0 = (12, 0)) (h : (if jg_wr (5 * (σ.1 (a0 + 13) (0))) ≤ jg_wr x3 then jg_GV w 4 mm_X12_layAfter 46 [.ref a0, .int (.ofInt (x1 + 1)), u2, .int (.ofInt x3)] σ Q else jg_CI w 1 mm_X12_isIncluded [.ref a0, .int (.ofInt x1), .int (.ofInt x3)] σ (fun (z102 : Int) (m101 : jg_M) => (if jg_wr z102 = 0 then ∀ m103 : jg_M, m103 = jg_sI m101 (a0 + 28) 2 ((σ.1 (a0 + 28) (2)) + 0) → jg_GV w 4 mm_X12_layAfter 222 [.ref a0, .int (.ofInt x1), u2, .int (.ofInt (x3 + 1))] m103 Q else ∀ m104 : jg_M, m104 = jg_sI m101 (a0 + 28) 2 ((σ.1 (a0 + 28) (2)) + 1) → jg_GV w 4 mm_X12_layAfter 222 [.ref a0, .int (.ofInt x1), u2, .int (.ofInt (x3 + 1))] m104 Q)))) : jg_GV w 4 mm_X12_layAfter 222 [.ref a0, .int (.ofInt x1), u2, .int (.ofInt x3)] σ Q := by
  show jg_G w 4 mm_X12_layAfter 222 [.ref a0, .int (.ofInt x1), u2, .int (.ofInt x3)] [] σ (jg_QV Q)
  refine jg_A (pc' := 223) rfl rfl (fun _ _ _ => rfl) ?_
  refine jg_A (pc' := 224) rfl rfl (fun _ _ _ => rfl) ?_
  refine jg_A (pc' := 225) rfl rfl (fun _ _ _ => rfl) ?_
  refine jg_getO (pc' := 228) (k := 13) rfl h0 (by decide) rfl rfl ?_
  refine jg_A (pc' := 229) rfl rfl (fun _ _ _ => rfl) ?_
  refine jg_ialdK (pc' := 230) (xi := 0) rfl (jg_sX12_22 h0) (by decide) (by decide) rfl ?_
  refine jg_imul (pc' := 231) rfl rfl ?_
  refine jg_cge (pc' := 234) rfl rfl (fun hc => ?_) (fun hc => ?_)
  · have h := jg_t h (show jg_wr (5 * (σ.1 (a0 + 13) (0))) ≤ jg_wr x3 from hc)
    refine jg_iinc (pc' := 266) (ls' := [.ref a0, .int (.ofInt (x1 + 1)), u2, .int (.ofInt x3)]) rfl rfl rfl rfl ?_
    refine jg_goto rfl ?_
    exact h
  · have h := jg_f h (show ¬ (jg_wr (5 * (σ.1 (a0 + 13) (0))) ≤ jg_wr x3) from hc)
    refine jg_A (pc' := 235) rfl rfl (fun _ _ _ => rfl) ?_
    refine jg_getO (pc' := 238) (k := 28) rfl h0 (by decide) rfl rfl ?_
    refine jg_A (pc' := 239) rfl rfl (fun _ _ _ => rfl) ?_
    refine jg_A (pc' := 240) rfl rfl (fun _ _ _ => rfl) ?_
    refine jg_ialdK (pc' := 241) (xi := 2) rfl (jg_sX12_42 h0) (by decide) (by decide) rfl ?_
    refine jg_A (pc' := 242) rfl rfl (fun _ _ _ => rfl) ?_
    refine jg_A (pc' := 243) rfl rfl (fun _ _ _ => rfl) ?_
    refine jg_A (pc' := 244) rfl rfl (fun _ _ _ => rfl) ?_
    refine jg_calX (M1 := mm_X12_isIncluded) (hy := 1) (pc' := 247) rfl jm_X12_isIncluded (by decide) rfl h0 (by decide) ⟨Nat.le_of_ble_eq_true rfl, rfl⟩ (Nat.le_of_ble_eq_true rfl) rfl h (jg_kI (fun z102 m101 h => ?_))
    refine jg_ifeq (pc' := 250) rfl rfl (fun hc => ?_) (fun hc => ?_)
    · have h := jg_t h (show jg_wr z102 = 0 from hc)
      refine jg_A (pc' := 255) rfl rfl (fun _ _ _ => rfl) ?_
      refine jg_iadd (pc' := 256) rfl rfl ?_
      refine jg_iastK (pc' := 257) (xi := 2) rfl (jg_sX12_42 h0) (by decide) (by decide) rfl (fun m103 hm103 => ?_)
      have h := h m103 hm103
      refine jg_iinc (pc' := 260) (ls' := [.ref a0, .int (.ofInt x1), u2, .int (.ofInt (x3 + 1))]) rfl rfl rfl rfl ?_
      refine jg_goto rfl ?_
      exact h
    · have h := jg_f h (show ¬ (jg_wr z102 = 0) from hc)
      refine jg_A (pc' := 251) rfl rfl (fun _ _ _ => rfl) ?_
      refine jg_goto rfl ?_
      refine jg_iadd (pc' := 256) rfl rfl ?_
      refine jg_iastK (pc' := 257) (xi := 2) rfl (jg_sX12_42 h0) (by decide) (by decide) rfl (fun m104 hm104 => ?_)
      have h := h m104 hm104
      refine jg_iinc (pc' := 260) (ls' := [.ref a0, .int (.ofInt x1), u2, .int (.ofInt (x3 + 1))]) rfl rfl rfl rfl ?_
      refine jg_goto rfl ?_
      exact h
set_option maxRecDepth 100000 in
set_option maxHeartbeats 4000000 in
theorem jb_X12_layRings_0 {w : Nat} {a0 : Nat} {σ : jg_M} {Q : jg_M → Prop} (h0 : jg_sh a0 = (12, 0)) (h : ∀ t101 : Int, t101 = (5 * (σ.1 (a0 + 13) (0))) → jg_GV w 2 mm_X12_layRings 11 [.ref a0, .int (.ofInt t101), .int (.ofInt 0), mj_U, mj_U, mj_U] σ Q) : jg_CV w 2 mm_X12_layRings [.ref a0] σ Q := by
  show jg_G w 2 mm_X12_layRings 0 [.ref a0, mj_U, mj_U, mj_U, mj_U, mj_U] [] σ (jg_QV Q)
  refine jg_A (pc' := 1) rfl rfl (fun _ _ _ => rfl) ?_
  refine jg_A (pc' := 2) rfl rfl (fun _ _ _ => rfl) ?_
  refine jg_getO (pc' := 5) (k := 13) rfl h0 (by decide) rfl rfl ?_
  refine jg_A (pc' := 6) rfl rfl (fun _ _ _ => rfl) ?_
  refine jg_ialdK (pc' := 7) (xi := 0) rfl (jg_sX12_22 h0) (by decide) (by decide) rfl ?_
  refine jg_imul (pc' := 8) rfl rfl ?_
  refine jg_nm (F := fun t101 => jg_G w 2 mm_X12_layRings 8 [.ref a0, mj_U, mj_U, mj_U, mj_U, mj_U] [.int (.ofInt t101)] σ (jg_QV Q)) (5 * (σ.1 (a0 + 13) (0))) (fun t101 ht101 => ?_)
  have h := h t101 ht101
  refine jg_A (pc' := 9) (ls' := [.ref a0, .int (.ofInt t101), mj_U, mj_U, mj_U, mj_U]) rfl rfl (fun _ _ _ => rfl) ?_
  refine jg_A (pc' := 10) rfl rfl (fun _ _ _ => rfl) ?_
  refine jg_A (pc' := 11) (ls' := [.ref a0, .int (.ofInt t101), .int (.ofInt 0), mj_U, mj_U, mj_U]) rfl rfl (fun _ _ _ => rfl) ?_
  exact h
set_option maxRecDepth 100000 in
set_option maxHeartbeats 4000000 in
theorem jb_X12_layRings_11 {w : Nat} {a0 : Nat} {x1 : Int} {x2 : Int} {u3 : Value} {u4 : Value} {u5 : Value} {σ : jg_M} {Q : jg_M → Prop} (h0 : jg_sh a0 = (12, 0)) (h : (if jg_wr x1 ≤ jg_wr x2 then jg_GV w 2 mm_X12_layRings 92 [.ref a0, .int (.ofInt x1), .int (.ofInt 0), u3, u4, u5] σ Q else jg_GV w 2 mm_X12_layRings 18 [.ref a0, .int (.ofInt x1), .int (.ofInt x2), .int (.ofInt 0), u4, u5] σ Q)) : jg_GV w 2 mm_X12_layRings 11 [.ref a0, .int (.ofInt x1), .int (.ofInt x2), u3, u4, u5] σ Q := by
  show jg_G w 2 mm_X12_layRings 11 [.ref a0, .int (.ofInt x1), .int (.ofInt x2), u3, u4, u5] [] σ (jg_QV Q)
  refine jg_A (pc' := 12) rfl rfl (fun _ _ _ => rfl) ?_
  refine jg_A (pc' := 13) rfl rfl (fun _ _ _ => rfl) ?_
  refine jg_cge (pc' := 16) rfl rfl (fun hc => ?_) (fun hc => ?_)
  · have h := jg_t h (show jg_wr x1 ≤ jg_wr x2 from hc)
    refine jg_A (pc' := 91) rfl rfl (fun _ _ _ => rfl) ?_
    refine jg_A (pc' := 92) (ls' := [.ref a0, .int (.ofInt x1), .int (.ofInt 0), u3, u4, u5]) rfl rfl (fun _ _ _ => rfl) ?_
    exact h
  · have h := jg_f h (show ¬ (jg_wr x1 ≤ jg_wr x2) from hc)
    refine jg_A (pc' := 17) rfl rfl (fun _ _ _ => rfl) ?_
    refine jg_A (pc' := 18) (ls' := [.ref a0, .int (.ofInt x1), .int (.ofInt x2), .int (.ofInt 0), u4, u5]) rfl rfl (fun _ _ _ => rfl) ?_
    exact h
set_option maxRecDepth 100000 in
set_option maxHeartbeats 4000000 in
theorem jb_X12_layRings_92 {w : Nat} {a0 : Nat} {x1 : Int} {x2 : Int} {u3 : Value} {u4 : Value} {u5 : Value} {σ : jg_M} {Q : jg_M → Prop} (h0 : jg_sh a0 = (12, 0)) (h : (if jg_wr x1 ≤ jg_wr x2 then Q σ else jg_GV w 2 mm_X12_layRings 105 [.ref a0, .int (.ofInt x1), .int (.ofInt x2), .int (.ofInt 0), .int (.ofInt 1), .int (.ofInt 0)] σ Q)) : jg_GV w 2 mm_X12_layRings 92 [.ref a0, .int (.ofInt x1), .int (.ofInt x2), u3, u4, u5] σ Q := by
  show jg_G w 2 mm_X12_layRings 92 [.ref a0, .int (.ofInt x1), .int (.ofInt x2), u3, u4, u5] [] σ (jg_QV Q)
  refine jg_A (pc' := 93) rfl rfl (fun _ _ _ => rfl) ?_
  refine jg_A (pc' := 94) rfl rfl (fun _ _ _ => rfl) ?_
  refine jg_cge (pc' := 97) rfl rfl (fun hc => ?_) (fun hc => ?_)
  · have h := jg_t h (show jg_wr x1 ≤ jg_wr x2 from hc)
    exact jg_vret rfl rfl h
  · have h := jg_f h (show ¬ (jg_wr x1 ≤ jg_wr x2) from hc)
    refine jg_A (pc' := 98) rfl rfl (fun _ _ _ => rfl) ?_
    refine jg_A (pc' := 99) (ls' := [.ref a0, .int (.ofInt x1), .int (.ofInt x2), .int (.ofInt 0), u4, u5]) rfl rfl (fun _ _ _ => rfl) ?_
    refine jg_A (pc' := 100) rfl rfl (fun _ _ _ => rfl) ?_
    refine jg_A (pc' := 102) (ls' := [.ref a0, .int (.ofInt x1), .int (.ofInt x2), .int (.ofInt 0), .int (.ofInt 1), u5]) rfl rfl (fun _ _ _ => rfl) ?_
    refine jg_A (pc' := 103) rfl rfl (fun _ _ _ => rfl) ?_
    refine jg_A (pc' := 105) (ls' := [.ref a0, .int (.ofInt x1), .int (.ofInt x2), .int (.ofInt 0), .int (.ofInt 1), .int (.ofInt 0)]) rfl rfl (fun _ _ _ => rfl) ?_
    exact h
set_option maxRecDepth 100000 in
set_option maxHeartbeats 4000000 in
theorem jb_X12_layRings_18 {w : Nat} {a0 : Nat} {x1 : Int} {x2 : Int} {x3 : Int} {u4 : Value} {u5 : Value} {σ : jg_M} {Q : jg_M → Prop} (h0 : jg_sh a0 = (12, 0)) (h : (if jg_wr x1 ≤ jg_wr x3 then jg_GV w 2 mm_X12_layRings 11 [.ref a0, .int (.ofInt x1), .int (.ofInt (x2 + 1)), .int (.ofInt x3), u4, u5] σ Q else jg_CI w 1 mm_X12_isIncluded [.ref a0, .int (.ofInt x3), .int (.ofInt x2)] σ (fun (z102 : Int) (m101 : jg_M) => (if jg_wr z102 = 0 then jg_GV w 2 mm_X12_layRings 18 [.ref a0, .int (.ofInt x1), .int (.ofInt x2), .int (.ofInt (x3 + 1)), u4, u5] m101 Q else jg_GV w 2 mm_X12_layRings 38 [.ref a0, .int (.ofInt x1), .int (.ofInt x2), .int (.ofInt x3), .int (.ofInt 0), u5] m101 Q)))) : jg_GV w 2 mm_X12_layRings 18 [.ref a0, .int (.ofInt x1), .int (.ofInt x2), .int (.ofInt x3), u4, u5] σ Q := by
  show jg_G w 2 mm_X12_layRings 18 [.ref a0, .int (.ofInt x1), .int (.ofInt x2), .int (.ofInt x3), u4, u5] [] σ (jg_QV Q)
  refine jg_A (pc' := 19) rfl rfl (fun _ _ _ => rfl) ?_
  refine jg_A (pc' := 20) rfl rfl (fun _ _ _ => rfl) ?_
  refine jg_cge (pc' := 23) rfl rfl (fun hc => ?_) (fun hc => ?_)
  · have h := jg_t h (show jg_wr x1 ≤ jg_wr x3 from hc)
    refine jg_iinc (pc' := 87) (ls' := [.ref a0, .int (.ofInt x1), .int (.ofInt (x2 + 1)), .int (.ofInt x3), u4, u5]) rfl rfl rfl rfl ?_
    refine jg_goto rfl ?_
    exact h
  · have h := jg_f h (show ¬ (jg_wr x1 ≤ jg_wr x3) from hc)
    refine jg_A (pc' := 24) rfl rfl (fun _ _ _ => rfl) ?_
    refine jg_A (pc' := 25) rfl rfl (fun _ _ _ => rfl) ?_
    refine jg_A (pc' := 26) rfl rfl (fun _ _ _ => rfl) ?_
    refine jg_calX (M1 := mm_X12_isIncluded) (hy := 1) (pc' := 29) rfl jm_X12_isIncluded (by decide) rfl h0 (by decide) ⟨Nat.le_of_ble_eq_true rfl, rfl⟩ (Nat.le_of_ble_eq_true rfl) rfl h (jg_kI (fun z102 m101 h => ?_))
    refine jg_ifne (pc' := 32) rfl rfl (fun hc => ?_) (fun hc => ?_)
    · have h := jg_t h (show jg_wr z102 = 0 from hc)
      refine jg_goto rfl ?_
      refine jg_iinc (pc' := 81) (ls' := [.ref a0, .int (.ofInt x1), .int (.ofInt x2), .int (.ofInt (x3 + 1)), u4, u5]) rfl rfl rfl rfl ?_
      refine jg_goto rfl ?_
      exact h
    · have h := jg_f h (show ¬ (jg_wr z102 = 0) from hc)
      refine jg_A (pc' := 36) rfl rfl (fun _ _ _ => rfl) ?_
      refine jg_A (pc' := 38) (ls' := [.ref a0, .int (.ofInt x1), .int (.ofInt x2), .int (.ofInt x3), .int (.ofInt 0), u5]) rfl rfl (fun _ _ _ => rfl) ?_
      exact h
set_option maxRecDepth 100000 in
set_option maxHeartbeats 4000000 in
theorem jb_X12_layRings_105 {w : Nat} {a0 : Nat} {x1 : Int} {x2 : Int} {x3 : Int} {x4 : Int} {x5 : Int} {σ : jg_M} {Q : jg_M → Prop} (h0 : jg_sh a0 = (12, 0)) (h : (if jg_wr x1 ≤ jg_wr x5 then (if jg_wr x3 ≤ 0 then ∀ m101 : jg_M, m101 = jg_sI σ (a0 + 28) 4 ((σ.1 (a0 + 28) (4)) + 0) → jg_GV w 2 mm_X12_layRings 92 [.ref a0, .int (.ofInt x1), .int (.ofInt (x2 + 1)), .int (.ofInt x3), .int (.ofInt x4), .int (.ofInt x5)] m101 Q else (if jg_wr x4 = 0 then ∀ m102 : jg_M, m102 = jg_sI σ (a0 + 28) 4 ((σ.1 (a0 + 28) (4)) + 0) → jg_GV w 2 mm_X12_layRings 92 [.ref a0, .int (.ofInt x1), .int (.ofInt (x2 + 1)), .int (.ofInt x3), .int (.ofInt x4), .int (.ofInt x5)] m102 Q else ∀ m103 : jg_M, m103 = jg_sI σ (a0 + 28) 4 ((σ.1 (a0 + 28) (4)) + 1) → jg_GV w 2 mm_X12_layRings 92 [.ref a0, .int (.ofInt x1), .int (.ofInt (x2 + 1)), .int (.ofInt x3), .int (.ofInt x4), .int (.ofInt x5)] m103 Q)) else (if jg_wr x5 = jg_wr x2 then jg_GV w 2 mm_X12_layRings 105 [.ref a0, .int (.ofInt x1), .int (.ofInt x2), .int (.ofInt x3), .int (.ofInt x4), .int (.ofInt (x5 + 1))] σ Q else jg_CI w 1 mm_X12_isIncluded [.ref a0, .int (.ofInt x2), .int (.ofInt x5)] σ (fun (z105 : Int) (m104 : jg_M) => (if jg_wr z105 = 0 then jg_GV w 2 mm_X12_layRings 105 [.ref a0, .int (.ofInt x1), .int (.ofInt x2), .int (.ofInt x3), .int (.ofInt x4), .int (.ofInt (x5 + 1))] m104 Q else jg_CI w 1 mm_X12_isIncluded [.ref a0, .int (.ofInt x5), .int (.ofInt x2)] m104 (fun (z107 : Int) (m106 : jg_M) => (if jg_wr z107 = 0 then jg_GV w 2 mm_X12_layRings 105 [.ref a0, .int (.ofInt x1), .int (.ofInt x2), .int (.ofInt x3), .int (.ofInt x4), .int (.ofInt (x5 + 1))] m106 Q else (if jg_wr x4 = 0 then jg_GV w 2 mm_X12_layRings 105 [.ref a0, .int (.ofInt x1), .int (.ofInt x2), .int (.ofInt (x3 + 1)), .int (.ofInt 0), .int (.ofInt (x5 + 1))] m106 Q else (if jg_wr x5 ≤ jg_wr x2 then jg_GV w 2 mm_X12_layRings 105 [.ref a0, .int (.ofInt x1), .int (.ofInt x2), .int (.ofInt (x3 + 1)), .int (.ofInt 0), .int (.ofInt (x5 + 1))] m106 Q else jg_GV w 2 mm_X12_layRings 105 [.ref a0, .int (.ofInt x1), .int (.ofInt x2), .int (.ofInt (x3 + 1)), .int (.ofInt 1), .int (.ofInt (x5 + 1))] m106 Q))))))))) : jg_GV w 2 mm_X12_layRings 105 [.ref a0, .int (.ofInt x1), .int (.ofInt x2), .int (.ofInt x3), .int (.ofInt x4), .int (.ofInt x5)] σ Q := by
  show jg_G w 2 mm_X12_layRings 105 [.ref a0, .int (.ofInt x1), .int (.ofInt x2), .int (.ofInt x3), .int (.ofInt x4), .int (.ofInt x5)] [] σ (jg_QV Q)
  refine jg_A (pc' := 107) rfl rfl (fun _ _ _ => rfl) ?_
  refine jg_A (pc' := 108) rfl rfl (fun _ _ _ => rfl) ?_
  refine jg_cge (pc' := 111) rfl rfl (fun hc => ?_) (fun hc => ?_)
  · have h := jg_t h (show jg_wr x1 ≤ jg_wr x5 from hc)
    refine jg_A (pc' := 168) rfl rfl (fun _ _ _ => rfl) ?_
    refine jg_getO (pc' := 171) (k := 28) rfl h0 (by decide) rfl rfl ?_
    refine jg_A (pc' := 172) rfl rfl (fun _ _ _ => rfl) ?_
    refine jg_A (pc' := 173) rfl rfl (fun _ _ _ => rfl) ?_
    refine jg_ialdK (pc' := 174) (xi := 4) rfl (jg_sX12_42 h0) (by decide) (by decide) rfl ?_
    refine jg_A (pc' := 175) rfl rfl (fun _ _ _ => rfl) ?_
    refine jg_ifle (pc' := 178) rfl rfl (fun hc => ?_) (fun hc => ?_)
    · have h := jg_t h (show jg_wr x3 ≤ 0 from hc)
      refine jg_A (pc' := 188) rfl rfl (fun _ _ _ => rfl) ?_
      refine jg_iadd (pc' := 189) rfl rfl ?_
      refine jg_iastK (pc' := 190) (xi := 4) rfl (jg_sX12_42 h0) (by decide) (by decide) rfl (fun m101 hm101 => ?_)
      have h := h m101 hm101
      refine jg_iinc (pc' := 193) (ls' := [.ref a0, .int (.ofInt x1), .int (.ofInt (x2 + 1)), .int (.ofInt x3), .int (.ofInt x4), .int (.ofInt x5)]) rfl rfl rfl rfl ?_
      refine jg_goto rfl ?_
      exact h
    · have h := jg_f h (show ¬ (jg_wr x3 ≤ 0) from hc)
      refine jg_A (pc' := 180) rfl rfl (fun _ _ _ => rfl) ?_
      refine jg_ifeq (pc' := 183) rfl rfl (fun hc => ?_) (fun hc => ?_)
      · have h := jg_t h (show jg_wr x4 = 0 from hc)
        refine jg_A (pc' := 188) rfl rfl (fun _ _ _ => rfl) ?_
        refine jg_iadd (pc' := 189) rfl rfl ?_
        refine jg_iastK (pc' := 190) (xi := 4) rfl (jg_sX12_42 h0) (by decide) (by decide) rfl (fun m102 hm102 => ?_)
        have h := h m102 hm102
        refine jg_iinc (pc' := 193) (ls' := [.ref a0, .int (.ofInt x1), .int (.ofInt (x2 + 1)), .int (.ofInt x3), .int (.ofInt x4), .int (.ofInt x5)]) rfl rfl rfl rfl ?_
        refine jg_goto rfl ?_
        exact h
      · have h := jg_f h (show ¬ (jg_wr x4 = 0) from hc)
        refine jg_A (pc' := 184) rfl rfl (fun _ _ _ => rfl) ?_
        refine jg_goto rfl ?_
        refine jg_iadd (pc' := 189) rfl rfl ?_
        refine jg_iastK (pc' := 190) (xi := 4) rfl (jg_sX12_42 h0) (by decide) (by decide) rfl (fun m103 hm103 => ?_)
        have h := h m103 hm103
        refine jg_iinc (pc' := 193) (ls' := [.ref a0, .int (.ofInt x1), .int (.ofInt (x2 + 1)), .int (.ofInt x3), .int (.ofInt x4), .int (.ofInt x5)]) rfl rfl rfl rfl ?_
        refine jg_goto rfl ?_
        exact h
  · have h := jg_f h (show ¬ (jg_wr x1 ≤ jg_wr x5) from hc)
    refine jg_A (pc' := 113) rfl rfl (fun _ _ _ => rfl) ?_
    refine jg_A (pc' := 114) rfl rfl (fun _ _ _ => rfl) ?_
    refine jg_ceq (pc' := 117) rfl rfl (fun hc => ?_) (fun hc => ?_)
    · have h := jg_t h (show jg_wr x5 = jg_wr x2 from hc)
      refine jg_iinc (pc' := 164) (ls' := [.ref a0, .int (.ofInt x1), .int (.ofInt x2), .int (.ofInt x3), .int (.ofInt x4), .int (.ofInt (x5 + 1))]) rfl rfl rfl rfl ?_
      refine jg_goto rfl ?_
      exact h
    · have h := jg_f h (show ¬ (jg_wr x5 = jg_wr x2) from hc)
      refine jg_A (pc' := 118) rfl rfl (fun _ _ _ => rfl) ?_
      refine jg_A (pc' := 119) rfl rfl (fun _ _ _ => rfl) ?_
      refine jg_A (pc' := 121) rfl rfl (fun _ _ _ => rfl) ?_
      refine jg_calX (M1 := mm_X12_isIncluded) (hy := 1) (pc' := 124) rfl jm_X12_isIncluded (by decide) rfl h0 (by decide) ⟨Nat.le_of_ble_eq_true rfl, rfl⟩ (Nat.le_of_ble_eq_true rfl) rfl h (jg_kI (fun z105 m104 h => ?_))
      refine jg_ifeq (pc' := 127) rfl rfl (fun hc => ?_) (fun hc => ?_)
      · have h := jg_t h (show jg_wr z105 = 0 from hc)
        refine jg_iinc (pc' := 164) (ls' := [.ref a0, .int (.ofInt x1), .int (.ofInt x2), .int (.ofInt x3), .int (.ofInt x4), .int (.ofInt (x5 + 1))]) rfl rfl rfl rfl ?_
        refine jg_goto rfl ?_
        exact h
      · have h := jg_f h (show ¬ (jg_wr z105 = 0) from hc)
        refine jg_A (pc' := 128) rfl rfl (fun _ _ _ => rfl) ?_
        refine jg_A (pc' := 130) rfl rfl (fun _ _ _ => rfl) ?_
        refine jg_A (pc' := 131) rfl rfl (fun _ _ _ => rfl) ?_
        refine jg_calX (M1 := mm_X12_isIncluded) (hy := 1) (pc' := 134) rfl jm_X12_isIncluded (by decide) rfl h0 (by decide) ⟨Nat.le_of_ble_eq_true rfl, rfl⟩ (Nat.le_of_ble_eq_true rfl) rfl h (jg_kI (fun z107 m106 h => ?_))
        refine jg_ifne (pc' := 137) rfl rfl (fun hc => ?_) (fun hc => ?_)
        · have h := jg_t h (show jg_wr z107 = 0 from hc)
          refine jg_goto rfl ?_
          refine jg_iinc (pc' := 164) (ls' := [.ref a0, .int (.ofInt x1), .int (.ofInt x2), .int (.ofInt x3), .int (.ofInt x4), .int (.ofInt (x5 + 1))]) rfl rfl rfl rfl ?_
          refine jg_goto rfl ?_
          exact h
        · have h := jg_f h (show ¬ (jg_wr z107 = 0) from hc)
          refine jg_iinc (pc' := 143) (ls' := [.ref a0, .int (.ofInt x1), .int (.ofInt x2), .int (.ofInt (x3 + 1)), .int (.ofInt x4), .int (.ofInt x5)]) rfl rfl rfl rfl ?_
          refine jg_A (pc' := 145) rfl rfl (fun _ _ _ => rfl) ?_
          refine jg_ifeq (pc' := 148) rfl rfl (fun hc => ?_) (fun hc => ?_)
          · have h := jg_t h (show jg_wr x4 = 0 from hc)
            refine jg_A (pc' := 159) rfl rfl (fun _ _ _ => rfl) ?_
            refine jg_A (pc' := 161) (ls' := [.ref a0, .int (.ofInt x1), .int (.ofInt x2), .int (.ofInt (x3 + 1)), .int (.ofInt 0), .int (.ofInt x5)]) rfl rfl (fun _ _ _ => rfl) ?_
            refine jg_iinc (pc' := 164) (ls' := [.ref a0, .int (.ofInt x1), .int (.ofInt x2), .int (.ofInt (x3 + 1)), .int (.ofInt 0), .int (.ofInt (x5 + 1))]) rfl rfl rfl rfl ?_
            refine jg_goto rfl ?_
            exact h
          · have h := jg_f h (show ¬ (jg_wr x4 = 0) from hc)
            refine jg_A (pc' := 150) rfl rfl (fun _ _ _ => rfl) ?_
            refine jg_A (pc' := 151) rfl rfl (fun _ _ _ => rfl) ?_
            refine jg_cle (pc' := 154) rfl rfl (fun hc => ?_) (fun hc => ?_)
            · have h := jg_t h (show jg_wr x5 ≤ jg_wr x2 from hc)
              refine jg_A (pc' := 159) rfl rfl (fun _ _ _ => rfl) ?_
              refine jg_A (pc' := 161) (ls' := [.ref a0, .int (.ofInt x1), .int (.ofInt x2), .int (.ofInt (x3 + 1)), .int (.ofInt 0), .int (.ofInt x5)]) rfl rfl (fun _ _ _ => rfl) ?_
              refine jg_iinc (pc' := 164) (ls' := [.ref a0, .int (.ofInt x1), .int (.ofInt x2), .int (.ofInt (x3 + 1)), .int (.ofInt 0), .int (.ofInt (x5 + 1))]) rfl rfl rfl rfl ?_
              refine jg_goto rfl ?_
              exact h
            · have h := jg_f h (show ¬ (jg_wr x5 ≤ jg_wr x2) from hc)
              refine jg_A (pc' := 155) rfl rfl (fun _ _ _ => rfl) ?_
              refine jg_goto rfl ?_
              refine jg_A (pc' := 161) (ls' := [.ref a0, .int (.ofInt x1), .int (.ofInt x2), .int (.ofInt (x3 + 1)), .int (.ofInt 1), .int (.ofInt x5)]) rfl rfl (fun _ _ _ => rfl) ?_
              refine jg_iinc (pc' := 164) (ls' := [.ref a0, .int (.ofInt x1), .int (.ofInt x2), .int (.ofInt (x3 + 1)), .int (.ofInt 1), .int (.ofInt (x5 + 1))]) rfl rfl rfl rfl ?_
              refine jg_goto rfl ?_
              exact h
set_option maxRecDepth 100000 in
set_option maxHeartbeats 4000000 in
theorem jb_X12_layRings_38 {w : Nat} {a0 : Nat} {x1 : Int} {x2 : Int} {x3 : Int} {x4 : Int} {u5 : Value} {σ : jg_M} {Q : jg_M → Prop} (h0 : jg_sh a0 = (12, 0)) (h : (if 8 ≤ jg_wr x4 then jg_GV w 2 mm_X12_layRings 18 [.ref a0, .int (.ofInt x1), .int (.ofInt x2), .int (.ofInt (x3 + 1)), .int (.ofInt x4), u5] σ Q else ((0 : Int) ≤ jg_wr ((8 * x3) + x4) ∧ jg_wr ((8 * x3) + x4) < (1920 : Int)) ∧ ((0 : Int) ≤ jg_wr ((8 * x2) + x4) ∧ jg_wr ((8 * x2) + x4) < (1920 : Int)) ∧ ((0 : Int) ≤ (jg_wr ((8 * x3) + x4)) ∧ (jg_wr ((8 * x3) + x4)) < (1920 : Int)) ∧ ∀ m101 : jg_M, m101 = jg_sI σ (a0 + 27) (jg_wr ((8 * x3) + x4)) (jg_or (σ.1 (a0 + 27) (jg_wr ((8 * x3) + x4))) (σ.1 (a0 + 27) (jg_wr ((8 * x2) + x4)))) → jg_GV w 2 mm_X12_layRings 38 [.ref a0, .int (.ofInt x1), .int (.ofInt x2), .int (.ofInt x3), .int (.ofInt (x4 + 1)), u5] m101 Q)) : jg_GV w 2 mm_X12_layRings 38 [.ref a0, .int (.ofInt x1), .int (.ofInt x2), .int (.ofInt x3), .int (.ofInt x4), u5] σ Q := by
  show jg_G w 2 mm_X12_layRings 38 [.ref a0, .int (.ofInt x1), .int (.ofInt x2), .int (.ofInt x3), .int (.ofInt x4), u5] [] σ (jg_QV Q)
  refine jg_A (pc' := 40) rfl rfl (fun _ _ _ => rfl) ?_
  refine jg_A (pc' := 42) rfl rfl (fun _ _ _ => rfl) ?_
  refine jg_cge (pc' := 45) rfl rfl (fun hc => ?_) (fun hc => ?_)
  · have h := jg_t h (show 8 ≤ jg_wr x4 from hc)
    refine jg_iinc (pc' := 81) (ls' := [.ref a0, .int (.ofInt x1), .int (.ofInt x2), .int (.ofInt (x3 + 1)), .int (.ofInt x4), u5]) rfl rfl rfl rfl ?_
    refine jg_goto rfl ?_
    exact h
  · have h := jg_f h (show ¬ (8 ≤ jg_wr x4) from hc)
    refine jg_A (pc' := 46) rfl rfl (fun _ _ _ => rfl) ?_
    refine jg_getO (pc' := 49) (k := 27) rfl h0 (by decide) rfl rfl ?_
    refine jg_A (pc' := 51) rfl rfl (fun _ _ _ => rfl) ?_
    refine jg_A (pc' := 52) rfl rfl (fun _ _ _ => rfl) ?_
    refine jg_imul (pc' := 53) rfl rfl ?_
    refine jg_A (pc' := 55) rfl rfl (fun _ _ _ => rfl) ?_
    refine jg_iadd (pc' := 56) rfl rfl ?_
    refine jg_A (pc' := 57) rfl rfl (fun _ _ _ => rfl) ?_
    obtain ⟨hg, h⟩ := h
    refine jg_iald (pc' := 58) rfl (jg_sX12_41 h0) hg rfl ?_
    refine jg_A (pc' := 59) rfl rfl (fun _ _ _ => rfl) ?_
    refine jg_getO (pc' := 62) (k := 27) rfl h0 (by decide) rfl rfl ?_
    refine jg_A (pc' := 64) rfl rfl (fun _ _ _ => rfl) ?_
    refine jg_A (pc' := 65) rfl rfl (fun _ _ _ => rfl) ?_
    refine jg_imul (pc' := 66) rfl rfl ?_
    refine jg_A (pc' := 68) rfl rfl (fun _ _ _ => rfl) ?_
    refine jg_iadd (pc' := 69) rfl rfl ?_
    obtain ⟨hg, h⟩ := h
    refine jg_iald (pc' := 70) rfl (jg_sX12_41 h0) hg rfl ?_
    refine jg_ior (pc' := 71) rfl rfl ?_
    obtain ⟨hg, h⟩ := h
    refine jg_iast (pc' := 72) rfl (jg_sX12_41 h0) hg rfl (fun m101 hm101 => ?_)
    have h := h m101 hm101
    refine jg_iinc (pc' := 75) (ls' := [.ref a0, .int (.ofInt x1), .int (.ofInt x2), .int (.ofInt x3), .int (.ofInt (x4 + 1)), u5]) rfl rfl rfl rfl ?_
    refine jg_goto rfl ?_
    exact h
set_option maxRecDepth 100000 in
set_option maxHeartbeats 4000000 in
theorem jb_X12_addRow_0 {w : Nat} {a0 : Nat} {x1 : Int} {σ : jg_M} {Q : jg_M → Prop} (h0 : jg_sh a0 = (12, 0)) (h : jg_GV w 0 mm_X12_addRow 2 [.ref a0, .int (.ofInt x1), .int (.ofInt 0)] σ Q) : jg_CV w 0 mm_X12_addRow [.ref a0, .int (.ofInt x1)] σ Q := by
  show jg_G w 0 mm_X12_addRow 0 [.ref a0, .int (.ofInt x1), mj_U] [] σ (jg_QV Q)
  refine jg_A (pc' := 1) rfl rfl (fun _ _ _ => rfl) ?_
  refine jg_A (pc' := 2) (ls' := [.ref a0, .int (.ofInt x1), .int (.ofInt 0)]) rfl rfl (fun _ _ _ => rfl) ?_
  exact h
set_option maxRecDepth 100000 in
set_option maxHeartbeats 4000000 in
theorem jb_X12_addRow_2 {w : Nat} {a0 : Nat} {x1 : Int} {x2 : Int} {σ : jg_M} {Q : jg_M → Prop} (h0 : jg_sh a0 = (12, 0)) (h : ((0 : Int) ≤ jg_wr x1 ∧ jg_wr x1 < (5 : Int)) ∧ (if jg_wr (σ.1 (a0 + 29) (jg_wr x1)) ≤ jg_wr x2 then ((0 : Int) ≤ jg_wr x1 ∧ jg_wr x1 < (5 : Int)) ∧ ∀ m101 : jg_M, m101 = jg_sI σ a0 48 ((σ.1 a0 48) + (σ.1 (a0 + 29) (jg_wr x1))) → Q m101 else ((0 : Int) ≤ jg_wr ((40 * x1) + x2) ∧ jg_wr ((40 * x1) + x2) < (200 : Int)) ∧ ((0 : Int) ≤ (jg_wr ((σ.1 a0 48) + x2)) ∧ (jg_wr ((σ.1 a0 48) + x2)) < (204 : Int)) ∧ ∀ m102 : jg_M, m102 = jg_sI σ (a0 + 33) (jg_wr ((σ.1 a0 48) + x2)) (σ.1 (a0 + 30) (jg_wr ((40 * x1) + x2))) → jg_GV w 0 mm_X12_addRow 2 [.ref a0, .int (.ofInt x1), .int (.ofInt (x2 + 1))] m102 Q)) : jg_GV w 0 mm_X12_addRow 2 [.ref a0, .int (.ofInt x1), .int (.ofInt x2)] σ Q := by
  show jg_G w 0 mm_X12_addRow 2 [.ref a0, .int (.ofInt x1), .int (.ofInt x2)] [] σ (jg_QV Q)
  refine jg_A (pc' := 3) rfl rfl (fun _ _ _ => rfl) ?_
  refine jg_A (pc' := 4) rfl rfl (fun _ _ _ => rfl) ?_
  refine jg_getO (pc' := 7) (k := 29) rfl h0 (by decide) rfl rfl ?_
  refine jg_A (pc' := 8) rfl rfl (fun _ _ _ => rfl) ?_
  obtain ⟨hg, h⟩ := h
  refine jg_iald (pc' := 9) rfl (jg_sX12_43 h0) hg rfl ?_
  refine jg_cge (pc' := 12) rfl rfl (fun hc => ?_) (fun hc => ?_)
  · have h := jg_t h (show jg_wr (σ.1 (a0 + 29) (jg_wr x1)) ≤ jg_wr x2 from hc)
    refine jg_A (pc' := 41) rfl rfl (fun _ _ _ => rfl) ?_
    refine jg_A (pc' := 42) rfl rfl (fun _ _ _ => rfl) ?_
    refine jg_getI (pc' := 45) (bi := 48) rfl h0 (by decide) (Or.inl rfl) rfl rfl ?_
    refine jg_A (pc' := 46) rfl rfl (fun _ _ _ => rfl) ?_
    refine jg_getO (pc' := 49) (k := 29) rfl h0 (by decide) rfl rfl ?_
    refine jg_A (pc' := 50) rfl rfl (fun _ _ _ => rfl) ?_
    obtain ⟨hg, h⟩ := h
    refine jg_iald (pc' := 51) rfl (jg_sX12_43 h0) hg rfl ?_
    refine jg_iadd (pc' := 52) rfl rfl ?_
    refine jg_putI (pc' := 55) (bi := 48) rfl h0 (by decide) rfl rfl rfl rfl (fun m101 hm101 => ?_)
    have h := h m101 hm101
    exact jg_vret rfl rfl h
  · have h := jg_f h (show ¬ (jg_wr (σ.1 (a0 + 29) (jg_wr x1)) ≤ jg_wr x2) from hc)
    refine jg_A (pc' := 13) rfl rfl (fun _ _ _ => rfl) ?_
    refine jg_getO (pc' := 16) (k := 33) rfl h0 (by decide) rfl rfl ?_
    refine jg_A (pc' := 17) rfl rfl (fun _ _ _ => rfl) ?_
    refine jg_getI (pc' := 20) (bi := 48) rfl h0 (by decide) (Or.inl rfl) rfl rfl ?_
    refine jg_A (pc' := 21) rfl rfl (fun _ _ _ => rfl) ?_
    refine jg_iadd (pc' := 22) rfl rfl ?_
    refine jg_A (pc' := 23) rfl rfl (fun _ _ _ => rfl) ?_
    refine jg_getO (pc' := 26) (k := 30) rfl h0 (by decide) rfl rfl ?_
    refine jg_A (pc' := 28) rfl rfl (fun _ _ _ => rfl) ?_
    refine jg_A (pc' := 29) rfl rfl (fun _ _ _ => rfl) ?_
    refine jg_imul (pc' := 30) rfl rfl ?_
    refine jg_A (pc' := 31) rfl rfl (fun _ _ _ => rfl) ?_
    refine jg_iadd (pc' := 32) rfl rfl ?_
    obtain ⟨hg, h⟩ := h
    refine jg_iald (pc' := 33) rfl (jg_sX12_44 h0) hg rfl ?_
    obtain ⟨hg, h⟩ := h
    refine jg_iast (pc' := 34) rfl (jg_sX12_47 h0) hg rfl (fun m102 hm102 => ?_)
    have h := h m102 hm102
    refine jg_iinc (pc' := 37) (ls' := [.ref a0, .int (.ofInt x1), .int (.ofInt (x2 + 1))]) rfl rfl rfl rfl ?_
    refine jg_goto rfl ?_
    exact h
set_option maxRecDepth 100000 in
set_option maxHeartbeats 4000000 in
theorem jb_X12_isAhead_0 {w : Nat} {a0 : Nat} {a1 : Nat} {n1 : Nat} {x2 : Int} {x3 : Int} {σ : jg_M} {Q : Int → jg_M → Prop} (h0 : jg_sh a0 = (12, 0)) (h1 : jg_sh a1 = (20, n1)) (h : (if jg_wr x3 < 0 then (if jg_wr x3 < 0 then Q 1 σ else (if jg_wr x3 ≤ jg_wr (σ.1 a0 48) then Q 0 σ else Q 1 σ)) else (if jg_wr (σ.1 a0 48) = jg_wr x3 then jg_GI w 0 mm_X12_isAhead 33 [.ref a0, .ref a1, .int (.ofInt x2), .int (.ofInt x3), .int (.ofInt 0)] σ Q else (if jg_wr x3 < 0 then Q 1 σ else (if jg_wr x3 ≤ jg_wr (σ.1 a0 48) then Q 0 σ else Q 1 σ))))) : jg_CI w 0 mm_X12_isAhead [.ref a0, .ref a1, .int (.ofInt x2), .int (.ofInt x3)] σ Q := by
  show jg_G w 0 mm_X12_isAhead 0 [.ref a0, .ref a1, .int (.ofInt x2), .int (.ofInt x3), mj_U] [] σ (jg_QI Q)
  refine jg_A (pc' := 1) rfl rfl (fun _ _ _ => rfl) ?_
  refine jg_iflt (pc' := 4) rfl rfl (fun hc => ?_) (fun hc => ?_)
  · have h := jg_t h (show jg_wr x3 < 0 from hc)
    refine jg_A (pc' := 13) rfl rfl (fun _ _ _ => rfl) ?_
    refine jg_iflt (pc' := 16) rfl rfl (fun hc => ?_) (fun hc => ?_)
    · have h := jg_t h (show jg_wr x3 < 0 from hc)
      refine jg_A (pc' := 25) rfl rfl (fun _ _ _ => rfl) ?_
      refine jg_goto rfl ?_
      exact jg_zret rfl rfl (by decide) h
    · have h := jg_f h (show ¬ (jg_wr x3 < 0) from hc)
      refine jg_A (pc' := 17) rfl rfl (fun _ _ _ => rfl) ?_
      refine jg_getI (pc' := 20) (bi := 48) rfl h0 (by decide) (Or.inl rfl) rfl rfl ?_
      refine jg_A (pc' := 21) rfl rfl (fun _ _ _ => rfl) ?_
      refine jg_cge (pc' := 24) rfl rfl (fun hc => ?_) (fun hc => ?_)
      · have h := jg_t h (show jg_wr x3 ≤ jg_wr (σ.1 a0 48) from hc)
        refine jg_A (pc' := 29) rfl rfl (fun _ _ _ => rfl) ?_
        exact jg_zret rfl rfl (by decide) h
      · have h := jg_f h (show ¬ (jg_wr x3 ≤ jg_wr (σ.1 a0 48)) from hc)
        refine jg_A (pc' := 25) rfl rfl (fun _ _ _ => rfl) ?_
        refine jg_goto rfl ?_
        exact jg_zret rfl rfl (by decide) h
  · have h := jg_f h (show ¬ (jg_wr x3 < 0) from hc)
    refine jg_A (pc' := 5) rfl rfl (fun _ _ _ => rfl) ?_
    refine jg_getI (pc' := 8) (bi := 48) rfl h0 (by decide) (Or.inl rfl) rfl rfl ?_
    refine jg_A (pc' := 9) rfl rfl (fun _ _ _ => rfl) ?_
    refine jg_ceq (pc' := 12) rfl rfl (fun hc => ?_) (fun hc => ?_)
    · have h := jg_t h (show jg_wr (σ.1 a0 48) = jg_wr x3 from hc)
      refine jg_A (pc' := 31) rfl rfl (fun _ _ _ => rfl) ?_
      refine jg_A (pc' := 33) (ls' := [.ref a0, .ref a1, .int (.ofInt x2), .int (.ofInt x3), .int (.ofInt 0)]) rfl rfl (fun _ _ _ => rfl) ?_
      exact h
    · have h := jg_f h (show ¬ (jg_wr (σ.1 a0 48) = jg_wr x3) from hc)
      refine jg_A (pc' := 13) rfl rfl (fun _ _ _ => rfl) ?_
      refine jg_iflt (pc' := 16) rfl rfl (fun hc => ?_) (fun hc => ?_)
      · have h := jg_t h (show jg_wr x3 < 0 from hc)
        refine jg_A (pc' := 25) rfl rfl (fun _ _ _ => rfl) ?_
        refine jg_goto rfl ?_
        exact jg_zret rfl rfl (by decide) h
      · have h := jg_f h (show ¬ (jg_wr x3 < 0) from hc)
        refine jg_A (pc' := 17) rfl rfl (fun _ _ _ => rfl) ?_
        refine jg_getI (pc' := 20) (bi := 48) rfl h0 (by decide) (Or.inl rfl) rfl rfl ?_
        refine jg_A (pc' := 21) rfl rfl (fun _ _ _ => rfl) ?_
        refine jg_cge (pc' := 24) rfl rfl (fun hc => ?_) (fun hc => ?_)
        · have h := jg_t h (show jg_wr x3 ≤ jg_wr (σ.1 a0 48) from hc)
          refine jg_A (pc' := 29) rfl rfl (fun _ _ _ => rfl) ?_
          exact jg_zret rfl rfl (by decide) h
        · have h := jg_f h (show ¬ (jg_wr x3 ≤ jg_wr (σ.1 a0 48)) from hc)
          refine jg_A (pc' := 25) rfl rfl (fun _ _ _ => rfl) ?_
          refine jg_goto rfl ?_
          exact jg_zret rfl rfl (by decide) h
set_option maxRecDepth 100000 in
set_option maxHeartbeats 4000000 in
theorem jb_X12_isAhead_33 {w : Nat} {a0 : Nat} {n1 : Nat} {a1 : Nat} {x2 : Int} {u3 : Value} {x4 : Int} {σ : jg_M} {Q : Int → jg_M → Prop} (h0 : jg_sh a0 = (12, 0)) (h1 : jg_sh a1 = (20, n1)) (h : (if jg_wr (σ.1 a0 48) ≤ jg_wr x4 then Q 0 σ else ((0 : Int) ≤ jg_wr x4 ∧ jg_wr x4 < (204 : Int)) ∧ ((0 : Int) ≤ jg_wr (x2 + x4) ∧ jg_wr (x2 + x4) < (n1 : Int)) ∧ (if jg_wr (σ.1 (a0 + 33) (jg_wr x4)) = jg_wr (σ.1 a1 (jg_wr (x2 + x4))) then jg_GI w 0 mm_X12_isAhead 33 [.ref a0, .ref a1, .int (.ofInt x2), u3, .int (.ofInt (x4 + 1))] σ Q else ((0 : Int) ≤ jg_wr x4 ∧ jg_wr x4 < (204 : Int)) ∧ ((0 : Int) ≤ jg_wr (x2 + x4) ∧ jg_wr (x2 + x4) < (n1 : Int)) ∧ (if jg_wr (σ.1 a1 (jg_wr (x2 + x4))) ≤ jg_wr (σ.1 (a0 + 33) (jg_wr x4)) then Q 0 σ else Q 1 σ)))) : jg_GI w 0 mm_X12_isAhead 33 [.ref a0, .ref a1, .int (.ofInt x2), u3, .int (.ofInt x4)] σ Q := by
  show jg_G w 0 mm_X12_isAhead 33 [.ref a0, .ref a1, .int (.ofInt x2), u3, .int (.ofInt x4)] [] σ (jg_QI Q)
  refine jg_A (pc' := 35) rfl rfl (fun _ _ _ => rfl) ?_
  refine jg_A (pc' := 36) rfl rfl (fun _ _ _ => rfl) ?_
  refine jg_getI (pc' := 39) (bi := 48) rfl h0 (by decide) (Or.inl rfl) rfl rfl ?_
  refine jg_cge (pc' := 42) rfl rfl (fun hc => ?_) (fun hc => ?_)
  · have h := jg_t h (show jg_wr (σ.1 a0 48) ≤ jg_wr x4 from hc)
    refine jg_A (pc' := 87) rfl rfl (fun _ _ _ => rfl) ?_
    exact jg_zret rfl rfl (by decide) h
  · have h := jg_f h (show ¬ (jg_wr (σ.1 a0 48) ≤ jg_wr x4) from hc)
    refine jg_A (pc' := 43) rfl rfl (fun _ _ _ => rfl) ?_
    refine jg_getO (pc' := 46) (k := 33) rfl h0 (by decide) rfl rfl ?_
    refine jg_A (pc' := 48) rfl rfl (fun _ _ _ => rfl) ?_
    obtain ⟨hg, h⟩ := h
    refine jg_iald (pc' := 49) rfl (jg_sX12_47 h0) hg rfl ?_
    refine jg_A (pc' := 50) rfl rfl (fun _ _ _ => rfl) ?_
    refine jg_A (pc' := 51) rfl rfl (fun _ _ _ => rfl) ?_
    refine jg_A (pc' := 53) rfl rfl (fun _ _ _ => rfl) ?_
    refine jg_iadd (pc' := 54) rfl rfl ?_
    obtain ⟨hg, h⟩ := h
    refine jg_iald (pc' := 55) rfl h1 hg rfl ?_
    refine jg_ceq (pc' := 58) rfl rfl (fun hc => ?_) (fun hc => ?_)
    · have h := jg_t h (show jg_wr (σ.1 (a0 + 33) (jg_wr x4)) = jg_wr (σ.1 a1 (jg_wr (x2 + x4))) from hc)
      refine jg_iinc (pc' := 83) (ls' := [.ref a0, .ref a1, .int (.ofInt x2), u3, .int (.ofInt (x4 + 1))]) rfl rfl rfl rfl ?_
      refine jg_goto rfl ?_
      exact h
    · have h := jg_f h (show ¬ (jg_wr (σ.1 (a0 + 33) (jg_wr x4)) = jg_wr (σ.1 a1 (jg_wr (x2 + x4)))) from hc)
      refine jg_A (pc' := 59) rfl rfl (fun _ _ _ => rfl) ?_
      refine jg_getO (pc' := 62) (k := 33) rfl h0 (by decide) rfl rfl ?_
      refine jg_A (pc' := 64) rfl rfl (fun _ _ _ => rfl) ?_
      obtain ⟨hg, h⟩ := h
      refine jg_iald (pc' := 65) rfl (jg_sX12_47 h0) hg rfl ?_
      refine jg_A (pc' := 66) rfl rfl (fun _ _ _ => rfl) ?_
      refine jg_A (pc' := 67) rfl rfl (fun _ _ _ => rfl) ?_
      refine jg_A (pc' := 69) rfl rfl (fun _ _ _ => rfl) ?_
      refine jg_iadd (pc' := 70) rfl rfl ?_
      obtain ⟨hg, h⟩ := h
      refine jg_iald (pc' := 71) rfl h1 hg rfl ?_
      refine jg_cge (pc' := 74) rfl rfl (fun hc => ?_) (fun hc => ?_)
      · have h := jg_t h (show jg_wr (σ.1 a1 (jg_wr (x2 + x4))) ≤ jg_wr (σ.1 (a0 + 33) (jg_wr x4)) from hc)
        refine jg_A (pc' := 79) rfl rfl (fun _ _ _ => rfl) ?_
        exact jg_zret rfl rfl (by decide) h
      · have h := jg_f h (show ¬ (jg_wr (σ.1 a1 (jg_wr (x2 + x4))) ≤ jg_wr (σ.1 (a0 + 33) (jg_wr x4))) from hc)
        refine jg_A (pc' := 75) rfl rfl (fun _ _ _ => rfl) ?_
        refine jg_goto rfl ?_
        exact jg_zret rfl rfl (by decide) h
set_option maxRecDepth 100000 in
set_option maxHeartbeats 4000000 in
theorem jb_X12_isMade_0 {w : Nat} {a0 : Nat} {x1 : Int} {σ : jg_M} {Q : Int → jg_M → Prop} (h0 : jg_sh a0 = (12, 0)) (h : ∀ m101 : jg_M, m101 = jg_sI σ a0 48 0 → jg_GI w 1 mm_X12_isMade 7 [.ref a0, .int (.ofInt x1), .int (.ofInt 0), mj_U] m101 Q) : jg_CI w 1 mm_X12_isMade [.ref a0, .int (.ofInt x1)] σ Q := by
  show jg_G w 1 mm_X12_isMade 0 [.ref a0, .int (.ofInt x1), mj_U, mj_U] [] σ (jg_QI Q)
  refine jg_A (pc' := 1) rfl rfl (fun _ _ _ => rfl) ?_
  refine jg_A (pc' := 2) rfl rfl (fun _ _ _ => rfl) ?_
  refine jg_putI (pc' := 5) (bi := 48) rfl h0 (by decide) rfl rfl rfl rfl (fun m101 hm101 => ?_)
  have h := h m101 hm101
  refine jg_A (pc' := 6) rfl rfl (fun _ _ _ => rfl) ?_
  refine jg_A (pc' := 7) (ls' := [.ref a0, .int (.ofInt x1), .int (.ofInt 0), mj_U]) rfl rfl (fun _ _ _ => rfl) ?_
  exact h
set_option maxRecDepth 100000 in
set_option maxHeartbeats 4000000 in
theorem jb_X12_isMade_7 {w : Nat} {a0 : Nat} {x1 : Int} {x2 : Int} {u3 : Value} {σ : jg_M} {Q : Int → jg_M → Prop} (h0 : jg_sh a0 = (12, 0)) (h : jg_CI w 0 mm_X12_longOf [.ref a0, .int (.ofInt x1)] σ (fun (z102 : Int) (m101 : jg_M) => (if jg_wr z102 ≤ jg_wr x2 then (if 40 < jg_wr (m101.1 a0 48) then Q 0 m101 else Q 1 m101) else jg_CI w 0 mm_X12_moveBy [.ref a0, .int (.ofInt x1), .int (.ofInt x2)] m101 (fun (z104 : Int) (m103 : jg_M) => (if jg_wr z104 < 7 then (if jg_wr z104 < 7 then ((0 : Int) ≤ (jg_wr (m103.1 a0 48)) ∧ (jg_wr (m103.1 a0 48)) < (204 : Int)) ∧ ∀ m105 : jg_M, m105 = jg_sI m103 (a0 + 33) (jg_wr (m103.1 a0 48)) z104 → ∀ m106 : jg_M, m106 = jg_sI m105 a0 48 ((m105.1 a0 48) + 1) → jg_GI w 1 mm_X12_isMade 7 [.ref a0, .int (.ofInt x1), .int (.ofInt (x2 + 1)), .int (.ofInt z104)] m106 Q else jg_CV w 0 mm_X12_addRow [.ref a0, .int (.ofInt (z104 - 7))] m103 (fun (m107 : jg_M) => jg_GI w 1 mm_X12_isMade 7 [.ref a0, .int (.ofInt x1), .int (.ofInt (x2 + 1)), .int (.ofInt z104)] m107 Q)) else ((0 : Int) ≤ jg_wr (z104 - 7) ∧ jg_wr (z104 - 7) < (5 : Int)) ∧ (if 0 ≤ jg_wr (m103.1 (a0 + 29) (jg_wr (z104 - 7))) then (if jg_wr z104 < 7 then ((0 : Int) ≤ (jg_wr (m103.1 a0 48)) ∧ (jg_wr (m103.1 a0 48)) < (204 : Int)) ∧ ∀ m108 : jg_M, m108 = jg_sI m103 (a0 + 33) (jg_wr (m103.1 a0 48)) z104 → ∀ m109 : jg_M, m109 = jg_sI m108 a0 48 ((m108.1 a0 48) + 1) → jg_GI w 1 mm_X12_isMade 7 [.ref a0, .int (.ofInt x1), .int (.ofInt (x2 + 1)), .int (.ofInt z104)] m109 Q else jg_CV w 0 mm_X12_addRow [.ref a0, .int (.ofInt (z104 - 7))] m103 (fun (m110 : jg_M) => jg_GI w 1 mm_X12_isMade 7 [.ref a0, .int (.ofInt x1), .int (.ofInt (x2 + 1)), .int (.ofInt z104)] m110 Q)) else Q 0 m103)))))) : jg_GI w 1 mm_X12_isMade 7 [.ref a0, .int (.ofInt x1), .int (.ofInt x2), u3] σ Q := by
  show jg_G w 1 mm_X12_isMade 7 [.ref a0, .int (.ofInt x1), .int (.ofInt x2), u3] [] σ (jg_QI Q)
  refine jg_A (pc' := 8) rfl rfl (fun _ _ _ => rfl) ?_
  refine jg_A (pc' := 9) rfl rfl (fun _ _ _ => rfl) ?_
  refine jg_A (pc' := 10) rfl rfl (fun _ _ _ => rfl) ?_
  refine jg_calX (M1 := mm_X12_longOf) (hy := 0) (pc' := 13) rfl jm_X12_longOf (by decide) rfl h0 (by decide) ⟨Nat.le_of_ble_eq_true rfl, rfl⟩ (Nat.le_of_ble_eq_true rfl) rfl h (jg_kI (fun z102 m101 h => ?_))
  refine jg_cge (pc' := 16) rfl rfl (fun hc => ?_) (fun hc => ?_)
  · have h := jg_t h (show jg_wr z102 ≤ jg_wr x2 from hc)
    refine jg_A (pc' := 87) rfl rfl (fun _ _ _ => rfl) ?_
    refine jg_getI (pc' := 90) (bi := 48) rfl h0 (by decide) (Or.inl rfl) rfl rfl ?_
    refine jg_A (pc' := 92) rfl rfl (fun _ _ _ => rfl) ?_
    refine jg_cgt (pc' := 95) rfl rfl (fun hc => ?_) (fun hc => ?_)
    · have h := jg_t h (show 40 < jg_wr (m101.1 a0 48) from hc)
      refine jg_A (pc' := 100) rfl rfl (fun _ _ _ => rfl) ?_
      exact jg_zret rfl rfl (by decide) h
    · have h := jg_f h (show ¬ (40 < jg_wr (m101.1 a0 48)) from hc)
      refine jg_A (pc' := 96) rfl rfl (fun _ _ _ => rfl) ?_
      refine jg_goto rfl ?_
      exact jg_zret rfl rfl (by decide) h
  · have h := jg_f h (show ¬ (jg_wr z102 ≤ jg_wr x2) from hc)
    refine jg_A (pc' := 17) rfl rfl (fun _ _ _ => rfl) ?_
    refine jg_A (pc' := 18) rfl rfl (fun _ _ _ => rfl) ?_
    refine jg_A (pc' := 19) rfl rfl (fun _ _ _ => rfl) ?_
    refine jg_calX (M1 := mm_X12_moveBy) (hy := 0) (pc' := 22) rfl jm_X12_moveBy (by decide) rfl h0 (by decide) ⟨Nat.le_of_ble_eq_true rfl, rfl⟩ (Nat.le_of_ble_eq_true rfl) rfl h (jg_kI (fun z104 m103 h => ?_))
    refine jg_A (pc' := 23) (ls' := [.ref a0, .int (.ofInt x1), .int (.ofInt x2), .int (.ofInt z104)]) rfl rfl (fun _ _ _ => rfl) ?_
    refine jg_A (pc' := 24) rfl rfl (fun _ _ _ => rfl) ?_
    refine jg_A (pc' := 26) rfl rfl (fun _ _ _ => rfl) ?_
    refine jg_clt (pc' := 29) rfl rfl (fun hc => ?_) (fun hc => ?_)
    · have h := jg_t h (show jg_wr z104 < 7 from hc)
      refine jg_A (pc' := 44) rfl rfl (fun _ _ _ => rfl) ?_
      refine jg_A (pc' := 46) rfl rfl (fun _ _ _ => rfl) ?_
      refine jg_clt (pc' := 49) rfl rfl (fun hc => ?_) (fun hc => ?_)
      · have h := jg_t h (show jg_wr z104 < 7 from hc)
        refine jg_A (pc' := 61) rfl rfl (fun _ _ _ => rfl) ?_
        refine jg_getO (pc' := 64) (k := 33) rfl h0 (by decide) rfl rfl ?_
        refine jg_A (pc' := 65) rfl rfl (fun _ _ _ => rfl) ?_
        refine jg_getI (pc' := 68) (bi := 48) rfl h0 (by decide) (Or.inl rfl) rfl rfl ?_
        refine jg_A (pc' := 69) rfl rfl (fun _ _ _ => rfl) ?_
        obtain ⟨hg, h⟩ := h
        refine jg_iast (pc' := 70) rfl (jg_sX12_47 h0) hg rfl (fun m105 hm105 => ?_)
        have h := h m105 hm105
        refine jg_A (pc' := 71) rfl rfl (fun _ _ _ => rfl) ?_
        refine jg_A (pc' := 72) rfl rfl (fun _ _ _ => rfl) ?_
        refine jg_getI (pc' := 75) (bi := 48) rfl h0 (by decide) (Or.inl rfl) rfl rfl ?_
        refine jg_A (pc' := 76) rfl rfl (fun _ _ _ => rfl) ?_
        refine jg_iadd (pc' := 77) rfl rfl ?_
        refine jg_putI (pc' := 80) (bi := 48) rfl h0 (by decide) rfl rfl rfl rfl (fun m106 hm106 => ?_)
        have h := h m106 hm106
        refine jg_iinc (pc' := 83) (ls' := [.ref a0, .int (.ofInt x1), .int (.ofInt (x2 + 1)), .int (.ofInt z104)]) rfl rfl rfl rfl ?_
        refine jg_goto rfl ?_
        exact h
      · have h := jg_f h (show ¬ (jg_wr z104 < 7) from hc)
        refine jg_A (pc' := 50) rfl rfl (fun _ _ _ => rfl) ?_
        refine jg_A (pc' := 51) rfl rfl (fun _ _ _ => rfl) ?_
        refine jg_A (pc' := 53) rfl rfl (fun _ _ _ => rfl) ?_
        refine jg_isub (pc' := 54) rfl rfl ?_
        refine jg_calX (M1 := mm_X12_addRow) (hy := 0) (pc' := 57) rfl jm_X12_addRow (by decide) rfl h0 (by decide) ⟨Nat.le_of_ble_eq_true rfl, rfl⟩ (Nat.le_of_ble_eq_true rfl) rfl h (jg_kV (fun m107 h => ?_))
        refine jg_goto rfl ?_
        refine jg_iinc (pc' := 83) (ls' := [.ref a0, .int (.ofInt x1), .int (.ofInt (x2 + 1)), .int (.ofInt z104)]) rfl rfl rfl rfl ?_
        refine jg_goto rfl ?_
        exact h
    · have h := jg_f h (show ¬ (jg_wr z104 < 7) from hc)
      refine jg_A (pc' := 30) rfl rfl (fun _ _ _ => rfl) ?_
      refine jg_getO (pc' := 33) (k := 29) rfl h0 (by decide) rfl rfl ?_
      refine jg_A (pc' := 34) rfl rfl (fun _ _ _ => rfl) ?_
      refine jg_A (pc' := 36) rfl rfl (fun _ _ _ => rfl) ?_
      refine jg_isub (pc' := 37) rfl rfl ?_
      obtain ⟨hg, h⟩ := h
      refine jg_iald (pc' := 38) rfl (jg_sX12_43 h0) hg rfl ?_
      refine jg_ifge (pc' := 41) rfl rfl (fun hc => ?_) (fun hc => ?_)
      · have h := jg_t h (show 0 ≤ jg_wr (m103.1 (a0 + 29) (jg_wr (z104 - 7))) from hc)
        refine jg_A (pc' := 44) rfl rfl (fun _ _ _ => rfl) ?_
        refine jg_A (pc' := 46) rfl rfl (fun _ _ _ => rfl) ?_
        refine jg_clt (pc' := 49) rfl rfl (fun hc => ?_) (fun hc => ?_)
        · have h := jg_t h (show jg_wr z104 < 7 from hc)
          refine jg_A (pc' := 61) rfl rfl (fun _ _ _ => rfl) ?_
          refine jg_getO (pc' := 64) (k := 33) rfl h0 (by decide) rfl rfl ?_
          refine jg_A (pc' := 65) rfl rfl (fun _ _ _ => rfl) ?_
          refine jg_getI (pc' := 68) (bi := 48) rfl h0 (by decide) (Or.inl rfl) rfl rfl ?_
          refine jg_A (pc' := 69) rfl rfl (fun _ _ _ => rfl) ?_
          obtain ⟨hg, h⟩ := h
          refine jg_iast (pc' := 70) rfl (jg_sX12_47 h0) hg rfl (fun m108 hm108 => ?_)
          have h := h m108 hm108
          refine jg_A (pc' := 71) rfl rfl (fun _ _ _ => rfl) ?_
          refine jg_A (pc' := 72) rfl rfl (fun _ _ _ => rfl) ?_
          refine jg_getI (pc' := 75) (bi := 48) rfl h0 (by decide) (Or.inl rfl) rfl rfl ?_
          refine jg_A (pc' := 76) rfl rfl (fun _ _ _ => rfl) ?_
          refine jg_iadd (pc' := 77) rfl rfl ?_
          refine jg_putI (pc' := 80) (bi := 48) rfl h0 (by decide) rfl rfl rfl rfl (fun m109 hm109 => ?_)
          have h := h m109 hm109
          refine jg_iinc (pc' := 83) (ls' := [.ref a0, .int (.ofInt x1), .int (.ofInt (x2 + 1)), .int (.ofInt z104)]) rfl rfl rfl rfl ?_
          refine jg_goto rfl ?_
          exact h
        · have h := jg_f h (show ¬ (jg_wr z104 < 7) from hc)
          refine jg_A (pc' := 50) rfl rfl (fun _ _ _ => rfl) ?_
          refine jg_A (pc' := 51) rfl rfl (fun _ _ _ => rfl) ?_
          refine jg_A (pc' := 53) rfl rfl (fun _ _ _ => rfl) ?_
          refine jg_isub (pc' := 54) rfl rfl ?_
          refine jg_calX (M1 := mm_X12_addRow) (hy := 0) (pc' := 57) rfl jm_X12_addRow (by decide) rfl h0 (by decide) ⟨Nat.le_of_ble_eq_true rfl, rfl⟩ (Nat.le_of_ble_eq_true rfl) rfl h (jg_kV (fun m110 h => ?_))
          refine jg_goto rfl ?_
          refine jg_iinc (pc' := 83) (ls' := [.ref a0, .int (.ofInt x1), .int (.ofInt (x2 + 1)), .int (.ofInt z104)]) rfl rfl rfl rfl ?_
          refine jg_goto rfl ?_
          exact h
      · have h := jg_f h (show ¬ (0 ≤ jg_wr (m103.1 (a0 + 29) (jg_wr (z104 - 7)))) from hc)
        refine jg_A (pc' := 42) rfl rfl (fun _ _ _ => rfl) ?_
        exact jg_zret rfl rfl (by decide) h
set_option maxRecDepth 100000 in
set_option maxHeartbeats 4000000 in
theorem jb_X12_layShortest_0 {w : Nat} {a0 : Nat} {σ : jg_M} {Q : jg_M → Prop} (h0 : jg_sh a0 = (12, 0)) (h : jg_GV w 3 mm_X12_layShortest 2 [.ref a0, .int (.ofInt 0), mj_U, mj_U, mj_U] σ Q) : jg_CV w 3 mm_X12_layShortest [.ref a0] σ Q := by
  show jg_G w 3 mm_X12_layShortest 0 [.ref a0, mj_U, mj_U, mj_U, mj_U] [] σ (jg_QV Q)
  refine jg_A (pc' := 1) rfl rfl (fun _ _ _ => rfl) ?_
  refine jg_A (pc' := 2) (ls' := [.ref a0, .int (.ofInt 0), mj_U, mj_U, mj_U]) rfl rfl (fun _ _ _ => rfl) ?_
  exact h
set_option maxRecDepth 100000 in
set_option maxHeartbeats 4000000 in
theorem jb_X12_layShortest_2 {w : Nat} {a0 : Nat} {x1 : Int} {u2 : Value} {u3 : Value} {u4 : Value} {σ : jg_M} {Q : jg_M → Prop} (h0 : jg_sh a0 = (12, 0)) (h : (if 5 ≤ jg_wr x1 then jg_GV w 3 mm_X12_layShortest 22 [.ref a0, .int (.ofInt 1), u2, u3, u4] σ Q else ((0 : Int) ≤ (jg_wr x1) ∧ (jg_wr x1) < (5 : Int)) ∧ ∀ m101 : jg_M, m101 = jg_sI σ (a0 + 29) (jg_wr x1) (-1) → jg_GV w 3 mm_X12_layShortest 2 [.ref a0, .int (.ofInt (x1 + 1)), u2, u3, u4] m101 Q)) : jg_GV w 3 mm_X12_layShortest 2 [.ref a0, .int (.ofInt x1), u2, u3, u4] σ Q := by
  show jg_G w 3 mm_X12_layShortest 2 [.ref a0, .int (.ofInt x1), u2, u3, u4] [] σ (jg_QV Q)
  refine jg_A (pc' := 3) rfl rfl (fun _ _ _ => rfl) ?_
  refine jg_A (pc' := 4) rfl rfl (fun _ _ _ => rfl) ?_
  refine jg_cge (pc' := 7) rfl rfl (fun hc => ?_) (fun hc => ?_)
  · have h := jg_t h (show 5 ≤ jg_wr x1 from hc)
    refine jg_A (pc' := 21) rfl rfl (fun _ _ _ => rfl) ?_
    refine jg_A (pc' := 22) (ls' := [.ref a0, .int (.ofInt 1), u2, u3, u4]) rfl rfl (fun _ _ _ => rfl) ?_
    exact h
  · have h := jg_f h (show ¬ (5 ≤ jg_wr x1) from hc)
    refine jg_A (pc' := 8) rfl rfl (fun _ _ _ => rfl) ?_
    refine jg_getO (pc' := 11) (k := 29) rfl h0 (by decide) rfl rfl ?_
    refine jg_A (pc' := 12) rfl rfl (fun _ _ _ => rfl) ?_
    refine jg_A (pc' := 13) rfl rfl (fun _ _ _ => rfl) ?_
    obtain ⟨hg, h⟩ := h
    refine jg_iast (pc' := 14) rfl (jg_sX12_43 h0) hg rfl (fun m101 hm101 => ?_)
    have h := h m101 hm101
    refine jg_iinc (pc' := 17) (ls' := [.ref a0, .int (.ofInt (x1 + 1)), u2, u3, u4]) rfl rfl rfl rfl ?_
    refine jg_goto rfl ?_
    exact h
set_option maxRecDepth 100000 in
set_option maxHeartbeats 4000000 in
theorem jb_X12_layShortest_22 {w : Nat} {a0 : Nat} {x1 : Int} {u2 : Value} {u3 : Value} {u4 : Value} {σ : jg_M} {Q : jg_M → Prop} (h0 : jg_sh a0 = (12, 0)) (h : (if jg_wr x1 = 0 then jg_CV w 2 mm_X12_layWays [.ref a0] σ (fun (m101 : jg_M) => Q m101) else jg_GV w 3 mm_X12_layShortest 30 [.ref a0, .int (.ofInt 0), .int (.ofInt 0), u3, u4] σ Q)) : jg_GV w 3 mm_X12_layShortest 22 [.ref a0, .int (.ofInt x1), u2, u3, u4] σ Q := by
  show jg_G w 3 mm_X12_layShortest 22 [.ref a0, .int (.ofInt x1), u2, u3, u4] [] σ (jg_QV Q)
  refine jg_A (pc' := 23) rfl rfl (fun _ _ _ => rfl) ?_
  refine jg_ifeq (pc' := 26) rfl rfl (fun hc => ?_) (fun hc => ?_)
  · have h := jg_t h (show jg_wr x1 = 0 from hc)
    refine jg_A (pc' := 138) rfl rfl (fun _ _ _ => rfl) ?_
    refine jg_calX (M1 := mm_X12_layWays) (hy := 2) (pc' := 141) rfl jm_X12_layWays (by decide) rfl h0 (by decide) ⟨Nat.le_of_ble_eq_true rfl, rfl⟩ (Nat.le_of_ble_eq_true rfl) rfl h (jg_kV (fun m101 h => ?_))
    exact jg_vret rfl rfl h
  · have h := jg_f h (show ¬ (jg_wr x1 = 0) from hc)
    refine jg_A (pc' := 27) rfl rfl (fun _ _ _ => rfl) ?_
    refine jg_A (pc' := 28) (ls' := [.ref a0, .int (.ofInt 0), u2, u3, u4]) rfl rfl (fun _ _ _ => rfl) ?_
    refine jg_A (pc' := 29) rfl rfl (fun _ _ _ => rfl) ?_
    refine jg_A (pc' := 30) (ls' := [.ref a0, .int (.ofInt 0), .int (.ofInt 0), u3, u4]) rfl rfl (fun _ _ _ => rfl) ?_
    exact h
set_option maxRecDepth 100000 in
set_option maxHeartbeats 4000000 in
theorem jb_X12_layShortest_30 {w : Nat} {a0 : Nat} {x1 : Int} {x2 : Int} {u3 : Value} {u4 : Value} {σ : jg_M} {Q : jg_M → Prop} (h0 : jg_sh a0 = (12, 0)) (h : (if jg_wr (σ.1 (a0 + 5) (0)) ≤ jg_wr x2 then jg_GV w 3 mm_X12_layShortest 22 [.ref a0, .int (.ofInt x1), .int (.ofInt x2), u3, u4] σ Q else ((0 : Int) ≤ jg_wr x2 ∧ jg_wr x2 < (26 : Int)) ∧ ∀ t101 : Int, t101 = (σ.1 (a0 + 10) (jg_wr x2)) → jg_CI w 1 mm_X12_isMade [.ref a0, .int (.ofInt x2)] σ (fun (z103 : Int) (m102 : jg_M) => (if jg_wr z103 = 0 then jg_GV w 3 mm_X12_layShortest 30 [.ref a0, .int (.ofInt x1), .int (.ofInt (x2 + 1)), .int (.ofInt t101), u4] m102 Q else ((0 : Int) ≤ jg_wr t101 ∧ jg_wr t101 < (5 : Int)) ∧ jg_CI w 0 mm_X12_isAhead [.ref a0, .ref (a0 + 30), .int (.ofInt (40 * t101)), .int (.ofInt (m102.1 (a0 + 29) (jg_wr t101)))] m102 (fun (z105 : Int) (m104 : jg_M) => (if jg_wr z105 = 0 then jg_GV w 3 mm_X12_layShortest 30 [.ref a0, .int (.ofInt x1), .int (.ofInt (x2 + 1)), .int (.ofInt t101), u4] m104 Q else jg_GV w 3 mm_X12_layShortest 82 [.ref a0, .int (.ofInt x1), .int (.ofInt x2), .int (.ofInt t101), .int (.ofInt 0)] m104 Q)))))) : jg_GV w 3 mm_X12_layShortest 30 [.ref a0, .int (.ofInt x1), .int (.ofInt x2), u3, u4] σ Q := by
  show jg_G w 3 mm_X12_layShortest 30 [.ref a0, .int (.ofInt x1), .int (.ofInt x2), u3, u4] [] σ (jg_QV Q)
  refine jg_A (pc' := 31) rfl rfl (fun _ _ _ => rfl) ?_
  refine jg_A (pc' := 32) rfl rfl (fun _ _ _ => rfl) ?_
  refine jg_getO (pc' := 35) (k := 5) rfl h0 (by decide) rfl rfl ?_
  refine jg_A (pc' := 36) rfl rfl (fun _ _ _ => rfl) ?_
  refine jg_ialdK (pc' := 37) (xi := 0) rfl (jg_sX12_14 h0) (by decide) (by decide) rfl ?_
  refine jg_cge (pc' := 40) rfl rfl (fun hc => ?_) (fun hc => ?_)
  · have h := jg_t h (show jg_wr (σ.1 (a0 + 5) (0)) ≤ jg_wr x2 from hc)
    refine jg_goto rfl ?_
    exact h
  · have h := jg_f h (show ¬ (jg_wr (σ.1 (a0 + 5) (0)) ≤ jg_wr x2) from hc)
    refine jg_A (pc' := 41) rfl rfl (fun _ _ _ => rfl) ?_
    refine jg_getO (pc' := 44) (k := 10) rfl h0 (by decide) rfl rfl ?_
    refine jg_A (pc' := 45) rfl rfl (fun _ _ _ => rfl) ?_
    obtain ⟨hg, h⟩ := h
    refine jg_iald (pc' := 46) rfl (jg_sX12_19 h0) hg rfl ?_
    refine jg_nm (F := fun t101 => jg_G w 3 mm_X12_layShortest 46 [.ref a0, .int (.ofInt x1), .int (.ofInt x2), u3, u4] [.int (.ofInt t101)] σ (jg_QV Q)) (σ.1 (a0 + 10) (jg_wr x2)) (fun t101 ht101 => ?_)
    have h := h t101 ht101
    refine jg_A (pc' := 47) (ls' := [.ref a0, .int (.ofInt x1), .int (.ofInt x2), .int (.ofInt t101), u4]) rfl rfl (fun _ _ _ => rfl) ?_
    refine jg_A (pc' := 48) rfl rfl (fun _ _ _ => rfl) ?_
    refine jg_A (pc' := 49) rfl rfl (fun _ _ _ => rfl) ?_
    refine jg_calX (M1 := mm_X12_isMade) (hy := 1) (pc' := 52) rfl jm_X12_isMade (by decide) rfl h0 (by decide) ⟨Nat.le_of_ble_eq_true rfl, rfl⟩ (Nat.le_of_ble_eq_true rfl) rfl h (jg_kI (fun z103 m102 h => ?_))
    refine jg_ifeq (pc' := 55) rfl rfl (fun hc => ?_) (fun hc => ?_)
    · have h := jg_t h (show jg_wr z103 = 0 from hc)
      refine jg_iinc (pc' := 131) (ls' := [.ref a0, .int (.ofInt x1), .int (.ofInt (x2 + 1)), .int (.ofInt t101), u4]) rfl rfl rfl rfl ?_
      refine jg_goto rfl ?_
      exact h
    · have h := jg_f h (show ¬ (jg_wr z103 = 0) from hc)
      refine jg_A (pc' := 56) rfl rfl (fun _ _ _ => rfl) ?_
      refine jg_A (pc' := 57) rfl rfl (fun _ _ _ => rfl) ?_
      refine jg_getO (pc' := 60) (k := 30) rfl h0 (by decide) rfl rfl ?_
      refine jg_A (pc' := 62) rfl rfl (fun _ _ _ => rfl) ?_
      refine jg_A (pc' := 63) rfl rfl (fun _ _ _ => rfl) ?_
      refine jg_imul (pc' := 64) rfl rfl ?_
      refine jg_A (pc' := 65) rfl rfl (fun _ _ _ => rfl) ?_
      refine jg_getO (pc' := 68) (k := 29) rfl h0 (by decide) rfl rfl ?_
      refine jg_A (pc' := 69) rfl rfl (fun _ _ _ => rfl) ?_
      obtain ⟨hg, h⟩ := h
      refine jg_iald (pc' := 70) rfl (jg_sX12_43 h0) hg rfl ?_
      refine jg_calX (M1 := mm_X12_isAhead) (hy := 0) (pc' := 73) rfl jm_X12_isAhead (by decide) rfl h0 (by decide) ⟨Nat.le_of_ble_eq_true rfl, rfl⟩ (Nat.le_of_ble_eq_true rfl) rfl h (jg_kI (fun z105 m104 h => ?_))
      refine jg_ifne (pc' := 76) rfl rfl (fun hc => ?_) (fun hc => ?_)
      · have h := jg_t h (show jg_wr z105 = 0 from hc)
        refine jg_goto rfl ?_
        refine jg_iinc (pc' := 131) (ls' := [.ref a0, .int (.ofInt x1), .int (.ofInt (x2 + 1)), .int (.ofInt t101), u4]) rfl rfl rfl rfl ?_
        refine jg_goto rfl ?_
        exact h
      · have h := jg_f h (show ¬ (jg_wr z105 = 0) from hc)
        refine jg_A (pc' := 80) rfl rfl (fun _ _ _ => rfl) ?_
        refine jg_A (pc' := 82) (ls' := [.ref a0, .int (.ofInt x1), .int (.ofInt x2), .int (.ofInt t101), .int (.ofInt 0)]) rfl rfl (fun _ _ _ => rfl) ?_
        exact h
set_option maxRecDepth 100000 in
set_option maxHeartbeats 4000000 in
theorem jb_X12_layShortest_82 {w : Nat} {a0 : Nat} {u1 : Value} {x2 : Int} {x3 : Int} {x4 : Int} {σ : jg_M} {Q : jg_M → Prop} (h0 : jg_sh a0 = (12, 0)) (h : (if jg_wr (σ.1 a0 48) ≤ jg_wr x4 then ((0 : Int) ≤ (jg_wr x3) ∧ (jg_wr x3) < (5 : Int)) ∧ ∀ m101 : jg_M, m101 = jg_sI σ (a0 + 29) (jg_wr x3) (σ.1 a0 48) → jg_GV w 3 mm_X12_layShortest 30 [.ref a0, .int (.ofInt 1), .int (.ofInt (x2 + 1)), .int (.ofInt x3), .int (.ofInt x4)] m101 Q else ((0 : Int) ≤ jg_wr x4 ∧ jg_wr x4 < (204 : Int)) ∧ ((0 : Int) ≤ (jg_wr ((40 * x3) + x4)) ∧ (jg_wr ((40 * x3) + x4)) < (200 : Int)) ∧ ∀ m102 : jg_M, m102 = jg_sI σ (a0 + 30) (jg_wr ((40 * x3) + x4)) (σ.1 (a0 + 33) (jg_wr x4)) → jg_GV w 3 mm_X12_layShortest 82 [.ref a0, u1, .int (.ofInt x2), .int (.ofInt x3), .int (.ofInt (x4 + 1))] m102 Q)) : jg_GV w 3 mm_X12_layShortest 82 [.ref a0, u1, .int (.ofInt x2), .int (.ofInt x3), .int (.ofInt x4)] σ Q := by
  show jg_G w 3 mm_X12_layShortest 82 [.ref a0, u1, .int (.ofInt x2), .int (.ofInt x3), .int (.ofInt x4)] [] σ (jg_QV Q)
  refine jg_A (pc' := 84) rfl rfl (fun _ _ _ => rfl) ?_
  refine jg_A (pc' := 85) rfl rfl (fun _ _ _ => rfl) ?_
  refine jg_getI (pc' := 88) (bi := 48) rfl h0 (by decide) (Or.inl rfl) rfl rfl ?_
  refine jg_cge (pc' := 91) rfl rfl (fun hc => ?_) (fun hc => ?_)
  · have h := jg_t h (show jg_wr (σ.1 a0 48) ≤ jg_wr x4 from hc)
    refine jg_A (pc' := 117) rfl rfl (fun _ _ _ => rfl) ?_
    refine jg_getO (pc' := 120) (k := 29) rfl h0 (by decide) rfl rfl ?_
    refine jg_A (pc' := 121) rfl rfl (fun _ _ _ => rfl) ?_
    refine jg_A (pc' := 122) rfl rfl (fun _ _ _ => rfl) ?_
    refine jg_getI (pc' := 125) (bi := 48) rfl h0 (by decide) (Or.inl rfl) rfl rfl ?_
    obtain ⟨hg, h⟩ := h
    refine jg_iast (pc' := 126) rfl (jg_sX12_43 h0) hg rfl (fun m101 hm101 => ?_)
    have h := h m101 hm101
    refine jg_A (pc' := 127) rfl rfl (fun _ _ _ => rfl) ?_
    refine jg_A (pc' := 128) (ls' := [.ref a0, .int (.ofInt 1), .int (.ofInt x2), .int (.ofInt x3), .int (.ofInt x4)]) rfl rfl (fun _ _ _ => rfl) ?_
    refine jg_iinc (pc' := 131) (ls' := [.ref a0, .int (.ofInt 1), .int (.ofInt (x2 + 1)), .int (.ofInt x3), .int (.ofInt x4)]) rfl rfl rfl rfl ?_
    refine jg_goto rfl ?_
    exact h
  · have h := jg_f h (show ¬ (jg_wr (σ.1 a0 48) ≤ jg_wr x4) from hc)
    refine jg_A (pc' := 92) rfl rfl (fun _ _ _ => rfl) ?_
    refine jg_getO (pc' := 95) (k := 30) rfl h0 (by decide) rfl rfl ?_
    refine jg_A (pc' := 97) rfl rfl (fun _ _ _ => rfl) ?_
    refine jg_A (pc' := 98) rfl rfl (fun _ _ _ => rfl) ?_
    refine jg_imul (pc' := 99) rfl rfl ?_
    refine jg_A (pc' := 101) rfl rfl (fun _ _ _ => rfl) ?_
    refine jg_iadd (pc' := 102) rfl rfl ?_
    refine jg_A (pc' := 103) rfl rfl (fun _ _ _ => rfl) ?_
    refine jg_getO (pc' := 106) (k := 33) rfl h0 (by decide) rfl rfl ?_
    refine jg_A (pc' := 108) rfl rfl (fun _ _ _ => rfl) ?_
    obtain ⟨hg, h⟩ := h
    refine jg_iald (pc' := 109) rfl (jg_sX12_47 h0) hg rfl ?_
    obtain ⟨hg, h⟩ := h
    refine jg_iast (pc' := 110) rfl (jg_sX12_44 h0) hg rfl (fun m102 hm102 => ?_)
    have h := h m102 hm102
    refine jg_iinc (pc' := 113) (ls' := [.ref a0, u1, .int (.ofInt x2), .int (.ofInt x3), .int (.ofInt (x4 + 1))]) rfl rfl rfl rfl ?_
    refine jg_goto rfl ?_
    exact h
set_option maxRecDepth 100000 in
set_option maxHeartbeats 4000000 in
theorem jb_X12_layWays_0 {w : Nat} {a0 : Nat} {σ : jg_M} {Q : jg_M → Prop} (h0 : jg_sh a0 = (12, 0)) (h : jg_GV w 2 mm_X12_layWays 2 [.ref a0, .int (.ofInt 0), mj_U, mj_U] σ Q) : jg_CV w 2 mm_X12_layWays [.ref a0] σ Q := by
  show jg_G w 2 mm_X12_layWays 0 [.ref a0, mj_U, mj_U, mj_U] [] σ (jg_QV Q)
  refine jg_A (pc' := 1) rfl rfl (fun _ _ _ => rfl) ?_
  refine jg_A (pc' := 2) (ls' := [.ref a0, .int (.ofInt 0), mj_U, mj_U]) rfl rfl (fun _ _ _ => rfl) ?_
  exact h
set_option maxRecDepth 100000 in
set_option maxHeartbeats 4000000 in
theorem jb_X12_layWays_2 {w : Nat} {a0 : Nat} {x1 : Int} {u2 : Value} {u3 : Value} {σ : jg_M} {Q : jg_M → Prop} (h0 : jg_sh a0 = (12, 0)) (h : (if 48 ≤ jg_wr x1 then jg_GV w 2 mm_X12_layWays 40 [.ref a0, .int (.ofInt 1), u2, u3] σ Q else (if jg_wr x1 = 0 then (if jg_wr (σ.1 (a0 + 13) (0)) ≤ 0 then ((0 : Int) ≤ (jg_wr x1) ∧ (jg_wr x1) < (48 : Int)) ∧ ∀ m101 : jg_M, m101 = jg_sI σ (a0 + 31) (jg_wr x1) (-1) → jg_GV w 2 mm_X12_layWays 2 [.ref a0, .int (.ofInt (x1 + 1)), u2, u3] m101 Q else ((0 : Int) ≤ (jg_wr x1) ∧ (jg_wr x1) < (48 : Int)) ∧ ∀ m102 : jg_M, m102 = jg_sI σ (a0 + 31) (jg_wr x1) 0 → jg_GV w 2 mm_X12_layWays 2 [.ref a0, .int (.ofInt (x1 + 1)), u2, u3] m102 Q) else ((0 : Int) ≤ (jg_wr x1) ∧ (jg_wr x1) < (48 : Int)) ∧ ∀ m103 : jg_M, m103 = jg_sI σ (a0 + 31) (jg_wr x1) (-1) → jg_GV w 2 mm_X12_layWays 2 [.ref a0, .int (.ofInt (x1 + 1)), u2, u3] m103 Q))) : jg_GV w 2 mm_X12_layWays 2 [.ref a0, .int (.ofInt x1), u2, u3] σ Q := by
  show jg_G w 2 mm_X12_layWays 2 [.ref a0, .int (.ofInt x1), u2, u3] [] σ (jg_QV Q)
  refine jg_A (pc' := 3) rfl rfl (fun _ _ _ => rfl) ?_
  refine jg_A (pc' := 5) rfl rfl (fun _ _ _ => rfl) ?_
  refine jg_cge (pc' := 8) rfl rfl (fun hc => ?_) (fun hc => ?_)
  · have h := jg_t h (show 48 ≤ jg_wr x1 from hc)
    refine jg_A (pc' := 39) rfl rfl (fun _ _ _ => rfl) ?_
    refine jg_A (pc' := 40) (ls' := [.ref a0, .int (.ofInt 1), u2, u3]) rfl rfl (fun _ _ _ => rfl) ?_
    exact h
  · have h := jg_f h (show ¬ (48 ≤ jg_wr x1) from hc)
    refine jg_A (pc' := 9) rfl rfl (fun _ _ _ => rfl) ?_
    refine jg_getO (pc' := 12) (k := 31) rfl h0 (by decide) rfl rfl ?_
    refine jg_A (pc' := 13) rfl rfl (fun _ _ _ => rfl) ?_
    refine jg_A (pc' := 14) rfl rfl (fun _ _ _ => rfl) ?_
    refine jg_ifne (pc' := 17) rfl rfl (fun hc => ?_) (fun hc => ?_)
    · have h := jg_t h (show jg_wr x1 = 0 from hc)
      refine jg_A (pc' := 18) rfl rfl (fun _ _ _ => rfl) ?_
      refine jg_getO (pc' := 21) (k := 13) rfl h0 (by decide) rfl rfl ?_
      refine jg_A (pc' := 22) rfl rfl (fun _ _ _ => rfl) ?_
      refine jg_ialdK (pc' := 23) (xi := 0) rfl (jg_sX12_22 h0) (by decide) (by decide) rfl ?_
      refine jg_ifle (pc' := 26) rfl rfl (fun hc => ?_) (fun hc => ?_)
      · have h := jg_t h (show jg_wr (σ.1 (a0 + 13) (0)) ≤ 0 from hc)
        refine jg_A (pc' := 31) rfl rfl (fun _ _ _ => rfl) ?_
        obtain ⟨hg, h⟩ := h
        refine jg_iast (pc' := 32) rfl (jg_sX12_45 h0) hg rfl (fun m101 hm101 => ?_)
        have h := h m101 hm101
        refine jg_iinc (pc' := 35) (ls' := [.ref a0, .int (.ofInt (x1 + 1)), u2, u3]) rfl rfl rfl rfl ?_
        refine jg_goto rfl ?_
        exact h
      · have h := jg_f h (show ¬ (jg_wr (σ.1 (a0 + 13) (0)) ≤ 0) from hc)
        refine jg_A (pc' := 27) rfl rfl (fun _ _ _ => rfl) ?_
        refine jg_goto rfl ?_
        obtain ⟨hg, h⟩ := h
        refine jg_iast (pc' := 32) rfl (jg_sX12_45 h0) hg rfl (fun m102 hm102 => ?_)
        have h := h m102 hm102
        refine jg_iinc (pc' := 35) (ls' := [.ref a0, .int (.ofInt (x1 + 1)), u2, u3]) rfl rfl rfl rfl ?_
        refine jg_goto rfl ?_
        exact h
    · have h := jg_f h (show ¬ (jg_wr x1 = 0) from hc)
      refine jg_A (pc' := 31) rfl rfl (fun _ _ _ => rfl) ?_
      obtain ⟨hg, h⟩ := h
      refine jg_iast (pc' := 32) rfl (jg_sX12_45 h0) hg rfl (fun m103 hm103 => ?_)
      have h := h m103 hm103
      refine jg_iinc (pc' := 35) (ls' := [.ref a0, .int (.ofInt (x1 + 1)), u2, u3]) rfl rfl rfl rfl ?_
      refine jg_goto rfl ?_
      exact h
set_option maxRecDepth 100000 in
set_option maxHeartbeats 4000000 in
theorem jb_X12_layWays_40 {w : Nat} {a0 : Nat} {x1 : Int} {u2 : Value} {u3 : Value} {σ : jg_M} {Q : jg_M → Prop} (h0 : jg_sh a0 = (12, 0)) (h : (if jg_wr x1 = 0 then Q σ else jg_GV w 2 mm_X12_layWays 48 [.ref a0, .int (.ofInt 0), .int (.ofInt 0), u3] σ Q)) : jg_GV w 2 mm_X12_layWays 40 [.ref a0, .int (.ofInt x1), u2, u3] σ Q := by
  show jg_G w 2 mm_X12_layWays 40 [.ref a0, .int (.ofInt x1), u2, u3] [] σ (jg_QV Q)
  refine jg_A (pc' := 41) rfl rfl (fun _ _ _ => rfl) ?_
  refine jg_ifeq (pc' := 44) rfl rfl (fun hc => ?_) (fun hc => ?_)
  · have h := jg_t h (show jg_wr x1 = 0 from hc)
    exact jg_vret rfl rfl h
  · have h := jg_f h (show ¬ (jg_wr x1 = 0) from hc)
    refine jg_A (pc' := 45) rfl rfl (fun _ _ _ => rfl) ?_
    refine jg_A (pc' := 46) (ls' := [.ref a0, .int (.ofInt 0), u2, u3]) rfl rfl (fun _ _ _ => rfl) ?_
    refine jg_A (pc' := 47) rfl rfl (fun _ _ _ => rfl) ?_
    refine jg_A (pc' := 48) (ls' := [.ref a0, .int (.ofInt 0), .int (.ofInt 0), u3]) rfl rfl (fun _ _ _ => rfl) ?_
    exact h
set_option maxRecDepth 100000 in
set_option maxHeartbeats 4000000 in
theorem jb_X12_layWays_48 {w : Nat} {a0 : Nat} {x1 : Int} {x2 : Int} {u3 : Value} {σ : jg_M} {Q : jg_M → Prop} (h0 : jg_sh a0 = (12, 0)) (h : (if jg_wr (σ.1 (a0 + 13) (0)) ≤ jg_wr x2 then jg_GV w 2 mm_X12_layWays 40 [.ref a0, .int (.ofInt x1), .int (.ofInt x2), u3] σ Q else jg_GV w 2 mm_X12_layWays 60 [.ref a0, .int (.ofInt x1), .int (.ofInt x2), .int (.ofInt 0)] σ Q)) : jg_GV w 2 mm_X12_layWays 48 [.ref a0, .int (.ofInt x1), .int (.ofInt x2), u3] σ Q := by
  show jg_G w 2 mm_X12_layWays 48 [.ref a0, .int (.ofInt x1), .int (.ofInt x2), u3] [] σ (jg_QV Q)
  refine jg_A (pc' := 49) rfl rfl (fun _ _ _ => rfl) ?_
  refine jg_A (pc' := 50) rfl rfl (fun _ _ _ => rfl) ?_
  refine jg_getO (pc' := 53) (k := 13) rfl h0 (by decide) rfl rfl ?_
  refine jg_A (pc' := 54) rfl rfl (fun _ _ _ => rfl) ?_
  refine jg_ialdK (pc' := 55) (xi := 0) rfl (jg_sX12_22 h0) (by decide) (by decide) rfl ?_
  refine jg_cge (pc' := 58) rfl rfl (fun hc => ?_) (fun hc => ?_)
  · have h := jg_t h (show jg_wr (σ.1 (a0 + 13) (0)) ≤ jg_wr x2 from hc)
    refine jg_goto rfl ?_
    exact h
  · have h := jg_f h (show ¬ (jg_wr (σ.1 (a0 + 13) (0)) ≤ jg_wr x2) from hc)
    refine jg_A (pc' := 59) rfl rfl (fun _ _ _ => rfl) ?_
    refine jg_A (pc' := 60) (ls' := [.ref a0, .int (.ofInt x1), .int (.ofInt x2), .int (.ofInt 0)]) rfl rfl (fun _ _ _ => rfl) ?_
    exact h
set_option maxRecDepth 100000 in
set_option maxHeartbeats 4000000 in
theorem jb_X12_layWays_60 {w : Nat} {a0 : Nat} {x1 : Int} {x2 : Int} {x3 : Int} {σ : jg_M} {Q : jg_M → Prop} (h0 : jg_sh a0 = (12, 0)) (h : (if 12 ≤ jg_wr x3 then jg_GV w 2 mm_X12_layWays 48 [.ref a0, .int (.ofInt x1), .int (.ofInt (x2 + 1)), .int (.ofInt x3)] σ Q else jg_CI w 1 mm_X12_isNearer [.ref a0, .int (.ofInt x2), .int (.ofInt x3)] σ (fun (z102 : Int) (m101 : jg_M) => ∀ t103 : Int, t103 = (jg_or x1 z102) → jg_GV w 2 mm_X12_layWays 60 [.ref a0, .int (.ofInt t103), .int (.ofInt x2), .int (.ofInt (x3 + 1))] m101 Q))) : jg_GV w 2 mm_X12_layWays 60 [.ref a0, .int (.ofInt x1), .int (.ofInt x2), .int (.ofInt x3)] σ Q := by
  show jg_G w 2 mm_X12_layWays 60 [.ref a0, .int (.ofInt x1), .int (.ofInt x2), .int (.ofInt x3)] [] σ (jg_QV Q)
  refine jg_A (pc' := 61) rfl rfl (fun _ _ _ => rfl) ?_
  refine jg_A (pc' := 63) rfl rfl (fun _ _ _ => rfl) ?_
  refine jg_cge (pc' := 66) rfl rfl (fun hc => ?_) (fun hc => ?_)
  · have h := jg_t h (show 12 ≤ jg_wr x3 from hc)
    refine jg_iinc (pc' := 84) (ls' := [.ref a0, .int (.ofInt x1), .int (.ofInt (x2 + 1)), .int (.ofInt x3)]) rfl rfl rfl rfl ?_
    refine jg_goto rfl ?_
    exact h
  · have h := jg_f h (show ¬ (12 ≤ jg_wr x3) from hc)
    refine jg_A (pc' := 67) rfl rfl (fun _ _ _ => rfl) ?_
    refine jg_A (pc' := 68) rfl rfl (fun _ _ _ => rfl) ?_
    refine jg_A (pc' := 69) rfl rfl (fun _ _ _ => rfl) ?_
    refine jg_A (pc' := 70) rfl rfl (fun _ _ _ => rfl) ?_
    refine jg_calX (M1 := mm_X12_isNearer) (hy := 1) (pc' := 73) rfl jm_X12_isNearer (by decide) rfl h0 (by decide) ⟨Nat.le_of_ble_eq_true rfl, rfl⟩ (Nat.le_of_ble_eq_true rfl) rfl h (jg_kI (fun z102 m101 h => ?_))
    refine jg_ior (pc' := 74) rfl rfl ?_
    refine jg_nm (F := fun t103 => jg_G w 2 mm_X12_layWays 74 [.ref a0, .int (.ofInt x1), .int (.ofInt x2), .int (.ofInt x3)] [.int (.ofInt t103)] m101 (jg_QV Q)) (jg_or x1 z102) (fun t103 ht103 => ?_)
    have h := h t103 ht103
    refine jg_A (pc' := 75) (ls' := [.ref a0, .int (.ofInt t103), .int (.ofInt x2), .int (.ofInt x3)]) rfl rfl (fun _ _ _ => rfl) ?_
    refine jg_iinc (pc' := 78) (ls' := [.ref a0, .int (.ofInt t103), .int (.ofInt x2), .int (.ofInt (x3 + 1))]) rfl rfl rfl rfl ?_
    refine jg_goto rfl ?_
    exact h
set_option maxRecDepth 100000 in
set_option maxHeartbeats 4000000 in
theorem jb_X12_isNearer_0 {w : Nat} {a0 : Nat} {x1 : Int} {x2 : Int} {σ : jg_M} {Q : Int → jg_M → Prop} (h0 : jg_sh a0 = (12, 0)) (h : ((0 : Int) ≤ jg_wr ((12 * x1) + x2) ∧ jg_wr ((12 * x1) + x2) < (1152 : Int)) ∧ ∀ t101 : Int, t101 = (σ.1 (a0 + 16) (jg_wr ((12 * x1) + x2))) → (if jg_wr t101 < 0 then Q 0 σ else ((0 : Int) ≤ jg_wr x1 ∧ jg_wr x1 < (48 : Int)) ∧ (if jg_wr (σ.1 (a0 + 31) (jg_wr x1)) < 0 then Q 0 σ else (if jg_wr x2 < 7 then ((0 : Int) ≤ jg_wr x1 ∧ jg_wr x1 < (48 : Int)) ∧ ∀ m102 : jg_M, m102 = jg_sI σ a0 48 (σ.1 (a0 + 31) (jg_wr x1)) → jg_GI w 1 mm_X12_isNearer 58 [.ref a0, .int (.ofInt x1), .int (.ofInt x2), .int (.ofInt t101), .int (.ofInt 0)] m102 Q else ((0 : Int) ≤ jg_wr (x2 - 7) ∧ jg_wr (x2 - 7) < (5 : Int)) ∧ (if 0 ≤ jg_wr (σ.1 (a0 + 29) (jg_wr (x2 - 7))) then ((0 : Int) ≤ jg_wr x1 ∧ jg_wr x1 < (48 : Int)) ∧ ∀ m103 : jg_M, m103 = jg_sI σ a0 48 (σ.1 (a0 + 31) (jg_wr x1)) → jg_GI w 1 mm_X12_isNearer 58 [.ref a0, .int (.ofInt x1), .int (.ofInt x2), .int (.ofInt t101), .int (.ofInt 0)] m103 Q else Q 0 σ))))) : jg_CI w 1 mm_X12_isNearer [.ref a0, .int (.ofInt x1), .int (.ofInt x2)] σ Q := by
  show jg_G w 1 mm_X12_isNearer 0 [.ref a0, .int (.ofInt x1), .int (.ofInt x2), mj_U, mj_U] [] σ (jg_QI Q)
  refine jg_A (pc' := 1) rfl rfl (fun _ _ _ => rfl) ?_
  refine jg_getO (pc' := 4) (k := 16) rfl h0 (by decide) rfl rfl ?_
  refine jg_A (pc' := 6) rfl rfl (fun _ _ _ => rfl) ?_
  refine jg_A (pc' := 7) rfl rfl (fun _ _ _ => rfl) ?_
  refine jg_imul (pc' := 8) rfl rfl ?_
  refine jg_A (pc' := 9) rfl rfl (fun _ _ _ => rfl) ?_
  refine jg_iadd (pc' := 10) rfl rfl ?_
  obtain ⟨hg, h⟩ := h
  refine jg_iald (pc' := 11) rfl (jg_sX12_25 h0) hg rfl ?_
  refine jg_nm (F := fun t101 => jg_G w 1 mm_X12_isNearer 11 [.ref a0, .int (.ofInt x1), .int (.ofInt x2), mj_U, mj_U] [.int (.ofInt t101)] σ (jg_QI Q)) (σ.1 (a0 + 16) (jg_wr ((12 * x1) + x2))) (fun t101 ht101 => ?_)
  have h := h t101 ht101
  refine jg_A (pc' := 12) (ls' := [.ref a0, .int (.ofInt x1), .int (.ofInt x2), .int (.ofInt t101), mj_U]) rfl rfl (fun _ _ _ => rfl) ?_
  refine jg_A (pc' := 13) rfl rfl (fun _ _ _ => rfl) ?_
  refine jg_iflt (pc' := 16) rfl rfl (fun hc => ?_) (fun hc => ?_)
  · have h := jg_t h (show jg_wr t101 < 0 from hc)
    refine jg_A (pc' := 44) rfl rfl (fun _ _ _ => rfl) ?_
    exact jg_zret rfl rfl (by decide) h
  · have h := jg_f h (show ¬ (jg_wr t101 < 0) from hc)
    refine jg_A (pc' := 17) rfl rfl (fun _ _ _ => rfl) ?_
    refine jg_getO (pc' := 20) (k := 31) rfl h0 (by decide) rfl rfl ?_
    refine jg_A (pc' := 21) rfl rfl (fun _ _ _ => rfl) ?_
    obtain ⟨hg, h⟩ := h
    refine jg_iald (pc' := 22) rfl (jg_sX12_45 h0) hg rfl ?_
    refine jg_iflt (pc' := 25) rfl rfl (fun hc => ?_) (fun hc => ?_)
    · have h := jg_t h (show jg_wr (σ.1 (a0 + 31) (jg_wr x1)) < 0 from hc)
      refine jg_A (pc' := 44) rfl rfl (fun _ _ _ => rfl) ?_
      exact jg_zret rfl rfl (by decide) h
    · have h := jg_f h (show ¬ (jg_wr (σ.1 (a0 + 31) (jg_wr x1)) < 0) from hc)
      refine jg_A (pc' := 26) rfl rfl (fun _ _ _ => rfl) ?_
      refine jg_A (pc' := 28) rfl rfl (fun _ _ _ => rfl) ?_
      refine jg_clt (pc' := 31) rfl rfl (fun hc => ?_) (fun hc => ?_)
      · have h := jg_t h (show jg_wr x2 < 7 from hc)
        refine jg_A (pc' := 46) rfl rfl (fun _ _ _ => rfl) ?_
        refine jg_A (pc' := 47) rfl rfl (fun _ _ _ => rfl) ?_
        refine jg_getO (pc' := 50) (k := 31) rfl h0 (by decide) rfl rfl ?_
        refine jg_A (pc' := 51) rfl rfl (fun _ _ _ => rfl) ?_
        obtain ⟨hg, h⟩ := h
        refine jg_iald (pc' := 52) rfl (jg_sX12_45 h0) hg rfl ?_
        refine jg_putI (pc' := 55) (bi := 48) rfl h0 (by decide) rfl rfl rfl rfl (fun m102 hm102 => ?_)
        have h := h m102 hm102
        refine jg_A (pc' := 56) rfl rfl (fun _ _ _ => rfl) ?_
        refine jg_A (pc' := 58) (ls' := [.ref a0, .int (.ofInt x1), .int (.ofInt x2), .int (.ofInt t101), .int (.ofInt 0)]) rfl rfl (fun _ _ _ => rfl) ?_
        exact h
      · have h := jg_f h (show ¬ (jg_wr x2 < 7) from hc)
        refine jg_A (pc' := 32) rfl rfl (fun _ _ _ => rfl) ?_
        refine jg_getO (pc' := 35) (k := 29) rfl h0 (by decide) rfl rfl ?_
        refine jg_A (pc' := 36) rfl rfl (fun _ _ _ => rfl) ?_
        refine jg_A (pc' := 38) rfl rfl (fun _ _ _ => rfl) ?_
        refine jg_isub (pc' := 39) rfl rfl ?_
        obtain ⟨hg, h⟩ := h
        refine jg_iald (pc' := 40) rfl (jg_sX12_43 h0) hg rfl ?_
        refine jg_ifge (pc' := 43) rfl rfl (fun hc => ?_) (fun hc => ?_)
        · have h := jg_t h (show 0 ≤ jg_wr (σ.1 (a0 + 29) (jg_wr (x2 - 7))) from hc)
          refine jg_A (pc' := 46) rfl rfl (fun _ _ _ => rfl) ?_
          refine jg_A (pc' := 47) rfl rfl (fun _ _ _ => rfl) ?_
          refine jg_getO (pc' := 50) (k := 31) rfl h0 (by decide) rfl rfl ?_
          refine jg_A (pc' := 51) rfl rfl (fun _ _ _ => rfl) ?_
          obtain ⟨hg, h⟩ := h
          refine jg_iald (pc' := 52) rfl (jg_sX12_45 h0) hg rfl ?_
          refine jg_putI (pc' := 55) (bi := 48) rfl h0 (by decide) rfl rfl rfl rfl (fun m103 hm103 => ?_)
          have h := h m103 hm103
          refine jg_A (pc' := 56) rfl rfl (fun _ _ _ => rfl) ?_
          refine jg_A (pc' := 58) (ls' := [.ref a0, .int (.ofInt x1), .int (.ofInt x2), .int (.ofInt t101), .int (.ofInt 0)]) rfl rfl (fun _ _ _ => rfl) ?_
          exact h
        · have h := jg_f h (show ¬ (0 ≤ jg_wr (σ.1 (a0 + 29) (jg_wr (x2 - 7)))) from hc)
          refine jg_A (pc' := 44) rfl rfl (fun _ _ _ => rfl) ?_
          exact jg_zret rfl rfl (by decide) h
set_option maxRecDepth 100000 in
set_option maxHeartbeats 4000000 in
theorem jb_X12_isNearer_58 {w : Nat} {a0 : Nat} {x1 : Int} {x2 : Int} {x3 : Int} {x4 : Int} {σ : jg_M} {Q : Int → jg_M → Prop} (h0 : jg_sh a0 = (12, 0)) (h : (if jg_wr (σ.1 a0 48) ≤ jg_wr x4 then (if jg_wr x2 < 7 then ((0 : Int) ≤ (jg_wr (σ.1 a0 48)) ∧ (jg_wr (σ.1 a0 48)) < (204 : Int)) ∧ ∀ m101 : jg_M, m101 = jg_sI σ (a0 + 33) (jg_wr (σ.1 a0 48)) x2 → ∀ m102 : jg_M, m102 = jg_sI m101 a0 48 ((m101.1 a0 48) + 1) → (if 60 < jg_wr (m102.1 a0 48) then Q 0 m102 else ((0 : Int) ≤ jg_wr x3 ∧ jg_wr x3 < (48 : Int)) ∧ jg_CI w 0 mm_X12_isAhead [.ref a0, .ref (a0 + 32), .int (.ofInt (60 * x3)), .int (.ofInt (m102.1 (a0 + 31) (jg_wr x3)))] m102 (fun (z104 : Int) (m103 : jg_M) => (if jg_wr z104 = 0 then Q 0 m103 else jg_GI w 1 mm_X12_isNearer 164 [.ref a0, .int (.ofInt x1), .int (.ofInt x2), .int (.ofInt x3), .int (.ofInt 0)] m103 Q))) else jg_CV w 0 mm_X12_addRow [.ref a0, .int (.ofInt (x2 - 7))] σ (fun (m105 : jg_M) => (if 60 < jg_wr (m105.1 a0 48) then Q 0 m105 else ((0 : Int) ≤ jg_wr x3 ∧ jg_wr x3 < (48 : Int)) ∧ jg_CI w 0 mm_X12_isAhead [.ref a0, .ref (a0 + 32), .int (.ofInt (60 * x3)), .int (.ofInt (m105.1 (a0 + 31) (jg_wr x3)))] m105 (fun (z107 : Int) (m106 : jg_M) => (if jg_wr z107 = 0 then Q 0 m106 else jg_GI w 1 mm_X12_isNearer 164 [.ref a0, .int (.ofInt x1), .int (.ofInt x2), .int (.ofInt x3), .int (.ofInt 0)] m106 Q))))) else ((0 : Int) ≤ jg_wr ((60 * x1) + x4) ∧ jg_wr ((60 * x1) + x4) < (2880 : Int)) ∧ ((0 : Int) ≤ (jg_wr x4) ∧ (jg_wr x4) < (204 : Int)) ∧ ∀ m108 : jg_M, m108 = jg_sI σ (a0 + 33) (jg_wr x4) (σ.1 (a0 + 32) (jg_wr ((60 * x1) + x4))) → jg_GI w 1 mm_X12_isNearer 58 [.ref a0, .int (.ofInt x1), .int (.ofInt x2), .int (.ofInt x3), .int (.ofInt (x4 + 1))] m108 Q)) : jg_GI w 1 mm_X12_isNearer 58 [.ref a0, .int (.ofInt x1), .int (.ofInt x2), .int (.ofInt x3), .int (.ofInt x4)] σ Q := by
  show jg_G w 1 mm_X12_isNearer 58 [.ref a0, .int (.ofInt x1), .int (.ofInt x2), .int (.ofInt x3), .int (.ofInt x4)] [] σ (jg_QI Q)
  refine jg_A (pc' := 60) rfl rfl (fun _ _ _ => rfl) ?_
  refine jg_A (pc' := 61) rfl rfl (fun _ _ _ => rfl) ?_
  refine jg_getI (pc' := 64) (bi := 48) rfl h0 (by decide) (Or.inl rfl) rfl rfl ?_
  refine jg_cge (pc' := 67) rfl rfl (fun hc => ?_) (fun hc => ?_)
  · have h := jg_t h (show jg_wr (σ.1 a0 48) ≤ jg_wr x4 from hc)
    refine jg_A (pc' := 93) rfl rfl (fun _ _ _ => rfl) ?_
    refine jg_A (pc' := 95) rfl rfl (fun _ _ _ => rfl) ?_
    refine jg_clt (pc' := 98) rfl rfl (fun hc => ?_) (fun hc => ?_)
    · have h := jg_t h (show jg_wr x2 < 7 from hc)
      refine jg_A (pc' := 110) rfl rfl (fun _ _ _ => rfl) ?_
      refine jg_getO (pc' := 113) (k := 33) rfl h0 (by decide) rfl rfl ?_
      refine jg_A (pc' := 114) rfl rfl (fun _ _ _ => rfl) ?_
      refine jg_getI (pc' := 117) (bi := 48) rfl h0 (by decide) (Or.inl rfl) rfl rfl ?_
      refine jg_A (pc' := 118) rfl rfl (fun _ _ _ => rfl) ?_
      obtain ⟨hg, h⟩ := h
      refine jg_iast (pc' := 119) rfl (jg_sX12_47 h0) hg rfl (fun m101 hm101 => ?_)
      have h := h m101 hm101
      refine jg_A (pc' := 120) rfl rfl (fun _ _ _ => rfl) ?_
      refine jg_A (pc' := 121) rfl rfl (fun _ _ _ => rfl) ?_
      refine jg_getI (pc' := 124) (bi := 48) rfl h0 (by decide) (Or.inl rfl) rfl rfl ?_
      refine jg_A (pc' := 125) rfl rfl (fun _ _ _ => rfl) ?_
      refine jg_iadd (pc' := 126) rfl rfl ?_
      refine jg_putI (pc' := 129) (bi := 48) rfl h0 (by decide) rfl rfl rfl rfl (fun m102 hm102 => ?_)
      have h := h m102 hm102
      refine jg_A (pc' := 130) rfl rfl (fun _ _ _ => rfl) ?_
      refine jg_getI (pc' := 133) (bi := 48) rfl h0 (by decide) (Or.inl rfl) rfl rfl ?_
      refine jg_A (pc' := 135) rfl rfl (fun _ _ _ => rfl) ?_
      refine jg_cgt (pc' := 138) rfl rfl (fun hc => ?_) (fun hc => ?_)
      · have h := jg_t h (show 60 < jg_wr (m102.1 a0 48) from hc)
        refine jg_A (pc' := 160) rfl rfl (fun _ _ _ => rfl) ?_
        exact jg_zret rfl rfl (by decide) h
      · have h := jg_f h (show ¬ (60 < jg_wr (m102.1 a0 48)) from hc)
        refine jg_A (pc' := 139) rfl rfl (fun _ _ _ => rfl) ?_
        refine jg_A (pc' := 140) rfl rfl (fun _ _ _ => rfl) ?_
        refine jg_getO (pc' := 143) (k := 32) rfl h0 (by decide) rfl rfl ?_
        refine jg_A (pc' := 145) rfl rfl (fun _ _ _ => rfl) ?_
        refine jg_A (pc' := 146) rfl rfl (fun _ _ _ => rfl) ?_
        refine jg_imul (pc' := 147) rfl rfl ?_
        refine jg_A (pc' := 148) rfl rfl (fun _ _ _ => rfl) ?_
        refine jg_getO (pc' := 151) (k := 31) rfl h0 (by decide) rfl rfl ?_
        refine jg_A (pc' := 152) rfl rfl (fun _ _ _ => rfl) ?_
        obtain ⟨hg, h⟩ := h
        refine jg_iald (pc' := 153) rfl (jg_sX12_45 h0) hg rfl ?_
        refine jg_calX (M1 := mm_X12_isAhead) (hy := 0) (pc' := 156) rfl jm_X12_isAhead (by decide) rfl h0 (by decide) ⟨Nat.le_of_ble_eq_true rfl, rfl⟩ (Nat.le_of_ble_eq_true rfl) rfl h (jg_kI (fun z104 m103 h => ?_))
        refine jg_ifne (pc' := 159) rfl rfl (fun hc => ?_) (fun hc => ?_)
        · have h := jg_t h (show jg_wr z104 = 0 from hc)
          refine jg_A (pc' := 160) rfl rfl (fun _ _ _ => rfl) ?_
          exact jg_zret rfl rfl (by decide) h
        · have h := jg_f h (show ¬ (jg_wr z104 = 0) from hc)
          refine jg_A (pc' := 162) rfl rfl (fun _ _ _ => rfl) ?_
          refine jg_A (pc' := 164) (ls' := [.ref a0, .int (.ofInt x1), .int (.ofInt x2), .int (.ofInt x3), .int (.ofInt 0)]) rfl rfl (fun _ _ _ => rfl) ?_
          exact h
    · have h := jg_f h (show ¬ (jg_wr x2 < 7) from hc)
      refine jg_A (pc' := 99) rfl rfl (fun _ _ _ => rfl) ?_
      refine jg_A (pc' := 100) rfl rfl (fun _ _ _ => rfl) ?_
      refine jg_A (pc' := 102) rfl rfl (fun _ _ _ => rfl) ?_
      refine jg_isub (pc' := 103) rfl rfl ?_
      refine jg_calX (M1 := mm_X12_addRow) (hy := 0) (pc' := 106) rfl jm_X12_addRow (by decide) rfl h0 (by decide) ⟨Nat.le_of_ble_eq_true rfl, rfl⟩ (Nat.le_of_ble_eq_true rfl) rfl h (jg_kV (fun m105 h => ?_))
      refine jg_goto rfl ?_
      refine jg_A (pc' := 130) rfl rfl (fun _ _ _ => rfl) ?_
      refine jg_getI (pc' := 133) (bi := 48) rfl h0 (by decide) (Or.inl rfl) rfl rfl ?_
      refine jg_A (pc' := 135) rfl rfl (fun _ _ _ => rfl) ?_
      refine jg_cgt (pc' := 138) rfl rfl (fun hc => ?_) (fun hc => ?_)
      · have h := jg_t h (show 60 < jg_wr (m105.1 a0 48) from hc)
        refine jg_A (pc' := 160) rfl rfl (fun _ _ _ => rfl) ?_
        exact jg_zret rfl rfl (by decide) h
      · have h := jg_f h (show ¬ (60 < jg_wr (m105.1 a0 48)) from hc)
        refine jg_A (pc' := 139) rfl rfl (fun _ _ _ => rfl) ?_
        refine jg_A (pc' := 140) rfl rfl (fun _ _ _ => rfl) ?_
        refine jg_getO (pc' := 143) (k := 32) rfl h0 (by decide) rfl rfl ?_
        refine jg_A (pc' := 145) rfl rfl (fun _ _ _ => rfl) ?_
        refine jg_A (pc' := 146) rfl rfl (fun _ _ _ => rfl) ?_
        refine jg_imul (pc' := 147) rfl rfl ?_
        refine jg_A (pc' := 148) rfl rfl (fun _ _ _ => rfl) ?_
        refine jg_getO (pc' := 151) (k := 31) rfl h0 (by decide) rfl rfl ?_
        refine jg_A (pc' := 152) rfl rfl (fun _ _ _ => rfl) ?_
        obtain ⟨hg, h⟩ := h
        refine jg_iald (pc' := 153) rfl (jg_sX12_45 h0) hg rfl ?_
        refine jg_calX (M1 := mm_X12_isAhead) (hy := 0) (pc' := 156) rfl jm_X12_isAhead (by decide) rfl h0 (by decide) ⟨Nat.le_of_ble_eq_true rfl, rfl⟩ (Nat.le_of_ble_eq_true rfl) rfl h (jg_kI (fun z107 m106 h => ?_))
        refine jg_ifne (pc' := 159) rfl rfl (fun hc => ?_) (fun hc => ?_)
        · have h := jg_t h (show jg_wr z107 = 0 from hc)
          refine jg_A (pc' := 160) rfl rfl (fun _ _ _ => rfl) ?_
          exact jg_zret rfl rfl (by decide) h
        · have h := jg_f h (show ¬ (jg_wr z107 = 0) from hc)
          refine jg_A (pc' := 162) rfl rfl (fun _ _ _ => rfl) ?_
          refine jg_A (pc' := 164) (ls' := [.ref a0, .int (.ofInt x1), .int (.ofInt x2), .int (.ofInt x3), .int (.ofInt 0)]) rfl rfl (fun _ _ _ => rfl) ?_
          exact h
  · have h := jg_f h (show ¬ (jg_wr (σ.1 a0 48) ≤ jg_wr x4) from hc)
    refine jg_A (pc' := 68) rfl rfl (fun _ _ _ => rfl) ?_
    refine jg_getO (pc' := 71) (k := 33) rfl h0 (by decide) rfl rfl ?_
    refine jg_A (pc' := 73) rfl rfl (fun _ _ _ => rfl) ?_
    refine jg_A (pc' := 74) rfl rfl (fun _ _ _ => rfl) ?_
    refine jg_getO (pc' := 77) (k := 32) rfl h0 (by decide) rfl rfl ?_
    refine jg_A (pc' := 79) rfl rfl (fun _ _ _ => rfl) ?_
    refine jg_A (pc' := 80) rfl rfl (fun _ _ _ => rfl) ?_
    refine jg_imul (pc' := 81) rfl rfl ?_
    refine jg_A (pc' := 83) rfl rfl (fun _ _ _ => rfl) ?_
    refine jg_iadd (pc' := 84) rfl rfl ?_
    obtain ⟨hg, h⟩ := h
    refine jg_iald (pc' := 85) rfl (jg_sX12_46 h0) hg rfl ?_
    obtain ⟨hg, h⟩ := h
    refine jg_iast (pc' := 86) rfl (jg_sX12_47 h0) hg rfl (fun m108 hm108 => ?_)
    have h := h m108 hm108
    refine jg_iinc (pc' := 89) (ls' := [.ref a0, .int (.ofInt x1), .int (.ofInt x2), .int (.ofInt x3), .int (.ofInt (x4 + 1))]) rfl rfl rfl rfl ?_
    refine jg_goto rfl ?_
    exact h
set_option maxRecDepth 100000 in
set_option maxHeartbeats 4000000 in
theorem jb_X12_isNearer_164 {w : Nat} {a0 : Nat} {u1 : Value} {u2 : Value} {x3 : Int} {x4 : Int} {σ : jg_M} {Q : Int → jg_M → Prop} (h0 : jg_sh a0 = (12, 0)) (h : (if jg_wr (σ.1 a0 48) ≤ jg_wr x4 then ((0 : Int) ≤ (jg_wr x3) ∧ (jg_wr x3) < (48 : Int)) ∧ ∀ m101 : jg_M, m101 = jg_sI σ (a0 + 31) (jg_wr x3) (σ.1 a0 48) → Q 1 m101 else ((0 : Int) ≤ jg_wr x4 ∧ jg_wr x4 < (204 : Int)) ∧ ((0 : Int) ≤ (jg_wr ((60 * x3) + x4)) ∧ (jg_wr ((60 * x3) + x4)) < (2880 : Int)) ∧ ∀ m102 : jg_M, m102 = jg_sI σ (a0 + 32) (jg_wr ((60 * x3) + x4)) (σ.1 (a0 + 33) (jg_wr x4)) → jg_GI w 1 mm_X12_isNearer 164 [.ref a0, u1, u2, .int (.ofInt x3), .int (.ofInt (x4 + 1))] m102 Q)) : jg_GI w 1 mm_X12_isNearer 164 [.ref a0, u1, u2, .int (.ofInt x3), .int (.ofInt x4)] σ Q := by
  show jg_G w 1 mm_X12_isNearer 164 [.ref a0, u1, u2, .int (.ofInt x3), .int (.ofInt x4)] [] σ (jg_QI Q)
  refine jg_A (pc' := 166) rfl rfl (fun _ _ _ => rfl) ?_
  refine jg_A (pc' := 167) rfl rfl (fun _ _ _ => rfl) ?_
  refine jg_getI (pc' := 170) (bi := 48) rfl h0 (by decide) (Or.inl rfl) rfl rfl ?_
  refine jg_cge (pc' := 173) rfl rfl (fun hc => ?_) (fun hc => ?_)
  · have h := jg_t h (show jg_wr (σ.1 a0 48) ≤ jg_wr x4 from hc)
    refine jg_A (pc' := 199) rfl rfl (fun _ _ _ => rfl) ?_
    refine jg_getO (pc' := 202) (k := 31) rfl h0 (by decide) rfl rfl ?_
    refine jg_A (pc' := 203) rfl rfl (fun _ _ _ => rfl) ?_
    refine jg_A (pc' := 204) rfl rfl (fun _ _ _ => rfl) ?_
    refine jg_getI (pc' := 207) (bi := 48) rfl h0 (by decide) (Or.inl rfl) rfl rfl ?_
    obtain ⟨hg, h⟩ := h
    refine jg_iast (pc' := 208) rfl (jg_sX12_45 h0) hg rfl (fun m101 hm101 => ?_)
    have h := h m101 hm101
    refine jg_A (pc' := 209) rfl rfl (fun _ _ _ => rfl) ?_
    exact jg_zret rfl rfl (by decide) h
  · have h := jg_f h (show ¬ (jg_wr (σ.1 a0 48) ≤ jg_wr x4) from hc)
    refine jg_A (pc' := 174) rfl rfl (fun _ _ _ => rfl) ?_
    refine jg_getO (pc' := 177) (k := 32) rfl h0 (by decide) rfl rfl ?_
    refine jg_A (pc' := 179) rfl rfl (fun _ _ _ => rfl) ?_
    refine jg_A (pc' := 180) rfl rfl (fun _ _ _ => rfl) ?_
    refine jg_imul (pc' := 181) rfl rfl ?_
    refine jg_A (pc' := 183) rfl rfl (fun _ _ _ => rfl) ?_
    refine jg_iadd (pc' := 184) rfl rfl ?_
    refine jg_A (pc' := 185) rfl rfl (fun _ _ _ => rfl) ?_
    refine jg_getO (pc' := 188) (k := 33) rfl h0 (by decide) rfl rfl ?_
    refine jg_A (pc' := 190) rfl rfl (fun _ _ _ => rfl) ?_
    obtain ⟨hg, h⟩ := h
    refine jg_iald (pc' := 191) rfl (jg_sX12_47 h0) hg rfl ?_
    obtain ⟨hg, h⟩ := h
    refine jg_iast (pc' := 192) rfl (jg_sX12_46 h0) hg rfl (fun m102 hm102 => ?_)
    have h := h m102 hm102
    refine jg_iinc (pc' := 195) (ls' := [.ref a0, u1, u2, .int (.ofInt x3), .int (.ofInt (x4 + 1))]) rfl rfl rfl rfl ?_
    refine jg_goto rfl ?_
    exact h
set_option maxRecDepth 100000 in
set_option maxHeartbeats 4000000 in
theorem jb_X12_actionsOf_0 {w : Nat} {a0 : Nat} {x1 : Int} {σ : jg_M} {Q : Int → jg_M → Prop} (h0 : jg_sh a0 = (12, 0)) (h : jg_GI w 0 mm_X12_actionsOf 4 [.ref a0, .int (.ofInt x1), .int (.ofInt 0), .int (.ofInt 0)] σ Q) : jg_CI w 0 mm_X12_actionsOf [.ref a0, .int (.ofInt x1)] σ Q := by
  show jg_G w 0 mm_X12_actionsOf 0 [.ref a0, .int (.ofInt x1), mj_U, mj_U] [] σ (jg_QI Q)
  refine jg_A (pc' := 1) rfl rfl (fun _ _ _ => rfl) ?_
  refine jg_A (pc' := 2) (ls' := [.ref a0, .int (.ofInt x1), .int (.ofInt 0), mj_U]) rfl rfl (fun _ _ _ => rfl) ?_
  refine jg_A (pc' := 3) rfl rfl (fun _ _ _ => rfl) ?_
  refine jg_A (pc' := 4) (ls' := [.ref a0, .int (.ofInt x1), .int (.ofInt 0), .int (.ofInt 0)]) rfl rfl (fun _ _ _ => rfl) ?_
  exact h
set_option maxRecDepth 100000 in
set_option maxHeartbeats 4000000 in
theorem jb_X12_actionsOf_4 {w : Nat} {a0 : Nat} {x1 : Int} {x2 : Int} {x3 : Int} {σ : jg_M} {Q : Int → jg_M → Prop} (h0 : jg_sh a0 = (12, 0)) (h : (if jg_wr (σ.1 (a0 + 3) (0)) < jg_wr x3 then Q x2 σ else ((0 : Int) ≤ jg_wr ((8 * x1) + x3) ∧ jg_wr ((8 * x1) + x3) < (768 : Int)) ∧ (if jg_wr (σ.1 (a0 + 19) (jg_wr ((8 * x1) + x3))) ≤ 0 then ∀ t101 : Int, t101 = (x2 + 0) → jg_GI w 0 mm_X12_actionsOf 4 [.ref a0, .int (.ofInt x1), .int (.ofInt t101), .int (.ofInt (x3 + 1))] σ Q else ∀ t102 : Int, t102 = (x2 + 1) → jg_GI w 0 mm_X12_actionsOf 4 [.ref a0, .int (.ofInt x1), .int (.ofInt t102), .int (.ofInt (x3 + 1))] σ Q))) : jg_GI w 0 mm_X12_actionsOf 4 [.ref a0, .int (.ofInt x1), .int (.ofInt x2), .int (.ofInt x3)] σ Q := by
  show jg_G w 0 mm_X12_actionsOf 4 [.ref a0, .int (.ofInt x1), .int (.ofInt x2), .int (.ofInt x3)] [] σ (jg_QI Q)
  refine jg_A (pc' := 5) rfl rfl (fun _ _ _ => rfl) ?_
  refine jg_A (pc' := 6) rfl rfl (fun _ _ _ => rfl) ?_
  refine jg_getO (pc' := 9) (k := 3) rfl h0 (by decide) rfl rfl ?_
  refine jg_A (pc' := 10) rfl rfl (fun _ _ _ => rfl) ?_
  refine jg_ialdK (pc' := 11) (xi := 0) rfl (jg_sX12_12 h0) (by decide) (by decide) rfl ?_
  refine jg_cgt (pc' := 14) rfl rfl (fun hc => ?_) (fun hc => ?_)
  · have h := jg_t h (show jg_wr (σ.1 (a0 + 3) (0)) < jg_wr x3 from hc)
    refine jg_A (pc' := 43) rfl rfl (fun _ _ _ => rfl) ?_
    exact jg_iret rfl rfl h
  · have h := jg_f h (show ¬ (jg_wr (σ.1 (a0 + 3) (0)) < jg_wr x3) from hc)
    refine jg_A (pc' := 15) rfl rfl (fun _ _ _ => rfl) ?_
    refine jg_A (pc' := 16) rfl rfl (fun _ _ _ => rfl) ?_
    refine jg_getO (pc' := 19) (k := 19) rfl h0 (by decide) rfl rfl ?_
    refine jg_A (pc' := 21) rfl rfl (fun _ _ _ => rfl) ?_
    refine jg_A (pc' := 22) rfl rfl (fun _ _ _ => rfl) ?_
    refine jg_imul (pc' := 23) rfl rfl ?_
    refine jg_A (pc' := 24) rfl rfl (fun _ _ _ => rfl) ?_
    refine jg_iadd (pc' := 25) rfl rfl ?_
    obtain ⟨hg, h⟩ := h
    refine jg_iald (pc' := 26) rfl (jg_sX12_28 h0) hg rfl ?_
    refine jg_ifle (pc' := 29) rfl rfl (fun hc => ?_) (fun hc => ?_)
    · have h := jg_t h (show jg_wr (σ.1 (a0 + 19) (jg_wr ((8 * x1) + x3))) ≤ 0 from hc)
      refine jg_A (pc' := 34) rfl rfl (fun _ _ _ => rfl) ?_
      refine jg_iadd (pc' := 35) rfl rfl ?_
      refine jg_nm (F := fun t101 => jg_G w 0 mm_X12_actionsOf 35 [.ref a0, .int (.ofInt x1), .int (.ofInt x2), .int (.ofInt x3)] [.int (.ofInt t101)] σ (jg_QI Q)) (x2 + 0) (fun t101 ht101 => ?_)
      have h := h t101 ht101
      refine jg_A (pc' := 36) (ls' := [.ref a0, .int (.ofInt x1), .int (.ofInt t101), .int (.ofInt x3)]) rfl rfl (fun _ _ _ => rfl) ?_
      refine jg_iinc (pc' := 39) (ls' := [.ref a0, .int (.ofInt x1), .int (.ofInt t101), .int (.ofInt (x3 + 1))]) rfl rfl rfl rfl ?_
      refine jg_goto rfl ?_
      exact h
    · have h := jg_f h (show ¬ (jg_wr (σ.1 (a0 + 19) (jg_wr ((8 * x1) + x3))) ≤ 0) from hc)
      refine jg_A (pc' := 30) rfl rfl (fun _ _ _ => rfl) ?_
      refine jg_goto rfl ?_
      refine jg_iadd (pc' := 35) rfl rfl ?_
      refine jg_nm (F := fun t102 => jg_G w 0 mm_X12_actionsOf 35 [.ref a0, .int (.ofInt x1), .int (.ofInt x2), .int (.ofInt x3)] [.int (.ofInt t102)] σ (jg_QI Q)) (x2 + 1) (fun t102 ht102 => ?_)
      have h := h t102 ht102
      refine jg_A (pc' := 36) (ls' := [.ref a0, .int (.ofInt x1), .int (.ofInt t102), .int (.ofInt x3)]) rfl rfl (fun _ _ _ => rfl) ?_
      refine jg_iinc (pc' := 39) (ls' := [.ref a0, .int (.ofInt x1), .int (.ofInt t102), .int (.ofInt (x3 + 1))]) rfl rfl rfl rfl ?_
      refine jg_goto rfl ?_
      exact h
set_option maxRecDepth 100000 in
set_option maxHeartbeats 4000000 in
theorem jb_X12_isFree_0 {w : Nat} {a0 : Nat} {x1 : Int} {x2 : Int} {σ : jg_M} {Q : Int → jg_M → Prop} (h0 : jg_sh a0 = (12, 0)) (h : jg_GI w 0 mm_X12_isFree 2 [.ref a0, .int (.ofInt x1), .int (.ofInt x2), .int (.ofInt 0)] σ Q) : jg_CI w 0 mm_X12_isFree [.ref a0, .int (.ofInt x1), .int (.ofInt x2)] σ Q := by
  show jg_G w 0 mm_X12_isFree 0 [.ref a0, .int (.ofInt x1), .int (.ofInt x2), mj_U] [] σ (jg_QI Q)
  refine jg_A (pc' := 1) rfl rfl (fun _ _ _ => rfl) ?_
  refine jg_A (pc' := 2) (ls' := [.ref a0, .int (.ofInt x1), .int (.ofInt x2), .int (.ofInt 0)]) rfl rfl (fun _ _ _ => rfl) ?_
  exact h
set_option maxRecDepth 100000 in
set_option maxHeartbeats 4000000 in
theorem jb_X12_isFree_2 {w : Nat} {a0 : Nat} {x1 : Int} {x2 : Int} {x3 : Int} {σ : jg_M} {Q : Int → jg_M → Prop} (h0 : jg_sh a0 = (12, 0)) (h : (if jg_wr (σ.1 (a0 + 3) (0)) < jg_wr x3 then Q 1 σ else ((0 : Int) ≤ jg_wr ((8 * x1) + x3) ∧ jg_wr ((8 * x1) + x3) < (768 : Int)) ∧ (if jg_wr (σ.1 (a0 + 19) (jg_wr ((8 * x1) + x3))) ≤ 0 then jg_GI w 0 mm_X12_isFree 2 [.ref a0, .int (.ofInt x1), .int (.ofInt x2), .int (.ofInt (x3 + 1))] σ Q else ((0 : Int) ≤ jg_wr (x2 + x3) ∧ jg_wr (x2 + x3) < (1000 : Int)) ∧ (if jg_wr (σ.1 (a0 + 35) (jg_wr (x2 + x3))) ≤ 0 then jg_GI w 0 mm_X12_isFree 2 [.ref a0, .int (.ofInt x1), .int (.ofInt x2), .int (.ofInt (x3 + 1))] σ Q else Q 0 σ)))) : jg_GI w 0 mm_X12_isFree 2 [.ref a0, .int (.ofInt x1), .int (.ofInt x2), .int (.ofInt x3)] σ Q := by
  show jg_G w 0 mm_X12_isFree 2 [.ref a0, .int (.ofInt x1), .int (.ofInt x2), .int (.ofInt x3)] [] σ (jg_QI Q)
  refine jg_A (pc' := 3) rfl rfl (fun _ _ _ => rfl) ?_
  refine jg_A (pc' := 4) rfl rfl (fun _ _ _ => rfl) ?_
  refine jg_getO (pc' := 7) (k := 3) rfl h0 (by decide) rfl rfl ?_
  refine jg_A (pc' := 8) rfl rfl (fun _ _ _ => rfl) ?_
  refine jg_ialdK (pc' := 9) (xi := 0) rfl (jg_sX12_12 h0) (by decide) (by decide) rfl ?_
  refine jg_cgt (pc' := 12) rfl rfl (fun hc => ?_) (fun hc => ?_)
  · have h := jg_t h (show jg_wr (σ.1 (a0 + 3) (0)) < jg_wr x3 from hc)
    refine jg_A (pc' := 46) rfl rfl (fun _ _ _ => rfl) ?_
    exact jg_zret rfl rfl (by decide) h
  · have h := jg_f h (show ¬ (jg_wr (σ.1 (a0 + 3) (0)) < jg_wr x3) from hc)
    refine jg_A (pc' := 13) rfl rfl (fun _ _ _ => rfl) ?_
    refine jg_getO (pc' := 16) (k := 19) rfl h0 (by decide) rfl rfl ?_
    refine jg_A (pc' := 18) rfl rfl (fun _ _ _ => rfl) ?_
    refine jg_A (pc' := 19) rfl rfl (fun _ _ _ => rfl) ?_
    refine jg_imul (pc' := 20) rfl rfl ?_
    refine jg_A (pc' := 21) rfl rfl (fun _ _ _ => rfl) ?_
    refine jg_iadd (pc' := 22) rfl rfl ?_
    obtain ⟨hg, h⟩ := h
    refine jg_iald (pc' := 23) rfl (jg_sX12_28 h0) hg rfl ?_
    refine jg_ifle (pc' := 26) rfl rfl (fun hc => ?_) (fun hc => ?_)
    · have h := jg_t h (show jg_wr (σ.1 (a0 + 19) (jg_wr ((8 * x1) + x3))) ≤ 0 from hc)
      refine jg_iinc (pc' := 42) (ls' := [.ref a0, .int (.ofInt x1), .int (.ofInt x2), .int (.ofInt (x3 + 1))]) rfl rfl rfl rfl ?_
      refine jg_goto rfl ?_
      exact h
    · have h := jg_f h (show ¬ (jg_wr (σ.1 (a0 + 19) (jg_wr ((8 * x1) + x3))) ≤ 0) from hc)
      refine jg_A (pc' := 27) rfl rfl (fun _ _ _ => rfl) ?_
      refine jg_getO (pc' := 30) (k := 35) rfl h0 (by decide) rfl rfl ?_
      refine jg_A (pc' := 31) rfl rfl (fun _ _ _ => rfl) ?_
      refine jg_A (pc' := 32) rfl rfl (fun _ _ _ => rfl) ?_
      refine jg_iadd (pc' := 33) rfl rfl ?_
      obtain ⟨hg, h⟩ := h
      refine jg_iald (pc' := 34) rfl (jg_sX12_50 h0) hg rfl ?_
      refine jg_ifle (pc' := 37) rfl rfl (fun hc => ?_) (fun hc => ?_)
      · have h := jg_t h (show jg_wr (σ.1 (a0 + 35) (jg_wr (x2 + x3))) ≤ 0 from hc)
        refine jg_iinc (pc' := 42) (ls' := [.ref a0, .int (.ofInt x1), .int (.ofInt x2), .int (.ofInt (x3 + 1))]) rfl rfl rfl rfl ?_
        refine jg_goto rfl ?_
        exact h
      · have h := jg_f h (show ¬ (jg_wr (σ.1 (a0 + 35) (jg_wr (x2 + x3))) ≤ 0) from hc)
        refine jg_A (pc' := 38) rfl rfl (fun _ _ _ => rfl) ?_
        exact jg_zret rfl rfl (by decide) h
set_option maxRecDepth 100000 in
set_option maxHeartbeats 4000000 in
theorem jb_X12_lays_0 {w : Nat} {a0 : Nat} {x1 : Int} {σ : jg_M} {Q : jg_M → Prop} (h0 : jg_sh a0 = (12, 0)) (h : jg_GV w 1 mm_X12_lays 2 [.ref a0, .int (.ofInt x1), .int (.ofInt 0), mj_U] σ Q) : jg_CV w 1 mm_X12_lays [.ref a0, .int (.ofInt x1)] σ Q := by
  show jg_G w 1 mm_X12_lays 0 [.ref a0, .int (.ofInt x1), mj_U, mj_U] [] σ (jg_QV Q)
  refine jg_A (pc' := 1) rfl rfl (fun _ _ _ => rfl) ?_
  refine jg_A (pc' := 2) (ls' := [.ref a0, .int (.ofInt x1), .int (.ofInt 0), mj_U]) rfl rfl (fun _ _ _ => rfl) ?_
  exact h
set_option maxRecDepth 100000 in
set_option maxHeartbeats 4000000 in
theorem jb_X12_lays_2 {w : Nat} {a0 : Nat} {x1 : Int} {x2 : Int} {u3 : Value} {σ : jg_M} {Q : jg_M → Prop} (h0 : jg_sh a0 = (12, 0)) (h : jg_CI w 0 mm_X12_isFree [.ref a0, .int (.ofInt x1), .int (.ofInt x2)] σ (fun (z102 : Int) (m101 : jg_M) => (if jg_wr z102 = 0 then jg_GV w 1 mm_X12_lays 2 [.ref a0, .int (.ofInt x1), .int (.ofInt (x2 + 1)), u3] m101 Q else ((0 : Int) ≤ (jg_wr x1) ∧ (jg_wr x1) < (48 : Int)) ∧ ∀ m103 : jg_M, m103 = jg_sI m101 (a0 + 34) (jg_wr x1) x2 → jg_GV w 1 mm_X12_lays 26 [.ref a0, .int (.ofInt x1), .int (.ofInt x2), .int (.ofInt 0)] m103 Q))) : jg_GV w 1 mm_X12_lays 2 [.ref a0, .int (.ofInt x1), .int (.ofInt x2), u3] σ Q := by
  show jg_G w 1 mm_X12_lays 2 [.ref a0, .int (.ofInt x1), .int (.ofInt x2), u3] [] σ (jg_QV Q)
  refine jg_A (pc' := 3) rfl rfl (fun _ _ _ => rfl) ?_
  refine jg_A (pc' := 4) rfl rfl (fun _ _ _ => rfl) ?_
  refine jg_A (pc' := 5) rfl rfl (fun _ _ _ => rfl) ?_
  refine jg_calX (M1 := mm_X12_isFree) (hy := 0) (pc' := 8) rfl jm_X12_isFree (by decide) rfl h0 (by decide) ⟨Nat.le_of_ble_eq_true rfl, rfl⟩ (Nat.le_of_ble_eq_true rfl) rfl h (jg_kI (fun z102 m101 h => ?_))
  refine jg_ifne (pc' := 11) rfl rfl (fun hc => ?_) (fun hc => ?_)
  · have h := jg_t h (show jg_wr z102 = 0 from hc)
    refine jg_iinc (pc' := 14) (ls' := [.ref a0, .int (.ofInt x1), .int (.ofInt (x2 + 1)), u3]) rfl rfl rfl rfl ?_
    refine jg_goto rfl ?_
    exact h
  · have h := jg_f h (show ¬ (jg_wr z102 = 0) from hc)
    refine jg_A (pc' := 18) rfl rfl (fun _ _ _ => rfl) ?_
    refine jg_getO (pc' := 21) (k := 34) rfl h0 (by decide) rfl rfl ?_
    refine jg_A (pc' := 22) rfl rfl (fun _ _ _ => rfl) ?_
    refine jg_A (pc' := 23) rfl rfl (fun _ _ _ => rfl) ?_
    obtain ⟨hg, h⟩ := h
    refine jg_iast (pc' := 24) rfl (jg_sX12_49 h0) hg rfl (fun m103 hm103 => ?_)
    have h := h m103 hm103
    refine jg_A (pc' := 25) rfl rfl (fun _ _ _ => rfl) ?_
    refine jg_A (pc' := 26) (ls' := [.ref a0, .int (.ofInt x1), .int (.ofInt x2), .int (.ofInt 0)]) rfl rfl (fun _ _ _ => rfl) ?_
    exact h
set_option maxRecDepth 100000 in
set_option maxHeartbeats 4000000 in
theorem jb_X12_lays_26 {w : Nat} {a0 : Nat} {x1 : Int} {x2 : Int} {x3 : Int} {σ : jg_M} {Q : jg_M → Prop} (h0 : jg_sh a0 = (12, 0)) (h : (if jg_wr (σ.1 (a0 + 3) (0)) < jg_wr x3 then Q σ else ((0 : Int) ≤ jg_wr ((8 * x1) + x3) ∧ jg_wr ((8 * x1) + x3) < (768 : Int)) ∧ (if jg_wr (σ.1 (a0 + 19) (jg_wr ((8 * x1) + x3))) = 0 then jg_GV w 1 mm_X12_lays 26 [.ref a0, .int (.ofInt x1), .int (.ofInt x2), .int (.ofInt (x3 + 1))] σ Q else ((0 : Int) ≤ jg_wr ((8 * x1) + x3) ∧ jg_wr ((8 * x1) + x3) < (768 : Int)) ∧ ((0 : Int) ≤ (jg_wr (x2 + x3)) ∧ (jg_wr (x2 + x3)) < (1000 : Int)) ∧ ∀ m101 : jg_M, m101 = jg_sI σ (a0 + 35) (jg_wr (x2 + x3)) (σ.1 (a0 + 19) (jg_wr ((8 * x1) + x3))) → ((0 : Int) ≤ (jg_wr (x2 + x3)) ∧ (jg_wr (x2 + x3)) < (1000 : Int)) ∧ ∀ m102 : jg_M, m102 = jg_sI m101 (a0 + 36) (jg_wr (x2 + x3)) x1 → (if jg_wr ((x2 + x3) + 1) ≤ jg_wr (m102.1 a0 52) then ∀ m103 : jg_M, m103 = jg_sI m102 a0 52 (m102.1 a0 52) → jg_GV w 1 mm_X12_lays 26 [.ref a0, .int (.ofInt x1), .int (.ofInt x2), .int (.ofInt (x3 + 1))] m103 Q else ∀ m104 : jg_M, m104 = jg_sI m102 a0 52 ((x2 + x3) + 1) → jg_GV w 1 mm_X12_lays 26 [.ref a0, .int (.ofInt x1), .int (.ofInt x2), .int (.ofInt (x3 + 1))] m104 Q)))) : jg_GV w 1 mm_X12_lays 26 [.ref a0, .int (.ofInt x1), .int (.ofInt x2), .int (.ofInt x3)] σ Q := by
  show jg_G w 1 mm_X12_lays 26 [.ref a0, .int (.ofInt x1), .int (.ofInt x2), .int (.ofInt x3)] [] σ (jg_QV Q)
  refine jg_A (pc' := 27) rfl rfl (fun _ _ _ => rfl) ?_
  refine jg_A (pc' := 28) rfl rfl (fun _ _ _ => rfl) ?_
  refine jg_getO (pc' := 31) (k := 3) rfl h0 (by decide) rfl rfl ?_
  refine jg_A (pc' := 32) rfl rfl (fun _ _ _ => rfl) ?_
  refine jg_ialdK (pc' := 33) (xi := 0) rfl (jg_sX12_12 h0) (by decide) (by decide) rfl ?_
  refine jg_cgt (pc' := 36) rfl rfl (fun hc => ?_) (fun hc => ?_)
  · have h := jg_t h (show jg_wr (σ.1 (a0 + 3) (0)) < jg_wr x3 from hc)
    exact jg_vret rfl rfl h
  · have h := jg_f h (show ¬ (jg_wr (σ.1 (a0 + 3) (0)) < jg_wr x3) from hc)
    refine jg_A (pc' := 37) rfl rfl (fun _ _ _ => rfl) ?_
    refine jg_getO (pc' := 40) (k := 19) rfl h0 (by decide) rfl rfl ?_
    refine jg_A (pc' := 42) rfl rfl (fun _ _ _ => rfl) ?_
    refine jg_A (pc' := 43) rfl rfl (fun _ _ _ => rfl) ?_
    refine jg_imul (pc' := 44) rfl rfl ?_
    refine jg_A (pc' := 45) rfl rfl (fun _ _ _ => rfl) ?_
    refine jg_iadd (pc' := 46) rfl rfl ?_
    obtain ⟨hg, h⟩ := h
    refine jg_iald (pc' := 47) rfl (jg_sX12_28 h0) hg rfl ?_
    refine jg_ifne (pc' := 50) rfl rfl (fun hc => ?_) (fun hc => ?_)
    · have h := jg_t h (show jg_wr (σ.1 (a0 + 19) (jg_wr ((8 * x1) + x3))) = 0 from hc)
      refine jg_goto rfl ?_
      refine jg_iinc (pc' := 112) (ls' := [.ref a0, .int (.ofInt x1), .int (.ofInt x2), .int (.ofInt (x3 + 1))]) rfl rfl rfl rfl ?_
      refine jg_goto rfl ?_
      exact h
    · have h := jg_f h (show ¬ (jg_wr (σ.1 (a0 + 19) (jg_wr ((8 * x1) + x3))) = 0) from hc)
      refine jg_A (pc' := 54) rfl rfl (fun _ _ _ => rfl) ?_
      refine jg_getO (pc' := 57) (k := 35) rfl h0 (by decide) rfl rfl ?_
      refine jg_A (pc' := 58) rfl rfl (fun _ _ _ => rfl) ?_
      refine jg_A (pc' := 59) rfl rfl (fun _ _ _ => rfl) ?_
      refine jg_iadd (pc' := 60) rfl rfl ?_
      refine jg_A (pc' := 61) rfl rfl (fun _ _ _ => rfl) ?_
      refine jg_getO (pc' := 64) (k := 19) rfl h0 (by decide) rfl rfl ?_
      refine jg_A (pc' := 66) rfl rfl (fun _ _ _ => rfl) ?_
      refine jg_A (pc' := 67) rfl rfl (fun _ _ _ => rfl) ?_
      refine jg_imul (pc' := 68) rfl rfl ?_
      refine jg_A (pc' := 69) rfl rfl (fun _ _ _ => rfl) ?_
      refine jg_iadd (pc' := 70) rfl rfl ?_
      obtain ⟨hg, h⟩ := h
      refine jg_iald (pc' := 71) rfl (jg_sX12_28 h0) hg rfl ?_
      obtain ⟨hg, h⟩ := h
      refine jg_iast (pc' := 72) rfl (jg_sX12_50 h0) hg rfl (fun m101 hm101 => ?_)
      have h := h m101 hm101
      refine jg_A (pc' := 73) rfl rfl (fun _ _ _ => rfl) ?_
      refine jg_getO (pc' := 76) (k := 36) rfl h0 (by decide) rfl rfl ?_
      refine jg_A (pc' := 77) rfl rfl (fun _ _ _ => rfl) ?_
      refine jg_A (pc' := 78) rfl rfl (fun _ _ _ => rfl) ?_
      refine jg_iadd (pc' := 79) rfl rfl ?_
      refine jg_A (pc' := 80) rfl rfl (fun _ _ _ => rfl) ?_
      obtain ⟨hg, h⟩ := h
      refine jg_iast (pc' := 81) rfl (jg_sX12_51 h0) hg rfl (fun m102 hm102 => ?_)
      have h := h m102 hm102
      refine jg_A (pc' := 82) rfl rfl (fun _ _ _ => rfl) ?_
      refine jg_A (pc' := 83) rfl rfl (fun _ _ _ => rfl) ?_
      refine jg_A (pc' := 84) rfl rfl (fun _ _ _ => rfl) ?_
      refine jg_iadd (pc' := 85) rfl rfl ?_
      refine jg_A (pc' := 86) rfl rfl (fun _ _ _ => rfl) ?_
      refine jg_iadd (pc' := 87) rfl rfl ?_
      refine jg_A (pc' := 88) rfl rfl (fun _ _ _ => rfl) ?_
      refine jg_getI (pc' := 91) (bi := 52) rfl h0 (by decide) (Or.inl rfl) rfl rfl ?_
      refine jg_cle (pc' := 94) rfl rfl (fun hc => ?_) (fun hc => ?_)
      · have h := jg_t h (show jg_wr ((x2 + x3) + 1) ≤ jg_wr (m102.1 a0 52) from hc)
        refine jg_A (pc' := 103) rfl rfl (fun _ _ _ => rfl) ?_
        refine jg_getI (pc' := 106) (bi := 52) rfl h0 (by decide) (Or.inl rfl) rfl rfl ?_
        refine jg_putI (pc' := 109) (bi := 52) rfl h0 (by decide) rfl rfl rfl rfl (fun m103 hm103 => ?_)
        have h := h m103 hm103
        refine jg_iinc (pc' := 112) (ls' := [.ref a0, .int (.ofInt x1), .int (.ofInt x2), .int (.ofInt (x3 + 1))]) rfl rfl rfl rfl ?_
        refine jg_goto rfl ?_
        exact h
      · have h := jg_f h (show ¬ (jg_wr ((x2 + x3) + 1) ≤ jg_wr (m102.1 a0 52)) from hc)
        refine jg_A (pc' := 95) rfl rfl (fun _ _ _ => rfl) ?_
        refine jg_A (pc' := 96) rfl rfl (fun _ _ _ => rfl) ?_
        refine jg_iadd (pc' := 97) rfl rfl ?_
        refine jg_A (pc' := 98) rfl rfl (fun _ _ _ => rfl) ?_
        refine jg_iadd (pc' := 99) rfl rfl ?_
        refine jg_goto rfl ?_
        refine jg_putI (pc' := 109) (bi := 52) rfl h0 (by decide) rfl rfl rfl rfl (fun m104 hm104 => ?_)
        have h := h m104 hm104
        refine jg_iinc (pc' := 112) (ls' := [.ref a0, .int (.ofInt x1), .int (.ofInt x2), .int (.ofInt (x3 + 1))]) rfl rfl rfl rfl ?_
        refine jg_goto rfl ?_
        exact h
set_option maxRecDepth 100000 in
set_option maxHeartbeats 4000000 in
theorem jb_X12_layPacked_0 {w : Nat} {a0 : Nat} {σ : jg_M} {Q : jg_M → Prop} (h0 : jg_sh a0 = (12, 0)) (h : jg_GV w 2 mm_X12_layPacked 2 [.ref a0, .int (.ofInt 0), mj_U] σ Q) : jg_CV w 2 mm_X12_layPacked [.ref a0] σ Q := by
  show jg_G w 2 mm_X12_layPacked 0 [.ref a0, mj_U, mj_U] [] σ (jg_QV Q)
  refine jg_A (pc' := 1) rfl rfl (fun _ _ _ => rfl) ?_
  refine jg_A (pc' := 2) (ls' := [.ref a0, .int (.ofInt 0), mj_U]) rfl rfl (fun _ _ _ => rfl) ?_
  exact h
set_option maxRecDepth 100000 in
set_option maxHeartbeats 4000000 in
theorem jb_X12_layPacked_2 {w : Nat} {a0 : Nat} {x1 : Int} {u2 : Value} {σ : jg_M} {Q : jg_M → Prop} (h0 : jg_sh a0 = (12, 0)) (h : (if 1000 ≤ jg_wr x1 then ∀ m101 : jg_M, m101 = jg_sI σ a0 52 0 → jg_GV w 2 mm_X12_layPacked 30 [.ref a0, .int (.ofInt 8), u2] m101 Q else ((0 : Int) ≤ (jg_wr x1) ∧ (jg_wr x1) < (1000 : Int)) ∧ ∀ m102 : jg_M, m102 = jg_sI σ (a0 + 35) (jg_wr x1) 0 → jg_GV w 2 mm_X12_layPacked 2 [.ref a0, .int (.ofInt (x1 + 1)), u2] m102 Q)) : jg_GV w 2 mm_X12_layPacked 2 [.ref a0, .int (.ofInt x1), u2] σ Q := by
  show jg_G w 2 mm_X12_layPacked 2 [.ref a0, .int (.ofInt x1), u2] [] σ (jg_QV Q)
  refine jg_A (pc' := 3) rfl rfl (fun _ _ _ => rfl) ?_
  refine jg_A (pc' := 6) rfl rfl (fun _ _ _ => rfl) ?_
  refine jg_cge (pc' := 9) rfl rfl (fun hc => ?_) (fun hc => ?_)
  · have h := jg_t h (show 1000 ≤ jg_wr x1 from hc)
    refine jg_A (pc' := 23) rfl rfl (fun _ _ _ => rfl) ?_
    refine jg_A (pc' := 24) rfl rfl (fun _ _ _ => rfl) ?_
    refine jg_putI (pc' := 27) (bi := 52) rfl h0 (by decide) rfl rfl rfl rfl (fun m101 hm101 => ?_)
    have h := h m101 hm101
    refine jg_A (pc' := 29) rfl rfl (fun _ _ _ => rfl) ?_
    refine jg_A (pc' := 30) (ls' := [.ref a0, .int (.ofInt 8), u2]) rfl rfl (fun _ _ _ => rfl) ?_
    exact h
  · have h := jg_f h (show ¬ (1000 ≤ jg_wr x1) from hc)
    refine jg_A (pc' := 10) rfl rfl (fun _ _ _ => rfl) ?_
    refine jg_getO (pc' := 13) (k := 35) rfl h0 (by decide) rfl rfl ?_
    refine jg_A (pc' := 14) rfl rfl (fun _ _ _ => rfl) ?_
    refine jg_A (pc' := 15) rfl rfl (fun _ _ _ => rfl) ?_
    obtain ⟨hg, h⟩ := h
    refine jg_iast (pc' := 16) rfl (jg_sX12_50 h0) hg rfl (fun m102 hm102 => ?_)
    have h := h m102 hm102
    refine jg_iinc (pc' := 19) (ls' := [.ref a0, .int (.ofInt (x1 + 1)), u2]) rfl rfl rfl rfl ?_
    refine jg_goto rfl ?_
    exact h
set_option maxRecDepth 100000 in
set_option maxHeartbeats 4000000 in
theorem jb_X12_layPacked_30 {w : Nat} {a0 : Nat} {x1 : Int} {u2 : Value} {σ : jg_M} {Q : jg_M → Prop} (h0 : jg_sh a0 = (12, 0)) (h : (if jg_wr x1 < 0 then Q σ else jg_GV w 2 mm_X12_layPacked 36 [.ref a0, .int (.ofInt x1), .int (.ofInt 0)] σ Q)) : jg_GV w 2 mm_X12_layPacked 30 [.ref a0, .int (.ofInt x1), u2] σ Q := by
  show jg_G w 2 mm_X12_layPacked 30 [.ref a0, .int (.ofInt x1), u2] [] σ (jg_QV Q)
  refine jg_A (pc' := 31) rfl rfl (fun _ _ _ => rfl) ?_
  refine jg_iflt (pc' := 34) rfl rfl (fun hc => ?_) (fun hc => ?_)
  · have h := jg_t h (show jg_wr x1 < 0 from hc)
    exact jg_vret rfl rfl h
  · have h := jg_f h (show ¬ (jg_wr x1 < 0) from hc)
    refine jg_A (pc' := 35) rfl rfl (fun _ _ _ => rfl) ?_
    refine jg_A (pc' := 36) (ls' := [.ref a0, .int (.ofInt x1), .int (.ofInt 0)]) rfl rfl (fun _ _ _ => rfl) ?_
    exact h
set_option maxRecDepth 100000 in
set_option maxHeartbeats 4000000 in
theorem jb_X12_layPacked_36 {w : Nat} {a0 : Nat} {x1 : Int} {x2 : Int} {σ : jg_M} {Q : jg_M → Prop} (h0 : jg_sh a0 = (12, 0)) (h : (if jg_wr (σ.1 (a0 + 13) (0)) ≤ jg_wr x2 then jg_GV w 2 mm_X12_layPacked 30 [.ref a0, .int (.ofInt (x1 + (-1))), .int (.ofInt x2)] σ Q else jg_CI w 0 mm_X12_actionsOf [.ref a0, .int (.ofInt x2)] σ (fun (z102 : Int) (m101 : jg_M) => (if jg_wr z102 = jg_wr x1 then jg_CV w 1 mm_X12_lays [.ref a0, .int (.ofInt x2)] m101 (fun (m103 : jg_M) => jg_GV w 2 mm_X12_layPacked 36 [.ref a0, .int (.ofInt x1), .int (.ofInt (x2 + 1))] m103 Q) else jg_GV w 2 mm_X12_layPacked 36 [.ref a0, .int (.ofInt x1), .int (.ofInt (x2 + 1))] m101 Q)))) : jg_GV w 2 mm_X12_layPacked 36 [.ref a0, .int (.ofInt x1), .int (.ofInt x2)] σ Q := by
  show jg_G w 2 mm_X12_layPacked 36 [.ref a0, .int (.ofInt x1), .int (.ofInt x2)] [] σ (jg_QV Q)
  refine jg_A (pc' := 37) rfl rfl (fun _ _ _ => rfl) ?_
  refine jg_A (pc' := 38) rfl rfl (fun _ _ _ => rfl) ?_
  refine jg_getO (pc' := 41) (k := 13) rfl h0 (by decide) rfl rfl ?_
  refine jg_A (pc' := 42) rfl rfl (fun _ _ _ => rfl) ?_
  refine jg_ialdK (pc' := 43) (xi := 0) rfl (jg_sX12_22 h0) (by decide) (by decide) rfl ?_
  refine jg_cge (pc' := 46) rfl rfl (fun hc => ?_) (fun hc => ?_)
  · have h := jg_t h (show jg_wr (σ.1 (a0 + 13) (0)) ≤ jg_wr x2 from hc)
    refine jg_iinc (pc' := 69) (ls' := [.ref a0, .int (.ofInt (x1 + (-1))), .int (.ofInt x2)]) rfl rfl rfl rfl ?_
    refine jg_goto rfl ?_
    exact h
  · have h := jg_f h (show ¬ (jg_wr (σ.1 (a0 + 13) (0)) ≤ jg_wr x2) from hc)
    refine jg_A (pc' := 47) rfl rfl (fun _ _ _ => rfl) ?_
    refine jg_A (pc' := 48) rfl rfl (fun _ _ _ => rfl) ?_
    refine jg_calX (M1 := mm_X12_actionsOf) (hy := 0) (pc' := 51) rfl jm_X12_actionsOf (by decide) rfl h0 (by decide) ⟨Nat.le_of_ble_eq_true rfl, rfl⟩ (Nat.le_of_ble_eq_true rfl) rfl h (jg_kI (fun z102 m101 h => ?_))
    refine jg_A (pc' := 52) rfl rfl (fun _ _ _ => rfl) ?_
    refine jg_cne (pc' := 55) rfl rfl (fun hc => ?_) (fun hc => ?_)
    · have h := jg_t h (show jg_wr z102 = jg_wr x1 from hc)
      refine jg_A (pc' := 56) rfl rfl (fun _ _ _ => rfl) ?_
      refine jg_A (pc' := 57) rfl rfl (fun _ _ _ => rfl) ?_
      refine jg_calX (M1 := mm_X12_lays) (hy := 1) (pc' := 60) rfl jm_X12_lays (by decide) rfl h0 (by decide) ⟨Nat.le_of_ble_eq_true rfl, rfl⟩ (Nat.le_of_ble_eq_true rfl) rfl h (jg_kV (fun m103 h => ?_))
      refine jg_iinc (pc' := 63) (ls' := [.ref a0, .int (.ofInt x1), .int (.ofInt (x2 + 1))]) rfl rfl rfl rfl ?_
      refine jg_goto rfl ?_
      exact h
    · have h := jg_f h (show ¬ (jg_wr z102 = jg_wr x1) from hc)
      refine jg_iinc (pc' := 63) (ls' := [.ref a0, .int (.ofInt x1), .int (.ofInt (x2 + 1))]) rfl rfl rfl rfl ?_
      refine jg_goto rfl ?_
      exact h
set_option maxRecDepth 100000 in
set_option maxHeartbeats 4000000 in
theorem jb_X12_isToken_0 {w : Nat} {a0 : Nat} {x1 : Int} {σ : jg_M} {Q : Int → jg_M → Prop} (h0 : jg_sh a0 = (12, 0)) (h : (if jg_wr x1 < 0 then Q 0 σ else (if jg_wr (σ.1 (a0 + 3) (0)) ≤ jg_wr x1 then Q 0 σ else Q 1 σ))) : jg_CI w 0 mm_X12_isToken [.ref a0, .int (.ofInt x1)] σ Q := by
  show jg_G w 0 mm_X12_isToken 0 [.ref a0, .int (.ofInt x1)] [] σ (jg_QI Q)
  refine jg_A (pc' := 1) rfl rfl (fun _ _ _ => rfl) ?_
  refine jg_iflt (pc' := 4) rfl rfl (fun hc => ?_) (fun hc => ?_)
  · have h := jg_t h (show jg_wr x1 < 0 from hc)
    refine jg_A (pc' := 19) rfl rfl (fun _ _ _ => rfl) ?_
    exact jg_zret rfl rfl (by decide) h
  · have h := jg_f h (show ¬ (jg_wr x1 < 0) from hc)
    refine jg_A (pc' := 5) rfl rfl (fun _ _ _ => rfl) ?_
    refine jg_A (pc' := 6) rfl rfl (fun _ _ _ => rfl) ?_
    refine jg_getO (pc' := 9) (k := 3) rfl h0 (by decide) rfl rfl ?_
    refine jg_A (pc' := 10) rfl rfl (fun _ _ _ => rfl) ?_
    refine jg_ialdK (pc' := 11) (xi := 0) rfl (jg_sX12_12 h0) (by decide) (by decide) rfl ?_
    refine jg_cge (pc' := 14) rfl rfl (fun hc => ?_) (fun hc => ?_)
    · have h := jg_t h (show jg_wr (σ.1 (a0 + 3) (0)) ≤ jg_wr x1 from hc)
      refine jg_A (pc' := 19) rfl rfl (fun _ _ _ => rfl) ?_
      exact jg_zret rfl rfl (by decide) h
    · have h := jg_f h (show ¬ (jg_wr (σ.1 (a0 + 3) (0)) ≤ jg_wr x1) from hc)
      refine jg_A (pc' := 15) rfl rfl (fun _ _ _ => rfl) ?_
      refine jg_goto rfl ?_
      exact jg_zret rfl rfl (by decide) h
set_option maxRecDepth 100000 in
set_option maxHeartbeats 4000000 in
theorem jb_X12_isKind_0 {w : Nat} {a0 : Nat} {x1 : Int} {σ : jg_M} {Q : Int → jg_M → Prop} (h0 : jg_sh a0 = (12, 0)) (h : (if jg_wr x1 < 0 then Q 0 σ else (if jg_wr (σ.1 (a0 + 4) (0)) ≤ jg_wr x1 then Q 0 σ else Q 1 σ))) : jg_CI w 0 mm_X12_isKind [.ref a0, .int (.ofInt x1)] σ Q := by
  show jg_G w 0 mm_X12_isKind 0 [.ref a0, .int (.ofInt x1)] [] σ (jg_QI Q)
  refine jg_A (pc' := 1) rfl rfl (fun _ _ _ => rfl) ?_
  refine jg_iflt (pc' := 4) rfl rfl (fun hc => ?_) (fun hc => ?_)
  · have h := jg_t h (show jg_wr x1 < 0 from hc)
    refine jg_A (pc' := 19) rfl rfl (fun _ _ _ => rfl) ?_
    exact jg_zret rfl rfl (by decide) h
  · have h := jg_f h (show ¬ (jg_wr x1 < 0) from hc)
    refine jg_A (pc' := 5) rfl rfl (fun _ _ _ => rfl) ?_
    refine jg_A (pc' := 6) rfl rfl (fun _ _ _ => rfl) ?_
    refine jg_getO (pc' := 9) (k := 4) rfl h0 (by decide) rfl rfl ?_
    refine jg_A (pc' := 10) rfl rfl (fun _ _ _ => rfl) ?_
    refine jg_ialdK (pc' := 11) (xi := 0) rfl (jg_sX12_13 h0) (by decide) (by decide) rfl ?_
    refine jg_cge (pc' := 14) rfl rfl (fun hc => ?_) (fun hc => ?_)
    · have h := jg_t h (show jg_wr (σ.1 (a0 + 4) (0)) ≤ jg_wr x1 from hc)
      refine jg_A (pc' := 19) rfl rfl (fun _ _ _ => rfl) ?_
      exact jg_zret rfl rfl (by decide) h
    · have h := jg_f h (show ¬ (jg_wr (σ.1 (a0 + 4) (0)) ≤ jg_wr x1) from hc)
      refine jg_A (pc' := 15) rfl rfl (fun _ _ _ => rfl) ?_
      refine jg_goto rfl ?_
      exact jg_zret rfl rfl (by decide) h
set_option maxRecDepth 100000 in
set_option maxHeartbeats 4000000 in
theorem jb_X12_isRule_0 {w : Nat} {a0 : Nat} {x1 : Int} {σ : jg_M} {Q : Int → jg_M → Prop} (h0 : jg_sh a0 = (12, 0)) (h : (if jg_wr x1 < 0 then Q 0 σ else (if jg_wr (σ.1 (a0 + 5) (0)) ≤ jg_wr x1 then Q 0 σ else Q 1 σ))) : jg_CI w 0 mm_X12_isRule [.ref a0, .int (.ofInt x1)] σ Q := by
  show jg_G w 0 mm_X12_isRule 0 [.ref a0, .int (.ofInt x1)] [] σ (jg_QI Q)
  refine jg_A (pc' := 1) rfl rfl (fun _ _ _ => rfl) ?_
  refine jg_iflt (pc' := 4) rfl rfl (fun hc => ?_) (fun hc => ?_)
  · have h := jg_t h (show jg_wr x1 < 0 from hc)
    refine jg_A (pc' := 19) rfl rfl (fun _ _ _ => rfl) ?_
    exact jg_zret rfl rfl (by decide) h
  · have h := jg_f h (show ¬ (jg_wr x1 < 0) from hc)
    refine jg_A (pc' := 5) rfl rfl (fun _ _ _ => rfl) ?_
    refine jg_A (pc' := 6) rfl rfl (fun _ _ _ => rfl) ?_
    refine jg_getO (pc' := 9) (k := 5) rfl h0 (by decide) rfl rfl ?_
    refine jg_A (pc' := 10) rfl rfl (fun _ _ _ => rfl) ?_
    refine jg_ialdK (pc' := 11) (xi := 0) rfl (jg_sX12_14 h0) (by decide) (by decide) rfl ?_
    refine jg_cge (pc' := 14) rfl rfl (fun hc => ?_) (fun hc => ?_)
    · have h := jg_t h (show jg_wr (σ.1 (a0 + 5) (0)) ≤ jg_wr x1 from hc)
      refine jg_A (pc' := 19) rfl rfl (fun _ _ _ => rfl) ?_
      exact jg_zret rfl rfl (by decide) h
    · have h := jg_f h (show ¬ (jg_wr (σ.1 (a0 + 5) (0)) ≤ jg_wr x1) from hc)
      refine jg_A (pc' := 15) rfl rfl (fun _ _ _ => rfl) ?_
      refine jg_goto rfl ?_
      exact jg_zret rfl rfl (by decide) h
set_option maxRecDepth 100000 in
set_option maxHeartbeats 4000000 in
theorem jb_X12_isState_0 {w : Nat} {a0 : Nat} {x1 : Int} {σ : jg_M} {Q : Int → jg_M → Prop} (h0 : jg_sh a0 = (12, 0)) (h : (if jg_wr x1 < 0 then Q 0 σ else (if jg_wr (σ.1 (a0 + 13) (0)) ≤ jg_wr x1 then Q 0 σ else Q 1 σ))) : jg_CI w 0 mm_X12_isState [.ref a0, .int (.ofInt x1)] σ Q := by
  show jg_G w 0 mm_X12_isState 0 [.ref a0, .int (.ofInt x1)] [] σ (jg_QI Q)
  refine jg_A (pc' := 1) rfl rfl (fun _ _ _ => rfl) ?_
  refine jg_iflt (pc' := 4) rfl rfl (fun hc => ?_) (fun hc => ?_)
  · have h := jg_t h (show jg_wr x1 < 0 from hc)
    refine jg_A (pc' := 19) rfl rfl (fun _ _ _ => rfl) ?_
    exact jg_zret rfl rfl (by decide) h
  · have h := jg_f h (show ¬ (jg_wr x1 < 0) from hc)
    refine jg_A (pc' := 5) rfl rfl (fun _ _ _ => rfl) ?_
    refine jg_A (pc' := 6) rfl rfl (fun _ _ _ => rfl) ?_
    refine jg_getO (pc' := 9) (k := 13) rfl h0 (by decide) rfl rfl ?_
    refine jg_A (pc' := 10) rfl rfl (fun _ _ _ => rfl) ?_
    refine jg_ialdK (pc' := 11) (xi := 0) rfl (jg_sX12_22 h0) (by decide) (by decide) rfl ?_
    refine jg_cge (pc' := 14) rfl rfl (fun hc => ?_) (fun hc => ?_)
    · have h := jg_t h (show jg_wr (σ.1 (a0 + 13) (0)) ≤ jg_wr x1 from hc)
      refine jg_A (pc' := 19) rfl rfl (fun _ _ _ => rfl) ?_
      exact jg_zret rfl rfl (by decide) h
    · have h := jg_f h (show ¬ (jg_wr (σ.1 (a0 + 13) (0)) ≤ jg_wr x1) from hc)
      refine jg_A (pc' := 15) rfl rfl (fun _ _ _ => rfl) ?_
      refine jg_goto rfl ?_
      exact jg_zret rfl rfl (by decide) h
set_option maxRecDepth 100000 in
set_option maxHeartbeats 4000000 in
theorem jb_X12_byText_0 {w : Nat} {a0 : Nat} {σ : jg_M} {Q : jg_M → Prop} (h0 : jg_sh a0 = (12, 0)) (h : ∀ m101 : jg_M, m101 = jg_sI σ a0 36 0 → ∀ m102 : jg_M, m102 = jg_sI m101 a0 35 0 → ∀ m103 : jg_M, m103 = jg_sI m102 a0 34 (-1) → ∀ m104 : jg_M, m104 = jg_sI m103 a0 33 0 → ∀ m105 : jg_M, m105 = jg_sI m104 a0 38 0 → Q m105) : jg_CV w 0 mm_X12_byText [.ref a0] σ Q := by
  show jg_G w 0 mm_X12_byText 0 [.ref a0] [] σ (jg_QV Q)
  refine jg_A (pc' := 1) rfl rfl (fun _ _ _ => rfl) ?_
  refine jg_A (pc' := 2) rfl rfl (fun _ _ _ => rfl) ?_
  refine jg_putI (pc' := 5) (bi := 36) rfl h0 (by decide) rfl rfl rfl rfl (fun m101 hm101 => ?_)
  have h := h m101 hm101
  refine jg_A (pc' := 6) rfl rfl (fun _ _ _ => rfl) ?_
  refine jg_A (pc' := 7) rfl rfl (fun _ _ _ => rfl) ?_
  refine jg_putI (pc' := 10) (bi := 35) rfl h0 (by decide) rfl rfl rfl rfl (fun m102 hm102 => ?_)
  have h := h m102 hm102
  refine jg_A (pc' := 11) rfl rfl (fun _ _ _ => rfl) ?_
  refine jg_A (pc' := 12) rfl rfl (fun _ _ _ => rfl) ?_
  refine jg_putI (pc' := 15) (bi := 34) rfl h0 (by decide) rfl rfl rfl rfl (fun m103 hm103 => ?_)
  have h := h m103 hm103
  refine jg_A (pc' := 16) rfl rfl (fun _ _ _ => rfl) ?_
  refine jg_A (pc' := 17) rfl rfl (fun _ _ _ => rfl) ?_
  refine jg_putI (pc' := 20) (bi := 33) rfl h0 (by decide) rfl rfl rfl rfl (fun m104 hm104 => ?_)
  have h := h m104 hm104
  refine jg_A (pc' := 21) rfl rfl (fun _ _ _ => rfl) ?_
  refine jg_A (pc' := 22) rfl rfl (fun _ _ _ => rfl) ?_
  refine jg_putI (pc' := 25) (bi := 38) rfl h0 (by decide) rfl rfl rfl rfl (fun m105 hm105 => ?_)
  have h := h m105 hm105
  exact jg_vret rfl rfl h
set_option maxRecDepth 100000 in
set_option maxHeartbeats 4000000 in
theorem jb_X12_fails_0 {w : Nat} {a0 : Nat} {x1 : Int} {σ : jg_M} {Q : Int → jg_M → Prop} (h0 : jg_sh a0 = (12, 0)) (h : ∀ m101 : jg_M, m101 = jg_sI σ a0 2 x1 → Q 0 m101) : jg_CI w 0 mm_X12_fails [.ref a0, .int (.ofInt x1)] σ Q := by
  show jg_G w 0 mm_X12_fails 0 [.ref a0, .int (.ofInt x1)] [] σ (jg_QI Q)
  refine jg_A (pc' := 1) rfl rfl (fun _ _ _ => rfl) ?_
  refine jg_A (pc' := 2) rfl rfl (fun _ _ _ => rfl) ?_
  refine jg_putI (pc' := 5) (bi := 2) rfl h0 (by decide) rfl rfl rfl rfl (fun m101 hm101 => ?_)
  have h := h m101 hm101
  refine jg_A (pc' := 6) rfl rfl (fun _ _ _ => rfl) ?_
  exact jg_iret rfl rfl h
set_option maxRecDepth 100000 in
set_option maxHeartbeats 4000000 in
theorem jb_X12_token_0 {w : Nat} {a0 : Nat} {x1 : Int} {x2 : Int} {σ : jg_M} {Q : Int → jg_M → Prop} (h0 : jg_sh a0 = (12, 0)) (h : ∀ m101 : jg_M, m101 = jg_sI σ a0 2 0 → jg_CI w 0 mm_X12_isToken [.ref a0, .int (.ofInt x1)] m101 (fun (z103 : Int) (m102 : jg_M) => (if jg_wr z103 = 0 then Q (-1) m102 else (if jg_wr x2 = 0 then ((0 : Int) ≤ jg_wr x1 ∧ jg_wr x1 < (14 : Int)) ∧ Q (m102.1 (a0 + 8) (jg_wr x1)) m102 else (if jg_wr x2 = 1 then ((0 : Int) ≤ jg_wr x1 ∧ jg_wr x1 < (14 : Int)) ∧ Q (m102.1 (a0 + 9) (jg_wr x1)) m102 else Q (-1) m102))))) : jg_CI w 1 mm_X12_token [.ref a0, .int (.ofInt x1), .int (.ofInt x2)] σ Q := by
  show jg_G w 1 mm_X12_token 0 [.ref a0, .int (.ofInt x1), .int (.ofInt x2)] [] σ (jg_QI Q)
  refine jg_A (pc' := 1) rfl rfl (fun _ _ _ => rfl) ?_
  refine jg_A (pc' := 2) rfl rfl (fun _ _ _ => rfl) ?_
  refine jg_putI (pc' := 5) (bi := 2) rfl h0 (by decide) rfl rfl rfl rfl (fun m101 hm101 => ?_)
  have h := h m101 hm101
  refine jg_A (pc' := 6) rfl rfl (fun _ _ _ => rfl) ?_
  refine jg_A (pc' := 7) rfl rfl (fun _ _ _ => rfl) ?_
  refine jg_calX (M1 := mm_X12_isToken) (hy := 0) (pc' := 10) rfl jm_X12_isToken (by decide) rfl h0 (by decide) ⟨Nat.le_of_ble_eq_true rfl, rfl⟩ (Nat.le_of_ble_eq_true rfl) rfl h (jg_kI (fun z103 m102 h => ?_))
  refine jg_ifne (pc' := 13) rfl rfl (fun hc => ?_) (fun hc => ?_)
  · have h := jg_t h (show jg_wr z103 = 0 from hc)
    refine jg_A (pc' := 14) rfl rfl (fun _ _ _ => rfl) ?_
    refine jg_goto rfl ?_
    exact jg_iret rfl rfl h
  · have h := jg_f h (show ¬ (jg_wr z103 = 0) from hc)
    refine jg_A (pc' := 18) rfl rfl (fun _ _ _ => rfl) ?_
    refine jg_ifne (pc' := 21) rfl rfl (fun hc => ?_) (fun hc => ?_)
    · have h := jg_t h (show jg_wr x2 = 0 from hc)
      refine jg_A (pc' := 22) rfl rfl (fun _ _ _ => rfl) ?_
      refine jg_getO (pc' := 25) (k := 8) rfl h0 (by decide) rfl rfl ?_
      refine jg_A (pc' := 26) rfl rfl (fun _ _ _ => rfl) ?_
      obtain ⟨hg, h⟩ := h
      refine jg_iald (pc' := 27) rfl (jg_sX12_17 h0) hg rfl ?_
      refine jg_goto rfl ?_
      exact jg_iret rfl rfl h
    · have h := jg_f h (show ¬ (jg_wr x2 = 0) from hc)
      refine jg_A (pc' := 31) rfl rfl (fun _ _ _ => rfl) ?_
      refine jg_A (pc' := 32) rfl rfl (fun _ _ _ => rfl) ?_
      refine jg_cne (pc' := 35) rfl rfl (fun hc => ?_) (fun hc => ?_)
      · have h := jg_t h (show jg_wr x2 = 1 from hc)
        refine jg_A (pc' := 36) rfl rfl (fun _ _ _ => rfl) ?_
        refine jg_getO (pc' := 39) (k := 9) rfl h0 (by decide) rfl rfl ?_
        refine jg_A (pc' := 40) rfl rfl (fun _ _ _ => rfl) ?_
        obtain ⟨hg, h⟩ := h
        refine jg_iald (pc' := 41) rfl (jg_sX12_18 h0) hg rfl ?_
        refine jg_goto rfl ?_
        exact jg_iret rfl rfl h
      · have h := jg_f h (show ¬ (jg_wr x2 = 1) from hc)
        refine jg_A (pc' := 45) rfl rfl (fun _ _ _ => rfl) ?_
        exact jg_iret rfl rfl h
set_option maxRecDepth 100000 in
set_option maxHeartbeats 4000000 in
theorem jb_X12_kind_0 {w : Nat} {a0 : Nat} {x1 : Int} {x2 : Int} {σ : jg_M} {Q : Int → jg_M → Prop} (h0 : jg_sh a0 = (12, 0)) (h : ∀ m101 : jg_M, m101 = jg_sI σ a0 2 0 → jg_CI w 0 mm_X12_isKind [.ref a0, .int (.ofInt x1)] m101 (fun (z103 : Int) (m102 : jg_M) => (if jg_wr z103 = 0 then jg_CI w 0 mm_X12_fails [.ref a0, .int (.ofInt 1)] m102 (fun (z105 : Int) (m104 : jg_M) => Q z105 m104) else (if jg_wr x2 = 0 then Q (jg_and (jg_shr (m102.1 (a0 + 20) (0)) x1) 1) m102 else (if jg_wr x2 = 1 then ((0 : Int) ≤ jg_wr x1 ∧ jg_wr x1 < (10 : Int)) ∧ Q (m102.1 (a0 + 21) (jg_wr x1)) m102 else (if jg_wr x2 = 2 then jg_CV w 3 mm_X12_layFollow [.ref a0, .int (.ofInt 0), .int (.ofInt 0), .int (.ofInt (-1)), .int (.ofInt 0)] m102 (fun (m106 : jg_M) => ((0 : Int) ≤ jg_wr x1 ∧ jg_wr x1 < (5 : Int)) ∧ Q (m106.1 (a0 + 25) (jg_wr x1)) m106) else (if jg_wr x2 = 3 then jg_GI w 4 mm_X12_kind 92 [.ref a0, .int (.ofInt x1), .int (.ofInt x2), .int (.ofInt 0), .int (.ofInt 0)] m102 Q else (if jg_wr x2 = 4 then ((0 : Int) ≤ jg_wr x1 ∧ jg_wr x1 < (5 : Int)) ∧ (if 0 ≤ jg_wr (m102.1 (a0 + 29) (jg_wr x1)) then ((0 : Int) ≤ jg_wr x1 ∧ jg_wr x1 < (5 : Int)) ∧ Q (m102.1 (a0 + 29) (jg_wr x1)) m102 else Q (-2) m102) else jg_CI w 0 mm_X12_fails [.ref a0, .int (.ofInt 2)] m102 (fun (z108 : Int) (m107 : jg_M) => Q z108 m107))))))))) : jg_CI w 4 mm_X12_kind [.ref a0, .int (.ofInt x1), .int (.ofInt x2)] σ Q := by
  show jg_G w 4 mm_X12_kind 0 [.ref a0, .int (.ofInt x1), .int (.ofInt x2), mj_U, mj_U] [] σ (jg_QI Q)
  refine jg_A (pc' := 1) rfl rfl (fun _ _ _ => rfl) ?_
  refine jg_A (pc' := 2) rfl rfl (fun _ _ _ => rfl) ?_
  refine jg_putI (pc' := 5) (bi := 2) rfl h0 (by decide) rfl rfl rfl rfl (fun m101 hm101 => ?_)
  have h := h m101 hm101
  refine jg_A (pc' := 6) rfl rfl (fun _ _ _ => rfl) ?_
  refine jg_A (pc' := 7) rfl rfl (fun _ _ _ => rfl) ?_
  refine jg_calX (M1 := mm_X12_isKind) (hy := 0) (pc' := 10) rfl jm_X12_isKind (by decide) rfl h0 (by decide) ⟨Nat.le_of_ble_eq_true rfl, rfl⟩ (Nat.le_of_ble_eq_true rfl) rfl h (jg_kI (fun z103 m102 h => ?_))
  refine jg_ifne (pc' := 13) rfl rfl (fun hc => ?_) (fun hc => ?_)
  · have h := jg_t h (show jg_wr z103 = 0 from hc)
    refine jg_A (pc' := 14) rfl rfl (fun _ _ _ => rfl) ?_
    refine jg_A (pc' := 15) rfl rfl (fun _ _ _ => rfl) ?_
    refine jg_calX (M1 := mm_X12_fails) (hy := 0) (pc' := 18) rfl jm_X12_fails (by decide) rfl h0 (by decide) ⟨Nat.le_of_ble_eq_true rfl, rfl⟩ (Nat.le_of_ble_eq_true rfl) rfl h (jg_kI (fun z105 m104 h => ?_))
    exact jg_iret rfl rfl h
  · have h := jg_f h (show ¬ (jg_wr z103 = 0) from hc)
    refine jg_A (pc' := 20) rfl rfl (fun _ _ _ => rfl) ?_
    refine jg_A (pc' := 21) (ls' := [.ref a0, .int (.ofInt x1), .int (.ofInt x2), .int (.ofInt 0), mj_U]) rfl rfl (fun _ _ _ => rfl) ?_
    refine jg_A (pc' := 22) rfl rfl (fun _ _ _ => rfl) ?_
    refine jg_tsw rfl rfl ?_
    refine jg_swc (v := 0) (t := 56) (fun hc => ?_) (fun hc => ?_)
    · have h := jg_t h hc
      refine jg_A (pc' := 57) rfl rfl (fun _ _ _ => rfl) ?_
      refine jg_getO (pc' := 60) (k := 20) rfl h0 (by decide) rfl rfl ?_
      refine jg_A (pc' := 61) rfl rfl (fun _ _ _ => rfl) ?_
      refine jg_ialdK (pc' := 62) (xi := 0) rfl (jg_sX12_29 h0) (by decide) (by decide) rfl ?_
      refine jg_A (pc' := 63) rfl rfl (fun _ _ _ => rfl) ?_
      refine jg_ishr (pc' := 64) rfl rfl ?_
      refine jg_A (pc' := 65) rfl rfl (fun _ _ _ => rfl) ?_
      refine jg_iand (pc' := 66) rfl rfl ?_
      exact jg_iret rfl rfl h
    have h := jg_f h hc
    refine jg_swc (v := 1) (t := 67) (fun hc => ?_) (fun hc => ?_)
    · have h := jg_t h hc
      refine jg_A (pc' := 68) rfl rfl (fun _ _ _ => rfl) ?_
      refine jg_getO (pc' := 71) (k := 21) rfl h0 (by decide) rfl rfl ?_
      refine jg_A (pc' := 72) rfl rfl (fun _ _ _ => rfl) ?_
      obtain ⟨hg, h⟩ := h
      refine jg_iald (pc' := 73) rfl (jg_sX12_30 h0) hg rfl ?_
      exact jg_iret rfl rfl h
    have h := jg_f h hc
    refine jg_swc (v := 2) (t := 74) (fun hc => ?_) (fun hc => ?_)
    · have h := jg_t h hc
      refine jg_A (pc' := 75) rfl rfl (fun _ _ _ => rfl) ?_
      refine jg_A (pc' := 76) rfl rfl (fun _ _ _ => rfl) ?_
      refine jg_A (pc' := 77) rfl rfl (fun _ _ _ => rfl) ?_
      refine jg_A (pc' := 78) rfl rfl (fun _ _ _ => rfl) ?_
      refine jg_A (pc' := 79) rfl rfl (fun _ _ _ => rfl) ?_
      refine jg_calX (M1 := mm_X12_layFollow) (hy := 3) (pc' := 82) rfl jm_X12_layFollow (by decide) rfl h0 (by decide) ⟨Nat.le_of_ble_eq_true rfl, rfl⟩ (Nat.le_of_ble_eq_true rfl) rfl h (jg_kV (fun m106 h => ?_))
      refine jg_A (pc' := 83) rfl rfl (fun _ _ _ => rfl) ?_
      refine jg_getO (pc' := 86) (k := 25) rfl h0 (by decide) rfl rfl ?_
      refine jg_A (pc' := 87) rfl rfl (fun _ _ _ => rfl) ?_
      obtain ⟨hg, h⟩ := h
      refine jg_iald (pc' := 88) rfl (jg_sX12_39 h0) hg rfl ?_
      exact jg_iret rfl rfl h
    have h := jg_f h hc
    refine jg_swc (v := 3) (t := 89) (fun hc => ?_) (fun hc => ?_)
    · have h := jg_t h hc
      refine jg_A (pc' := 90) rfl rfl (fun _ _ _ => rfl) ?_
      refine jg_A (pc' := 92) (ls' := [.ref a0, .int (.ofInt x1), .int (.ofInt x2), .int (.ofInt 0), .int (.ofInt 0)]) rfl rfl (fun _ _ _ => rfl) ?_
      exact h
    have h := jg_f h hc
    refine jg_swc (v := 4) (t := 130) (fun hc => ?_) (fun hc => ?_)
    · have h := jg_t h hc
      refine jg_A (pc' := 131) rfl rfl (fun _ _ _ => rfl) ?_
      refine jg_getO (pc' := 134) (k := 29) rfl h0 (by decide) rfl rfl ?_
      refine jg_A (pc' := 135) rfl rfl (fun _ _ _ => rfl) ?_
      obtain ⟨hg, h⟩ := h
      refine jg_iald (pc' := 136) rfl (jg_sX12_43 h0) hg rfl ?_
      refine jg_ifge (pc' := 139) rfl rfl (fun hc => ?_) (fun hc => ?_)
      · have h := jg_t h (show 0 ≤ jg_wr (m102.1 (a0 + 29) (jg_wr x1)) from hc)
        refine jg_A (pc' := 145) rfl rfl (fun _ _ _ => rfl) ?_
        refine jg_getO (pc' := 148) (k := 29) rfl h0 (by decide) rfl rfl ?_
        refine jg_A (pc' := 149) rfl rfl (fun _ _ _ => rfl) ?_
        obtain ⟨hg, h⟩ := h
        refine jg_iald (pc' := 150) rfl (jg_sX12_43 h0) hg rfl ?_
        exact jg_iret rfl rfl h
      · have h := jg_f h (show ¬ (0 ≤ jg_wr (m102.1 (a0 + 29) (jg_wr x1))) from hc)
        refine jg_A (pc' := 141) rfl rfl (fun _ _ _ => rfl) ?_
        refine jg_goto rfl ?_
        exact jg_iret rfl rfl h
    have h := jg_f h hc
    show jg_G w 4 mm_X12_kind 151 [.ref a0, .int (.ofInt x1), .int (.ofInt x2), .int (.ofInt 0), mj_U] [] m102 (jg_QI Q)
    refine jg_A (pc' := 152) rfl rfl (fun _ _ _ => rfl) ?_
    refine jg_A (pc' := 153) rfl rfl (fun _ _ _ => rfl) ?_
    refine jg_calX (M1 := mm_X12_fails) (hy := 0) (pc' := 156) rfl jm_X12_fails (by decide) rfl h0 (by decide) ⟨Nat.le_of_ble_eq_true rfl, rfl⟩ (Nat.le_of_ble_eq_true rfl) rfl h (jg_kI (fun z108 m107 h => ?_))
    exact jg_iret rfl rfl h
set_option maxRecDepth 100000 in
set_option maxHeartbeats 4000000 in
theorem jb_X12_kind_92 {w : Nat} {a0 : Nat} {x1 : Int} {u2 : Value} {x3 : Int} {x4 : Int} {σ : jg_M} {Q : Int → jg_M → Prop} (h0 : jg_sh a0 = (12, 0)) (h : (if jg_wr (σ.1 (a0 + 5) (0)) ≤ jg_wr x4 then Q x3 σ else ((0 : Int) ≤ jg_wr x4 ∧ jg_wr x4 < (26 : Int)) ∧ (if jg_wr (σ.1 (a0 + 10) (jg_wr x4)) = jg_wr x1 then ∀ t101 : Int, t101 = (x3 + 1) → jg_GI w 4 mm_X12_kind 92 [.ref a0, .int (.ofInt x1), u2, .int (.ofInt t101), .int (.ofInt (x4 + 1))] σ Q else ∀ t102 : Int, t102 = (x3 + 0) → jg_GI w 4 mm_X12_kind 92 [.ref a0, .int (.ofInt x1), u2, .int (.ofInt t102), .int (.ofInt (x4 + 1))] σ Q))) : jg_GI w 4 mm_X12_kind 92 [.ref a0, .int (.ofInt x1), u2, .int (.ofInt x3), .int (.ofInt x4)] σ Q := by
  show jg_G w 4 mm_X12_kind 92 [.ref a0, .int (.ofInt x1), u2, .int (.ofInt x3), .int (.ofInt x4)] [] σ (jg_QI Q)
  refine jg_A (pc' := 94) rfl rfl (fun _ _ _ => rfl) ?_
  refine jg_A (pc' := 95) rfl rfl (fun _ _ _ => rfl) ?_
  refine jg_getO (pc' := 98) (k := 5) rfl h0 (by decide) rfl rfl ?_
  refine jg_A (pc' := 99) rfl rfl (fun _ _ _ => rfl) ?_
  refine jg_ialdK (pc' := 100) (xi := 0) rfl (jg_sX12_14 h0) (by decide) (by decide) rfl ?_
  refine jg_cge (pc' := 103) rfl rfl (fun hc => ?_) (fun hc => ?_)
  · have h := jg_t h (show jg_wr (σ.1 (a0 + 5) (0)) ≤ jg_wr x4 from hc)
    refine jg_A (pc' := 129) rfl rfl (fun _ _ _ => rfl) ?_
    exact jg_iret rfl rfl h
  · have h := jg_f h (show ¬ (jg_wr (σ.1 (a0 + 5) (0)) ≤ jg_wr x4) from hc)
    refine jg_A (pc' := 104) rfl rfl (fun _ _ _ => rfl) ?_
    refine jg_A (pc' := 105) rfl rfl (fun _ _ _ => rfl) ?_
    refine jg_getO (pc' := 108) (k := 10) rfl h0 (by decide) rfl rfl ?_
    refine jg_A (pc' := 110) rfl rfl (fun _ _ _ => rfl) ?_
    obtain ⟨hg, h⟩ := h
    refine jg_iald (pc' := 111) rfl (jg_sX12_19 h0) hg rfl ?_
    refine jg_A (pc' := 112) rfl rfl (fun _ _ _ => rfl) ?_
    refine jg_cne (pc' := 115) rfl rfl (fun hc => ?_) (fun hc => ?_)
    · have h := jg_t h (show jg_wr (σ.1 (a0 + 10) (jg_wr x4)) = jg_wr x1 from hc)
      refine jg_A (pc' := 116) rfl rfl (fun _ _ _ => rfl) ?_
      refine jg_goto rfl ?_
      refine jg_iadd (pc' := 121) rfl rfl ?_
      refine jg_nm (F := fun t101 => jg_G w 4 mm_X12_kind 121 [.ref a0, .int (.ofInt x1), u2, .int (.ofInt x3), .int (.ofInt x4)] [.int (.ofInt t101)] σ (jg_QI Q)) (x3 + 1) (fun t101 ht101 => ?_)
      have h := h t101 ht101
      refine jg_A (pc' := 122) (ls' := [.ref a0, .int (.ofInt x1), u2, .int (.ofInt t101), .int (.ofInt x4)]) rfl rfl (fun _ _ _ => rfl) ?_
      refine jg_iinc (pc' := 125) (ls' := [.ref a0, .int (.ofInt x1), u2, .int (.ofInt t101), .int (.ofInt (x4 + 1))]) rfl rfl rfl rfl ?_
      refine jg_goto rfl ?_
      exact h
    · have h := jg_f h (show ¬ (jg_wr (σ.1 (a0 + 10) (jg_wr x4)) = jg_wr x1) from hc)
      refine jg_A (pc' := 120) rfl rfl (fun _ _ _ => rfl) ?_
      refine jg_iadd (pc' := 121) rfl rfl ?_
      refine jg_nm (F := fun t102 => jg_G w 4 mm_X12_kind 121 [.ref a0, .int (.ofInt x1), u2, .int (.ofInt x3), .int (.ofInt x4)] [.int (.ofInt t102)] σ (jg_QI Q)) (x3 + 0) (fun t102 ht102 => ?_)
      have h := h t102 ht102
      refine jg_A (pc' := 122) (ls' := [.ref a0, .int (.ofInt x1), u2, .int (.ofInt t102), .int (.ofInt x4)]) rfl rfl (fun _ _ _ => rfl) ?_
      refine jg_iinc (pc' := 125) (ls' := [.ref a0, .int (.ofInt x1), u2, .int (.ofInt t102), .int (.ofInt (x4 + 1))]) rfl rfl rfl rfl ?_
      refine jg_goto rfl ?_
      exact h
set_option maxRecDepth 100000 in
set_option maxHeartbeats 4000000 in
theorem jb_X12_rule_0 {w : Nat} {a0 : Nat} {x1 : Int} {x2 : Int} {σ : jg_M} {Q : Int → jg_M → Prop} (h0 : jg_sh a0 = (12, 0)) (h : ∀ m101 : jg_M, m101 = jg_sI σ a0 2 0 → jg_CI w 0 mm_X12_isRule [.ref a0, .int (.ofInt x1)] m101 (fun (z103 : Int) (m102 : jg_M) => (if jg_wr z103 = 0 then Q (-1) m102 else jg_CI w 0 mm_X12_isIn [.int (.ofInt x2), .int (.ofInt 0), .int (.ofInt 6)] m102 (fun (z105 : Int) (m104 : jg_M) => (if jg_wr z105 = 0 then Q (-1) m104 else jg_CV w 0 mm_X12_byText [.ref a0] m104 (fun (m106 : jg_M) => (if jg_wr x2 = 0 then ((0 : Int) ≤ jg_wr x1 ∧ jg_wr x1 < (26 : Int)) ∧ Q (m106.1 (a0 + 10) (jg_wr x1)) m106 else (if jg_wr x2 = 1 then ((0 : Int) ≤ jg_wr x1 ∧ jg_wr x1 < (26 : Int)) ∧ Q (m106.1 (a0 + 11) (jg_wr x1)) m106 else (if jg_wr x2 = 6 then jg_CI w 1 mm_X12_ruleRank [.ref a0, .int (.ofInt x1)] m106 (fun (z108 : Int) (m107 : jg_M) => Q z108 m107) else ((0 : Int) ≤ jg_wr x1 ∧ jg_wr x1 < (26 : Int)) ∧ (if jg_wr (m106.1 (a0 + 11) (jg_wr x1)) ≤ jg_wr (x2 - 2) then Q (-2) m106 else ((0 : Int) ≤ jg_wr (((4 * x1) + x2) - 2) ∧ jg_wr (((4 * x1) + x2) - 2) < (104 : Int)) ∧ Q (m106.1 (a0 + 12) (jg_wr (((4 * x1) + x2) - 2))) m106)))))))))) : jg_CI w 2 mm_X12_rule [.ref a0, .int (.ofInt x1), .int (.ofInt x2)] σ Q := by
  show jg_G w 2 mm_X12_rule 0 [.ref a0, .int (.ofInt x1), .int (.ofInt x2)] [] σ (jg_QI Q)
  refine jg_A (pc' := 1) rfl rfl (fun _ _ _ => rfl) ?_
  refine jg_A (pc' := 2) rfl rfl (fun _ _ _ => rfl) ?_
  refine jg_putI (pc' := 5) (bi := 2) rfl h0 (by decide) rfl rfl rfl rfl (fun m101 hm101 => ?_)
  have h := h m101 hm101
  refine jg_A (pc' := 6) rfl rfl (fun _ _ _ => rfl) ?_
  refine jg_A (pc' := 7) rfl rfl (fun _ _ _ => rfl) ?_
  refine jg_calX (M1 := mm_X12_isRule) (hy := 0) (pc' := 10) rfl jm_X12_isRule (by decide) rfl h0 (by decide) ⟨Nat.le_of_ble_eq_true rfl, rfl⟩ (Nat.le_of_ble_eq_true rfl) rfl h (jg_kI (fun z103 m102 h => ?_))
  refine jg_ifeq (pc' := 13) rfl rfl (fun hc => ?_) (fun hc => ?_)
  · have h := jg_t h (show jg_wr z103 = 0 from hc)
    refine jg_A (pc' := 24) rfl rfl (fun _ _ _ => rfl) ?_
    exact jg_iret rfl rfl h
  · have h := jg_f h (show ¬ (jg_wr z103 = 0) from hc)
    refine jg_A (pc' := 14) rfl rfl (fun _ _ _ => rfl) ?_
    refine jg_A (pc' := 15) rfl rfl (fun _ _ _ => rfl) ?_
    refine jg_A (pc' := 17) rfl rfl (fun _ _ _ => rfl) ?_
    refine jg_calS (M1 := mm_X12_isIn) (hy := 0) (pc' := 20) rfl (Or.inl rfl) jm_X12_isIn (by decide) rfl ⟨Nat.le_of_ble_eq_true rfl, rfl⟩ (Nat.le_of_ble_eq_true rfl) rfl h (jg_kI (fun z105 m104 h => ?_))
    refine jg_ifne (pc' := 23) rfl rfl (fun hc => ?_) (fun hc => ?_)
    · have h := jg_t h (show jg_wr z105 = 0 from hc)
      refine jg_A (pc' := 24) rfl rfl (fun _ _ _ => rfl) ?_
      exact jg_iret rfl rfl h
    · have h := jg_f h (show ¬ (jg_wr z105 = 0) from hc)
      refine jg_A (pc' := 26) rfl rfl (fun _ _ _ => rfl) ?_
      refine jg_calX (M1 := mm_X12_byText) (hy := 0) (pc' := 29) rfl jm_X12_byText (by decide) rfl h0 (by decide) ⟨Nat.le_of_ble_eq_true rfl, rfl⟩ (Nat.le_of_ble_eq_true rfl) rfl h (jg_kV (fun m106 h => ?_))
      refine jg_A (pc' := 30) rfl rfl (fun _ _ _ => rfl) ?_
      refine jg_ifne (pc' := 33) rfl rfl (fun hc => ?_) (fun hc => ?_)
      · have h := jg_t h (show jg_wr x2 = 0 from hc)
        refine jg_A (pc' := 34) rfl rfl (fun _ _ _ => rfl) ?_
        refine jg_getO (pc' := 37) (k := 10) rfl h0 (by decide) rfl rfl ?_
        refine jg_A (pc' := 38) rfl rfl (fun _ _ _ => rfl) ?_
        obtain ⟨hg, h⟩ := h
        refine jg_iald (pc' := 39) rfl (jg_sX12_19 h0) hg rfl ?_
        exact jg_iret rfl rfl h
      · have h := jg_f h (show ¬ (jg_wr x2 = 0) from hc)
        refine jg_A (pc' := 41) rfl rfl (fun _ _ _ => rfl) ?_
        refine jg_A (pc' := 42) rfl rfl (fun _ _ _ => rfl) ?_
        refine jg_cne (pc' := 45) rfl rfl (fun hc => ?_) (fun hc => ?_)
        · have h := jg_t h (show jg_wr x2 = 1 from hc)
          refine jg_A (pc' := 46) rfl rfl (fun _ _ _ => rfl) ?_
          refine jg_getO (pc' := 49) (k := 11) rfl h0 (by decide) rfl rfl ?_
          refine jg_A (pc' := 50) rfl rfl (fun _ _ _ => rfl) ?_
          obtain ⟨hg, h⟩ := h
          refine jg_iald (pc' := 51) rfl (jg_sX12_20 h0) hg rfl ?_
          exact jg_iret rfl rfl h
        · have h := jg_f h (show ¬ (jg_wr x2 = 1) from hc)
          refine jg_A (pc' := 53) rfl rfl (fun _ _ _ => rfl) ?_
          refine jg_A (pc' := 55) rfl rfl (fun _ _ _ => rfl) ?_
          refine jg_cne (pc' := 58) rfl rfl (fun hc => ?_) (fun hc => ?_)
          · have h := jg_t h (show jg_wr x2 = 6 from hc)
            refine jg_A (pc' := 59) rfl rfl (fun _ _ _ => rfl) ?_
            refine jg_A (pc' := 60) rfl rfl (fun _ _ _ => rfl) ?_
            refine jg_calX (M1 := mm_X12_ruleRank) (hy := 1) (pc' := 63) rfl jm_X12_ruleRank (by decide) rfl h0 (by decide) ⟨Nat.le_of_ble_eq_true rfl, rfl⟩ (Nat.le_of_ble_eq_true rfl) rfl h (jg_kI (fun z108 m107 h => ?_))
            exact jg_iret rfl rfl h
          · have h := jg_f h (show ¬ (jg_wr x2 = 6) from hc)
            refine jg_A (pc' := 65) rfl rfl (fun _ _ _ => rfl) ?_
            refine jg_A (pc' := 66) rfl rfl (fun _ _ _ => rfl) ?_
            refine jg_isub (pc' := 67) rfl rfl ?_
            refine jg_A (pc' := 68) rfl rfl (fun _ _ _ => rfl) ?_
            refine jg_getO (pc' := 71) (k := 11) rfl h0 (by decide) rfl rfl ?_
            refine jg_A (pc' := 72) rfl rfl (fun _ _ _ => rfl) ?_
            obtain ⟨hg, h⟩ := h
            refine jg_iald (pc' := 73) rfl (jg_sX12_20 h0) hg rfl ?_
            refine jg_cge (pc' := 76) rfl rfl (fun hc => ?_) (fun hc => ?_)
            · have h := jg_t h (show jg_wr (m106.1 (a0 + 11) (jg_wr x1)) ≤ jg_wr (x2 - 2) from hc)
              refine jg_A (pc' := 93) rfl rfl (fun _ _ _ => rfl) ?_
              exact jg_iret rfl rfl h
            · have h := jg_f h (show ¬ (jg_wr (m106.1 (a0 + 11) (jg_wr x1)) ≤ jg_wr (x2 - 2)) from hc)
              refine jg_A (pc' := 77) rfl rfl (fun _ _ _ => rfl) ?_
              refine jg_getO (pc' := 80) (k := 12) rfl h0 (by decide) rfl rfl ?_
              refine jg_A (pc' := 81) rfl rfl (fun _ _ _ => rfl) ?_
              refine jg_A (pc' := 82) rfl rfl (fun _ _ _ => rfl) ?_
              refine jg_imul (pc' := 83) rfl rfl ?_
              refine jg_A (pc' := 84) rfl rfl (fun _ _ _ => rfl) ?_
              refine jg_iadd (pc' := 85) rfl rfl ?_
              refine jg_A (pc' := 86) rfl rfl (fun _ _ _ => rfl) ?_
              refine jg_isub (pc' := 87) rfl rfl ?_
              obtain ⟨hg, h⟩ := h
              refine jg_iald (pc' := 88) rfl (jg_sX12_21 h0) hg rfl ?_
              refine jg_goto rfl ?_
              exact jg_iret rfl rfl h
set_option maxRecDepth 100000 in
set_option maxHeartbeats 4000000 in
theorem jb_X12_itemsOf_0 {w : Nat} {a0 : Nat} {x1 : Int} {x2 : Int} {σ : jg_M} {Q : Int → jg_M → Prop} (h0 : jg_sh a0 = (12, 0)) (h : jg_GI w 0 mm_X12_itemsOf 5 [.ref a0, .int (.ofInt x1), .int (.ofInt x2), .int (.ofInt 0), .int (.ofInt 0)] σ Q) : jg_CI w 0 mm_X12_itemsOf [.ref a0, .int (.ofInt x1), .int (.ofInt x2)] σ Q := by
  show jg_G w 0 mm_X12_itemsOf 0 [.ref a0, .int (.ofInt x1), .int (.ofInt x2), mj_U, mj_U] [] σ (jg_QI Q)
  refine jg_A (pc' := 1) rfl rfl (fun _ _ _ => rfl) ?_
  refine jg_A (pc' := 2) (ls' := [.ref a0, .int (.ofInt x1), .int (.ofInt x2), .int (.ofInt 0), mj_U]) rfl rfl (fun _ _ _ => rfl) ?_
  refine jg_A (pc' := 3) rfl rfl (fun _ _ _ => rfl) ?_
  refine jg_A (pc' := 5) (ls' := [.ref a0, .int (.ofInt x1), .int (.ofInt x2), .int (.ofInt 0), .int (.ofInt 0)]) rfl rfl (fun _ _ _ => rfl) ?_
  exact h
set_option maxRecDepth 100000 in
set_option maxHeartbeats 4000000 in
theorem jb_X12_itemsOf_5 {w : Nat} {a0 : Nat} {x1 : Int} {x2 : Int} {x3 : Int} {x4 : Int} {σ : jg_M} {Q : Int → jg_M → Prop} (h0 : jg_sh a0 = (12, 0)) (h : (if 65 ≤ jg_wr x4 then Q x3 σ else (if jg_wr x2 = 0 then ((0 : Int) ≤ jg_wr ((65 * x1) + x4) ∧ jg_wr ((65 * x1) + x4) < (6240 : Int)) ∧ (if jg_wr (σ.1 (a0 + 15) (jg_wr ((65 * x1) + x4))) = 0 then ∀ t101 : Int, t101 = (x3 + 0) → jg_GI w 0 mm_X12_itemsOf 5 [.ref a0, .int (.ofInt x1), .int (.ofInt x2), .int (.ofInt t101), .int (.ofInt (x4 + 1))] σ Q else ∀ t102 : Int, t102 = (x3 + 1) → jg_GI w 0 mm_X12_itemsOf 5 [.ref a0, .int (.ofInt x1), .int (.ofInt x2), .int (.ofInt t102), .int (.ofInt (x4 + 1))] σ Q) else ((0 : Int) ≤ jg_wr ((65 * x1) + x4) ∧ jg_wr ((65 * x1) + x4) < (6240 : Int)) ∧ (if jg_wr (σ.1 (a0 + 14) (jg_wr ((65 * x1) + x4))) = 0 then ∀ t103 : Int, t103 = (x3 + 0) → jg_GI w 0 mm_X12_itemsOf 5 [.ref a0, .int (.ofInt x1), .int (.ofInt x2), .int (.ofInt t103), .int (.ofInt (x4 + 1))] σ Q else ∀ t104 : Int, t104 = (x3 + 1) → jg_GI w 0 mm_X12_itemsOf 5 [.ref a0, .int (.ofInt x1), .int (.ofInt x2), .int (.ofInt t104), .int (.ofInt (x4 + 1))] σ Q)))) : jg_GI w 0 mm_X12_itemsOf 5 [.ref a0, .int (.ofInt x1), .int (.ofInt x2), .int (.ofInt x3), .int (.ofInt x4)] σ Q := by
  show jg_G w 0 mm_X12_itemsOf 5 [.ref a0, .int (.ofInt x1), .int (.ofInt x2), .int (.ofInt x3), .int (.ofInt x4)] [] σ (jg_QI Q)
  refine jg_A (pc' := 7) rfl rfl (fun _ _ _ => rfl) ?_
  refine jg_A (pc' := 9) rfl rfl (fun _ _ _ => rfl) ?_
  refine jg_cge (pc' := 12) rfl rfl (fun hc => ?_) (fun hc => ?_)
  · have h := jg_t h (show 65 ≤ jg_wr x4 from hc)
    refine jg_A (pc' := 64) rfl rfl (fun _ _ _ => rfl) ?_
    exact jg_iret rfl rfl h
  · have h := jg_f h (show ¬ (65 ≤ jg_wr x4) from hc)
    refine jg_A (pc' := 13) rfl rfl (fun _ _ _ => rfl) ?_
    refine jg_A (pc' := 14) rfl rfl (fun _ _ _ => rfl) ?_
    refine jg_ifeq (pc' := 17) rfl rfl (fun hc => ?_) (fun hc => ?_)
    · have h := jg_t h (show jg_wr x2 = 0 from hc)
      refine jg_A (pc' := 36) rfl rfl (fun _ _ _ => rfl) ?_
      refine jg_getO (pc' := 39) (k := 15) rfl h0 (by decide) rfl rfl ?_
      refine jg_A (pc' := 41) rfl rfl (fun _ _ _ => rfl) ?_
      refine jg_A (pc' := 42) rfl rfl (fun _ _ _ => rfl) ?_
      refine jg_imul (pc' := 43) rfl rfl ?_
      refine jg_A (pc' := 45) rfl rfl (fun _ _ _ => rfl) ?_
      refine jg_iadd (pc' := 46) rfl rfl ?_
      obtain ⟨hg, h⟩ := h
      refine jg_zald (pc' := 47) rfl (jg_sX12_24 h0) hg rfl ?_
      refine jg_ifeq (pc' := 50) rfl rfl (fun hc => ?_) (fun hc => ?_)
      · have h := jg_t h (show jg_wr (σ.1 (a0 + 15) (jg_wr ((65 * x1) + x4))) = 0 from hc)
        refine jg_A (pc' := 55) rfl rfl (fun _ _ _ => rfl) ?_
        refine jg_iadd (pc' := 56) rfl rfl ?_
        refine jg_nm (F := fun t101 => jg_G w 0 mm_X12_itemsOf 56 [.ref a0, .int (.ofInt x1), .int (.ofInt x2), .int (.ofInt x3), .int (.ofInt x4)] [.int (.ofInt t101)] σ (jg_QI Q)) (x3 + 0) (fun t101 ht101 => ?_)
        have h := h t101 ht101
        refine jg_A (pc' := 57) (ls' := [.ref a0, .int (.ofInt x1), .int (.ofInt x2), .int (.ofInt t101), .int (.ofInt x4)]) rfl rfl (fun _ _ _ => rfl) ?_
        refine jg_iinc (pc' := 60) (ls' := [.ref a0, .int (.ofInt x1), .int (.ofInt x2), .int (.ofInt t101), .int (.ofInt (x4 + 1))]) rfl rfl rfl rfl ?_
        refine jg_goto rfl ?_
        exact h
      · have h := jg_f h (show ¬ (jg_wr (σ.1 (a0 + 15) (jg_wr ((65 * x1) + x4))) = 0) from hc)
        refine jg_A (pc' := 51) rfl rfl (fun _ _ _ => rfl) ?_
        refine jg_goto rfl ?_
        refine jg_iadd (pc' := 56) rfl rfl ?_
        refine jg_nm (F := fun t102 => jg_G w 0 mm_X12_itemsOf 56 [.ref a0, .int (.ofInt x1), .int (.ofInt x2), .int (.ofInt x3), .int (.ofInt x4)] [.int (.ofInt t102)] σ (jg_QI Q)) (x3 + 1) (fun t102 ht102 => ?_)
        have h := h t102 ht102
        refine jg_A (pc' := 57) (ls' := [.ref a0, .int (.ofInt x1), .int (.ofInt x2), .int (.ofInt t102), .int (.ofInt x4)]) rfl rfl (fun _ _ _ => rfl) ?_
        refine jg_iinc (pc' := 60) (ls' := [.ref a0, .int (.ofInt x1), .int (.ofInt x2), .int (.ofInt t102), .int (.ofInt (x4 + 1))]) rfl rfl rfl rfl ?_
        refine jg_goto rfl ?_
        exact h
    · have h := jg_f h (show ¬ (jg_wr x2 = 0) from hc)
      refine jg_A (pc' := 18) rfl rfl (fun _ _ _ => rfl) ?_
      refine jg_getO (pc' := 21) (k := 14) rfl h0 (by decide) rfl rfl ?_
      refine jg_A (pc' := 23) rfl rfl (fun _ _ _ => rfl) ?_
      refine jg_A (pc' := 24) rfl rfl (fun _ _ _ => rfl) ?_
      refine jg_imul (pc' := 25) rfl rfl ?_
      refine jg_A (pc' := 27) rfl rfl (fun _ _ _ => rfl) ?_
      refine jg_iadd (pc' := 28) rfl rfl ?_
      obtain ⟨hg, h⟩ := h
      refine jg_zald (pc' := 29) rfl (jg_sX12_23 h0) hg rfl ?_
      refine jg_ifeq (pc' := 32) rfl rfl (fun hc => ?_) (fun hc => ?_)
      · have h := jg_t h (show jg_wr (σ.1 (a0 + 14) (jg_wr ((65 * x1) + x4))) = 0 from hc)
        refine jg_A (pc' := 55) rfl rfl (fun _ _ _ => rfl) ?_
        refine jg_iadd (pc' := 56) rfl rfl ?_
        refine jg_nm (F := fun t103 => jg_G w 0 mm_X12_itemsOf 56 [.ref a0, .int (.ofInt x1), .int (.ofInt x2), .int (.ofInt x3), .int (.ofInt x4)] [.int (.ofInt t103)] σ (jg_QI Q)) (x3 + 0) (fun t103 ht103 => ?_)
        have h := h t103 ht103
        refine jg_A (pc' := 57) (ls' := [.ref a0, .int (.ofInt x1), .int (.ofInt x2), .int (.ofInt t103), .int (.ofInt x4)]) rfl rfl (fun _ _ _ => rfl) ?_
        refine jg_iinc (pc' := 60) (ls' := [.ref a0, .int (.ofInt x1), .int (.ofInt x2), .int (.ofInt t103), .int (.ofInt (x4 + 1))]) rfl rfl rfl rfl ?_
        refine jg_goto rfl ?_
        exact h
      · have h := jg_f h (show ¬ (jg_wr (σ.1 (a0 + 14) (jg_wr ((65 * x1) + x4))) = 0) from hc)
        refine jg_goto rfl ?_
        refine jg_A (pc' := 51) rfl rfl (fun _ _ _ => rfl) ?_
        refine jg_goto rfl ?_
        refine jg_iadd (pc' := 56) rfl rfl ?_
        refine jg_nm (F := fun t104 => jg_G w 0 mm_X12_itemsOf 56 [.ref a0, .int (.ofInt x1), .int (.ofInt x2), .int (.ofInt x3), .int (.ofInt x4)] [.int (.ofInt t104)] σ (jg_QI Q)) (x3 + 1) (fun t104 ht104 => ?_)
        have h := h t104 ht104
        refine jg_A (pc' := 57) (ls' := [.ref a0, .int (.ofInt x1), .int (.ofInt x2), .int (.ofInt t104), .int (.ofInt x4)]) rfl rfl (fun _ _ _ => rfl) ?_
        refine jg_iinc (pc' := 60) (ls' := [.ref a0, .int (.ofInt x1), .int (.ofInt x2), .int (.ofInt t104), .int (.ofInt (x4 + 1))]) rfl rfl rfl rfl ?_
        refine jg_goto rfl ?_
        exact h
set_option maxRecDepth 100000 in
set_option maxHeartbeats 4000000 in
theorem jb_X12_state_0 {w : Nat} {a0 : Nat} {x1 : Int} {x2 : Int} {σ : jg_M} {Q : Int → jg_M → Prop} (h0 : jg_sh a0 = (12, 0)) (h : ∀ m101 : jg_M, m101 = jg_sI σ a0 2 0 → jg_CI w 0 mm_X12_isState [.ref a0, .int (.ofInt x1)] m101 (fun (z103 : Int) (m102 : jg_M) => (if jg_wr z103 = 0 then Q (-1) m102 else (if jg_wr x2 = 0 then jg_CI w 0 mm_X12_itemsOf [.ref a0, .int (.ofInt x1), .int (.ofInt 1)] m102 (fun (z105 : Int) (m104 : jg_M) => Q z105 m104) else (if jg_wr x2 = 1 then jg_CI w 0 mm_X12_itemsOf [.ref a0, .int (.ofInt x1), .int (.ofInt 0)] m102 (fun (z107 : Int) (m106 : jg_M) => Q z107 m106) else (if jg_wr x2 = 2 then (if jg_wr x1 = 0 then Q (-2) m102 else ((0 : Int) ≤ jg_wr x1 ∧ jg_wr x1 < (96 : Int)) ∧ jg_CI w 0 mm_X12_symbolOf [.int (.ofInt (m102.1 (a0 + 17) (jg_wr x1)))] m102 (fun (z109 : Int) (m108 : jg_M) => Q z109 m108)) else (if jg_wr x2 = 3 then ((0 : Int) ≤ jg_wr x1 ∧ jg_wr x1 < (48 : Int)) ∧ (if 0 ≤ jg_wr (m102.1 (a0 + 31) (jg_wr x1)) then ((0 : Int) ≤ jg_wr x1 ∧ jg_wr x1 < (48 : Int)) ∧ Q (m102.1 (a0 + 31) (jg_wr x1)) m102 else Q (-2) m102) else (if jg_wr x2 = 4 then jg_CI w 0 mm_X12_actionsOf [.ref a0, .int (.ofInt x1)] m102 (fun (z111 : Int) (m110 : jg_M) => Q z111 m110) else Q (-1) m102)))))))) : jg_CI w 1 mm_X12_state [.ref a0, .int (.ofInt x1), .int (.ofInt x2)] σ Q := by
  show jg_G w 1 mm_X12_state 0 [.ref a0, .int (.ofInt x1), .int (.ofInt x2)] [] σ (jg_QI Q)
  refine jg_A (pc' := 1) rfl rfl (fun _ _ _ => rfl) ?_
  refine jg_A (pc' := 2) rfl rfl (fun _ _ _ => rfl) ?_
  refine jg_putI (pc' := 5) (bi := 2) rfl h0 (by decide) rfl rfl rfl rfl (fun m101 hm101 => ?_)
  have h := h m101 hm101
  refine jg_A (pc' := 6) rfl rfl (fun _ _ _ => rfl) ?_
  refine jg_A (pc' := 7) rfl rfl (fun _ _ _ => rfl) ?_
  refine jg_calX (M1 := mm_X12_isState) (hy := 0) (pc' := 10) rfl jm_X12_isState (by decide) rfl h0 (by decide) ⟨Nat.le_of_ble_eq_true rfl, rfl⟩ (Nat.le_of_ble_eq_true rfl) rfl h (jg_kI (fun z103 m102 h => ?_))
  refine jg_ifne (pc' := 13) rfl rfl (fun hc => ?_) (fun hc => ?_)
  · have h := jg_t h (show jg_wr z103 = 0 from hc)
    refine jg_A (pc' := 14) rfl rfl (fun _ _ _ => rfl) ?_
    exact jg_iret rfl rfl h
  · have h := jg_f h (show ¬ (jg_wr z103 = 0) from hc)
    refine jg_A (pc' := 16) rfl rfl (fun _ _ _ => rfl) ?_
    refine jg_tsw rfl rfl ?_
    refine jg_swc (v := 0) (t := 52) (fun hc => ?_) (fun hc => ?_)
    · have h := jg_t h hc
      refine jg_A (pc' := 53) rfl rfl (fun _ _ _ => rfl) ?_
      refine jg_A (pc' := 54) rfl rfl (fun _ _ _ => rfl) ?_
      refine jg_A (pc' := 55) rfl rfl (fun _ _ _ => rfl) ?_
      refine jg_calX (M1 := mm_X12_itemsOf) (hy := 0) (pc' := 58) rfl jm_X12_itemsOf (by decide) rfl h0 (by decide) ⟨Nat.le_of_ble_eq_true rfl, rfl⟩ (Nat.le_of_ble_eq_true rfl) rfl h (jg_kI (fun z105 m104 h => ?_))
      exact jg_iret rfl rfl h
    have h := jg_f h hc
    refine jg_swc (v := 1) (t := 59) (fun hc => ?_) (fun hc => ?_)
    · have h := jg_t h hc
      refine jg_A (pc' := 60) rfl rfl (fun _ _ _ => rfl) ?_
      refine jg_A (pc' := 61) rfl rfl (fun _ _ _ => rfl) ?_
      refine jg_A (pc' := 62) rfl rfl (fun _ _ _ => rfl) ?_
      refine jg_calX (M1 := mm_X12_itemsOf) (hy := 0) (pc' := 65) rfl jm_X12_itemsOf (by decide) rfl h0 (by decide) ⟨Nat.le_of_ble_eq_true rfl, rfl⟩ (Nat.le_of_ble_eq_true rfl) rfl h (jg_kI (fun z107 m106 h => ?_))
      exact jg_iret rfl rfl h
    have h := jg_f h hc
    refine jg_swc (v := 2) (t := 66) (fun hc => ?_) (fun hc => ?_)
    · have h := jg_t h hc
      refine jg_A (pc' := 67) rfl rfl (fun _ _ _ => rfl) ?_
      refine jg_ifne (pc' := 70) rfl rfl (fun hc => ?_) (fun hc => ?_)
      · have h := jg_t h (show jg_wr x1 = 0 from hc)
        refine jg_A (pc' := 72) rfl rfl (fun _ _ _ => rfl) ?_
        refine jg_goto rfl ?_
        exact jg_iret rfl rfl h
      · have h := jg_f h (show ¬ (jg_wr x1 = 0) from hc)
        refine jg_A (pc' := 76) rfl rfl (fun _ _ _ => rfl) ?_
        refine jg_getO (pc' := 79) (k := 17) rfl h0 (by decide) rfl rfl ?_
        refine jg_A (pc' := 80) rfl rfl (fun _ _ _ => rfl) ?_
        obtain ⟨hg, h⟩ := h
        refine jg_iald (pc' := 81) rfl (jg_sX12_26 h0) hg rfl ?_
        refine jg_calS (M1 := mm_X12_symbolOf) (hy := 0) (pc' := 84) rfl (Or.inl rfl) jm_X12_symbolOf (by decide) rfl ⟨Nat.le_of_ble_eq_true rfl, rfl⟩ (Nat.le_of_ble_eq_true rfl) rfl h (jg_kI (fun z109 m108 h => ?_))
        exact jg_iret rfl rfl h
    have h := jg_f h hc
    refine jg_swc (v := 3) (t := 85) (fun hc => ?_) (fun hc => ?_)
    · have h := jg_t h hc
      refine jg_A (pc' := 86) rfl rfl (fun _ _ _ => rfl) ?_
      refine jg_getO (pc' := 89) (k := 31) rfl h0 (by decide) rfl rfl ?_
      refine jg_A (pc' := 90) rfl rfl (fun _ _ _ => rfl) ?_
      obtain ⟨hg, h⟩ := h
      refine jg_iald (pc' := 91) rfl (jg_sX12_45 h0) hg rfl ?_
      refine jg_ifge (pc' := 94) rfl rfl (fun hc => ?_) (fun hc => ?_)
      · have h := jg_t h (show 0 ≤ jg_wr (m102.1 (a0 + 31) (jg_wr x1)) from hc)
        refine jg_A (pc' := 100) rfl rfl (fun _ _ _ => rfl) ?_
        refine jg_getO (pc' := 103) (k := 31) rfl h0 (by decide) rfl rfl ?_
        refine jg_A (pc' := 104) rfl rfl (fun _ _ _ => rfl) ?_
        obtain ⟨hg, h⟩ := h
        refine jg_iald (pc' := 105) rfl (jg_sX12_45 h0) hg rfl ?_
        exact jg_iret rfl rfl h
      · have h := jg_f h (show ¬ (0 ≤ jg_wr (m102.1 (a0 + 31) (jg_wr x1))) from hc)
        refine jg_A (pc' := 96) rfl rfl (fun _ _ _ => rfl) ?_
        refine jg_goto rfl ?_
        exact jg_iret rfl rfl h
    have h := jg_f h hc
    refine jg_swc (v := 4) (t := 106) (fun hc => ?_) (fun hc => ?_)
    · have h := jg_t h hc
      refine jg_A (pc' := 107) rfl rfl (fun _ _ _ => rfl) ?_
      refine jg_A (pc' := 108) rfl rfl (fun _ _ _ => rfl) ?_
      refine jg_calX (M1 := mm_X12_actionsOf) (hy := 0) (pc' := 111) rfl jm_X12_actionsOf (by decide) rfl h0 (by decide) ⟨Nat.le_of_ble_eq_true rfl, rfl⟩ (Nat.le_of_ble_eq_true rfl) rfl h (jg_kI (fun z111 m110 h => ?_))
      exact jg_iret rfl rfl h
    have h := jg_f h hc
    show jg_G w 1 mm_X12_state 112 [.ref a0, .int (.ofInt x1), .int (.ofInt x2)] [] m102 (jg_QI Q)
    refine jg_A (pc' := 113) rfl rfl (fun _ _ _ => rfl) ?_
    exact jg_iret rfl rfl h
set_option maxRecDepth 100000 in
set_option maxHeartbeats 4000000 in
theorem jb_X12_item_0 {w : Nat} {a0 : Nat} {x1 : Int} {x2 : Int} {σ : jg_M} {Q : Int → jg_M → Prop} (h0 : jg_sh a0 = (12, 0)) (h : ∀ m101 : jg_M, m101 = jg_sI σ a0 2 0 → jg_CI w 0 mm_X12_isState [.ref a0, .int (.ofInt x1)] m101 (fun (z103 : Int) (m102 : jg_M) => (if jg_wr z103 = 0 then Q (-1) m102 else (if 0 ≤ jg_wr x2 then jg_GI w 1 mm_X12_item 24 [.ref a0, .int (.ofInt x1), .int (.ofInt x2), .int (.ofInt 0), .int (.ofInt 0)] m102 Q else Q (-1) m102)))) : jg_CI w 1 mm_X12_item [.ref a0, .int (.ofInt x1), .int (.ofInt x2)] σ Q := by
  show jg_G w 1 mm_X12_item 0 [.ref a0, .int (.ofInt x1), .int (.ofInt x2), mj_U, mj_U] [] σ (jg_QI Q)
  refine jg_A (pc' := 1) rfl rfl (fun _ _ _ => rfl) ?_
  refine jg_A (pc' := 2) rfl rfl (fun _ _ _ => rfl) ?_
  refine jg_putI (pc' := 5) (bi := 2) rfl h0 (by decide) rfl rfl rfl rfl (fun m101 hm101 => ?_)
  have h := h m101 hm101
  refine jg_A (pc' := 6) rfl rfl (fun _ _ _ => rfl) ?_
  refine jg_A (pc' := 7) rfl rfl (fun _ _ _ => rfl) ?_
  refine jg_calX (M1 := mm_X12_isState) (hy := 0) (pc' := 10) rfl jm_X12_isState (by decide) rfl h0 (by decide) ⟨Nat.le_of_ble_eq_true rfl, rfl⟩ (Nat.le_of_ble_eq_true rfl) rfl h (jg_kI (fun z103 m102 h => ?_))
  refine jg_ifeq (pc' := 13) rfl rfl (fun hc => ?_) (fun hc => ?_)
  · have h := jg_t h (show jg_wr z103 = 0 from hc)
    refine jg_A (pc' := 18) rfl rfl (fun _ _ _ => rfl) ?_
    exact jg_iret rfl rfl h
  · have h := jg_f h (show ¬ (jg_wr z103 = 0) from hc)
    refine jg_A (pc' := 14) rfl rfl (fun _ _ _ => rfl) ?_
    refine jg_ifge (pc' := 17) rfl rfl (fun hc => ?_) (fun hc => ?_)
    · have h := jg_t h (show 0 ≤ jg_wr x2 from hc)
      refine jg_A (pc' := 20) rfl rfl (fun _ _ _ => rfl) ?_
      refine jg_A (pc' := 21) (ls' := [.ref a0, .int (.ofInt x1), .int (.ofInt x2), .int (.ofInt 0), mj_U]) rfl rfl (fun _ _ _ => rfl) ?_
      refine jg_A (pc' := 22) rfl rfl (fun _ _ _ => rfl) ?_
      refine jg_A (pc' := 24) (ls' := [.ref a0, .int (.ofInt x1), .int (.ofInt x2), .int (.ofInt 0), .int (.ofInt 0)]) rfl rfl (fun _ _ _ => rfl) ?_
      exact h
    · have h := jg_f h (show ¬ (0 ≤ jg_wr x2) from hc)
      refine jg_A (pc' := 18) rfl rfl (fun _ _ _ => rfl) ?_
      exact jg_iret rfl rfl h
set_option maxRecDepth 100000 in
set_option maxHeartbeats 4000000 in
theorem jb_X12_item_24 {w : Nat} {a0 : Nat} {x1 : Int} {x2 : Int} {x3 : Int} {x4 : Int} {σ : jg_M} {Q : Int → jg_M → Prop} (h0 : jg_sh a0 = (12, 0)) (h : (if 65 ≤ jg_wr x4 then Q (-2) σ else ((0 : Int) ≤ jg_wr ((65 * x1) + x4) ∧ jg_wr ((65 * x1) + x4) < (6240 : Int)) ∧ (if jg_wr (σ.1 (a0 + 14) (jg_wr ((65 * x1) + x4))) = 0 then jg_GI w 1 mm_X12_item 24 [.ref a0, .int (.ofInt x1), .int (.ofInt x2), .int (.ofInt x3), .int (.ofInt (x4 + 1))] σ Q else (if jg_wr x3 = jg_wr x2 then Q ((10 * (jg_div x4 5)) + (jg_rem x4 5)) σ else jg_GI w 1 mm_X12_item 24 [.ref a0, .int (.ofInt x1), .int (.ofInt x2), .int (.ofInt (x3 + 1)), .int (.ofInt (x4 + 1))] σ Q)))) : jg_GI w 1 mm_X12_item 24 [.ref a0, .int (.ofInt x1), .int (.ofInt x2), .int (.ofInt x3), .int (.ofInt x4)] σ Q := by
  show jg_G w 1 mm_X12_item 24 [.ref a0, .int (.ofInt x1), .int (.ofInt x2), .int (.ofInt x3), .int (.ofInt x4)] [] σ (jg_QI Q)
  refine jg_A (pc' := 26) rfl rfl (fun _ _ _ => rfl) ?_
  refine jg_A (pc' := 28) rfl rfl (fun _ _ _ => rfl) ?_
  refine jg_cge (pc' := 31) rfl rfl (fun hc => ?_) (fun hc => ?_)
  · have h := jg_t h (show 65 ≤ jg_wr x4 from hc)
    refine jg_A (pc' := 78) rfl rfl (fun _ _ _ => rfl) ?_
    exact jg_iret rfl rfl h
  · have h := jg_f h (show ¬ (65 ≤ jg_wr x4) from hc)
    refine jg_A (pc' := 32) rfl rfl (fun _ _ _ => rfl) ?_
    refine jg_getO (pc' := 35) (k := 14) rfl h0 (by decide) rfl rfl ?_
    refine jg_A (pc' := 37) rfl rfl (fun _ _ _ => rfl) ?_
    refine jg_A (pc' := 38) rfl rfl (fun _ _ _ => rfl) ?_
    refine jg_imul (pc' := 39) rfl rfl ?_
    refine jg_A (pc' := 41) rfl rfl (fun _ _ _ => rfl) ?_
    refine jg_iadd (pc' := 42) rfl rfl ?_
    obtain ⟨hg, h⟩ := h
    refine jg_zald (pc' := 43) rfl (jg_sX12_23 h0) hg rfl ?_
    refine jg_ifne (pc' := 46) rfl rfl (fun hc => ?_) (fun hc => ?_)
    · have h := jg_t h (show jg_wr (σ.1 (a0 + 14) (jg_wr ((65 * x1) + x4))) = 0 from hc)
      refine jg_goto rfl ?_
      refine jg_iinc (pc' := 73) (ls' := [.ref a0, .int (.ofInt x1), .int (.ofInt x2), .int (.ofInt x3), .int (.ofInt (x4 + 1))]) rfl rfl rfl rfl ?_
      refine jg_goto rfl ?_
      exact h
    · have h := jg_f h (show ¬ (jg_wr (σ.1 (a0 + 14) (jg_wr ((65 * x1) + x4))) = 0) from hc)
      refine jg_A (pc' := 50) rfl rfl (fun _ _ _ => rfl) ?_
      refine jg_A (pc' := 51) rfl rfl (fun _ _ _ => rfl) ?_
      refine jg_cne (pc' := 54) rfl rfl (fun hc => ?_) (fun hc => ?_)
      · have h := jg_t h (show jg_wr x3 = jg_wr x2 from hc)
        refine jg_A (pc' := 56) rfl rfl (fun _ _ _ => rfl) ?_
        refine jg_A (pc' := 58) rfl rfl (fun _ _ _ => rfl) ?_
        refine jg_A (pc' := 59) rfl rfl (fun _ _ _ => rfl) ?_
        refine jg_idiv (pc' := 60) rfl rfl (by decide) ?_
        refine jg_imul (pc' := 61) rfl rfl ?_
        refine jg_A (pc' := 63) rfl rfl (fun _ _ _ => rfl) ?_
        refine jg_A (pc' := 64) rfl rfl (fun _ _ _ => rfl) ?_
        refine jg_irem (pc' := 65) rfl rfl (by decide) ?_
        refine jg_iadd (pc' := 66) rfl rfl ?_
        exact jg_iret rfl rfl h
      · have h := jg_f h (show ¬ (jg_wr x3 = jg_wr x2) from hc)
        refine jg_iinc (pc' := 70) (ls' := [.ref a0, .int (.ofInt x1), .int (.ofInt x2), .int (.ofInt (x3 + 1)), .int (.ofInt x4)]) rfl rfl rfl rfl ?_
        refine jg_iinc (pc' := 73) (ls' := [.ref a0, .int (.ofInt x1), .int (.ofInt x2), .int (.ofInt (x3 + 1)), .int (.ofInt (x4 + 1))]) rfl rfl rfl rfl ?_
        refine jg_goto rfl ?_
        exact h
set_option maxRecDepth 100000 in
set_option maxHeartbeats 4000000 in
theorem jb_X12_noneAsTwo_0 {w : Nat} {x0 : Int} {σ : jg_M} {Q : Int → jg_M → Prop} (h : (if 0 ≤ jg_wr x0 then Q x0 σ else Q (-2) σ)) : jg_CI w 0 mm_X12_noneAsTwo [.int (.ofInt x0)] σ Q := by
  show jg_G w 0 mm_X12_noneAsTwo 0 [.int (.ofInt x0)] [] σ (jg_QI Q)
  refine jg_A (pc' := 1) rfl rfl (fun _ _ _ => rfl) ?_
  refine jg_ifge (pc' := 4) rfl rfl (fun hc => ?_) (fun hc => ?_)
  · have h := jg_t h (show 0 ≤ jg_wr x0 from hc)
    refine jg_A (pc' := 10) rfl rfl (fun _ _ _ => rfl) ?_
    exact jg_iret rfl rfl h
  · have h := jg_f h (show ¬ (0 ≤ jg_wr x0) from hc)
    refine jg_A (pc' := 6) rfl rfl (fun _ _ _ => rfl) ?_
    refine jg_goto rfl ?_
    exact jg_iret rfl rfl h
set_option maxRecDepth 100000 in
set_option maxHeartbeats 4000000 in
theorem jb_X12_move_0 {w : Nat} {a0 : Nat} {x1 : Int} {x2 : Int} {σ : jg_M} {Q : Int → jg_M → Prop} (h0 : jg_sh a0 = (12, 0)) (h : ∀ m101 : jg_M, m101 = jg_sI σ a0 2 0 → jg_CI w 0 mm_X12_isState [.ref a0, .int (.ofInt x1)] m101 (fun (z103 : Int) (m102 : jg_M) => (if jg_wr z103 = 0 then Q (-1) m102 else jg_CI w 0 mm_X12_isToken [.ref a0, .int (.ofInt x2)] m102 (fun (z105 : Int) (m104 : jg_M) => (if jg_wr z105 = 0 then jg_CI w 0 mm_X12_isKind [.ref a0, .int (.ofInt (x2 - 10))] m104 (fun (z107 : Int) (m106 : jg_M) => (if jg_wr z107 = 0 then Q (-1) m106 else (if 10 ≤ jg_wr x2 then ((0 : Int) ≤ jg_wr ((12 * x1) + (x2 - 3)) ∧ jg_wr ((12 * x1) + (x2 - 3)) < (1152 : Int)) ∧ jg_CI w 0 mm_X12_noneAsTwo [.int (.ofInt (m106.1 (a0 + 16) (jg_wr ((12 * x1) + (x2 - 3)))))] m106 (fun (z109 : Int) (m108 : jg_M) => Q z109 m108) else ((0 : Int) ≤ jg_wr ((12 * x1) + x2) ∧ jg_wr ((12 * x1) + x2) < (1152 : Int)) ∧ jg_CI w 0 mm_X12_noneAsTwo [.int (.ofInt (m106.1 (a0 + 16) (jg_wr ((12 * x1) + x2))))] m106 (fun (z111 : Int) (m110 : jg_M) => Q z111 m110)))) else (if 10 ≤ jg_wr x2 then ((0 : Int) ≤ jg_wr ((12 * x1) + (x2 - 3)) ∧ jg_wr ((12 * x1) + (x2 - 3)) < (1152 : Int)) ∧ jg_CI w 0 mm_X12_noneAsTwo [.int (.ofInt (m104.1 (a0 + 16) (jg_wr ((12 * x1) + (x2 - 3)))))] m104 (fun (z113 : Int) (m112 : jg_M) => Q z113 m112) else ((0 : Int) ≤ jg_wr ((12 * x1) + x2) ∧ jg_wr ((12 * x1) + x2) < (1152 : Int)) ∧ jg_CI w 0 mm_X12_noneAsTwo [.int (.ofInt (m104.1 (a0 + 16) (jg_wr ((12 * x1) + x2))))] m104 (fun (z115 : Int) (m114 : jg_M) => Q z115 m114))))))) : jg_CI w 1 mm_X12_move [.ref a0, .int (.ofInt x1), .int (.ofInt x2)] σ Q := by
  show jg_G w 1 mm_X12_move 0 [.ref a0, .int (.ofInt x1), .int (.ofInt x2)] [] σ (jg_QI Q)
  refine jg_A (pc' := 1) rfl rfl (fun _ _ _ => rfl) ?_
  refine jg_A (pc' := 2) rfl rfl (fun _ _ _ => rfl) ?_
  refine jg_putI (pc' := 5) (bi := 2) rfl h0 (by decide) rfl rfl rfl rfl (fun m101 hm101 => ?_)
  have h := h m101 hm101
  refine jg_A (pc' := 6) rfl rfl (fun _ _ _ => rfl) ?_
  refine jg_A (pc' := 7) rfl rfl (fun _ _ _ => rfl) ?_
  refine jg_calX (M1 := mm_X12_isState) (hy := 0) (pc' := 10) rfl jm_X12_isState (by decide) rfl h0 (by decide) ⟨Nat.le_of_ble_eq_true rfl, rfl⟩ (Nat.le_of_ble_eq_true rfl) rfl h (jg_kI (fun z103 m102 h => ?_))
  refine jg_ifeq (pc' := 13) rfl rfl (fun hc => ?_) (fun hc => ?_)
  · have h := jg_t h (show jg_wr z103 = 0 from hc)
    refine jg_A (pc' := 33) rfl rfl (fun _ _ _ => rfl) ?_
    exact jg_iret rfl rfl h
  · have h := jg_f h (show ¬ (jg_wr z103 = 0) from hc)
    refine jg_A (pc' := 14) rfl rfl (fun _ _ _ => rfl) ?_
    refine jg_A (pc' := 15) rfl rfl (fun _ _ _ => rfl) ?_
    refine jg_calX (M1 := mm_X12_isToken) (hy := 0) (pc' := 18) rfl jm_X12_isToken (by decide) rfl h0 (by decide) ⟨Nat.le_of_ble_eq_true rfl, rfl⟩ (Nat.le_of_ble_eq_true rfl) rfl h (jg_kI (fun z105 m104 h => ?_))
    refine jg_ifne (pc' := 21) rfl rfl (fun hc => ?_) (fun hc => ?_)
    · have h := jg_t h (show jg_wr z105 = 0 from hc)
      refine jg_A (pc' := 22) rfl rfl (fun _ _ _ => rfl) ?_
      refine jg_A (pc' := 23) rfl rfl (fun _ _ _ => rfl) ?_
      refine jg_A (pc' := 25) rfl rfl (fun _ _ _ => rfl) ?_
      refine jg_isub (pc' := 26) rfl rfl ?_
      refine jg_calX (M1 := mm_X12_isKind) (hy := 0) (pc' := 29) rfl jm_X12_isKind (by decide) rfl h0 (by decide) ⟨Nat.le_of_ble_eq_true rfl, rfl⟩ (Nat.le_of_ble_eq_true rfl) rfl h (jg_kI (fun z107 m106 h => ?_))
      refine jg_ifne (pc' := 32) rfl rfl (fun hc => ?_) (fun hc => ?_)
      · have h := jg_t h (show jg_wr z107 = 0 from hc)
        refine jg_A (pc' := 33) rfl rfl (fun _ _ _ => rfl) ?_
        exact jg_iret rfl rfl h
      · have h := jg_f h (show ¬ (jg_wr z107 = 0) from hc)
        refine jg_A (pc' := 35) rfl rfl (fun _ _ _ => rfl) ?_
        refine jg_getO (pc' := 38) (k := 16) rfl h0 (by decide) rfl rfl ?_
        refine jg_A (pc' := 40) rfl rfl (fun _ _ _ => rfl) ?_
        refine jg_A (pc' := 41) rfl rfl (fun _ _ _ => rfl) ?_
        refine jg_imul (pc' := 42) rfl rfl ?_
        refine jg_A (pc' := 43) rfl rfl (fun _ _ _ => rfl) ?_
        refine jg_A (pc' := 45) rfl rfl (fun _ _ _ => rfl) ?_
        refine jg_cge (pc' := 48) rfl rfl (fun hc => ?_) (fun hc => ?_)
        · have h := jg_t h (show 10 ≤ jg_wr x2 from hc)
          refine jg_A (pc' := 53) rfl rfl (fun _ _ _ => rfl) ?_
          refine jg_A (pc' := 54) rfl rfl (fun _ _ _ => rfl) ?_
          refine jg_isub (pc' := 55) rfl rfl ?_
          refine jg_iadd (pc' := 56) rfl rfl ?_
          obtain ⟨hg, h⟩ := h
          refine jg_iald (pc' := 57) rfl (jg_sX12_25 h0) hg rfl ?_
          refine jg_calS (M1 := mm_X12_noneAsTwo) (hy := 0) (pc' := 60) rfl (Or.inl rfl) jm_X12_noneAsTwo (by decide) rfl ⟨Nat.le_of_ble_eq_true rfl, rfl⟩ (Nat.le_of_ble_eq_true rfl) rfl h (jg_kI (fun z109 m108 h => ?_))
          exact jg_iret rfl rfl h
        · have h := jg_f h (show ¬ (10 ≤ jg_wr x2) from hc)
          refine jg_A (pc' := 49) rfl rfl (fun _ _ _ => rfl) ?_
          refine jg_goto rfl ?_
          refine jg_iadd (pc' := 56) rfl rfl ?_
          obtain ⟨hg, h⟩ := h
          refine jg_iald (pc' := 57) rfl (jg_sX12_25 h0) hg rfl ?_
          refine jg_calS (M1 := mm_X12_noneAsTwo) (hy := 0) (pc' := 60) rfl (Or.inl rfl) jm_X12_noneAsTwo (by decide) rfl ⟨Nat.le_of_ble_eq_true rfl, rfl⟩ (Nat.le_of_ble_eq_true rfl) rfl h (jg_kI (fun z111 m110 h => ?_))
          exact jg_iret rfl rfl h
    · have h := jg_f h (show ¬ (jg_wr z105 = 0) from hc)
      refine jg_A (pc' := 35) rfl rfl (fun _ _ _ => rfl) ?_
      refine jg_getO (pc' := 38) (k := 16) rfl h0 (by decide) rfl rfl ?_
      refine jg_A (pc' := 40) rfl rfl (fun _ _ _ => rfl) ?_
      refine jg_A (pc' := 41) rfl rfl (fun _ _ _ => rfl) ?_
      refine jg_imul (pc' := 42) rfl rfl ?_
      refine jg_A (pc' := 43) rfl rfl (fun _ _ _ => rfl) ?_
      refine jg_A (pc' := 45) rfl rfl (fun _ _ _ => rfl) ?_
      refine jg_cge (pc' := 48) rfl rfl (fun hc => ?_) (fun hc => ?_)
      · have h := jg_t h (show 10 ≤ jg_wr x2 from hc)
        refine jg_A (pc' := 53) rfl rfl (fun _ _ _ => rfl) ?_
        refine jg_A (pc' := 54) rfl rfl (fun _ _ _ => rfl) ?_
        refine jg_isub (pc' := 55) rfl rfl ?_
        refine jg_iadd (pc' := 56) rfl rfl ?_
        obtain ⟨hg, h⟩ := h
        refine jg_iald (pc' := 57) rfl (jg_sX12_25 h0) hg rfl ?_
        refine jg_calS (M1 := mm_X12_noneAsTwo) (hy := 0) (pc' := 60) rfl (Or.inl rfl) jm_X12_noneAsTwo (by decide) rfl ⟨Nat.le_of_ble_eq_true rfl, rfl⟩ (Nat.le_of_ble_eq_true rfl) rfl h (jg_kI (fun z113 m112 h => ?_))
        exact jg_iret rfl rfl h
      · have h := jg_f h (show ¬ (10 ≤ jg_wr x2) from hc)
        refine jg_A (pc' := 49) rfl rfl (fun _ _ _ => rfl) ?_
        refine jg_goto rfl ?_
        refine jg_iadd (pc' := 56) rfl rfl ?_
        obtain ⟨hg, h⟩ := h
        refine jg_iald (pc' := 57) rfl (jg_sX12_25 h0) hg rfl ?_
        refine jg_calS (M1 := mm_X12_noneAsTwo) (hy := 0) (pc' := 60) rfl (Or.inl rfl) jm_X12_noneAsTwo (by decide) rfl ⟨Nat.le_of_ble_eq_true rfl, rfl⟩ (Nat.le_of_ble_eq_true rfl) rfl h (jg_kI (fun z115 m114 h => ?_))
        exact jg_iret rfl rfl h
set_option maxRecDepth 100000 in
set_option maxHeartbeats 4000000 in
theorem jb_X12_action_0 {w : Nat} {a0 : Nat} {x1 : Int} {x2 : Int} {σ : jg_M} {Q : Int → jg_M → Prop} (h0 : jg_sh a0 = (12, 0)) (h : ∀ m101 : jg_M, m101 = jg_sI σ a0 2 0 → jg_CI w 0 mm_X12_isState [.ref a0, .int (.ofInt x1)] m101 (fun (z103 : Int) (m102 : jg_M) => (if jg_wr z103 = 0 then Q (-1) m102 else jg_CI w 0 mm_X12_isIn [.int (.ofInt x2), .int (.ofInt 0), .int (.ofInt (m102.1 (a0 + 3) (0)))] m102 (fun (z105 : Int) (m104 : jg_M) => (if jg_wr z105 = 0 then Q (-1) m104 else ((0 : Int) ≤ jg_wr ((8 * x1) + x2) ∧ jg_wr ((8 * x1) + x2) < (768 : Int)) ∧ Q (m104.1 (a0 + 19) (jg_wr ((8 * x1) + x2))) m104))))) : jg_CI w 1 mm_X12_action [.ref a0, .int (.ofInt x1), .int (.ofInt x2)] σ Q := by
  show jg_G w 1 mm_X12_action 0 [.ref a0, .int (.ofInt x1), .int (.ofInt x2)] [] σ (jg_QI Q)
  refine jg_A (pc' := 1) rfl rfl (fun _ _ _ => rfl) ?_
  refine jg_A (pc' := 2) rfl rfl (fun _ _ _ => rfl) ?_
  refine jg_putI (pc' := 5) (bi := 2) rfl h0 (by decide) rfl rfl rfl rfl (fun m101 hm101 => ?_)
  have h := h m101 hm101
  refine jg_A (pc' := 6) rfl rfl (fun _ _ _ => rfl) ?_
  refine jg_A (pc' := 7) rfl rfl (fun _ _ _ => rfl) ?_
  refine jg_calX (M1 := mm_X12_isState) (hy := 0) (pc' := 10) rfl jm_X12_isState (by decide) rfl h0 (by decide) ⟨Nat.le_of_ble_eq_true rfl, rfl⟩ (Nat.le_of_ble_eq_true rfl) rfl h (jg_kI (fun z103 m102 h => ?_))
  refine jg_ifeq (pc' := 13) rfl rfl (fun hc => ?_) (fun hc => ?_)
  · have h := jg_t h (show jg_wr z103 = 0 from hc)
    refine jg_A (pc' := 42) rfl rfl (fun _ _ _ => rfl) ?_
    exact jg_iret rfl rfl h
  · have h := jg_f h (show ¬ (jg_wr z103 = 0) from hc)
    refine jg_A (pc' := 14) rfl rfl (fun _ _ _ => rfl) ?_
    refine jg_A (pc' := 15) rfl rfl (fun _ _ _ => rfl) ?_
    refine jg_A (pc' := 16) rfl rfl (fun _ _ _ => rfl) ?_
    refine jg_getO (pc' := 19) (k := 3) rfl h0 (by decide) rfl rfl ?_
    refine jg_A (pc' := 20) rfl rfl (fun _ _ _ => rfl) ?_
    refine jg_ialdK (pc' := 21) (xi := 0) rfl (jg_sX12_12 h0) (by decide) (by decide) rfl ?_
    refine jg_calS (M1 := mm_X12_isIn) (hy := 0) (pc' := 24) rfl (Or.inl rfl) jm_X12_isIn (by decide) rfl ⟨Nat.le_of_ble_eq_true rfl, rfl⟩ (Nat.le_of_ble_eq_true rfl) rfl h (jg_kI (fun z105 m104 h => ?_))
    refine jg_ifeq (pc' := 27) rfl rfl (fun hc => ?_) (fun hc => ?_)
    · have h := jg_t h (show jg_wr z105 = 0 from hc)
      refine jg_A (pc' := 42) rfl rfl (fun _ _ _ => rfl) ?_
      exact jg_iret rfl rfl h
    · have h := jg_f h (show ¬ (jg_wr z105 = 0) from hc)
      refine jg_A (pc' := 28) rfl rfl (fun _ _ _ => rfl) ?_
      refine jg_getO (pc' := 31) (k := 19) rfl h0 (by decide) rfl rfl ?_
      refine jg_A (pc' := 33) rfl rfl (fun _ _ _ => rfl) ?_
      refine jg_A (pc' := 34) rfl rfl (fun _ _ _ => rfl) ?_
      refine jg_imul (pc' := 35) rfl rfl ?_
      refine jg_A (pc' := 36) rfl rfl (fun _ _ _ => rfl) ?_
      refine jg_iadd (pc' := 37) rfl rfl ?_
      obtain ⟨hg, h⟩ := h
      refine jg_iald (pc' := 38) rfl (jg_sX12_28 h0) hg rfl ?_
      refine jg_goto rfl ?_
      exact jg_iret rfl rfl h
set_option maxRecDepth 100000 in
set_option maxHeartbeats 4000000 in
theorem jb_X12_look_0 {w : Nat} {a0 : Nat} {x1 : Int} {x2 : Int} {σ : jg_M} {Q : Int → jg_M → Prop} (h0 : jg_sh a0 = (12, 0)) (h : ∀ m101 : jg_M, m101 = jg_sI σ a0 2 0 → jg_CI w 0 mm_X12_isState [.ref a0, .int (.ofInt x1)] m101 (fun (z103 : Int) (m102 : jg_M) => (if jg_wr z103 = 0 then Q (-1) m102 else jg_CI w 0 mm_X12_isIn [.int (.ofInt x2), .int (.ofInt 0), .int (.ofInt (m102.1 (a0 + 5) (0)))] m102 (fun (z105 : Int) (m104 : jg_M) => (if jg_wr z105 = 0 then Q (-1) m104 else jg_CV w 0 mm_X12_byText [.ref a0] m104 (fun (m106 : jg_M) => jg_CI w 0 mm_X12_longOf [.ref a0, .int (.ofInt x2)] m106 (fun (z108 : Int) (m107 : jg_M) => ∀ t109 : Int, t109 = (((65 * x1) + (5 * x2)) + z108) → ((0 : Int) ≤ jg_wr t109 ∧ jg_wr t109 < (6240 : Int)) ∧ (if jg_wr (m107.1 (a0 + 15) (jg_wr t109)) = 0 then Q (-2) m107 else ((0 : Int) ≤ jg_wr t109 ∧ jg_wr t109 < (6240 : Int)) ∧ Q (m107.1 (a0 + 18) (jg_wr t109)) m107)))))))) : jg_CI w 1 mm_X12_look [.ref a0, .int (.ofInt x1), .int (.ofInt x2)] σ Q := by
  show jg_G w 1 mm_X12_look 0 [.ref a0, .int (.ofInt x1), .int (.ofInt x2), mj_U] [] σ (jg_QI Q)
  refine jg_A (pc' := 1) rfl rfl (fun _ _ _ => rfl) ?_
  refine jg_A (pc' := 2) rfl rfl (fun _ _ _ => rfl) ?_
  refine jg_putI (pc' := 5) (bi := 2) rfl h0 (by decide) rfl rfl rfl rfl (fun m101 hm101 => ?_)
  have h := h m101 hm101
  refine jg_A (pc' := 6) rfl rfl (fun _ _ _ => rfl) ?_
  refine jg_A (pc' := 7) rfl rfl (fun _ _ _ => rfl) ?_
  refine jg_calX (M1 := mm_X12_isState) (hy := 0) (pc' := 10) rfl jm_X12_isState (by decide) rfl h0 (by decide) ⟨Nat.le_of_ble_eq_true rfl, rfl⟩ (Nat.le_of_ble_eq_true rfl) rfl h (jg_kI (fun z103 m102 h => ?_))
  refine jg_ifeq (pc' := 13) rfl rfl (fun hc => ?_) (fun hc => ?_)
  · have h := jg_t h (show jg_wr z103 = 0 from hc)
    refine jg_A (pc' := 28) rfl rfl (fun _ _ _ => rfl) ?_
    exact jg_iret rfl rfl h
  · have h := jg_f h (show ¬ (jg_wr z103 = 0) from hc)
    refine jg_A (pc' := 14) rfl rfl (fun _ _ _ => rfl) ?_
    refine jg_A (pc' := 15) rfl rfl (fun _ _ _ => rfl) ?_
    refine jg_A (pc' := 16) rfl rfl (fun _ _ _ => rfl) ?_
    refine jg_getO (pc' := 19) (k := 5) rfl h0 (by decide) rfl rfl ?_
    refine jg_A (pc' := 20) rfl rfl (fun _ _ _ => rfl) ?_
    refine jg_ialdK (pc' := 21) (xi := 0) rfl (jg_sX12_14 h0) (by decide) (by decide) rfl ?_
    refine jg_calS (M1 := mm_X12_isIn) (hy := 0) (pc' := 24) rfl (Or.inl rfl) jm_X12_isIn (by decide) rfl ⟨Nat.le_of_ble_eq_true rfl, rfl⟩ (Nat.le_of_ble_eq_true rfl) rfl h (jg_kI (fun z105 m104 h => ?_))
    refine jg_ifne (pc' := 27) rfl rfl (fun hc => ?_) (fun hc => ?_)
    · have h := jg_t h (show jg_wr z105 = 0 from hc)
      refine jg_A (pc' := 28) rfl rfl (fun _ _ _ => rfl) ?_
      exact jg_iret rfl rfl h
    · have h := jg_f h (show ¬ (jg_wr z105 = 0) from hc)
      refine jg_A (pc' := 30) rfl rfl (fun _ _ _ => rfl) ?_
      refine jg_calX (M1 := mm_X12_byText) (hy := 0) (pc' := 33) rfl jm_X12_byText (by decide) rfl h0 (by decide) ⟨Nat.le_of_ble_eq_true rfl, rfl⟩ (Nat.le_of_ble_eq_true rfl) rfl h (jg_kV (fun m106 h => ?_))
      refine jg_A (pc' := 35) rfl rfl (fun _ _ _ => rfl) ?_
      refine jg_A (pc' := 36) rfl rfl (fun _ _ _ => rfl) ?_
      refine jg_imul (pc' := 37) rfl rfl ?_
      refine jg_A (pc' := 38) rfl rfl (fun _ _ _ => rfl) ?_
      refine jg_A (pc' := 39) rfl rfl (fun _ _ _ => rfl) ?_
      refine jg_imul (pc' := 40) rfl rfl ?_
      refine jg_iadd (pc' := 41) rfl rfl ?_
      refine jg_A (pc' := 42) rfl rfl (fun _ _ _ => rfl) ?_
      refine jg_A (pc' := 43) rfl rfl (fun _ _ _ => rfl) ?_
      refine jg_calX (M1 := mm_X12_longOf) (hy := 0) (pc' := 46) rfl jm_X12_longOf (by decide) rfl h0 (by decide) ⟨Nat.le_of_ble_eq_true rfl, rfl⟩ (Nat.le_of_ble_eq_true rfl) rfl h (jg_kI (fun z108 m107 h => ?_))
      refine jg_iadd (pc' := 47) rfl rfl ?_
      refine jg_nm (F := fun t109 => jg_G w 1 mm_X12_look 47 [.ref a0, .int (.ofInt x1), .int (.ofInt x2), mj_U] [.int (.ofInt t109)] m107 (jg_QI Q)) (((65 * x1) + (5 * x2)) + z108) (fun t109 ht109 => ?_)
      have h := h t109 ht109
      refine jg_A (pc' := 48) (ls' := [.ref a0, .int (.ofInt x1), .int (.ofInt x2), .int (.ofInt t109)]) rfl rfl (fun _ _ _ => rfl) ?_
      refine jg_A (pc' := 49) rfl rfl (fun _ _ _ => rfl) ?_
      refine jg_getO (pc' := 52) (k := 15) rfl h0 (by decide) rfl rfl ?_
      refine jg_A (pc' := 53) rfl rfl (fun _ _ _ => rfl) ?_
      obtain ⟨hg, h⟩ := h
      refine jg_zald (pc' := 54) rfl (jg_sX12_24 h0) hg rfl ?_
      refine jg_ifeq (pc' := 57) rfl rfl (fun hc => ?_) (fun hc => ?_)
      · have h := jg_t h (show jg_wr (m107.1 (a0 + 15) (jg_wr t109)) = 0 from hc)
        refine jg_A (pc' := 68) rfl rfl (fun _ _ _ => rfl) ?_
        exact jg_iret rfl rfl h
      · have h := jg_f h (show ¬ (jg_wr (m107.1 (a0 + 15) (jg_wr t109)) = 0) from hc)
        refine jg_A (pc' := 58) rfl rfl (fun _ _ _ => rfl) ?_
        refine jg_getO (pc' := 61) (k := 18) rfl h0 (by decide) rfl rfl ?_
        refine jg_A (pc' := 62) rfl rfl (fun _ _ _ => rfl) ?_
        obtain ⟨hg, h⟩ := h
        refine jg_iald (pc' := 63) rfl (jg_sX12_27 h0) hg rfl ?_
        refine jg_goto rfl ?_
        exact jg_iret rfl rfl h
set_option maxRecDepth 100000 in
set_option maxHeartbeats 4000000 in
theorem jb_X12_after_0 {w : Nat} {a0 : Nat} {x1 : Int} {x2 : Int} {σ : jg_M} {Q : Int → jg_M → Prop} (h0 : jg_sh a0 = (12, 0)) (h : ∀ m101 : jg_M, m101 = jg_sI σ a0 2 0 → jg_CI w 0 mm_X12_isState [.ref a0, .int (.ofInt x1)] m101 (fun (z103 : Int) (m102 : jg_M) => (if jg_wr z103 = 0 then Q (-1) m102 else jg_CI w 0 mm_X12_isKind [.ref a0, .int (.ofInt x2)] m102 (fun (z105 : Int) (m104 : jg_M) => (if jg_wr z105 = 0 then Q (-1) m104 else jg_CI w 0 mm_X12_kindMove [.ref a0, .int (.ofInt x1), .int (.ofInt x2)] m104 (fun (z107 : Int) (m106 : jg_M) => (if 0 ≤ jg_wr z107 then ((0 : Int) ≤ jg_wr ((5 * x1) + x2) ∧ jg_wr ((5 * x1) + x2) < (240 : Int)) ∧ Q (m106.1 (a0 + 26) (jg_wr ((5 * x1) + x2))) m106 else Q (-2) m106))))))) : jg_CI w 1 mm_X12_after [.ref a0, .int (.ofInt x1), .int (.ofInt x2)] σ Q := by
  show jg_G w 1 mm_X12_after 0 [.ref a0, .int (.ofInt x1), .int (.ofInt x2)] [] σ (jg_QI Q)
  refine jg_A (pc' := 1) rfl rfl (fun _ _ _ => rfl) ?_
  refine jg_A (pc' := 2) rfl rfl (fun _ _ _ => rfl) ?_
  refine jg_putI (pc' := 5) (bi := 2) rfl h0 (by decide) rfl rfl rfl rfl (fun m101 hm101 => ?_)
  have h := h m101 hm101
  refine jg_A (pc' := 6) rfl rfl (fun _ _ _ => rfl) ?_
  refine jg_A (pc' := 7) rfl rfl (fun _ _ _ => rfl) ?_
  refine jg_calX (M1 := mm_X12_isState) (hy := 0) (pc' := 10) rfl jm_X12_isState (by decide) rfl h0 (by decide) ⟨Nat.le_of_ble_eq_true rfl, rfl⟩ (Nat.le_of_ble_eq_true rfl) rfl h (jg_kI (fun z103 m102 h => ?_))
  refine jg_ifeq (pc' := 13) rfl rfl (fun hc => ?_) (fun hc => ?_)
  · have h := jg_t h (show jg_wr z103 = 0 from hc)
    refine jg_A (pc' := 22) rfl rfl (fun _ _ _ => rfl) ?_
    exact jg_iret rfl rfl h
  · have h := jg_f h (show ¬ (jg_wr z103 = 0) from hc)
    refine jg_A (pc' := 14) rfl rfl (fun _ _ _ => rfl) ?_
    refine jg_A (pc' := 15) rfl rfl (fun _ _ _ => rfl) ?_
    refine jg_calX (M1 := mm_X12_isKind) (hy := 0) (pc' := 18) rfl jm_X12_isKind (by decide) rfl h0 (by decide) ⟨Nat.le_of_ble_eq_true rfl, rfl⟩ (Nat.le_of_ble_eq_true rfl) rfl h (jg_kI (fun z105 m104 h => ?_))
    refine jg_ifne (pc' := 21) rfl rfl (fun hc => ?_) (fun hc => ?_)
    · have h := jg_t h (show jg_wr z105 = 0 from hc)
      refine jg_A (pc' := 22) rfl rfl (fun _ _ _ => rfl) ?_
      exact jg_iret rfl rfl h
    · have h := jg_f h (show ¬ (jg_wr z105 = 0) from hc)
      refine jg_A (pc' := 24) rfl rfl (fun _ _ _ => rfl) ?_
      refine jg_A (pc' := 25) rfl rfl (fun _ _ _ => rfl) ?_
      refine jg_A (pc' := 26) rfl rfl (fun _ _ _ => rfl) ?_
      refine jg_calX (M1 := mm_X12_kindMove) (hy := 0) (pc' := 29) rfl jm_X12_kindMove (by decide) rfl h0 (by decide) ⟨Nat.le_of_ble_eq_true rfl, rfl⟩ (Nat.le_of_ble_eq_true rfl) rfl h (jg_kI (fun z107 m106 h => ?_))
      refine jg_ifge (pc' := 32) rfl rfl (fun hc => ?_) (fun hc => ?_)
      · have h := jg_t h (show 0 ≤ jg_wr z107 from hc)
        refine jg_A (pc' := 38) rfl rfl (fun _ _ _ => rfl) ?_
        refine jg_getO (pc' := 41) (k := 26) rfl h0 (by decide) rfl rfl ?_
        refine jg_A (pc' := 42) rfl rfl (fun _ _ _ => rfl) ?_
        refine jg_A (pc' := 43) rfl rfl (fun _ _ _ => rfl) ?_
        refine jg_imul (pc' := 44) rfl rfl ?_
        refine jg_A (pc' := 45) rfl rfl (fun _ _ _ => rfl) ?_
        refine jg_iadd (pc' := 46) rfl rfl ?_
        obtain ⟨hg, h⟩ := h
        refine jg_iald (pc' := 47) rfl (jg_sX12_40 h0) hg rfl ?_
        exact jg_iret rfl rfl h
      · have h := jg_f h (show ¬ (0 ≤ jg_wr z107) from hc)
        refine jg_A (pc' := 34) rfl rfl (fun _ _ _ => rfl) ?_
        refine jg_goto rfl ?_
        exact jg_iret rfl rfl h
set_option maxRecDepth 100000 in
set_option maxHeartbeats 4000000 in
theorem jb_X12_relations_0 {w : Nat} {a0 : Nat} {x1 : Int} {σ : jg_M} {Q : Int → jg_M → Prop} (h0 : jg_sh a0 = (12, 0)) (h : ∀ m101 : jg_M, m101 = jg_sI σ a0 2 0 → jg_CI w 0 mm_X12_isIn [.int (.ofInt x1), .int (.ofInt 0), .int (.ofInt 4)] m101 (fun (z103 : Int) (m102 : jg_M) => (if jg_wr z103 = 0 then Q (-1) m102 else ((0 : Int) ≤ jg_wr x1 ∧ jg_wr x1 < (5 : Int)) ∧ Q (m102.1 (a0 + 28) (jg_wr x1)) m102))) : jg_CI w 1 mm_X12_relations [.ref a0, .int (.ofInt x1)] σ Q := by
  show jg_G w 1 mm_X12_relations 0 [.ref a0, .int (.ofInt x1)] [] σ (jg_QI Q)
  refine jg_A (pc' := 1) rfl rfl (fun _ _ _ => rfl) ?_
  refine jg_A (pc' := 2) rfl rfl (fun _ _ _ => rfl) ?_
  refine jg_putI (pc' := 5) (bi := 2) rfl h0 (by decide) rfl rfl rfl rfl (fun m101 hm101 => ?_)
  have h := h m101 hm101
  refine jg_A (pc' := 6) rfl rfl (fun _ _ _ => rfl) ?_
  refine jg_A (pc' := 7) rfl rfl (fun _ _ _ => rfl) ?_
  refine jg_A (pc' := 8) rfl rfl (fun _ _ _ => rfl) ?_
  refine jg_calS (M1 := mm_X12_isIn) (hy := 0) (pc' := 11) rfl (Or.inl rfl) jm_X12_isIn (by decide) rfl ⟨Nat.le_of_ble_eq_true rfl, rfl⟩ (Nat.le_of_ble_eq_true rfl) rfl h (jg_kI (fun z103 m102 h => ?_))
  refine jg_ifeq (pc' := 14) rfl rfl (fun hc => ?_) (fun hc => ?_)
  · have h := jg_t h (show jg_wr z103 = 0 from hc)
    refine jg_A (pc' := 24) rfl rfl (fun _ _ _ => rfl) ?_
    exact jg_iret rfl rfl h
  · have h := jg_f h (show ¬ (jg_wr z103 = 0) from hc)
    refine jg_A (pc' := 15) rfl rfl (fun _ _ _ => rfl) ?_
    refine jg_getO (pc' := 18) (k := 28) rfl h0 (by decide) rfl rfl ?_
    refine jg_A (pc' := 19) rfl rfl (fun _ _ _ => rfl) ?_
    obtain ⟨hg, h⟩ := h
    refine jg_iald (pc' := 20) rfl (jg_sX12_42 h0) hg rfl ?_
    refine jg_goto rfl ?_
    exact jg_iret rfl rfl h
set_option maxRecDepth 100000 in
set_option maxHeartbeats 4000000 in
theorem jb_X12_conflicts_0 {w : Nat} {a0 : Nat} {σ : jg_M} {Q : Int → jg_M → Prop} (h0 : jg_sh a0 = (12, 0)) (h : ∀ m101 : jg_M, m101 = jg_sI σ a0 2 0 → Q (m101.1 (a0 + 22) (0)) m101) : jg_CI w 0 mm_X12_conflicts [.ref a0] σ Q := by
  show jg_G w 0 mm_X12_conflicts 0 [.ref a0] [] σ (jg_QI Q)
  refine jg_A (pc' := 1) rfl rfl (fun _ _ _ => rfl) ?_
  refine jg_A (pc' := 2) rfl rfl (fun _ _ _ => rfl) ?_
  refine jg_putI (pc' := 5) (bi := 2) rfl h0 (by decide) rfl rfl rfl rfl (fun m101 hm101 => ?_)
  have h := h m101 hm101
  refine jg_A (pc' := 6) rfl rfl (fun _ _ _ => rfl) ?_
  refine jg_getO (pc' := 9) (k := 22) rfl h0 (by decide) rfl rfl ?_
  refine jg_A (pc' := 10) rfl rfl (fun _ _ _ => rfl) ?_
  refine jg_ialdK (pc' := 11) (xi := 0) rfl (jg_sX12_31 h0) (by decide) (by decide) rfl ?_
  exact jg_iret rfl rfl h
set_option maxRecDepth 100000 in
set_option maxHeartbeats 4000000 in
theorem jb_X12_conflict_0 {w : Nat} {a0 : Nat} {x1 : Int} {x2 : Int} {σ : jg_M} {Q : Int → jg_M → Prop} (h0 : jg_sh a0 = (12, 0)) (h : ∀ m101 : jg_M, m101 = jg_sI σ a0 2 0 → (if jg_wr x1 < 0 then Q (-1) m101 else (if jg_wr (m101.1 (a0 + 22) (0)) ≤ jg_wr x1 then Q (-1) m101 else jg_CI w 0 mm_X12_isIn [.int (.ofInt x2), .int (.ofInt 0), .int (.ofInt 3)] m101 (fun (z103 : Int) (m102 : jg_M) => (if jg_wr z103 = 0 then Q (-1) m102 else ((0 : Int) ≤ jg_wr x1 ∧ jg_wr x1 < (4608 : Int)) ∧ ∀ t104 : Int, t104 = (jg_div (m102.1 (a0 + 23) (jg_wr x1)) 128) → ((0 : Int) ≤ jg_wr x1 ∧ jg_wr x1 < (4608 : Int)) ∧ ∀ t105 : Int, t105 = (jg_rem (jg_div (m102.1 (a0 + 23) (jg_wr x1)) 16) 8) → (if jg_wr x2 = 0 then Q t104 m102 else (if jg_wr x2 = 1 then Q t105 m102 else (if jg_wr x2 = 2 then ((0 : Int) ≤ jg_wr ((8 * t104) + t105) ∧ jg_wr ((8 * t104) + t105) < (768 : Int)) ∧ Q (m102.1 (a0 + 19) (jg_wr ((8 * t104) + t105))) m102 else ((0 : Int) ≤ jg_wr x1 ∧ jg_wr x1 < (4608 : Int)) ∧ Q (jg_rem (m102.1 (a0 + 23) (jg_wr x1)) 16) m102)))))))) : jg_CI w 1 mm_X12_conflict [.ref a0, .int (.ofInt x1), .int (.ofInt x2)] σ Q := by
  show jg_G w 1 mm_X12_conflict 0 [.ref a0, .int (.ofInt x1), .int (.ofInt x2), mj_U, mj_U] [] σ (jg_QI Q)
  refine jg_A (pc' := 1) rfl rfl (fun _ _ _ => rfl) ?_
  refine jg_A (pc' := 2) rfl rfl (fun _ _ _ => rfl) ?_
  refine jg_putI (pc' := 5) (bi := 2) rfl h0 (by decide) rfl rfl rfl rfl (fun m101 hm101 => ?_)
  have h := h m101 hm101
  refine jg_A (pc' := 6) rfl rfl (fun _ _ _ => rfl) ?_
  refine jg_iflt (pc' := 9) rfl rfl (fun hc => ?_) (fun hc => ?_)
  · have h := jg_t h (show jg_wr x1 < 0 from hc)
    refine jg_A (pc' := 29) rfl rfl (fun _ _ _ => rfl) ?_
    exact jg_iret rfl rfl h
  · have h := jg_f h (show ¬ (jg_wr x1 < 0) from hc)
    refine jg_A (pc' := 10) rfl rfl (fun _ _ _ => rfl) ?_
    refine jg_A (pc' := 11) rfl rfl (fun _ _ _ => rfl) ?_
    refine jg_getO (pc' := 14) (k := 22) rfl h0 (by decide) rfl rfl ?_
    refine jg_A (pc' := 15) rfl rfl (fun _ _ _ => rfl) ?_
    refine jg_ialdK (pc' := 16) (xi := 0) rfl (jg_sX12_31 h0) (by decide) (by decide) rfl ?_
    refine jg_cge (pc' := 19) rfl rfl (fun hc => ?_) (fun hc => ?_)
    · have h := jg_t h (show jg_wr (m101.1 (a0 + 22) (0)) ≤ jg_wr x1 from hc)
      refine jg_A (pc' := 29) rfl rfl (fun _ _ _ => rfl) ?_
      exact jg_iret rfl rfl h
    · have h := jg_f h (show ¬ (jg_wr (m101.1 (a0 + 22) (0)) ≤ jg_wr x1) from hc)
      refine jg_A (pc' := 20) rfl rfl (fun _ _ _ => rfl) ?_
      refine jg_A (pc' := 21) rfl rfl (fun _ _ _ => rfl) ?_
      refine jg_A (pc' := 22) rfl rfl (fun _ _ _ => rfl) ?_
      refine jg_calS (M1 := mm_X12_isIn) (hy := 0) (pc' := 25) rfl (Or.inl rfl) jm_X12_isIn (by decide) rfl ⟨Nat.le_of_ble_eq_true rfl, rfl⟩ (Nat.le_of_ble_eq_true rfl) rfl h (jg_kI (fun z103 m102 h => ?_))
      refine jg_ifne (pc' := 28) rfl rfl (fun hc => ?_) (fun hc => ?_)
      · have h := jg_t h (show jg_wr z103 = 0 from hc)
        refine jg_A (pc' := 29) rfl rfl (fun _ _ _ => rfl) ?_
        exact jg_iret rfl rfl h
      · have h := jg_f h (show ¬ (jg_wr z103 = 0) from hc)
        refine jg_A (pc' := 31) rfl rfl (fun _ _ _ => rfl) ?_
        refine jg_getO (pc' := 34) (k := 23) rfl h0 (by decide) rfl rfl ?_
        refine jg_A (pc' := 35) rfl rfl (fun _ _ _ => rfl) ?_
        obtain ⟨hg, h⟩ := h
        refine jg_iald (pc' := 36) rfl (jg_sX12_32 h0) hg rfl ?_
        refine jg_A (pc' := 39) rfl rfl (fun _ _ _ => rfl) ?_
        refine jg_idiv (pc' := 40) rfl rfl (by decide) ?_
        refine jg_nm (F := fun t104 => jg_G w 1 mm_X12_conflict 40 [.ref a0, .int (.ofInt x1), .int (.ofInt x2), mj_U, mj_U] [.int (.ofInt t104)] m102 (jg_QI Q)) (jg_div (m102.1 (a0 + 23) (jg_wr x1)) 128) (fun t104 ht104 => ?_)
        have h := h t104 ht104
        refine jg_A (pc' := 41) (ls' := [.ref a0, .int (.ofInt x1), .int (.ofInt x2), .int (.ofInt t104), mj_U]) rfl rfl (fun _ _ _ => rfl) ?_
        refine jg_A (pc' := 42) rfl rfl (fun _ _ _ => rfl) ?_
        refine jg_getO (pc' := 45) (k := 23) rfl h0 (by decide) rfl rfl ?_
        refine jg_A (pc' := 46) rfl rfl (fun _ _ _ => rfl) ?_
        obtain ⟨hg, h⟩ := h
        refine jg_iald (pc' := 47) rfl (jg_sX12_32 h0) hg rfl ?_
        refine jg_A (pc' := 49) rfl rfl (fun _ _ _ => rfl) ?_
        refine jg_idiv (pc' := 50) rfl rfl (by decide) ?_
        refine jg_A (pc' := 52) rfl rfl (fun _ _ _ => rfl) ?_
        refine jg_irem (pc' := 53) rfl rfl (by decide) ?_
        refine jg_nm (F := fun t105 => jg_G w 1 mm_X12_conflict 53 [.ref a0, .int (.ofInt x1), .int (.ofInt x2), .int (.ofInt t104), mj_U] [.int (.ofInt t105)] m102 (jg_QI Q)) (jg_rem (jg_div (m102.1 (a0 + 23) (jg_wr x1)) 16) 8) (fun t105 ht105 => ?_)
        have h := h t105 ht105
        refine jg_A (pc' := 55) (ls' := [.ref a0, .int (.ofInt x1), .int (.ofInt x2), .int (.ofInt t104), .int (.ofInt t105)]) rfl rfl (fun _ _ _ => rfl) ?_
        refine jg_A (pc' := 56) rfl rfl (fun _ _ _ => rfl) ?_
        refine jg_ifne (pc' := 59) rfl rfl (fun hc => ?_) (fun hc => ?_)
        · have h := jg_t h (show jg_wr x2 = 0 from hc)
          refine jg_A (pc' := 60) rfl rfl (fun _ _ _ => rfl) ?_
          refine jg_goto rfl ?_
          exact jg_iret rfl rfl h
        · have h := jg_f h (show ¬ (jg_wr x2 = 0) from hc)
          refine jg_A (pc' := 64) rfl rfl (fun _ _ _ => rfl) ?_
          refine jg_A (pc' := 65) rfl rfl (fun _ _ _ => rfl) ?_
          refine jg_cne (pc' := 68) rfl rfl (fun hc => ?_) (fun hc => ?_)
          · have h := jg_t h (show jg_wr x2 = 1 from hc)
            refine jg_A (pc' := 70) rfl rfl (fun _ _ _ => rfl) ?_
            refine jg_goto rfl ?_
            exact jg_iret rfl rfl h
          · have h := jg_f h (show ¬ (jg_wr x2 = 1) from hc)
            refine jg_A (pc' := 74) rfl rfl (fun _ _ _ => rfl) ?_
            refine jg_A (pc' := 75) rfl rfl (fun _ _ _ => rfl) ?_
            refine jg_cne (pc' := 78) rfl rfl (fun hc => ?_) (fun hc => ?_)
            · have h := jg_t h (show jg_wr x2 = 2 from hc)
              refine jg_A (pc' := 79) rfl rfl (fun _ _ _ => rfl) ?_
              refine jg_getO (pc' := 82) (k := 19) rfl h0 (by decide) rfl rfl ?_
              refine jg_A (pc' := 84) rfl rfl (fun _ _ _ => rfl) ?_
              refine jg_A (pc' := 85) rfl rfl (fun _ _ _ => rfl) ?_
              refine jg_imul (pc' := 86) rfl rfl ?_
              refine jg_A (pc' := 88) rfl rfl (fun _ _ _ => rfl) ?_
              refine jg_iadd (pc' := 89) rfl rfl ?_
              obtain ⟨hg, h⟩ := h
              refine jg_iald (pc' := 90) rfl (jg_sX12_28 h0) hg rfl ?_
              refine jg_goto rfl ?_
              exact jg_iret rfl rfl h
            · have h := jg_f h (show ¬ (jg_wr x2 = 2) from hc)
              refine jg_A (pc' := 94) rfl rfl (fun _ _ _ => rfl) ?_
              refine jg_getO (pc' := 97) (k := 23) rfl h0 (by decide) rfl rfl ?_
              refine jg_A (pc' := 98) rfl rfl (fun _ _ _ => rfl) ?_
              obtain ⟨hg, h⟩ := h
              refine jg_iald (pc' := 99) rfl (jg_sX12_32 h0) hg rfl ?_
              refine jg_A (pc' := 101) rfl rfl (fun _ _ _ => rfl) ?_
              refine jg_irem (pc' := 102) rfl rfl (by decide) ?_
              exact jg_iret rfl rfl h
set_option maxRecDepth 100000 in
set_option maxHeartbeats 4000000 in
theorem jb_X12_witness_0 {w : Nat} {a0 : Nat} {x1 : Int} {x2 : Int} {σ : jg_M} {Q : Int → jg_M → Prop} (h0 : jg_sh a0 = (12, 0)) (h : ∀ m101 : jg_M, m101 = jg_sI σ a0 2 0 → jg_CI w 0 mm_X12_isState [.ref a0, .int (.ofInt x1)] m101 (fun (z103 : Int) (m102 : jg_M) => (if jg_wr z103 = 0 then Q (-1) m102 else (if 0 ≤ jg_wr x2 then ((0 : Int) ≤ jg_wr x1 ∧ jg_wr x1 < (48 : Int)) ∧ (if jg_wr (m102.1 (a0 + 31) (jg_wr x1)) ≤ jg_wr x2 then Q (-2) m102 else ((0 : Int) ≤ jg_wr ((60 * x1) + x2) ∧ jg_wr ((60 * x1) + x2) < (2880 : Int)) ∧ Q (m102.1 (a0 + 32) (jg_wr ((60 * x1) + x2))) m102) else Q (-1) m102)))) : jg_CI w 1 mm_X12_witness [.ref a0, .int (.ofInt x1), .int (.ofInt x2)] σ Q := by
  show jg_G w 1 mm_X12_witness 0 [.ref a0, .int (.ofInt x1), .int (.ofInt x2)] [] σ (jg_QI Q)
  refine jg_A (pc' := 1) rfl rfl (fun _ _ _ => rfl) ?_
  refine jg_A (pc' := 2) rfl rfl (fun _ _ _ => rfl) ?_
  refine jg_putI (pc' := 5) (bi := 2) rfl h0 (by decide) rfl rfl rfl rfl (fun m101 hm101 => ?_)
  have h := h m101 hm101
  refine jg_A (pc' := 6) rfl rfl (fun _ _ _ => rfl) ?_
  refine jg_A (pc' := 7) rfl rfl (fun _ _ _ => rfl) ?_
  refine jg_calX (M1 := mm_X12_isState) (hy := 0) (pc' := 10) rfl jm_X12_isState (by decide) rfl h0 (by decide) ⟨Nat.le_of_ble_eq_true rfl, rfl⟩ (Nat.le_of_ble_eq_true rfl) rfl h (jg_kI (fun z103 m102 h => ?_))
  refine jg_ifeq (pc' := 13) rfl rfl (fun hc => ?_) (fun hc => ?_)
  · have h := jg_t h (show jg_wr z103 = 0 from hc)
    refine jg_A (pc' := 18) rfl rfl (fun _ _ _ => rfl) ?_
    exact jg_iret rfl rfl h
  · have h := jg_f h (show ¬ (jg_wr z103 = 0) from hc)
    refine jg_A (pc' := 14) rfl rfl (fun _ _ _ => rfl) ?_
    refine jg_ifge (pc' := 17) rfl rfl (fun hc => ?_) (fun hc => ?_)
    · have h := jg_t h (show 0 ≤ jg_wr x2 from hc)
      refine jg_A (pc' := 20) rfl rfl (fun _ _ _ => rfl) ?_
      refine jg_A (pc' := 21) rfl rfl (fun _ _ _ => rfl) ?_
      refine jg_getO (pc' := 24) (k := 31) rfl h0 (by decide) rfl rfl ?_
      refine jg_A (pc' := 25) rfl rfl (fun _ _ _ => rfl) ?_
      obtain ⟨hg, h⟩ := h
      refine jg_iald (pc' := 26) rfl (jg_sX12_45 h0) hg rfl ?_
      refine jg_cge (pc' := 29) rfl rfl (fun hc => ?_) (fun hc => ?_)
      · have h := jg_t h (show jg_wr (m102.1 (a0 + 31) (jg_wr x1)) ≤ jg_wr x2 from hc)
        refine jg_A (pc' := 45) rfl rfl (fun _ _ _ => rfl) ?_
        exact jg_iret rfl rfl h
      · have h := jg_f h (show ¬ (jg_wr (m102.1 (a0 + 31) (jg_wr x1)) ≤ jg_wr x2) from hc)
        refine jg_A (pc' := 30) rfl rfl (fun _ _ _ => rfl) ?_
        refine jg_getO (pc' := 33) (k := 32) rfl h0 (by decide) rfl rfl ?_
        refine jg_A (pc' := 35) rfl rfl (fun _ _ _ => rfl) ?_
        refine jg_A (pc' := 36) rfl rfl (fun _ _ _ => rfl) ?_
        refine jg_imul (pc' := 37) rfl rfl ?_
        refine jg_A (pc' := 38) rfl rfl (fun _ _ _ => rfl) ?_
        refine jg_iadd (pc' := 39) rfl rfl ?_
        obtain ⟨hg, h⟩ := h
        refine jg_iald (pc' := 40) rfl (jg_sX12_46 h0) hg rfl ?_
        refine jg_goto rfl ?_
        exact jg_iret rfl rfl h
    · have h := jg_f h (show ¬ (0 ≤ jg_wr x2) from hc)
      refine jg_A (pc' := 18) rfl rfl (fun _ _ _ => rfl) ?_
      exact jg_iret rfl rfl h
set_option maxRecDepth 100000 in
set_option maxHeartbeats 4000000 in
theorem jb_X12_shortest_0 {w : Nat} {a0 : Nat} {x1 : Int} {x2 : Int} {σ : jg_M} {Q : Int → jg_M → Prop} (h0 : jg_sh a0 = (12, 0)) (h : ∀ m101 : jg_M, m101 = jg_sI σ a0 2 0 → jg_CI w 0 mm_X12_isKind [.ref a0, .int (.ofInt x1)] m101 (fun (z103 : Int) (m102 : jg_M) => (if jg_wr z103 = 0 then Q (-1) m102 else (if 0 ≤ jg_wr x2 then ((0 : Int) ≤ jg_wr x1 ∧ jg_wr x1 < (5 : Int)) ∧ (if jg_wr (m102.1 (a0 + 29) (jg_wr x1)) ≤ jg_wr x2 then Q (-2) m102 else ((0 : Int) ≤ jg_wr ((40 * x1) + x2) ∧ jg_wr ((40 * x1) + x2) < (200 : Int)) ∧ Q (m102.1 (a0 + 30) (jg_wr ((40 * x1) + x2))) m102) else Q (-1) m102)))) : jg_CI w 1 mm_X12_shortest [.ref a0, .int (.ofInt x1), .int (.ofInt x2)] σ Q := by
  show jg_G w 1 mm_X12_shortest 0 [.ref a0, .int (.ofInt x1), .int (.ofInt x2)] [] σ (jg_QI Q)
  refine jg_A (pc' := 1) rfl rfl (fun _ _ _ => rfl) ?_
  refine jg_A (pc' := 2) rfl rfl (fun _ _ _ => rfl) ?_
  refine jg_putI (pc' := 5) (bi := 2) rfl h0 (by decide) rfl rfl rfl rfl (fun m101 hm101 => ?_)
  have h := h m101 hm101
  refine jg_A (pc' := 6) rfl rfl (fun _ _ _ => rfl) ?_
  refine jg_A (pc' := 7) rfl rfl (fun _ _ _ => rfl) ?_
  refine jg_calX (M1 := mm_X12_isKind) (hy := 0) (pc' := 10) rfl jm_X12_isKind (by decide) rfl h0 (by decide) ⟨Nat.le_of_ble_eq_true rfl, rfl⟩ (Nat.le_of_ble_eq_true rfl) rfl h (jg_kI (fun z103 m102 h => ?_))
  refine jg_ifeq (pc' := 13) rfl rfl (fun hc => ?_) (fun hc => ?_)
  · have h := jg_t h (show jg_wr z103 = 0 from hc)
    refine jg_A (pc' := 18) rfl rfl (fun _ _ _ => rfl) ?_
    exact jg_iret rfl rfl h
  · have h := jg_f h (show ¬ (jg_wr z103 = 0) from hc)
    refine jg_A (pc' := 14) rfl rfl (fun _ _ _ => rfl) ?_
    refine jg_ifge (pc' := 17) rfl rfl (fun hc => ?_) (fun hc => ?_)
    · have h := jg_t h (show 0 ≤ jg_wr x2 from hc)
      refine jg_A (pc' := 20) rfl rfl (fun _ _ _ => rfl) ?_
      refine jg_A (pc' := 21) rfl rfl (fun _ _ _ => rfl) ?_
      refine jg_getO (pc' := 24) (k := 29) rfl h0 (by decide) rfl rfl ?_
      refine jg_A (pc' := 25) rfl rfl (fun _ _ _ => rfl) ?_
      obtain ⟨hg, h⟩ := h
      refine jg_iald (pc' := 26) rfl (jg_sX12_43 h0) hg rfl ?_
      refine jg_cge (pc' := 29) rfl rfl (fun hc => ?_) (fun hc => ?_)
      · have h := jg_t h (show jg_wr (m102.1 (a0 + 29) (jg_wr x1)) ≤ jg_wr x2 from hc)
        refine jg_A (pc' := 45) rfl rfl (fun _ _ _ => rfl) ?_
        exact jg_iret rfl rfl h
      · have h := jg_f h (show ¬ (jg_wr (m102.1 (a0 + 29) (jg_wr x1)) ≤ jg_wr x2) from hc)
        refine jg_A (pc' := 30) rfl rfl (fun _ _ _ => rfl) ?_
        refine jg_getO (pc' := 33) (k := 30) rfl h0 (by decide) rfl rfl ?_
        refine jg_A (pc' := 35) rfl rfl (fun _ _ _ => rfl) ?_
        refine jg_A (pc' := 36) rfl rfl (fun _ _ _ => rfl) ?_
        refine jg_imul (pc' := 37) rfl rfl ?_
        refine jg_A (pc' := 38) rfl rfl (fun _ _ _ => rfl) ?_
        refine jg_iadd (pc' := 39) rfl rfl ?_
        obtain ⟨hg, h⟩ := h
        refine jg_iald (pc' := 40) rfl (jg_sX12_44 h0) hg rfl ?_
        refine jg_goto rfl ?_
        exact jg_iret rfl rfl h
    · have h := jg_f h (show ¬ (0 ≤ jg_wr x2) from hc)
      refine jg_A (pc' := 18) rfl rfl (fun _ _ _ => rfl) ?_
      exact jg_iret rfl rfl h
set_option maxRecDepth 100000 in
set_option maxHeartbeats 4000000 in
theorem jb_X12_offset_0 {w : Nat} {a0 : Nat} {x1 : Int} {σ : jg_M} {Q : Int → jg_M → Prop} (h0 : jg_sh a0 = (12, 0)) (h : ∀ m101 : jg_M, m101 = jg_sI σ a0 2 0 → jg_CI w 0 mm_X12_isState [.ref a0, .int (.ofInt x1)] m101 (fun (z103 : Int) (m102 : jg_M) => (if jg_wr z103 = 0 then Q (-1) m102 else ((0 : Int) ≤ jg_wr x1 ∧ jg_wr x1 < (48 : Int)) ∧ Q (m102.1 (a0 + 34) (jg_wr x1)) m102))) : jg_CI w 1 mm_X12_offset [.ref a0, .int (.ofInt x1)] σ Q := by
  show jg_G w 1 mm_X12_offset 0 [.ref a0, .int (.ofInt x1)] [] σ (jg_QI Q)
  refine jg_A (pc' := 1) rfl rfl (fun _ _ _ => rfl) ?_
  refine jg_A (pc' := 2) rfl rfl (fun _ _ _ => rfl) ?_
  refine jg_putI (pc' := 5) (bi := 2) rfl h0 (by decide) rfl rfl rfl rfl (fun m101 hm101 => ?_)
  have h := h m101 hm101
  refine jg_A (pc' := 6) rfl rfl (fun _ _ _ => rfl) ?_
  refine jg_A (pc' := 7) rfl rfl (fun _ _ _ => rfl) ?_
  refine jg_calX (M1 := mm_X12_isState) (hy := 0) (pc' := 10) rfl jm_X12_isState (by decide) rfl h0 (by decide) ⟨Nat.le_of_ble_eq_true rfl, rfl⟩ (Nat.le_of_ble_eq_true rfl) rfl h (jg_kI (fun z103 m102 h => ?_))
  refine jg_ifeq (pc' := 13) rfl rfl (fun hc => ?_) (fun hc => ?_)
  · have h := jg_t h (show jg_wr z103 = 0 from hc)
    refine jg_A (pc' := 23) rfl rfl (fun _ _ _ => rfl) ?_
    exact jg_iret rfl rfl h
  · have h := jg_f h (show ¬ (jg_wr z103 = 0) from hc)
    refine jg_A (pc' := 14) rfl rfl (fun _ _ _ => rfl) ?_
    refine jg_getO (pc' := 17) (k := 34) rfl h0 (by decide) rfl rfl ?_
    refine jg_A (pc' := 18) rfl rfl (fun _ _ _ => rfl) ?_
    obtain ⟨hg, h⟩ := h
    refine jg_iald (pc' := 19) rfl (jg_sX12_49 h0) hg rfl ?_
    refine jg_goto rfl ?_
    exact jg_iret rfl rfl h
set_option maxRecDepth 100000 in
set_option maxHeartbeats 4000000 in
theorem jb_X12_packed_0 {w : Nat} {a0 : Nat} {x1 : Int} {x2 : Int} {σ : jg_M} {Q : Int → jg_M → Prop} (h0 : jg_sh a0 = (12, 0)) (h : ∀ m101 : jg_M, m101 = jg_sI σ a0 2 0 → jg_CI w 0 mm_X12_isIn [.int (.ofInt x1), .int (.ofInt 0), .int (.ofInt 999)] m101 (fun (z103 : Int) (m102 : jg_M) => (if jg_wr z103 = 0 then Q (-1) m102 else jg_CI w 0 mm_X12_isIn [.int (.ofInt x2), .int (.ofInt 0), .int (.ofInt 1)] m102 (fun (z105 : Int) (m104 : jg_M) => (if jg_wr z105 = 0 then Q (-1) m104 else ((0 : Int) ≤ jg_wr x1 ∧ jg_wr x1 < (1000 : Int)) ∧ (if jg_wr (m104.1 (a0 + 35) (jg_wr x1)) = 0 then Q (-2) m104 else (if jg_wr x2 = 0 then ((0 : Int) ≤ jg_wr x1 ∧ jg_wr x1 < (1000 : Int)) ∧ Q (m104.1 (a0 + 35) (jg_wr x1)) m104 else ((0 : Int) ≤ jg_wr x1 ∧ jg_wr x1 < (1000 : Int)) ∧ Q (m104.1 (a0 + 36) (jg_wr x1)) m104))))))) : jg_CI w 1 mm_X12_packed [.ref a0, .int (.ofInt x1), .int (.ofInt x2)] σ Q := by
  show jg_G w 1 mm_X12_packed 0 [.ref a0, .int (.ofInt x1), .int (.ofInt x2)] [] σ (jg_QI Q)
  refine jg_A (pc' := 1) rfl rfl (fun _ _ _ => rfl) ?_
  refine jg_A (pc' := 2) rfl rfl (fun _ _ _ => rfl) ?_
  refine jg_putI (pc' := 5) (bi := 2) rfl h0 (by decide) rfl rfl rfl rfl (fun m101 hm101 => ?_)
  have h := h m101 hm101
  refine jg_A (pc' := 6) rfl rfl (fun _ _ _ => rfl) ?_
  refine jg_A (pc' := 7) rfl rfl (fun _ _ _ => rfl) ?_
  refine jg_A (pc' := 10) rfl rfl (fun _ _ _ => rfl) ?_
  refine jg_calS (M1 := mm_X12_isIn) (hy := 0) (pc' := 13) rfl (Or.inl rfl) jm_X12_isIn (by decide) rfl ⟨Nat.le_of_ble_eq_true rfl, rfl⟩ (Nat.le_of_ble_eq_true rfl) rfl h (jg_kI (fun z103 m102 h => ?_))
  refine jg_ifeq (pc' := 16) rfl rfl (fun hc => ?_) (fun hc => ?_)
  · have h := jg_t h (show jg_wr z103 = 0 from hc)
    refine jg_A (pc' := 26) rfl rfl (fun _ _ _ => rfl) ?_
    exact jg_iret rfl rfl h
  · have h := jg_f h (show ¬ (jg_wr z103 = 0) from hc)
    refine jg_A (pc' := 17) rfl rfl (fun _ _ _ => rfl) ?_
    refine jg_A (pc' := 18) rfl rfl (fun _ _ _ => rfl) ?_
    refine jg_A (pc' := 19) rfl rfl (fun _ _ _ => rfl) ?_
    refine jg_calS (M1 := mm_X12_isIn) (hy := 0) (pc' := 22) rfl (Or.inl rfl) jm_X12_isIn (by decide) rfl ⟨Nat.le_of_ble_eq_true rfl, rfl⟩ (Nat.le_of_ble_eq_true rfl) rfl h (jg_kI (fun z105 m104 h => ?_))
    refine jg_ifne (pc' := 25) rfl rfl (fun hc => ?_) (fun hc => ?_)
    · have h := jg_t h (show jg_wr z105 = 0 from hc)
      refine jg_A (pc' := 26) rfl rfl (fun _ _ _ => rfl) ?_
      exact jg_iret rfl rfl h
    · have h := jg_f h (show ¬ (jg_wr z105 = 0) from hc)
      refine jg_A (pc' := 28) rfl rfl (fun _ _ _ => rfl) ?_
      refine jg_getO (pc' := 31) (k := 35) rfl h0 (by decide) rfl rfl ?_
      refine jg_A (pc' := 32) rfl rfl (fun _ _ _ => rfl) ?_
      obtain ⟨hg, h⟩ := h
      refine jg_iald (pc' := 33) rfl (jg_sX12_50 h0) hg rfl ?_
      refine jg_ifne (pc' := 36) rfl rfl (fun hc => ?_) (fun hc => ?_)
      · have h := jg_t h (show jg_wr (m104.1 (a0 + 35) (jg_wr x1)) = 0 from hc)
        refine jg_A (pc' := 38) rfl rfl (fun _ _ _ => rfl) ?_
        exact jg_iret rfl rfl h
      · have h := jg_f h (show ¬ (jg_wr (m104.1 (a0 + 35) (jg_wr x1)) = 0) from hc)
        refine jg_A (pc' := 40) rfl rfl (fun _ _ _ => rfl) ?_
        refine jg_ifne (pc' := 43) rfl rfl (fun hc => ?_) (fun hc => ?_)
        · have h := jg_t h (show jg_wr x2 = 0 from hc)
          refine jg_A (pc' := 44) rfl rfl (fun _ _ _ => rfl) ?_
          refine jg_getO (pc' := 47) (k := 35) rfl h0 (by decide) rfl rfl ?_
          refine jg_A (pc' := 48) rfl rfl (fun _ _ _ => rfl) ?_
          obtain ⟨hg, h⟩ := h
          refine jg_iald (pc' := 49) rfl (jg_sX12_50 h0) hg rfl ?_
          refine jg_goto rfl ?_
          exact jg_iret rfl rfl h
        · have h := jg_f h (show ¬ (jg_wr x2 = 0) from hc)
          refine jg_A (pc' := 53) rfl rfl (fun _ _ _ => rfl) ?_
          refine jg_getO (pc' := 56) (k := 36) rfl h0 (by decide) rfl rfl ?_
          refine jg_A (pc' := 57) rfl rfl (fun _ _ _ => rfl) ?_
          obtain ⟨hg, h⟩ := h
          refine jg_iald (pc' := 58) rfl (jg_sX12_51 h0) hg rfl ?_
          exact jg_iret rfl rfl h
set_option maxRecDepth 100000 in
set_option maxHeartbeats 4000000 in
theorem jb_X12_fromNow_0 {w : Nat} {a0 : Nat} {σ : jg_M} {Q : jg_M → Prop} (h0 : jg_sh a0 = (12, 0)) (h : jg_GV w 0 mm_X12_fromNow 2 [.ref a0, .int (.ofInt 0)] σ Q) : jg_CV w 0 mm_X12_fromNow [.ref a0] σ Q := by
  show jg_G w 0 mm_X12_fromNow 0 [.ref a0, mj_U] [] σ (jg_QV Q)
  refine jg_A (pc' := 1) rfl rfl (fun _ _ _ => rfl) ?_
  refine jg_A (pc' := 2) (ls' := [.ref a0, .int (.ofInt 0)]) rfl rfl (fun _ _ _ => rfl) ?_
  exact h
set_option maxRecDepth 100000 in
set_option maxHeartbeats 4000000 in
theorem jb_X12_fromNow_2 {w : Nat} {a0 : Nat} {x1 : Int} {σ : jg_M} {Q : jg_M → Prop} (h0 : jg_sh a0 = (12, 0)) (h : (if jg_wr (σ.1 a0 58) ≤ jg_wr x1 then ∀ m101 : jg_M, m101 = jg_sI σ a0 54 (σ.1 a0 58) → Q m101 else ((0 : Int) ≤ jg_wr x1 ∧ jg_wr x1 < (40 : Int)) ∧ ((0 : Int) ≤ (jg_wr x1) ∧ (jg_wr x1) < (42 : Int)) ∧ ∀ m102 : jg_M, m102 = jg_sI σ (a0 + 37) (jg_wr x1) (σ.1 (a0 + 38) (jg_wr x1)) → jg_GV w 0 mm_X12_fromNow 2 [.ref a0, .int (.ofInt (x1 + 1))] m102 Q)) : jg_GV w 0 mm_X12_fromNow 2 [.ref a0, .int (.ofInt x1)] σ Q := by
  show jg_G w 0 mm_X12_fromNow 2 [.ref a0, .int (.ofInt x1)] [] σ (jg_QV Q)
  refine jg_A (pc' := 3) rfl rfl (fun _ _ _ => rfl) ?_
  refine jg_A (pc' := 4) rfl rfl (fun _ _ _ => rfl) ?_
  refine jg_getI (pc' := 7) (bi := 58) rfl h0 (by decide) (Or.inl rfl) rfl rfl ?_
  refine jg_cge (pc' := 10) rfl rfl (fun hc => ?_) (fun hc => ?_)
  · have h := jg_t h (show jg_wr (σ.1 a0 58) ≤ jg_wr x1 from hc)
    refine jg_A (pc' := 29) rfl rfl (fun _ _ _ => rfl) ?_
    refine jg_A (pc' := 30) rfl rfl (fun _ _ _ => rfl) ?_
    refine jg_getI (pc' := 33) (bi := 58) rfl h0 (by decide) (Or.inl rfl) rfl rfl ?_
    refine jg_putI (pc' := 36) (bi := 54) rfl h0 (by decide) rfl rfl rfl rfl (fun m101 hm101 => ?_)
    have h := h m101 hm101
    exact jg_vret rfl rfl h
  · have h := jg_f h (show ¬ (jg_wr (σ.1 a0 58) ≤ jg_wr x1) from hc)
    refine jg_A (pc' := 11) rfl rfl (fun _ _ _ => rfl) ?_
    refine jg_getO (pc' := 14) (k := 37) rfl h0 (by decide) rfl rfl ?_
    refine jg_A (pc' := 15) rfl rfl (fun _ _ _ => rfl) ?_
    refine jg_A (pc' := 16) rfl rfl (fun _ _ _ => rfl) ?_
    refine jg_getO (pc' := 19) (k := 38) rfl h0 (by decide) rfl rfl ?_
    refine jg_A (pc' := 20) rfl rfl (fun _ _ _ => rfl) ?_
    obtain ⟨hg, h⟩ := h
    refine jg_iald (pc' := 21) rfl (jg_sX12_57 h0) hg rfl ?_
    obtain ⟨hg, h⟩ := h
    refine jg_iast (pc' := 22) rfl (jg_sX12_53 h0) hg rfl (fun m102 hm102 => ?_)
    have h := h m102 hm102
    refine jg_iinc (pc' := 25) (ls' := [.ref a0, .int (.ofInt (x1 + 1))]) rfl rfl rfl rfl ?_
    refine jg_goto rfl ?_
    exact h
set_option maxRecDepth 100000 in
set_option maxHeartbeats 4000000 in
theorem jb_X12_fromFirst_0 {w : Nat} {a0 : Nat} {σ : jg_M} {Q : jg_M → Prop} (h0 : jg_sh a0 = (12, 0)) (h : ∀ m101 : jg_M, m101 = jg_sI σ (a0 + 37) 0 0 → ∀ m102 : jg_M, m102 = jg_sI m101 a0 54 1 → Q m102) : jg_CV w 0 mm_X12_fromFirst [.ref a0] σ Q := by
  show jg_G w 0 mm_X12_fromFirst 0 [.ref a0] [] σ (jg_QV Q)
  refine jg_A (pc' := 1) rfl rfl (fun _ _ _ => rfl) ?_
  refine jg_getO (pc' := 4) (k := 37) rfl h0 (by decide) rfl rfl ?_
  refine jg_A (pc' := 5) rfl rfl (fun _ _ _ => rfl) ?_
  refine jg_A (pc' := 6) rfl rfl (fun _ _ _ => rfl) ?_
  refine jg_iastK (pc' := 7) (xi := 0) rfl (jg_sX12_53 h0) (by decide) (by decide) rfl (fun m101 hm101 => ?_)
  have h := h m101 hm101
  refine jg_A (pc' := 8) rfl rfl (fun _ _ _ => rfl) ?_
  refine jg_A (pc' := 9) rfl rfl (fun _ _ _ => rfl) ?_
  refine jg_putI (pc' := 12) (bi := 54) rfl h0 (by decide) rfl rfl rfl rfl (fun m102 hm102 => ?_)
  have h := h m102 hm102
  exact jg_vret rfl rfl h
set_option maxRecDepth 100000 in
set_option maxHeartbeats 4000000 in
theorem jb_X12_comes_0 {w : Nat} {a0 : Nat} {x1 : Int} {x2 : Int} {σ : jg_M} {Q : Int → jg_M → Prop} (h0 : jg_sh a0 = (12, 0)) (h : ∀ m101 : jg_M, m101 = jg_sI σ a0 55 0 → ∀ m102 : jg_M, m102 = jg_sI m101 a0 56 0 → jg_GI w 0 mm_X12_comes 10 [.ref a0, .int (.ofInt x1), .int (.ofInt x2), mj_U, mj_U, mj_U, mj_U] m102 Q) : jg_CI w 0 mm_X12_comes [.ref a0, .int (.ofInt x1), .int (.ofInt x2)] σ Q := by
  show jg_G w 0 mm_X12_comes 0 [.ref a0, .int (.ofInt x1), .int (.ofInt x2), mj_U, mj_U, mj_U, mj_U] [] σ (jg_QI Q)
  refine jg_A (pc' := 1) rfl rfl (fun _ _ _ => rfl) ?_
  refine jg_A (pc' := 2) rfl rfl (fun _ _ _ => rfl) ?_
  refine jg_putI (pc' := 5) (bi := 55) rfl h0 (by decide) rfl rfl rfl rfl (fun m101 hm101 => ?_)
  have h := h m101 hm101
  refine jg_A (pc' := 6) rfl rfl (fun _ _ _ => rfl) ?_
  refine jg_A (pc' := 7) rfl rfl (fun _ _ _ => rfl) ?_
  refine jg_putZ (pc' := 10) (bi := 56) rfl h0 (by decide) rfl rfl (by decide) rfl rfl (fun m102 hm102 => ?_)
  have h := h m102 hm102
  exact h
