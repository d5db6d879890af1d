/-! LIFTED METHODS, 4: from a method's entry, and from each loop's head, what must hold for its run to end with Q (printed by wip/whole/gen/gen18.py) -/
set_option maxRecDepth 100000 in
set_option maxHeartbeats 4000000 in
theorem jb_X12_nextToken_0 {w : Nat} {a0 : Nat} {σ : jg_M} {Q : jg_M → Prop} (h0 : jg_sh a0 = (12, 0)) (h : (if jg_wr (σ.1 a0 6) ≤ jg_wr (σ.1 a0 7) then ∀ m101 : jg_M, m101 = jg_sI σ a0 10 (σ.1 a0 7) → (if jg_wr (m101.1 a0 7) = jg_wr (m101.1 a0 6) then ∀ m102 : jg_M, m102 = jg_sI m101 a0 8 0 → Q m102 else jg_CI w 0 mm_X12_isSmall [.ref a0, .int (.ofInt (m101.1 a0 7))] m101 (fun (z104 : Int) (m103 : jg_M) => (if jg_wr z104 = 0 then jg_CI w 0 mm_X12_isDigit [.ref a0, .int (.ofInt (m103.1 a0 7))] m103 (fun (z106 : Int) (m105 : jg_M) => (if jg_wr z106 = 0 then jg_CV w 0 mm_X12_signToken [.ref a0] m105 (fun (m107 : jg_M) => Q m107) else ∀ m108 : jg_M, m108 = jg_sI m105 a0 8 3 → ∀ m109 : jg_M, m109 = jg_sI m108 a0 9 0 → jg_GV w 1 mm_X12_nextToken 213 [.ref a0] m109 Q)) else jg_GV w 1 mm_X12_nextToken 90 [.ref a0] m103 Q))) else ((0 : Int) ≤ jg_wr (σ.1 a0 7) ∧ jg_wr (σ.1 a0 7) < (700 : Int)) ∧ (if jg_wr (σ.1 (a0 + 1) (jg_wr (σ.1 a0 7))) = 10 then ∀ m110 : jg_M, m110 = jg_sI σ a0 7 ((σ.1 a0 7) + 1) → jg_GV w 1 mm_X12_nextToken 0 [.ref a0] m110 Q else ((0 : Int) ≤ jg_wr (σ.1 a0 7) ∧ jg_wr (σ.1 a0 7) < (700 : Int)) ∧ (if jg_wr (σ.1 (a0 + 1) (jg_wr (σ.1 a0 7))) = 32 then ∀ m111 : jg_M, m111 = jg_sI σ a0 7 ((σ.1 a0 7) + 1) → jg_GV w 1 mm_X12_nextToken 0 [.ref a0] m111 Q else ∀ m112 : jg_M, m112 = jg_sI σ a0 10 (σ.1 a0 7) → (if jg_wr (m112.1 a0 7) = jg_wr (m112.1 a0 6) then ∀ m113 : jg_M, m113 = jg_sI m112 a0 8 0 → Q m113 else jg_CI w 0 mm_X12_isSmall [.ref a0, .int (.ofInt (m112.1 a0 7))] m112 (fun (z115 : Int) (m114 : jg_M) => (if jg_wr z115 = 0 then jg_CI w 0 mm_X12_isDigit [.ref a0, .int (.ofInt (m114.1 a0 7))] m114 (fun (z117 : Int) (m116 : jg_M) => (if jg_wr z117 = 0 then jg_CV w 0 mm_X12_signToken [.ref a0] m116 (fun (m118 : jg_M) => Q m118) else ∀ m119 : jg_M, m119 = jg_sI m116 a0 8 3 → ∀ m120 : jg_M, m120 = jg_sI m119 a0 9 0 → jg_GV w 1 mm_X12_nextToken 213 [.ref a0] m120 Q)) else jg_GV w 1 mm_X12_nextToken 90 [.ref a0] m114 Q))))))) : jg_GV w 1 mm_X12_nextToken 0 [.ref a0] σ Q := by
  show jg_G w 1 mm_X12_nextToken 0 [.ref a0] [] σ (jg_QV Q)
  refine jg_A (pc' := 1) rfl rfl (fun _ _ _ => rfl) ?_
  refine jg_getI (pc' := 4) (bi := 7) rfl h0 (by decide) (Or.inl rfl) rfl rfl ?_
  refine jg_A (pc' := 5) rfl rfl (fun _ _ _ => rfl) ?_
  refine jg_getI (pc' := 8) (bi := 6) rfl h0 (by decide) (Or.inl rfl) rfl rfl ?_
  refine jg_cge (pc' := 11) rfl rfl (fun hc => ?_) (fun hc => ?_)
  · have h := jg_t h (show jg_wr (σ.1 a0 6) ≤ jg_wr (σ.1 a0 7) from hc)
    refine jg_A (pc' := 53) rfl rfl (fun _ _ _ => rfl) ?_
    refine jg_A (pc' := 54) rfl rfl (fun _ _ _ => rfl) ?_
    refine jg_getI (pc' := 57) (bi := 7) rfl h0 (by decide) (Or.inl rfl) rfl rfl ?_
    refine jg_putI (pc' := 60) (bi := 10) rfl h0 (by decide) rfl rfl rfl rfl (fun m101 hm101 => ?_)
    have h := h m101 hm101
    refine jg_A (pc' := 61) rfl rfl (fun _ _ _ => rfl) ?_
    refine jg_getI (pc' := 64) (bi := 7) rfl h0 (by decide) (Or.inl rfl) rfl rfl ?_
    refine jg_A (pc' := 65) rfl rfl (fun _ _ _ => rfl) ?_
    refine jg_getI (pc' := 68) (bi := 6) rfl h0 (by decide) (Or.inl rfl) rfl rfl ?_
    refine jg_cne (pc' := 71) rfl rfl (fun hc => ?_) (fun hc => ?_)
    · have h := jg_t h (show jg_wr (m101.1 a0 7) = jg_wr (m101.1 a0 6) from hc)
      refine jg_A (pc' := 72) rfl rfl (fun _ _ _ => rfl) ?_
      refine jg_A (pc' := 73) rfl rfl (fun _ _ _ => rfl) ?_
      refine jg_putI (pc' := 76) (bi := 8) rfl h0 (by decide) rfl rfl rfl rfl (fun m102 hm102 => ?_)
      have h := h m102 hm102
      refine jg_goto rfl ?_
      exact jg_vret rfl rfl h
    · have h := jg_f h (show ¬ (jg_wr (m101.1 a0 7) = jg_wr (m101.1 a0 6)) from hc)
      refine jg_A (pc' := 80) rfl rfl (fun _ _ _ => rfl) ?_
      refine jg_A (pc' := 81) rfl rfl (fun _ _ _ => rfl) ?_
      refine jg_getI (pc' := 84) (bi := 7) rfl h0 (by decide) (Or.inl rfl) rfl rfl ?_
      refine jg_calX (M1 := mm_X12_isSmall) (hy := 0) (pc' := 87) rfl jm_X12_isSmall (by decide) rfl h0 (by decide) ⟨Nat.le_of_ble_eq_true rfl, rfl⟩ (Nat.le_of_ble_eq_true rfl) rfl h (jg_kI (fun z104 m103 h => ?_))
      refine jg_ifeq (pc' := 90) rfl rfl (fun hc => ?_) (fun hc => ?_)
      · have h := jg_t h (show jg_wr z104 = 0 from hc)
        refine jg_A (pc' := 193) rfl rfl (fun _ _ _ => rfl) ?_
        refine jg_A (pc' := 194) rfl rfl (fun _ _ _ => rfl) ?_
        refine jg_getI (pc' := 197) (bi := 7) rfl h0 (by decide) (Or.inl rfl) rfl rfl ?_
        refine jg_calX (M1 := mm_X12_isDigit) (hy := 0) (pc' := 200) rfl jm_X12_isDigit (by decide) rfl h0 (by decide) ⟨Nat.le_of_ble_eq_true rfl, rfl⟩ (Nat.le_of_ble_eq_true rfl) rfl h (jg_kI (fun z106 m105 h => ?_))
        refine jg_ifeq (pc' := 203) rfl rfl (fun hc => ?_) (fun hc => ?_)
        · have h := jg_t h (show jg_wr z106 = 0 from hc)
          refine jg_A (pc' := 278) rfl rfl (fun _ _ _ => rfl) ?_
          refine jg_calX (M1 := mm_X12_signToken) (hy := 0) (pc' := 281) rfl jm_X12_signToken (by decide) rfl h0 (by decide) ⟨Nat.le_of_ble_eq_true rfl, rfl⟩ (Nat.le_of_ble_eq_true rfl) rfl h (jg_kV (fun m107 h => ?_))
          exact jg_vret rfl rfl h
        · have h := jg_f h (show ¬ (jg_wr z106 = 0) from hc)
          refine jg_A (pc' := 204) rfl rfl (fun _ _ _ => rfl) ?_
          refine jg_A (pc' := 205) rfl rfl (fun _ _ _ => rfl) ?_
          refine jg_putI (pc' := 208) (bi := 8) rfl h0 (by decide) rfl rfl rfl rfl (fun m108 hm108 => ?_)
          have h := h m108 hm108
          refine jg_A (pc' := 209) rfl rfl (fun _ _ _ => rfl) ?_
          refine jg_A (pc' := 210) rfl rfl (fun _ _ _ => rfl) ?_
          refine jg_putI (pc' := 213) (bi := 9) rfl h0 (by decide) rfl rfl rfl rfl (fun m109 hm109 => ?_)
          have h := h m109 hm109
          exact h
      · have h := jg_f h (show ¬ (jg_wr z104 = 0) from hc)
        exact h
  · have h := jg_f h (show ¬ (jg_wr (σ.1 a0 6) ≤ jg_wr (σ.1 a0 7)) from hc)
    refine jg_A (pc' := 12) rfl rfl (fun _ _ _ => rfl) ?_
    refine jg_getO (pc' := 15) (k := 1) rfl h0 (by decide) rfl rfl ?_
    refine jg_A (pc' := 16) rfl rfl (fun _ _ _ => rfl) ?_
    refine jg_getI (pc' := 19) (bi := 7) rfl h0 (by decide) (Or.inl rfl) rfl rfl ?_
    obtain ⟨hg, h⟩ := h
    refine jg_iald (pc' := 20) rfl (jg_sX12_0 h0) hg rfl ?_
    refine jg_A (pc' := 22) rfl rfl (fun _ _ _ => rfl) ?_
    refine jg_ceq (pc' := 25) rfl rfl (fun hc => ?_) (fun hc => ?_)
    · have h := jg_t h (show jg_wr (σ.1 (a0 + 1) (jg_wr (σ.1 a0 7))) = 10 from hc)
      refine jg_A (pc' := 40) rfl rfl (fun _ _ _ => rfl) ?_
      refine jg_A (pc' := 41) rfl rfl (fun _ _ _ => rfl) ?_
      refine jg_getI (pc' := 44) (bi := 7) rfl h0 (by decide) (Or.inl rfl) rfl rfl ?_
      refine jg_A (pc' := 45) rfl rfl (fun _ _ _ => rfl) ?_
      refine jg_iadd (pc' := 46) rfl rfl ?_
      refine jg_putI (pc' := 49) (bi := 7) rfl h0 (by decide) rfl rfl rfl rfl (fun m110 hm110 => ?_)
      have h := h m110 hm110
      refine jg_goto rfl ?_
      exact h
    · have h := jg_f h (show ¬ (jg_wr (σ.1 (a0 + 1) (jg_wr (σ.1 a0 7))) = 10) from hc)
      refine jg_A (pc' := 26) rfl rfl (fun _ _ _ => rfl) ?_
      refine jg_getO (pc' := 29) (k := 1) rfl h0 (by decide) rfl rfl ?_
      refine jg_A (pc' := 30) rfl rfl (fun _ _ _ => rfl) ?_
      refine jg_getI (pc' := 33) (bi := 7) rfl h0 (by decide) (Or.inl rfl) rfl rfl ?_
      obtain ⟨hg, h⟩ := h
      refine jg_iald (pc' := 34) rfl (jg_sX12_0 h0) hg rfl ?_
      refine jg_A (pc' := 36) rfl rfl (fun _ _ _ => rfl) ?_
      refine jg_cne (pc' := 39) rfl rfl (fun hc => ?_) (fun hc => ?_)
      · have h := jg_t h (show jg_wr (σ.1 (a0 + 1) (jg_wr (σ.1 a0 7))) = 32 from hc)
        refine jg_A (pc' := 40) rfl rfl (fun _ _ _ => rfl) ?_
        refine jg_A (pc' := 41) rfl rfl (fun _ _ _ => rfl) ?_
        refine jg_getI (pc' := 44) (bi := 7) rfl h0 (by decide) (Or.inl rfl) rfl rfl ?_
        refine jg_A (pc' := 45) rfl rfl (fun _ _ _ => rfl) ?_
        refine jg_iadd (pc' := 46) rfl rfl ?_
        refine jg_putI (pc' := 49) (bi := 7) rfl h0 (by decide) rfl rfl rfl rfl (fun m111 hm111 => ?_)
        have h := h m111 hm111
        refine jg_goto rfl ?_
        exact h
      · have h := jg_f h (show ¬ (jg_wr (σ.1 (a0 + 1) (jg_wr (σ.1 a0 7))) = 32) from hc)
        refine jg_A (pc' := 53) rfl rfl (fun _ _ _ => rfl) ?_
        refine jg_A (pc' := 54) rfl rfl (fun _ _ _ => rfl) ?_
        refine jg_getI (pc' := 57) (bi := 7) rfl h0 (by decide) (Or.inl rfl) rfl rfl ?_
        refine jg_putI (pc' := 60) (bi := 10) rfl h0 (by decide) rfl rfl rfl rfl (fun m112 hm112 => ?_)
        have h := h m112 hm112
        refine jg_A (pc' := 61) rfl rfl (fun _ _ _ => rfl) ?_
        refine jg_getI (pc' := 64) (bi := 7) rfl h0 (by decide) (Or.inl rfl) rfl rfl ?_
        refine jg_A (pc' := 65) rfl rfl (fun _ _ _ => rfl) ?_
        refine jg_getI (pc' := 68) (bi := 6) rfl h0 (by decide) (Or.inl rfl) rfl rfl ?_
        refine jg_cne (pc' := 71) rfl rfl (fun hc => ?_) (fun hc => ?_)
        · have h := jg_t h (show jg_wr (m112.1 a0 7) = jg_wr (m112.1 a0 6) from hc)
          refine jg_A (pc' := 72) rfl rfl (fun _ _ _ => rfl) ?_
          refine jg_A (pc' := 73) rfl rfl (fun _ _ _ => rfl) ?_
          refine jg_putI (pc' := 76) (bi := 8) rfl h0 (by decide) rfl rfl rfl rfl (fun m113 hm113 => ?_)
          have h := h m113 hm113
          refine jg_goto rfl ?_
          exact jg_vret rfl rfl h
        · have h := jg_f h (show ¬ (jg_wr (m112.1 a0 7) = jg_wr (m112.1 a0 6)) from hc)
          refine jg_A (pc' := 80) rfl rfl (fun _ _ _ => rfl) ?_
          refine jg_A (pc' := 81) rfl rfl (fun _ _ _ => rfl) ?_
          refine jg_getI (pc' := 84) (bi := 7) rfl h0 (by decide) (Or.inl rfl) rfl rfl ?_
          refine jg_calX (M1 := mm_X12_isSmall) (hy := 0) (pc' := 87) rfl jm_X12_isSmall (by decide) rfl h0 (by decide) ⟨Nat.le_of_ble_eq_true rfl, rfl⟩ (Nat.le_of_ble_eq_true rfl) rfl h (jg_kI (fun z115 m114 h => ?_))
          refine jg_ifeq (pc' := 90) rfl rfl (fun hc => ?_) (fun hc => ?_)
          · have h := jg_t h (show jg_wr z115 = 0 from hc)
            refine jg_A (pc' := 193) rfl rfl (fun _ _ _ => rfl) ?_
            refine jg_A (pc' := 194) rfl rfl (fun _ _ _ => rfl) ?_
            refine jg_getI (pc' := 197) (bi := 7) rfl h0 (by decide) (Or.inl rfl) rfl rfl ?_
            refine jg_calX (M1 := mm_X12_isDigit) (hy := 0) (pc' := 200) rfl jm_X12_isDigit (by decide) rfl h0 (by decide) ⟨Nat.le_of_ble_eq_true rfl, rfl⟩ (Nat.le_of_ble_eq_true rfl) rfl h (jg_kI (fun z117 m116 h => ?_))
            refine jg_ifeq (pc' := 203) rfl rfl (fun hc => ?_) (fun hc => ?_)
            · have h := jg_t h (show jg_wr z117 = 0 from hc)
              refine jg_A (pc' := 278) rfl rfl (fun _ _ _ => rfl) ?_
              refine jg_calX (M1 := mm_X12_signToken) (hy := 0) (pc' := 281) rfl jm_X12_signToken (by decide) rfl h0 (by decide) ⟨Nat.le_of_ble_eq_true rfl, rfl⟩ (Nat.le_of_ble_eq_true rfl) rfl h (jg_kV (fun m118 h => ?_))
              exact jg_vret rfl rfl h
            · have h := jg_f h (show ¬ (jg_wr z117 = 0) from hc)
              refine jg_A (pc' := 204) rfl rfl (fun _ _ _ => rfl) ?_
              refine jg_A (pc' := 205) rfl rfl (fun _ _ _ => rfl) ?_
              refine jg_putI (pc' := 208) (bi := 8) rfl h0 (by decide) rfl rfl rfl rfl (fun m119 hm119 => ?_)
              have h := h m119 hm119
              refine jg_A (pc' := 209) rfl rfl (fun _ _ _ => rfl) ?_
              refine jg_A (pc' := 210) rfl rfl (fun _ _ _ => rfl) ?_
              refine jg_putI (pc' := 213) (bi := 9) rfl h0 (by decide) rfl rfl rfl rfl (fun m120 hm120 => ?_)
              have h := h m120 hm120
              exact h
          · have h := jg_f h (show ¬ (jg_wr z115 = 0) from hc)
            exact h
set_option maxRecDepth 100000 in
set_option maxHeartbeats 4000000 in
theorem jb_X12_nextToken_213 {w : Nat} {a0 : Nat} {σ : jg_M} {Q : jg_M → Prop} (h0 : jg_sh a0 = (12, 0)) (h : jg_CI w 0 mm_X12_isDigit [.ref a0, .int (.ofInt (σ.1 a0 7))] σ (fun (z102 : Int) (m101 : jg_M) => (if jg_wr z102 = 0 then Q m101 else (if jg_wr (m101.1 a0 9) ≤ 99999 then ((0 : Int) ≤ jg_wr (m101.1 a0 7) ∧ jg_wr (m101.1 a0 7) < (700 : Int)) ∧ ∀ m103 : jg_M, m103 = jg_sI m101 a0 9 (((10 * (m101.1 a0 9)) + (m101.1 (a0 + 1) (jg_wr (m101.1 a0 7)))) - 48) → ∀ m104 : jg_M, m104 = jg_sI m103 a0 7 ((m103.1 a0 7) + 1) → jg_GV w 1 mm_X12_nextToken 213 [.ref a0] m104 Q else ∀ m105 : jg_M, m105 = jg_sI m101 a0 9 (m101.1 a0 9) → ∀ m106 : jg_M, m106 = jg_sI m105 a0 7 ((m105.1 a0 7) + 1) → jg_GV w 1 mm_X12_nextToken 213 [.ref a0] m106 Q)))) : jg_GV w 1 mm_X12_nextToken 213 [.ref a0] σ Q := by
  show jg_G w 1 mm_X12_nextToken 213 [.ref a0] [] σ (jg_QV Q)
  refine jg_A (pc' := 214) rfl rfl (fun _ _ _ => rfl) ?_
  refine jg_A (pc' := 215) rfl rfl (fun _ _ _ => rfl) ?_
  refine jg_getI (pc' := 218) (bi := 7) rfl h0 (by decide) (Or.inl rfl) rfl rfl ?_
  refine jg_calX (M1 := mm_X12_isDigit) (hy := 0) (pc' := 221) rfl jm_X12_isDigit (by decide) rfl h0 (by decide) ⟨Nat.le_of_ble_eq_true rfl, rfl⟩ (Nat.le_of_ble_eq_true rfl) rfl h (jg_kI (fun z102 m101 h => ?_))
  refine jg_ifeq (pc' := 224) rfl rfl (fun hc => ?_) (fun hc => ?_)
  · have h := jg_t h (show jg_wr z102 = 0 from hc)
    exact jg_vret rfl rfl h
  · have h := jg_f h (show ¬ (jg_wr z102 = 0) from hc)
    refine jg_A (pc' := 225) rfl rfl (fun _ _ _ => rfl) ?_
    refine jg_A (pc' := 226) rfl rfl (fun _ _ _ => rfl) ?_
    refine jg_getI (pc' := 229) (bi := 9) rfl h0 (by decide) (Or.inl rfl) rfl rfl ?_
    refine jg_A (pc' := 231) rfl rfl (fun _ _ _ => rfl) ?_
    refine jg_cle (pc' := 234) rfl rfl (fun hc => ?_) (fun hc => ?_)
    · have h := jg_t h (show jg_wr (m101.1 a0 9) ≤ 99999 from hc)
      refine jg_A (pc' := 243) rfl rfl (fun _ _ _ => rfl) ?_
      refine jg_A (pc' := 244) rfl rfl (fun _ _ _ => rfl) ?_
      refine jg_getI (pc' := 247) (bi := 9) rfl h0 (by decide) (Or.inl rfl) rfl rfl ?_
      refine jg_imul (pc' := 248) rfl rfl ?_
      refine jg_A (pc' := 249) rfl rfl (fun _ _ _ => rfl) ?_
      refine jg_getO (pc' := 252) (k := 1) rfl h0 (by decide) rfl rfl ?_
      refine jg_A (pc' := 253) rfl rfl (fun _ _ _ => rfl) ?_
      refine jg_getI (pc' := 256) (bi := 7) rfl h0 (by decide) (Or.inl rfl) rfl rfl ?_
      obtain ⟨hg, h⟩ := h
      refine jg_iald (pc' := 257) rfl (jg_sX12_0 h0) hg rfl ?_
      refine jg_iadd (pc' := 258) rfl rfl ?_
      refine jg_A (pc' := 260) rfl rfl (fun _ _ _ => rfl) ?_
      refine jg_isub (pc' := 261) rfl rfl ?_
      refine jg_putI (pc' := 264) (bi := 9) rfl h0 (by decide) rfl rfl rfl rfl (fun m103 hm103 => ?_)
      have h := h m103 hm103
      refine jg_A (pc' := 265) rfl rfl (fun _ _ _ => rfl) ?_
      refine jg_A (pc' := 266) rfl rfl (fun _ _ _ => rfl) ?_
      refine jg_getI (pc' := 269) (bi := 7) rfl h0 (by decide) (Or.inl rfl) rfl rfl ?_
      refine jg_A (pc' := 270) rfl rfl (fun _ _ _ => rfl) ?_
      refine jg_iadd (pc' := 271) rfl rfl ?_
      refine jg_putI (pc' := 274) (bi := 7) rfl h0 (by decide) rfl rfl rfl rfl (fun m104 hm104 => ?_)
      have h := h m104 hm104
      refine jg_goto rfl ?_
      exact h
    · have h := jg_f h (show ¬ (jg_wr (m101.1 a0 9) ≤ 99999) from hc)
      refine jg_A (pc' := 235) rfl rfl (fun _ _ _ => rfl) ?_
      refine jg_getI (pc' := 238) (bi := 9) rfl h0 (by decide) (Or.inl rfl) rfl rfl ?_
      refine jg_goto rfl ?_
      refine jg_putI (pc' := 264) (bi := 9) rfl h0 (by decide) rfl rfl rfl rfl (fun m105 hm105 => ?_)
      have h := h m105 hm105
      refine jg_A (pc' := 265) rfl rfl (fun _ _ _ => rfl) ?_
      refine jg_A (pc' := 266) rfl rfl (fun _ _ _ => rfl) ?_
      refine jg_getI (pc' := 269) (bi := 7) rfl h0 (by decide) (Or.inl rfl) rfl rfl ?_
      refine jg_A (pc' := 270) rfl rfl (fun _ _ _ => rfl) ?_
      refine jg_iadd (pc' := 271) rfl rfl ?_
      refine jg_putI (pc' := 274) (bi := 7) rfl h0 (by decide) rfl rfl rfl rfl (fun m106 hm106 => ?_)
      have h := h m106 hm106
      refine jg_goto rfl ?_
      exact h
set_option maxRecDepth 100000 in
set_option maxHeartbeats 4000000 in
theorem jb_X12_nextToken_90 {w : Nat} {a0 : Nat} {σ : jg_M} {Q : jg_M → Prop} (h0 : jg_sh a0 = (12, 0)) (h : jg_CI w 0 mm_X12_isSmall [.ref a0, .int (.ofInt (σ.1 a0 7))] σ (fun (z102 : Int) (m101 : jg_M) => (if jg_wr z102 = 0 then jg_CI w 0 mm_X12_wordAt [.ref a0, .int (.ofInt (m101.1 a0 10)), .int (.ofInt (m101.1 a0 7))] m101 (fun (z104 : Int) (m103 : jg_M) => ∀ m105 : jg_M, m105 = jg_sI m103 a0 9 z104 → (if jg_wr (m105.1 a0 9) < 0 then (if jg_wr ((m105.1 a0 7) - (m105.1 a0 10)) ≤ 6 then ∀ m106 : jg_M, m106 = jg_sI m105 a0 8 2 → (if jg_wr (m106.1 a0 8) = 2 then jg_CI w 0 mm_X12_lettersOf [.ref a0, .int (.ofInt (m106.1 a0 10)), .int (.ofInt (m106.1 a0 7))] m106 (fun (z108 : Int) (m107 : jg_M) => ∀ m109 : jg_M, m109 = jg_sI m107 a0 9 z108 → Q m109) else Q m106) else ∀ m110 : jg_M, m110 = jg_sI m105 a0 8 6 → (if jg_wr (m110.1 a0 8) = 2 then jg_CI w 0 mm_X12_lettersOf [.ref a0, .int (.ofInt (m110.1 a0 10)), .int (.ofInt (m110.1 a0 7))] m110 (fun (z112 : Int) (m111 : jg_M) => ∀ m113 : jg_M, m113 = jg_sI m111 a0 9 z112 → Q m113) else Q m110)) else ∀ m114 : jg_M, m114 = jg_sI m105 a0 8 1 → (if jg_wr (m114.1 a0 8) = 2 then jg_CI w 0 mm_X12_lettersOf [.ref a0, .int (.ofInt (m114.1 a0 10)), .int (.ofInt (m114.1 a0 7))] m114 (fun (z116 : Int) (m115 : jg_M) => ∀ m117 : jg_M, m117 = jg_sI m115 a0 9 z116 → Q m117) else Q m114))) else ∀ m118 : jg_M, m118 = jg_sI m101 a0 7 ((m101.1 a0 7) + 1) → jg_GV w 1 mm_X12_nextToken 90 [.ref a0] m118 Q))) : jg_GV w 1 mm_X12_nextToken 90 [.ref a0] σ Q := by
  show jg_G w 1 mm_X12_nextToken 90 [.ref a0] [] σ (jg_QV Q)
  refine jg_A (pc' := 91) rfl rfl (fun _ _ _ => rfl) ?_
  refine jg_A (pc' := 92) rfl rfl (fun _ _ _ => rfl) ?_
  refine jg_getI (pc' := 95) (bi := 7) rfl h0 (by decide) (Or.inl rfl) rfl rfl ?_
  refine jg_calX (M1 := mm_X12_isSmall) (hy := 0) (pc' := 98) rfl jm_X12_isSmall (by decide) rfl h0 (by decide) ⟨Nat.le_of_ble_eq_true rfl, rfl⟩ (Nat.le_of_ble_eq_true rfl) rfl h (jg_kI (fun z102 m101 h => ?_))
  refine jg_ifeq (pc' := 101) rfl rfl (fun hc => ?_) (fun hc => ?_)
  · have h := jg_t h (show jg_wr z102 = 0 from hc)
    refine jg_A (pc' := 115) rfl rfl (fun _ _ _ => rfl) ?_
    refine jg_A (pc' := 116) rfl rfl (fun _ _ _ => rfl) ?_
    refine jg_A (pc' := 117) rfl rfl (fun _ _ _ => rfl) ?_
    refine jg_getI (pc' := 120) (bi := 10) rfl h0 (by decide) (Or.inl rfl) rfl rfl ?_
    refine jg_A (pc' := 121) rfl rfl (fun _ _ _ => rfl) ?_
    refine jg_getI (pc' := 124) (bi := 7) rfl h0 (by decide) (Or.inl rfl) rfl rfl ?_
    refine jg_calX (M1 := mm_X12_wordAt) (hy := 0) (pc' := 127) rfl jm_X12_wordAt (by decide) rfl h0 (by decide) ⟨Nat.le_of_ble_eq_true rfl, rfl⟩ (Nat.le_of_ble_eq_true rfl) rfl h (jg_kI (fun z104 m103 h => ?_))
    refine jg_putI (pc' := 130) (bi := 9) rfl h0 (by decide) rfl rfl rfl rfl (fun m105 hm105 => ?_)
    have h := h m105 hm105
    refine jg_A (pc' := 131) rfl rfl (fun _ _ _ => rfl) ?_
    refine jg_A (pc' := 132) rfl rfl (fun _ _ _ => rfl) ?_
    refine jg_getI (pc' := 135) (bi := 9) rfl h0 (by decide) (Or.inl rfl) rfl rfl ?_
    refine jg_iflt (pc' := 138) rfl rfl (fun hc => ?_) (fun hc => ?_)
    · have h := jg_t h (show jg_wr (m105.1 a0 9) < 0 from hc)
      refine jg_A (pc' := 143) rfl rfl (fun _ _ _ => rfl) ?_
      refine jg_getI (pc' := 146) (bi := 7) rfl h0 (by decide) (Or.inl rfl) rfl rfl ?_
      refine jg_A (pc' := 147) rfl rfl (fun _ _ _ => rfl) ?_
      refine jg_getI (pc' := 150) (bi := 10) rfl h0 (by decide) (Or.inl rfl) rfl rfl ?_
      refine jg_isub (pc' := 151) rfl rfl ?_
      refine jg_A (pc' := 153) rfl rfl (fun _ _ _ => rfl) ?_
      refine jg_cle (pc' := 156) rfl rfl (fun hc => ?_) (fun hc => ?_)
      · have h := jg_t h (show jg_wr ((m105.1 a0 7) - (m105.1 a0 10)) ≤ 6 from hc)
        refine jg_A (pc' := 162) rfl rfl (fun _ _ _ => rfl) ?_
        refine jg_putI (pc' := 165) (bi := 8) rfl h0 (by decide) rfl rfl rfl rfl (fun m106 hm106 => ?_)
        have h := h m106 hm106
        refine jg_A (pc' := 166) rfl rfl (fun _ _ _ => rfl) ?_
        refine jg_getI (pc' := 169) (bi := 8) rfl h0 (by decide) (Or.inl rfl) rfl rfl ?_
        refine jg_A (pc' := 170) rfl rfl (fun _ _ _ => rfl) ?_
        refine jg_cne (pc' := 173) rfl rfl (fun hc => ?_) (fun hc => ?_)
        · have h := jg_t h (show jg_wr (m106.1 a0 8) = 2 from hc)
          refine jg_A (pc' := 174) rfl rfl (fun _ _ _ => rfl) ?_
          refine jg_A (pc' := 175) rfl rfl (fun _ _ _ => rfl) ?_
          refine jg_A (pc' := 176) rfl rfl (fun _ _ _ => rfl) ?_
          refine jg_getI (pc' := 179) (bi := 10) rfl h0 (by decide) (Or.inl rfl) rfl rfl ?_
          refine jg_A (pc' := 180) rfl rfl (fun _ _ _ => rfl) ?_
          refine jg_getI (pc' := 183) (bi := 7) rfl h0 (by decide) (Or.inl rfl) rfl rfl ?_
          refine jg_calX (M1 := mm_X12_lettersOf) (hy := 0) (pc' := 186) rfl jm_X12_lettersOf (by decide) rfl h0 (by decide) ⟨Nat.le_of_ble_eq_true rfl, rfl⟩ (Nat.le_of_ble_eq_true rfl) rfl h (jg_kI (fun z108 m107 h => ?_))
          refine jg_putI (pc' := 189) (bi := 9) rfl h0 (by decide) rfl rfl rfl rfl (fun m109 hm109 => ?_)
          have h := h m109 hm109
          refine jg_goto rfl ?_
          exact jg_vret rfl rfl h
        · have h := jg_f h (show ¬ (jg_wr (m106.1 a0 8) = 2) from hc)
          exact jg_vret rfl rfl h
      · have h := jg_f h (show ¬ (jg_wr ((m105.1 a0 7) - (m105.1 a0 10)) ≤ 6) from hc)
        refine jg_A (pc' := 158) rfl rfl (fun _ _ _ => rfl) ?_
        refine jg_goto rfl ?_
        refine jg_putI (pc' := 165) (bi := 8) rfl h0 (by decide) rfl rfl rfl rfl (fun m110 hm110 => ?_)
        have h := h m110 hm110
        refine jg_A (pc' := 166) rfl rfl (fun _ _ _ => rfl) ?_
        refine jg_getI (pc' := 169) (bi := 8) rfl h0 (by decide) (Or.inl rfl) rfl rfl ?_
        refine jg_A (pc' := 170) rfl rfl (fun _ _ _ => rfl) ?_
        refine jg_cne (pc' := 173) rfl rfl (fun hc => ?_) (fun hc => ?_)
        · have h := jg_t h (show jg_wr (m110.1 a0 8) = 2 from hc)
          refine jg_A (pc' := 174) rfl rfl (fun _ _ _ => rfl) ?_
          refine jg_A (pc' := 175) rfl rfl (fun _ _ _ => rfl) ?_
          refine jg_A (pc' := 176) rfl rfl (fun _ _ _ => rfl) ?_
          refine jg_getI (pc' := 179) (bi := 10) rfl h0 (by decide) (Or.inl rfl) rfl rfl ?_
          refine jg_A (pc' := 180) rfl rfl (fun _ _ _ => rfl) ?_
          refine jg_getI (pc' := 183) (bi := 7) rfl h0 (by decide) (Or.inl rfl) rfl rfl ?_
          refine jg_calX (M1 := mm_X12_lettersOf) (hy := 0) (pc' := 186) rfl jm_X12_lettersOf (by decide) rfl h0 (by decide) ⟨Nat.le_of_ble_eq_true rfl, rfl⟩ (Nat.le_of_ble_eq_true rfl) rfl h (jg_kI (fun z112 m111 h => ?_))
          refine jg_putI (pc' := 189) (bi := 9) rfl h0 (by decide) rfl rfl rfl rfl (fun m113 hm113 => ?_)
          have h := h m113 hm113
          refine jg_goto rfl ?_
          exact jg_vret rfl rfl h
        · have h := jg_f h (show ¬ (jg_wr (m110.1 a0 8) = 2) from hc)
          exact jg_vret rfl rfl h
    · have h := jg_f h (show ¬ (jg_wr (m105.1 a0 9) < 0) from hc)
      refine jg_A (pc' := 139) rfl rfl (fun _ _ _ => rfl) ?_
      refine jg_goto rfl ?_
      refine jg_putI (pc' := 165) (bi := 8) rfl h0 (by decide) rfl rfl rfl rfl (fun m114 hm114 => ?_)
      have h := h m114 hm114
      refine jg_A (pc' := 166) rfl rfl (fun _ _ _ => rfl) ?_
      refine jg_getI (pc' := 169) (bi := 8) rfl h0 (by decide) (Or.inl rfl) rfl rfl ?_
      refine jg_A (pc' := 170) rfl rfl (fun _ _ _ => rfl) ?_
      refine jg_cne (pc' := 173) rfl rfl (fun hc => ?_) (fun hc => ?_)
      · have h := jg_t h (show jg_wr (m114.1 a0 8) = 2 from hc)
        refine jg_A (pc' := 174) rfl rfl (fun _ _ _ => rfl) ?_
        refine jg_A (pc' := 175) rfl rfl (fun _ _ _ => rfl) ?_
        refine jg_A (pc' := 176) rfl rfl (fun _ _ _ => rfl) ?_
        refine jg_getI (pc' := 179) (bi := 10) rfl h0 (by decide) (Or.inl rfl) rfl rfl ?_
        refine jg_A (pc' := 180) rfl rfl (fun _ _ _ => rfl) ?_
        refine jg_getI (pc' := 183) (bi := 7) rfl h0 (by decide) (Or.inl rfl) rfl rfl ?_
        refine jg_calX (M1 := mm_X12_lettersOf) (hy := 0) (pc' := 186) rfl jm_X12_lettersOf (by decide) rfl h0 (by decide) ⟨Nat.le_of_ble_eq_true rfl, rfl⟩ (Nat.le_of_ble_eq_true rfl) rfl h (jg_kI (fun z116 m115 h => ?_))
        refine jg_putI (pc' := 189) (bi := 9) rfl h0 (by decide) rfl rfl rfl rfl (fun m117 hm117 => ?_)
        have h := h m117 hm117
        refine jg_goto rfl ?_
        exact jg_vret rfl rfl h
      · have h := jg_f h (show ¬ (jg_wr (m114.1 a0 8) = 2) from hc)
        exact jg_vret rfl rfl h
  · have h := jg_f h (show ¬ (jg_wr z102 = 0) from hc)
    refine jg_A (pc' := 102) rfl rfl (fun _ _ _ => rfl) ?_
    refine jg_A (pc' := 103) rfl rfl (fun _ _ _ => rfl) ?_
    refine jg_getI (pc' := 106) (bi := 7) rfl h0 (by decide) (Or.inl rfl) rfl rfl ?_
    refine jg_A (pc' := 107) rfl rfl (fun _ _ _ => rfl) ?_
    refine jg_iadd (pc' := 108) rfl rfl ?_
    refine jg_putI (pc' := 111) (bi := 7) rfl h0 (by decide) rfl rfl rfl rfl (fun m118 hm118 => ?_)
    have h := h m118 hm118
    refine jg_goto rfl ?_
    exact h
set_option maxRecDepth 100000 in
set_option maxHeartbeats 4000000 in
theorem jb_X12_signToken_0 {w : Nat} {a0 : Nat} {σ : jg_M} {Q : jg_M → Prop} (h0 : jg_sh a0 = (12, 0)) (h : ((0 : Int) ≤ jg_wr (σ.1 a0 7) ∧ jg_wr (σ.1 a0 7) < (700 : Int)) ∧ ∀ m101 : jg_M, m101 = jg_sI σ a0 9 (σ.1 (a0 + 1) (jg_wr (σ.1 a0 7))) → ∀ m102 : jg_M, m102 = jg_sI m101 a0 7 ((m101.1 a0 7) + 1) → (if jg_wr (m102.1 a0 9) = 60 then jg_GV w 0 mm_X12_signToken 50 [.ref a0, mj_U, mj_U, mj_U] m102 Q else (if jg_wr (m102.1 a0 9) = 62 then jg_GV w 0 mm_X12_signToken 50 [.ref a0, mj_U, mj_U, mj_U] m102 Q else (if jg_wr (m102.1 a0 9) = 61 then jg_GV w 0 mm_X12_signToken 50 [.ref a0, mj_U, mj_U, mj_U] m102 Q else (if jg_wr (m102.1 a0 9) = 59 then jg_GV w 0 mm_X12_signToken 270 [.ref a0, mj_U, mj_U, mj_U] m102 Q else (if jg_wr (m102.1 a0 9) = 40 then jg_GV w 0 mm_X12_signToken 270 [.ref a0, mj_U, mj_U, mj_U] m102 Q else (if jg_wr (m102.1 a0 9) = 41 then jg_GV w 0 mm_X12_signToken 270 [.ref a0, mj_U, mj_U, mj_U] m102 Q else (if jg_wr (m102.1 a0 9) = 43 then jg_GV w 0 mm_X12_signToken 270 [.ref a0, mj_U, mj_U, mj_U] m102 Q else (if jg_wr (m102.1 a0 9) = 45 then jg_GV w 0 mm_X12_signToken 270 [.ref a0, mj_U, mj_U, mj_U] m102 Q else (if jg_wr (m102.1 a0 9) = 42 then jg_GV w 0 mm_X12_signToken 270 [.ref a0, mj_U, mj_U, mj_U] m102 Q else (if jg_wr (m102.1 a0 9) = 47 then jg_GV w 0 mm_X12_signToken 270 [.ref a0, mj_U, mj_U, mj_U] m102 Q else (if jg_wr (m102.1 a0 9) = 37 then jg_GV w 0 mm_X12_signToken 270 [.ref a0, mj_U, mj_U, mj_U] m102 Q else jg_G w 0 mm_X12_signToken 275 [.ref a0, mj_U, mj_U, mj_U] [.int (.ofInt 0)] m102 (jg_QV Q))))))))))))) : jg_CV w 0 mm_X12_signToken [.ref a0] σ Q := by
  show jg_G w 0 mm_X12_signToken 0 [.ref a0, mj_U, mj_U, mj_U] [] σ (jg_QV Q)
  refine jg_A (pc' := 1) rfl rfl (fun _ _ _ => rfl) ?_
  refine jg_A (pc' := 2) rfl rfl (fun _ _ _ => rfl) ?_
  refine jg_getO (pc' := 5) (k := 1) rfl h0 (by decide) rfl rfl ?_
  refine jg_A (pc' := 6) rfl rfl (fun _ _ _ => rfl) ?_
  refine jg_getI (pc' := 9) (bi := 7) rfl h0 (by decide) (Or.inl rfl) rfl rfl ?_
  obtain ⟨hg, h⟩ := h
  refine jg_iald (pc' := 10) rfl (jg_sX12_0 h0) hg rfl ?_
  refine jg_putI (pc' := 13) (bi := 9) rfl h0 (by decide) rfl rfl rfl rfl (fun m101 hm101 => ?_)
  have h := h m101 hm101
  refine jg_A (pc' := 14) rfl rfl (fun _ _ _ => rfl) ?_
  refine jg_A (pc' := 15) rfl rfl (fun _ _ _ => rfl) ?_
  refine jg_getI (pc' := 18) (bi := 7) rfl h0 (by decide) (Or.inl rfl) rfl rfl ?_
  refine jg_A (pc' := 19) rfl rfl (fun _ _ _ => rfl) ?_
  refine jg_iadd (pc' := 20) rfl rfl ?_
  refine jg_putI (pc' := 23) (bi := 7) rfl h0 (by decide) rfl rfl rfl rfl (fun m102 hm102 => ?_)
  have h := h m102 hm102
  refine jg_A (pc' := 24) rfl rfl (fun _ _ _ => rfl) ?_
  refine jg_getI (pc' := 27) (bi := 9) rfl h0 (by decide) (Or.inl rfl) rfl rfl ?_
  refine jg_A (pc' := 29) rfl rfl (fun _ _ _ => rfl) ?_
  refine jg_ceq (pc' := 32) rfl rfl (fun hc => ?_) (fun hc => ?_)
  · have h := jg_t h (show jg_wr (m102.1 a0 9) = 60 from hc)
    exact h
  · have h := jg_f h (show ¬ (jg_wr (m102.1 a0 9) = 60) from hc)
    refine jg_A (pc' := 33) rfl rfl (fun _ _ _ => rfl) ?_
    refine jg_getI (pc' := 36) (bi := 9) rfl h0 (by decide) (Or.inl rfl) rfl rfl ?_
    refine jg_A (pc' := 38) rfl rfl (fun _ _ _ => rfl) ?_
    refine jg_ceq (pc' := 41) rfl rfl (fun hc => ?_) (fun hc => ?_)
    · have h := jg_t h (show jg_wr (m102.1 a0 9) = 62 from hc)
      exact h
    · have h := jg_f h (show ¬ (jg_wr (m102.1 a0 9) = 62) from hc)
      refine jg_A (pc' := 42) rfl rfl (fun _ _ _ => rfl) ?_
      refine jg_getI (pc' := 45) (bi := 9) rfl h0 (by decide) (Or.inl rfl) rfl rfl ?_
      refine jg_A (pc' := 47) rfl rfl (fun _ _ _ => rfl) ?_
      refine jg_cne (pc' := 50) rfl rfl (fun hc => ?_) (fun hc => ?_)
      · have h := jg_t h (show jg_wr (m102.1 a0 9) = 61 from hc)
        exact h
      · have h := jg_f h (show ¬ (jg_wr (m102.1 a0 9) = 61) from hc)
        refine jg_A (pc' := 199) rfl rfl (fun _ _ _ => rfl) ?_
        refine jg_getI (pc' := 202) (bi := 9) rfl h0 (by decide) (Or.inl rfl) rfl rfl ?_
        refine jg_A (pc' := 204) rfl rfl (fun _ _ _ => rfl) ?_
        refine jg_ceq (pc' := 207) rfl rfl (fun hc => ?_) (fun hc => ?_)
        · have h := jg_t h (show jg_wr (m102.1 a0 9) = 59 from hc)
          exact h
        · have h := jg_f h (show ¬ (jg_wr (m102.1 a0 9) = 59) from hc)
          refine jg_A (pc' := 208) rfl rfl (fun _ _ _ => rfl) ?_
          refine jg_getI (pc' := 211) (bi := 9) rfl h0 (by decide) (Or.inl rfl) rfl rfl ?_
          refine jg_A (pc' := 213) rfl rfl (fun _ _ _ => rfl) ?_
          refine jg_ceq (pc' := 216) rfl rfl (fun hc => ?_) (fun hc => ?_)
          · have h := jg_t h (show jg_wr (m102.1 a0 9) = 40 from hc)
            exact h
          · have h := jg_f h (show ¬ (jg_wr (m102.1 a0 9) = 40) from hc)
            refine jg_A (pc' := 217) rfl rfl (fun _ _ _ => rfl) ?_
            refine jg_getI (pc' := 220) (bi := 9) rfl h0 (by decide) (Or.inl rfl) rfl rfl ?_
            refine jg_A (pc' := 222) rfl rfl (fun _ _ _ => rfl) ?_
            refine jg_ceq (pc' := 225) rfl rfl (fun hc => ?_) (fun hc => ?_)
            · have h := jg_t h (show jg_wr (m102.1 a0 9) = 41 from hc)
              exact h
            · have h := jg_f h (show ¬ (jg_wr (m102.1 a0 9) = 41) from hc)
              refine jg_A (pc' := 226) rfl rfl (fun _ _ _ => rfl) ?_
              refine jg_getI (pc' := 229) (bi := 9) rfl h0 (by decide) (Or.inl rfl) rfl rfl ?_
              refine jg_A (pc' := 231) rfl rfl (fun _ _ _ => rfl) ?_
              refine jg_ceq (pc' := 234) rfl rfl (fun hc => ?_) (fun hc => ?_)
              · have h := jg_t h (show jg_wr (m102.1 a0 9) = 43 from hc)
                exact h
              · have h := jg_f h (show ¬ (jg_wr (m102.1 a0 9) = 43) from hc)
                refine jg_A (pc' := 235) rfl rfl (fun _ _ _ => rfl) ?_
                refine jg_getI (pc' := 238) (bi := 9) rfl h0 (by decide) (Or.inl rfl) rfl rfl ?_
                refine jg_A (pc' := 240) rfl rfl (fun _ _ _ => rfl) ?_
                refine jg_ceq (pc' := 243) rfl rfl (fun hc => ?_) (fun hc => ?_)
                · have h := jg_t h (show jg_wr (m102.1 a0 9) = 45 from hc)
                  exact h
                · have h := jg_f h (show ¬ (jg_wr (m102.1 a0 9) = 45) from hc)
                  refine jg_A (pc' := 244) rfl rfl (fun _ _ _ => rfl) ?_
                  refine jg_getI (pc' := 247) (bi := 9) rfl h0 (by decide) (Or.inl rfl) rfl rfl ?_
                  refine jg_A (pc' := 249) rfl rfl (fun _ _ _ => rfl) ?_
                  refine jg_ceq (pc' := 252) rfl rfl (fun hc => ?_) (fun hc => ?_)
                  · have h := jg_t h (show jg_wr (m102.1 a0 9) = 42 from hc)
                    exact h
                  · have h := jg_f h (show ¬ (jg_wr (m102.1 a0 9) = 42) from hc)
                    refine jg_A (pc' := 253) rfl rfl (fun _ _ _ => rfl) ?_
                    refine jg_getI (pc' := 256) (bi := 9) rfl h0 (by decide) (Or.inl rfl) rfl rfl ?_
                    refine jg_A (pc' := 258) rfl rfl (fun _ _ _ => rfl) ?_
                    refine jg_ceq (pc' := 261) rfl rfl (fun hc => ?_) (fun hc => ?_)
                    · have h := jg_t h (show jg_wr (m102.1 a0 9) = 47 from hc)
                      exact h
                    · have h := jg_f h (show ¬ (jg_wr (m102.1 a0 9) = 47) from hc)
                      refine jg_A (pc' := 262) rfl rfl (fun _ _ _ => rfl) ?_
                      refine jg_getI (pc' := 265) (bi := 9) rfl h0 (by decide) (Or.inl rfl) rfl rfl ?_
                      refine jg_A (pc' := 267) rfl rfl (fun _ _ _ => rfl) ?_
                      refine jg_cne (pc' := 270) rfl rfl (fun hc => ?_) (fun hc => ?_)
                      · have h := jg_t h (show jg_wr (m102.1 a0 9) = 37 from hc)
                        exact h
                      · have h := jg_f h (show ¬ (jg_wr (m102.1 a0 9) = 37) from hc)
                        refine jg_A (pc' := 275) rfl rfl (fun _ _ _ => rfl) ?_
                        exact h
set_option maxRecDepth 100000 in
set_option maxHeartbeats 4000000 in
theorem jb_X12_signToken_50 {w : Nat} {a0 : Nat} {u1 : Value} {u2 : Value} {u3 : Value} {σ : jg_M} {Q : jg_M → Prop} (h0 : jg_sh a0 = (12, 0)) (h : (if jg_wr (σ.1 a0 6) ≤ jg_wr (σ.1 a0 7) then jg_G w 0 mm_X12_signToken 74 [.ref a0, u1, u2, u3] [.int (.ofInt 0)] σ (jg_QV Q) else ((0 : Int) ≤ jg_wr (σ.1 a0 7) ∧ jg_wr (σ.1 a0 7) < (700 : Int)) ∧ jg_G w 0 mm_X12_signToken 74 [.ref a0, u1, u2, u3] [.int (.ofInt (σ.1 (a0 + 1) (jg_wr (σ.1 a0 7))))] σ (jg_QV Q))) : jg_GV w 0 mm_X12_signToken 50 [.ref a0, u1, u2, u3] σ Q := by
  show jg_G w 0 mm_X12_signToken 50 [.ref a0, u1, u2, u3] [] σ (jg_QV Q)
  refine jg_A (pc' := 51) rfl rfl (fun _ _ _ => rfl) ?_
  refine jg_getI (pc' := 54) (bi := 7) rfl h0 (by decide) (Or.inl rfl) rfl rfl ?_
  refine jg_A (pc' := 55) rfl rfl (fun _ _ _ => rfl) ?_
  refine jg_getI (pc' := 58) (bi := 6) rfl h0 (by decide) (Or.inl rfl) rfl rfl ?_
  refine jg_cge (pc' := 61) rfl rfl (fun hc => ?_) (fun hc => ?_)
  · have h := jg_t h (show jg_wr (σ.1 a0 6) ≤ jg_wr (σ.1 a0 7) from hc)
    refine jg_A (pc' := 74) rfl rfl (fun _ _ _ => rfl) ?_
    exact h
  · have h := jg_f h (show ¬ (jg_wr (σ.1 a0 6) ≤ jg_wr (σ.1 a0 7)) from hc)
    refine jg_A (pc' := 62) rfl rfl (fun _ _ _ => rfl) ?_
    refine jg_getO (pc' := 65) (k := 1) rfl h0 (by decide) rfl rfl ?_
    refine jg_A (pc' := 66) rfl rfl (fun _ _ _ => rfl) ?_
    refine jg_getI (pc' := 69) (bi := 7) rfl h0 (by decide) (Or.inl rfl) rfl rfl ?_
    obtain ⟨hg, h⟩ := h
    refine jg_iald (pc' := 70) rfl (jg_sX12_0 h0) hg rfl ?_
    refine jg_goto rfl ?_
    exact h
set_option maxRecDepth 100000 in
set_option maxHeartbeats 4000000 in
theorem jb_X12_signToken_270 {w : Nat} {a0 : Nat} {u1 : Value} {u2 : Value} {u3 : Value} {σ : jg_M} {Q : jg_M → Prop} (h0 : jg_sh a0 = (12, 0)) (h : jg_G w 0 mm_X12_signToken 275 [.ref a0, u1, u2, u3] [.int (.ofInt 1)] σ (jg_QV Q)) : jg_GV w 0 mm_X12_signToken 270 [.ref a0, u1, u2, u3] σ Q := by
  show jg_G w 0 mm_X12_signToken 270 [.ref a0, u1, u2, u3] [] σ (jg_QV Q)
  refine jg_A (pc' := 271) rfl rfl (fun _ _ _ => rfl) ?_
  refine jg_goto rfl ?_
  exact h
set_option maxRecDepth 100000 in
set_option maxHeartbeats 4000000 in
theorem jb_X12_signToken_275 {w : Nat} {a0 : Nat} {u1 : Value} {u2 : Value} {u3 : Value} {y0 : Int} {σ : jg_M} {Q : jg_M → Prop} (h0 : jg_sh a0 = (12, 0)) (h : (if jg_wr y0 = 0 then jg_G w 0 mm_X12_signToken 287 [.ref a0, .int (.ofInt y0), u2, u3] [.int (.ofInt 6), .ref a0] σ (jg_QV Q) else jg_G w 0 mm_X12_signToken 287 [.ref a0, .int (.ofInt y0), u2, u3] [.int (.ofInt 4), .ref a0] σ (jg_QV Q))) : jg_G w 0 mm_X12_signToken 275 [.ref a0, u1, u2, u3] [.int (.ofInt y0)] σ (jg_QV Q) := by
  show jg_G w 0 mm_X12_signToken 275 [.ref a0, u1, u2, u3] [.int (.ofInt y0)] σ (jg_QV Q)
  refine jg_A (pc' := 276) (ls' := [.ref a0, .int (.ofInt y0), u2, u3]) rfl rfl (fun _ _ _ => rfl) ?_
  refine jg_A (pc' := 277) rfl rfl (fun _ _ _ => rfl) ?_
  refine jg_A (pc' := 278) rfl rfl (fun _ _ _ => rfl) ?_
  refine jg_ifeq (pc' := 281) rfl rfl (fun hc => ?_) (fun hc => ?_)
  · have h := jg_t h (show jg_wr y0 = 0 from hc)
    refine jg_A (pc' := 287) rfl rfl (fun _ _ _ => rfl) ?_
    exact h
  · have h := jg_f h (show ¬ (jg_wr y0 = 0) from hc)
    refine jg_A (pc' := 282) rfl rfl (fun _ _ _ => rfl) ?_
    refine jg_goto rfl ?_
    exact h
set_option maxRecDepth 100000 in
set_option maxHeartbeats 4000000 in
theorem jb_X12_signToken_74 {w : Nat} {a0 : Nat} {u1 : Value} {u2 : Value} {u3 : Value} {y0 : Int} {σ : jg_M} {Q : jg_M → Prop} (h0 : jg_sh a0 = (12, 0)) (h : (if jg_wr (σ.1 a0 9) = 61 then jg_GV w 0 mm_X12_signToken 94 [.ref a0, .int (.ofInt y0), u2, u3] σ Q else (if jg_wr y0 = 61 then jg_G w 0 mm_X12_signToken 95 [.ref a0, .int (.ofInt y0), u2, u3] [.int (.ofInt 1)] σ (jg_QV Q) else jg_GV w 0 mm_X12_signToken 94 [.ref a0, .int (.ofInt y0), u2, u3] σ Q))) : jg_G w 0 mm_X12_signToken 74 [.ref a0, u1, u2, u3] [.int (.ofInt y0)] σ (jg_QV Q) := by
  show jg_G w 0 mm_X12_signToken 74 [.ref a0, u1, u2, u3] [.int (.ofInt y0)] σ (jg_QV Q)
  refine jg_A (pc' := 75) (ls' := [.ref a0, .int (.ofInt y0), u2, u3]) rfl rfl (fun _ _ _ => rfl) ?_
  refine jg_A (pc' := 76) rfl rfl (fun _ _ _ => rfl) ?_
  refine jg_getI (pc' := 79) (bi := 9) rfl h0 (by decide) (Or.inl rfl) rfl rfl ?_
  refine jg_A (pc' := 81) rfl rfl (fun _ _ _ => rfl) ?_
  refine jg_ceq (pc' := 84) rfl rfl (fun hc => ?_) (fun hc => ?_)
  · have h := jg_t h (show jg_wr (σ.1 a0 9) = 61 from hc)
    exact h
  · have h := jg_f h (show ¬ (jg_wr (σ.1 a0 9) = 61) from hc)
    refine jg_A (pc' := 85) rfl rfl (fun _ _ _ => rfl) ?_
    refine jg_A (pc' := 87) rfl rfl (fun _ _ _ => rfl) ?_
    refine jg_cne (pc' := 90) rfl rfl (fun hc => ?_) (fun hc => ?_)
    · have h := jg_t h (show jg_wr y0 = 61 from hc)
      refine jg_A (pc' := 91) rfl rfl (fun _ _ _ => rfl) ?_
      refine jg_goto rfl ?_
      exact h
    · have h := jg_f h (show ¬ (jg_wr y0 = 61) from hc)
      exact h
set_option maxRecDepth 100000 in
set_option maxHeartbeats 4000000 in
theorem jb_X12_signToken_287 {w : Nat} {u0 : Value} {u1 : Value} {u2 : Value} {u3 : Value} {y0 : Int} {b1 : Nat} {σ : jg_M} {Q : jg_M → Prop} (g1 : jg_sh b1 = (12, 0)) (h : ∀ m101 : jg_M, m101 = jg_sI σ b1 8 y0 → Q m101) : jg_G w 0 mm_X12_signToken 287 [u0, u1, u2, u3] [.int (.ofInt y0), .ref b1] σ (jg_QV Q) := by
  show jg_G w 0 mm_X12_signToken 287 [u0, u1, u2, u3] [.int (.ofInt y0), .ref b1] σ (jg_QV Q)
  refine jg_putI (pc' := 290) (bi := 8) rfl g1 (by decide) rfl rfl rfl rfl (fun m101 hm101 => ?_)
  have h := h m101 hm101
  exact jg_vret rfl rfl h
set_option maxRecDepth 100000 in
set_option maxHeartbeats 4000000 in
theorem jb_X12_signToken_94 {w : Nat} {a0 : Nat} {x1 : Int} {u2 : Value} {u3 : Value} {σ : jg_M} {Q : jg_M → Prop} (h0 : jg_sh a0 = (12, 0)) (h : jg_G w 0 mm_X12_signToken 95 [.ref a0, .int (.ofInt x1), u2, u3] [.int (.ofInt 0)] σ (jg_QV Q)) : jg_GV w 0 mm_X12_signToken 94 [.ref a0, .int (.ofInt x1), u2, u3] σ Q := by
  show jg_G w 0 mm_X12_signToken 94 [.ref a0, .int (.ofInt x1), u2, u3] [] σ (jg_QV Q)
  refine jg_A (pc' := 95) rfl rfl (fun _ _ _ => rfl) ?_
  exact h
set_option maxRecDepth 100000 in
set_option maxHeartbeats 4000000 in
theorem jb_X12_signToken_95 {w : Nat} {a0 : Nat} {x1 : Int} {u2 : Value} {u3 : Value} {y0 : Int} {σ : jg_M} {Q : jg_M → Prop} (h0 : jg_sh a0 = (12, 0)) (h : (if jg_wr (σ.1 a0 9) = 60 then (if jg_wr x1 = 62 then jg_G w 0 mm_X12_signToken 116 [.ref a0, .int (.ofInt x1), .int (.ofInt y0), u3] [.int (.ofInt 1)] σ (jg_QV Q) else jg_GV w 0 mm_X12_signToken 115 [.ref a0, .int (.ofInt x1), .int (.ofInt y0), u3] σ Q) else jg_GV w 0 mm_X12_signToken 115 [.ref a0, .int (.ofInt x1), .int (.ofInt y0), u3] σ Q)) : jg_G w 0 mm_X12_signToken 95 [.ref a0, .int (.ofInt x1), u2, u3] [.int (.ofInt y0)] σ (jg_QV Q) := by
  show jg_G w 0 mm_X12_signToken 95 [.ref a0, .int (.ofInt x1), u2, u3] [.int (.ofInt y0)] σ (jg_QV Q)
  refine jg_A (pc' := 96) (ls' := [.ref a0, .int (.ofInt x1), .int (.ofInt y0), u3]) rfl rfl (fun _ _ _ => rfl) ?_
  refine jg_A (pc' := 97) rfl rfl (fun _ _ _ => rfl) ?_
  refine jg_getI (pc' := 100) (bi := 9) rfl h0 (by decide) (Or.inl rfl) rfl rfl ?_
  refine jg_A (pc' := 102) rfl rfl (fun _ _ _ => rfl) ?_
  refine jg_cne (pc' := 105) rfl rfl (fun hc => ?_) (fun hc => ?_)
  · have h := jg_t h (show jg_wr (σ.1 a0 9) = 60 from hc)
    refine jg_A (pc' := 106) rfl rfl (fun _ _ _ => rfl) ?_
    refine jg_A (pc' := 108) rfl rfl (fun _ _ _ => rfl) ?_
    refine jg_cne (pc' := 111) rfl rfl (fun hc => ?_) (fun hc => ?_)
    · have h := jg_t h (show jg_wr x1 = 62 from hc)
      refine jg_A (pc' := 112) rfl rfl (fun _ _ _ => rfl) ?_
      refine jg_goto rfl ?_
      exact h
    · have h := jg_f h (show ¬ (jg_wr x1 = 62) from hc)
      exact h
  · have h := jg_f h (show ¬ (jg_wr (σ.1 a0 9) = 60) from hc)
    exact h
set_option maxRecDepth 100000 in
set_option maxHeartbeats 4000000 in
theorem jb_X12_signToken_116 {w : Nat} {a0 : Nat} {u1 : Value} {x2 : Int} {u3 : Value} {y0 : Int} {σ : jg_M} {Q : jg_M → Prop} (h0 : jg_sh a0 = (12, 0)) (h : (if jg_wr x2 = 0 then (if jg_wr y0 = 0 then jg_GV w 0 mm_X12_signToken 135 [.ref a0, u1, .int (.ofInt x2), .int (.ofInt y0)] σ Q else jg_GV w 0 mm_X12_signToken 125 [.ref a0, u1, .int (.ofInt x2), .int (.ofInt y0)] σ Q) else jg_GV w 0 mm_X12_signToken 125 [.ref a0, u1, .int (.ofInt x2), .int (.ofInt y0)] σ Q)) : jg_G w 0 mm_X12_signToken 116 [.ref a0, u1, .int (.ofInt x2), u3] [.int (.ofInt y0)] σ (jg_QV Q) := by
  show jg_G w 0 mm_X12_signToken 116 [.ref a0, u1, .int (.ofInt x2), u3] [.int (.ofInt y0)] σ (jg_QV Q)
  refine jg_A (pc' := 117) (ls' := [.ref a0, u1, .int (.ofInt x2), .int (.ofInt y0)]) rfl rfl (fun _ _ _ => rfl) ?_
  refine jg_A (pc' := 118) rfl rfl (fun _ _ _ => rfl) ?_
  refine jg_ifne (pc' := 121) rfl rfl (fun hc => ?_) (fun hc => ?_)
  · have h := jg_t h (show jg_wr x2 = 0 from hc)
    refine jg_A (pc' := 122) rfl rfl (fun _ _ _ => rfl) ?_
    refine jg_ifeq (pc' := 125) rfl rfl (fun hc => ?_) (fun hc => ?_)
    · have h := jg_t h (show jg_wr y0 = 0 from hc)
      exact h
    · have h := jg_f h (show ¬ (jg_wr y0 = 0) from hc)
      exact h
  · have h := jg_f h (show ¬ (jg_wr x2 = 0) from hc)
    exact h
set_option maxRecDepth 100000 in
set_option maxHeartbeats 4000000 in
theorem jb_X12_signToken_115 {w : Nat} {a0 : Nat} {u1 : Value} {x2 : Int} {u3 : Value} {σ : jg_M} {Q : jg_M → Prop} (h0 : jg_sh a0 = (12, 0)) (h : jg_G w 0 mm_X12_signToken 116 [.ref a0, u1, .int (.ofInt x2), u3] [.int (.ofInt 0)] σ (jg_QV Q)) : jg_GV w 0 mm_X12_signToken 115 [.ref a0, u1, .int (.ofInt x2), u3] σ Q := by
  show jg_G w 0 mm_X12_signToken 115 [.ref a0, u1, .int (.ofInt x2), u3] [] σ (jg_QV Q)
  refine jg_A (pc' := 116) rfl rfl (fun _ _ _ => rfl) ?_
  exact h
set_option maxRecDepth 100000 in
set_option maxHeartbeats 4000000 in
theorem jb_X12_signToken_135 {w : Nat} {a0 : Nat} {u1 : Value} {x2 : Int} {x3 : Int} {σ : jg_M} {Q : jg_M → Prop} (h0 : jg_sh a0 = (12, 0)) (h : ∀ m101 : jg_M, m101 = jg_sI σ a0 8 5 → (if jg_wr (m101.1 a0 9) = 61 then jg_G w 0 mm_X12_signToken 192 [.ref a0, u1, .int (.ofInt x2), .int (.ofInt x3)] [.int (.ofInt 2), .ref a0] m101 (jg_QV Q) else (if jg_wr (m101.1 a0 9) = 60 then (if jg_wr x2 = 0 then (if jg_wr x3 = 0 then jg_G w 0 mm_X12_signToken 192 [.ref a0, u1, .int (.ofInt x2), .int (.ofInt x3)] [.int (.ofInt 0), .ref a0] m101 (jg_QV Q) else jg_G w 0 mm_X12_signToken 192 [.ref a0, u1, .int (.ofInt x2), .int (.ofInt x3)] [.int (.ofInt 3), .ref a0] m101 (jg_QV Q)) else jg_G w 0 mm_X12_signToken 192 [.ref a0, u1, .int (.ofInt x2), .int (.ofInt x3)] [.int (.ofInt 1), .ref a0] m101 (jg_QV Q)) else (if jg_wr x2 = 0 then jg_G w 0 mm_X12_signToken 192 [.ref a0, u1, .int (.ofInt x2), .int (.ofInt x3)] [.int (.ofInt 5), .ref a0] m101 (jg_QV Q) else jg_G w 0 mm_X12_signToken 192 [.ref a0, u1, .int (.ofInt x2), .int (.ofInt x3)] [.int (.ofInt 4), .ref a0] m101 (jg_QV Q))))) : jg_GV w 0 mm_X12_signToken 135 [.ref a0, u1, .int (.ofInt x2), .int (.ofInt x3)] σ Q := by
  show jg_G w 0 mm_X12_signToken 135 [.ref a0, u1, .int (.ofInt x2), .int (.ofInt x3)] [] σ (jg_QV Q)
  refine jg_A (pc' := 136) rfl rfl (fun _ _ _ => rfl) ?_
  refine jg_A (pc' := 137) rfl rfl (fun _ _ _ => rfl) ?_
  refine jg_putI (pc' := 140) (bi := 8) rfl h0 (by decide) rfl rfl rfl rfl (fun m101 hm101 => ?_)
  have h := h m101 hm101
  refine jg_A (pc' := 141) rfl rfl (fun _ _ _ => rfl) ?_
  refine jg_A (pc' := 142) rfl rfl (fun _ _ _ => rfl) ?_
  refine jg_getI (pc' := 145) (bi := 9) rfl h0 (by decide) (Or.inl rfl) rfl rfl ?_
  refine jg_A (pc' := 147) rfl rfl (fun _ _ _ => rfl) ?_
  refine jg_cne (pc' := 150) rfl rfl (fun hc => ?_) (fun hc => ?_)
  · have h := jg_t h (show jg_wr (m101.1 a0 9) = 61 from hc)
    refine jg_A (pc' := 151) rfl rfl (fun _ _ _ => rfl) ?_
    refine jg_goto rfl ?_
    exact h
  · have h := jg_f h (show ¬ (jg_wr (m101.1 a0 9) = 61) from hc)
    refine jg_A (pc' := 155) rfl rfl (fun _ _ _ => rfl) ?_
    refine jg_getI (pc' := 158) (bi := 9) rfl h0 (by decide) (Or.inl rfl) rfl rfl ?_
    refine jg_A (pc' := 160) rfl rfl (fun _ _ _ => rfl) ?_
    refine jg_cne (pc' := 163) rfl rfl (fun hc => ?_) (fun hc => ?_)
    · have h := jg_t h (show jg_wr (m101.1 a0 9) = 60 from hc)
      refine jg_A (pc' := 164) rfl rfl (fun _ _ _ => rfl) ?_
      refine jg_ifeq (pc' := 167) rfl rfl (fun hc => ?_) (fun hc => ?_)
      · have h := jg_t h (show jg_wr x2 = 0 from hc)
        refine jg_A (pc' := 172) rfl rfl (fun _ _ _ => rfl) ?_
        refine jg_ifeq (pc' := 175) rfl rfl (fun hc => ?_) (fun hc => ?_)
        · have h := jg_t h (show jg_wr x3 = 0 from hc)
          refine jg_A (pc' := 180) rfl rfl (fun _ _ _ => rfl) ?_
          refine jg_goto rfl ?_
          exact h
        · have h := jg_f h (show ¬ (jg_wr x3 = 0) from hc)
          refine jg_A (pc' := 176) rfl rfl (fun _ _ _ => rfl) ?_
          refine jg_goto rfl ?_
          exact h
      · have h := jg_f h (show ¬ (jg_wr x2 = 0) from hc)
        refine jg_A (pc' := 168) rfl rfl (fun _ _ _ => rfl) ?_
        refine jg_goto rfl ?_
        exact h
    · have h := jg_f h (show ¬ (jg_wr (m101.1 a0 9) = 60) from hc)
      refine jg_A (pc' := 184) rfl rfl (fun _ _ _ => rfl) ?_
      refine jg_ifeq (pc' := 187) rfl rfl (fun hc => ?_) (fun hc => ?_)
      · have h := jg_t h (show jg_wr x2 = 0 from hc)
        refine jg_A (pc' := 192) rfl rfl (fun _ _ _ => rfl) ?_
        exact h
      · have h := jg_f h (show ¬ (jg_wr x2 = 0) from hc)
        refine jg_A (pc' := 188) rfl rfl (fun _ _ _ => rfl) ?_
        refine jg_goto rfl ?_
        exact h
set_option maxRecDepth 100000 in
set_option maxHeartbeats 4000000 in
theorem jb_X12_signToken_125 {w : Nat} {a0 : Nat} {u1 : Value} {x2 : Int} {x3 : Int} {σ : jg_M} {Q : jg_M → Prop} (h0 : jg_sh a0 = (12, 0)) (h : ∀ m101 : jg_M, m101 = jg_sI σ a0 7 ((σ.1 a0 7) + 1) → jg_GV w 0 mm_X12_signToken 135 [.ref a0, u1, .int (.ofInt x2), .int (.ofInt x3)] m101 Q) : jg_GV w 0 mm_X12_signToken 125 [.ref a0, u1, .int (.ofInt x2), .int (.ofInt x3)] σ Q := by
  show jg_G w 0 mm_X12_signToken 125 [.ref a0, u1, .int (.ofInt x2), .int (.ofInt x3)] [] σ (jg_QV Q)
  refine jg_A (pc' := 126) rfl rfl (fun _ _ _ => rfl) ?_
  refine jg_A (pc' := 127) rfl rfl (fun _ _ _ => rfl) ?_
  refine jg_getI (pc' := 130) (bi := 7) rfl h0 (by decide) (Or.inl rfl) rfl rfl ?_
  refine jg_A (pc' := 131) rfl rfl (fun _ _ _ => rfl) ?_
  refine jg_iadd (pc' := 132) rfl rfl ?_
  refine jg_putI (pc' := 135) (bi := 7) rfl h0 (by decide) rfl rfl rfl rfl (fun m101 hm101 => ?_)
  have h := h m101 hm101
  exact h
set_option maxRecDepth 100000 in
set_option maxHeartbeats 4000000 in
theorem jb_X12_signToken_192 {w : Nat} {u0 : Value} {u1 : Value} {u2 : Value} {u3 : Value} {y0 : Int} {b1 : Nat} {σ : jg_M} {Q : jg_M → Prop} (g1 : jg_sh b1 = (12, 0)) (h : ∀ m101 : jg_M, m101 = jg_sI σ b1 9 y0 → Q m101) : jg_G w 0 mm_X12_signToken 192 [u0, u1, u2, u3] [.int (.ofInt y0), .ref b1] σ (jg_QV Q) := by
  show jg_G w 0 mm_X12_signToken 192 [u0, u1, u2, u3] [.int (.ofInt y0), .ref b1] σ (jg_QV Q)
  refine jg_putI (pc' := 195) (bi := 9) rfl g1 (by decide) rfl rfl rfl rfl (fun m101 hm101 => ?_)
  have h := h m101 hm101
  refine jg_goto rfl ?_
  exact jg_vret rfl rfl h
set_option maxRecDepth 100000 in
set_option maxHeartbeats 4000000 in
theorem jb_X12_lettersOf_0 {w : Nat} {a0 : Nat} {x1 : Int} {x2 : Int} {σ : jg_M} {Q : Int → jg_M → Prop} (h0 : jg_sh a0 = (12, 0)) (h : jg_GI w 0 mm_X12_lettersOf 5 [.ref a0, .int (.ofInt x1), .int (.ofInt x2), .int (.ofInt 0), .int (.ofInt x1)] σ Q) : jg_CI w 0 mm_X12_lettersOf [.ref a0, .int (.ofInt x1), .int (.ofInt x2)] σ Q := by
  show jg_G w 0 mm_X12_lettersOf 0 [.ref a0, .int (.ofInt x1), .int (.ofInt x2), mj_U, mj_U] [] σ (jg_QI Q)
  refine jg_A (pc' := 1) rfl rfl (fun _ _ _ => rfl) ?_
  refine jg_A (pc' := 2) (ls' := [.ref a0, .int (.ofInt x1), .int (.ofInt x2), .int (.ofInt 0), mj_U]) rfl rfl (fun _ _ _ => rfl) ?_
  refine jg_A (pc' := 3) rfl rfl (fun _ _ _ => rfl) ?_
  refine jg_A (pc' := 5) (ls' := [.ref a0, .int (.ofInt x1), .int (.ofInt x2), .int (.ofInt 0), .int (.ofInt x1)]) rfl rfl (fun _ _ _ => rfl) ?_
  exact h
set_option maxRecDepth 100000 in
set_option maxHeartbeats 4000000 in
theorem jb_X12_lettersOf_5 {w : Nat} {a0 : Nat} {x1 : Int} {x2 : Int} {x3 : Int} {x4 : Int} {σ : jg_M} {Q : Int → jg_M → Prop} (h0 : jg_sh a0 = (12, 0)) (h : (if jg_wr (x1 + 6) ≤ jg_wr x4 then Q x3 σ else (if jg_wr x2 ≤ jg_wr x4 then ∀ t101 : Int, t101 = (jg_or (jg_shl x3 5) 0) → jg_GI w 0 mm_X12_lettersOf 5 [.ref a0, .int (.ofInt x1), .int (.ofInt x2), .int (.ofInt t101), .int (.ofInt (x4 + 1))] σ Q else ((0 : Int) ≤ jg_wr x4 ∧ jg_wr x4 < (700 : Int)) ∧ ∀ t102 : Int, t102 = (jg_or (jg_shl x3 5) ((σ.1 (a0 + 1) (jg_wr x4)) - 96)) → jg_GI w 0 mm_X12_lettersOf 5 [.ref a0, .int (.ofInt x1), .int (.ofInt x2), .int (.ofInt t102), .int (.ofInt (x4 + 1))] σ Q))) : jg_GI w 0 mm_X12_lettersOf 5 [.ref a0, .int (.ofInt x1), .int (.ofInt x2), .int (.ofInt x3), .int (.ofInt x4)] σ Q := by
  show jg_G w 0 mm_X12_lettersOf 5 [.ref a0, .int (.ofInt x1), .int (.ofInt x2), .int (.ofInt x3), .int (.ofInt x4)] [] σ (jg_QI Q)
  refine jg_A (pc' := 7) rfl rfl (fun _ _ _ => rfl) ?_
  refine jg_A (pc' := 8) rfl rfl (fun _ _ _ => rfl) ?_
  refine jg_A (pc' := 10) rfl rfl (fun _ _ _ => rfl) ?_
  refine jg_iadd (pc' := 11) rfl rfl ?_
  refine jg_cge (pc' := 14) rfl rfl (fun hc => ?_) (fun hc => ?_)
  · have h := jg_t h (show jg_wr (x1 + 6) ≤ jg_wr x4 from hc)
    refine jg_A (pc' := 46) rfl rfl (fun _ _ _ => rfl) ?_
    exact jg_iret rfl rfl h
  · have h := jg_f h (show ¬ (jg_wr (x1 + 6) ≤ jg_wr x4) from hc)
    refine jg_A (pc' := 15) rfl rfl (fun _ _ _ => rfl) ?_
    refine jg_A (pc' := 16) rfl rfl (fun _ _ _ => rfl) ?_
    refine jg_ishl (pc' := 17) rfl rfl ?_
    refine jg_A (pc' := 19) rfl rfl (fun _ _ _ => rfl) ?_
    refine jg_A (pc' := 20) rfl rfl (fun _ _ _ => rfl) ?_
    refine jg_cge (pc' := 23) rfl rfl (fun hc => ?_) (fun hc => ?_)
    · have h := jg_t h (show jg_wr x2 ≤ jg_wr x4 from hc)
      refine jg_A (pc' := 37) rfl rfl (fun _ _ _ => rfl) ?_
      refine jg_ior (pc' := 38) rfl rfl ?_
      refine jg_nm (F := fun t101 => jg_G w 0 mm_X12_lettersOf 38 [.ref a0, .int (.ofInt x1), .int (.ofInt x2), .int (.ofInt x3), .int (.ofInt x4)] [.int (.ofInt t101)] σ (jg_QI Q)) (jg_or (jg_shl x3 5) 0) (fun t101 ht101 => ?_)
      have h := h t101 ht101
      refine jg_A (pc' := 39) (ls' := [.ref a0, .int (.ofInt x1), .int (.ofInt x2), .int (.ofInt t101), .int (.ofInt x4)]) rfl rfl (fun _ _ _ => rfl) ?_
      refine jg_iinc (pc' := 42) (ls' := [.ref a0, .int (.ofInt x1), .int (.ofInt x2), .int (.ofInt t101), .int (.ofInt (x4 + 1))]) rfl rfl rfl rfl ?_
      refine jg_goto rfl ?_
      exact h
    · have h := jg_f h (show ¬ (jg_wr x2 ≤ jg_wr x4) from hc)
      refine jg_A (pc' := 24) rfl rfl (fun _ _ _ => rfl) ?_
      refine jg_getO (pc' := 27) (k := 1) rfl h0 (by decide) rfl rfl ?_
      refine jg_A (pc' := 29) rfl rfl (fun _ _ _ => rfl) ?_
      obtain ⟨hg, h⟩ := h
      refine jg_iald (pc' := 30) rfl (jg_sX12_0 h0) hg rfl ?_
      refine jg_A (pc' := 32) rfl rfl (fun _ _ _ => rfl) ?_
      refine jg_isub (pc' := 33) rfl rfl ?_
      refine jg_goto rfl ?_
      refine jg_ior (pc' := 38) rfl rfl ?_
      refine jg_nm (F := fun t102 => jg_G w 0 mm_X12_lettersOf 38 [.ref a0, .int (.ofInt x1), .int (.ofInt x2), .int (.ofInt x3), .int (.ofInt x4)] [.int (.ofInt t102)] σ (jg_QI Q)) (jg_or (jg_shl x3 5) ((σ.1 (a0 + 1) (jg_wr x4)) - 96)) (fun t102 ht102 => ?_)
      have h := h t102 ht102
      refine jg_A (pc' := 39) (ls' := [.ref a0, .int (.ofInt x1), .int (.ofInt x2), .int (.ofInt t102), .int (.ofInt x4)]) rfl rfl (fun _ _ _ => rfl) ?_
      refine jg_iinc (pc' := 42) (ls' := [.ref a0, .int (.ofInt x1), .int (.ofInt x2), .int (.ofInt t102), .int (.ofInt (x4 + 1))]) rfl rfl rfl rfl ?_
      refine jg_goto rfl ?_
      exact h
set_option maxRecDepth 100000 in
set_option maxHeartbeats 4000000 in
theorem jb_X12_isSign_0 {w : Nat} {a0 : Nat} {x1 : Int} {σ : jg_M} {Q : Int → jg_M → Prop} (h0 : jg_sh a0 = (12, 0)) (h : (if jg_wr (σ.1 a0 8) = 4 then (if jg_wr (σ.1 a0 9) = jg_wr x1 then Q 1 σ else Q 0 σ) else Q 0 σ)) : jg_CI w 0 mm_X12_isSign [.ref a0, .int (.ofInt x1)] σ Q := by
  show jg_G w 0 mm_X12_isSign 0 [.ref a0, .int (.ofInt x1)] [] σ (jg_QI Q)
  refine jg_A (pc' := 1) rfl rfl (fun _ _ _ => rfl) ?_
  refine jg_getI (pc' := 4) (bi := 8) rfl h0 (by decide) (Or.inl rfl) rfl rfl ?_
  refine jg_A (pc' := 5) rfl rfl (fun _ _ _ => rfl) ?_
  refine jg_cne (pc' := 8) rfl rfl (fun hc => ?_) (fun hc => ?_)
  · have h := jg_t h (show jg_wr (σ.1 a0 8) = 4 from hc)
    refine jg_A (pc' := 9) rfl rfl (fun _ _ _ => rfl) ?_
    refine jg_getI (pc' := 12) (bi := 9) rfl h0 (by decide) (Or.inl rfl) rfl rfl ?_
    refine jg_A (pc' := 13) rfl rfl (fun _ _ _ => rfl) ?_
    refine jg_cne (pc' := 16) rfl rfl (fun hc => ?_) (fun hc => ?_)
    · have h := jg_t h (show jg_wr (σ.1 a0 9) = jg_wr x1 from hc)
      refine jg_A (pc' := 17) rfl rfl (fun _ _ _ => rfl) ?_
      refine jg_goto rfl ?_
      exact jg_zret rfl rfl (by decide) h
    · have h := jg_f h (show ¬ (jg_wr (σ.1 a0 9) = jg_wr x1) from hc)
      refine jg_A (pc' := 21) rfl rfl (fun _ _ _ => rfl) ?_
      exact jg_zret rfl rfl (by decide) h
  · have h := jg_f h (show ¬ (jg_wr (σ.1 a0 8) = 4) from hc)
    refine jg_A (pc' := 21) rfl rfl (fun _ _ _ => rfl) ?_
    exact jg_zret rfl rfl (by decide) h
set_option maxRecDepth 100000 in
set_option maxHeartbeats 4000000 in
theorem jb_X12_number_0 {w : Nat} {a0 : Nat} {x1 : Int} {x2 : Int} {σ : jg_M} {Q : Int → jg_M → Prop} (h0 : jg_sh a0 = (12, 0)) (h : (if jg_wr (σ.1 a0 8) = 3 then jg_CI w 0 mm_X12_isIn [.int (.ofInt (σ.1 a0 9)), .int (.ofInt x1), .int (.ofInt x2)] σ (fun (z102 : Int) (m101 : jg_M) => (if jg_wr z102 = 0 then jg_CI w 0 mm_X12_wrong [.ref a0, .int (.ofInt 2)] m101 (fun (z104 : Int) (m103 : jg_M) => ((jg_wr z104 = 0 ∨ jg_wr z104 = 1) ∧ Q z104 m103)) else ∀ m105 : jg_M, m105 = jg_sI m101 a0 11 (m101.1 a0 9) → jg_CV w 1 mm_X12_nextToken [.ref a0] m105 (fun (m106 : jg_M) => Q 1 m106))) else jg_CI w 0 mm_X12_wrong [.ref a0, .int (.ofInt 1)] σ (fun (z108 : Int) (m107 : jg_M) => ((jg_wr z108 = 0 ∨ jg_wr z108 = 1) ∧ Q z108 m107)))) : jg_CI w 2 mm_X12_number [.ref a0, .int (.ofInt x1), .int (.ofInt x2)] σ Q := by
  show jg_G w 2 mm_X12_number 0 [.ref a0, .int (.ofInt x1), .int (.ofInt x2)] [] σ (jg_QI Q)
  refine jg_A (pc' := 1) rfl rfl (fun _ _ _ => rfl) ?_
  refine jg_getI (pc' := 4) (bi := 8) rfl h0 (by decide) (Or.inl rfl) rfl rfl ?_
  refine jg_A (pc' := 5) rfl rfl (fun _ _ _ => rfl) ?_
  refine jg_ceq (pc' := 8) rfl rfl (fun hc => ?_) (fun hc => ?_)
  · have h := jg_t h (show jg_wr (σ.1 a0 8) = 3 from hc)
    refine jg_A (pc' := 15) rfl rfl (fun _ _ _ => rfl) ?_
    refine jg_getI (pc' := 18) (bi := 9) rfl h0 (by decide) (Or.inl rfl) rfl rfl ?_
    refine jg_A (pc' := 19) rfl rfl (fun _ _ _ => rfl) ?_
    refine jg_A (pc' := 20) rfl rfl (fun _ _ _ => rfl) ?_
    refine jg_calS (M1 := mm_X12_isIn) (hy := 0) (pc' := 23) rfl (Or.inl rfl) jm_X12_isIn (by decide) rfl ⟨Nat.le_of_ble_eq_true rfl, rfl⟩ (Nat.le_of_ble_eq_true rfl) rfl h (jg_kI (fun z102 m101 h => ?_))
    refine jg_ifne (pc' := 26) rfl rfl (fun hc => ?_) (fun hc => ?_)
    · have h := jg_t h (show jg_wr z102 = 0 from hc)
      refine jg_A (pc' := 27) rfl rfl (fun _ _ _ => rfl) ?_
      refine jg_A (pc' := 28) rfl rfl (fun _ _ _ => rfl) ?_
      refine jg_calX (M1 := mm_X12_wrong) (hy := 0) (pc' := 31) rfl jm_X12_wrong (by decide) rfl h0 (by decide) ⟨Nat.le_of_ble_eq_true rfl, rfl⟩ (Nat.le_of_ble_eq_true rfl) rfl h (jg_kI (fun z104 m103 h => ?_))
      exact jg_zret rfl rfl h.1 h.2
    · have h := jg_f h (show ¬ (jg_wr z102 = 0) from hc)
      refine jg_A (pc' := 33) rfl rfl (fun _ _ _ => rfl) ?_
      refine jg_A (pc' := 34) rfl rfl (fun _ _ _ => rfl) ?_
      refine jg_getI (pc' := 37) (bi := 9) rfl h0 (by decide) (Or.inl rfl) rfl rfl ?_
      refine jg_putI (pc' := 40) (bi := 11) rfl h0 (by decide) rfl rfl rfl rfl (fun m105 hm105 => ?_)
      have h := h m105 hm105
      refine jg_A (pc' := 41) rfl rfl (fun _ _ _ => rfl) ?_
      refine jg_calX (M1 := mm_X12_nextToken) (hy := 1) (pc' := 44) rfl jm_X12_nextToken (by decide) rfl h0 (by decide) ⟨Nat.le_of_ble_eq_true rfl, rfl⟩ (Nat.le_of_ble_eq_true rfl) rfl h (jg_kV (fun m106 h => ?_))
      refine jg_A (pc' := 45) rfl rfl (fun _ _ _ => rfl) ?_
      exact jg_zret rfl rfl (by decide) h
  · have h := jg_f h (show ¬ (jg_wr (σ.1 a0 8) = 3) from hc)
    refine jg_A (pc' := 9) rfl rfl (fun _ _ _ => rfl) ?_
    refine jg_A (pc' := 10) rfl rfl (fun _ _ _ => rfl) ?_
    refine jg_calX (M1 := mm_X12_wrong) (hy := 0) (pc' := 13) rfl jm_X12_wrong (by decide) rfl h0 (by decide) ⟨Nat.le_of_ble_eq_true rfl, rfl⟩ (Nat.le_of_ble_eq_true rfl) rfl h (jg_kI (fun z108 m107 h => ?_))
    exact jg_zret rfl rfl h.1 h.2
set_option maxRecDepth 100000 in
set_option maxHeartbeats 4000000 in
theorem jb_X12_plain_0 {w : Nat} {a0 : Nat} {σ : jg_M} {Q : jg_M → Prop} (h0 : jg_sh a0 = (12, 0)) (h : ∀ m101 : jg_M, m101 = jg_sI σ (a0 + 3) 1 0 → ∀ m102 : jg_M, m102 = jg_sI m101 (a0 + 4) 1 0 → ∀ m103 : jg_M, m103 = jg_sI m102 (a0 + 5) 1 0 → jg_GV w 0 mm_X12_plain 24 [.ref a0, .int (.ofInt 7)] m103 Q) : jg_CV w 0 mm_X12_plain [.ref a0] σ Q := by
  show jg_G w 0 mm_X12_plain 0 [.ref a0, mj_U] [] σ (jg_QV Q)
  refine jg_A (pc' := 1) rfl rfl (fun _ _ _ => rfl) ?_
  refine jg_getO (pc' := 4) (k := 3) rfl h0 (by decide) rfl rfl ?_
  refine jg_A (pc' := 5) rfl rfl (fun _ _ _ => rfl) ?_
  refine jg_A (pc' := 6) rfl rfl (fun _ _ _ => rfl) ?_
  refine jg_iastK (pc' := 7) (xi := 1) rfl (jg_sX12_12 h0) (by decide) (by decide) rfl (fun m101 hm101 => ?_)
  have h := h m101 hm101
  refine jg_A (pc' := 8) rfl rfl (fun _ _ _ => rfl) ?_
  refine jg_getO (pc' := 11) (k := 4) rfl h0 (by decide) rfl rfl ?_
  refine jg_A (pc' := 12) rfl rfl (fun _ _ _ => rfl) ?_
  refine jg_A (pc' := 13) rfl rfl (fun _ _ _ => rfl) ?_
  refine jg_iastK (pc' := 14) (xi := 1) rfl (jg_sX12_13 h0) (by decide) (by decide) rfl (fun m102 hm102 => ?_)
  have h := h m102 hm102
  refine jg_A (pc' := 15) rfl rfl (fun _ _ _ => rfl) ?_
  refine jg_getO (pc' := 18) (k := 5) rfl h0 (by decide) rfl rfl ?_
  refine jg_A (pc' := 19) rfl rfl (fun _ _ _ => rfl) ?_
  refine jg_A (pc' := 20) rfl rfl (fun _ _ _ => rfl) ?_
  refine jg_iastK (pc' := 21) (xi := 1) rfl (jg_sX12_14 h0) (by decide) (by decide) rfl (fun m103 hm103 => ?_)
  have h := h m103 hm103
  refine jg_A (pc' := 23) rfl rfl (fun _ _ _ => rfl) ?_
  refine jg_A (pc' := 24) (ls' := [.ref a0, .int (.ofInt 7)]) rfl rfl (fun _ _ _ => rfl) ?_
  exact h
set_option maxRecDepth 100000 in
set_option maxHeartbeats 4000000 in
theorem jb_X12_plain_24 {w : Nat} {a0 : Nat} {x1 : Int} {σ : jg_M} {Q : jg_M → Prop} (h0 : jg_sh a0 = (12, 0)) (h : (if 14 ≤ jg_wr x1 then Q σ else ((0 : Int) ≤ (jg_wr x1) ∧ (jg_wr x1) < (14 : Int)) ∧ ∀ m101 : jg_M, m101 = jg_sI σ (a0 + 8) (jg_wr x1) 0 → ((0 : Int) ≤ (jg_wr x1) ∧ (jg_wr x1) < (14 : Int)) ∧ ∀ m102 : jg_M, m102 = jg_sI m101 (a0 + 9) (jg_wr x1) 0 → jg_GV w 0 mm_X12_plain 24 [.ref a0, .int (.ofInt (x1 + 1))] m102 Q)) : jg_GV w 0 mm_X12_plain 24 [.ref a0, .int (.ofInt x1)] σ Q := by
  show jg_G w 0 mm_X12_plain 24 [.ref a0, .int (.ofInt x1)] [] σ (jg_QV Q)
  refine jg_A (pc' := 25) rfl rfl (fun _ _ _ => rfl) ?_
  refine jg_A (pc' := 27) rfl rfl (fun _ _ _ => rfl) ?_
  refine jg_cge (pc' := 30) rfl rfl (fun hc => ?_) (fun hc => ?_)
  · have h := jg_t h (show 14 ≤ jg_wr x1 from hc)
    exact jg_vret rfl rfl h
  · have h := jg_f h (show ¬ (14 ≤ jg_wr x1) from hc)
    refine jg_A (pc' := 31) rfl rfl (fun _ _ _ => rfl) ?_
    refine jg_getO (pc' := 34) (k := 8) rfl h0 (by decide) rfl rfl ?_
    refine jg_A (pc' := 35) rfl rfl (fun _ _ _ => rfl) ?_
    refine jg_A (pc' := 36) rfl rfl (fun _ _ _ => rfl) ?_
    obtain ⟨hg, h⟩ := h
    refine jg_iast (pc' := 37) rfl (jg_sX12_17 h0) hg rfl (fun m101 hm101 => ?_)
    have h := h m101 hm101
    refine jg_A (pc' := 38) rfl rfl (fun _ _ _ => rfl) ?_
    refine jg_getO (pc' := 41) (k := 9) rfl h0 (by decide) rfl rfl ?_
    refine jg_A (pc' := 42) rfl rfl (fun _ _ _ => rfl) ?_
    refine jg_A (pc' := 43) rfl rfl (fun _ _ _ => rfl) ?_
    obtain ⟨hg, h⟩ := h
    refine jg_iast (pc' := 44) rfl (jg_sX12_18 h0) hg rfl (fun m102 hm102 => ?_)
    have h := h m102 hm102
    refine jg_iinc (pc' := 47) (ls' := [.ref a0, .int (.ofInt (x1 + 1))]) rfl rfl rfl rfl ?_
    refine jg_goto rfl ?_
    exact h
set_option maxRecDepth 100000 in
set_option maxHeartbeats 4000000 in
theorem jb_X12_copies_0 {w : Nat} {a0 : Nat} {n0 : Nat} {x1 : Int} {σ : jg_M} {Q : jg_M → Prop} (h0 : jg_sh a0 = (20, n0)) (h : jg_GV w 0 mm_X12_copies 2 [.ref a0, .int (.ofInt x1), .int (.ofInt 0)] σ Q) : jg_CV w 0 mm_X12_copies [.ref a0, .int (.ofInt x1)] σ Q := by
  show jg_G w 0 mm_X12_copies 0 [.ref a0, .int (.ofInt x1), mj_U] [] σ (jg_QV Q)
  refine jg_A (pc' := 1) rfl rfl (fun _ _ _ => rfl) ?_
  refine jg_A (pc' := 2) (ls' := [.ref a0, .int (.ofInt x1), .int (.ofInt 0)]) rfl rfl (fun _ _ _ => rfl) ?_
  exact h
set_option maxRecDepth 100000 in
set_option maxHeartbeats 4000000 in
theorem jb_X12_copies_2 {w : Nat} {n0 : Nat} {a0 : Nat} {x1 : Int} {x2 : Int} {σ : jg_M} {Q : jg_M → Prop} (h0 : jg_sh a0 = (20, n0)) (h : (if jg_wr x1 ≤ jg_wr x2 then Q σ else ((0 : Int) ≤ jg_wr (x1 + x2) ∧ jg_wr (x1 + x2) < (n0 : Int)) ∧ ((0 : Int) ≤ (jg_wr x2) ∧ (jg_wr x2) < (n0 : Int)) ∧ ∀ m101 : jg_M, m101 = jg_sI σ a0 (jg_wr x2) (σ.1 a0 (jg_wr (x1 + x2))) → jg_GV w 0 mm_X12_copies 2 [.ref a0, .int (.ofInt x1), .int (.ofInt (x2 + 1))] m101 Q)) : jg_GV w 0 mm_X12_copies 2 [.ref a0, .int (.ofInt x1), .int (.ofInt x2)] σ Q := by
  show jg_G w 0 mm_X12_copies 2 [.ref a0, .int (.ofInt x1), .int (.ofInt x2)] [] σ (jg_QV Q)
  refine jg_A (pc' := 3) rfl rfl (fun _ _ _ => rfl) ?_
  refine jg_A (pc' := 4) rfl rfl (fun _ _ _ => rfl) ?_
  refine jg_cge (pc' := 7) rfl rfl (fun hc => ?_) (fun hc => ?_)
  · have h := jg_t h (show jg_wr x1 ≤ jg_wr x2 from hc)
    exact jg_vret rfl rfl h
  · have h := jg_f h (show ¬ (jg_wr x1 ≤ jg_wr x2) from hc)
    refine jg_A (pc' := 8) rfl rfl (fun _ _ _ => rfl) ?_
    refine jg_A (pc' := 9) rfl rfl (fun _ _ _ => rfl) ?_
    refine jg_A (pc' := 10) rfl rfl (fun _ _ _ => rfl) ?_
    refine jg_A (pc' := 11) rfl rfl (fun _ _ _ => rfl) ?_
    refine jg_A (pc' := 12) rfl rfl (fun _ _ _ => rfl) ?_
    refine jg_iadd (pc' := 13) rfl rfl ?_
    obtain ⟨hg, h⟩ := h
    refine jg_iald (pc' := 14) rfl h0 hg rfl ?_
    obtain ⟨hg, h⟩ := h
    refine jg_iast (pc' := 15) rfl h0 hg rfl (fun m101 hm101 => ?_)
    have h := h m101 hm101
    refine jg_iinc (pc' := 18) (ls' := [.ref a0, .int (.ofInt x1), .int (.ofInt (x2 + 1))]) rfl rfl rfl rfl ?_
    refine jg_goto rfl ?_
    exact h
set_option maxRecDepth 100000 in
set_option maxHeartbeats 4000000 in
theorem jb_X12_keepText_0 {w : Nat} {a0 : Nat} {σ : jg_M} {Q : jg_M → Prop} (h0 : jg_sh a0 = (12, 0)) (h : jg_CV w 0 mm_X12_copies [.ref (a0 + 3), .int (.ofInt 1)] σ (fun (m101 : jg_M) => jg_CV w 0 mm_X12_copies [.ref (a0 + 4), .int (.ofInt 1)] m101 (fun (m102 : jg_M) => jg_CV w 0 mm_X12_copies [.ref (a0 + 5), .int (.ofInt 1)] m102 (fun (m103 : jg_M) => jg_CV w 0 mm_X12_copies [.ref (a0 + 6), .int (.ofInt 7)] m103 (fun (m104 : jg_M) => jg_CV w 0 mm_X12_copies [.ref (a0 + 7), .int (.ofInt 5)] m104 (fun (m105 : jg_M) => jg_CV w 0 mm_X12_copies [.ref (a0 + 8), .int (.ofInt 7)] m105 (fun (m106 : jg_M) => jg_CV w 0 mm_X12_copies [.ref (a0 + 9), .int (.ofInt 7)] m106 (fun (m107 : jg_M) => jg_CV w 0 mm_X12_copies [.ref (a0 + 10), .int (.ofInt 13)] m107 (fun (m108 : jg_M) => jg_CV w 0 mm_X12_copies [.ref (a0 + 11), .int (.ofInt 13)] m108 (fun (m109 : jg_M) => jg_CV w 0 mm_X12_copies [.ref (a0 + 12), .int (.ofInt 52)] m109 (fun (m110 : jg_M) => jg_CI w 5 mm_X12_layTables [.ref a0, .int (.ofInt 0), .int (.ofInt 0), .int (.ofInt (-1))] m110 (fun (z112 : Int) (m111 : jg_M) => jg_CV w 3 mm_X12_layFollow [.ref a0, .int (.ofInt 0), .int (.ofInt 0), .int (.ofInt (-1)), .int (.ofInt 0)] m111 (fun (m113 : jg_M) => jg_CV w 4 mm_X12_layAfter [.ref a0] m113 (fun (m114 : jg_M) => jg_CV w 3 mm_X12_layShortest [.ref a0] m114 (fun (m115 : jg_M) => jg_CV w 2 mm_X12_layPacked [.ref a0] m115 (fun (m116 : jg_M) => ∀ m117 : jg_M, m117 = jg_sI m116 a0 59 0 → ∀ m118 : jg_M, m118 = jg_sI m117 a0 60 0 → (if jg_wr (m118.1 (a0 + 13) (0)) ≤ 0 then ∀ m119 : jg_M, m119 = jg_sI m118 a0 58 0 → ∀ m120 : jg_M, m120 = jg_sI m119 (a0 + 38) 0 0 → ∀ m121 : jg_M, m121 = jg_sI m120 a0 65 0 → ∀ m122 : jg_M, m122 = jg_sI m121 a0 66 (-1) → ∀ m123 : jg_M, m123 = jg_sI m122 a0 70 0 → ∀ m124 : jg_M, m124 = jg_sI m123 a0 72 0 → Q m124 else ∀ m125 : jg_M, m125 = jg_sI m118 a0 58 1 → ∀ m126 : jg_M, m126 = jg_sI m125 (a0 + 38) 0 0 → ∀ m127 : jg_M, m127 = jg_sI m126 a0 65 0 → ∀ m128 : jg_M, m128 = jg_sI m127 a0 66 (-1) → ∀ m129 : jg_M, m129 = jg_sI m128 a0 70 0 → ∀ m130 : jg_M, m130 = jg_sI m129 a0 72 0 → Q m130))))))))))))))))) : jg_CV w 6 mm_X12_keepText [.ref a0] σ Q := by
  show jg_G w 6 mm_X12_keepText 0 [.ref a0] [] σ (jg_QV Q)
  refine jg_A (pc' := 1) rfl rfl (fun _ _ _ => rfl) ?_
  refine jg_getO (pc' := 4) (k := 3) rfl h0 (by decide) rfl rfl ?_
  refine jg_A (pc' := 5) rfl rfl (fun _ _ _ => rfl) ?_
  refine jg_calS (M1 := mm_X12_copies) (hy := 0) (pc' := 8) rfl (Or.inl rfl) jm_X12_copies (by decide) rfl ⟨Nat.le_of_ble_eq_true rfl, rfl⟩ (Nat.le_of_ble_eq_true rfl) rfl h (jg_kV (fun m101 h => ?_))
  refine jg_A (pc' := 9) rfl rfl (fun _ _ _ => rfl) ?_
  refine jg_getO (pc' := 12) (k := 4) rfl h0 (by decide) rfl rfl ?_
  refine jg_A (pc' := 13) rfl rfl (fun _ _ _ => rfl) ?_
  refine jg_calS (M1 := mm_X12_copies) (hy := 0) (pc' := 16) rfl (Or.inl rfl) jm_X12_copies (by decide) rfl ⟨Nat.le_of_ble_eq_true rfl, rfl⟩ (Nat.le_of_ble_eq_true rfl) rfl h (jg_kV (fun m102 h => ?_))
  refine jg_A (pc' := 17) rfl rfl (fun _ _ _ => rfl) ?_
  refine jg_getO (pc' := 20) (k := 5) rfl h0 (by decide) rfl rfl ?_
  refine jg_A (pc' := 21) rfl rfl (fun _ _ _ => rfl) ?_
  refine jg_calS (M1 := mm_X12_copies) (hy := 0) (pc' := 24) rfl (Or.inl rfl) jm_X12_copies (by decide) rfl ⟨Nat.le_of_ble_eq_true rfl, rfl⟩ (Nat.le_of_ble_eq_true rfl) rfl h (jg_kV (fun m103 h => ?_))
  refine jg_A (pc' := 25) rfl rfl (fun _ _ _ => rfl) ?_
  refine jg_getO (pc' := 28) (k := 6) rfl h0 (by decide) rfl rfl ?_
  refine jg_A (pc' := 30) rfl rfl (fun _ _ _ => rfl) ?_
  refine jg_calS (M1 := mm_X12_copies) (hy := 0) (pc' := 33) rfl (Or.inl rfl) jm_X12_copies (by decide) rfl ⟨Nat.le_of_ble_eq_true rfl, rfl⟩ (Nat.le_of_ble_eq_true rfl) rfl h (jg_kV (fun m104 h => ?_))
  refine jg_A (pc' := 34) rfl rfl (fun _ _ _ => rfl) ?_
  refine jg_getO (pc' := 37) (k := 7) rfl h0 (by decide) rfl rfl ?_
  refine jg_A (pc' := 38) rfl rfl (fun _ _ _ => rfl) ?_
  refine jg_calS (M1 := mm_X12_copies) (hy := 0) (pc' := 41) rfl (Or.inl rfl) jm_X12_copies (by decide) rfl ⟨Nat.le_of_ble_eq_true rfl, rfl⟩ (Nat.le_of_ble_eq_true rfl) rfl h (jg_kV (fun m105 h => ?_))
  refine jg_A (pc' := 42) rfl rfl (fun _ _ _ => rfl) ?_
  refine jg_getO (pc' := 45) (k := 8) rfl h0 (by decide) rfl rfl ?_
  refine jg_A (pc' := 47) rfl rfl (fun _ _ _ => rfl) ?_
  refine jg_calS (M1 := mm_X12_copies) (hy := 0) (pc' := 50) rfl (Or.inl rfl) jm_X12_copies (by decide) rfl ⟨Nat.le_of_ble_eq_true rfl, rfl⟩ (Nat.le_of_ble_eq_true rfl) rfl h (jg_kV (fun m106 h => ?_))
  refine jg_A (pc' := 51) rfl rfl (fun _ _ _ => rfl) ?_
  refine jg_getO (pc' := 54) (k := 9) rfl h0 (by decide) rfl rfl ?_
  refine jg_A (pc' := 56) rfl rfl (fun _ _ _ => rfl) ?_
  refine jg_calS (M1 := mm_X12_copies) (hy := 0) (pc' := 59) rfl (Or.inl rfl) jm_X12_copies (by decide) rfl ⟨Nat.le_of_ble_eq_true rfl, rfl⟩ (Nat.le_of_ble_eq_true rfl) rfl h (jg_kV (fun m107 h => ?_))
  refine jg_A (pc' := 60) rfl rfl (fun _ _ _ => rfl) ?_
  refine jg_getO (pc' := 63) (k := 10) rfl h0 (by decide) rfl rfl ?_
  refine jg_A (pc' := 65) rfl rfl (fun _ _ _ => rfl) ?_
  refine jg_calS (M1 := mm_X12_copies) (hy := 0) (pc' := 68) rfl (Or.inl rfl) jm_X12_copies (by decide) rfl ⟨Nat.le_of_ble_eq_true rfl, rfl⟩ (Nat.le_of_ble_eq_true rfl) rfl h (jg_kV (fun m108 h => ?_))
  refine jg_A (pc' := 69) rfl rfl (fun _ _ _ => rfl) ?_
  refine jg_getO (pc' := 72) (k := 11) rfl h0 (by decide) rfl rfl ?_
  refine jg_A (pc' := 74) rfl rfl (fun _ _ _ => rfl) ?_
  refine jg_calS (M1 := mm_X12_copies) (hy := 0) (pc' := 77) rfl (Or.inl rfl) jm_X12_copies (by decide) rfl ⟨Nat.le_of_ble_eq_true rfl, rfl⟩ (Nat.le_of_ble_eq_true rfl) rfl h (jg_kV (fun m109 h => ?_))
  refine jg_A (pc' := 78) rfl rfl (fun _ _ _ => rfl) ?_
  refine jg_getO (pc' := 81) (k := 12) rfl h0 (by decide) rfl rfl ?_
  refine jg_A (pc' := 83) rfl rfl (fun _ _ _ => rfl) ?_
  refine jg_calS (M1 := mm_X12_copies) (hy := 0) (pc' := 86) rfl (Or.inl rfl) jm_X12_copies (by decide) rfl ⟨Nat.le_of_ble_eq_true rfl, rfl⟩ (Nat.le_of_ble_eq_true rfl) rfl h (jg_kV (fun m110 h => ?_))
  refine jg_A (pc' := 87) rfl rfl (fun _ _ _ => rfl) ?_
  refine jg_A (pc' := 88) rfl rfl (fun _ _ _ => rfl) ?_
  refine jg_A (pc' := 89) rfl rfl (fun _ _ _ => rfl) ?_
  refine jg_A (pc' := 90) rfl rfl (fun _ _ _ => rfl) ?_
  refine jg_calX (M1 := mm_X12_layTables) (hy := 5) (pc' := 93) rfl jm_X12_layTables (by decide) rfl h0 (by decide) ⟨Nat.le_of_ble_eq_true rfl, rfl⟩ (Nat.le_of_ble_eq_true rfl) rfl h (jg_kI (fun z112 m111 h => ?_))
  refine jg_A (pc' := 94) rfl rfl (fun _ _ _ => rfl) ?_
  refine jg_A (pc' := 95) rfl rfl (fun _ _ _ => rfl) ?_
  refine jg_A (pc' := 96) rfl rfl (fun _ _ _ => rfl) ?_
  refine jg_A (pc' := 97) rfl rfl (fun _ _ _ => rfl) ?_
  refine jg_A (pc' := 98) rfl rfl (fun _ _ _ => rfl) ?_
  refine jg_A (pc' := 99) rfl rfl (fun _ _ _ => rfl) ?_
  refine jg_calX (M1 := mm_X12_layFollow) (hy := 3) (pc' := 102) rfl jm_X12_layFollow (by decide) rfl h0 (by decide) ⟨Nat.le_of_ble_eq_true rfl, rfl⟩ (Nat.le_of_ble_eq_true rfl) rfl h (jg_kV (fun m113 h => ?_))
  refine jg_A (pc' := 103) rfl rfl (fun _ _ _ => rfl) ?_
  refine jg_calX (M1 := mm_X12_layAfter) (hy := 4) (pc' := 106) rfl jm_X12_layAfter (by decide) rfl h0 (by decide) ⟨Nat.le_of_ble_eq_true rfl, rfl⟩ (Nat.le_of_ble_eq_true rfl) rfl h (jg_kV (fun m114 h => ?_))
  refine jg_A (pc' := 107) rfl rfl (fun _ _ _ => rfl) ?_
  refine jg_calX (M1 := mm_X12_layShortest) (hy := 3) (pc' := 110) rfl jm_X12_layShortest (by decide) rfl h0 (by decide) ⟨Nat.le_of_ble_eq_true rfl, rfl⟩ (Nat.le_of_ble_eq_true rfl) rfl h (jg_kV (fun m115 h => ?_))
  refine jg_A (pc' := 111) rfl rfl (fun _ _ _ => rfl) ?_
  refine jg_calX (M1 := mm_X12_layPacked) (hy := 2) (pc' := 114) rfl jm_X12_layPacked (by decide) rfl h0 (by decide) ⟨Nat.le_of_ble_eq_true rfl, rfl⟩ (Nat.le_of_ble_eq_true rfl) rfl h (jg_kV (fun m116 h => ?_))
  refine jg_A (pc' := 115) rfl rfl (fun _ _ _ => rfl) ?_
  refine jg_A (pc' := 116) rfl rfl (fun _ _ _ => rfl) ?_
  refine jg_putI (pc' := 119) (bi := 59) rfl h0 (by decide) rfl rfl rfl rfl (fun m117 hm117 => ?_)
  have h := h m117 hm117
  refine jg_A (pc' := 120) rfl rfl (fun _ _ _ => rfl) ?_
  refine jg_A (pc' := 121) rfl rfl (fun _ _ _ => rfl) ?_
  refine jg_putI (pc' := 124) (bi := 60) rfl h0 (by decide) rfl rfl rfl rfl (fun m118 hm118 => ?_)
  have h := h m118 hm118
  refine jg_A (pc' := 125) rfl rfl (fun _ _ _ => rfl) ?_
  refine jg_A (pc' := 126) rfl rfl (fun _ _ _ => rfl) ?_
  refine jg_getO (pc' := 129) (k := 13) rfl h0 (by decide) rfl rfl ?_
  refine jg_A (pc' := 130) rfl rfl (fun _ _ _ => rfl) ?_
  refine jg_ialdK (pc' := 131) (xi := 0) rfl (jg_sX12_22 h0) (by decide) (by decide) rfl ?_
  refine jg_ifle (pc' := 134) rfl rfl (fun hc => ?_) (fun hc => ?_)
  · have h := jg_t h (show jg_wr (m118.1 (a0 + 13) (0)) ≤ 0 from hc)
    refine jg_A (pc' := 139) rfl rfl (fun _ _ _ => rfl) ?_
    refine jg_putI (pc' := 142) (bi := 58) rfl h0 (by decide) rfl rfl rfl rfl (fun m119 hm119 => ?_)
    have h := h m119 hm119
    refine jg_A (pc' := 143) rfl rfl (fun _ _ _ => rfl) ?_
    refine jg_getO (pc' := 146) (k := 38) rfl h0 (by decide) rfl rfl ?_
    refine jg_A (pc' := 147) rfl rfl (fun _ _ _ => rfl) ?_
    refine jg_A (pc' := 148) rfl rfl (fun _ _ _ => rfl) ?_
    refine jg_iastK (pc' := 149) (xi := 0) rfl (jg_sX12_57 h0) (by decide) (by decide) rfl (fun m120 hm120 => ?_)
    have h := h m120 hm120
    refine jg_A (pc' := 150) rfl rfl (fun _ _ _ => rfl) ?_
    refine jg_A (pc' := 151) rfl rfl (fun _ _ _ => rfl) ?_
    refine jg_putI (pc' := 154) (bi := 65) rfl h0 (by decide) rfl rfl rfl rfl (fun m121 hm121 => ?_)
    have h := h m121 hm121
    refine jg_A (pc' := 155) rfl rfl (fun _ _ _ => rfl) ?_
    refine jg_A (pc' := 156) rfl rfl (fun _ _ _ => rfl) ?_
    refine jg_putI (pc' := 159) (bi := 66) rfl h0 (by decide) rfl rfl rfl rfl (fun m122 hm122 => ?_)
    have h := h m122 hm122
    refine jg_A (pc' := 160) rfl rfl (fun _ _ _ => rfl) ?_
    refine jg_A (pc' := 161) rfl rfl (fun _ _ _ => rfl) ?_
    refine jg_putI (pc' := 164) (bi := 70) rfl h0 (by decide) rfl rfl rfl rfl (fun m123 hm123 => ?_)
    have h := h m123 hm123
    refine jg_A (pc' := 165) rfl rfl (fun _ _ _ => rfl) ?_
    refine jg_A (pc' := 166) rfl rfl (fun _ _ _ => rfl) ?_
    refine jg_putZ (pc' := 169) (bi := 72) rfl h0 (by decide) rfl rfl (by decide) rfl rfl (fun m124 hm124 => ?_)
    have h := h m124 hm124
    exact jg_vret rfl rfl h
  · have h := jg_f h (show ¬ (jg_wr (m118.1 (a0 + 13) (0)) ≤ 0) from hc)
    refine jg_A (pc' := 135) rfl rfl (fun _ _ _ => rfl) ?_
    refine jg_goto rfl ?_
    refine jg_putI (pc' := 142) (bi := 58) rfl h0 (by decide) rfl rfl rfl rfl (fun m125 hm125 => ?_)
    have h := h m125 hm125
    refine jg_A (pc' := 143) rfl rfl (fun _ _ _ => rfl) ?_
    refine jg_getO (pc' := 146) (k := 38) rfl h0 (by decide) rfl rfl ?_
    refine jg_A (pc' := 147) rfl rfl (fun _ _ _ => rfl) ?_
    refine jg_A (pc' := 148) rfl rfl (fun _ _ _ => rfl) ?_
    refine jg_iastK (pc' := 149) (xi := 0) rfl (jg_sX12_57 h0) (by decide) (by decide) rfl (fun m126 hm126 => ?_)
    have h := h m126 hm126
    refine jg_A (pc' := 150) rfl rfl (fun _ _ _ => rfl) ?_
    refine jg_A (pc' := 151) rfl rfl (fun _ _ _ => rfl) ?_
    refine jg_putI (pc' := 154) (bi := 65) rfl h0 (by decide) rfl rfl rfl rfl (fun m127 hm127 => ?_)
    have h := h m127 hm127
    refine jg_A (pc' := 155) rfl rfl (fun _ _ _ => rfl) ?_
    refine jg_A (pc' := 156) rfl rfl (fun _ _ _ => rfl) ?_
    refine jg_putI (pc' := 159) (bi := 66) rfl h0 (by decide) rfl rfl rfl rfl (fun m128 hm128 => ?_)
    have h := h m128 hm128
    refine jg_A (pc' := 160) rfl rfl (fun _ _ _ => rfl) ?_
    refine jg_A (pc' := 161) rfl rfl (fun _ _ _ => rfl) ?_
    refine jg_putI (pc' := 164) (bi := 70) rfl h0 (by decide) rfl rfl rfl rfl (fun m129 hm129 => ?_)
    have h := h m129 hm129
    refine jg_A (pc' := 165) rfl rfl (fun _ _ _ => rfl) ?_
    refine jg_A (pc' := 166) rfl rfl (fun _ _ _ => rfl) ?_
    refine jg_putZ (pc' := 169) (bi := 72) rfl h0 (by decide) rfl rfl (by decide) rfl rfl (fun m130 hm130 => ?_)
    have h := h m130 hm130
    exact jg_vret rfl rfl h
set_option maxRecDepth 100000 in
set_option maxHeartbeats 4000000 in
theorem jb_X12_find_0 {w : Nat} {a0 : Nat} {n0 : Nat} {x1 : Int} {x2 : Int} {x3 : Int} {σ : jg_M} {Q : Int → jg_M → Prop} (h0 : jg_sh a0 = (20, n0)) (h : jg_GI w 0 mm_X12_find 3 [.ref a0, .int (.ofInt x1), .int (.ofInt x2), .int (.ofInt x3), .int (.ofInt 0)] σ Q) : jg_CI w 0 mm_X12_find [.ref a0, .int (.ofInt x1), .int (.ofInt x2), .int (.ofInt x3)] σ Q := by
  show jg_G w 0 mm_X12_find 0 [.ref a0, .int (.ofInt x1), .int (.ofInt x2), .int (.ofInt x3), mj_U] [] σ (jg_QI Q)
  refine jg_A (pc' := 1) rfl rfl (fun _ _ _ => rfl) ?_
  refine jg_A (pc' := 3) (ls' := [.ref a0, .int (.ofInt x1), .int (.ofInt x2), .int (.ofInt x3), .int (.ofInt 0)]) rfl rfl (fun _ _ _ => rfl) ?_
  exact h
set_option maxRecDepth 100000 in
set_option maxHeartbeats 4000000 in
theorem jb_X12_find_3 {w : Nat} {n0 : Nat} {a0 : Nat} {x1 : Int} {x2 : Int} {x3 : Int} {x4 : Int} {σ : jg_M} {Q : Int → jg_M → Prop} (h0 : jg_sh a0 = (20, n0)) (h : (if jg_wr x2 ≤ jg_wr x4 then Q (-1) σ else ((0 : Int) ≤ jg_wr (x1 + x4) ∧ jg_wr (x1 + x4) < (n0 : Int)) ∧ (if jg_wr (σ.1 a0 (jg_wr (x1 + x4))) = jg_wr x3 then Q x4 σ else jg_GI w 0 mm_X12_find 3 [.ref a0, .int (.ofInt x1), .int (.ofInt x2), .int (.ofInt x3), .int (.ofInt (x4 + 1))] σ Q))) : jg_GI w 0 mm_X12_find 3 [.ref a0, .int (.ofInt x1), .int (.ofInt x2), .int (.ofInt x3), .int (.ofInt x4)] σ Q := by
  show jg_G w 0 mm_X12_find 3 [.ref a0, .int (.ofInt x1), .int (.ofInt x2), .int (.ofInt x3), .int (.ofInt x4)] [] σ (jg_QI Q)
  refine jg_A (pc' := 5) rfl rfl (fun _ _ _ => rfl) ?_
  refine jg_A (pc' := 6) rfl rfl (fun _ _ _ => rfl) ?_
  refine jg_cge (pc' := 9) rfl rfl (fun hc => ?_) (fun hc => ?_)
  · have h := jg_t h (show jg_wr x2 ≤ jg_wr x4 from hc)
    refine jg_A (pc' := 29) rfl rfl (fun _ _ _ => rfl) ?_
    exact jg_iret rfl rfl h
  · have h := jg_f h (show ¬ (jg_wr x2 ≤ jg_wr x4) from hc)
    refine jg_A (pc' := 10) rfl rfl (fun _ _ _ => rfl) ?_
    refine jg_A (pc' := 11) rfl rfl (fun _ _ _ => rfl) ?_
    refine jg_A (pc' := 13) rfl rfl (fun _ _ _ => rfl) ?_
    refine jg_iadd (pc' := 14) rfl rfl ?_
    obtain ⟨hg, h⟩ := h
    refine jg_iald (pc' := 15) rfl h0 hg rfl ?_
    refine jg_A (pc' := 16) rfl rfl (fun _ _ _ => rfl) ?_
    refine jg_cne (pc' := 19) rfl rfl (fun hc => ?_) (fun hc => ?_)
    · have h := jg_t h (show jg_wr (σ.1 a0 (jg_wr (x1 + x4))) = jg_wr x3 from hc)
      refine jg_A (pc' := 21) rfl rfl (fun _ _ _ => rfl) ?_
      exact jg_iret rfl rfl h
    · have h := jg_f h (show ¬ (jg_wr (σ.1 a0 (jg_wr (x1 + x4))) = jg_wr x3) from hc)
      refine jg_iinc (pc' := 25) (ls' := [.ref a0, .int (.ofInt x1), .int (.ofInt x2), .int (.ofInt x3), .int (.ofInt (x4 + 1))]) rfl rfl rfl rfl ?_
      refine jg_goto rfl ?_
      exact h
set_option maxRecDepth 100000 in
set_option maxHeartbeats 4000000 in
theorem jb_X12_symbolBy_0 {w : Nat} {a0 : Nat} {x1 : Int} {x2 : Int} {σ : jg_M} {Q : Int → jg_M → Prop} (h0 : jg_sh a0 = (12, 0)) (h : ((0 : Int) ≤ jg_wr x1 ∧ jg_wr x1 < (2 : Int)) ∧ jg_CI w 0 mm_X12_find [.ref (a0 + 6), .int (.ofInt (7 * x1)), .int (.ofInt (σ.1 (a0 + 3) (jg_wr x1))), .int (.ofInt x2)] σ (fun (z102 : Int) (m101 : jg_M) => (if jg_wr z102 < 0 then ((0 : Int) ≤ jg_wr x1 ∧ jg_wr x1 < (2 : Int)) ∧ jg_CI w 0 mm_X12_find [.ref (a0 + 7), .int (.ofInt (5 * x1)), .int (.ofInt (m101.1 (a0 + 4) (jg_wr x1))), .int (.ofInt x2)] m101 (fun (z104 : Int) (m103 : jg_M) => (if 0 ≤ jg_wr z104 then Q (10 + z104) m103 else Q (-1) m103)) else Q z102 m101))) : jg_CI w 1 mm_X12_symbolBy [.ref a0, .int (.ofInt x1), .int (.ofInt x2)] σ Q := by
  show jg_G w 1 mm_X12_symbolBy 0 [.ref a0, .int (.ofInt x1), .int (.ofInt x2), mj_U, mj_U] [] σ (jg_QI Q)
  refine jg_A (pc' := 1) rfl rfl (fun _ _ _ => rfl) ?_
  refine jg_getO (pc' := 4) (k := 6) rfl h0 (by decide) rfl rfl ?_
  refine jg_A (pc' := 6) rfl rfl (fun _ _ _ => rfl) ?_
  refine jg_A (pc' := 7) rfl rfl (fun _ _ _ => rfl) ?_
  refine jg_imul (pc' := 8) rfl rfl ?_
  refine jg_A (pc' := 9) rfl rfl (fun _ _ _ => rfl) ?_
  refine jg_getO (pc' := 12) (k := 3) rfl h0 (by decide) rfl rfl ?_
  refine jg_A (pc' := 13) rfl rfl (fun _ _ _ => rfl) ?_
  obtain ⟨hg, h⟩ := h
  refine jg_iald (pc' := 14) rfl (jg_sX12_12 h0) hg rfl ?_
  refine jg_A (pc' := 15) rfl rfl (fun _ _ _ => rfl) ?_
  refine jg_calS (M1 := mm_X12_find) (hy := 0) (pc' := 18) rfl (Or.inl rfl) jm_X12_find (by decide) rfl ⟨Nat.le_of_ble_eq_true rfl, rfl⟩ (Nat.le_of_ble_eq_true rfl) rfl h (jg_kI (fun z102 m101 h => ?_))
  refine jg_A (pc' := 19) (ls' := [.ref a0, .int (.ofInt x1), .int (.ofInt x2), .int (.ofInt z102), mj_U]) rfl rfl (fun _ _ _ => rfl) ?_
  refine jg_A (pc' := 20) rfl rfl (fun _ _ _ => rfl) ?_
  refine jg_iflt (pc' := 23) rfl rfl (fun hc => ?_) (fun hc => ?_)
  · have h := jg_t h (show jg_wr z102 < 0 from hc)
    refine jg_A (pc' := 26) rfl rfl (fun _ _ _ => rfl) ?_
    refine jg_getO (pc' := 29) (k := 7) rfl h0 (by decide) rfl rfl ?_
    refine jg_A (pc' := 30) rfl rfl (fun _ _ _ => rfl) ?_
    refine jg_A (pc' := 31) rfl rfl (fun _ _ _ => rfl) ?_
    refine jg_imul (pc' := 32) rfl rfl ?_
    refine jg_A (pc' := 33) rfl rfl (fun _ _ _ => rfl) ?_
    refine jg_getO (pc' := 36) (k := 4) rfl h0 (by decide) rfl rfl ?_
    refine jg_A (pc' := 37) rfl rfl (fun _ _ _ => rfl) ?_
    obtain ⟨hg, h⟩ := h
    refine jg_iald (pc' := 38) rfl (jg_sX12_13 h0) hg rfl ?_
    refine jg_A (pc' := 39) rfl rfl (fun _ _ _ => rfl) ?_
    refine jg_calS (M1 := mm_X12_find) (hy := 0) (pc' := 42) rfl (Or.inl rfl) jm_X12_find (by decide) rfl ⟨Nat.le_of_ble_eq_true rfl, rfl⟩ (Nat.le_of_ble_eq_true rfl) rfl h (jg_kI (fun z104 m103 h => ?_))
    refine jg_A (pc' := 44) (ls' := [.ref a0, .int (.ofInt x1), .int (.ofInt x2), .int (.ofInt z102), .int (.ofInt z104)]) rfl rfl (fun _ _ _ => rfl) ?_
    refine jg_A (pc' := 46) rfl rfl (fun _ _ _ => rfl) ?_
    refine jg_ifge (pc' := 49) rfl rfl (fun hc => ?_) (fun hc => ?_)
    · have h := jg_t h (show 0 ≤ jg_wr z104 from hc)
      refine jg_A (pc' := 55) rfl rfl (fun _ _ _ => rfl) ?_
      refine jg_A (pc' := 57) rfl rfl (fun _ _ _ => rfl) ?_
      refine jg_iadd (pc' := 58) rfl rfl ?_
      exact jg_iret rfl rfl h
    · have h := jg_f h (show ¬ (0 ≤ jg_wr z104) from hc)
      refine jg_A (pc' := 50) rfl rfl (fun _ _ _ => rfl) ?_
      refine jg_goto rfl ?_
      exact jg_iret rfl rfl h
  · have h := jg_f h (show ¬ (jg_wr z102 < 0) from hc)
    refine jg_A (pc' := 24) rfl rfl (fun _ _ _ => rfl) ?_
    exact jg_iret rfl rfl h
set_option maxRecDepth 100000 in
set_option maxHeartbeats 4000000 in
theorem jb_X12_nameLine_0 {w : Nat} {a0 : Nat} {x1 : Int} {σ : jg_M} {Q : Int → jg_M → Prop} (h0 : jg_sh a0 = (12, 0)) (h : (if jg_wr x1 = 0 then (if jg_wr (σ.1 (a0 + 4) (1)) = 5 then jg_CI w 0 mm_X12_wrong [.ref a0, .int (.ofInt 2)] σ (fun (z102 : Int) (m101 : jg_M) => ((jg_wr z102 = 0 ∨ jg_wr z102 = 1) ∧ Q z102 m101)) else jg_CV w 1 mm_X12_nextToken [.ref a0] σ (fun (m103 : jg_M) => (if jg_wr (m103.1 a0 8) = 2 then jg_CI w 1 mm_X12_symbolBy [.ref a0, .int (.ofInt 1), .int (.ofInt (m103.1 a0 9))] m103 (fun (z105 : Int) (m104 : jg_M) => (if jg_wr z105 < 0 then (if jg_wr x1 = 0 then ((0 : Int) ≤ (jg_wr (5 + (m104.1 (a0 + 4) (1)))) ∧ (jg_wr (5 + (m104.1 (a0 + 4) (1)))) < (10 : Int)) ∧ ∀ m106 : jg_M, m106 = jg_sI m104 (a0 + 7) (jg_wr (5 + (m104.1 (a0 + 4) (1)))) (m104.1 a0 9) → ∀ m107 : jg_M, m107 = jg_sI m106 (a0 + 4) 1 ((m106.1 (a0 + 4) (1)) + 1) → jg_CV w 1 mm_X12_nextToken [.ref a0] m107 (fun (m108 : jg_M) => Q 1 m108) else ((0 : Int) ≤ (jg_wr (7 + (m104.1 (a0 + 3) (1)))) ∧ (jg_wr (7 + (m104.1 (a0 + 3) (1)))) < (14 : Int)) ∧ ∀ m109 : jg_M, m109 = jg_sI m104 (a0 + 6) (jg_wr (7 + (m104.1 (a0 + 3) (1)))) (m104.1 a0 9) → ∀ m110 : jg_M, m110 = jg_sI m109 (a0 + 3) 1 ((m109.1 (a0 + 3) (1)) + 1) → jg_CV w 1 mm_X12_nextToken [.ref a0] m110 (fun (m111 : jg_M) => Q 1 m111)) else jg_CI w 0 mm_X12_wrong [.ref a0, .int (.ofInt 3)] m104 (fun (z113 : Int) (m112 : jg_M) => ((jg_wr z113 = 0 ∨ jg_wr z113 = 1) ∧ Q z113 m112)))) else jg_CI w 0 mm_X12_wrong [.ref a0, .int (.ofInt 1)] m103 (fun (z115 : Int) (m114 : jg_M) => ((jg_wr z115 = 0 ∨ jg_wr z115 = 1) ∧ Q z115 m114))))) else (if jg_wr (σ.1 (a0 + 3) (1)) = 7 then jg_CI w 0 mm_X12_wrong [.ref a0, .int (.ofInt 2)] σ (fun (z117 : Int) (m116 : jg_M) => ((jg_wr z117 = 0 ∨ jg_wr z117 = 1) ∧ Q z117 m116)) else jg_CV w 1 mm_X12_nextToken [.ref a0] σ (fun (m118 : jg_M) => (if jg_wr (m118.1 a0 8) = 2 then jg_CI w 1 mm_X12_symbolBy [.ref a0, .int (.ofInt 1), .int (.ofInt (m118.1 a0 9))] m118 (fun (z120 : Int) (m119 : jg_M) => (if jg_wr z120 < 0 then (if jg_wr x1 = 0 then ((0 : Int) ≤ (jg_wr (5 + (m119.1 (a0 + 4) (1)))) ∧ (jg_wr (5 + (m119.1 (a0 + 4) (1)))) < (10 : Int)) ∧ ∀ m121 : jg_M, m121 = jg_sI m119 (a0 + 7) (jg_wr (5 + (m119.1 (a0 + 4) (1)))) (m119.1 a0 9) → ∀ m122 : jg_M, m122 = jg_sI m121 (a0 + 4) 1 ((m121.1 (a0 + 4) (1)) + 1) → jg_CV w 1 mm_X12_nextToken [.ref a0] m122 (fun (m123 : jg_M) => Q 1 m123) else ((0 : Int) ≤ (jg_wr (7 + (m119.1 (a0 + 3) (1)))) ∧ (jg_wr (7 + (m119.1 (a0 + 3) (1)))) < (14 : Int)) ∧ ∀ m124 : jg_M, m124 = jg_sI m119 (a0 + 6) (jg_wr (7 + (m119.1 (a0 + 3) (1)))) (m119.1 a0 9) → ∀ m125 : jg_M, m125 = jg_sI m124 (a0 + 3) 1 ((m124.1 (a0 + 3) (1)) + 1) → jg_CV w 1 mm_X12_nextToken [.ref a0] m125 (fun (m126 : jg_M) => Q 1 m126)) else jg_CI w 0 mm_X12_wrong [.ref a0, .int (.ofInt 3)] m119 (fun (z128 : Int) (m127 : jg_M) => ((jg_wr z128 = 0 ∨ jg_wr z128 = 1) ∧ Q z128 m127)))) else jg_CI w 0 mm_X12_wrong [.ref a0, .int (.ofInt 1)] m118 (fun (z130 : Int) (m129 : jg_M) => ((jg_wr z130 = 0 ∨ jg_wr z130 = 1) ∧ Q z130 m129))))))) : jg_CI w 2 mm_X12_nameLine [.ref a0, .int (.ofInt x1)] σ Q := by
  show jg_G w 2 mm_X12_nameLine 0 [.ref a0, .int (.ofInt x1)] [] σ (jg_QI Q)
  refine jg_A (pc' := 1) rfl rfl (fun _ _ _ => rfl) ?_
  refine jg_ifeq (pc' := 4) rfl rfl (fun hc => ?_) (fun hc => ?_)
  · have h := jg_t h (show jg_wr x1 = 0 from hc)
    refine jg_A (pc' := 19) rfl rfl (fun _ _ _ => rfl) ?_
    refine jg_getO (pc' := 22) (k := 4) rfl h0 (by decide) rfl rfl ?_
    refine jg_A (pc' := 23) rfl rfl (fun _ _ _ => rfl) ?_
    refine jg_ialdK (pc' := 24) (xi := 1) rfl (jg_sX12_13 h0) (by decide) (by decide) rfl ?_
    refine jg_A (pc' := 25) rfl rfl (fun _ _ _ => rfl) ?_
    refine jg_cne (pc' := 28) rfl rfl (fun hc => ?_) (fun hc => ?_)
    · have h := jg_t h (show jg_wr (σ.1 (a0 + 4) (1)) = 5 from hc)
      refine jg_A (pc' := 29) rfl rfl (fun _ _ _ => rfl) ?_
      refine jg_A (pc' := 30) rfl rfl (fun _ _ _ => rfl) ?_
      refine jg_calX (M1 := mm_X12_wrong) (hy := 0) (pc' := 33) rfl jm_X12_wrong (by decide) rfl h0 (by decide) ⟨Nat.le_of_ble_eq_true rfl, rfl⟩ (Nat.le_of_ble_eq_true rfl) rfl h (jg_kI (fun z102 m101 h => ?_))
      exact jg_zret rfl rfl h.1 h.2
    · have h := jg_f h (show ¬ (jg_wr (σ.1 (a0 + 4) (1)) = 5) from hc)
      refine jg_A (pc' := 35) rfl rfl (fun _ _ _ => rfl) ?_
      refine jg_calX (M1 := mm_X12_nextToken) (hy := 1) (pc' := 38) rfl jm_X12_nextToken (by decide) rfl h0 (by decide) ⟨Nat.le_of_ble_eq_true rfl, rfl⟩ (Nat.le_of_ble_eq_true rfl) rfl h (jg_kV (fun m103 h => ?_))
      refine jg_A (pc' := 39) rfl rfl (fun _ _ _ => rfl) ?_
      refine jg_getI (pc' := 42) (bi := 8) rfl h0 (by decide) (Or.inl rfl) rfl rfl ?_
      refine jg_A (pc' := 43) rfl rfl (fun _ _ _ => rfl) ?_
      refine jg_ceq (pc' := 46) rfl rfl (fun hc => ?_) (fun hc => ?_)
      · have h := jg_t h (show jg_wr (m103.1 a0 8) = 2 from hc)
        refine jg_A (pc' := 53) rfl rfl (fun _ _ _ => rfl) ?_
        refine jg_A (pc' := 54) rfl rfl (fun _ _ _ => rfl) ?_
        refine jg_A (pc' := 55) rfl rfl (fun _ _ _ => rfl) ?_
        refine jg_getI (pc' := 58) (bi := 9) rfl h0 (by decide) (Or.inl rfl) rfl rfl ?_
        refine jg_calX (M1 := mm_X12_symbolBy) (hy := 1) (pc' := 61) rfl jm_X12_symbolBy (by decide) rfl h0 (by decide) ⟨Nat.le_of_ble_eq_true rfl, rfl⟩ (Nat.le_of_ble_eq_true rfl) rfl h (jg_kI (fun z105 m104 h => ?_))
        refine jg_iflt (pc' := 64) rfl rfl (fun hc => ?_) (fun hc => ?_)
        · have h := jg_t h (show jg_wr z105 < 0 from hc)
          refine jg_A (pc' := 71) rfl rfl (fun _ _ _ => rfl) ?_
          refine jg_ifeq (pc' := 74) rfl rfl (fun hc => ?_) (fun hc => ?_)
          · have h := jg_t h (show jg_wr x1 = 0 from hc)
            refine jg_A (pc' := 106) rfl rfl (fun _ _ _ => rfl) ?_
            refine jg_getO (pc' := 109) (k := 7) rfl h0 (by decide) rfl rfl ?_
            refine jg_A (pc' := 110) rfl rfl (fun _ _ _ => rfl) ?_
            refine jg_A (pc' := 111) rfl rfl (fun _ _ _ => rfl) ?_
            refine jg_getO (pc' := 114) (k := 4) rfl h0 (by decide) rfl rfl ?_
            refine jg_A (pc' := 115) rfl rfl (fun _ _ _ => rfl) ?_
            refine jg_ialdK (pc' := 116) (xi := 1) rfl (jg_sX12_13 h0) (by decide) (by decide) rfl ?_
            refine jg_iadd (pc' := 117) rfl rfl ?_
            refine jg_A (pc' := 118) rfl rfl (fun _ _ _ => rfl) ?_
            refine jg_getI (pc' := 121) (bi := 9) rfl h0 (by decide) (Or.inl rfl) rfl rfl ?_
            obtain ⟨hg, h⟩ := h
            refine jg_iast (pc' := 122) rfl (jg_sX12_16 h0) hg rfl (fun m106 hm106 => ?_)
            have h := h m106 hm106
            refine jg_A (pc' := 123) rfl rfl (fun _ _ _ => rfl) ?_
            refine jg_getO (pc' := 126) (k := 4) rfl h0 (by decide) rfl rfl ?_
            refine jg_A (pc' := 127) rfl rfl (fun _ _ _ => rfl) ?_
            refine jg_A (pc' := 128) rfl rfl (fun _ _ _ => rfl) ?_
            refine jg_ialdK (pc' := 129) (xi := 1) rfl (jg_sX12_13 h0) (by decide) (by decide) rfl ?_
            refine jg_A (pc' := 130) rfl rfl (fun _ _ _ => rfl) ?_
            refine jg_iadd (pc' := 131) rfl rfl ?_
            refine jg_iastK (pc' := 132) (xi := 1) rfl (jg_sX12_13 h0) (by decide) (by decide) rfl (fun m107 hm107 => ?_)
            have h := h m107 hm107
            refine jg_A (pc' := 133) rfl rfl (fun _ _ _ => rfl) ?_
            refine jg_calX (M1 := mm_X12_nextToken) (hy := 1) (pc' := 136) rfl jm_X12_nextToken (by decide) rfl h0 (by decide) ⟨Nat.le_of_ble_eq_true rfl, rfl⟩ (Nat.le_of_ble_eq_true rfl) rfl h (jg_kV (fun m108 h => ?_))
            refine jg_A (pc' := 137) rfl rfl (fun _ _ _ => rfl) ?_
            exact jg_zret rfl rfl (by decide) h
          · have h := jg_f h (show ¬ (jg_wr x1 = 0) from hc)
            refine jg_A (pc' := 75) rfl rfl (fun _ _ _ => rfl) ?_
            refine jg_getO (pc' := 78) (k := 6) rfl h0 (by decide) rfl rfl ?_
            refine jg_A (pc' := 80) rfl rfl (fun _ _ _ => rfl) ?_
            refine jg_A (pc' := 81) rfl rfl (fun _ _ _ => rfl) ?_
            refine jg_getO (pc' := 84) (k := 3) rfl h0 (by decide) rfl rfl ?_
            refine jg_A (pc' := 85) rfl rfl (fun _ _ _ => rfl) ?_
            refine jg_ialdK (pc' := 86) (xi := 1) rfl (jg_sX12_12 h0) (by decide) (by decide) rfl ?_
            refine jg_iadd (pc' := 87) rfl rfl ?_
            refine jg_A (pc' := 88) rfl rfl (fun _ _ _ => rfl) ?_
            refine jg_getI (pc' := 91) (bi := 9) rfl h0 (by decide) (Or.inl rfl) rfl rfl ?_
            obtain ⟨hg, h⟩ := h
            refine jg_iast (pc' := 92) rfl (jg_sX12_15 h0) hg rfl (fun m109 hm109 => ?_)
            have h := h m109 hm109
            refine jg_A (pc' := 93) rfl rfl (fun _ _ _ => rfl) ?_
            refine jg_getO (pc' := 96) (k := 3) rfl h0 (by decide) rfl rfl ?_
            refine jg_A (pc' := 97) rfl rfl (fun _ _ _ => rfl) ?_
            refine jg_A (pc' := 98) rfl rfl (fun _ _ _ => rfl) ?_
            refine jg_ialdK (pc' := 99) (xi := 1) rfl (jg_sX12_12 h0) (by decide) (by decide) rfl ?_
            refine jg_A (pc' := 100) rfl rfl (fun _ _ _ => rfl) ?_
            refine jg_iadd (pc' := 101) rfl rfl ?_
            refine jg_iastK (pc' := 102) (xi := 1) rfl (jg_sX12_12 h0) (by decide) (by decide) rfl (fun m110 hm110 => ?_)
            have h := h m110 hm110
            refine jg_goto rfl ?_
            refine jg_A (pc' := 133) rfl rfl (fun _ _ _ => rfl) ?_
            refine jg_calX (M1 := mm_X12_nextToken) (hy := 1) (pc' := 136) rfl jm_X12_nextToken (by decide) rfl h0 (by decide) ⟨Nat.le_of_ble_eq_true rfl, rfl⟩ (Nat.le_of_ble_eq_true rfl) rfl h (jg_kV (fun m111 h => ?_))
            refine jg_A (pc' := 137) rfl rfl (fun _ _ _ => rfl) ?_
            exact jg_zret rfl rfl (by decide) h
        · have h := jg_f h (show ¬ (jg_wr z105 < 0) from hc)
          refine jg_A (pc' := 65) rfl rfl (fun _ _ _ => rfl) ?_
          refine jg_A (pc' := 66) rfl rfl (fun _ _ _ => rfl) ?_
          refine jg_calX (M1 := mm_X12_wrong) (hy := 0) (pc' := 69) rfl jm_X12_wrong (by decide) rfl h0 (by decide) ⟨Nat.le_of_ble_eq_true rfl, rfl⟩ (Nat.le_of_ble_eq_true rfl) rfl h (jg_kI (fun z113 m112 h => ?_))
          exact jg_zret rfl rfl h.1 h.2
      · have h := jg_f h (show ¬ (jg_wr (m103.1 a0 8) = 2) from hc)
        refine jg_A (pc' := 47) rfl rfl (fun _ _ _ => rfl) ?_
        refine jg_A (pc' := 48) rfl rfl (fun _ _ _ => rfl) ?_
        refine jg_calX (M1 := mm_X12_wrong) (hy := 0) (pc' := 51) rfl jm_X12_wrong (by decide) rfl h0 (by decide) ⟨Nat.le_of_ble_eq_true rfl, rfl⟩ (Nat.le_of_ble_eq_true rfl) rfl h (jg_kI (fun z115 m114 h => ?_))
        exact jg_zret rfl rfl h.1 h.2
  · have h := jg_f h (show ¬ (jg_wr x1 = 0) from hc)
    refine jg_A (pc' := 5) rfl rfl (fun _ _ _ => rfl) ?_
    refine jg_getO (pc' := 8) (k := 3) rfl h0 (by decide) rfl rfl ?_
    refine jg_A (pc' := 9) rfl rfl (fun _ _ _ => rfl) ?_
    refine jg_ialdK (pc' := 10) (xi := 1) rfl (jg_sX12_12 h0) (by decide) (by decide) rfl ?_
    refine jg_A (pc' := 12) rfl rfl (fun _ _ _ => rfl) ?_
    refine jg_cne (pc' := 15) rfl rfl (fun hc => ?_) (fun hc => ?_)
    · have h := jg_t h (show jg_wr (σ.1 (a0 + 3) (1)) = 7 from hc)
      refine jg_goto rfl ?_
      refine jg_A (pc' := 29) rfl rfl (fun _ _ _ => rfl) ?_
      refine jg_A (pc' := 30) rfl rfl (fun _ _ _ => rfl) ?_
      refine jg_calX (M1 := mm_X12_wrong) (hy := 0) (pc' := 33) rfl jm_X12_wrong (by decide) rfl h0 (by decide) ⟨Nat.le_of_ble_eq_true rfl, rfl⟩ (Nat.le_of_ble_eq_true rfl) rfl h (jg_kI (fun z117 m116 h => ?_))
      exact jg_zret rfl rfl h.1 h.2
    · have h := jg_f h (show ¬ (jg_wr (σ.1 (a0 + 3) (1)) = 7) from hc)
      refine jg_A (pc' := 35) rfl rfl (fun _ _ _ => rfl) ?_
      refine jg_calX (M1 := mm_X12_nextToken) (hy := 1) (pc' := 38) rfl jm_X12_nextToken (by decide) rfl h0 (by decide) ⟨Nat.le_of_ble_eq_true rfl, rfl⟩ (Nat.le_of_ble_eq_true rfl) rfl h (jg_kV (fun m118 h => ?_))
      refine jg_A (pc' := 39) rfl rfl (fun _ _ _ => rfl) ?_
      refine jg_getI (pc' := 42) (bi := 8) rfl h0 (by decide) (Or.inl rfl) rfl rfl ?_
      refine jg_A (pc' := 43) rfl rfl (fun _ _ _ => rfl) ?_
      refine jg_ceq (pc' := 46) rfl rfl (fun hc => ?_) (fun hc => ?_)
      · have h := jg_t h (show jg_wr (m118.1 a0 8) = 2 from hc)
        refine jg_A (pc' := 53) rfl rfl (fun _ _ _ => rfl) ?_
        refine jg_A (pc' := 54) rfl rfl (fun _ _ _ => rfl) ?_
        refine jg_A (pc' := 55) rfl rfl (fun _ _ _ => rfl) ?_
        refine jg_getI (pc' := 58) (bi := 9) rfl h0 (by decide) (Or.inl rfl) rfl rfl ?_
        refine jg_calX (M1 := mm_X12_symbolBy) (hy := 1) (pc' := 61) rfl jm_X12_symbolBy (by decide) rfl h0 (by decide) ⟨Nat.le_of_ble_eq_true rfl, rfl⟩ (Nat.le_of_ble_eq_true rfl) rfl h (jg_kI (fun z120 m119 h => ?_))
        refine jg_iflt (pc' := 64) rfl rfl (fun hc => ?_) (fun hc => ?_)
        · have h := jg_t h (show jg_wr z120 < 0 from hc)
          refine jg_A (pc' := 71) rfl rfl (fun _ _ _ => rfl) ?_
          refine jg_ifeq (pc' := 74) rfl rfl (fun hc => ?_) (fun hc => ?_)
          · have h := jg_t h (show jg_wr x1 = 0 from hc)
            refine jg_A (pc' := 106) rfl rfl (fun _ _ _ => rfl) ?_
            refine jg_getO (pc' := 109) (k := 7) rfl h0 (by decide) rfl rfl ?_
            refine jg_A (pc' := 110) rfl rfl (fun _ _ _ => rfl) ?_
            refine jg_A (pc' := 111) rfl rfl (fun _ _ _ => rfl) ?_
            refine jg_getO (pc' := 114) (k := 4) rfl h0 (by decide) rfl rfl ?_
            refine jg_A (pc' := 115) rfl rfl (fun _ _ _ => rfl) ?_
            refine jg_ialdK (pc' := 116) (xi := 1) rfl (jg_sX12_13 h0) (by decide) (by decide) rfl ?_
            refine jg_iadd (pc' := 117) rfl rfl ?_
            refine jg_A (pc' := 118) rfl rfl (fun _ _ _ => rfl) ?_
            refine jg_getI (pc' := 121) (bi := 9) rfl h0 (by decide) (Or.inl rfl) rfl rfl ?_
            obtain ⟨hg, h⟩ := h
            refine jg_iast (pc' := 122) rfl (jg_sX12_16 h0) hg rfl (fun m121 hm121 => ?_)
            have h := h m121 hm121
            refine jg_A (pc' := 123) rfl rfl (fun _ _ _ => rfl) ?_
            refine jg_getO (pc' := 126) (k := 4) rfl h0 (by decide) rfl rfl ?_
            refine jg_A (pc' := 127) rfl rfl (fun _ _ _ => rfl) ?_
            refine jg_A (pc' := 128) rfl rfl (fun _ _ _ => rfl) ?_
            refine jg_ialdK (pc' := 129) (xi := 1) rfl (jg_sX12_13 h0) (by decide) (by decide) rfl ?_
            refine jg_A (pc' := 130) rfl rfl (fun _ _ _ => rfl) ?_
            refine jg_iadd (pc' := 131) rfl rfl ?_
            refine jg_iastK (pc' := 132) (xi := 1) rfl (jg_sX12_13 h0) (by decide) (by decide) rfl (fun m122 hm122 => ?_)
            have h := h m122 hm122
            refine jg_A (pc' := 133) rfl rfl (fun _ _ _ => rfl) ?_
            refine jg_calX (M1 := mm_X12_nextToken) (hy := 1) (pc' := 136) rfl jm_X12_nextToken (by decide) rfl h0 (by decide) ⟨Nat.le_of_ble_eq_true rfl, rfl⟩ (Nat.le_of_ble_eq_true rfl) rfl h (jg_kV (fun m123 h => ?_))
            refine jg_A (pc' := 137) rfl rfl (fun _ _ _ => rfl) ?_
            exact jg_zret rfl rfl (by decide) h
          · have h := jg_f h (show ¬ (jg_wr x1 = 0) from hc)
            refine jg_A (pc' := 75) rfl rfl (fun _ _ _ => rfl) ?_
            refine jg_getO (pc' := 78) (k := 6) rfl h0 (by decide) rfl rfl ?_
            refine jg_A (pc' := 80) rfl rfl (fun _ _ _ => rfl) ?_
            refine jg_A (pc' := 81) rfl rfl (fun _ _ _ => rfl) ?_
            refine jg_getO (pc' := 84) (k := 3) rfl h0 (by decide) rfl rfl ?_
            refine jg_A (pc' := 85) rfl rfl (fun _ _ _ => rfl) ?_
            refine jg_ialdK (pc' := 86) (xi := 1) rfl (jg_sX12_12 h0) (by decide) (by decide) rfl ?_
            refine jg_iadd (pc' := 87) rfl rfl ?_
            refine jg_A (pc' := 88) rfl rfl (fun _ _ _ => rfl) ?_
            refine jg_getI (pc' := 91) (bi := 9) rfl h0 (by decide) (Or.inl rfl) rfl rfl ?_
            obtain ⟨hg, h⟩ := h
            refine jg_iast (pc' := 92) rfl (jg_sX12_15 h0) hg rfl (fun m124 hm124 => ?_)
            have h := h m124 hm124
            refine jg_A (pc' := 93) rfl rfl (fun _ _ _ => rfl) ?_
            refine jg_getO (pc' := 96) (k := 3) rfl h0 (by decide) rfl rfl ?_
            refine jg_A (pc' := 97) rfl rfl (fun _ _ _ => rfl) ?_
            refine jg_A (pc' := 98) rfl rfl (fun _ _ _ => rfl) ?_
            refine jg_ialdK (pc' := 99) (xi := 1) rfl (jg_sX12_12 h0) (by decide) (by decide) rfl ?_
            refine jg_A (pc' := 100) rfl rfl (fun _ _ _ => rfl) ?_
            refine jg_iadd (pc' := 101) rfl rfl ?_
            refine jg_iastK (pc' := 102) (xi := 1) rfl (jg_sX12_12 h0) (by decide) (by decide) rfl (fun m125 hm125 => ?_)
            have h := h m125 hm125
            refine jg_goto rfl ?_
            refine jg_A (pc' := 133) rfl rfl (fun _ _ _ => rfl) ?_
            refine jg_calX (M1 := mm_X12_nextToken) (hy := 1) (pc' := 136) rfl jm_X12_nextToken (by decide) rfl h0 (by decide) ⟨Nat.le_of_ble_eq_true rfl, rfl⟩ (Nat.le_of_ble_eq_true rfl) rfl h (jg_kV (fun m126 h => ?_))
            refine jg_A (pc' := 137) rfl rfl (fun _ _ _ => rfl) ?_
            exact jg_zret rfl rfl (by decide) h
        · have h := jg_f h (show ¬ (jg_wr z120 < 0) from hc)
          refine jg_A (pc' := 65) rfl rfl (fun _ _ _ => rfl) ?_
          refine jg_A (pc' := 66) rfl rfl (fun _ _ _ => rfl) ?_
          refine jg_calX (M1 := mm_X12_wrong) (hy := 0) (pc' := 69) rfl jm_X12_wrong (by decide) rfl h0 (by decide) ⟨Nat.le_of_ble_eq_true rfl, rfl⟩ (Nat.le_of_ble_eq_true rfl) rfl h (jg_kI (fun z128 m127 h => ?_))
          exact jg_zret rfl rfl h.1 h.2
      · have h := jg_f h (show ¬ (jg_wr (m118.1 a0 8) = 2) from hc)
        refine jg_A (pc' := 47) rfl rfl (fun _ _ _ => rfl) ?_
        refine jg_A (pc' := 48) rfl rfl (fun _ _ _ => rfl) ?_
        refine jg_calX (M1 := mm_X12_wrong) (hy := 0) (pc' := 51) rfl jm_X12_wrong (by decide) rfl h0 (by decide) ⟨Nat.le_of_ble_eq_true rfl, rfl⟩ (Nat.le_of_ble_eq_true rfl) rfl h (jg_kI (fun z130 m129 h => ?_))
        exact jg_zret rfl rfl h.1 h.2
set_option maxRecDepth 100000 in
set_option maxHeartbeats 4000000 in
theorem jb_X12_ruleLine_0 {w : Nat} {a0 : Nat} {σ : jg_M} {Q : Int → jg_M → Prop} (h0 : jg_sh a0 = (12, 0)) (h : (if jg_wr (σ.1 (a0 + 5) (1)) = 12 then jg_CI w 0 mm_X12_wrong [.ref a0, .int (.ofInt 2)] σ (fun (z102 : Int) (m101 : jg_M) => ((jg_wr z102 = 0 ∨ jg_wr z102 = 1) ∧ Q z102 m101)) else jg_CV w 1 mm_X12_nextToken [.ref a0] σ (fun (m103 : jg_M) => ∀ t104 : Int, t104 = (13 + (m103.1 (a0 + 5) (1))) → (if jg_wr (m103.1 a0 8) = 2 then jg_CI w 0 mm_X12_find [.ref (a0 + 7), .int (.ofInt 5), .int (.ofInt (m103.1 (a0 + 4) (1))), .int (.ofInt (m103.1 a0 9))] m103 (fun (z106 : Int) (m105 : jg_M) => (if 0 ≤ jg_wr z106 then jg_CV w 1 mm_X12_nextToken [.ref a0] m105 (fun (m107 : jg_M) => ((0 : Int) ≤ (jg_wr t104) ∧ (jg_wr t104) < (26 : Int)) ∧ ∀ m108 : jg_M, m108 = jg_sI m107 (a0 + 10) (jg_wr t104) z106 → ((0 : Int) ≤ (jg_wr t104) ∧ (jg_wr t104) < (26 : Int)) ∧ ∀ m109 : jg_M, m109 = jg_sI m108 (a0 + 11) (jg_wr t104) 0 → jg_GI w 2 mm_X12_ruleLine 92 [.ref a0, .int (.ofInt t104), .int (.ofInt z106), mj_U] m109 Q) else jg_CI w 0 mm_X12_wrong [.ref a0, .int (.ofInt 4)] m105 (fun (z111 : Int) (m110 : jg_M) => ((jg_wr z111 = 0 ∨ jg_wr z111 = 1) ∧ Q z111 m110)))) else jg_CI w 0 mm_X12_wrong [.ref a0, .int (.ofInt 1)] m103 (fun (z113 : Int) (m112 : jg_M) => ((jg_wr z113 = 0 ∨ jg_wr z113 = 1) ∧ Q z113 m112)))))) : jg_CI w 2 mm_X12_ruleLine [.ref a0] σ Q := by
  show jg_G w 2 mm_X12_ruleLine 0 [.ref a0, mj_U, mj_U, mj_U] [] σ (jg_QI Q)
  refine jg_A (pc' := 1) rfl rfl (fun _ _ _ => rfl) ?_
  refine jg_getO (pc' := 4) (k := 5) rfl h0 (by decide) rfl rfl ?_
  refine jg_A (pc' := 5) rfl rfl (fun _ _ _ => rfl) ?_
  refine jg_ialdK (pc' := 6) (xi := 1) rfl (jg_sX12_14 h0) (by decide) (by decide) rfl ?_
  refine jg_A (pc' := 8) rfl rfl (fun _ _ _ => rfl) ?_
  refine jg_cne (pc' := 11) rfl rfl (fun hc => ?_) (fun hc => ?_)
  · have h := jg_t h (show jg_wr (σ.1 (a0 + 5) (1)) = 12 from hc)
    refine jg_A (pc' := 12) rfl rfl (fun _ _ _ => rfl) ?_
    refine jg_A (pc' := 13) rfl rfl (fun _ _ _ => rfl) ?_
    refine jg_calX (M1 := mm_X12_wrong) (hy := 0) (pc' := 16) rfl jm_X12_wrong (by decide) rfl h0 (by decide) ⟨Nat.le_of_ble_eq_true rfl, rfl⟩ (Nat.le_of_ble_eq_true rfl) rfl h (jg_kI (fun z102 m101 h => ?_))
    exact jg_zret rfl rfl h.1 h.2
  · have h := jg_f h (show ¬ (jg_wr (σ.1 (a0 + 5) (1)) = 12) from hc)
    refine jg_A (pc' := 18) rfl rfl (fun _ _ _ => rfl) ?_
    refine jg_calX (M1 := mm_X12_nextToken) (hy := 1) (pc' := 21) rfl jm_X12_nextToken (by decide) rfl h0 (by decide) ⟨Nat.le_of_ble_eq_true rfl, rfl⟩ (Nat.le_of_ble_eq_true rfl) rfl h (jg_kV (fun m103 h => ?_))
    refine jg_A (pc' := 23) rfl rfl (fun _ _ _ => rfl) ?_
    refine jg_A (pc' := 24) rfl rfl (fun _ _ _ => rfl) ?_
    refine jg_getO (pc' := 27) (k := 5) rfl h0 (by decide) rfl rfl ?_
    refine jg_A (pc' := 28) rfl rfl (fun _ _ _ => rfl) ?_
    refine jg_ialdK (pc' := 29) (xi := 1) rfl (jg_sX12_14 h0) (by decide) (by decide) rfl ?_
    refine jg_iadd (pc' := 30) rfl rfl ?_
    refine jg_nm (F := fun t104 => jg_G w 2 mm_X12_ruleLine 30 [.ref a0, mj_U, mj_U, mj_U] [.int (.ofInt t104)] m103 (jg_QI Q)) (13 + (m103.1 (a0 + 5) (1))) (fun t104 ht104 => ?_)
    have h := h t104 ht104
    refine jg_A (pc' := 31) (ls' := [.ref a0, .int (.ofInt t104), mj_U, mj_U]) rfl rfl (fun _ _ _ => rfl) ?_
    refine jg_A (pc' := 32) rfl rfl (fun _ _ _ => rfl) ?_
    refine jg_getI (pc' := 35) (bi := 8) rfl h0 (by decide) (Or.inl rfl) rfl rfl ?_
    refine jg_A (pc' := 36) rfl rfl (fun _ _ _ => rfl) ?_
    refine jg_ceq (pc' := 39) rfl rfl (fun hc => ?_) (fun hc => ?_)
    · have h := jg_t h (show jg_wr (m103.1 a0 8) = 2 from hc)
      refine jg_A (pc' := 46) rfl rfl (fun _ _ _ => rfl) ?_
      refine jg_getO (pc' := 49) (k := 7) rfl h0 (by decide) rfl rfl ?_
      refine jg_A (pc' := 50) rfl rfl (fun _ _ _ => rfl) ?_
      refine jg_A (pc' := 51) rfl rfl (fun _ _ _ => rfl) ?_
      refine jg_getO (pc' := 54) (k := 4) rfl h0 (by decide) rfl rfl ?_
      refine jg_A (pc' := 55) rfl rfl (fun _ _ _ => rfl) ?_
      refine jg_ialdK (pc' := 56) (xi := 1) rfl (jg_sX12_13 h0) (by decide) (by decide) rfl ?_
      refine jg_A (pc' := 57) rfl rfl (fun _ _ _ => rfl) ?_
      refine jg_getI (pc' := 60) (bi := 9) rfl h0 (by decide) (Or.inl rfl) rfl rfl ?_
      refine jg_calS (M1 := mm_X12_find) (hy := 0) (pc' := 63) rfl (Or.inl rfl) jm_X12_find (by decide) rfl ⟨Nat.le_of_ble_eq_true rfl, rfl⟩ (Nat.le_of_ble_eq_true rfl) rfl h (jg_kI (fun z106 m105 h => ?_))
      refine jg_A (pc' := 64) (ls' := [.ref a0, .int (.ofInt t104), .int (.ofInt z106), mj_U]) rfl rfl (fun _ _ _ => rfl) ?_
      refine jg_A (pc' := 65) rfl rfl (fun _ _ _ => rfl) ?_
      refine jg_ifge (pc' := 68) rfl rfl (fun hc => ?_) (fun hc => ?_)
      · have h := jg_t h (show 0 ≤ jg_wr z106 from hc)
        refine jg_A (pc' := 75) rfl rfl (fun _ _ _ => rfl) ?_
        refine jg_calX (M1 := mm_X12_nextToken) (hy := 1) (pc' := 78) rfl jm_X12_nextToken (by decide) rfl h0 (by decide) ⟨Nat.le_of_ble_eq_true rfl, rfl⟩ (Nat.le_of_ble_eq_true rfl) rfl h (jg_kV (fun m107 h => ?_))
        refine jg_A (pc' := 79) rfl rfl (fun _ _ _ => rfl) ?_
        refine jg_getO (pc' := 82) (k := 10) rfl h0 (by decide) rfl rfl ?_
        refine jg_A (pc' := 83) rfl rfl (fun _ _ _ => rfl) ?_
        refine jg_A (pc' := 84) rfl rfl (fun _ _ _ => rfl) ?_
        obtain ⟨hg, h⟩ := h
        refine jg_iast (pc' := 85) rfl (jg_sX12_19 h0) hg rfl (fun m108 hm108 => ?_)
        have h := h m108 hm108
        refine jg_A (pc' := 86) rfl rfl (fun _ _ _ => rfl) ?_
        refine jg_getO (pc' := 89) (k := 11) rfl h0 (by decide) rfl rfl ?_
        refine jg_A (pc' := 90) rfl rfl (fun _ _ _ => rfl) ?_
        refine jg_A (pc' := 91) rfl rfl (fun _ _ _ => rfl) ?_
        obtain ⟨hg, h⟩ := h
        refine jg_iast (pc' := 92) rfl (jg_sX12_20 h0) hg rfl (fun m109 hm109 => ?_)
        have h := h m109 hm109
        exact h
      · have h := jg_f h (show ¬ (0 ≤ jg_wr z106) from hc)
        refine jg_A (pc' := 69) rfl rfl (fun _ _ _ => rfl) ?_
        refine jg_A (pc' := 70) rfl rfl (fun _ _ _ => rfl) ?_
        refine jg_calX (M1 := mm_X12_wrong) (hy := 0) (pc' := 73) rfl jm_X12_wrong (by decide) rfl h0 (by decide) ⟨Nat.le_of_ble_eq_true rfl, rfl⟩ (Nat.le_of_ble_eq_true rfl) rfl h (jg_kI (fun z111 m110 h => ?_))
        exact jg_zret rfl rfl h.1 h.2
    · have h := jg_f h (show ¬ (jg_wr (m103.1 a0 8) = 2) from hc)
      refine jg_A (pc' := 40) rfl rfl (fun _ _ _ => rfl) ?_
      refine jg_A (pc' := 41) rfl rfl (fun _ _ _ => rfl) ?_
      refine jg_calX (M1 := mm_X12_wrong) (hy := 0) (pc' := 44) rfl jm_X12_wrong (by decide) rfl h0 (by decide) ⟨Nat.le_of_ble_eq_true rfl, rfl⟩ (Nat.le_of_ble_eq_true rfl) rfl h (jg_kI (fun z113 m112 h => ?_))
      exact jg_zret rfl rfl h.1 h.2
set_option maxRecDepth 100000 in
set_option maxHeartbeats 4000000 in
theorem jb_X12_ruleLine_92 {w : Nat} {a0 : Nat} {x1 : Int} {u2 : Value} {u3 : Value} {σ : jg_M} {Q : Int → jg_M → Prop} (h0 : jg_sh a0 = (12, 0)) (h : (if jg_wr (σ.1 a0 8) = 2 then ((0 : Int) ≤ jg_wr x1 ∧ jg_wr x1 < (26 : Int)) ∧ (if jg_wr (σ.1 (a0 + 11) (jg_wr x1)) = 4 then jg_CI w 0 mm_X12_wrong [.ref a0, .int (.ofInt 2)] σ (fun (z102 : Int) (m101 : jg_M) => ((jg_wr z102 = 0 ∨ jg_wr z102 = 1) ∧ Q z102 m101)) else jg_CI w 1 mm_X12_symbolBy [.ref a0, .int (.ofInt 1), .int (.ofInt (σ.1 a0 9))] σ (fun (z104 : Int) (m103 : jg_M) => (if 0 ≤ jg_wr z104 then ((0 : Int) ≤ jg_wr x1 ∧ jg_wr x1 < (26 : Int)) ∧ ((0 : Int) ≤ (jg_wr ((4 * x1) + (m103.1 (a0 + 11) (jg_wr x1)))) ∧ (jg_wr ((4 * x1) + (m103.1 (a0 + 11) (jg_wr x1)))) < (104 : Int)) ∧ ∀ m105 : jg_M, m105 = jg_sI m103 (a0 + 12) (jg_wr ((4 * x1) + (m103.1 (a0 + 11) (jg_wr x1)))) z104 → ((0 : Int) ≤ jg_wr x1 ∧ jg_wr x1 < (26 : Int)) ∧ ((0 : Int) ≤ (jg_wr x1) ∧ (jg_wr x1) < (26 : Int)) ∧ ∀ m106 : jg_M, m106 = jg_sI m105 (a0 + 11) (jg_wr x1) ((m105.1 (a0 + 11) (jg_wr x1)) + 1) → jg_CV w 1 mm_X12_nextToken [.ref a0] m106 (fun (m107 : jg_M) => jg_GI w 2 mm_X12_ruleLine 92 [.ref a0, .int (.ofInt x1), u2, .int (.ofInt z104)] m107 Q) else jg_CI w 0 mm_X12_wrong [.ref a0, .int (.ofInt 4)] m103 (fun (z109 : Int) (m108 : jg_M) => ((jg_wr z109 = 0 ∨ jg_wr z109 = 1) ∧ Q z109 m108))))) else jg_CI w 0 mm_X12_isSign [.ref a0, .int (.ofInt 59)] σ (fun (z111 : Int) (m110 : jg_M) => (if jg_wr z111 = 0 then jg_CI w 0 mm_X12_wrong [.ref a0, .int (.ofInt 1)] m110 (fun (z113 : Int) (m112 : jg_M) => ((jg_wr z113 = 0 ∨ jg_wr z113 = 1) ∧ Q z113 m112)) else jg_GI w 2 mm_X12_ruleLine 187 [.ref a0, .int (.ofInt x1), u2, .int (.ofInt 13)] m110 Q)))) : jg_GI w 2 mm_X12_ruleLine 92 [.ref a0, .int (.ofInt x1), u2, u3] σ Q := by
  show jg_G w 2 mm_X12_ruleLine 92 [.ref a0, .int (.ofInt x1), u2, u3] [] σ (jg_QI Q)
  refine jg_A (pc' := 93) rfl rfl (fun _ _ _ => rfl) ?_
  refine jg_getI (pc' := 96) (bi := 8) rfl h0 (by decide) (Or.inl rfl) rfl rfl ?_
  refine jg_A (pc' := 97) rfl rfl (fun _ _ _ => rfl) ?_
  refine jg_cne (pc' := 100) rfl rfl (fun hc => ?_) (fun hc => ?_)
  · have h := jg_t h (show jg_wr (σ.1 a0 8) = 2 from hc)
    refine jg_A (pc' := 101) rfl rfl (fun _ _ _ => rfl) ?_
    refine jg_getO (pc' := 104) (k := 11) rfl h0 (by decide) rfl rfl ?_
    refine jg_A (pc' := 105) rfl rfl (fun _ _ _ => rfl) ?_
    obtain ⟨hg, h⟩ := h
    refine jg_iald (pc' := 106) rfl (jg_sX12_20 h0) hg rfl ?_
    refine jg_A (pc' := 107) rfl rfl (fun _ _ _ => rfl) ?_
    refine jg_cne (pc' := 110) rfl rfl (fun hc => ?_) (fun hc => ?_)
    · have h := jg_t h (show jg_wr (σ.1 (a0 + 11) (jg_wr x1)) = 4 from hc)
      refine jg_A (pc' := 111) rfl rfl (fun _ _ _ => rfl) ?_
      refine jg_A (pc' := 112) rfl rfl (fun _ _ _ => rfl) ?_
      refine jg_calX (M1 := mm_X12_wrong) (hy := 0) (pc' := 115) rfl jm_X12_wrong (by decide) rfl h0 (by decide) ⟨Nat.le_of_ble_eq_true rfl, rfl⟩ (Nat.le_of_ble_eq_true rfl) rfl h (jg_kI (fun z102 m101 h => ?_))
      exact jg_zret rfl rfl h.1 h.2
    · have h := jg_f h (show ¬ (jg_wr (σ.1 (a0 + 11) (jg_wr x1)) = 4) from hc)
      refine jg_A (pc' := 117) rfl rfl (fun _ _ _ => rfl) ?_
      refine jg_A (pc' := 118) rfl rfl (fun _ _ _ => rfl) ?_
      refine jg_A (pc' := 119) rfl rfl (fun _ _ _ => rfl) ?_
      refine jg_getI (pc' := 122) (bi := 9) rfl h0 (by decide) (Or.inl rfl) rfl rfl ?_
      refine jg_calX (M1 := mm_X12_symbolBy) (hy := 1) (pc' := 125) rfl jm_X12_symbolBy (by decide) rfl h0 (by decide) ⟨Nat.le_of_ble_eq_true rfl, rfl⟩ (Nat.le_of_ble_eq_true rfl) rfl h (jg_kI (fun z104 m103 h => ?_))
      refine jg_A (pc' := 126) (ls' := [.ref a0, .int (.ofInt x1), u2, .int (.ofInt z104)]) rfl rfl (fun _ _ _ => rfl) ?_
      refine jg_A (pc' := 127) rfl rfl (fun _ _ _ => rfl) ?_
      refine jg_ifge (pc' := 130) rfl rfl (fun hc => ?_) (fun hc => ?_)
      · have h := jg_t h (show 0 ≤ jg_wr z104 from hc)
        refine jg_A (pc' := 137) rfl rfl (fun _ _ _ => rfl) ?_
        refine jg_getO (pc' := 140) (k := 12) rfl h0 (by decide) rfl rfl ?_
        refine jg_A (pc' := 141) rfl rfl (fun _ _ _ => rfl) ?_
        refine jg_A (pc' := 142) rfl rfl (fun _ _ _ => rfl) ?_
        refine jg_imul (pc' := 143) rfl rfl ?_
        refine jg_A (pc' := 144) rfl rfl (fun _ _ _ => rfl) ?_
        refine jg_getO (pc' := 147) (k := 11) rfl h0 (by decide) rfl rfl ?_
        refine jg_A (pc' := 148) rfl rfl (fun _ _ _ => rfl) ?_
        obtain ⟨hg, h⟩ := h
        refine jg_iald (pc' := 149) rfl (jg_sX12_20 h0) hg rfl ?_
        refine jg_iadd (pc' := 150) rfl rfl ?_
        refine jg_A (pc' := 151) rfl rfl (fun _ _ _ => rfl) ?_
        obtain ⟨hg, h⟩ := h
        refine jg_iast (pc' := 152) rfl (jg_sX12_21 h0) hg rfl (fun m105 hm105 => ?_)
        have h := h m105 hm105
        refine jg_A (pc' := 153) rfl rfl (fun _ _ _ => rfl) ?_
        refine jg_getO (pc' := 156) (k := 11) rfl h0 (by decide) rfl rfl ?_
        refine jg_A (pc' := 157) rfl rfl (fun _ _ _ => rfl) ?_
        refine jg_A (pc' := 158) rfl rfl (fun _ _ _ => rfl) ?_
        obtain ⟨hg, h⟩ := h
        refine jg_iald (pc' := 159) rfl (jg_sX12_20 h0) hg rfl ?_
        refine jg_A (pc' := 160) rfl rfl (fun _ _ _ => rfl) ?_
        refine jg_iadd (pc' := 161) rfl rfl ?_
        obtain ⟨hg, h⟩ := h
        refine jg_iast (pc' := 162) rfl (jg_sX12_20 h0) hg rfl (fun m106 hm106 => ?_)
        have h := h m106 hm106
        refine jg_A (pc' := 163) rfl rfl (fun _ _ _ => rfl) ?_
        refine jg_calX (M1 := mm_X12_nextToken) (hy := 1) (pc' := 166) rfl jm_X12_nextToken (by decide) rfl h0 (by decide) ⟨Nat.le_of_ble_eq_true rfl, rfl⟩ (Nat.le_of_ble_eq_true rfl) rfl h (jg_kV (fun m107 h => ?_))
        refine jg_goto rfl ?_
        exact h
      · have h := jg_f h (show ¬ (0 ≤ jg_wr z104) from hc)
        refine jg_A (pc' := 131) rfl rfl (fun _ _ _ => rfl) ?_
        refine jg_A (pc' := 132) rfl rfl (fun _ _ _ => rfl) ?_
        refine jg_calX (M1 := mm_X12_wrong) (hy := 0) (pc' := 135) rfl jm_X12_wrong (by decide) rfl h0 (by decide) ⟨Nat.le_of_ble_eq_true rfl, rfl⟩ (Nat.le_of_ble_eq_true rfl) rfl h (jg_kI (fun z109 m108 h => ?_))
        exact jg_zret rfl rfl h.1 h.2
  · have h := jg_f h (show ¬ (jg_wr (σ.1 a0 8) = 2) from hc)
    refine jg_A (pc' := 170) rfl rfl (fun _ _ _ => rfl) ?_
    refine jg_A (pc' := 172) rfl rfl (fun _ _ _ => rfl) ?_
    refine jg_calX (M1 := mm_X12_isSign) (hy := 0) (pc' := 175) rfl jm_X12_isSign (by decide) rfl h0 (by decide) ⟨Nat.le_of_ble_eq_true rfl, rfl⟩ (Nat.le_of_ble_eq_true rfl) rfl h (jg_kI (fun z111 m110 h => ?_))
    refine jg_ifne (pc' := 178) rfl rfl (fun hc => ?_) (fun hc => ?_)
    · have h := jg_t h (show jg_wr z111 = 0 from hc)
      refine jg_A (pc' := 179) rfl rfl (fun _ _ _ => rfl) ?_
      refine jg_A (pc' := 180) rfl rfl (fun _ _ _ => rfl) ?_
      refine jg_calX (M1 := mm_X12_wrong) (hy := 0) (pc' := 183) rfl jm_X12_wrong (by decide) rfl h0 (by decide) ⟨Nat.le_of_ble_eq_true rfl, rfl⟩ (Nat.le_of_ble_eq_true rfl) rfl h (jg_kI (fun z113 m112 h => ?_))
      exact jg_zret rfl rfl h.1 h.2
    · have h := jg_f h (show ¬ (jg_wr z111 = 0) from hc)
      refine jg_A (pc' := 186) rfl rfl (fun _ _ _ => rfl) ?_
      refine jg_A (pc' := 187) (ls' := [.ref a0, .int (.ofInt x1), u2, .int (.ofInt 13)]) rfl rfl (fun _ _ _ => rfl) ?_
      exact h
set_option maxRecDepth 100000 in
set_option maxHeartbeats 4000000 in
theorem jb_X12_ruleLine_187 {w : Nat} {a0 : Nat} {x1 : Int} {u2 : Value} {x3 : Int} {σ : jg_M} {Q : Int → jg_M → Prop} (h0 : jg_sh a0 = (12, 0)) (h : (if jg_wr x1 ≤ jg_wr x3 then ∀ m101 : jg_M, m101 = jg_sI σ (a0 + 5) 1 ((σ.1 (a0 + 5) (1)) + 1) → Q 1 m101 else jg_CI w 0 mm_X12_isAlike [.ref a0, .int (.ofInt x3), .int (.ofInt x1)] σ (fun (z103 : Int) (m102 : jg_M) => (if jg_wr z103 = 0 then jg_GI w 2 mm_X12_ruleLine 187 [.ref a0, .int (.ofInt x1), u2, .int (.ofInt (x3 + 1))] m102 Q else jg_CI w 0 mm_X12_wrong [.ref a0, .int (.ofInt 5)] m102 (fun (z105 : Int) (m104 : jg_M) => ((jg_wr z105 = 0 ∨ jg_wr z105 = 1) ∧ Q z105 m104)))))) : jg_GI w 2 mm_X12_ruleLine 187 [.ref a0, .int (.ofInt x1), u2, .int (.ofInt x3)] σ Q := by
  show jg_G w 2 mm_X12_ruleLine 187 [.ref a0, .int (.ofInt x1), u2, .int (.ofInt x3)] [] σ (jg_QI Q)
  refine jg_A (pc' := 188) rfl rfl (fun _ _ _ => rfl) ?_
  refine jg_A (pc' := 189) rfl rfl (fun _ _ _ => rfl) ?_
  refine jg_cge (pc' := 192) rfl rfl (fun hc => ?_) (fun hc => ?_)
  · have h := jg_t h (show jg_wr x1 ≤ jg_wr x3 from hc)
    refine jg_A (pc' := 214) rfl rfl (fun _ _ _ => rfl) ?_
    refine jg_getO (pc' := 217) (k := 5) rfl h0 (by decide) rfl rfl ?_
    refine jg_A (pc' := 218) rfl rfl (fun _ _ _ => rfl) ?_
    refine jg_A (pc' := 219) rfl rfl (fun _ _ _ => rfl) ?_
    refine jg_ialdK (pc' := 220) (xi := 1) rfl (jg_sX12_14 h0) (by decide) (by decide) rfl ?_
    refine jg_A (pc' := 221) rfl rfl (fun _ _ _ => rfl) ?_
    refine jg_iadd (pc' := 222) rfl rfl ?_
    refine jg_iastK (pc' := 223) (xi := 1) rfl (jg_sX12_14 h0) (by decide) (by decide) rfl (fun m101 hm101 => ?_)
    have h := h m101 hm101
    refine jg_A (pc' := 224) rfl rfl (fun _ _ _ => rfl) ?_
    exact jg_zret rfl rfl (by decide) h
  · have h := jg_f h (show ¬ (jg_wr x1 ≤ jg_wr x3) from hc)
    refine jg_A (pc' := 193) rfl rfl (fun _ _ _ => rfl) ?_
    refine jg_A (pc' := 194) rfl rfl (fun _ _ _ => rfl) ?_
    refine jg_A (pc' := 195) rfl rfl (fun _ _ _ => rfl) ?_
    refine jg_calX (M1 := mm_X12_isAlike) (hy := 0) (pc' := 198) rfl jm_X12_isAlike (by decide) rfl h0 (by decide) ⟨Nat.le_of_ble_eq_true rfl, rfl⟩ (Nat.le_of_ble_eq_true rfl) rfl h (jg_kI (fun z103 m102 h => ?_))
    refine jg_ifeq (pc' := 201) rfl rfl (fun hc => ?_) (fun hc => ?_)
    · have h := jg_t h (show jg_wr z103 = 0 from hc)
      refine jg_iinc (pc' := 210) (ls' := [.ref a0, .int (.ofInt x1), u2, .int (.ofInt (x3 + 1))]) rfl rfl rfl rfl ?_
      refine jg_goto rfl ?_
      exact h
    · have h := jg_f h (show ¬ (jg_wr z103 = 0) from hc)
      refine jg_A (pc' := 202) rfl rfl (fun _ _ _ => rfl) ?_
      refine jg_A (pc' := 203) rfl rfl (fun _ _ _ => rfl) ?_
      refine jg_calX (M1 := mm_X12_wrong) (hy := 0) (pc' := 206) rfl jm_X12_wrong (by decide) rfl h0 (by decide) ⟨Nat.le_of_ble_eq_true rfl, rfl⟩ (Nat.le_of_ble_eq_true rfl) rfl h (jg_kI (fun z105 m104 h => ?_))
      exact jg_zret rfl rfl h.1 h.2
set_option maxRecDepth 100000 in
set_option maxHeartbeats 4000000 in
theorem jb_X12_isAlike_0 {w : Nat} {a0 : Nat} {x1 : Int} {x2 : Int} {σ : jg_M} {Q : Int → jg_M → Prop} (h0 : jg_sh a0 = (12, 0)) (h : ((0 : Int) ≤ jg_wr x1 ∧ jg_wr x1 < (26 : Int)) ∧ ((0 : Int) ≤ jg_wr x2 ∧ jg_wr x2 < (26 : Int)) ∧ (if jg_wr (σ.1 (a0 + 10) (jg_wr x1)) = jg_wr (σ.1 (a0 + 10) (jg_wr x2)) then ((0 : Int) ≤ jg_wr x1 ∧ jg_wr x1 < (26 : Int)) ∧ ((0 : Int) ≤ jg_wr x2 ∧ jg_wr x2 < (26 : Int)) ∧ (if jg_wr (σ.1 (a0 + 11) (jg_wr x1)) = jg_wr (σ.1 (a0 + 11) (jg_wr x2)) then jg_GI w 0 mm_X12_isAlike 34 [.ref a0, .int (.ofInt x1), .int (.ofInt x2), .int (.ofInt 0)] σ Q else Q 0 σ) else Q 0 σ)) : jg_CI w 0 mm_X12_isAlike [.ref a0, .int (.ofInt x1), .int (.ofInt x2)] σ Q := by
  show jg_G w 0 mm_X12_isAlike 0 [.ref a0, .int (.ofInt x1), .int (.ofInt x2), mj_U] [] σ (jg_QI Q)
  refine jg_A (pc' := 1) rfl rfl (fun _ _ _ => rfl) ?_
  refine jg_getO (pc' := 4) (k := 10) rfl h0 (by decide) rfl rfl ?_
  refine jg_A (pc' := 5) rfl rfl (fun _ _ _ => rfl) ?_
  obtain ⟨hg, h⟩ := h
  refine jg_iald (pc' := 6) rfl (jg_sX12_19 h0) hg rfl ?_
  refine jg_A (pc' := 7) rfl rfl (fun _ _ _ => rfl) ?_
  refine jg_getO (pc' := 10) (k := 10) rfl h0 (by decide) rfl rfl ?_
  refine jg_A (pc' := 11) rfl rfl (fun _ _ _ => rfl) ?_
  obtain ⟨hg, h⟩ := h
  refine jg_iald (pc' := 12) rfl (jg_sX12_19 h0) hg rfl ?_
  refine jg_cne (pc' := 15) rfl rfl (fun hc => ?_) (fun hc => ?_)
  · have h := jg_t h (show jg_wr (σ.1 (a0 + 10) (jg_wr x1)) = jg_wr (σ.1 (a0 + 10) (jg_wr x2)) from hc)
    refine jg_A (pc' := 16) rfl rfl (fun _ _ _ => rfl) ?_
    refine jg_getO (pc' := 19) (k := 11) rfl h0 (by decide) rfl rfl ?_
    refine jg_A (pc' := 20) rfl rfl (fun _ _ _ => rfl) ?_
    obtain ⟨hg, h⟩ := h
    refine jg_iald (pc' := 21) rfl (jg_sX12_20 h0) hg rfl ?_
    refine jg_A (pc' := 22) rfl rfl (fun _ _ _ => rfl) ?_
    refine jg_getO (pc' := 25) (k := 11) rfl h0 (by decide) rfl rfl ?_
    refine jg_A (pc' := 26) rfl rfl (fun _ _ _ => rfl) ?_
    obtain ⟨hg, h⟩ := h
    refine jg_iald (pc' := 27) rfl (jg_sX12_20 h0) hg rfl ?_
    refine jg_ceq (pc' := 30) rfl rfl (fun hc => ?_) (fun hc => ?_)
    · have h := jg_t h (show jg_wr (σ.1 (a0 + 11) (jg_wr x1)) = jg_wr (σ.1 (a0 + 11) (jg_wr x2)) from hc)
      refine jg_A (pc' := 33) rfl rfl (fun _ _ _ => rfl) ?_
      refine jg_A (pc' := 34) (ls' := [.ref a0, .int (.ofInt x1), .int (.ofInt x2), .int (.ofInt 0)]) rfl rfl (fun _ _ _ => rfl) ?_
      exact h
    · have h := jg_f h (show ¬ (jg_wr (σ.1 (a0 + 11) (jg_wr x1)) = jg_wr (σ.1 (a0 + 11) (jg_wr x2))) from hc)
      refine jg_A (pc' := 31) rfl rfl (fun _ _ _ => rfl) ?_
      exact jg_zret rfl rfl (by decide) h
  · have h := jg_f h (show ¬ (jg_wr (σ.1 (a0 + 10) (jg_wr x1)) = jg_wr (σ.1 (a0 + 10) (jg_wr x2))) from hc)
    refine jg_A (pc' := 31) rfl rfl (fun _ _ _ => rfl) ?_
    exact jg_zret rfl rfl (by decide) h
set_option maxRecDepth 100000 in
set_option maxHeartbeats 4000000 in
theorem jb_X12_isAlike_34 {w : Nat} {a0 : Nat} {x1 : Int} {x2 : Int} {x3 : Int} {σ : jg_M} {Q : Int → jg_M → Prop} (h0 : jg_sh a0 = (12, 0)) (h : ((0 : Int) ≤ jg_wr x2 ∧ jg_wr x2 < (26 : Int)) ∧ (if jg_wr (σ.1 (a0 + 11) (jg_wr x2)) ≤ jg_wr x3 then Q 1 σ else ((0 : Int) ≤ jg_wr ((4 * x1) + x3) ∧ jg_wr ((4 * x1) + x3) < (104 : Int)) ∧ ((0 : Int) ≤ jg_wr ((4 * x2) + x3) ∧ jg_wr ((4 * x2) + x3) < (104 : Int)) ∧ (if jg_wr (σ.1 (a0 + 12) (jg_wr ((4 * x1) + x3))) = jg_wr (σ.1 (a0 + 12) (jg_wr ((4 * x2) + x3))) then jg_GI w 0 mm_X12_isAlike 34 [.ref a0, .int (.ofInt x1), .int (.ofInt x2), .int (.ofInt (x3 + 1))] σ Q else Q 0 σ))) : jg_GI w 0 mm_X12_isAlike 34 [.ref a0, .int (.ofInt x1), .int (.ofInt x2), .int (.ofInt x3)] σ Q := by
  show jg_G w 0 mm_X12_isAlike 34 [.ref a0, .int (.ofInt x1), .int (.ofInt x2), .int (.ofInt x3)] [] σ (jg_QI Q)
  refine jg_A (pc' := 35) rfl rfl (fun _ _ _ => rfl) ?_
  refine jg_A (pc' := 36) rfl rfl (fun _ _ _ => rfl) ?_
  refine jg_getO (pc' := 39) (k := 11) rfl h0 (by decide) rfl rfl ?_
  refine jg_A (pc' := 40) rfl rfl (fun _ _ _ => rfl) ?_
  obtain ⟨hg, h⟩ := h
  refine jg_iald (pc' := 41) rfl (jg_sX12_20 h0) hg rfl ?_
  refine jg_cge (pc' := 44) rfl rfl (fun hc => ?_) (fun hc => ?_)
  · have h := jg_t h (show jg_wr (σ.1 (a0 + 11) (jg_wr x2)) ≤ jg_wr x3 from hc)
    refine jg_A (pc' := 76) rfl rfl (fun _ _ _ => rfl) ?_
    exact jg_zret rfl rfl (by decide) h
  · have h := jg_f h (show ¬ (jg_wr (σ.1 (a0 + 11) (jg_wr x2)) ≤ jg_wr x3) from hc)
    refine jg_A (pc' := 45) rfl rfl (fun _ _ _ => rfl) ?_
    refine jg_getO (pc' := 48) (k := 12) rfl h0 (by decide) rfl rfl ?_
    refine jg_A (pc' := 49) rfl rfl (fun _ _ _ => rfl) ?_
    refine jg_A (pc' := 50) rfl rfl (fun _ _ _ => rfl) ?_
    refine jg_imul (pc' := 51) rfl rfl ?_
    refine jg_A (pc' := 52) rfl rfl (fun _ _ _ => rfl) ?_
    refine jg_iadd (pc' := 53) rfl rfl ?_
    obtain ⟨hg, h⟩ := h
    refine jg_iald (pc' := 54) rfl (jg_sX12_21 h0) hg rfl ?_
    refine jg_A (pc' := 55) rfl rfl (fun _ _ _ => rfl) ?_
    refine jg_getO (pc' := 58) (k := 12) rfl h0 (by decide) rfl rfl ?_
    refine jg_A (pc' := 59) rfl rfl (fun _ _ _ => rfl) ?_
    refine jg_A (pc' := 60) rfl rfl (fun _ _ _ => rfl) ?_
    refine jg_imul (pc' := 61) rfl rfl ?_
    refine jg_A (pc' := 62) rfl rfl (fun _ _ _ => rfl) ?_
    refine jg_iadd (pc' := 63) rfl rfl ?_
    obtain ⟨hg, h⟩ := h
    refine jg_iald (pc' := 64) rfl (jg_sX12_21 h0) hg rfl ?_
    refine jg_ceq (pc' := 67) rfl rfl (fun hc => ?_) (fun hc => ?_)
    · have h := jg_t h (show jg_wr (σ.1 (a0 + 12) (jg_wr ((4 * x1) + x3))) = jg_wr (σ.1 (a0 + 12) (jg_wr ((4 * x2) + x3))) from hc)
      refine jg_iinc (pc' := 72) (ls' := [.ref a0, .int (.ofInt x1), .int (.ofInt x2), .int (.ofInt (x3 + 1))]) rfl rfl rfl rfl ?_
      refine jg_goto rfl ?_
      exact h
    · have h := jg_f h (show ¬ (jg_wr (σ.1 (a0 + 12) (jg_wr ((4 * x1) + x3))) = jg_wr (σ.1 (a0 + 12) (jg_wr ((4 * x2) + x3)))) from hc)
      refine jg_A (pc' := 68) rfl rfl (fun _ _ _ => rfl) ?_
      exact jg_zret rfl rfl (by decide) h
set_option maxRecDepth 100000 in
set_option maxHeartbeats 4000000 in
theorem jb_X12_rankLine_0 {w : Nat} {a0 : Nat} {σ : jg_M} {Q : Int → jg_M → Prop} (h0 : jg_sh a0 = (12, 0)) (h : jg_CV w 1 mm_X12_nextToken [.ref a0] σ (fun (m101 : jg_M) => (if jg_wr (m101.1 a0 8) = 2 then jg_CI w 0 mm_X12_find [.ref (a0 + 6), .int (.ofInt 7), .int (.ofInt (m101.1 (a0 + 3) (1))), .int (.ofInt (m101.1 a0 9))] m101 (fun (z103 : Int) (m102 : jg_M) => (if 0 ≤ jg_wr z103 then ((0 : Int) ≤ jg_wr (7 + z103) ∧ jg_wr (7 + z103) < (14 : Int)) ∧ (if jg_wr (m102.1 (a0 + 8) (jg_wr (7 + z103))) ≤ 0 then jg_CV w 1 mm_X12_nextToken [.ref a0] m102 (fun (m104 : jg_M) => jg_CI w 2 mm_X12_number [.ref a0, .int (.ofInt 1), .int (.ofInt 9)] m104 (fun (z106 : Int) (m105 : jg_M) => (if jg_wr z106 = 0 then Q 0 m105 else ((0 : Int) ≤ (jg_wr (7 + z103)) ∧ (jg_wr (7 + z103)) < (14 : Int)) ∧ ∀ m107 : jg_M, m107 = jg_sI m105 (a0 + 8) (jg_wr (7 + z103)) (m105.1 a0 11) → jg_CI w 2 mm_X12_number [.ref a0, .int (.ofInt 0), .int (.ofInt 2)] m107 (fun (z109 : Int) (m108 : jg_M) => (if jg_wr z109 = 0 then Q 0 m108 else ((0 : Int) ≤ (jg_wr (7 + z103)) ∧ (jg_wr (7 + z103)) < (14 : Int)) ∧ ∀ m110 : jg_M, m110 = jg_sI m108 (a0 + 9) (jg_wr (7 + z103)) (m108.1 a0 11) → Q 1 m110))))) else jg_CI w 0 mm_X12_wrong [.ref a0, .int (.ofInt 3)] m102 (fun (z112 : Int) (m111 : jg_M) => ((jg_wr z112 = 0 ∨ jg_wr z112 = 1) ∧ Q z112 m111))) else jg_CI w 0 mm_X12_wrong [.ref a0, .int (.ofInt 4)] m102 (fun (z114 : Int) (m113 : jg_M) => ((jg_wr z114 = 0 ∨ jg_wr z114 = 1) ∧ Q z114 m113)))) else jg_CI w 0 mm_X12_wrong [.ref a0, .int (.ofInt 1)] m101 (fun (z116 : Int) (m115 : jg_M) => ((jg_wr z116 = 0 ∨ jg_wr z116 = 1) ∧ Q z116 m115))))) : jg_CI w 3 mm_X12_rankLine [.ref a0] σ Q := by
  show jg_G w 3 mm_X12_rankLine 0 [.ref a0, mj_U] [] σ (jg_QI Q)
  refine jg_A (pc' := 1) rfl rfl (fun _ _ _ => rfl) ?_
  refine jg_calX (M1 := mm_X12_nextToken) (hy := 1) (pc' := 4) rfl jm_X12_nextToken (by decide) rfl h0 (by decide) ⟨Nat.le_of_ble_eq_true rfl, rfl⟩ (Nat.le_of_ble_eq_true rfl) rfl h (jg_kV (fun m101 h => ?_))
  refine jg_A (pc' := 5) rfl rfl (fun _ _ _ => rfl) ?_
  refine jg_getI (pc' := 8) (bi := 8) rfl h0 (by decide) (Or.inl rfl) rfl rfl ?_
  refine jg_A (pc' := 9) rfl rfl (fun _ _ _ => rfl) ?_
  refine jg_ceq (pc' := 12) rfl rfl (fun hc => ?_) (fun hc => ?_)
  · have h := jg_t h (show jg_wr (m101.1 a0 8) = 2 from hc)
    refine jg_A (pc' := 19) rfl rfl (fun _ _ _ => rfl) ?_
    refine jg_getO (pc' := 22) (k := 6) rfl h0 (by decide) rfl rfl ?_
    refine jg_A (pc' := 24) rfl rfl (fun _ _ _ => rfl) ?_
    refine jg_A (pc' := 25) rfl rfl (fun _ _ _ => rfl) ?_
    refine jg_getO (pc' := 28) (k := 3) rfl h0 (by decide) rfl rfl ?_
    refine jg_A (pc' := 29) rfl rfl (fun _ _ _ => rfl) ?_
    refine jg_ialdK (pc' := 30) (xi := 1) rfl (jg_sX12_12 h0) (by decide) (by decide) rfl ?_
    refine jg_A (pc' := 31) rfl rfl (fun _ _ _ => rfl) ?_
    refine jg_getI (pc' := 34) (bi := 9) rfl h0 (by decide) (Or.inl rfl) rfl rfl ?_
    refine jg_calS (M1 := mm_X12_find) (hy := 0) (pc' := 37) rfl (Or.inl rfl) jm_X12_find (by decide) rfl ⟨Nat.le_of_ble_eq_true rfl, rfl⟩ (Nat.le_of_ble_eq_true rfl) rfl h (jg_kI (fun z103 m102 h => ?_))
    refine jg_A (pc' := 38) (ls' := [.ref a0, .int (.ofInt z103)]) rfl rfl (fun _ _ _ => rfl) ?_
    refine jg_A (pc' := 39) rfl rfl (fun _ _ _ => rfl) ?_
    refine jg_ifge (pc' := 42) rfl rfl (fun hc => ?_) (fun hc => ?_)
    · have h := jg_t h (show 0 ≤ jg_wr z103 from hc)
      refine jg_A (pc' := 49) rfl rfl (fun _ _ _ => rfl) ?_
      refine jg_getO (pc' := 52) (k := 8) rfl h0 (by decide) rfl rfl ?_
      refine jg_A (pc' := 54) rfl rfl (fun _ _ _ => rfl) ?_
      refine jg_A (pc' := 55) rfl rfl (fun _ _ _ => rfl) ?_
      refine jg_iadd (pc' := 56) rfl rfl ?_
      obtain ⟨hg, h⟩ := h
      refine jg_iald (pc' := 57) rfl (jg_sX12_17 h0) hg rfl ?_
      refine jg_ifle (pc' := 60) rfl rfl (fun hc => ?_) (fun hc => ?_)
      · have h := jg_t h (show jg_wr (m102.1 (a0 + 8) (jg_wr (7 + z103))) ≤ 0 from hc)
        refine jg_A (pc' := 67) rfl rfl (fun _ _ _ => rfl) ?_
        refine jg_calX (M1 := mm_X12_nextToken) (hy := 1) (pc' := 70) rfl jm_X12_nextToken (by decide) rfl h0 (by decide) ⟨Nat.le_of_ble_eq_true rfl, rfl⟩ (Nat.le_of_ble_eq_true rfl) rfl h (jg_kV (fun m104 h => ?_))
        refine jg_A (pc' := 71) rfl rfl (fun _ _ _ => rfl) ?_
        refine jg_A (pc' := 72) rfl rfl (fun _ _ _ => rfl) ?_
        refine jg_A (pc' := 74) rfl rfl (fun _ _ _ => rfl) ?_
        refine jg_calX (M1 := mm_X12_number) (hy := 2) (pc' := 77) rfl jm_X12_number (by decide) rfl h0 (by decide) ⟨Nat.le_of_ble_eq_true rfl, rfl⟩ (Nat.le_of_ble_eq_true rfl) rfl h (jg_kI (fun z106 m105 h => ?_))
        refine jg_ifne (pc' := 80) rfl rfl (fun hc => ?_) (fun hc => ?_)
        · have h := jg_t h (show jg_wr z106 = 0 from hc)
          refine jg_A (pc' := 81) rfl rfl (fun _ _ _ => rfl) ?_
          exact jg_zret rfl rfl (by decide) h
        · have h := jg_f h (show ¬ (jg_wr z106 = 0) from hc)
          refine jg_A (pc' := 83) rfl rfl (fun _ _ _ => rfl) ?_
          refine jg_getO (pc' := 86) (k := 8) rfl h0 (by decide) rfl rfl ?_
          refine jg_A (pc' := 88) rfl rfl (fun _ _ _ => rfl) ?_
          refine jg_A (pc' := 89) rfl rfl (fun _ _ _ => rfl) ?_
          refine jg_iadd (pc' := 90) rfl rfl ?_
          refine jg_A (pc' := 91) rfl rfl (fun _ _ _ => rfl) ?_
          refine jg_getI (pc' := 94) (bi := 11) rfl h0 (by decide) (Or.inl rfl) rfl rfl ?_
          obtain ⟨hg, h⟩ := h
          refine jg_iast (pc' := 95) rfl (jg_sX12_17 h0) hg rfl (fun m107 hm107 => ?_)
          have h := h m107 hm107
          refine jg_A (pc' := 96) rfl rfl (fun _ _ _ => rfl) ?_
          refine jg_A (pc' := 97) rfl rfl (fun _ _ _ => rfl) ?_
          refine jg_A (pc' := 98) rfl rfl (fun _ _ _ => rfl) ?_
          refine jg_calX (M1 := mm_X12_number) (hy := 2) (pc' := 101) rfl jm_X12_number (by decide) rfl h0 (by decide) ⟨Nat.le_of_ble_eq_true rfl, rfl⟩ (Nat.le_of_ble_eq_true rfl) rfl h (jg_kI (fun z109 m108 h => ?_))
          refine jg_ifne (pc' := 104) rfl rfl (fun hc => ?_) (fun hc => ?_)
          · have h := jg_t h (show jg_wr z109 = 0 from hc)
            refine jg_A (pc' := 105) rfl rfl (fun _ _ _ => rfl) ?_
            exact jg_zret rfl rfl (by decide) h
          · have h := jg_f h (show ¬ (jg_wr z109 = 0) from hc)
            refine jg_A (pc' := 107) rfl rfl (fun _ _ _ => rfl) ?_
            refine jg_getO (pc' := 110) (k := 9) rfl h0 (by decide) rfl rfl ?_
            refine jg_A (pc' := 112) rfl rfl (fun _ _ _ => rfl) ?_
            refine jg_A (pc' := 113) rfl rfl (fun _ _ _ => rfl) ?_
            refine jg_iadd (pc' := 114) rfl rfl ?_
            refine jg_A (pc' := 115) rfl rfl (fun _ _ _ => rfl) ?_
            refine jg_getI (pc' := 118) (bi := 11) rfl h0 (by decide) (Or.inl rfl) rfl rfl ?_
            obtain ⟨hg, h⟩ := h
            refine jg_iast (pc' := 119) rfl (jg_sX12_18 h0) hg rfl (fun m110 hm110 => ?_)
            have h := h m110 hm110
            refine jg_A (pc' := 120) rfl rfl (fun _ _ _ => rfl) ?_
            exact jg_zret rfl rfl (by decide) h
      · have h := jg_f h (show ¬ (jg_wr (m102.1 (a0 + 8) (jg_wr (7 + z103))) ≤ 0) from hc)
        refine jg_A (pc' := 61) rfl rfl (fun _ _ _ => rfl) ?_
        refine jg_A (pc' := 62) rfl rfl (fun _ _ _ => rfl) ?_
        refine jg_calX (M1 := mm_X12_wrong) (hy := 0) (pc' := 65) rfl jm_X12_wrong (by decide) rfl h0 (by decide) ⟨Nat.le_of_ble_eq_true rfl, rfl⟩ (Nat.le_of_ble_eq_true rfl) rfl h (jg_kI (fun z112 m111 h => ?_))
        exact jg_zret rfl rfl h.1 h.2
    · have h := jg_f h (show ¬ (0 ≤ jg_wr z103) from hc)
      refine jg_A (pc' := 43) rfl rfl (fun _ _ _ => rfl) ?_
      refine jg_A (pc' := 44) rfl rfl (fun _ _ _ => rfl) ?_
      refine jg_calX (M1 := mm_X12_wrong) (hy := 0) (pc' := 47) rfl jm_X12_wrong (by decide) rfl h0 (by decide) ⟨Nat.le_of_ble_eq_true rfl, rfl⟩ (Nat.le_of_ble_eq_true rfl) rfl h (jg_kI (fun z114 m113 h => ?_))
      exact jg_zret rfl rfl h.1 h.2
  · have h := jg_f h (show ¬ (jg_wr (m101.1 a0 8) = 2) from hc)
    refine jg_A (pc' := 13) rfl rfl (fun _ _ _ => rfl) ?_
    refine jg_A (pc' := 14) rfl rfl (fun _ _ _ => rfl) ?_
    refine jg_calX (M1 := mm_X12_wrong) (hy := 0) (pc' := 17) rfl jm_X12_wrong (by decide) rfl h0 (by decide) ⟨Nat.le_of_ble_eq_true rfl, rfl⟩ (Nat.le_of_ble_eq_true rfl) rfl h (jg_kI (fun z116 m115 h => ?_))
    exact jg_zret rfl rfl h.1 h.2
set_option maxRecDepth 100000 in
set_option maxHeartbeats 4000000 in
theorem jb_X12_lineRead_0 {w : Nat} {a0 : Nat} {σ : jg_M} {Q : Int → jg_M → Prop} (h0 : jg_sh a0 = (12, 0)) (h : (if jg_wr (σ.1 a0 8) = 1 then (if jg_wr (σ.1 a0 9) = 0 then jg_CI w 2 mm_X12_nameLine [.ref a0, .int (.ofInt 1)] σ (fun (z102 : Int) (m101 : jg_M) => (if jg_wr z102 = 0 then Q 0 m101 else jg_CI w 0 mm_X12_isSign [.ref a0, .int (.ofInt 59)] m101 (fun (z104 : Int) (m103 : jg_M) => (if jg_wr z104 = 0 then jg_CI w 0 mm_X12_wrong [.ref a0, .int (.ofInt 1)] m103 (fun (z106 : Int) (m105 : jg_M) => ((jg_wr z106 = 0 ∨ jg_wr z106 = 1) ∧ Q z106 m105)) else jg_CV w 1 mm_X12_nextToken [.ref a0] m103 (fun (m107 : jg_M) => Q 1 m107))))) else (if jg_wr (σ.1 a0 9) = 1 then jg_CI w 2 mm_X12_nameLine [.ref a0, .int (.ofInt 0)] σ (fun (z109 : Int) (m108 : jg_M) => (if jg_wr z109 = 0 then Q 0 m108 else jg_CI w 0 mm_X12_isSign [.ref a0, .int (.ofInt 59)] m108 (fun (z111 : Int) (m110 : jg_M) => (if jg_wr z111 = 0 then jg_CI w 0 mm_X12_wrong [.ref a0, .int (.ofInt 1)] m110 (fun (z113 : Int) (m112 : jg_M) => ((jg_wr z113 = 0 ∨ jg_wr z113 = 1) ∧ Q z113 m112)) else jg_CV w 1 mm_X12_nextToken [.ref a0] m110 (fun (m114 : jg_M) => Q 1 m114))))) else (if jg_wr (σ.1 a0 9) = 2 then jg_CI w 2 mm_X12_ruleLine [.ref a0] σ (fun (z116 : Int) (m115 : jg_M) => (if jg_wr z116 = 0 then Q 0 m115 else jg_CI w 0 mm_X12_isSign [.ref a0, .int (.ofInt 59)] m115 (fun (z118 : Int) (m117 : jg_M) => (if jg_wr z118 = 0 then jg_CI w 0 mm_X12_wrong [.ref a0, .int (.ofInt 1)] m117 (fun (z120 : Int) (m119 : jg_M) => ((jg_wr z120 = 0 ∨ jg_wr z120 = 1) ∧ Q z120 m119)) else jg_CV w 1 mm_X12_nextToken [.ref a0] m117 (fun (m121 : jg_M) => Q 1 m121))))) else jg_CI w 3 mm_X12_rankLine [.ref a0] σ (fun (z123 : Int) (m122 : jg_M) => (if jg_wr z123 = 0 then Q 0 m122 else jg_CI w 0 mm_X12_isSign [.ref a0, .int (.ofInt 59)] m122 (fun (z125 : Int) (m124 : jg_M) => (if jg_wr z125 = 0 then jg_CI w 0 mm_X12_wrong [.ref a0, .int (.ofInt 1)] m124 (fun (z127 : Int) (m126 : jg_M) => ((jg_wr z127 = 0 ∨ jg_wr z127 = 1) ∧ Q z127 m126)) else jg_CV w 1 mm_X12_nextToken [.ref a0] m124 (fun (m128 : jg_M) => Q 1 m128)))))))) else jg_CI w 0 mm_X12_wrong [.ref a0, .int (.ofInt 1)] σ (fun (z130 : Int) (m129 : jg_M) => ((jg_wr z130 = 0 ∨ jg_wr z130 = 1) ∧ Q z130 m129)))) : jg_CI w 4 mm_X12_lineRead [.ref a0] σ Q := by
  show jg_G w 4 mm_X12_lineRead 0 [.ref a0, mj_U] [] σ (jg_QI Q)
  refine jg_A (pc' := 1) rfl rfl (fun _ _ _ => rfl) ?_
  refine jg_getI (pc' := 4) (bi := 8) rfl h0 (by decide) (Or.inl rfl) rfl rfl ?_
  refine jg_A (pc' := 5) rfl rfl (fun _ _ _ => rfl) ?_
  refine jg_ceq (pc' := 8) rfl rfl (fun hc => ?_) (fun hc => ?_)
  · have h := jg_t h (show jg_wr (σ.1 a0 8) = 1 from hc)
    refine jg_A (pc' := 15) rfl rfl (fun _ _ _ => rfl) ?_
    refine jg_getI (pc' := 18) (bi := 9) rfl h0 (by decide) (Or.inl rfl) rfl rfl ?_
    refine jg_tsw rfl rfl ?_
    refine jg_swc (v := 0) (t := 44) (fun hc => ?_) (fun hc => ?_)
    · have h := jg_t h hc
      refine jg_A (pc' := 45) rfl rfl (fun _ _ _ => rfl) ?_
      refine jg_A (pc' := 46) rfl rfl (fun _ _ _ => rfl) ?_
      refine jg_calX (M1 := mm_X12_nameLine) (hy := 2) (pc' := 49) rfl jm_X12_nameLine (by decide) rfl h0 (by decide) ⟨Nat.le_of_ble_eq_true rfl, rfl⟩ (Nat.le_of_ble_eq_true rfl) rfl h (jg_kI (fun z102 m101 h => ?_))
      refine jg_A (pc' := 50) (ls' := [.ref a0, .int (.ofInt z102)]) rfl rfl (fun _ _ _ => rfl) ?_
      refine jg_goto rfl ?_
      refine jg_A (pc' := 76) rfl rfl (fun _ _ _ => rfl) ?_
      refine jg_ifne (pc' := 79) rfl rfl (fun hc => ?_) (fun hc => ?_)
      · have h := jg_t h (show jg_wr z102 = 0 from hc)
        refine jg_A (pc' := 80) rfl rfl (fun _ _ _ => rfl) ?_
        exact jg_zret rfl rfl (by decide) h
      · have h := jg_f h (show ¬ (jg_wr z102 = 0) from hc)
        refine jg_A (pc' := 82) rfl rfl (fun _ _ _ => rfl) ?_
        refine jg_A (pc' := 84) rfl rfl (fun _ _ _ => rfl) ?_
        refine jg_calX (M1 := mm_X12_isSign) (hy := 0) (pc' := 87) rfl jm_X12_isSign (by decide) rfl h0 (by decide) ⟨Nat.le_of_ble_eq_true rfl, rfl⟩ (Nat.le_of_ble_eq_true rfl) rfl h (jg_kI (fun z104 m103 h => ?_))
        refine jg_ifne (pc' := 90) rfl rfl (fun hc => ?_) (fun hc => ?_)
        · have h := jg_t h (show jg_wr z104 = 0 from hc)
          refine jg_A (pc' := 91) rfl rfl (fun _ _ _ => rfl) ?_
          refine jg_A (pc' := 92) rfl rfl (fun _ _ _ => rfl) ?_
          refine jg_calX (M1 := mm_X12_wrong) (hy := 0) (pc' := 95) rfl jm_X12_wrong (by decide) rfl h0 (by decide) ⟨Nat.le_of_ble_eq_true rfl, rfl⟩ (Nat.le_of_ble_eq_true rfl) rfl h (jg_kI (fun z106 m105 h => ?_))
          exact jg_zret rfl rfl h.1 h.2
        · have h := jg_f h (show ¬ (jg_wr z104 = 0) from hc)
          refine jg_A (pc' := 97) rfl rfl (fun _ _ _ => rfl) ?_
          refine jg_calX (M1 := mm_X12_nextToken) (hy := 1) (pc' := 100) rfl jm_X12_nextToken (by decide) rfl h0 (by decide) ⟨Nat.le_of_ble_eq_true rfl, rfl⟩ (Nat.le_of_ble_eq_true rfl) rfl h (jg_kV (fun m107 h => ?_))
          refine jg_A (pc' := 101) rfl rfl (fun _ _ _ => rfl) ?_
          exact jg_zret rfl rfl (by decide) h
    have h := jg_f h hc
    refine jg_swc (v := 1) (t := 53) (fun hc => ?_) (fun hc => ?_)
    · have h := jg_t h hc
      refine jg_A (pc' := 54) rfl rfl (fun _ _ _ => rfl) ?_
      refine jg_A (pc' := 55) rfl rfl (fun _ _ _ => rfl) ?_
      refine jg_calX (M1 := mm_X12_nameLine) (hy := 2) (pc' := 58) rfl jm_X12_nameLine (by decide) rfl h0 (by decide) ⟨Nat.le_of_ble_eq_true rfl, rfl⟩ (Nat.le_of_ble_eq_true rfl) rfl h (jg_kI (fun z109 m108 h => ?_))
      refine jg_A (pc' := 59) (ls' := [.ref a0, .int (.ofInt z109)]) rfl rfl (fun _ _ _ => rfl) ?_
      refine jg_goto rfl ?_
      refine jg_A (pc' := 76) rfl rfl (fun _ _ _ => rfl) ?_
      refine jg_ifne (pc' := 79) rfl rfl (fun hc => ?_) (fun hc => ?_)
      · have h := jg_t h (show jg_wr z109 = 0 from hc)
        refine jg_A (pc' := 80) rfl rfl (fun _ _ _ => rfl) ?_
        exact jg_zret rfl rfl (by decide) h
      · have h := jg_f h (show ¬ (jg_wr z109 = 0) from hc)
        refine jg_A (pc' := 82) rfl rfl (fun _ _ _ => rfl) ?_
        refine jg_A (pc' := 84) rfl rfl (fun _ _ _ => rfl) ?_
        refine jg_calX (M1 := mm_X12_isSign) (hy := 0) (pc' := 87) rfl jm_X12_isSign (by decide) rfl h0 (by decide) ⟨Nat.le_of_ble_eq_true rfl, rfl⟩ (Nat.le_of_ble_eq_true rfl) rfl h (jg_kI (fun z111 m110 h => ?_))
        refine jg_ifne (pc' := 90) rfl rfl (fun hc => ?_) (fun hc => ?_)
        · have h := jg_t h (show jg_wr z111 = 0 from hc)
          refine jg_A (pc' := 91) rfl rfl (fun _ _ _ => rfl) ?_
          refine jg_A (pc' := 92) rfl rfl (fun _ _ _ => rfl) ?_
          refine jg_calX (M1 := mm_X12_wrong) (hy := 0) (pc' := 95) rfl jm_X12_wrong (by decide) rfl h0 (by decide) ⟨Nat.le_of_ble_eq_true rfl, rfl⟩ (Nat.le_of_ble_eq_true rfl) rfl h (jg_kI (fun z113 m112 h => ?_))
          exact jg_zret rfl rfl h.1 h.2
        · have h := jg_f h (show ¬ (jg_wr z111 = 0) from hc)
          refine jg_A (pc' := 97) rfl rfl (fun _ _ _ => rfl) ?_
          refine jg_calX (M1 := mm_X12_nextToken) (hy := 1) (pc' := 100) rfl jm_X12_nextToken (by decide) rfl h0 (by decide) ⟨Nat.le_of_ble_eq_true rfl, rfl⟩ (Nat.le_of_ble_eq_true rfl) rfl h (jg_kV (fun m114 h => ?_))
          refine jg_A (pc' := 101) rfl rfl (fun _ _ _ => rfl) ?_
          exact jg_zret rfl rfl (by decide) h
    have h := jg_f h hc
    refine jg_swc (v := 2) (t := 62) (fun hc => ?_) (fun hc => ?_)
    · have h := jg_t h hc
      refine jg_A (pc' := 63) rfl rfl (fun _ _ _ => rfl) ?_
      refine jg_calX (M1 := mm_X12_ruleLine) (hy := 2) (pc' := 66) rfl jm_X12_ruleLine (by decide) rfl h0 (by decide) ⟨Nat.le_of_ble_eq_true rfl, rfl⟩ (Nat.le_of_ble_eq_true rfl) rfl h (jg_kI (fun z116 m115 h => ?_))
      refine jg_A (pc' := 67) (ls' := [.ref a0, .int (.ofInt z116)]) rfl rfl (fun _ _ _ => rfl) ?_
      refine jg_goto rfl ?_
      refine jg_A (pc' := 76) rfl rfl (fun _ _ _ => rfl) ?_
      refine jg_ifne (pc' := 79) rfl rfl (fun hc => ?_) (fun hc => ?_)
      · have h := jg_t h (show jg_wr z116 = 0 from hc)
        refine jg_A (pc' := 80) rfl rfl (fun _ _ _ => rfl) ?_
        exact jg_zret rfl rfl (by decide) h
      · have h := jg_f h (show ¬ (jg_wr z116 = 0) from hc)
        refine jg_A (pc' := 82) rfl rfl (fun _ _ _ => rfl) ?_
        refine jg_A (pc' := 84) rfl rfl (fun _ _ _ => rfl) ?_
        refine jg_calX (M1 := mm_X12_isSign) (hy := 0) (pc' := 87) rfl jm_X12_isSign (by decide) rfl h0 (by decide) ⟨Nat.le_of_ble_eq_true rfl, rfl⟩ (Nat.le_of_ble_eq_true rfl) rfl h (jg_kI (fun z118 m117 h => ?_))
        refine jg_ifne (pc' := 90) rfl rfl (fun hc => ?_) (fun hc => ?_)
        · have h := jg_t h (show jg_wr z118 = 0 from hc)
          refine jg_A (pc' := 91) rfl rfl (fun _ _ _ => rfl) ?_
          refine jg_A (pc' := 92) rfl rfl (fun _ _ _ => rfl) ?_
          refine jg_calX (M1 := mm_X12_wrong) (hy := 0) (pc' := 95) rfl jm_X12_wrong (by decide) rfl h0 (by decide) ⟨Nat.le_of_ble_eq_true rfl, rfl⟩ (Nat.le_of_ble_eq_true rfl) rfl h (jg_kI (fun z120 m119 h => ?_))
          exact jg_zret rfl rfl h.1 h.2
        · have h := jg_f h (show ¬ (jg_wr z118 = 0) from hc)
          refine jg_A (pc' := 97) rfl rfl (fun _ _ _ => rfl) ?_
          refine jg_calX (M1 := mm_X12_nextToken) (hy := 1) (pc' := 100) rfl jm_X12_nextToken (by decide) rfl h0 (by decide) ⟨Nat.le_of_ble_eq_true rfl, rfl⟩ (Nat.le_of_ble_eq_true rfl) rfl h (jg_kV (fun m121 h => ?_))
          refine jg_A (pc' := 101) rfl rfl (fun _ _ _ => rfl) ?_
          exact jg_zret rfl rfl (by decide) h
    have h := jg_f h hc
    show jg_G w 4 mm_X12_lineRead 70 [.ref a0, mj_U] [] σ (jg_QI Q)
    refine jg_A (pc' := 71) rfl rfl (fun _ _ _ => rfl) ?_
    refine jg_calX (M1 := mm_X12_rankLine) (hy := 3) (pc' := 74) rfl jm_X12_rankLine (by decide) rfl h0 (by decide) ⟨Nat.le_of_ble_eq_true rfl, rfl⟩ (Nat.le_of_ble_eq_true rfl) rfl h (jg_kI (fun z123 m122 h => ?_))
    refine jg_A (pc' := 75) (ls' := [.ref a0, .int (.ofInt z123)]) rfl rfl (fun _ _ _ => rfl) ?_
    refine jg_A (pc' := 76) rfl rfl (fun _ _ _ => rfl) ?_
    refine jg_ifne (pc' := 79) rfl rfl (fun hc => ?_) (fun hc => ?_)
    · have h := jg_t h (show jg_wr z123 = 0 from hc)
      refine jg_A (pc' := 80) rfl rfl (fun _ _ _ => rfl) ?_
      exact jg_zret rfl rfl (by decide) h
    · have h := jg_f h (show ¬ (jg_wr z123 = 0) from hc)
      refine jg_A (pc' := 82) rfl rfl (fun _ _ _ => rfl) ?_
      refine jg_A (pc' := 84) rfl rfl (fun _ _ _ => rfl) ?_
      refine jg_calX (M1 := mm_X12_isSign) (hy := 0) (pc' := 87) rfl jm_X12_isSign (by decide) rfl h0 (by decide) ⟨Nat.le_of_ble_eq_true rfl, rfl⟩ (Nat.le_of_ble_eq_true rfl) rfl h (jg_kI (fun z125 m124 h => ?_))
      refine jg_ifne (pc' := 90) rfl rfl (fun hc => ?_) (fun hc => ?_)
      · have h := jg_t h (show jg_wr z125 = 0 from hc)
        refine jg_A (pc' := 91) rfl rfl (fun _ _ _ => rfl) ?_
        refine jg_A (pc' := 92) rfl rfl (fun _ _ _ => rfl) ?_
        refine jg_calX (M1 := mm_X12_wrong) (hy := 0) (pc' := 95) rfl jm_X12_wrong (by decide) rfl h0 (by decide) ⟨Nat.le_of_ble_eq_true rfl, rfl⟩ (Nat.le_of_ble_eq_true rfl) rfl h (jg_kI (fun z127 m126 h => ?_))
        exact jg_zret rfl rfl h.1 h.2
      · have h := jg_f h (show ¬ (jg_wr z125 = 0) from hc)
        refine jg_A (pc' := 97) rfl rfl (fun _ _ _ => rfl) ?_
        refine jg_calX (M1 := mm_X12_nextToken) (hy := 1) (pc' := 100) rfl jm_X12_nextToken (by decide) rfl h0 (by decide) ⟨Nat.le_of_ble_eq_true rfl, rfl⟩ (Nat.le_of_ble_eq_true rfl) rfl h (jg_kV (fun m128 h => ?_))
        refine jg_A (pc' := 101) rfl rfl (fun _ _ _ => rfl) ?_
        exact jg_zret rfl rfl (by decide) h
  · have h := jg_f h (show ¬ (jg_wr (σ.1 a0 8) = 1) from hc)
    refine jg_A (pc' := 9) rfl rfl (fun _ _ _ => rfl) ?_
    refine jg_A (pc' := 10) rfl rfl (fun _ _ _ => rfl) ?_
    refine jg_calX (M1 := mm_X12_wrong) (hy := 0) (pc' := 13) rfl jm_X12_wrong (by decide) rfl h0 (by decide) ⟨Nat.le_of_ble_eq_true rfl, rfl⟩ (Nat.le_of_ble_eq_true rfl) rfl h (jg_kI (fun z130 m129 h => ?_))
    exact jg_zret rfl rfl h.1 h.2
set_option maxRecDepth 100000 in
set_option maxHeartbeats 4000000 in
theorem jb_X12_text_0 {w : Nat} {a0 : Nat} {x1 : Int} {σ : jg_M} {Q : Int → jg_M → Prop} (h0 : jg_sh a0 = (12, 0)) (h : ∀ m101 : jg_M, m101 = jg_sI σ a0 2 0 → (if jg_wr x1 < 0 then Q (-2) m101 else (if jg_wr x1 ≤ jg_wr (m101.1 a0 1) then ∀ m102 : jg_M, m102 = jg_sI m101 a0 6 x1 → ∀ m103 : jg_M, m103 = jg_sI m102 a0 1 0 → ∀ m104 : jg_M, m104 = jg_sI m103 a0 4 0 → ∀ m105 : jg_M, m105 = jg_sI m104 a0 5 (-1) → ∀ m106 : jg_M, m106 = jg_sI m105 a0 7 0 → jg_CV w 0 mm_X12_plain [.ref a0] m106 (fun (m107 : jg_M) => jg_CV w 1 mm_X12_nextToken [.ref a0] m107 (fun (m108 : jg_M) => jg_GI w 7 mm_X12_text 55 [.ref a0, .int (.ofInt x1), .int (.ofInt 0)] m108 Q)) else Q (-2) m101))) : jg_CI w 7 mm_X12_text [.ref a0, .int (.ofInt x1)] σ Q := by
  show jg_G w 7 mm_X12_text 0 [.ref a0, .int (.ofInt x1), mj_U] [] σ (jg_QI Q)
  refine jg_A (pc' := 1) rfl rfl (fun _ _ _ => rfl) ?_
  refine jg_A (pc' := 2) rfl rfl (fun _ _ _ => rfl) ?_
  refine jg_putI (pc' := 5) (bi := 2) rfl h0 (by decide) rfl rfl rfl rfl (fun m101 hm101 => ?_)
  have h := h m101 hm101
  refine jg_A (pc' := 6) rfl rfl (fun _ _ _ => rfl) ?_
  refine jg_iflt (pc' := 9) rfl rfl (fun hc => ?_) (fun hc => ?_)
  · have h := jg_t h (show jg_wr x1 < 0 from hc)
    refine jg_A (pc' := 19) rfl rfl (fun _ _ _ => rfl) ?_
    exact jg_iret rfl rfl h
  · have h := jg_f h (show ¬ (jg_wr x1 < 0) from hc)
    refine jg_A (pc' := 10) rfl rfl (fun _ _ _ => rfl) ?_
    refine jg_A (pc' := 11) rfl rfl (fun _ _ _ => rfl) ?_
    refine jg_getI (pc' := 14) (bi := 1) rfl h0 (by decide) (Or.inl rfl) rfl rfl ?_
    refine jg_cle (pc' := 17) rfl rfl (fun hc => ?_) (fun hc => ?_)
    · have h := jg_t h (show jg_wr x1 ≤ jg_wr (m101.1 a0 1) from hc)
      refine jg_A (pc' := 21) rfl rfl (fun _ _ _ => rfl) ?_
      refine jg_A (pc' := 22) rfl rfl (fun _ _ _ => rfl) ?_
      refine jg_putI (pc' := 25) (bi := 6) rfl h0 (by decide) rfl rfl rfl rfl (fun m102 hm102 => ?_)
      have h := h m102 hm102
      refine jg_A (pc' := 26) rfl rfl (fun _ _ _ => rfl) ?_
      refine jg_A (pc' := 27) rfl rfl (fun _ _ _ => rfl) ?_
      refine jg_putI (pc' := 30) (bi := 1) rfl h0 (by decide) rfl rfl rfl rfl (fun m103 hm103 => ?_)
      have h := h m103 hm103
      refine jg_A (pc' := 31) rfl rfl (fun _ _ _ => rfl) ?_
      refine jg_A (pc' := 32) rfl rfl (fun _ _ _ => rfl) ?_
      refine jg_putI (pc' := 35) (bi := 4) rfl h0 (by decide) rfl rfl rfl rfl (fun m104 hm104 => ?_)
      have h := h m104 hm104
      refine jg_A (pc' := 36) rfl rfl (fun _ _ _ => rfl) ?_
      refine jg_A (pc' := 37) rfl rfl (fun _ _ _ => rfl) ?_
      refine jg_putI (pc' := 40) (bi := 5) rfl h0 (by decide) rfl rfl rfl rfl (fun m105 hm105 => ?_)
      have h := h m105 hm105
      refine jg_A (pc' := 41) rfl rfl (fun _ _ _ => rfl) ?_
      refine jg_A (pc' := 42) rfl rfl (fun _ _ _ => rfl) ?_
      refine jg_putI (pc' := 45) (bi := 7) rfl h0 (by decide) rfl rfl rfl rfl (fun m106 hm106 => ?_)
      have h := h m106 hm106
      refine jg_A (pc' := 46) rfl rfl (fun _ _ _ => rfl) ?_
      refine jg_calX (M1 := mm_X12_plain) (hy := 0) (pc' := 49) rfl jm_X12_plain (by decide) rfl h0 (by decide) ⟨Nat.le_of_ble_eq_true rfl, rfl⟩ (Nat.le_of_ble_eq_true rfl) rfl h (jg_kV (fun m107 h => ?_))
      refine jg_A (pc' := 50) rfl rfl (fun _ _ _ => rfl) ?_
      refine jg_calX (M1 := mm_X12_nextToken) (hy := 1) (pc' := 53) rfl jm_X12_nextToken (by decide) rfl h0 (by decide) ⟨Nat.le_of_ble_eq_true rfl, rfl⟩ (Nat.le_of_ble_eq_true rfl) rfl h (jg_kV (fun m108 h => ?_))
      refine jg_A (pc' := 54) rfl rfl (fun _ _ _ => rfl) ?_
      refine jg_A (pc' := 55) (ls' := [.ref a0, .int (.ofInt x1), .int (.ofInt 0)]) rfl rfl (fun _ _ _ => rfl) ?_
      exact h
    · have h := jg_f h (show ¬ (jg_wr x1 ≤ jg_wr (m101.1 a0 1)) from hc)
      refine jg_A (pc' := 19) rfl rfl (fun _ _ _ => rfl) ?_
      exact jg_iret rfl rfl h
set_option maxRecDepth 100000 in
set_option maxHeartbeats 4000000 in
theorem jb_X12_text_55 {w : Nat} {a0 : Nat} {x1 : Int} {x2 : Int} {σ : jg_M} {Q : Int → jg_M → Prop} (h0 : jg_sh a0 = (12, 0)) (h : (if jg_wr (σ.1 a0 8) = 0 then jg_CI w 5 mm_X12_layTables [.ref a0, .int (.ofInt 1), .int (.ofInt 1), .int (.ofInt (-1))] σ (fun (z102 : Int) (m101 : jg_M) => (if jg_wr z102 = 0 then ∀ m103 : jg_M, m103 = jg_sI m101 a0 4 2 → ∀ m104 : jg_M, m104 = jg_sI m103 a0 5 x1 → Q (-1) m104 else jg_CV w 6 mm_X12_keepText [.ref a0] m101 (fun (m105 : jg_M) => Q x2 m105))) else jg_CI w 4 mm_X12_lineRead [.ref a0] σ (fun (z107 : Int) (m106 : jg_M) => (if jg_wr z107 = 0 then Q (-1) m106 else jg_GI w 7 mm_X12_text 55 [.ref a0, .int (.ofInt x1), .int (.ofInt (x2 + 1))] m106 Q)))) : jg_GI w 7 mm_X12_text 55 [.ref a0, .int (.ofInt x1), .int (.ofInt x2)] σ Q := by
  show jg_G w 7 mm_X12_text 55 [.ref a0, .int (.ofInt x1), .int (.ofInt x2)] [] σ (jg_QI Q)
  refine jg_A (pc' := 56) rfl rfl (fun _ _ _ => rfl) ?_
  refine jg_getI (pc' := 59) (bi := 8) rfl h0 (by decide) (Or.inl rfl) rfl rfl ?_
  refine jg_ifeq (pc' := 62) rfl rfl (fun hc => ?_) (fun hc => ?_)
  · have h := jg_t h (show jg_wr (σ.1 a0 8) = 0 from hc)
    refine jg_A (pc' := 78) rfl rfl (fun _ _ _ => rfl) ?_
    refine jg_A (pc' := 79) rfl rfl (fun _ _ _ => rfl) ?_
    refine jg_A (pc' := 80) rfl rfl (fun _ _ _ => rfl) ?_
    refine jg_A (pc' := 81) rfl rfl (fun _ _ _ => rfl) ?_
    refine jg_calX (M1 := mm_X12_layTables) (hy := 5) (pc' := 84) rfl jm_X12_layTables (by decide) rfl h0 (by decide) ⟨Nat.le_of_ble_eq_true rfl, rfl⟩ (Nat.le_of_ble_eq_true rfl) rfl h (jg_kI (fun z102 m101 h => ?_))
    refine jg_ifne (pc' := 87) rfl rfl (fun hc => ?_) (fun hc => ?_)
    · have h := jg_t h (show jg_wr z102 = 0 from hc)
      refine jg_A (pc' := 88) rfl rfl (fun _ _ _ => rfl) ?_
      refine jg_A (pc' := 89) rfl rfl (fun _ _ _ => rfl) ?_
      refine jg_putI (pc' := 92) (bi := 4) rfl h0 (by decide) rfl rfl rfl rfl (fun m103 hm103 => ?_)
      have h := h m103 hm103
      refine jg_A (pc' := 93) rfl rfl (fun _ _ _ => rfl) ?_
      refine jg_A (pc' := 94) rfl rfl (fun _ _ _ => rfl) ?_
      refine jg_putI (pc' := 97) (bi := 5) rfl h0 (by decide) rfl rfl rfl rfl (fun m104 hm104 => ?_)
      have h := h m104 hm104
      refine jg_A (pc' := 98) rfl rfl (fun _ _ _ => rfl) ?_
      exact jg_iret rfl rfl h
    · have h := jg_f h (show ¬ (jg_wr z102 = 0) from hc)
      refine jg_A (pc' := 100) rfl rfl (fun _ _ _ => rfl) ?_
      refine jg_calX (M1 := mm_X12_keepText) (hy := 6) (pc' := 103) rfl jm_X12_keepText (by decide) rfl h0 (by decide) ⟨Nat.le_of_ble_eq_true rfl, rfl⟩ (Nat.le_of_ble_eq_true rfl) rfl h (jg_kV (fun m105 h => ?_))
      refine jg_A (pc' := 104) rfl rfl (fun _ _ _ => rfl) ?_
      exact jg_iret rfl rfl h
  · have h := jg_f h (show ¬ (jg_wr (σ.1 a0 8) = 0) from hc)
    refine jg_A (pc' := 63) rfl rfl (fun _ _ _ => rfl) ?_
    refine jg_calX (M1 := mm_X12_lineRead) (hy := 4) (pc' := 66) rfl jm_X12_lineRead (by decide) rfl h0 (by decide) ⟨Nat.le_of_ble_eq_true rfl, rfl⟩ (Nat.le_of_ble_eq_true rfl) rfl h (jg_kI (fun z107 m106 h => ?_))
    refine jg_ifne (pc' := 69) rfl rfl (fun hc => ?_) (fun hc => ?_)
    · have h := jg_t h (show jg_wr z107 = 0 from hc)
      refine jg_A (pc' := 70) rfl rfl (fun _ _ _ => rfl) ?_
      exact jg_iret rfl rfl h
    · have h := jg_f h (show ¬ (jg_wr z107 = 0) from hc)
      refine jg_iinc (pc' := 74) (ls' := [.ref a0, .int (.ofInt x1), .int (.ofInt (x2 + 1))]) rfl rfl rfl rfl ?_
      refine jg_goto rfl ?_
      exact h
set_option maxRecDepth 100000 in
set_option maxHeartbeats 4000000 in
theorem jb_X12_fault_0 {w : Nat} {a0 : Nat} {x1 : Int} {σ : jg_M} {Q : Int → jg_M → Prop} (h0 : jg_sh a0 = (12, 0)) (h : ∀ m101 : jg_M, m101 = jg_sI σ a0 2 0 → (if jg_wr x1 = 0 then Q (m101.1 a0 4) m101 else (if jg_wr x1 = 1 then Q (m101.1 a0 5) m101 else Q (-1) m101))) : jg_CI w 0 mm_X12_fault [.ref a0, .int (.ofInt x1)] σ Q := by
  show jg_G w 0 mm_X12_fault 0 [.ref a0, .int (.ofInt x1)] [] σ (jg_QI Q)
  refine jg_A (pc' := 1) rfl rfl (fun _ _ _ => rfl) ?_
  refine jg_A (pc' := 2) rfl rfl (fun _ _ _ => rfl) ?_
  refine jg_putI (pc' := 5) (bi := 2) rfl h0 (by decide) rfl rfl rfl rfl (fun m101 hm101 => ?_)
  have h := h m101 hm101
  refine jg_A (pc' := 6) rfl rfl (fun _ _ _ => rfl) ?_
  refine jg_ifne (pc' := 9) rfl rfl (fun hc => ?_) (fun hc => ?_)
  · have h := jg_t h (show jg_wr x1 = 0 from hc)
    refine jg_A (pc' := 10) rfl rfl (fun _ _ _ => rfl) ?_
    refine jg_getI (pc' := 13) (bi := 4) rfl h0 (by decide) (Or.inl rfl) rfl rfl ?_
    refine jg_goto rfl ?_
    exact jg_iret rfl rfl h
  · have h := jg_f h (show ¬ (jg_wr x1 = 0) from hc)
    refine jg_A (pc' := 17) rfl rfl (fun _ _ _ => rfl) ?_
    refine jg_A (pc' := 18) rfl rfl (fun _ _ _ => rfl) ?_
    refine jg_cne (pc' := 21) rfl rfl (fun hc => ?_) (fun hc => ?_)
    · have h := jg_t h (show jg_wr x1 = 1 from hc)
      refine jg_A (pc' := 22) rfl rfl (fun _ _ _ => rfl) ?_
      refine jg_getI (pc' := 25) (bi := 5) rfl h0 (by decide) (Or.inl rfl) rfl rfl ?_
      refine jg_goto rfl ?_
      exact jg_iret rfl rfl h
    · have h := jg_f h (show ¬ (jg_wr x1 = 1) from hc)
      refine jg_A (pc' := 29) rfl rfl (fun _ _ _ => rfl) ?_
      exact jg_iret rfl rfl h
set_option maxRecDepth 100000 in
set_option maxHeartbeats 4000000 in
theorem jb_X12_named_0 {w : Nat} {a0 : Nat} {x1 : Int} {σ : jg_M} {Q : Int → jg_M → Prop} (h0 : jg_sh a0 = (12, 0)) (h : ∀ m101 : jg_M, m101 = jg_sI σ a0 2 0 → jg_CI w 1 mm_X12_symbolBy [.ref a0, .int (.ofInt 0), .int (.ofInt x1)] m101 (fun (z103 : Int) (m102 : jg_M) => Q z103 m102)) : jg_CI w 2 mm_X12_named [.ref a0, .int (.ofInt x1)] σ Q := by
  show jg_G w 2 mm_X12_named 0 [.ref a0, .int (.ofInt x1)] [] σ (jg_QI Q)
  refine jg_A (pc' := 1) rfl rfl (fun _ _ _ => rfl) ?_
  refine jg_A (pc' := 2) rfl rfl (fun _ _ _ => rfl) ?_
  refine jg_putI (pc' := 5) (bi := 2) rfl h0 (by decide) rfl rfl rfl rfl (fun m101 hm101 => ?_)
  have h := h m101 hm101
  refine jg_A (pc' := 6) rfl rfl (fun _ _ _ => rfl) ?_
  refine jg_A (pc' := 7) rfl rfl (fun _ _ _ => rfl) ?_
  refine jg_A (pc' := 8) rfl rfl (fun _ _ _ => rfl) ?_
  refine jg_calX (M1 := mm_X12_symbolBy) (hy := 1) (pc' := 11) rfl jm_X12_symbolBy (by decide) rfl h0 (by decide) ⟨Nat.le_of_ble_eq_true rfl, rfl⟩ (Nat.le_of_ble_eq_true rfl) rfl h (jg_kI (fun z103 m102 h => ?_))
  exact jg_iret rfl rfl h
set_option maxRecDepth 100000 in
set_option maxHeartbeats 4000000 in
theorem jb_X12_moveBy_0 {w : Nat} {a0 : Nat} {x1 : Int} {x2 : Int} {σ : jg_M} {Q : Int → jg_M → Prop} (h0 : jg_sh a0 = (12, 0)) (h : ((0 : Int) ≤ jg_wr (σ.1 a0 35) ∧ jg_wr (σ.1 a0 35) < (2 : Int)) ∧ (if jg_wr x1 = jg_wr (σ.1 (a0 + 5) (jg_wr (σ.1 a0 35))) then (if jg_wr x2 = 0 then Q (7 + (σ.1 a0 33)) σ else Q (-1) σ) else ∀ t101 : Int, t101 = ((13 * (σ.1 a0 35)) + x1) → ((0 : Int) ≤ jg_wr t101 ∧ jg_wr t101 < (26 : Int)) ∧ (if jg_wr x2 < jg_wr (σ.1 (a0 + 11) (jg_wr t101)) then ((0 : Int) ≤ jg_wr ((4 * t101) + x2) ∧ jg_wr ((4 * t101) + x2) < (104 : Int)) ∧ ∀ t102 : Int, t102 = (σ.1 (a0 + 12) (jg_wr ((4 * t101) + x2))) → (if 10 ≤ jg_wr t102 then Q (t102 - 3) σ else Q t102 σ) else Q (-1) σ))) : jg_CI w 0 mm_X12_moveBy [.ref a0, .int (.ofInt x1), .int (.ofInt x2)] σ Q := by
  show jg_G w 0 mm_X12_moveBy 0 [.ref a0, .int (.ofInt x1), .int (.ofInt x2), mj_U, mj_U] [] σ (jg_QI Q)
  refine jg_A (pc' := 1) rfl rfl (fun _ _ _ => rfl) ?_
  refine jg_A (pc' := 2) rfl rfl (fun _ _ _ => rfl) ?_
  refine jg_getO (pc' := 5) (k := 5) rfl h0 (by decide) rfl rfl ?_
  refine jg_A (pc' := 6) rfl rfl (fun _ _ _ => rfl) ?_
  refine jg_getI (pc' := 9) (bi := 35) rfl h0 (by decide) (Or.inl rfl) rfl rfl ?_
  obtain ⟨hg, h⟩ := h
  refine jg_iald (pc' := 10) rfl (jg_sX12_14 h0) hg rfl ?_
  refine jg_cne (pc' := 13) rfl rfl (fun hc => ?_) (fun hc => ?_)
  · have h := jg_t h (show jg_wr x1 = jg_wr (σ.1 (a0 + 5) (jg_wr (σ.1 a0 35))) from hc)
    refine jg_A (pc' := 14) rfl rfl (fun _ _ _ => rfl) ?_
    refine jg_ifne (pc' := 17) rfl rfl (fun hc => ?_) (fun hc => ?_)
    · have h := jg_t h (show jg_wr x2 = 0 from hc)
      refine jg_A (pc' := 19) rfl rfl (fun _ _ _ => rfl) ?_
      refine jg_A (pc' := 20) rfl rfl (fun _ _ _ => rfl) ?_
      refine jg_getI (pc' := 23) (bi := 33) rfl h0 (by decide) (Or.inl rfl) rfl rfl ?_
      refine jg_iadd (pc' := 24) rfl rfl ?_
      refine jg_goto rfl ?_
      exact jg_iret rfl rfl h
    · have h := jg_f h (show ¬ (jg_wr x2 = 0) from hc)
      refine jg_A (pc' := 28) rfl rfl (fun _ _ _ => rfl) ?_
      exact jg_iret rfl rfl h
  · have h := jg_f h (show ¬ (jg_wr x1 = jg_wr (σ.1 (a0 + 5) (jg_wr (σ.1 a0 35)))) from hc)
    refine jg_A (pc' := 31) rfl rfl (fun _ _ _ => rfl) ?_
    refine jg_A (pc' := 32) rfl rfl (fun _ _ _ => rfl) ?_
    refine jg_getI (pc' := 35) (bi := 35) rfl h0 (by decide) (Or.inl rfl) rfl rfl ?_
    refine jg_imul (pc' := 36) rfl rfl ?_
    refine jg_A (pc' := 37) rfl rfl (fun _ _ _ => rfl) ?_
    refine jg_iadd (pc' := 38) rfl rfl ?_
    refine jg_nm (F := fun t101 => jg_G w 0 mm_X12_moveBy 38 [.ref a0, .int (.ofInt x1), .int (.ofInt x2), mj_U, mj_U] [.int (.ofInt t101)] σ (jg_QI Q)) ((13 * (σ.1 a0 35)) + x1) (fun t101 ht101 => ?_)
    have h := h t101 ht101
    refine jg_A (pc' := 39) (ls' := [.ref a0, .int (.ofInt x1), .int (.ofInt x2), .int (.ofInt t101), mj_U]) rfl rfl (fun _ _ _ => rfl) ?_
    refine jg_A (pc' := 40) rfl rfl (fun _ _ _ => rfl) ?_
    refine jg_A (pc' := 41) rfl rfl (fun _ _ _ => rfl) ?_
    refine jg_getO (pc' := 44) (k := 11) rfl h0 (by decide) rfl rfl ?_
    refine jg_A (pc' := 45) rfl rfl (fun _ _ _ => rfl) ?_
    obtain ⟨hg, h⟩ := h
    refine jg_iald (pc' := 46) rfl (jg_sX12_20 h0) hg rfl ?_
    refine jg_clt (pc' := 49) rfl rfl (fun hc => ?_) (fun hc => ?_)
    · have h := jg_t h (show jg_wr x2 < jg_wr (σ.1 (a0 + 11) (jg_wr t101)) from hc)
      refine jg_A (pc' := 52) rfl rfl (fun _ _ _ => rfl) ?_
      refine jg_getO (pc' := 55) (k := 12) rfl h0 (by decide) rfl rfl ?_
      refine jg_A (pc' := 56) rfl rfl (fun _ _ _ => rfl) ?_
      refine jg_A (pc' := 57) rfl rfl (fun _ _ _ => rfl) ?_
      refine jg_imul (pc' := 58) rfl rfl ?_
      refine jg_A (pc' := 59) rfl rfl (fun _ _ _ => rfl) ?_
      refine jg_iadd (pc' := 60) rfl rfl ?_
      obtain ⟨hg, h⟩ := h
      refine jg_iald (pc' := 61) rfl (jg_sX12_21 h0) hg rfl ?_
      refine jg_nm (F := fun t102 => jg_G w 0 mm_X12_moveBy 61 [.ref a0, .int (.ofInt x1), .int (.ofInt x2), .int (.ofInt t101), mj_U] [.int (.ofInt t102)] σ (jg_QI Q)) (σ.1 (a0 + 12) (jg_wr ((4 * t101) + x2))) (fun t102 ht102 => ?_)
      have h := h t102 ht102
      refine jg_A (pc' := 63) (ls' := [.ref a0, .int (.ofInt x1), .int (.ofInt x2), .int (.ofInt t101), .int (.ofInt t102)]) rfl rfl (fun _ _ _ => rfl) ?_
      refine jg_A (pc' := 65) rfl rfl (fun _ _ _ => rfl) ?_
      refine jg_A (pc' := 67) rfl rfl (fun _ _ _ => rfl) ?_
      refine jg_cge (pc' := 70) rfl rfl (fun hc => ?_) (fun hc => ?_)
      · have h := jg_t h (show 10 ≤ jg_wr t102 from hc)
        refine jg_A (pc' := 77) rfl rfl (fun _ _ _ => rfl) ?_
        refine jg_A (pc' := 78) rfl rfl (fun _ _ _ => rfl) ?_
        refine jg_isub (pc' := 79) rfl rfl ?_
        exact jg_iret rfl rfl h
      · have h := jg_f h (show ¬ (10 ≤ jg_wr t102) from hc)
        refine jg_A (pc' := 72) rfl rfl (fun _ _ _ => rfl) ?_
        refine jg_goto rfl ?_
        exact jg_iret rfl rfl h
    · have h := jg_f h (show ¬ (jg_wr x2 < jg_wr (σ.1 (a0 + 11) (jg_wr t101))) from hc)
      refine jg_A (pc' := 50) rfl rfl (fun _ _ _ => rfl) ?_
      exact jg_iret rfl rfl h
set_option maxRecDepth 100000 in
set_option maxHeartbeats 4000000 in
theorem jb_X12_longOf_0 {w : Nat} {a0 : Nat} {x1 : Int} {σ : jg_M} {Q : Int → jg_M → Prop} (h0 : jg_sh a0 = (12, 0)) (h : ((0 : Int) ≤ jg_wr (σ.1 a0 35) ∧ jg_wr (σ.1 a0 35) < (2 : Int)) ∧ (if jg_wr x1 = jg_wr (σ.1 (a0 + 5) (jg_wr (σ.1 a0 35))) then Q 1 σ else ((0 : Int) ≤ jg_wr ((13 * (σ.1 a0 35)) + x1) ∧ jg_wr ((13 * (σ.1 a0 35)) + x1) < (26 : Int)) ∧ Q (σ.1 (a0 + 11) (jg_wr ((13 * (σ.1 a0 35)) + x1))) σ)) : jg_CI w 0 mm_X12_longOf [.ref a0, .int (.ofInt x1)] σ Q := by
  show jg_G w 0 mm_X12_longOf 0 [.ref a0, .int (.ofInt x1)] [] σ (jg_QI Q)
  refine jg_A (pc' := 1) rfl rfl (fun _ _ _ => rfl) ?_
  refine jg_A (pc' := 2) rfl rfl (fun _ _ _ => rfl) ?_
  refine jg_getO (pc' := 5) (k := 5) rfl h0 (by decide) rfl rfl ?_
  refine jg_A (pc' := 6) rfl rfl (fun _ _ _ => rfl) ?_
  refine jg_getI (pc' := 9) (bi := 35) rfl h0 (by decide) (Or.inl rfl) rfl rfl ?_
  obtain ⟨hg, h⟩ := h
  refine jg_iald (pc' := 10) rfl (jg_sX12_14 h0) hg rfl ?_
  refine jg_cne (pc' := 13) rfl rfl (fun hc => ?_) (fun hc => ?_)
  · have h := jg_t h (show jg_wr x1 = jg_wr (σ.1 (a0 + 5) (jg_wr (σ.1 a0 35))) from hc)
    refine jg_A (pc' := 14) rfl rfl (fun _ _ _ => rfl) ?_
    refine jg_goto rfl ?_
    exact jg_iret rfl rfl h
  · have h := jg_f h (show ¬ (jg_wr x1 = jg_wr (σ.1 (a0 + 5) (jg_wr (σ.1 a0 35)))) from hc)
    refine jg_A (pc' := 18) rfl rfl (fun _ _ _ => rfl) ?_
    refine jg_getO (pc' := 21) (k := 11) rfl h0 (by decide) rfl rfl ?_
    refine jg_A (pc' := 23) rfl rfl (fun _ _ _ => rfl) ?_
    refine jg_A (pc' := 24) rfl rfl (fun _ _ _ => rfl) ?_
    refine jg_getI (pc' := 27) (bi := 35) rfl h0 (by decide) (Or.inl rfl) rfl rfl ?_
    refine jg_imul (pc' := 28) rfl rfl ?_
    refine jg_A (pc' := 29) rfl rfl (fun _ _ _ => rfl) ?_
    refine jg_iadd (pc' := 30) rfl rfl ?_
    obtain ⟨hg, h⟩ := h
    refine jg_iald (pc' := 31) rfl (jg_sX12_20 h0) hg rfl ?_
    exact jg_iret rfl rfl h
set_option maxRecDepth 100000 in
set_option maxHeartbeats 4000000 in
theorem jb_X12_isRuleOf_0 {w : Nat} {a0 : Nat} {x1 : Int} {x2 : Int} {σ : jg_M} {Q : Int → jg_M → Prop} (h0 : jg_sh a0 = (12, 0)) (h : (if jg_wr x1 = jg_wr (σ.1 a0 34) then Q 0 σ else ((0 : Int) ≤ jg_wr ((13 * (σ.1 a0 35)) + x1) ∧ jg_wr ((13 * (σ.1 a0 35)) + x1) < (26 : Int)) ∧ (if jg_wr (σ.1 (a0 + 10) (jg_wr ((13 * (σ.1 a0 35)) + x1))) = jg_wr x2 then Q 1 σ else Q 0 σ))) : jg_CI w 0 mm_X12_isRuleOf [.ref a0, .int (.ofInt x1), .int (.ofInt x2)] σ Q := by
  show jg_G w 0 mm_X12_isRuleOf 0 [.ref a0, .int (.ofInt x1), .int (.ofInt x2)] [] σ (jg_QI Q)
  refine jg_A (pc' := 1) rfl rfl (fun _ _ _ => rfl) ?_
  refine jg_A (pc' := 2) rfl rfl (fun _ _ _ => rfl) ?_
  refine jg_getI (pc' := 5) (bi := 34) rfl h0 (by decide) (Or.inl rfl) rfl rfl ?_
  refine jg_ceq (pc' := 8) rfl rfl (fun hc => ?_) (fun hc => ?_)
  · have h := jg_t h (show jg_wr x1 = jg_wr (σ.1 a0 34) from hc)
    refine jg_A (pc' := 31) rfl rfl (fun _ _ _ => rfl) ?_
    exact jg_zret rfl rfl (by decide) h
  · have h := jg_f h (show ¬ (jg_wr x1 = jg_wr (σ.1 a0 34)) from hc)
    refine jg_A (pc' := 9) rfl rfl (fun _ _ _ => rfl) ?_
    refine jg_getO (pc' := 12) (k := 10) rfl h0 (by decide) rfl rfl ?_
    refine jg_A (pc' := 14) rfl rfl (fun _ _ _ => rfl) ?_
    refine jg_A (pc' := 15) rfl rfl (fun _ _ _ => rfl) ?_
    refine jg_getI (pc' := 18) (bi := 35) rfl h0 (by decide) (Or.inl rfl) rfl rfl ?_
    refine jg_imul (pc' := 19) rfl rfl ?_
    refine jg_A (pc' := 20) rfl rfl (fun _ _ _ => rfl) ?_
    refine jg_iadd (pc' := 21) rfl rfl ?_
    obtain ⟨hg, h⟩ := h
    refine jg_iald (pc' := 22) rfl (jg_sX12_19 h0) hg rfl ?_
    refine jg_A (pc' := 23) rfl rfl (fun _ _ _ => rfl) ?_
    refine jg_cne (pc' := 26) rfl rfl (fun hc => ?_) (fun hc => ?_)
    · have h := jg_t h (show jg_wr (σ.1 (a0 + 10) (jg_wr ((13 * (σ.1 a0 35)) + x1))) = jg_wr x2 from hc)
      refine jg_A (pc' := 27) rfl rfl (fun _ _ _ => rfl) ?_
      refine jg_goto rfl ?_
      exact jg_zret rfl rfl (by decide) h
    · have h := jg_f h (show ¬ (jg_wr (σ.1 (a0 + 10) (jg_wr ((13 * (σ.1 a0 35)) + x1))) = jg_wr x2) from hc)
      refine jg_A (pc' := 31) rfl rfl (fun _ _ _ => rfl) ?_
      exact jg_zret rfl rfl (by decide) h
set_option maxRecDepth 100000 in
set_option maxHeartbeats 4000000 in
theorem jb_X12_isEmpty_0 {w : Nat} {a0 : Nat} {x1 : Int} {σ : jg_M} {Q : Int → jg_M → Prop} (h0 : jg_sh a0 = (12, 0)) (h : (if jg_wr x1 < 7 then Q 0 σ else ((0 : Int) ≤ jg_wr (σ.1 a0 36) ∧ jg_wr (σ.1 a0 36) < (2 : Int)) ∧ jg_CI w 0 mm_X12_isOf [.int (.ofInt (σ.1 (a0 + 20) (jg_wr (σ.1 a0 36)))), .int (.ofInt (x1 - 7))] σ (fun (z102 : Int) (m101 : jg_M) => (if jg_wr z102 = 0 then Q 0 m101 else Q 1 m101)))) : jg_CI w 1 mm_X12_isEmpty [.ref a0, .int (.ofInt x1)] σ Q := by
  show jg_G w 1 mm_X12_isEmpty 0 [.ref a0, .int (.ofInt x1)] [] σ (jg_QI Q)
  refine jg_A (pc' := 1) rfl rfl (fun _ _ _ => rfl) ?_
  refine jg_A (pc' := 3) rfl rfl (fun _ _ _ => rfl) ?_
  refine jg_clt (pc' := 6) rfl rfl (fun hc => ?_) (fun hc => ?_)
  · have h := jg_t h (show jg_wr x1 < 7 from hc)
    refine jg_A (pc' := 30) rfl rfl (fun _ _ _ => rfl) ?_
    exact jg_zret rfl rfl (by decide) h
  · have h := jg_f h (show ¬ (jg_wr x1 < 7) from hc)
    refine jg_A (pc' := 7) rfl rfl (fun _ _ _ => rfl) ?_
    refine jg_getO (pc' := 10) (k := 20) rfl h0 (by decide) rfl rfl ?_
    refine jg_A (pc' := 11) rfl rfl (fun _ _ _ => rfl) ?_
    refine jg_getI (pc' := 14) (bi := 36) rfl h0 (by decide) (Or.inl rfl) rfl rfl ?_
    obtain ⟨hg, h⟩ := h
    refine jg_iald (pc' := 15) rfl (jg_sX12_29 h0) hg rfl ?_
    refine jg_A (pc' := 16) rfl rfl (fun _ _ _ => rfl) ?_
    refine jg_A (pc' := 18) rfl rfl (fun _ _ _ => rfl) ?_
    refine jg_isub (pc' := 19) rfl rfl ?_
    refine jg_calS (M1 := mm_X12_isOf) (hy := 0) (pc' := 22) rfl (Or.inl rfl) jm_X12_isOf (by decide) rfl ⟨Nat.le_of_ble_eq_true rfl, rfl⟩ (Nat.le_of_ble_eq_true rfl) rfl h (jg_kI (fun z102 m101 h => ?_))
    refine jg_ifeq (pc' := 25) rfl rfl (fun hc => ?_) (fun hc => ?_)
    · have h := jg_t h (show jg_wr z102 = 0 from hc)
      refine jg_A (pc' := 30) rfl rfl (fun _ _ _ => rfl) ?_
      exact jg_zret rfl rfl (by decide) h
    · have h := jg_f h (show ¬ (jg_wr z102 = 0) from hc)
      refine jg_A (pc' := 26) rfl rfl (fun _ _ _ => rfl) ?_
      refine jg_goto rfl ?_
      exact jg_zret rfl rfl (by decide) h
set_option maxRecDepth 100000 in
set_option maxHeartbeats 4000000 in
theorem jb_X12_isEmptyFrom_0 {w : Nat} {a0 : Nat} {x1 : Int} {x2 : Int} {σ : jg_M} {Q : Int → jg_M → Prop} (h0 : jg_sh a0 = (12, 0)) (h : jg_GI w 2 mm_X12_isEmptyFrom 2 [.ref a0, .int (.ofInt x1), .int (.ofInt x2), .int (.ofInt x2)] σ Q) : jg_CI w 2 mm_X12_isEmptyFrom [.ref a0, .int (.ofInt x1), .int (.ofInt x2)] σ Q := by
  show jg_G w 2 mm_X12_isEmptyFrom 0 [.ref a0, .int (.ofInt x1), .int (.ofInt x2), mj_U] [] σ (jg_QI Q)
  refine jg_A (pc' := 1) rfl rfl (fun _ _ _ => rfl) ?_
  refine jg_A (pc' := 2) (ls' := [.ref a0, .int (.ofInt x1), .int (.ofInt x2), .int (.ofInt x2)]) rfl rfl (fun _ _ _ => rfl) ?_
  exact h
set_option maxRecDepth 100000 in
set_option maxHeartbeats 4000000 in
theorem jb_X12_isEmptyFrom_2 {w : Nat} {a0 : Nat} {x1 : Int} {u2 : Value} {x3 : Int} {σ : jg_M} {Q : Int → jg_M → Prop} (h0 : jg_sh a0 = (12, 0)) (h : jg_CI w 0 mm_X12_longOf [.ref a0, .int (.ofInt x1)] σ (fun (z102 : Int) (m101 : jg_M) => (if jg_wr z102 ≤ jg_wr x3 then Q 1 m101 else jg_CI w 0 mm_X12_moveBy [.ref a0, .int (.ofInt x1), .int (.ofInt x3)] m101 (fun (z104 : Int) (m103 : jg_M) => jg_CI w 1 mm_X12_isEmpty [.ref a0, .int (.ofInt z104)] m103 (fun (z106 : Int) (m105 : jg_M) => (if jg_wr z106 = 0 then Q 0 m105 else jg_GI w 2 mm_X12_isEmptyFrom 2 [.ref a0, .int (.ofInt x1), u2, .int (.ofInt (x3 + 1))] m105 Q)))))) : jg_GI w 2 mm_X12_isEmptyFrom 2 [.ref a0, .int (.ofInt x1), u2, .int (.ofInt x3)] σ Q := by
  show jg_G w 2 mm_X12_isEmptyFrom 2 [.ref a0, .int (.ofInt x1), u2, .int (.ofInt x3)] [] σ (jg_QI Q)
  refine jg_A (pc' := 3) rfl rfl (fun _ _ _ => rfl) ?_
  refine jg_A (pc' := 4) rfl rfl (fun _ _ _ => rfl) ?_
  refine jg_A (pc' := 5) rfl rfl (fun _ _ _ => rfl) ?_
  refine jg_calX (M1 := mm_X12_longOf) (hy := 0) (pc' := 8) rfl jm_X12_longOf (by decide) rfl h0 (by decide) ⟨Nat.le_of_ble_eq_true rfl, rfl⟩ (Nat.le_of_ble_eq_true rfl) rfl h (jg_kI (fun z102 m101 h => ?_))
  refine jg_cge (pc' := 11) rfl rfl (fun hc => ?_) (fun hc => ?_)
  · have h := jg_t h (show jg_wr z102 ≤ jg_wr x3 from hc)
    refine jg_A (pc' := 33) rfl rfl (fun _ _ _ => rfl) ?_
    exact jg_zret rfl rfl (by decide) h
  · have h := jg_f h (show ¬ (jg_wr z102 ≤ jg_wr x3) from hc)
    refine jg_A (pc' := 12) rfl rfl (fun _ _ _ => rfl) ?_
    refine jg_A (pc' := 13) rfl rfl (fun _ _ _ => rfl) ?_
    refine jg_A (pc' := 14) rfl rfl (fun _ _ _ => rfl) ?_
    refine jg_A (pc' := 15) rfl rfl (fun _ _ _ => rfl) ?_
    refine jg_calX (M1 := mm_X12_moveBy) (hy := 0) (pc' := 18) rfl jm_X12_moveBy (by decide) rfl h0 (by decide) ⟨Nat.le_of_ble_eq_true rfl, rfl⟩ (Nat.le_of_ble_eq_true rfl) rfl h (jg_kI (fun z104 m103 h => ?_))
    refine jg_calX (M1 := mm_X12_isEmpty) (hy := 1) (pc' := 21) rfl jm_X12_isEmpty (by decide) rfl h0 (by decide) ⟨Nat.le_of_ble_eq_true rfl, rfl⟩ (Nat.le_of_ble_eq_true rfl) rfl h (jg_kI (fun z106 m105 h => ?_))
    refine jg_ifne (pc' := 24) rfl rfl (fun hc => ?_) (fun hc => ?_)
    · have h := jg_t h (show jg_wr z106 = 0 from hc)
      refine jg_A (pc' := 25) rfl rfl (fun _ _ _ => rfl) ?_
      exact jg_zret rfl rfl (by decide) h
    · have h := jg_f h (show ¬ (jg_wr z106 = 0) from hc)
      refine jg_iinc (pc' := 29) (ls' := [.ref a0, .int (.ofInt x1), u2, .int (.ofInt (x3 + 1))]) rfl rfl rfl rfl ?_
      refine jg_goto rfl ?_
      exact h
set_option maxRecDepth 100000 in
set_option maxHeartbeats 4000000 in
theorem jb_X12_firstFrom_0 {w : Nat} {a0 : Nat} {x1 : Int} {x2 : Int} {σ : jg_M} {Q : Int → jg_M → Prop} (h0 : jg_sh a0 = (12, 0)) (h : jg_GI w 2 mm_X12_firstFrom 5 [.ref a0, .int (.ofInt x1), .int (.ofInt x2), .int (.ofInt 0), .int (.ofInt x2), mj_U] σ Q) : jg_CI w 2 mm_X12_firstFrom [.ref a0, .int (.ofInt x1), .int (.ofInt x2)] σ Q := by
  show jg_G w 2 mm_X12_firstFrom 0 [.ref a0, .int (.ofInt x1), .int (.ofInt x2), mj_U, mj_U, mj_U] [] σ (jg_QI Q)
  refine jg_A (pc' := 1) rfl rfl (fun _ _ _ => rfl) ?_
  refine jg_A (pc' := 2) (ls' := [.ref a0, .int (.ofInt x1), .int (.ofInt x2), .int (.ofInt 0), mj_U, mj_U]) rfl rfl (fun _ _ _ => rfl) ?_
  refine jg_A (pc' := 3) rfl rfl (fun _ _ _ => rfl) ?_
  refine jg_A (pc' := 5) (ls' := [.ref a0, .int (.ofInt x1), .int (.ofInt x2), .int (.ofInt 0), .int (.ofInt x2), mj_U]) rfl rfl (fun _ _ _ => rfl) ?_
  exact h
set_option maxRecDepth 100000 in
set_option maxHeartbeats 4000000 in
theorem jb_X12_firstFrom_5 {w : Nat} {a0 : Nat} {x1 : Int} {u2 : Value} {x3 : Int} {x4 : Int} {u5 : Value} {σ : jg_M} {Q : Int → jg_M → Prop} (h0 : jg_sh a0 = (12, 0)) (h : jg_CI w 0 mm_X12_longOf [.ref a0, .int (.ofInt x1)] σ (fun (z102 : Int) (m101 : jg_M) => (if jg_wr z102 ≤ jg_wr x4 then Q x3 m101 else jg_CI w 0 mm_X12_moveBy [.ref a0, .int (.ofInt x1), .int (.ofInt x4)] m101 (fun (z104 : Int) (m103 : jg_M) => (if 7 ≤ jg_wr z104 then ((0 : Int) ≤ jg_wr (((5 * (m103.1 a0 36)) + z104) - 7) ∧ jg_wr (((5 * (m103.1 a0 36)) + z104) - 7) < (10 : Int)) ∧ ∀ t105 : Int, t105 = (jg_or x3 (m103.1 (a0 + 21) (jg_wr (((5 * (m103.1 a0 36)) + z104) - 7)))) → jg_CI w 1 mm_X12_isEmpty [.ref a0, .int (.ofInt z104)] m103 (fun (z107 : Int) (m106 : jg_M) => (if jg_wr z107 = 0 then Q t105 m106 else jg_GI w 2 mm_X12_firstFrom 5 [.ref a0, .int (.ofInt x1), u2, .int (.ofInt t105), .int (.ofInt (x4 + 1)), .int (.ofInt z104)] m106 Q)) else ∀ t108 : Int, t108 = (jg_or x3 (jg_shl 1 z104)) → jg_CI w 1 mm_X12_isEmpty [.ref a0, .int (.ofInt z104)] m103 (fun (z110 : Int) (m109 : jg_M) => (if jg_wr z110 = 0 then Q t108 m109 else jg_GI w 2 mm_X12_firstFrom 5 [.ref a0, .int (.ofInt x1), u2, .int (.ofInt t108), .int (.ofInt (x4 + 1)), .int (.ofInt z104)] m109 Q))))))) : jg_GI w 2 mm_X12_firstFrom 5 [.ref a0, .int (.ofInt x1), u2, .int (.ofInt x3), .int (.ofInt x4), u5] σ Q := by
  show jg_G w 2 mm_X12_firstFrom 5 [.ref a0, .int (.ofInt x1), u2, .int (.ofInt x3), .int (.ofInt x4), u5] [] σ (jg_QI Q)
  refine jg_A (pc' := 7) rfl rfl (fun _ _ _ => rfl) ?_
  refine jg_A (pc' := 8) rfl rfl (fun _ _ _ => rfl) ?_
  refine jg_A (pc' := 9) rfl rfl (fun _ _ _ => rfl) ?_
  refine jg_calX (M1 := mm_X12_longOf) (hy := 0) (pc' := 12) rfl jm_X12_longOf (by decide) rfl h0 (by decide) ⟨Nat.le_of_ble_eq_true rfl, rfl⟩ (Nat.le_of_ble_eq_true rfl) rfl h (jg_kI (fun z102 m101 h => ?_))
  refine jg_cge (pc' := 15) rfl rfl (fun hc => ?_) (fun hc => ?_)
  · have h := jg_t h (show jg_wr z102 ≤ jg_wr x4 from hc)
    refine jg_A (pc' := 76) rfl rfl (fun _ _ _ => rfl) ?_
    exact jg_iret rfl rfl h
  · have h := jg_f h (show ¬ (jg_wr z102 ≤ jg_wr x4) from hc)
    refine jg_A (pc' := 16) rfl rfl (fun _ _ _ => rfl) ?_
    refine jg_A (pc' := 17) rfl rfl (fun _ _ _ => rfl) ?_
    refine jg_A (pc' := 19) rfl rfl (fun _ _ _ => rfl) ?_
    refine jg_calX (M1 := mm_X12_moveBy) (hy := 0) (pc' := 22) rfl jm_X12_moveBy (by decide) rfl h0 (by decide) ⟨Nat.le_of_ble_eq_true rfl, rfl⟩ (Nat.le_of_ble_eq_true rfl) rfl h (jg_kI (fun z104 m103 h => ?_))
    refine jg_A (pc' := 24) (ls' := [.ref a0, .int (.ofInt x1), u2, .int (.ofInt x3), .int (.ofInt x4), .int (.ofInt z104)]) rfl rfl (fun _ _ _ => rfl) ?_
    refine jg_A (pc' := 25) rfl rfl (fun _ _ _ => rfl) ?_
    refine jg_A (pc' := 27) rfl rfl (fun _ _ _ => rfl) ?_
    refine jg_A (pc' := 29) rfl rfl (fun _ _ _ => rfl) ?_
    refine jg_cge (pc' := 32) rfl rfl (fun hc => ?_) (fun hc => ?_)
    · have h := jg_t h (show 7 ≤ jg_wr z104 from hc)
      refine jg_A (pc' := 40) rfl rfl (fun _ _ _ => rfl) ?_
      refine jg_getO (pc' := 43) (k := 21) rfl h0 (by decide) rfl rfl ?_
      refine jg_A (pc' := 44) rfl rfl (fun _ _ _ => rfl) ?_
      refine jg_A (pc' := 45) rfl rfl (fun _ _ _ => rfl) ?_
      refine jg_getI (pc' := 48) (bi := 36) rfl h0 (by decide) (Or.inl rfl) rfl rfl ?_
      refine jg_imul (pc' := 49) rfl rfl ?_
      refine jg_A (pc' := 51) rfl rfl (fun _ _ _ => rfl) ?_
      refine jg_iadd (pc' := 52) rfl rfl ?_
      refine jg_A (pc' := 54) rfl rfl (fun _ _ _ => rfl) ?_
      refine jg_isub (pc' := 55) rfl rfl ?_
      obtain ⟨hg, h⟩ := h
      refine jg_iald (pc' := 56) rfl (jg_sX12_30 h0) hg rfl ?_
      refine jg_ior (pc' := 57) rfl rfl ?_
      refine jg_nm (F := fun t105 => jg_G w 2 mm_X12_firstFrom 57 [.ref a0, .int (.ofInt x1), u2, .int (.ofInt x3), .int (.ofInt x4), .int (.ofInt z104)] [.int (.ofInt t105)] m103 (jg_QI Q)) (jg_or x3 (m103.1 (a0 + 21) (jg_wr (((5 * (m103.1 a0 36)) + z104) - 7)))) (fun t105 ht105 => ?_)
      have h := h t105 ht105
      refine jg_A (pc' := 58) (ls' := [.ref a0, .int (.ofInt x1), u2, .int (.ofInt t105), .int (.ofInt x4), .int (.ofInt z104)]) rfl rfl (fun _ _ _ => rfl) ?_
      refine jg_A (pc' := 59) rfl rfl (fun _ _ _ => rfl) ?_
      refine jg_A (pc' := 61) rfl rfl (fun _ _ _ => rfl) ?_
      refine jg_calX (M1 := mm_X12_isEmpty) (hy := 1) (pc' := 64) rfl jm_X12_isEmpty (by decide) rfl h0 (by decide) ⟨Nat.le_of_ble_eq_true rfl, rfl⟩ (Nat.le_of_ble_eq_true rfl) rfl h (jg_kI (fun z107 m106 h => ?_))
      refine jg_ifne (pc' := 67) rfl rfl (fun hc => ?_) (fun hc => ?_)
      · have h := jg_t h (show jg_wr z107 = 0 from hc)
        refine jg_A (pc' := 68) rfl rfl (fun _ _ _ => rfl) ?_
        exact jg_iret rfl rfl h
      · have h := jg_f h (show ¬ (jg_wr z107 = 0) from hc)
        refine jg_iinc (pc' := 72) (ls' := [.ref a0, .int (.ofInt x1), u2, .int (.ofInt t105), .int (.ofInt (x4 + 1)), .int (.ofInt z104)]) rfl rfl rfl rfl ?_
        refine jg_goto rfl ?_
        exact h
    · have h := jg_f h (show ¬ (7 ≤ jg_wr z104) from hc)
      refine jg_A (pc' := 33) rfl rfl (fun _ _ _ => rfl) ?_
      refine jg_A (pc' := 35) rfl rfl (fun _ _ _ => rfl) ?_
      refine jg_ishl (pc' := 36) rfl rfl ?_
      refine jg_goto rfl ?_
      refine jg_ior (pc' := 57) rfl rfl ?_
      refine jg_nm (F := fun t108 => jg_G w 2 mm_X12_firstFrom 57 [.ref a0, .int (.ofInt x1), u2, .int (.ofInt x3), .int (.ofInt x4), .int (.ofInt z104)] [.int (.ofInt t108)] m103 (jg_QI Q)) (jg_or x3 (jg_shl 1 z104)) (fun t108 ht108 => ?_)
      have h := h t108 ht108
      refine jg_A (pc' := 58) (ls' := [.ref a0, .int (.ofInt x1), u2, .int (.ofInt t108), .int (.ofInt x4), .int (.ofInt z104)]) rfl rfl (fun _ _ _ => rfl) ?_
      refine jg_A (pc' := 59) rfl rfl (fun _ _ _ => rfl) ?_
      refine jg_A (pc' := 61) rfl rfl (fun _ _ _ => rfl) ?_
      refine jg_calX (M1 := mm_X12_isEmpty) (hy := 1) (pc' := 64) rfl jm_X12_isEmpty (by decide) rfl h0 (by decide) ⟨Nat.le_of_ble_eq_true rfl, rfl⟩ (Nat.le_of_ble_eq_true rfl) rfl h (jg_kI (fun z110 m109 h => ?_))
      refine jg_ifne (pc' := 67) rfl rfl (fun hc => ?_) (fun hc => ?_)
      · have h := jg_t h (show jg_wr z110 = 0 from hc)
        refine jg_A (pc' := 68) rfl rfl (fun _ _ _ => rfl) ?_
        exact jg_iret rfl rfl h
      · have h := jg_f h (show ¬ (jg_wr z110 = 0) from hc)
        refine jg_iinc (pc' := 72) (ls' := [.ref a0, .int (.ofInt x1), u2, .int (.ofInt t108), .int (.ofInt (x4 + 1)), .int (.ofInt z104)]) rfl rfl rfl rfl ?_
        refine jg_goto rfl ?_
        exact h
set_option maxRecDepth 100000 in
set_option maxHeartbeats 4000000 in
theorem jb_X12_layFirsts_0 {w : Nat} {a0 : Nat} {σ : jg_M} {Q : jg_M → Prop} (h0 : jg_sh a0 = (12, 0)) (h : ((0 : Int) ≤ (jg_wr (σ.1 a0 36)) ∧ (jg_wr (σ.1 a0 36)) < (2 : Int)) ∧ ∀ m101 : jg_M, m101 = jg_sI σ (a0 + 20) (jg_wr (σ.1 a0 36)) 0 → jg_GV w 3 mm_X12_layFirsts 12 [.ref a0, .int (.ofInt 0), mj_U, mj_U, mj_U] m101 Q) : jg_CV w 3 mm_X12_layFirsts [.ref a0] σ Q := by
  show jg_G w 3 mm_X12_layFirsts 0 [.ref a0, mj_U, mj_U, mj_U, mj_U] [] σ (jg_QV Q)
  refine jg_A (pc' := 1) rfl rfl (fun _ _ _ => rfl) ?_
  refine jg_getO (pc' := 4) (k := 20) rfl h0 (by decide) rfl rfl ?_
  refine jg_A (pc' := 5) rfl rfl (fun _ _ _ => rfl) ?_
  refine jg_getI (pc' := 8) (bi := 36) rfl h0 (by decide) (Or.inl rfl) rfl rfl ?_
  refine jg_A (pc' := 9) rfl rfl (fun _ _ _ => rfl) ?_
  obtain ⟨hg, h⟩ := h
  refine jg_iast (pc' := 10) rfl (jg_sX12_29 h0) hg rfl (fun m101 hm101 => ?_)
  have h := h m101 hm101
  refine jg_A (pc' := 11) rfl rfl (fun _ _ _ => rfl) ?_
  refine jg_A (pc' := 12) (ls' := [.ref a0, .int (.ofInt 0), mj_U, mj_U, mj_U]) rfl rfl (fun _ _ _ => rfl) ?_
  exact h
set_option maxRecDepth 100000 in
set_option maxHeartbeats 4000000 in
theorem jb_X12_layFirsts_12 {w : Nat} {a0 : Nat} {x1 : Int} {u2 : Value} {u3 : Value} {u4 : Value} {σ : jg_M} {Q : jg_M → Prop} (h0 : jg_sh a0 = (12, 0)) (h : (if 5 ≤ jg_wr x1 then jg_GV w 3 mm_X12_layFirsts 39 [.ref a0, .int (.ofInt 1), u2, u3, u4] σ Q else ((0 : Int) ≤ (jg_wr ((5 * (σ.1 a0 36)) + x1)) ∧ (jg_wr ((5 * (σ.1 a0 36)) + x1)) < (10 : Int)) ∧ ∀ m101 : jg_M, m101 = jg_sI σ (a0 + 21) (jg_wr ((5 * (σ.1 a0 36)) + x1)) 0 → jg_GV w 3 mm_X12_layFirsts 12 [.ref a0, .int (.ofInt (x1 + 1)), u2, u3, u4] m101 Q)) : jg_GV w 3 mm_X12_layFirsts 12 [.ref a0, .int (.ofInt x1), u2, u3, u4] σ Q := by
  show jg_G w 3 mm_X12_layFirsts 12 [.ref a0, .int (.ofInt x1), u2, u3, u4] [] σ (jg_QV Q)
  refine jg_A (pc' := 13) rfl rfl (fun _ _ _ => rfl) ?_
  refine jg_A (pc' := 14) rfl rfl (fun _ _ _ => rfl) ?_
  refine jg_cge (pc' := 17) rfl rfl (fun hc => ?_) (fun hc => ?_)
  · have h := jg_t h (show 5 ≤ jg_wr x1 from hc)
    refine jg_A (pc' := 38) rfl rfl (fun _ _ _ => rfl) ?_
    refine jg_A (pc' := 39) (ls' := [.ref a0, .int (.ofInt 1), u2, u3, u4]) rfl rfl (fun _ _ _ => rfl) ?_
    exact h
  · have h := jg_f h (show ¬ (5 ≤ jg_wr x1) from hc)
    refine jg_A (pc' := 18) rfl rfl (fun _ _ _ => rfl) ?_
    refine jg_getO (pc' := 21) (k := 21) rfl h0 (by decide) rfl rfl ?_
    refine jg_A (pc' := 22) rfl rfl (fun _ _ _ => rfl) ?_
    refine jg_A (pc' := 23) rfl rfl (fun _ _ _ => rfl) ?_
    refine jg_getI (pc' := 26) (bi := 36) rfl h0 (by decide) (Or.inl rfl) rfl rfl ?_
    refine jg_imul (pc' := 27) rfl rfl ?_
    refine jg_A (pc' := 28) rfl rfl (fun _ _ _ => rfl) ?_
    refine jg_iadd (pc' := 29) rfl rfl ?_
    refine jg_A (pc' := 30) rfl rfl (fun _ _ _ => rfl) ?_
    obtain ⟨hg, h⟩ := h
    refine jg_iast (pc' := 31) rfl (jg_sX12_30 h0) hg rfl (fun m101 hm101 => ?_)
    have h := h m101 hm101
    refine jg_iinc (pc' := 34) (ls' := [.ref a0, .int (.ofInt (x1 + 1)), u2, u3, u4]) rfl rfl rfl rfl ?_
    refine jg_goto rfl ?_
    exact h
set_option maxRecDepth 100000 in
set_option maxHeartbeats 4000000 in
theorem jb_X12_layFirsts_39 {w : Nat} {a0 : Nat} {x1 : Int} {u2 : Value} {u3 : Value} {u4 : Value} {σ : jg_M} {Q : jg_M → Prop} (h0 : jg_sh a0 = (12, 0)) (h : (if jg_wr x1 = 0 then Q σ else jg_GV w 3 mm_X12_layFirsts 47 [.ref a0, .int (.ofInt 0), .int (.ofInt 0), u3, u4] σ Q)) : jg_GV w 3 mm_X12_layFirsts 39 [.ref a0, .int (.ofInt x1), u2, u3, u4] σ Q := by
  show jg_G w 3 mm_X12_layFirsts 39 [.ref a0, .int (.ofInt x1), u2, u3, u4] [] σ (jg_QV Q)
  refine jg_A (pc' := 40) rfl rfl (fun _ _ _ => rfl) ?_
  refine jg_ifeq (pc' := 43) rfl rfl (fun hc => ?_) (fun hc => ?_)
  · have h := jg_t h (show jg_wr x1 = 0 from hc)
    exact jg_vret rfl rfl h
  · have h := jg_f h (show ¬ (jg_wr x1 = 0) from hc)
    refine jg_A (pc' := 44) rfl rfl (fun _ _ _ => rfl) ?_
    refine jg_A (pc' := 45) (ls' := [.ref a0, .int (.ofInt 0), u2, u3, u4]) rfl rfl (fun _ _ _ => rfl) ?_
    refine jg_A (pc' := 46) rfl rfl (fun _ _ _ => rfl) ?_
    refine jg_A (pc' := 47) (ls' := [.ref a0, .int (.ofInt 0), .int (.ofInt 0), u3, u4]) rfl rfl (fun _ _ _ => rfl) ?_
    exact h
set_option maxRecDepth 100000 in
set_option maxHeartbeats 4000000 in
theorem jb_X12_layFirsts_47 {w : Nat} {a0 : Nat} {x1 : Int} {x2 : Int} {u3 : Value} {u4 : Value} {σ : jg_M} {Q : jg_M → Prop} (h0 : jg_sh a0 = (12, 0)) (h : ((0 : Int) ≤ jg_wr (σ.1 a0 35) ∧ jg_wr (σ.1 a0 35) < (2 : Int)) ∧ (if jg_wr (σ.1 (a0 + 5) (jg_wr (σ.1 a0 35))) ≤ jg_wr x2 then jg_GV w 3 mm_X12_layFirsts 39 [.ref a0, .int (.ofInt x1), .int (.ofInt x2), u3, u4] σ Q else (if jg_wr x2 = jg_wr (σ.1 a0 34) then jg_GV w 3 mm_X12_layFirsts 47 [.ref a0, .int (.ofInt x1), .int (.ofInt (x2 + 1)), u3, u4] σ Q else ((0 : Int) ≤ jg_wr ((13 * (σ.1 a0 35)) + x2) ∧ jg_wr ((13 * (σ.1 a0 35)) + x2) < (26 : Int)) ∧ ∀ t101 : Int, t101 = (σ.1 (a0 + 10) (jg_wr ((13 * (σ.1 a0 35)) + x2))) → ((0 : Int) ≤ jg_wr ((5 * (σ.1 a0 36)) + t101) ∧ jg_wr ((5 * (σ.1 a0 36)) + t101) < (10 : Int)) ∧ ((0 : Int) ≤ jg_wr (σ.1 a0 36) ∧ jg_wr (σ.1 a0 36) < (2 : Int)) ∧ ∀ t102 : Int, t102 = (jg_or (σ.1 (a0 + 21) (jg_wr ((5 * (σ.1 a0 36)) + t101))) (jg_shl (jg_and (jg_shr (σ.1 (a0 + 20) (jg_wr (σ.1 a0 36))) t101) 1) 8)) → jg_CI w 2 mm_X12_isEmptyFrom [.ref a0, .int (.ofInt x2), .int (.ofInt 0)] σ (fun (z104 : Int) (m103 : jg_M) => (if jg_wr z104 = 0 then ((0 : Int) ≤ jg_wr ((5 * (m103.1 a0 36)) + t101) ∧ jg_wr ((5 * (m103.1 a0 36)) + t101) < (10 : Int)) ∧ jg_CI w 2 mm_X12_firstFrom [.ref a0, .int (.ofInt x2), .int (.ofInt 0)] m103 (fun (z106 : Int) (m105 : jg_M) => ((0 : Int) ≤ (jg_wr ((5 * (m103.1 a0 36)) + t101)) ∧ (jg_wr ((5 * (m103.1 a0 36)) + t101)) < (10 : Int)) ∧ ∀ m107 : jg_M, m107 = jg_sI m105 (a0 + 21) (jg_wr ((5 * (m103.1 a0 36)) + t101)) (jg_or (m103.1 (a0 + 21) (jg_wr ((5 * (m103.1 a0 36)) + t101))) z106) → (if jg_wr x1 = 0 then ((0 : Int) ≤ jg_wr ((5 * (m107.1 a0 36)) + t101) ∧ jg_wr ((5 * (m107.1 a0 36)) + t101) < (10 : Int)) ∧ ((0 : Int) ≤ jg_wr (m107.1 a0 36) ∧ jg_wr (m107.1 a0 36) < (2 : Int)) ∧ (if jg_wr t102 = jg_wr (jg_or (m107.1 (a0 + 21) (jg_wr ((5 * (m107.1 a0 36)) + t101))) (jg_shl (jg_and (jg_shr (m107.1 (a0 + 20) (jg_wr (m107.1 a0 36))) t101) 1) 8)) then jg_GV w 3 mm_X12_layFirsts 47 [.ref a0, .int (.ofInt 0), .int (.ofInt (x2 + 1)), .int (.ofInt t101), .int (.ofInt t102)] m107 Q else jg_GV w 3 mm_X12_layFirsts 47 [.ref a0, .int (.ofInt 1), .int (.ofInt (x2 + 1)), .int (.ofInt t101), .int (.ofInt t102)] m107 Q) else jg_GV w 3 mm_X12_layFirsts 47 [.ref a0, .int (.ofInt 1), .int (.ofInt (x2 + 1)), .int (.ofInt t101), .int (.ofInt t102)] m107 Q)) else ((0 : Int) ≤ jg_wr (m103.1 a0 36) ∧ jg_wr (m103.1 a0 36) < (2 : Int)) ∧ ((0 : Int) ≤ (jg_wr (m103.1 a0 36)) ∧ (jg_wr (m103.1 a0 36)) < (2 : Int)) ∧ ∀ m108 : jg_M, m108 = jg_sI m103 (a0 + 20) (jg_wr (m103.1 a0 36)) (jg_or (m103.1 (a0 + 20) (jg_wr (m103.1 a0 36))) (jg_shl 1 t101)) → ((0 : Int) ≤ jg_wr ((5 * (m108.1 a0 36)) + t101) ∧ jg_wr ((5 * (m108.1 a0 36)) + t101) < (10 : Int)) ∧ jg_CI w 2 mm_X12_firstFrom [.ref a0, .int (.ofInt x2), .int (.ofInt 0)] m108 (fun (z110 : Int) (m109 : jg_M) => ((0 : Int) ≤ (jg_wr ((5 * (m108.1 a0 36)) + t101)) ∧ (jg_wr ((5 * (m108.1 a0 36)) + t101)) < (10 : Int)) ∧ ∀ m111 : jg_M, m111 = jg_sI m109 (a0 + 21) (jg_wr ((5 * (m108.1 a0 36)) + t101)) (jg_or (m108.1 (a0 + 21) (jg_wr ((5 * (m108.1 a0 36)) + t101))) z110) → (if jg_wr x1 = 0 then ((0 : Int) ≤ jg_wr ((5 * (m111.1 a0 36)) + t101) ∧ jg_wr ((5 * (m111.1 a0 36)) + t101) < (10 : Int)) ∧ ((0 : Int) ≤ jg_wr (m111.1 a0 36) ∧ jg_wr (m111.1 a0 36) < (2 : Int)) ∧ (if jg_wr t102 = jg_wr (jg_or (m111.1 (a0 + 21) (jg_wr ((5 * (m111.1 a0 36)) + t101))) (jg_shl (jg_and (jg_shr (m111.1 (a0 + 20) (jg_wr (m111.1 a0 36))) t101) 1) 8)) then jg_GV w 3 mm_X12_layFirsts 47 [.ref a0, .int (.ofInt 0), .int (.ofInt (x2 + 1)), .int (.ofInt t101), .int (.ofInt t102)] m111 Q else jg_GV w 3 mm_X12_layFirsts 47 [.ref a0, .int (.ofInt 1), .int (.ofInt (x2 + 1)), .int (.ofInt t101), .int (.ofInt t102)] m111 Q) else jg_GV w 3 mm_X12_layFirsts 47 [.ref a0, .int (.ofInt 1), .int (.ofInt (x2 + 1)), .int (.ofInt t101), .int (.ofInt t102)] m111 Q))))))) : jg_GV w 3 mm_X12_layFirsts 47 [.ref a0, .int (.ofInt x1), .int (.ofInt x2), u3, u4] σ Q := by
  show jg_G w 3 mm_X12_layFirsts 47 [.ref a0, .int (.ofInt x1), .int (.ofInt x2), u3, u4] [] σ (jg_QV Q)
  refine jg_A (pc' := 48) rfl rfl (fun _ _ _ => rfl) ?_
  refine jg_A (pc' := 49) rfl rfl (fun _ _ _ => rfl) ?_
  refine jg_getO (pc' := 52) (k := 5) rfl h0 (by decide) rfl rfl ?_
  refine jg_A (pc' := 53) rfl rfl (fun _ _ _ => rfl) ?_
  refine jg_getI (pc' := 56) (bi := 35) rfl h0 (by decide) (Or.inl rfl) rfl rfl ?_
  obtain ⟨hg, h⟩ := h
  refine jg_iald (pc' := 57) rfl (jg_sX12_14 h0) hg rfl ?_
  refine jg_cge (pc' := 60) rfl rfl (fun hc => ?_) (fun hc => ?_)
  · have h := jg_t h (show jg_wr (σ.1 (a0 + 5) (jg_wr (σ.1 a0 35))) ≤ jg_wr x2 from hc)
    refine jg_goto rfl ?_
    exact h
  · have h := jg_f h (show ¬ (jg_wr (σ.1 (a0 + 5) (jg_wr (σ.1 a0 35))) ≤ jg_wr x2) from hc)
    refine jg_A (pc' := 61) rfl rfl (fun _ _ _ => rfl) ?_
    refine jg_A (pc' := 62) rfl rfl (fun _ _ _ => rfl) ?_
    refine jg_getI (pc' := 65) (bi := 34) rfl h0 (by decide) (Or.inl rfl) rfl rfl ?_
    refine jg_cne (pc' := 68) rfl rfl (fun hc => ?_) (fun hc => ?_)
    · have h := jg_t h (show jg_wr x2 = jg_wr (σ.1 a0 34) from hc)
      refine jg_goto rfl ?_
      refine jg_iinc (pc' := 212) (ls' := [.ref a0, .int (.ofInt x1), .int (.ofInt (x2 + 1)), u3, u4]) rfl rfl rfl rfl ?_
      refine jg_goto rfl ?_
      exact h
    · have h := jg_f h (show ¬ (jg_wr x2 = jg_wr (σ.1 a0 34)) from hc)
      refine jg_A (pc' := 72) rfl rfl (fun _ _ _ => rfl) ?_
      refine jg_getO (pc' := 75) (k := 10) rfl h0 (by decide) rfl rfl ?_
      refine jg_A (pc' := 77) rfl rfl (fun _ _ _ => rfl) ?_
      refine jg_A (pc' := 78) rfl rfl (fun _ _ _ => rfl) ?_
      refine jg_getI (pc' := 81) (bi := 35) rfl h0 (by decide) (Or.inl rfl) rfl rfl ?_
      refine jg_imul (pc' := 82) rfl rfl ?_
      refine jg_A (pc' := 83) rfl rfl (fun _ _ _ => rfl) ?_
      refine jg_iadd (pc' := 84) rfl rfl ?_
      obtain ⟨hg, h⟩ := h
      refine jg_iald (pc' := 85) rfl (jg_sX12_19 h0) hg rfl ?_
      refine jg_nm (F := fun t101 => jg_G w 3 mm_X12_layFirsts 85 [.ref a0, .int (.ofInt x1), .int (.ofInt x2), u3, u4] [.int (.ofInt t101)] σ (jg_QV Q)) (σ.1 (a0 + 10) (jg_wr ((13 * (σ.1 a0 35)) + x2))) (fun t101 ht101 => ?_)
      have h := h t101 ht101
      refine jg_A (pc' := 86) (ls' := [.ref a0, .int (.ofInt x1), .int (.ofInt x2), .int (.ofInt t101), u4]) rfl rfl (fun _ _ _ => rfl) ?_
      refine jg_A (pc' := 87) rfl rfl (fun _ _ _ => rfl) ?_
      refine jg_getO (pc' := 90) (k := 21) rfl h0 (by decide) rfl rfl ?_
      refine jg_A (pc' := 91) rfl rfl (fun _ _ _ => rfl) ?_
      refine jg_A (pc' := 92) rfl rfl (fun _ _ _ => rfl) ?_
      refine jg_getI (pc' := 95) (bi := 36) rfl h0 (by decide) (Or.inl rfl) rfl rfl ?_
      refine jg_imul (pc' := 96) rfl rfl ?_
      refine jg_A (pc' := 97) rfl rfl (fun _ _ _ => rfl) ?_
      refine jg_iadd (pc' := 98) rfl rfl ?_
      obtain ⟨hg, h⟩ := h
      refine jg_iald (pc' := 99) rfl (jg_sX12_30 h0) hg rfl ?_
      refine jg_A (pc' := 100) rfl rfl (fun _ _ _ => rfl) ?_
      refine jg_getO (pc' := 103) (k := 20) rfl h0 (by decide) rfl rfl ?_
      refine jg_A (pc' := 104) rfl rfl (fun _ _ _ => rfl) ?_
      refine jg_getI (pc' := 107) (bi := 36) rfl h0 (by decide) (Or.inl rfl) rfl rfl ?_
      obtain ⟨hg, h⟩ := h
      refine jg_iald (pc' := 108) rfl (jg_sX12_29 h0) hg rfl ?_
      refine jg_A (pc' := 109) rfl rfl (fun _ _ _ => rfl) ?_
      refine jg_ishr (pc' := 110) rfl rfl ?_
      refine jg_A (pc' := 111) rfl rfl (fun _ _ _ => rfl) ?_
      refine jg_iand (pc' := 112) rfl rfl ?_
      refine jg_A (pc' := 114) rfl rfl (fun _ _ _ => rfl) ?_
      refine jg_ishl (pc' := 115) rfl rfl ?_
      refine jg_ior (pc' := 116) rfl rfl ?_
      refine jg_nm (F := fun t102 => jg_G w 3 mm_X12_layFirsts 116 [.ref a0, .int (.ofInt x1), .int (.ofInt x2), .int (.ofInt t101), u4] [.int (.ofInt t102)] σ (jg_QV Q)) (jg_or (σ.1 (a0 + 21) (jg_wr ((5 * (σ.1 a0 36)) + t101))) (jg_shl (jg_and (jg_shr (σ.1 (a0 + 20) (jg_wr (σ.1 a0 36))) t101) 1) 8)) (fun t102 ht102 => ?_)
      have h := h t102 ht102
      refine jg_A (pc' := 118) (ls' := [.ref a0, .int (.ofInt x1), .int (.ofInt x2), .int (.ofInt t101), .int (.ofInt t102)]) rfl rfl (fun _ _ _ => rfl) ?_
      refine jg_A (pc' := 119) rfl rfl (fun _ _ _ => rfl) ?_
      refine jg_A (pc' := 120) rfl rfl (fun _ _ _ => rfl) ?_
      refine jg_A (pc' := 121) rfl rfl (fun _ _ _ => rfl) ?_
      refine jg_calX (M1 := mm_X12_isEmptyFrom) (hy := 2) (pc' := 124) rfl jm_X12_isEmptyFrom (by decide) rfl h0 (by decide) ⟨Nat.le_of_ble_eq_true rfl, rfl⟩ (Nat.le_of_ble_eq_true rfl) rfl h (jg_kI (fun z104 m103 h => ?_))
      refine jg_ifeq (pc' := 127) rfl rfl (fun hc => ?_) (fun hc => ?_)
      · have h := jg_t h (show jg_wr z104 = 0 from hc)
        refine jg_A (pc' := 143) rfl rfl (fun _ _ _ => rfl) ?_
        refine jg_getO (pc' := 146) (k := 21) rfl h0 (by decide) rfl rfl ?_
        refine jg_A (pc' := 147) rfl rfl (fun _ _ _ => rfl) ?_
        refine jg_A (pc' := 148) rfl rfl (fun _ _ _ => rfl) ?_
        refine jg_getI (pc' := 151) (bi := 36) rfl h0 (by decide) (Or.inl rfl) rfl rfl ?_
        refine jg_imul (pc' := 152) rfl rfl ?_
        refine jg_A (pc' := 153) rfl rfl (fun _ _ _ => rfl) ?_
        refine jg_iadd (pc' := 154) rfl rfl ?_
        refine jg_A (pc' := 155) rfl rfl (fun _ _ _ => rfl) ?_
        obtain ⟨hg, h⟩ := h
        refine jg_iald (pc' := 156) rfl (jg_sX12_30 h0) hg rfl ?_
        refine jg_A (pc' := 157) rfl rfl (fun _ _ _ => rfl) ?_
        refine jg_A (pc' := 158) rfl rfl (fun _ _ _ => rfl) ?_
        refine jg_A (pc' := 159) rfl rfl (fun _ _ _ => rfl) ?_
        refine jg_calX (M1 := mm_X12_firstFrom) (hy := 2) (pc' := 162) rfl jm_X12_firstFrom (by decide) rfl h0 (by decide) ⟨Nat.le_of_ble_eq_true rfl, rfl⟩ (Nat.le_of_ble_eq_true rfl) rfl h (jg_kI (fun z106 m105 h => ?_))
        refine jg_ior (pc' := 163) rfl rfl ?_
        obtain ⟨hg, h⟩ := h
        refine jg_iast (pc' := 164) rfl (jg_sX12_30 h0) hg rfl (fun m107 hm107 => ?_)
        have h := h m107 hm107
        refine jg_A (pc' := 165) rfl rfl (fun _ _ _ => rfl) ?_
        refine jg_ifne (pc' := 168) rfl rfl (fun hc => ?_) (fun hc => ?_)
        · have h := jg_t h (show jg_wr x1 = 0 from hc)
          refine jg_A (pc' := 170) rfl rfl (fun _ _ _ => rfl) ?_
          refine jg_A (pc' := 171) rfl rfl (fun _ _ _ => rfl) ?_
          refine jg_getO (pc' := 174) (k := 21) rfl h0 (by decide) rfl rfl ?_
          refine jg_A (pc' := 175) rfl rfl (fun _ _ _ => rfl) ?_
          refine jg_A (pc' := 176) rfl rfl (fun _ _ _ => rfl) ?_
          refine jg_getI (pc' := 179) (bi := 36) rfl h0 (by decide) (Or.inl rfl) rfl rfl ?_
          refine jg_imul (pc' := 180) rfl rfl ?_
          refine jg_A (pc' := 181) rfl rfl (fun _ _ _ => rfl) ?_
          refine jg_iadd (pc' := 182) rfl rfl ?_
          obtain ⟨hg, h⟩ := h
          refine jg_iald (pc' := 183) rfl (jg_sX12_30 h0) hg rfl ?_
          refine jg_A (pc' := 184) rfl rfl (fun _ _ _ => rfl) ?_
          refine jg_getO (pc' := 187) (k := 20) rfl h0 (by decide) rfl rfl ?_
          refine jg_A (pc' := 188) rfl rfl (fun _ _ _ => rfl) ?_
          refine jg_getI (pc' := 191) (bi := 36) rfl h0 (by decide) (Or.inl rfl) rfl rfl ?_
          obtain ⟨hg, h⟩ := h
          refine jg_iald (pc' := 192) rfl (jg_sX12_29 h0) hg rfl ?_
          refine jg_A (pc' := 193) rfl rfl (fun _ _ _ => rfl) ?_
          refine jg_ishr (pc' := 194) rfl rfl ?_
          refine jg_A (pc' := 195) rfl rfl (fun _ _ _ => rfl) ?_
          refine jg_iand (pc' := 196) rfl rfl ?_
          refine jg_A (pc' := 198) rfl rfl (fun _ _ _ => rfl) ?_
          refine jg_ishl (pc' := 199) rfl rfl ?_
          refine jg_ior (pc' := 200) rfl rfl ?_
          refine jg_ceq (pc' := 203) rfl rfl (fun hc => ?_) (fun hc => ?_)
          · have h := jg_t h (show jg_wr t102 = jg_wr (jg_or (m107.1 (a0 + 21) (jg_wr ((5 * (m107.1 a0 36)) + t101))) (jg_shl (jg_and (jg_shr (m107.1 (a0 + 20) (jg_wr (m107.1 a0 36))) t101) 1) 8)) from hc)
            refine jg_A (pc' := 208) rfl rfl (fun _ _ _ => rfl) ?_
            refine jg_A (pc' := 209) (ls' := [.ref a0, .int (.ofInt 0), .int (.ofInt x2), .int (.ofInt t101), .int (.ofInt t102)]) rfl rfl (fun _ _ _ => rfl) ?_
            refine jg_iinc (pc' := 212) (ls' := [.ref a0, .int (.ofInt 0), .int (.ofInt (x2 + 1)), .int (.ofInt t101), .int (.ofInt t102)]) rfl rfl rfl rfl ?_
            refine jg_goto rfl ?_
            exact h
          · have h := jg_f h (show ¬ (jg_wr t102 = jg_wr (jg_or (m107.1 (a0 + 21) (jg_wr ((5 * (m107.1 a0 36)) + t101))) (jg_shl (jg_and (jg_shr (m107.1 (a0 + 20) (jg_wr (m107.1 a0 36))) t101) 1) 8))) from hc)
            refine jg_A (pc' := 204) rfl rfl (fun _ _ _ => rfl) ?_
            refine jg_goto rfl ?_
            refine jg_A (pc' := 209) (ls' := [.ref a0, .int (.ofInt 1), .int (.ofInt x2), .int (.ofInt t101), .int (.ofInt t102)]) rfl rfl (fun _ _ _ => rfl) ?_
            refine jg_iinc (pc' := 212) (ls' := [.ref a0, .int (.ofInt 1), .int (.ofInt (x2 + 1)), .int (.ofInt t101), .int (.ofInt t102)]) rfl rfl rfl rfl ?_
            refine jg_goto rfl ?_
            exact h
        · have h := jg_f h (show ¬ (jg_wr x1 = 0) from hc)
          refine jg_A (pc' := 204) rfl rfl (fun _ _ _ => rfl) ?_
          refine jg_goto rfl ?_
          refine jg_A (pc' := 209) (ls' := [.ref a0, .int (.ofInt 1), .int (.ofInt x2), .int (.ofInt t101), .int (.ofInt t102)]) rfl rfl (fun _ _ _ => rfl) ?_
          refine jg_iinc (pc' := 212) (ls' := [.ref a0, .int (.ofInt 1), .int (.ofInt (x2 + 1)), .int (.ofInt t101), .int (.ofInt t102)]) rfl rfl rfl rfl ?_
          refine jg_goto rfl ?_
          exact h
      · have h := jg_f h (show ¬ (jg_wr z104 = 0) from hc)
        refine jg_A (pc' := 128) rfl rfl (fun _ _ _ => rfl) ?_
        refine jg_getO (pc' := 131) (k := 20) rfl h0 (by decide) rfl rfl ?_
        refine jg_A (pc' := 132) rfl rfl (fun _ _ _ => rfl) ?_
        refine jg_getI (pc' := 135) (bi := 36) rfl h0 (by decide) (Or.inl rfl) rfl rfl ?_
        refine jg_A (pc' := 136) rfl rfl (fun _ _ _ => rfl) ?_
        obtain ⟨hg, h⟩ := h
        refine jg_iald (pc' := 137) rfl (jg_sX12_29 h0) hg rfl ?_
        refine jg_A (pc' := 138) rfl rfl (fun _ _ _ => rfl) ?_
        refine jg_A (pc' := 139) rfl rfl (fun _ _ _ => rfl) ?_
        refine jg_ishl (pc' := 140) rfl rfl ?_
        refine jg_ior (pc' := 141) rfl rfl ?_
        obtain ⟨hg, h⟩ := h
        refine jg_iast (pc' := 142) rfl (jg_sX12_29 h0) hg rfl (fun m108 hm108 => ?_)
        have h := h m108 hm108
        refine jg_A (pc' := 143) rfl rfl (fun _ _ _ => rfl) ?_
        refine jg_getO (pc' := 146) (k := 21) rfl h0 (by decide) rfl rfl ?_
        refine jg_A (pc' := 147) rfl rfl (fun _ _ _ => rfl) ?_
        refine jg_A (pc' := 148) rfl rfl (fun _ _ _ => rfl) ?_
        refine jg_getI (pc' := 151) (bi := 36) rfl h0 (by decide) (Or.inl rfl) rfl rfl ?_
        refine jg_imul (pc' := 152) rfl rfl ?_
        refine jg_A (pc' := 153) rfl rfl (fun _ _ _ => rfl) ?_
        refine jg_iadd (pc' := 154) rfl rfl ?_
        refine jg_A (pc' := 155) rfl rfl (fun _ _ _ => rfl) ?_
        obtain ⟨hg, h⟩ := h
        refine jg_iald (pc' := 156) rfl (jg_sX12_30 h0) hg rfl ?_
        refine jg_A (pc' := 157) rfl rfl (fun _ _ _ => rfl) ?_
        refine jg_A (pc' := 158) rfl rfl (fun _ _ _ => rfl) ?_
        refine jg_A (pc' := 159) rfl rfl (fun _ _ _ => rfl) ?_
        refine jg_calX (M1 := mm_X12_firstFrom) (hy := 2) (pc' := 162) rfl jm_X12_firstFrom (by decide) rfl h0 (by decide) ⟨Nat.le_of_ble_eq_true rfl, rfl⟩ (Nat.le_of_ble_eq_true rfl) rfl h (jg_kI (fun z110 m109 h => ?_))
        refine jg_ior (pc' := 163) rfl rfl ?_
        obtain ⟨hg, h⟩ := h
        refine jg_iast (pc' := 164) rfl (jg_sX12_30 h0) hg rfl (fun m111 hm111 => ?_)
        have h := h m111 hm111
        refine jg_A (pc' := 165) rfl rfl (fun _ _ _ => rfl) ?_
        refine jg_ifne (pc' := 168) rfl rfl (fun hc => ?_) (fun hc => ?_)
        · have h := jg_t h (show jg_wr x1 = 0 from hc)
          refine jg_A (pc' := 170) rfl rfl (fun _ _ _ => rfl) ?_
          refine jg_A (pc' := 171) rfl rfl (fun _ _ _ => rfl) ?_
          refine jg_getO (pc' := 174) (k := 21) rfl h0 (by decide) rfl rfl ?_
          refine jg_A (pc' := 175) rfl rfl (fun _ _ _ => rfl) ?_
          refine jg_A (pc' := 176) rfl rfl (fun _ _ _ => rfl) ?_
          refine jg_getI (pc' := 179) (bi := 36) rfl h0 (by decide) (Or.inl rfl) rfl rfl ?_
          refine jg_imul (pc' := 180) rfl rfl ?_
          refine jg_A (pc' := 181) rfl rfl (fun _ _ _ => rfl) ?_
          refine jg_iadd (pc' := 182) rfl rfl ?_
          obtain ⟨hg, h⟩ := h
          refine jg_iald (pc' := 183) rfl (jg_sX12_30 h0) hg rfl ?_
          refine jg_A (pc' := 184) rfl rfl (fun _ _ _ => rfl) ?_
          refine jg_getO (pc' := 187) (k := 20) rfl h0 (by decide) rfl rfl ?_
          refine jg_A (pc' := 188) rfl rfl (fun _ _ _ => rfl) ?_
          refine jg_getI (pc' := 191) (bi := 36) rfl h0 (by decide) (Or.inl rfl) rfl rfl ?_
          obtain ⟨hg, h⟩ := h
          refine jg_iald (pc' := 192) rfl (jg_sX12_29 h0) hg rfl ?_
          refine jg_A (pc' := 193) rfl rfl (fun _ _ _ => rfl) ?_
          refine jg_ishr (pc' := 194) rfl rfl ?_
          refine jg_A (pc' := 195) rfl rfl (fun _ _ _ => rfl) ?_
          refine jg_iand (pc' := 196) rfl rfl ?_
          refine jg_A (pc' := 198) rfl rfl (fun _ _ _ => rfl) ?_
          refine jg_ishl (pc' := 199) rfl rfl ?_
          refine jg_ior (pc' := 200) rfl rfl ?_
          refine jg_ceq (pc' := 203) rfl rfl (fun hc => ?_) (fun hc => ?_)
          · have h := jg_t h (show jg_wr t102 = jg_wr (jg_or (m111.1 (a0 + 21) (jg_wr ((5 * (m111.1 a0 36)) + t101))) (jg_shl (jg_and (jg_shr (m111.1 (a0 + 20) (jg_wr (m111.1 a0 36))) t101) 1) 8)) from hc)
            refine jg_A (pc' := 208) rfl rfl (fun _ _ _ => rfl) ?_
            refine jg_A (pc' := 209) (ls' := [.ref a0, .int (.ofInt 0), .int (.ofInt x2), .int (.ofInt t101), .int (.ofInt t102)]) rfl rfl (fun _ _ _ => rfl) ?_
            refine jg_iinc (pc' := 212) (ls' := [.ref a0, .int (.ofInt 0), .int (.ofInt (x2 + 1)), .int (.ofInt t101), .int (.ofInt t102)]) rfl rfl rfl rfl ?_
            refine jg_goto rfl ?_
            exact h
          · have h := jg_f h (show ¬ (jg_wr t102 = jg_wr (jg_or (m111.1 (a0 + 21) (jg_wr ((5 * (m111.1 a0 36)) + t101))) (jg_shl (jg_and (jg_shr (m111.1 (a0 + 20) (jg_wr (m111.1 a0 36))) t101) 1) 8))) from hc)
            refine jg_A (pc' := 204) rfl rfl (fun _ _ _ => rfl) ?_
            refine jg_goto rfl ?_
            refine jg_A (pc' := 209) (ls' := [.ref a0, .int (.ofInt 1), .int (.ofInt x2), .int (.ofInt t101), .int (.ofInt t102)]) rfl rfl (fun _ _ _ => rfl) ?_
            refine jg_iinc (pc' := 212) (ls' := [.ref a0, .int (.ofInt 1), .int (.ofInt (x2 + 1)), .int (.ofInt t101), .int (.ofInt t102)]) rfl rfl rfl rfl ?_
            refine jg_goto rfl ?_
            exact h
        · have h := jg_f h (show ¬ (jg_wr x1 = 0) from hc)
          refine jg_A (pc' := 204) rfl rfl (fun _ _ _ => rfl) ?_
          refine jg_goto rfl ?_
          refine jg_A (pc' := 209) (ls' := [.ref a0, .int (.ofInt 1), .int (.ofInt x2), .int (.ofInt t101), .int (.ofInt t102)]) rfl rfl (fun _ _ _ => rfl) ?_
          refine jg_iinc (pc' := 212) (ls' := [.ref a0, .int (.ofInt 1), .int (.ofInt (x2 + 1)), .int (.ofInt t101), .int (.ofInt t102)]) rfl rfl rfl rfl ?_
          refine jg_goto rfl ?_
          exact h
set_option maxRecDepth 100000 in
set_option maxHeartbeats 4000000 in
theorem jb_X12_itemAt_0 {w : Nat} {a0 : Nat} {x1 : Int} {x2 : Int} {σ : jg_M} {Q : Int → jg_M → Prop} (h0 : jg_sh a0 = (12, 0)) (h : Q ((65 * ((48 * (σ.1 a0 36)) + x1)) + x2) σ) : jg_CI w 0 mm_X12_itemAt [.ref a0, .int (.ofInt x1), .int (.ofInt x2)] σ Q := by
  show jg_G w 0 mm_X12_itemAt 0 [.ref a0, .int (.ofInt x1), .int (.ofInt x2)] [] σ (jg_QI Q)
  refine jg_A (pc' := 2) rfl rfl (fun _ _ _ => rfl) ?_
  refine jg_A (pc' := 4) rfl rfl (fun _ _ _ => rfl) ?_
  refine jg_A (pc' := 5) rfl rfl (fun _ _ _ => rfl) ?_
  refine jg_getI (pc' := 8) (bi := 36) rfl h0 (by decide) (Or.inl rfl) rfl rfl ?_
  refine jg_imul (pc' := 9) rfl rfl ?_
  refine jg_A (pc' := 10) rfl rfl (fun _ _ _ => rfl) ?_
  refine jg_iadd (pc' := 11) rfl rfl ?_
  refine jg_imul (pc' := 12) rfl rfl ?_
  refine jg_A (pc' := 13) rfl rfl (fun _ _ _ => rfl) ?_
  refine jg_iadd (pc' := 14) rfl rfl ?_
  exact jg_iret rfl rfl h
set_option maxRecDepth 100000 in
set_option maxHeartbeats 4000000 in
theorem jb_X12_moveAt_0 {w : Nat} {a0 : Nat} {x1 : Int} {x2 : Int} {σ : jg_M} {Q : Int → jg_M → Prop} (h0 : jg_sh a0 = (12, 0)) (h : Q ((12 * ((48 * (σ.1 a0 36)) + x1)) + x2) σ) : jg_CI w 0 mm_X12_moveAt [.ref a0, .int (.ofInt x1), .int (.ofInt x2)] σ Q := by
  show jg_G w 0 mm_X12_moveAt 0 [.ref a0, .int (.ofInt x1), .int (.ofInt x2)] [] σ (jg_QI Q)
  refine jg_A (pc' := 2) rfl rfl (fun _ _ _ => rfl) ?_
  refine jg_A (pc' := 4) rfl rfl (fun _ _ _ => rfl) ?_
  refine jg_A (pc' := 5) rfl rfl (fun _ _ _ => rfl) ?_
  refine jg_getI (pc' := 8) (bi := 36) rfl h0 (by decide) (Or.inl rfl) rfl rfl ?_
  refine jg_imul (pc' := 9) rfl rfl ?_
  refine jg_A (pc' := 10) rfl rfl (fun _ _ _ => rfl) ?_
  refine jg_iadd (pc' := 11) rfl rfl ?_
  refine jg_imul (pc' := 12) rfl rfl ?_
  refine jg_A (pc' := 13) rfl rfl (fun _ _ _ => rfl) ?_
  refine jg_iadd (pc' := 14) rfl rfl ?_
  exact jg_iret rfl rfl h
set_option maxRecDepth 100000 in
set_option maxHeartbeats 4000000 in
theorem jb_X12_closes_0 {w : Nat} {a0 : Nat} {x1 : Int} {σ : jg_M} {Q : jg_M → Prop} (h0 : jg_sh a0 = (12, 0)) (h : jg_GV w 1 mm_X12_closes 2 [.ref a0, .int (.ofInt x1), .int (.ofInt 0), mj_U, mj_U, mj_U] σ Q) : jg_CV w 1 mm_X12_closes [.ref a0, .int (.ofInt x1)] σ Q := by
  show jg_G w 1 mm_X12_closes 0 [.ref a0, .int (.ofInt x1), mj_U, mj_U, mj_U, mj_U] [] σ (jg_QV Q)
  refine jg_A (pc' := 1) rfl rfl (fun _ _ _ => rfl) ?_
  refine jg_A (pc' := 2) (ls' := [.ref a0, .int (.ofInt x1), .int (.ofInt 0), mj_U, mj_U, mj_U]) rfl rfl (fun _ _ _ => rfl) ?_
  exact h
set_option maxRecDepth 100000 in
set_option maxHeartbeats 4000000 in
theorem jb_X12_closes_2 {w : Nat} {a0 : Nat} {x1 : Int} {x2 : Int} {u3 : Value} {u4 : Value} {u5 : Value} {σ : jg_M} {Q : jg_M → Prop} (h0 : jg_sh a0 = (12, 0)) (h : (if 65 ≤ jg_wr x2 then jg_GV w 1 mm_X12_closes 38 [.ref a0, .int (.ofInt x1), .int (.ofInt 1), u3, u4, u5] σ Q else jg_CI w 0 mm_X12_itemAt [.ref a0, .int (.ofInt x1), .int (.ofInt x2)] σ (fun (z102 : Int) (m101 : jg_M) => jg_CI w 0 mm_X12_itemAt [.ref a0, .int (.ofInt x1), .int (.ofInt x2)] m101 (fun (z104 : Int) (m103 : jg_M) => ((0 : Int) ≤ jg_wr z104 ∧ jg_wr z104 < (6240 : Int)) ∧ ((0 : Int) ≤ (jg_wr z102) ∧ (jg_wr z102) < (6240 : Int)) ∧ ∀ m105 : jg_M, m105 = jg_sI m103 (a0 + 15) (jg_wr z102) (jg_nar (m103.1 (a0 + 14) (jg_wr z104))) → jg_GV w 1 mm_X12_closes 2 [.ref a0, .int (.ofInt x1), .int (.ofInt (x2 + 1)), u3, u4, u5] m105 Q)))) : jg_GV w 1 mm_X12_closes 2 [.ref a0, .int (.ofInt x1), .int (.ofInt x2), u3, u4, u5] σ Q := by
  show jg_G w 1 mm_X12_closes 2 [.ref a0, .int (.ofInt x1), .int (.ofInt x2), u3, u4, u5] [] σ (jg_QV Q)
  refine jg_A (pc' := 3) rfl rfl (fun _ _ _ => rfl) ?_
  refine jg_A (pc' := 5) rfl rfl (fun _ _ _ => rfl) ?_
  refine jg_cge (pc' := 8) rfl rfl (fun hc => ?_) (fun hc => ?_)
  · have h := jg_t h (show 65 ≤ jg_wr x2 from hc)
    refine jg_A (pc' := 37) rfl rfl (fun _ _ _ => rfl) ?_
    refine jg_A (pc' := 38) (ls' := [.ref a0, .int (.ofInt x1), .int (.ofInt 1), u3, u4, u5]) rfl rfl (fun _ _ _ => rfl) ?_
    exact h
  · have h := jg_f h (show ¬ (65 ≤ jg_wr x2) from hc)
    refine jg_A (pc' := 9) rfl rfl (fun _ _ _ => rfl) ?_
    refine jg_getO (pc' := 12) (k := 15) rfl h0 (by decide) rfl rfl ?_
    refine jg_A (pc' := 13) rfl rfl (fun _ _ _ => rfl) ?_
    refine jg_A (pc' := 14) rfl rfl (fun _ _ _ => rfl) ?_
    refine jg_A (pc' := 15) rfl rfl (fun _ _ _ => rfl) ?_
    refine jg_calX (M1 := mm_X12_itemAt) (hy := 0) (pc' := 18) rfl jm_X12_itemAt (by decide) rfl h0 (by decide) ⟨Nat.le_of_ble_eq_true rfl, rfl⟩ (Nat.le_of_ble_eq_true rfl) rfl h (jg_kI (fun z102 m101 h => ?_))
    refine jg_A (pc' := 19) rfl rfl (fun _ _ _ => rfl) ?_
    refine jg_getO (pc' := 22) (k := 14) rfl h0 (by decide) rfl rfl ?_
    refine jg_A (pc' := 23) rfl rfl (fun _ _ _ => rfl) ?_
    refine jg_A (pc' := 24) rfl rfl (fun _ _ _ => rfl) ?_
    refine jg_A (pc' := 25) rfl rfl (fun _ _ _ => rfl) ?_
    refine jg_calX (M1 := mm_X12_itemAt) (hy := 0) (pc' := 28) rfl jm_X12_itemAt (by decide) rfl h0 (by decide) ⟨Nat.le_of_ble_eq_true rfl, rfl⟩ (Nat.le_of_ble_eq_true rfl) rfl h (jg_kI (fun z104 m103 h => ?_))
    obtain ⟨hg, h⟩ := h
    refine jg_zald (pc' := 29) rfl (jg_sX12_23 h0) hg rfl ?_
    obtain ⟨hg, h⟩ := h
    refine jg_zast (pc' := 30) rfl (jg_sX12_24 h0) hg rfl (fun m105 hm105 => ?_)
    have h := h m105 hm105
    refine jg_iinc (pc' := 33) (ls' := [.ref a0, .int (.ofInt x1), .int (.ofInt (x2 + 1)), u3, u4, u5]) rfl rfl rfl rfl ?_
    refine jg_goto rfl ?_
    exact h
set_option maxRecDepth 100000 in
set_option maxHeartbeats 4000000 in
theorem jb_X12_closes_38 {w : Nat} {a0 : Nat} {x1 : Int} {x2 : Int} {u3 : Value} {u4 : Value} {u5 : Value} {σ : jg_M} {Q : jg_M → Prop} (h0 : jg_sh a0 = (12, 0)) (h : (if jg_wr x2 = 0 then Q σ else jg_GV w 1 mm_X12_closes 46 [.ref a0, .int (.ofInt x1), .int (.ofInt 0), .int (.ofInt 0), u4, u5] σ Q)) : jg_GV w 1 mm_X12_closes 38 [.ref a0, .int (.ofInt x1), .int (.ofInt x2), u3, u4, u5] σ Q := by
  show jg_G w 1 mm_X12_closes 38 [.ref a0, .int (.ofInt x1), .int (.ofInt x2), u3, u4, u5] [] σ (jg_QV Q)
  refine jg_A (pc' := 39) rfl rfl (fun _ _ _ => rfl) ?_
  refine jg_ifeq (pc' := 42) rfl rfl (fun hc => ?_) (fun hc => ?_)
  · have h := jg_t h (show jg_wr x2 = 0 from hc)
    exact jg_vret rfl rfl h
  · have h := jg_f h (show ¬ (jg_wr x2 = 0) from hc)
    refine jg_A (pc' := 43) rfl rfl (fun _ _ _ => rfl) ?_
    refine jg_A (pc' := 44) (ls' := [.ref a0, .int (.ofInt x1), .int (.ofInt 0), u3, u4, u5]) rfl rfl (fun _ _ _ => rfl) ?_
    refine jg_A (pc' := 45) rfl rfl (fun _ _ _ => rfl) ?_
    refine jg_A (pc' := 46) (ls' := [.ref a0, .int (.ofInt x1), .int (.ofInt 0), .int (.ofInt 0), u4, u5]) rfl rfl (fun _ _ _ => rfl) ?_
    exact h
set_option maxRecDepth 100000 in
set_option maxHeartbeats 4000000 in
theorem jb_X12_closes_46 {w : Nat} {a0 : Nat} {x1 : Int} {x2 : Int} {x3 : Int} {u4 : Value} {u5 : Value} {σ : jg_M} {Q : jg_M → Prop} (h0 : jg_sh a0 = (12, 0)) (h : (if 65 ≤ jg_wr x3 then jg_GV w 1 mm_X12_closes 38 [.ref a0, .int (.ofInt x1), .int (.ofInt x2), .int (.ofInt x3), u4, u5] σ Q else jg_CI w 0 mm_X12_itemAt [.ref a0, .int (.ofInt x1), .int (.ofInt x3)] σ (fun (z102 : Int) (m101 : jg_M) => ((0 : Int) ≤ jg_wr z102 ∧ jg_wr z102 < (6240 : Int)) ∧ (if jg_wr (m101.1 (a0 + 15) (jg_wr z102)) = 0 then jg_GV w 1 mm_X12_closes 85 [.ref a0, .int (.ofInt x1), .int (.ofInt x2), .int (.ofInt x3), .int (.ofInt (-1)), .int (.ofInt 0)] m101 Q else jg_CI w 0 mm_X12_moveBy [.ref a0, .int (.ofInt (jg_div x3 5)), .int (.ofInt (jg_rem x3 5))] m101 (fun (z104 : Int) (m103 : jg_M) => jg_GV w 1 mm_X12_closes 85 [.ref a0, .int (.ofInt x1), .int (.ofInt x2), .int (.ofInt x3), .int (.ofInt z104), .int (.ofInt 0)] m103 Q))))) : jg_GV w 1 mm_X12_closes 46 [.ref a0, .int (.ofInt x1), .int (.ofInt x2), .int (.ofInt x3), u4, u5] σ Q := by
  show jg_G w 1 mm_X12_closes 46 [.ref a0, .int (.ofInt x1), .int (.ofInt x2), .int (.ofInt x3), u4, u5] [] σ (jg_QV Q)
  refine jg_A (pc' := 47) rfl rfl (fun _ _ _ => rfl) ?_
  refine jg_A (pc' := 49) rfl rfl (fun _ _ _ => rfl) ?_
  refine jg_cge (pc' := 52) rfl rfl (fun hc => ?_) (fun hc => ?_)
  · have h := jg_t h (show 65 ≤ jg_wr x3 from hc)
    refine jg_goto rfl ?_
    exact h
  · have h := jg_f h (show ¬ (65 ≤ jg_wr x3) from hc)
    refine jg_A (pc' := 53) rfl rfl (fun _ _ _ => rfl) ?_
    refine jg_getO (pc' := 56) (k := 15) rfl h0 (by decide) rfl rfl ?_
    refine jg_A (pc' := 57) rfl rfl (fun _ _ _ => rfl) ?_
    refine jg_A (pc' := 58) rfl rfl (fun _ _ _ => rfl) ?_
    refine jg_A (pc' := 59) rfl rfl (fun _ _ _ => rfl) ?_
    refine jg_calX (M1 := mm_X12_itemAt) (hy := 0) (pc' := 62) rfl jm_X12_itemAt (by decide) rfl h0 (by decide) ⟨Nat.le_of_ble_eq_true rfl, rfl⟩ (Nat.le_of_ble_eq_true rfl) rfl h (jg_kI (fun z102 m101 h => ?_))
    obtain ⟨hg, h⟩ := h
    refine jg_zald (pc' := 63) rfl (jg_sX12_24 h0) hg rfl ?_
    refine jg_ifeq (pc' := 66) rfl rfl (fun hc => ?_) (fun hc => ?_)
    · have h := jg_t h (show jg_wr (m101.1 (a0 + 15) (jg_wr z102)) = 0 from hc)
      refine jg_A (pc' := 80) rfl rfl (fun _ _ _ => rfl) ?_
      refine jg_A (pc' := 82) (ls' := [.ref a0, .int (.ofInt x1), .int (.ofInt x2), .int (.ofInt x3), .int (.ofInt (-1)), u5]) rfl rfl (fun _ _ _ => rfl) ?_
      refine jg_A (pc' := 83) rfl rfl (fun _ _ _ => rfl) ?_
      refine jg_A (pc' := 85) (ls' := [.ref a0, .int (.ofInt x1), .int (.ofInt x2), .int (.ofInt x3), .int (.ofInt (-1)), .int (.ofInt 0)]) rfl rfl (fun _ _ _ => rfl) ?_
      exact h
    · have h := jg_f h (show ¬ (jg_wr (m101.1 (a0 + 15) (jg_wr z102)) = 0) from hc)
      refine jg_A (pc' := 67) rfl rfl (fun _ _ _ => rfl) ?_
      refine jg_A (pc' := 68) rfl rfl (fun _ _ _ => rfl) ?_
      refine jg_A (pc' := 69) rfl rfl (fun _ _ _ => rfl) ?_
      refine jg_idiv (pc' := 70) rfl rfl (by decide) ?_
      refine jg_A (pc' := 71) rfl rfl (fun _ _ _ => rfl) ?_
      refine jg_A (pc' := 72) rfl rfl (fun _ _ _ => rfl) ?_
      refine jg_irem (pc' := 73) rfl rfl (by decide) ?_
      refine jg_calX (M1 := mm_X12_moveBy) (hy := 0) (pc' := 76) rfl jm_X12_moveBy (by decide) rfl h0 (by decide) ⟨Nat.le_of_ble_eq_true rfl, rfl⟩ (Nat.le_of_ble_eq_true rfl) rfl h (jg_kI (fun z104 m103 h => ?_))
      refine jg_goto rfl ?_
      refine jg_A (pc' := 82) (ls' := [.ref a0, .int (.ofInt x1), .int (.ofInt x2), .int (.ofInt x3), .int (.ofInt z104), u5]) rfl rfl (fun _ _ _ => rfl) ?_
      refine jg_A (pc' := 83) rfl rfl (fun _ _ _ => rfl) ?_
      refine jg_A (pc' := 85) (ls' := [.ref a0, .int (.ofInt x1), .int (.ofInt x2), .int (.ofInt x3), .int (.ofInt z104), .int (.ofInt 0)]) rfl rfl (fun _ _ _ => rfl) ?_
      exact h
set_option maxRecDepth 100000 in
set_option maxHeartbeats 4000000 in
theorem jb_X12_closes_85 {w : Nat} {a0 : Nat} {x1 : Int} {x2 : Int} {x3 : Int} {x4 : Int} {x5 : Int} {σ : jg_M} {Q : jg_M → Prop} (h0 : jg_sh a0 = (12, 0)) (h : ((0 : Int) ≤ jg_wr (σ.1 a0 35) ∧ jg_wr (σ.1 a0 35) < (2 : Int)) ∧ (if jg_wr (σ.1 (a0 + 5) (jg_wr (σ.1 a0 35))) ≤ jg_wr x5 then jg_GV w 1 mm_X12_closes 46 [.ref a0, .int (.ofInt x1), .int (.ofInt x2), .int (.ofInt (x3 + 1)), .int (.ofInt x4), .int (.ofInt x5)] σ Q else (if jg_wr x4 < 7 then jg_GV w 1 mm_X12_closes 46 [.ref a0, .int (.ofInt x1), .int (.ofInt x2), .int (.ofInt (x3 + 1)), .int (.ofInt x4), .int (.ofInt x5)] σ Q else jg_CI w 0 mm_X12_isRuleOf [.ref a0, .int (.ofInt x5), .int (.ofInt (x4 - 7))] σ (fun (z102 : Int) (m101 : jg_M) => (if jg_wr z102 = 0 then jg_GV w 1 mm_X12_closes 85 [.ref a0, .int (.ofInt x1), .int (.ofInt x2), .int (.ofInt x3), .int (.ofInt x4), .int (.ofInt (x5 + 1))] m101 Q else jg_CI w 0 mm_X12_itemAt [.ref a0, .int (.ofInt x1), .int (.ofInt (5 * x5))] m101 (fun (z104 : Int) (m103 : jg_M) => ((0 : Int) ≤ jg_wr z104 ∧ jg_wr z104 < (6240 : Int)) ∧ (if jg_wr (m103.1 (a0 + 15) (jg_wr z104)) = 0 then jg_CI w 0 mm_X12_itemAt [.ref a0, .int (.ofInt x1), .int (.ofInt (5 * x5))] m103 (fun (z106 : Int) (m105 : jg_M) => ((0 : Int) ≤ (jg_wr z106) ∧ (jg_wr z106) < (6240 : Int)) ∧ ∀ m107 : jg_M, m107 = jg_sI m105 (a0 + 15) (jg_wr z106) (jg_nar 1) → jg_GV w 1 mm_X12_closes 85 [.ref a0, .int (.ofInt x1), .int (.ofInt 1), .int (.ofInt x3), .int (.ofInt x4), .int (.ofInt (x5 + 1))] m107 Q) else jg_GV w 1 mm_X12_closes 85 [.ref a0, .int (.ofInt x1), .int (.ofInt x2), .int (.ofInt x3), .int (.ofInt x4), .int (.ofInt (x5 + 1))] m103 Q))))))) : jg_GV w 1 mm_X12_closes 85 [.ref a0, .int (.ofInt x1), .int (.ofInt x2), .int (.ofInt x3), .int (.ofInt x4), .int (.ofInt x5)] σ Q := by
  show jg_G w 1 mm_X12_closes 85 [.ref a0, .int (.ofInt x1), .int (.ofInt x2), .int (.ofInt x3), .int (.ofInt x4), .int (.ofInt x5)] [] σ (jg_QV Q)
  refine jg_A (pc' := 87) rfl rfl (fun _ _ _ => rfl) ?_
  refine jg_A (pc' := 88) rfl rfl (fun _ _ _ => rfl) ?_
  refine jg_getO (pc' := 91) (k := 5) rfl h0 (by decide) rfl rfl ?_
  refine jg_A (pc' := 92) rfl rfl (fun _ _ _ => rfl) ?_
  refine jg_getI (pc' := 95) (bi := 35) rfl h0 (by decide) (Or.inl rfl) rfl rfl ?_
  obtain ⟨hg, h⟩ := h
  refine jg_iald (pc' := 96) rfl (jg_sX12_14 h0) hg rfl ?_
  refine jg_cge (pc' := 99) rfl rfl (fun hc => ?_) (fun hc => ?_)
  · have h := jg_t h (show jg_wr (σ.1 (a0 + 5) (jg_wr (σ.1 a0 35))) ≤ jg_wr x5 from hc)
    refine jg_iinc (pc' := 166) (ls' := [.ref a0, .int (.ofInt x1), .int (.ofInt x2), .int (.ofInt (x3 + 1)), .int (.ofInt x4), .int (.ofInt x5)]) rfl rfl rfl rfl ?_
    refine jg_goto rfl ?_
    exact h
  · have h := jg_f h (show ¬ (jg_wr (σ.1 (a0 + 5) (jg_wr (σ.1 a0 35))) ≤ jg_wr x5) from hc)
    refine jg_A (pc' := 101) rfl rfl (fun _ _ _ => rfl) ?_
    refine jg_A (pc' := 103) rfl rfl (fun _ _ _ => rfl) ?_
    refine jg_clt (pc' := 106) rfl rfl (fun hc => ?_) (fun hc => ?_)
    · have h := jg_t h (show jg_wr x4 < 7 from hc)
      refine jg_iinc (pc' := 166) (ls' := [.ref a0, .int (.ofInt x1), .int (.ofInt x2), .int (.ofInt (x3 + 1)), .int (.ofInt x4), .int (.ofInt x5)]) rfl rfl rfl rfl ?_
      refine jg_goto rfl ?_
      exact h
    · have h := jg_f h (show ¬ (jg_wr x4 < 7) from hc)
      refine jg_A (pc' := 107) rfl rfl (fun _ _ _ => rfl) ?_
      refine jg_A (pc' := 109) rfl rfl (fun _ _ _ => rfl) ?_
      refine jg_A (pc' := 111) rfl rfl (fun _ _ _ => rfl) ?_
      refine jg_A (pc' := 113) rfl rfl (fun _ _ _ => rfl) ?_
      refine jg_isub (pc' := 114) rfl rfl ?_
      refine jg_calX (M1 := mm_X12_isRuleOf) (hy := 0) (pc' := 117) rfl jm_X12_isRuleOf (by decide) rfl h0 (by decide) ⟨Nat.le_of_ble_eq_true rfl, rfl⟩ (Nat.le_of_ble_eq_true rfl) rfl h (jg_kI (fun z102 m101 h => ?_))
      refine jg_ifeq (pc' := 120) rfl rfl (fun hc => ?_) (fun hc => ?_)
      · have h := jg_t h (show jg_wr z102 = 0 from hc)
        refine jg_iinc (pc' := 160) (ls' := [.ref a0, .int (.ofInt x1), .int (.ofInt x2), .int (.ofInt x3), .int (.ofInt x4), .int (.ofInt (x5 + 1))]) rfl rfl rfl rfl ?_
        refine jg_goto rfl ?_
        exact h
      · have h := jg_f h (show ¬ (jg_wr z102 = 0) from hc)
        refine jg_A (pc' := 121) rfl rfl (fun _ _ _ => rfl) ?_
        refine jg_getO (pc' := 124) (k := 15) rfl h0 (by decide) rfl rfl ?_
        refine jg_A (pc' := 125) rfl rfl (fun _ _ _ => rfl) ?_
        refine jg_A (pc' := 126) rfl rfl (fun _ _ _ => rfl) ?_
        refine jg_A (pc' := 127) rfl rfl (fun _ _ _ => rfl) ?_
        refine jg_A (pc' := 129) rfl rfl (fun _ _ _ => rfl) ?_
        refine jg_imul (pc' := 130) rfl rfl ?_
        refine jg_calX (M1 := mm_X12_itemAt) (hy := 0) (pc' := 133) rfl jm_X12_itemAt (by decide) rfl h0 (by decide) ⟨Nat.le_of_ble_eq_true rfl, rfl⟩ (Nat.le_of_ble_eq_true rfl) rfl h (jg_kI (fun z104 m103 h => ?_))
        obtain ⟨hg, h⟩ := h
        refine jg_zald (pc' := 134) rfl (jg_sX12_24 h0) hg rfl ?_
        refine jg_ifeq (pc' := 137) rfl rfl (fun hc => ?_) (fun hc => ?_)
        · have h := jg_t h (show jg_wr (m103.1 (a0 + 15) (jg_wr z104)) = 0 from hc)
          refine jg_A (pc' := 141) rfl rfl (fun _ _ _ => rfl) ?_
          refine jg_getO (pc' := 144) (k := 15) rfl h0 (by decide) rfl rfl ?_
          refine jg_A (pc' := 145) rfl rfl (fun _ _ _ => rfl) ?_
          refine jg_A (pc' := 146) rfl rfl (fun _ _ _ => rfl) ?_
          refine jg_A (pc' := 147) rfl rfl (fun _ _ _ => rfl) ?_
          refine jg_A (pc' := 149) rfl rfl (fun _ _ _ => rfl) ?_
          refine jg_imul (pc' := 150) rfl rfl ?_
          refine jg_calX (M1 := mm_X12_itemAt) (hy := 0) (pc' := 153) rfl jm_X12_itemAt (by decide) rfl h0 (by decide) ⟨Nat.le_of_ble_eq_true rfl, rfl⟩ (Nat.le_of_ble_eq_true rfl) rfl h (jg_kI (fun z106 m105 h => ?_))
          refine jg_A (pc' := 154) rfl rfl (fun _ _ _ => rfl) ?_
          obtain ⟨hg, h⟩ := h
          refine jg_zast (pc' := 155) rfl (jg_sX12_24 h0) hg rfl (fun m107 hm107 => ?_)
          have h := h m107 hm107
          refine jg_A (pc' := 156) rfl rfl (fun _ _ _ => rfl) ?_
          refine jg_A (pc' := 157) (ls' := [.ref a0, .int (.ofInt x1), .int (.ofInt 1), .int (.ofInt x3), .int (.ofInt x4), .int (.ofInt x5)]) rfl rfl (fun _ _ _ => rfl) ?_
          refine jg_iinc (pc' := 160) (ls' := [.ref a0, .int (.ofInt x1), .int (.ofInt 1), .int (.ofInt x3), .int (.ofInt x4), .int (.ofInt (x5 + 1))]) rfl rfl rfl rfl ?_
          refine jg_goto rfl ?_
          exact h
        · have h := jg_f h (show ¬ (jg_wr (m103.1 (a0 + 15) (jg_wr z104)) = 0) from hc)
          refine jg_goto rfl ?_
          refine jg_iinc (pc' := 160) (ls' := [.ref a0, .int (.ofInt x1), .int (.ofInt x2), .int (.ofInt x3), .int (.ofInt x4), .int (.ofInt (x5 + 1))]) rfl rfl rfl rfl ?_
          refine jg_goto rfl ?_
          exact h
set_option maxRecDepth 100000 in
set_option maxHeartbeats 4000000 in
theorem jb_X12_isNext_0 {w : Nat} {a0 : Nat} {x1 : Int} {x2 : Int} {σ : jg_M} {Q : Int → jg_M → Prop} (h0 : jg_sh a0 = (12, 0)) (h : jg_GI w 1 mm_X12_isNext 5 [.ref a0, .int (.ofInt x1), .int (.ofInt x2), .int (.ofInt 0), .int (.ofInt 0)] σ Q) : jg_CI w 1 mm_X12_isNext [.ref a0, .int (.ofInt x1), .int (.ofInt x2)] σ Q := by
  show jg_G w 1 mm_X12_isNext 0 [.ref a0, .int (.ofInt x1), .int (.ofInt x2), mj_U, mj_U] [] σ (jg_QI Q)
  refine jg_A (pc' := 1) rfl rfl (fun _ _ _ => rfl) ?_
  refine jg_A (pc' := 2) (ls' := [.ref a0, .int (.ofInt x1), .int (.ofInt x2), .int (.ofInt 0), mj_U]) rfl rfl (fun _ _ _ => rfl) ?_
  refine jg_A (pc' := 3) rfl rfl (fun _ _ _ => rfl) ?_
  refine jg_A (pc' := 5) (ls' := [.ref a0, .int (.ofInt x1), .int (.ofInt x2), .int (.ofInt 0), .int (.ofInt 0)]) rfl rfl (fun _ _ _ => rfl) ?_
  exact h
