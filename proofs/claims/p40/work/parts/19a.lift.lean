/-! LIFTED METHODS, 0: from a method's entry, and from each loop's head, what must hold for its run to end with Q (printed by wip/whole/gen/gen18.py) -/
set_option maxRecDepth 100000 in
set_option maxHeartbeats 4000000 in
theorem jb_X0_forget_0 {w : Nat} {a0 : Nat} {σ : jg_M} {Q : jg_M → Prop} (h0 : jg_sh a0 = (0, 0)) (h : ∀ m101 : jg_M, m101 = jg_sI σ a0 0 0 → ∀ m102 : jg_M, m102 = jg_sI m101 a0 1 0 → ∀ m103 : jg_M, m103 = jg_sI m102 a0 2 0 → ∀ m104 : jg_M, m104 = jg_sI m103 a0 3 0 → ∀ m105 : jg_M, m105 = jg_sI m104 a0 4 (-1) → jg_CV w 0 mm_J7_fill_53178 [.ref (a0 + 1), .int (.ofInt 0)] m105 (fun (m106 : jg_M) => jg_CV w 0 mm_J7_fill_53178 [.ref (a0 + 2), .int (.ofInt 0)] m106 (fun (m107 : jg_M) => jg_CV w 0 mm_J7_fill_53178 [.ref (a0 + 3), .int (.ofInt 0)] m107 (fun (m108 : jg_M) => Q m108)))) : jg_CV w 1 mm_X0_forget [.ref a0] σ Q := by
  show jg_G w 1 mm_X0_forget 0 [.ref a0] [] σ (jg_QV Q)
  refine jg_A (pc' := 1) rfl rfl (fun _ _ _ => rfl) ?_
  refine jg_A (pc' := 2) rfl rfl (fun _ _ _ => rfl) ?_
  refine jg_putI (pc' := 5) (bi := 0) rfl h0 (by decide) rfl rfl rfl rfl (fun m101 hm101 => ?_)
  have h := h m101 hm101
  refine jg_A (pc' := 6) rfl rfl (fun _ _ _ => rfl) ?_
  refine jg_A (pc' := 7) rfl rfl (fun _ _ _ => rfl) ?_
  refine jg_putI (pc' := 10) (bi := 1) rfl h0 (by decide) rfl rfl rfl rfl (fun m102 hm102 => ?_)
  have h := h m102 hm102
  refine jg_A (pc' := 11) rfl rfl (fun _ _ _ => rfl) ?_
  refine jg_A (pc' := 12) rfl rfl (fun _ _ _ => rfl) ?_
  refine jg_putI (pc' := 15) (bi := 2) rfl h0 (by decide) rfl rfl rfl rfl (fun m103 hm103 => ?_)
  have h := h m103 hm103
  refine jg_A (pc' := 16) rfl rfl (fun _ _ _ => rfl) ?_
  refine jg_A (pc' := 17) rfl rfl (fun _ _ _ => rfl) ?_
  refine jg_putI (pc' := 20) (bi := 3) rfl h0 (by decide) rfl rfl rfl rfl (fun m104 hm104 => ?_)
  have h := h m104 hm104
  refine jg_A (pc' := 21) rfl rfl (fun _ _ _ => rfl) ?_
  refine jg_A (pc' := 22) rfl rfl (fun _ _ _ => rfl) ?_
  refine jg_putI (pc' := 25) (bi := 4) rfl h0 (by decide) rfl rfl rfl rfl (fun m105 hm105 => ?_)
  have h := h m105 hm105
  refine jg_A (pc' := 26) rfl rfl (fun _ _ _ => rfl) ?_
  refine jg_getO (pc' := 29) (k := 1) rfl h0 (by decide) rfl rfl ?_
  refine jg_A (pc' := 30) rfl rfl (fun _ _ _ => rfl) ?_
  refine jg_calS (M1 := mm_J7_fill_53178) (hy := 0) (pc' := 33) rfl (Or.inl rfl) jm_J7_fill_53178 (by decide) rfl ⟨Nat.le_of_ble_eq_true rfl, rfl⟩ (Nat.le_of_ble_eq_true rfl) rfl h (jg_kV (fun m106 h => ?_))
  refine jg_A (pc' := 34) rfl rfl (fun _ _ _ => rfl) ?_
  refine jg_getO (pc' := 37) (k := 2) rfl h0 (by decide) rfl rfl ?_
  refine jg_A (pc' := 38) rfl rfl (fun _ _ _ => rfl) ?_
  refine jg_calS (M1 := mm_J7_fill_53178) (hy := 0) (pc' := 41) rfl (Or.inl rfl) jm_J7_fill_53178 (by decide) rfl ⟨Nat.le_of_ble_eq_true rfl, rfl⟩ (Nat.le_of_ble_eq_true rfl) rfl h (jg_kV (fun m107 h => ?_))
  refine jg_A (pc' := 42) rfl rfl (fun _ _ _ => rfl) ?_
  refine jg_getO (pc' := 45) (k := 3) rfl h0 (by decide) rfl rfl ?_
  refine jg_A (pc' := 46) rfl rfl (fun _ _ _ => rfl) ?_
  refine jg_calS (M1 := mm_J7_fill_53178) (hy := 0) (pc' := 49) rfl (Or.inl rfl) jm_J7_fill_53178 (by decide) rfl ⟨Nat.le_of_ble_eq_true rfl, rfl⟩ (Nat.le_of_ble_eq_true rfl) rfl h (jg_kV (fun m108 h => ?_))
  exact jg_vret rfl rfl h
set_option maxRecDepth 100000 in
set_option maxHeartbeats 4000000 in
theorem jb_X0_copy_0 {w : Nat} {a0 : Nat} {a1 : Nat} {σ : jg_M} {Q : jg_M → Prop} (h0 : jg_sh a0 = (0, 0)) (h1 : jg_sh a1 = (0, 0)) (h : ∀ m101 : jg_M, m101 = jg_sI σ a0 0 (σ.1 a1 0) → ∀ m102 : jg_M, m102 = jg_sI m101 a0 1 (m101.1 a1 1) → ∀ m103 : jg_M, m103 = jg_sI m102 a0 2 (m102.1 a1 2) → ∀ m104 : jg_M, m104 = jg_sI m103 a0 3 (m103.1 a1 3) → ∀ m105 : jg_M, m105 = jg_sI m104 a0 4 (m104.1 a1 4) → ∀ m106 : jg_M, m106 = jg_cI m105 (a1 + 1) (0) (a0 + 1) (0) (15) → ∀ m107 : jg_M, m107 = jg_cI m106 (a1 + 2) (0) (a0 + 2) (0) (7) → ∀ m108 : jg_M, m108 = jg_cI m107 (a1 + 3) (0) (a0 + 3) (0) (7) → ∀ m109 : jg_M, m109 = jg_cI m108 (a1 + 4) (0) (a0 + 4) (0) (12) → ∀ m110 : jg_M, m110 = jg_cI m109 (a1 + 5) (0) (a0 + 5) (0) (12) → ∀ m111 : jg_M, m111 = jg_cI m110 (a1 + 6) (0) (a0 + 6) (0) (48) → Q m111) : jg_CV w 1 mm_X0_copy [.ref a0, .ref a1] σ Q := by
  show jg_G w 1 mm_X0_copy 0 [.ref a0, .ref a1] [] σ (jg_QV Q)
  refine jg_A (pc' := 1) rfl rfl (fun _ _ _ => rfl) ?_
  refine jg_A (pc' := 2) rfl rfl (fun _ _ _ => rfl) ?_
  refine jg_getI (pc' := 5) (bi := 0) rfl h1 (by decide) (Or.inl rfl) rfl rfl ?_
  refine jg_putI (pc' := 8) (bi := 0) rfl h0 (by decide) rfl rfl rfl rfl (fun m101 hm101 => ?_)
  have h := h m101 hm101
  refine jg_A (pc' := 9) rfl rfl (fun _ _ _ => rfl) ?_
  refine jg_A (pc' := 10) rfl rfl (fun _ _ _ => rfl) ?_
  refine jg_getI (pc' := 13) (bi := 1) rfl h1 (by decide) (Or.inl rfl) rfl rfl ?_
  refine jg_putI (pc' := 16) (bi := 1) rfl h0 (by decide) rfl rfl rfl rfl (fun m102 hm102 => ?_)
  have h := h m102 hm102
  refine jg_A (pc' := 17) rfl rfl (fun _ _ _ => rfl) ?_
  refine jg_A (pc' := 18) rfl rfl (fun _ _ _ => rfl) ?_
  refine jg_getI (pc' := 21) (bi := 2) rfl h1 (by decide) (Or.inl rfl) rfl rfl ?_
  refine jg_putI (pc' := 24) (bi := 2) rfl h0 (by decide) rfl rfl rfl rfl (fun m103 hm103 => ?_)
  have h := h m103 hm103
  refine jg_A (pc' := 25) rfl rfl (fun _ _ _ => rfl) ?_
  refine jg_A (pc' := 26) rfl rfl (fun _ _ _ => rfl) ?_
  refine jg_getI (pc' := 29) (bi := 3) rfl h1 (by decide) (Or.inl rfl) rfl rfl ?_
  refine jg_putI (pc' := 32) (bi := 3) rfl h0 (by decide) rfl rfl rfl rfl (fun m104 hm104 => ?_)
  have h := h m104 hm104
  refine jg_A (pc' := 33) rfl rfl (fun _ _ _ => rfl) ?_
  refine jg_A (pc' := 34) rfl rfl (fun _ _ _ => rfl) ?_
  refine jg_getI (pc' := 37) (bi := 4) rfl h1 (by decide) (Or.inl rfl) rfl rfl ?_
  refine jg_putI (pc' := 40) (bi := 4) rfl h0 (by decide) rfl rfl rfl rfl (fun m105 hm105 => ?_)
  have h := h m105 hm105
  refine jg_A (pc' := 41) rfl rfl (fun _ _ _ => rfl) ?_
  refine jg_getO (pc' := 44) (k := 1) rfl h1 (by decide) rfl rfl ?_
  refine jg_A (pc' := 45) rfl rfl (fun _ _ _ => rfl) ?_
  refine jg_A (pc' := 46) rfl rfl (fun _ _ _ => rfl) ?_
  refine jg_getO (pc' := 49) (k := 1) rfl h0 (by decide) rfl rfl ?_
  refine jg_A (pc' := 50) rfl rfl (fun _ _ _ => rfl) ?_
  refine jg_A (pc' := 52) rfl rfl (fun _ _ _ => rfl) ?_
  refine jg_cpI (pc' := 55) rfl (by decide) (Nat.le_of_ble_eq_true rfl) (jg_sX0_5 h1) (jg_sX0_5 h0) (by decide) rfl (fun m106 hm106 => ?_)
  have h := h m106 hm106
  refine jg_A (pc' := 56) rfl rfl (fun _ _ _ => rfl) ?_
  refine jg_getO (pc' := 59) (k := 2) rfl h1 (by decide) rfl rfl ?_
  refine jg_A (pc' := 60) rfl rfl (fun _ _ _ => rfl) ?_
  refine jg_A (pc' := 61) rfl rfl (fun _ _ _ => rfl) ?_
  refine jg_getO (pc' := 64) (k := 2) rfl h0 (by decide) rfl rfl ?_
  refine jg_A (pc' := 65) rfl rfl (fun _ _ _ => rfl) ?_
  refine jg_A (pc' := 67) rfl rfl (fun _ _ _ => rfl) ?_
  refine jg_cpI (pc' := 70) rfl (by decide) (Nat.le_of_ble_eq_true rfl) (jg_sX0_6 h1) (jg_sX0_6 h0) (by decide) rfl (fun m107 hm107 => ?_)
  have h := h m107 hm107
  refine jg_A (pc' := 71) rfl rfl (fun _ _ _ => rfl) ?_
  refine jg_getO (pc' := 74) (k := 3) rfl h1 (by decide) rfl rfl ?_
  refine jg_A (pc' := 75) rfl rfl (fun _ _ _ => rfl) ?_
  refine jg_A (pc' := 76) rfl rfl (fun _ _ _ => rfl) ?_
  refine jg_getO (pc' := 79) (k := 3) rfl h0 (by decide) rfl rfl ?_
  refine jg_A (pc' := 80) rfl rfl (fun _ _ _ => rfl) ?_
  refine jg_A (pc' := 82) rfl rfl (fun _ _ _ => rfl) ?_
  refine jg_cpI (pc' := 85) rfl (by decide) (Nat.le_of_ble_eq_true rfl) (jg_sX0_7 h1) (jg_sX0_7 h0) (by decide) rfl (fun m108 hm108 => ?_)
  have h := h m108 hm108
  refine jg_A (pc' := 86) rfl rfl (fun _ _ _ => rfl) ?_
  refine jg_getO (pc' := 89) (k := 4) rfl h1 (by decide) rfl rfl ?_
  refine jg_A (pc' := 90) rfl rfl (fun _ _ _ => rfl) ?_
  refine jg_A (pc' := 91) rfl rfl (fun _ _ _ => rfl) ?_
  refine jg_getO (pc' := 94) (k := 4) rfl h0 (by decide) rfl rfl ?_
  refine jg_A (pc' := 95) rfl rfl (fun _ _ _ => rfl) ?_
  refine jg_A (pc' := 97) rfl rfl (fun _ _ _ => rfl) ?_
  refine jg_cpI (pc' := 100) rfl (by decide) (Nat.le_of_ble_eq_true rfl) (jg_sX0_8 h1) (jg_sX0_8 h0) (by decide) rfl (fun m109 hm109 => ?_)
  have h := h m109 hm109
  refine jg_A (pc' := 101) rfl rfl (fun _ _ _ => rfl) ?_
  refine jg_getO (pc' := 104) (k := 5) rfl h1 (by decide) rfl rfl ?_
  refine jg_A (pc' := 105) rfl rfl (fun _ _ _ => rfl) ?_
  refine jg_A (pc' := 106) rfl rfl (fun _ _ _ => rfl) ?_
  refine jg_getO (pc' := 109) (k := 5) rfl h0 (by decide) rfl rfl ?_
  refine jg_A (pc' := 110) rfl rfl (fun _ _ _ => rfl) ?_
  refine jg_A (pc' := 112) rfl rfl (fun _ _ _ => rfl) ?_
  refine jg_cpI (pc' := 115) rfl (by decide) (Nat.le_of_ble_eq_true rfl) (jg_sX0_9 h1) (jg_sX0_9 h0) (by decide) rfl (fun m110 hm110 => ?_)
  have h := h m110 hm110
  refine jg_A (pc' := 116) rfl rfl (fun _ _ _ => rfl) ?_
  refine jg_getO (pc' := 119) (k := 6) rfl h1 (by decide) rfl rfl ?_
  refine jg_A (pc' := 120) rfl rfl (fun _ _ _ => rfl) ?_
  refine jg_A (pc' := 121) rfl rfl (fun _ _ _ => rfl) ?_
  refine jg_getO (pc' := 124) (k := 6) rfl h0 (by decide) rfl rfl ?_
  refine jg_A (pc' := 125) rfl rfl (fun _ _ _ => rfl) ?_
  refine jg_A (pc' := 127) rfl rfl (fun _ _ _ => rfl) ?_
  refine jg_cpI (pc' := 130) rfl (by decide) (Nat.le_of_ble_eq_true rfl) (jg_sX0_10 h1) (jg_sX0_10 h0) (by decide) rfl (fun m111 hm111 => ?_)
  have h := h m111 hm111
  exact jg_vret rfl rfl h
set_option maxRecDepth 100000 in
set_option maxHeartbeats 4000000 in
theorem jb_X0_hasToken_0 {w : Nat} {a0 : Nat} {x1 : Int} {σ : jg_M} {Q : Int → jg_M → Prop} (h0 : jg_sh a0 = (0, 0)) (h : (if jg_wr x1 < 0 then Q 0 σ else (if jg_wr (σ.1 a0 0) ≤ jg_wr x1 then Q 0 σ else (if 7 ≤ jg_wr x1 then Q 0 σ else Q 1 σ)))) : jg_CI w 0 mm_X0_hasToken [.ref a0, .int (.ofInt x1)] σ Q := by
  show jg_G w 0 mm_X0_hasToken 0 [.ref a0, .int (.ofInt x1)] [] σ (jg_QI Q)
  refine jg_A (pc' := 1) rfl rfl (fun _ _ _ => rfl) ?_
  refine jg_iflt (pc' := 4) rfl rfl (fun hc => ?_) (fun hc => ?_)
  · have h := jg_t h (show jg_wr x1 < 0 from hc)
    refine jg_A (pc' := 23) rfl rfl (fun _ _ _ => rfl) ?_
    exact jg_zret rfl rfl (by decide) h
  · have h := jg_f h (show ¬ (jg_wr x1 < 0) from hc)
    refine jg_A (pc' := 5) rfl rfl (fun _ _ _ => rfl) ?_
    refine jg_A (pc' := 6) rfl rfl (fun _ _ _ => rfl) ?_
    refine jg_getI (pc' := 9) (bi := 0) rfl h0 (by decide) (Or.inl rfl) rfl rfl ?_
    refine jg_cge (pc' := 12) rfl rfl (fun hc => ?_) (fun hc => ?_)
    · have h := jg_t h (show jg_wr (σ.1 a0 0) ≤ jg_wr x1 from hc)
      refine jg_A (pc' := 23) rfl rfl (fun _ _ _ => rfl) ?_
      exact jg_zret rfl rfl (by decide) h
    · have h := jg_f h (show ¬ (jg_wr (σ.1 a0 0) ≤ jg_wr x1) from hc)
      refine jg_A (pc' := 13) rfl rfl (fun _ _ _ => rfl) ?_
      refine jg_A (pc' := 15) rfl rfl (fun _ _ _ => rfl) ?_
      refine jg_cge (pc' := 18) rfl rfl (fun hc => ?_) (fun hc => ?_)
      · have h := jg_t h (show 7 ≤ jg_wr x1 from hc)
        refine jg_A (pc' := 23) rfl rfl (fun _ _ _ => rfl) ?_
        exact jg_zret rfl rfl (by decide) h
      · have h := jg_f h (show ¬ (7 ≤ jg_wr x1) from hc)
        refine jg_A (pc' := 19) rfl rfl (fun _ _ _ => rfl) ?_
        refine jg_goto rfl ?_
        exact jg_zret rfl rfl (by decide) h
set_option maxRecDepth 100000 in
set_option maxHeartbeats 4000000 in
theorem jb_X0_hasKind_0 {w : Nat} {a0 : Nat} {x1 : Int} {σ : jg_M} {Q : Int → jg_M → Prop} (h0 : jg_sh a0 = (0, 0)) (h : (if jg_wr x1 < 0 then Q 0 σ else (if jg_wr (σ.1 a0 1) ≤ jg_wr x1 then Q 0 σ else (if 5 ≤ jg_wr x1 then Q 0 σ else Q 1 σ)))) : jg_CI w 0 mm_X0_hasKind [.ref a0, .int (.ofInt x1)] σ Q := by
  show jg_G w 0 mm_X0_hasKind 0 [.ref a0, .int (.ofInt x1)] [] σ (jg_QI Q)
  refine jg_A (pc' := 1) rfl rfl (fun _ _ _ => rfl) ?_
  refine jg_iflt (pc' := 4) rfl rfl (fun hc => ?_) (fun hc => ?_)
  · have h := jg_t h (show jg_wr x1 < 0 from hc)
    refine jg_A (pc' := 22) rfl rfl (fun _ _ _ => rfl) ?_
    exact jg_zret rfl rfl (by decide) h
  · have h := jg_f h (show ¬ (jg_wr x1 < 0) from hc)
    refine jg_A (pc' := 5) rfl rfl (fun _ _ _ => rfl) ?_
    refine jg_A (pc' := 6) rfl rfl (fun _ _ _ => rfl) ?_
    refine jg_getI (pc' := 9) (bi := 1) rfl h0 (by decide) (Or.inl rfl) rfl rfl ?_
    refine jg_cge (pc' := 12) rfl rfl (fun hc => ?_) (fun hc => ?_)
    · have h := jg_t h (show jg_wr (σ.1 a0 1) ≤ jg_wr x1 from hc)
      refine jg_A (pc' := 22) rfl rfl (fun _ _ _ => rfl) ?_
      exact jg_zret rfl rfl (by decide) h
    · have h := jg_f h (show ¬ (jg_wr (σ.1 a0 1) ≤ jg_wr x1) from hc)
      refine jg_A (pc' := 13) rfl rfl (fun _ _ _ => rfl) ?_
      refine jg_A (pc' := 14) rfl rfl (fun _ _ _ => rfl) ?_
      refine jg_cge (pc' := 17) rfl rfl (fun hc => ?_) (fun hc => ?_)
      · have h := jg_t h (show 5 ≤ jg_wr x1 from hc)
        refine jg_A (pc' := 22) rfl rfl (fun _ _ _ => rfl) ?_
        exact jg_zret rfl rfl (by decide) h
      · have h := jg_f h (show ¬ (5 ≤ jg_wr x1) from hc)
        refine jg_A (pc' := 18) rfl rfl (fun _ _ _ => rfl) ?_
        refine jg_goto rfl ?_
        exact jg_zret rfl rfl (by decide) h
set_option maxRecDepth 100000 in
set_option maxHeartbeats 4000000 in
theorem jb_X0_hasRule_0 {w : Nat} {a0 : Nat} {x1 : Int} {σ : jg_M} {Q : Int → jg_M → Prop} (h0 : jg_sh a0 = (0, 0)) (h : (if jg_wr x1 < 0 then Q 0 σ else (if jg_wr (σ.1 a0 2) ≤ jg_wr x1 then Q 0 σ else (if 12 ≤ jg_wr x1 then Q 0 σ else Q 1 σ)))) : jg_CI w 0 mm_X0_hasRule [.ref a0, .int (.ofInt x1)] σ Q := by
  show jg_G w 0 mm_X0_hasRule 0 [.ref a0, .int (.ofInt x1)] [] σ (jg_QI Q)
  refine jg_A (pc' := 1) rfl rfl (fun _ _ _ => rfl) ?_
  refine jg_iflt (pc' := 4) rfl rfl (fun hc => ?_) (fun hc => ?_)
  · have h := jg_t h (show jg_wr x1 < 0 from hc)
    refine jg_A (pc' := 23) rfl rfl (fun _ _ _ => rfl) ?_
    exact jg_zret rfl rfl (by decide) h
  · have h := jg_f h (show ¬ (jg_wr x1 < 0) from hc)
    refine jg_A (pc' := 5) rfl rfl (fun _ _ _ => rfl) ?_
    refine jg_A (pc' := 6) rfl rfl (fun _ _ _ => rfl) ?_
    refine jg_getI (pc' := 9) (bi := 2) rfl h0 (by decide) (Or.inl rfl) rfl rfl ?_
    refine jg_cge (pc' := 12) rfl rfl (fun hc => ?_) (fun hc => ?_)
    · have h := jg_t h (show jg_wr (σ.1 a0 2) ≤ jg_wr x1 from hc)
      refine jg_A (pc' := 23) rfl rfl (fun _ _ _ => rfl) ?_
      exact jg_zret rfl rfl (by decide) h
    · have h := jg_f h (show ¬ (jg_wr (σ.1 a0 2) ≤ jg_wr x1) from hc)
      refine jg_A (pc' := 13) rfl rfl (fun _ _ _ => rfl) ?_
      refine jg_A (pc' := 15) rfl rfl (fun _ _ _ => rfl) ?_
      refine jg_cge (pc' := 18) rfl rfl (fun hc => ?_) (fun hc => ?_)
      · have h := jg_t h (show 12 ≤ jg_wr x1 from hc)
        refine jg_A (pc' := 23) rfl rfl (fun _ _ _ => rfl) ?_
        exact jg_zret rfl rfl (by decide) h
      · have h := jg_f h (show ¬ (12 ≤ jg_wr x1) from hc)
        refine jg_A (pc' := 19) rfl rfl (fun _ _ _ => rfl) ?_
        refine jg_goto rfl ?_
        exact jg_zret rfl rfl (by decide) h
set_option maxRecDepth 100000 in
set_option maxHeartbeats 4000000 in
theorem jb_X0_hasSymbol_0 {w : Nat} {a0 : Nat} {x1 : Int} {σ : jg_M} {Q : Int → jg_M → Prop} (h0 : jg_sh a0 = (0, 0)) (h : (if jg_wr x1 < 10 then jg_CI w 0 mm_X0_hasToken [.ref a0, .int (.ofInt x1)] σ (fun (z102 : Int) (m101 : jg_M) => ((jg_wr z102 = 0 ∨ jg_wr z102 = 1) ∧ Q z102 m101)) else jg_CI w 0 mm_X0_hasKind [.ref a0, .int (.ofInt (x1 - 10))] σ (fun (z104 : Int) (m103 : jg_M) => ((jg_wr z104 = 0 ∨ jg_wr z104 = 1) ∧ Q z104 m103)))) : jg_CI w 1 mm_X0_hasSymbol [.ref a0, .int (.ofInt x1)] σ Q := by
  show jg_G w 1 mm_X0_hasSymbol 0 [.ref a0, .int (.ofInt x1)] [] σ (jg_QI Q)
  refine jg_A (pc' := 1) rfl rfl (fun _ _ _ => rfl) ?_
  refine jg_A (pc' := 3) rfl rfl (fun _ _ _ => rfl) ?_
  refine jg_clt (pc' := 6) rfl rfl (fun hc => ?_) (fun hc => ?_)
  · have h := jg_t h (show jg_wr x1 < 10 from hc)
    refine jg_A (pc' := 18) rfl rfl (fun _ _ _ => rfl) ?_
    refine jg_A (pc' := 19) rfl rfl (fun _ _ _ => rfl) ?_
    refine jg_calX (M1 := mm_X0_hasToken) (hy := 0) (pc' := 22) rfl jm_X0_hasToken (by decide) rfl h0 (by decide) ⟨Nat.le_of_ble_eq_true rfl, rfl⟩ (Nat.le_of_ble_eq_true rfl) rfl h (jg_kI (fun z102 m101 h => ?_))
    exact jg_zret rfl rfl h.1 h.2
  · have h := jg_f h (show ¬ (jg_wr x1 < 10) from hc)
    refine jg_A (pc' := 7) rfl rfl (fun _ _ _ => rfl) ?_
    refine jg_A (pc' := 8) rfl rfl (fun _ _ _ => rfl) ?_
    refine jg_A (pc' := 10) rfl rfl (fun _ _ _ => rfl) ?_
    refine jg_isub (pc' := 11) rfl rfl ?_
    refine jg_calX (M1 := mm_X0_hasKind) (hy := 0) (pc' := 14) rfl jm_X0_hasKind (by decide) rfl h0 (by decide) ⟨Nat.le_of_ble_eq_true rfl, rfl⟩ (Nat.le_of_ble_eq_true rfl) rfl h (jg_kI (fun z104 m103 h => ?_))
    refine jg_goto rfl ?_
    exact jg_zret rfl rfl h.1 h.2
set_option maxRecDepth 100000 in
set_option maxHeartbeats 4000000 in
theorem jb_X0_hasTerminal_0 {w : Nat} {a0 : Nat} {x1 : Int} {σ : jg_M} {Q : Int → jg_M → Prop} (h0 : jg_sh a0 = (0, 0)) (h : (if jg_wr x1 < 0 then Q 0 σ else (if jg_wr (σ.1 a0 0) < jg_wr x1 then Q 0 σ else Q 1 σ))) : jg_CI w 0 mm_X0_hasTerminal [.ref a0, .int (.ofInt x1)] σ Q := by
  show jg_G w 0 mm_X0_hasTerminal 0 [.ref a0, .int (.ofInt x1)] [] σ (jg_QI Q)
  refine jg_A (pc' := 1) rfl rfl (fun _ _ _ => rfl) ?_
  refine jg_iflt (pc' := 4) rfl rfl (fun hc => ?_) (fun hc => ?_)
  · have h := jg_t h (show jg_wr x1 < 0 from hc)
    refine jg_A (pc' := 17) rfl rfl (fun _ _ _ => rfl) ?_
    exact jg_zret rfl rfl (by decide) h
  · have h := jg_f h (show ¬ (jg_wr x1 < 0) from hc)
    refine jg_A (pc' := 5) rfl rfl (fun _ _ _ => rfl) ?_
    refine jg_A (pc' := 6) rfl rfl (fun _ _ _ => rfl) ?_
    refine jg_getI (pc' := 9) (bi := 0) rfl h0 (by decide) (Or.inl rfl) rfl rfl ?_
    refine jg_cgt (pc' := 12) rfl rfl (fun hc => ?_) (fun hc => ?_)
    · have h := jg_t h (show jg_wr (σ.1 a0 0) < jg_wr x1 from hc)
      refine jg_A (pc' := 17) rfl rfl (fun _ _ _ => rfl) ?_
      exact jg_zret rfl rfl (by decide) h
    · have h := jg_f h (show ¬ (jg_wr (σ.1 a0 0) < jg_wr x1) from hc)
      refine jg_A (pc' := 13) rfl rfl (fun _ _ _ => rfl) ?_
      refine jg_goto rfl ?_
      exact jg_zret rfl rfl (by decide) h
set_option maxRecDepth 100000 in
set_option maxHeartbeats 4000000 in
theorem jb_X0_uses_0 {w : Nat} {a0 : Nat} {x1 : Int} {σ : jg_M} {Q : Int → jg_M → Prop} (h0 : jg_sh a0 = (0, 0)) (h : (if jg_wr x1 < 0 then Q 0 σ else (if jg_wr (σ.1 a0 2) < jg_wr x1 then Q 0 σ else (if jg_wr x1 = jg_wr (σ.1 a0 4) then Q 0 σ else Q 1 σ)))) : jg_CI w 0 mm_X0_uses [.ref a0, .int (.ofInt x1)] σ Q := by
  show jg_G w 0 mm_X0_uses 0 [.ref a0, .int (.ofInt x1)] [] σ (jg_QI Q)
  refine jg_A (pc' := 1) rfl rfl (fun _ _ _ => rfl) ?_
  refine jg_iflt (pc' := 4) rfl rfl (fun hc => ?_) (fun hc => ?_)
  · have h := jg_t h (show jg_wr x1 < 0 from hc)
    refine jg_A (pc' := 25) rfl rfl (fun _ _ _ => rfl) ?_
    exact jg_zret rfl rfl (by decide) h
  · have h := jg_f h (show ¬ (jg_wr x1 < 0) from hc)
    refine jg_A (pc' := 5) rfl rfl (fun _ _ _ => rfl) ?_
    refine jg_A (pc' := 6) rfl rfl (fun _ _ _ => rfl) ?_
    refine jg_getI (pc' := 9) (bi := 2) rfl h0 (by decide) (Or.inl rfl) rfl rfl ?_
    refine jg_cgt (pc' := 12) rfl rfl (fun hc => ?_) (fun hc => ?_)
    · have h := jg_t h (show jg_wr (σ.1 a0 2) < jg_wr x1 from hc)
      refine jg_A (pc' := 25) rfl rfl (fun _ _ _ => rfl) ?_
      exact jg_zret rfl rfl (by decide) h
    · have h := jg_f h (show ¬ (jg_wr (σ.1 a0 2) < jg_wr x1) from hc)
      refine jg_A (pc' := 13) rfl rfl (fun _ _ _ => rfl) ?_
      refine jg_A (pc' := 14) rfl rfl (fun _ _ _ => rfl) ?_
      refine jg_getI (pc' := 17) (bi := 4) rfl h0 (by decide) (Or.inl rfl) rfl rfl ?_
      refine jg_ceq (pc' := 20) rfl rfl (fun hc => ?_) (fun hc => ?_)
      · have h := jg_t h (show jg_wr x1 = jg_wr (σ.1 a0 4) from hc)
        refine jg_A (pc' := 25) rfl rfl (fun _ _ _ => rfl) ?_
        exact jg_zret rfl rfl (by decide) h
      · have h := jg_f h (show ¬ (jg_wr x1 = jg_wr (σ.1 a0 4)) from hc)
        refine jg_A (pc' := 21) rfl rfl (fun _ _ _ => rfl) ?_
        refine jg_goto rfl ?_
        exact jg_zret rfl rfl (by decide) h
set_option maxRecDepth 100000 in
set_option maxHeartbeats 4000000 in
theorem jb_X0_symbolNamed_0 {w : Nat} {a0 : Nat} {x1 : Int} {σ : jg_M} {Q : Int → jg_M → Prop} (h0 : jg_sh a0 = (0, 0)) (h : jg_GI w 2 mm_X0_symbolNamed 2 [.ref a0, .int (.ofInt x1), .int (.ofInt 0)] σ Q) : jg_CI w 2 mm_X0_symbolNamed [.ref a0, .int (.ofInt x1)] σ Q := by
  show jg_G w 2 mm_X0_symbolNamed 0 [.ref a0, .int (.ofInt x1), mj_U] [] σ (jg_QI Q)
  refine jg_A (pc' := 1) rfl rfl (fun _ _ _ => rfl) ?_
  refine jg_A (pc' := 2) (ls' := [.ref a0, .int (.ofInt x1), .int (.ofInt 0)]) rfl rfl (fun _ _ _ => rfl) ?_
  exact h
set_option maxRecDepth 100000 in
set_option maxHeartbeats 4000000 in
theorem jb_X0_symbolNamed_2 {w : Nat} {a0 : Nat} {x1 : Int} {x2 : Int} {σ : jg_M} {Q : Int → jg_M → Prop} (h0 : jg_sh a0 = (0, 0)) (h : (if 15 ≤ jg_wr x2 then Q (-1) σ else jg_CI w 1 mm_X0_hasSymbol [.ref a0, .int (.ofInt x2)] σ (fun (z102 : Int) (m101 : jg_M) => (if jg_wr z102 = 0 then jg_GI w 2 mm_X0_symbolNamed 2 [.ref a0, .int (.ofInt x1), .int (.ofInt (x2 + 1))] m101 Q else ((0 : Int) ≤ jg_wr x2 ∧ jg_wr x2 < (15 : Int)) ∧ (if jg_wr (m101.1 (a0 + 1) (jg_wr x2)) = jg_wr x1 then Q x2 m101 else jg_GI w 2 mm_X0_symbolNamed 2 [.ref a0, .int (.ofInt x1), .int (.ofInt (x2 + 1))] m101 Q))))) : jg_GI w 2 mm_X0_symbolNamed 2 [.ref a0, .int (.ofInt x1), .int (.ofInt x2)] σ Q := by
  show jg_G w 2 mm_X0_symbolNamed 2 [.ref a0, .int (.ofInt x1), .int (.ofInt x2)] [] σ (jg_QI Q)
  refine jg_A (pc' := 3) rfl rfl (fun _ _ _ => rfl) ?_
  refine jg_A (pc' := 5) rfl rfl (fun _ _ _ => rfl) ?_
  refine jg_cge (pc' := 8) rfl rfl (fun hc => ?_) (fun hc => ?_)
  · have h := jg_t h (show 15 ≤ jg_wr x2 from hc)
    refine jg_A (pc' := 35) rfl rfl (fun _ _ _ => rfl) ?_
    exact jg_iret rfl rfl h
  · have h := jg_f h (show ¬ (15 ≤ jg_wr x2) from hc)
    refine jg_A (pc' := 9) rfl rfl (fun _ _ _ => rfl) ?_
    refine jg_A (pc' := 10) rfl rfl (fun _ _ _ => rfl) ?_
    refine jg_calX (M1 := mm_X0_hasSymbol) (hy := 1) (pc' := 13) rfl jm_X0_hasSymbol (by decide) rfl h0 (by decide) ⟨Nat.le_of_ble_eq_true rfl, rfl⟩ (Nat.le_of_ble_eq_true rfl) rfl h (jg_kI (fun z102 m101 h => ?_))
    refine jg_ifeq (pc' := 16) rfl rfl (fun hc => ?_) (fun hc => ?_)
    · have h := jg_t h (show jg_wr z102 = 0 from hc)
      refine jg_iinc (pc' := 31) (ls' := [.ref a0, .int (.ofInt x1), .int (.ofInt (x2 + 1))]) rfl rfl rfl rfl ?_
      refine jg_goto rfl ?_
      exact h
    · have h := jg_f h (show ¬ (jg_wr z102 = 0) from hc)
      refine jg_A (pc' := 17) rfl rfl (fun _ _ _ => rfl) ?_
      refine jg_getO (pc' := 20) (k := 1) rfl h0 (by decide) rfl rfl ?_
      refine jg_A (pc' := 21) rfl rfl (fun _ _ _ => rfl) ?_
      obtain ⟨hg, h⟩ := h
      refine jg_iald (pc' := 22) rfl (jg_sX0_5 h0) hg rfl ?_
      refine jg_A (pc' := 23) rfl rfl (fun _ _ _ => rfl) ?_
      refine jg_cne (pc' := 26) rfl rfl (fun hc => ?_) (fun hc => ?_)
      · have h := jg_t h (show jg_wr (m101.1 (a0 + 1) (jg_wr x2)) = jg_wr x1 from hc)
        refine jg_A (pc' := 27) rfl rfl (fun _ _ _ => rfl) ?_
        exact jg_iret rfl rfl h
      · have h := jg_f h (show ¬ (jg_wr (m101.1 (a0 + 1) (jg_wr x2)) = jg_wr x1) from hc)
        refine jg_iinc (pc' := 31) (ls' := [.ref a0, .int (.ofInt x1), .int (.ofInt (x2 + 1))]) rfl rfl rfl rfl ?_
        refine jg_goto rfl ?_
        exact h
set_option maxRecDepth 100000 in
set_option maxHeartbeats 4000000 in
theorem jb_X0_addToken_0 {w : Nat} {a0 : Nat} {x1 : Int} {σ : jg_M} {Q : jg_M → Prop} (h0 : jg_sh a0 = (0, 0)) (h : (if 7 ≤ jg_wr (σ.1 a0 0) then Q σ else ((0 : Int) ≤ (jg_wr (σ.1 a0 0)) ∧ (jg_wr (σ.1 a0 0)) < (15 : Int)) ∧ ∀ m101 : jg_M, m101 = jg_sI σ (a0 + 1) (jg_wr (σ.1 a0 0)) x1 → ∀ m102 : jg_M, m102 = jg_sI m101 a0 0 ((m101.1 a0 0) + 1) → Q m102)) : jg_CV w 0 mm_X0_addToken [.ref a0, .int (.ofInt x1)] σ Q := by
  show jg_G w 0 mm_X0_addToken 0 [.ref a0, .int (.ofInt x1)] [] σ (jg_QV Q)
  refine jg_A (pc' := 1) rfl rfl (fun _ _ _ => rfl) ?_
  refine jg_getI (pc' := 4) (bi := 0) rfl h0 (by decide) (Or.inl rfl) rfl rfl ?_
  refine jg_A (pc' := 6) rfl rfl (fun _ _ _ => rfl) ?_
  refine jg_cge (pc' := 9) rfl rfl (fun hc => ?_) (fun hc => ?_)
  · have h := jg_t h (show 7 ≤ jg_wr (σ.1 a0 0) from hc)
    exact jg_vret rfl rfl h
  · have h := jg_f h (show ¬ (7 ≤ jg_wr (σ.1 a0 0)) from hc)
    refine jg_A (pc' := 10) rfl rfl (fun _ _ _ => rfl) ?_
    refine jg_getO (pc' := 13) (k := 1) rfl h0 (by decide) rfl rfl ?_
    refine jg_A (pc' := 14) rfl rfl (fun _ _ _ => rfl) ?_
    refine jg_getI (pc' := 17) (bi := 0) rfl h0 (by decide) (Or.inl rfl) rfl rfl ?_
    refine jg_A (pc' := 18) rfl rfl (fun _ _ _ => rfl) ?_
    obtain ⟨hg, h⟩ := h
    refine jg_iast (pc' := 19) rfl (jg_sX0_5 h0) hg rfl (fun m101 hm101 => ?_)
    have h := h m101 hm101
    refine jg_A (pc' := 20) rfl rfl (fun _ _ _ => rfl) ?_
    refine jg_A (pc' := 21) rfl rfl (fun _ _ _ => rfl) ?_
    refine jg_getI (pc' := 24) (bi := 0) rfl h0 (by decide) (Or.inl rfl) rfl rfl ?_
    refine jg_A (pc' := 25) rfl rfl (fun _ _ _ => rfl) ?_
    refine jg_iadd (pc' := 26) rfl rfl ?_
    refine jg_putI (pc' := 29) (bi := 0) rfl h0 (by decide) rfl rfl rfl rfl (fun m102 hm102 => ?_)
    have h := h m102 hm102
    exact jg_vret rfl rfl h
set_option maxRecDepth 100000 in
set_option maxHeartbeats 4000000 in
theorem jb_X0_addKind_0 {w : Nat} {a0 : Nat} {x1 : Int} {σ : jg_M} {Q : jg_M → Prop} (h0 : jg_sh a0 = (0, 0)) (h : (if 5 ≤ jg_wr (σ.1 a0 1) then Q σ else ((0 : Int) ≤ (jg_wr (10 + (σ.1 a0 1))) ∧ (jg_wr (10 + (σ.1 a0 1))) < (15 : Int)) ∧ ∀ m101 : jg_M, m101 = jg_sI σ (a0 + 1) (jg_wr (10 + (σ.1 a0 1))) x1 → ∀ m102 : jg_M, m102 = jg_sI m101 a0 1 ((m101.1 a0 1) + 1) → Q m102)) : jg_CV w 0 mm_X0_addKind [.ref a0, .int (.ofInt x1)] σ Q := by
  show jg_G w 0 mm_X0_addKind 0 [.ref a0, .int (.ofInt x1)] [] σ (jg_QV Q)
  refine jg_A (pc' := 1) rfl rfl (fun _ _ _ => rfl) ?_
  refine jg_getI (pc' := 4) (bi := 1) rfl h0 (by decide) (Or.inl rfl) rfl rfl ?_
  refine jg_A (pc' := 5) rfl rfl (fun _ _ _ => rfl) ?_
  refine jg_cge (pc' := 8) rfl rfl (fun hc => ?_) (fun hc => ?_)
  · have h := jg_t h (show 5 ≤ jg_wr (σ.1 a0 1) from hc)
    exact jg_vret rfl rfl h
  · have h := jg_f h (show ¬ (5 ≤ jg_wr (σ.1 a0 1)) from hc)
    refine jg_A (pc' := 9) rfl rfl (fun _ _ _ => rfl) ?_
    refine jg_getO (pc' := 12) (k := 1) rfl h0 (by decide) rfl rfl ?_
    refine jg_A (pc' := 14) rfl rfl (fun _ _ _ => rfl) ?_
    refine jg_A (pc' := 15) rfl rfl (fun _ _ _ => rfl) ?_
    refine jg_getI (pc' := 18) (bi := 1) rfl h0 (by decide) (Or.inl rfl) rfl rfl ?_
    refine jg_iadd (pc' := 19) rfl rfl ?_
    refine jg_A (pc' := 20) rfl rfl (fun _ _ _ => rfl) ?_
    obtain ⟨hg, h⟩ := h
    refine jg_iast (pc' := 21) rfl (jg_sX0_5 h0) hg rfl (fun m101 hm101 => ?_)
    have h := h m101 hm101
    refine jg_A (pc' := 22) rfl rfl (fun _ _ _ => rfl) ?_
    refine jg_A (pc' := 23) rfl rfl (fun _ _ _ => rfl) ?_
    refine jg_getI (pc' := 26) (bi := 1) rfl h0 (by decide) (Or.inl rfl) rfl rfl ?_
    refine jg_A (pc' := 27) rfl rfl (fun _ _ _ => rfl) ?_
    refine jg_iadd (pc' := 28) rfl rfl ?_
    refine jg_putI (pc' := 31) (bi := 1) rfl h0 (by decide) rfl rfl rfl rfl (fun m102 hm102 => ?_)
    have h := h m102 hm102
    exact jg_vret rfl rfl h
set_option maxRecDepth 100000 in
set_option maxHeartbeats 4000000 in
theorem jb_X0_beginRule_0 {w : Nat} {a0 : Nat} {x1 : Int} {σ : jg_M} {Q : jg_M → Prop} (h0 : jg_sh a0 = (0, 0)) (h : (if 12 ≤ jg_wr (σ.1 a0 2) then Q σ else ((0 : Int) ≤ (jg_wr (σ.1 a0 2)) ∧ (jg_wr (σ.1 a0 2)) < (12 : Int)) ∧ ∀ m101 : jg_M, m101 = jg_sI σ (a0 + 4) (jg_wr (σ.1 a0 2)) x1 → ((0 : Int) ≤ (jg_wr (m101.1 a0 2)) ∧ (jg_wr (m101.1 a0 2)) < (12 : Int)) ∧ ∀ m102 : jg_M, m102 = jg_sI m101 (a0 + 5) (jg_wr (m101.1 a0 2)) 0 → Q m102)) : jg_CV w 0 mm_X0_beginRule [.ref a0, .int (.ofInt x1)] σ Q := by
  show jg_G w 0 mm_X0_beginRule 0 [.ref a0, .int (.ofInt x1)] [] σ (jg_QV Q)
  refine jg_A (pc' := 1) rfl rfl (fun _ _ _ => rfl) ?_
  refine jg_getI (pc' := 4) (bi := 2) rfl h0 (by decide) (Or.inl rfl) rfl rfl ?_
  refine jg_A (pc' := 6) rfl rfl (fun _ _ _ => rfl) ?_
  refine jg_cge (pc' := 9) rfl rfl (fun hc => ?_) (fun hc => ?_)
  · have h := jg_t h (show 12 ≤ jg_wr (σ.1 a0 2) from hc)
    exact jg_vret rfl rfl h
  · have h := jg_f h (show ¬ (12 ≤ jg_wr (σ.1 a0 2)) from hc)
    refine jg_A (pc' := 10) rfl rfl (fun _ _ _ => rfl) ?_
    refine jg_getO (pc' := 13) (k := 4) rfl h0 (by decide) rfl rfl ?_
    refine jg_A (pc' := 14) rfl rfl (fun _ _ _ => rfl) ?_
    refine jg_getI (pc' := 17) (bi := 2) rfl h0 (by decide) (Or.inl rfl) rfl rfl ?_
    refine jg_A (pc' := 18) rfl rfl (fun _ _ _ => rfl) ?_
    obtain ⟨hg, h⟩ := h
    refine jg_iast (pc' := 19) rfl (jg_sX0_8 h0) hg rfl (fun m101 hm101 => ?_)
    have h := h m101 hm101
    refine jg_A (pc' := 20) rfl rfl (fun _ _ _ => rfl) ?_
    refine jg_getO (pc' := 23) (k := 5) rfl h0 (by decide) rfl rfl ?_
    refine jg_A (pc' := 24) rfl rfl (fun _ _ _ => rfl) ?_
    refine jg_getI (pc' := 27) (bi := 2) rfl h0 (by decide) (Or.inl rfl) rfl rfl ?_
    refine jg_A (pc' := 28) rfl rfl (fun _ _ _ => rfl) ?_
    obtain ⟨hg, h⟩ := h
    refine jg_iast (pc' := 29) rfl (jg_sX0_9 h0) hg rfl (fun m102 hm102 => ?_)
    have h := h m102 hm102
    exact jg_vret rfl rfl h
set_option maxRecDepth 100000 in
set_option maxHeartbeats 4000000 in
theorem jb_X0_addSymbol_0 {w : Nat} {a0 : Nat} {x1 : Int} {σ : jg_M} {Q : Int → jg_M → Prop} (h0 : jg_sh a0 = (0, 0)) (h : (if 12 ≤ jg_wr (σ.1 a0 2) then Q 0 σ else ((0 : Int) ≤ jg_wr (σ.1 a0 2) ∧ jg_wr (σ.1 a0 2) < (12 : Int)) ∧ (if jg_wr (σ.1 (a0 + 5) (jg_wr (σ.1 a0 2))) < 4 then ((0 : Int) ≤ jg_wr (σ.1 a0 2) ∧ jg_wr (σ.1 a0 2) < (12 : Int)) ∧ ((0 : Int) ≤ (jg_wr (((σ.1 a0 2) * 4) + (σ.1 (a0 + 5) (jg_wr (σ.1 a0 2))))) ∧ (jg_wr (((σ.1 a0 2) * 4) + (σ.1 (a0 + 5) (jg_wr (σ.1 a0 2))))) < (48 : Int)) ∧ ∀ m101 : jg_M, m101 = jg_sI σ (a0 + 6) (jg_wr (((σ.1 a0 2) * 4) + (σ.1 (a0 + 5) (jg_wr (σ.1 a0 2))))) x1 → ((0 : Int) ≤ jg_wr (m101.1 a0 2) ∧ jg_wr (m101.1 a0 2) < (12 : Int)) ∧ ((0 : Int) ≤ (jg_wr (m101.1 a0 2)) ∧ (jg_wr (m101.1 a0 2)) < (12 : Int)) ∧ ∀ m102 : jg_M, m102 = jg_sI m101 (a0 + 5) (jg_wr (m101.1 a0 2)) ((m101.1 (a0 + 5) (jg_wr (m101.1 a0 2))) + 1) → Q 1 m102 else Q 0 σ))) : jg_CI w 0 mm_X0_addSymbol [.ref a0, .int (.ofInt x1)] σ Q := by
  show jg_G w 0 mm_X0_addSymbol 0 [.ref a0, .int (.ofInt x1)] [] σ (jg_QI Q)
  refine jg_A (pc' := 1) rfl rfl (fun _ _ _ => rfl) ?_
  refine jg_getI (pc' := 4) (bi := 2) rfl h0 (by decide) (Or.inl rfl) rfl rfl ?_
  refine jg_A (pc' := 6) rfl rfl (fun _ _ _ => rfl) ?_
  refine jg_cge (pc' := 9) rfl rfl (fun hc => ?_) (fun hc => ?_)
  · have h := jg_t h (show 12 ≤ jg_wr (σ.1 a0 2) from hc)
    refine jg_A (pc' := 23) rfl rfl (fun _ _ _ => rfl) ?_
    exact jg_zret rfl rfl (by decide) h
  · have h := jg_f h (show ¬ (12 ≤ jg_wr (σ.1 a0 2)) from hc)
    refine jg_A (pc' := 10) rfl rfl (fun _ _ _ => rfl) ?_
    refine jg_getO (pc' := 13) (k := 5) rfl h0 (by decide) rfl rfl ?_
    refine jg_A (pc' := 14) rfl rfl (fun _ _ _ => rfl) ?_
    refine jg_getI (pc' := 17) (bi := 2) rfl h0 (by decide) (Or.inl rfl) rfl rfl ?_
    obtain ⟨hg, h⟩ := h
    refine jg_iald (pc' := 18) rfl (jg_sX0_9 h0) hg rfl ?_
    refine jg_A (pc' := 19) rfl rfl (fun _ _ _ => rfl) ?_
    refine jg_clt (pc' := 22) rfl rfl (fun hc => ?_) (fun hc => ?_)
    · have h := jg_t h (show jg_wr (σ.1 (a0 + 5) (jg_wr (σ.1 a0 2))) < 4 from hc)
      refine jg_A (pc' := 25) rfl rfl (fun _ _ _ => rfl) ?_
      refine jg_getO (pc' := 28) (k := 6) rfl h0 (by decide) rfl rfl ?_
      refine jg_A (pc' := 29) rfl rfl (fun _ _ _ => rfl) ?_
      refine jg_getI (pc' := 32) (bi := 2) rfl h0 (by decide) (Or.inl rfl) rfl rfl ?_
      refine jg_A (pc' := 33) rfl rfl (fun _ _ _ => rfl) ?_
      refine jg_imul (pc' := 34) rfl rfl ?_
      refine jg_A (pc' := 35) rfl rfl (fun _ _ _ => rfl) ?_
      refine jg_getO (pc' := 38) (k := 5) rfl h0 (by decide) rfl rfl ?_
      refine jg_A (pc' := 39) rfl rfl (fun _ _ _ => rfl) ?_
      refine jg_getI (pc' := 42) (bi := 2) rfl h0 (by decide) (Or.inl rfl) rfl rfl ?_
      obtain ⟨hg, h⟩ := h
      refine jg_iald (pc' := 43) rfl (jg_sX0_9 h0) hg rfl ?_
      refine jg_iadd (pc' := 44) rfl rfl ?_
      refine jg_A (pc' := 45) rfl rfl (fun _ _ _ => rfl) ?_
      obtain ⟨hg, h⟩ := h
      refine jg_iast (pc' := 46) rfl (jg_sX0_10 h0) hg rfl (fun m101 hm101 => ?_)
      have h := h m101 hm101
      refine jg_A (pc' := 47) rfl rfl (fun _ _ _ => rfl) ?_
      refine jg_getO (pc' := 50) (k := 5) rfl h0 (by decide) rfl rfl ?_
      refine jg_A (pc' := 51) rfl rfl (fun _ _ _ => rfl) ?_
      refine jg_getI (pc' := 54) (bi := 2) rfl h0 (by decide) (Or.inl rfl) rfl rfl ?_
      refine jg_A (pc' := 55) rfl rfl (fun _ _ _ => rfl) ?_
      obtain ⟨hg, h⟩ := h
      refine jg_iald (pc' := 56) rfl (jg_sX0_9 h0) hg rfl ?_
      refine jg_A (pc' := 57) rfl rfl (fun _ _ _ => rfl) ?_
      refine jg_iadd (pc' := 58) rfl rfl ?_
      obtain ⟨hg, h⟩ := h
      refine jg_iast (pc' := 59) rfl (jg_sX0_9 h0) hg rfl (fun m102 hm102 => ?_)
      have h := h m102 hm102
      refine jg_A (pc' := 60) rfl rfl (fun _ _ _ => rfl) ?_
      exact jg_zret rfl rfl (by decide) h
    · have h := jg_f h (show ¬ (jg_wr (σ.1 (a0 + 5) (jg_wr (σ.1 a0 2))) < 4) from hc)
      refine jg_A (pc' := 23) rfl rfl (fun _ _ _ => rfl) ?_
      exact jg_zret rfl rfl (by decide) h
set_option maxRecDepth 100000 in
set_option maxHeartbeats 4000000 in
theorem jb_X0_ruleIsFull_0 {w : Nat} {a0 : Nat} {σ : jg_M} {Q : Int → jg_M → Prop} (h0 : jg_sh a0 = (0, 0)) (h : (if 12 ≤ jg_wr (σ.1 a0 2) then Q 1 σ else ((0 : Int) ≤ jg_wr (σ.1 a0 2) ∧ jg_wr (σ.1 a0 2) < (12 : Int)) ∧ (if jg_wr (σ.1 (a0 + 5) (jg_wr (σ.1 a0 2))) < 4 then Q 0 σ else Q 1 σ))) : jg_CI w 0 mm_X0_ruleIsFull [.ref a0] σ Q := by
  show jg_G w 0 mm_X0_ruleIsFull 0 [.ref a0] [] σ (jg_QI Q)
  refine jg_A (pc' := 1) rfl rfl (fun _ _ _ => rfl) ?_
  refine jg_getI (pc' := 4) (bi := 2) rfl h0 (by decide) (Or.inl rfl) rfl rfl ?_
  refine jg_A (pc' := 6) rfl rfl (fun _ _ _ => rfl) ?_
  refine jg_cge (pc' := 9) rfl rfl (fun hc => ?_) (fun hc => ?_)
  · have h := jg_t h (show 12 ≤ jg_wr (σ.1 a0 2) from hc)
    refine jg_A (pc' := 23) rfl rfl (fun _ _ _ => rfl) ?_
    refine jg_goto rfl ?_
    exact jg_zret rfl rfl (by decide) h
  · have h := jg_f h (show ¬ (12 ≤ jg_wr (σ.1 a0 2)) from hc)
    refine jg_A (pc' := 10) rfl rfl (fun _ _ _ => rfl) ?_
    refine jg_getO (pc' := 13) (k := 5) rfl h0 (by decide) rfl rfl ?_
    refine jg_A (pc' := 14) rfl rfl (fun _ _ _ => rfl) ?_
    refine jg_getI (pc' := 17) (bi := 2) rfl h0 (by decide) (Or.inl rfl) rfl rfl ?_
    obtain ⟨hg, h⟩ := h
    refine jg_iald (pc' := 18) rfl (jg_sX0_9 h0) hg rfl ?_
    refine jg_A (pc' := 19) rfl rfl (fun _ _ _ => rfl) ?_
    refine jg_clt (pc' := 22) rfl rfl (fun hc => ?_) (fun hc => ?_)
    · have h := jg_t h (show jg_wr (σ.1 (a0 + 5) (jg_wr (σ.1 a0 2))) < 4 from hc)
      refine jg_A (pc' := 27) rfl rfl (fun _ _ _ => rfl) ?_
      exact jg_zret rfl rfl (by decide) h
    · have h := jg_f h (show ¬ (jg_wr (σ.1 (a0 + 5) (jg_wr (σ.1 a0 2))) < 4) from hc)
      refine jg_A (pc' := 23) rfl rfl (fun _ _ _ => rfl) ?_
      refine jg_goto rfl ?_
      exact jg_zret rfl rfl (by decide) h
set_option maxRecDepth 100000 in
set_option maxHeartbeats 4000000 in
theorem jb_X0_addRule_0 {w : Nat} {a0 : Nat} {σ : jg_M} {Q : Int → jg_M → Prop} (h0 : jg_sh a0 = (0, 0)) (h : (if jg_wr (σ.1 a0 2) < 12 then jg_GI w 1 mm_X0_addRule 13 [.ref a0, .int (.ofInt 0)] σ Q else Q 0 σ)) : jg_CI w 1 mm_X0_addRule [.ref a0] σ Q := by
  show jg_G w 1 mm_X0_addRule 0 [.ref a0, mj_U] [] σ (jg_QI Q)
  refine jg_A (pc' := 1) rfl rfl (fun _ _ _ => rfl) ?_
  refine jg_getI (pc' := 4) (bi := 2) rfl h0 (by decide) (Or.inl rfl) rfl rfl ?_
  refine jg_A (pc' := 6) rfl rfl (fun _ _ _ => rfl) ?_
  refine jg_clt (pc' := 9) rfl rfl (fun hc => ?_) (fun hc => ?_)
  · have h := jg_t h (show jg_wr (σ.1 a0 2) < 12 from hc)
    refine jg_A (pc' := 12) rfl rfl (fun _ _ _ => rfl) ?_
    refine jg_A (pc' := 13) (ls' := [.ref a0, .int (.ofInt 0)]) rfl rfl (fun _ _ _ => rfl) ?_
    exact h
  · have h := jg_f h (show ¬ (jg_wr (σ.1 a0 2) < 12) from hc)
    refine jg_A (pc' := 10) rfl rfl (fun _ _ _ => rfl) ?_
    exact jg_zret rfl rfl (by decide) h
set_option maxRecDepth 100000 in
set_option maxHeartbeats 4000000 in
theorem jb_X0_addRule_13 {w : Nat} {a0 : Nat} {x1 : Int} {σ : jg_M} {Q : Int → jg_M → Prop} (h0 : jg_sh a0 = (0, 0)) (h : (if jg_wr (σ.1 a0 2) ≤ jg_wr x1 then ∀ m101 : jg_M, m101 = jg_sI σ a0 2 ((σ.1 a0 2) + 1) → Q 1 m101 else jg_CI w 0 mm_X0_isSameAsBegun [.ref a0, .int (.ofInt x1)] σ (fun (z103 : Int) (m102 : jg_M) => (if jg_wr z103 = 0 then jg_GI w 1 mm_X0_addRule 13 [.ref a0, .int (.ofInt (x1 + 1))] m102 Q else Q 0 m102)))) : jg_GI w 1 mm_X0_addRule 13 [.ref a0, .int (.ofInt x1)] σ Q := by
  show jg_G w 1 mm_X0_addRule 13 [.ref a0, .int (.ofInt x1)] [] σ (jg_QI Q)
  refine jg_A (pc' := 14) rfl rfl (fun _ _ _ => rfl) ?_
  refine jg_A (pc' := 15) rfl rfl (fun _ _ _ => rfl) ?_
  refine jg_getI (pc' := 18) (bi := 2) rfl h0 (by decide) (Or.inl rfl) rfl rfl ?_
  refine jg_cge (pc' := 21) rfl rfl (fun hc => ?_) (fun hc => ?_)
  · have h := jg_t h (show jg_wr (σ.1 a0 2) ≤ jg_wr x1 from hc)
    refine jg_A (pc' := 38) rfl rfl (fun _ _ _ => rfl) ?_
    refine jg_A (pc' := 39) rfl rfl (fun _ _ _ => rfl) ?_
    refine jg_getI (pc' := 42) (bi := 2) rfl h0 (by decide) (Or.inl rfl) rfl rfl ?_
    refine jg_A (pc' := 43) rfl rfl (fun _ _ _ => rfl) ?_
    refine jg_iadd (pc' := 44) rfl rfl ?_
    refine jg_putI (pc' := 47) (bi := 2) rfl h0 (by decide) rfl rfl rfl rfl (fun m101 hm101 => ?_)
    have h := h m101 hm101
    refine jg_A (pc' := 48) rfl rfl (fun _ _ _ => rfl) ?_
    exact jg_zret rfl rfl (by decide) h
  · have h := jg_f h (show ¬ (jg_wr (σ.1 a0 2) ≤ jg_wr x1) from hc)
    refine jg_A (pc' := 22) rfl rfl (fun _ _ _ => rfl) ?_
    refine jg_A (pc' := 23) rfl rfl (fun _ _ _ => rfl) ?_
    refine jg_calX (M1 := mm_X0_isSameAsBegun) (hy := 0) (pc' := 26) rfl jm_X0_isSameAsBegun (by decide) rfl h0 (by decide) ⟨Nat.le_of_ble_eq_true rfl, rfl⟩ (Nat.le_of_ble_eq_true rfl) rfl h (jg_kI (fun z103 m102 h => ?_))
    refine jg_ifeq (pc' := 29) rfl rfl (fun hc => ?_) (fun hc => ?_)
    · have h := jg_t h (show jg_wr z103 = 0 from hc)
      refine jg_iinc (pc' := 34) (ls' := [.ref a0, .int (.ofInt (x1 + 1))]) rfl rfl rfl rfl ?_
      refine jg_goto rfl ?_
      exact h
    · have h := jg_f h (show ¬ (jg_wr z103 = 0) from hc)
      refine jg_A (pc' := 30) rfl rfl (fun _ _ _ => rfl) ?_
      exact jg_zret rfl rfl (by decide) h
set_option maxRecDepth 100000 in
set_option maxHeartbeats 4000000 in
theorem jb_X0_isSameAsBegun_0 {w : Nat} {a0 : Nat} {x1 : Int} {σ : jg_M} {Q : Int → jg_M → Prop} (h0 : jg_sh a0 = (0, 0)) (h : ((0 : Int) ≤ jg_wr x1 ∧ jg_wr x1 < (12 : Int)) ∧ ((0 : Int) ≤ jg_wr (σ.1 a0 2) ∧ jg_wr (σ.1 a0 2) < (12 : Int)) ∧ (if jg_wr (σ.1 (a0 + 4) (jg_wr x1)) = jg_wr (σ.1 (a0 + 4) (jg_wr (σ.1 a0 2))) then ((0 : Int) ≤ jg_wr x1 ∧ jg_wr x1 < (12 : Int)) ∧ ((0 : Int) ≤ jg_wr (σ.1 a0 2) ∧ jg_wr (σ.1 a0 2) < (12 : Int)) ∧ (if jg_wr (σ.1 (a0 + 5) (jg_wr x1)) = jg_wr (σ.1 (a0 + 5) (jg_wr (σ.1 a0 2))) then jg_GI w 0 mm_X0_isSameAsBegun 40 [.ref a0, .int (.ofInt x1), .int (.ofInt 0)] σ Q else Q 0 σ) else Q 0 σ)) : jg_CI w 0 mm_X0_isSameAsBegun [.ref a0, .int (.ofInt x1)] σ Q := by
  show jg_G w 0 mm_X0_isSameAsBegun 0 [.ref a0, .int (.ofInt x1), mj_U] [] σ (jg_QI Q)
  refine jg_A (pc' := 1) rfl rfl (fun _ _ _ => rfl) ?_
  refine jg_getO (pc' := 4) (k := 4) rfl h0 (by decide) rfl rfl ?_
  refine jg_A (pc' := 5) rfl rfl (fun _ _ _ => rfl) ?_
  obtain ⟨hg, h⟩ := h
  refine jg_iald (pc' := 6) rfl (jg_sX0_8 h0) hg rfl ?_
  refine jg_A (pc' := 7) rfl rfl (fun _ _ _ => rfl) ?_
  refine jg_getO (pc' := 10) (k := 4) rfl h0 (by decide) rfl rfl ?_
  refine jg_A (pc' := 11) rfl rfl (fun _ _ _ => rfl) ?_
  refine jg_getI (pc' := 14) (bi := 2) rfl h0 (by decide) (Or.inl rfl) rfl rfl ?_
  obtain ⟨hg, h⟩ := h
  refine jg_iald (pc' := 15) rfl (jg_sX0_8 h0) hg rfl ?_
  refine jg_cne (pc' := 18) rfl rfl (fun hc => ?_) (fun hc => ?_)
  · have h := jg_t h (show jg_wr (σ.1 (a0 + 4) (jg_wr x1)) = jg_wr (σ.1 (a0 + 4) (jg_wr (σ.1 a0 2))) from hc)
    refine jg_A (pc' := 19) rfl rfl (fun _ _ _ => rfl) ?_
    refine jg_getO (pc' := 22) (k := 5) rfl h0 (by decide) rfl rfl ?_
    refine jg_A (pc' := 23) rfl rfl (fun _ _ _ => rfl) ?_
    obtain ⟨hg, h⟩ := h
    refine jg_iald (pc' := 24) rfl (jg_sX0_9 h0) hg rfl ?_
    refine jg_A (pc' := 25) rfl rfl (fun _ _ _ => rfl) ?_
    refine jg_getO (pc' := 28) (k := 5) rfl h0 (by decide) rfl rfl ?_
    refine jg_A (pc' := 29) rfl rfl (fun _ _ _ => rfl) ?_
    refine jg_getI (pc' := 32) (bi := 2) rfl h0 (by decide) (Or.inl rfl) rfl rfl ?_
    obtain ⟨hg, h⟩ := h
    refine jg_iald (pc' := 33) rfl (jg_sX0_9 h0) hg rfl ?_
    refine jg_ceq (pc' := 36) rfl rfl (fun hc => ?_) (fun hc => ?_)
    · have h := jg_t h (show jg_wr (σ.1 (a0 + 5) (jg_wr x1)) = jg_wr (σ.1 (a0 + 5) (jg_wr (σ.1 a0 2))) from hc)
      refine jg_A (pc' := 39) rfl rfl (fun _ _ _ => rfl) ?_
      refine jg_A (pc' := 40) (ls' := [.ref a0, .int (.ofInt x1), .int (.ofInt 0)]) rfl rfl (fun _ _ _ => rfl) ?_
      exact h
    · have h := jg_f h (show ¬ (jg_wr (σ.1 (a0 + 5) (jg_wr x1)) = jg_wr (σ.1 (a0 + 5) (jg_wr (σ.1 a0 2)))) from hc)
      refine jg_A (pc' := 37) rfl rfl (fun _ _ _ => rfl) ?_
      exact jg_zret rfl rfl (by decide) h
  · have h := jg_f h (show ¬ (jg_wr (σ.1 (a0 + 4) (jg_wr x1)) = jg_wr (σ.1 (a0 + 4) (jg_wr (σ.1 a0 2)))) from hc)
    refine jg_A (pc' := 37) rfl rfl (fun _ _ _ => rfl) ?_
    exact jg_zret rfl rfl (by decide) h
set_option maxRecDepth 100000 in
set_option maxHeartbeats 4000000 in
theorem jb_X0_isSameAsBegun_40 {w : Nat} {a0 : Nat} {x1 : Int} {x2 : Int} {σ : jg_M} {Q : Int → jg_M → Prop} (h0 : jg_sh a0 = (0, 0)) (h : ((0 : Int) ≤ jg_wr x1 ∧ jg_wr x1 < (12 : Int)) ∧ (if jg_wr (σ.1 (a0 + 5) (jg_wr x1)) ≤ jg_wr x2 then Q 1 σ else (if 4 ≤ jg_wr x2 then Q 1 σ else ((0 : Int) ≤ jg_wr ((x1 * 4) + x2) ∧ jg_wr ((x1 * 4) + x2) < (48 : Int)) ∧ ((0 : Int) ≤ jg_wr (((σ.1 a0 2) * 4) + x2) ∧ jg_wr (((σ.1 a0 2) * 4) + x2) < (48 : Int)) ∧ (if jg_wr (σ.1 (a0 + 6) (jg_wr ((x1 * 4) + x2))) = jg_wr (σ.1 (a0 + 6) (jg_wr (((σ.1 a0 2) * 4) + x2))) then jg_GI w 0 mm_X0_isSameAsBegun 40 [.ref a0, .int (.ofInt x1), .int (.ofInt (x2 + 1))] σ Q else Q 0 σ)))) : jg_GI w 0 mm_X0_isSameAsBegun 40 [.ref a0, .int (.ofInt x1), .int (.ofInt x2)] σ Q := by
  show jg_G w 0 mm_X0_isSameAsBegun 40 [.ref a0, .int (.ofInt x1), .int (.ofInt x2)] [] σ (jg_QI Q)
  refine jg_A (pc' := 41) rfl rfl (fun _ _ _ => rfl) ?_
  refine jg_A (pc' := 42) rfl rfl (fun _ _ _ => rfl) ?_
  refine jg_getO (pc' := 45) (k := 5) rfl h0 (by decide) rfl rfl ?_
  refine jg_A (pc' := 46) rfl rfl (fun _ _ _ => rfl) ?_
  obtain ⟨hg, h⟩ := h
  refine jg_iald (pc' := 47) rfl (jg_sX0_9 h0) hg rfl ?_
  refine jg_cge (pc' := 50) rfl rfl (fun hc => ?_) (fun hc => ?_)
  · have h := jg_t h (show jg_wr (σ.1 (a0 + 5) (jg_wr x1)) ≤ jg_wr x2 from hc)
    refine jg_A (pc' := 90) rfl rfl (fun _ _ _ => rfl) ?_
    exact jg_zret rfl rfl (by decide) h
  · have h := jg_f h (show ¬ (jg_wr (σ.1 (a0 + 5) (jg_wr x1)) ≤ jg_wr x2) from hc)
    refine jg_A (pc' := 51) rfl rfl (fun _ _ _ => rfl) ?_
    refine jg_A (pc' := 52) rfl rfl (fun _ _ _ => rfl) ?_
    refine jg_cge (pc' := 55) rfl rfl (fun hc => ?_) (fun hc => ?_)
    · have h := jg_t h (show 4 ≤ jg_wr x2 from hc)
      refine jg_A (pc' := 90) rfl rfl (fun _ _ _ => rfl) ?_
      exact jg_zret rfl rfl (by decide) h
    · have h := jg_f h (show ¬ (4 ≤ jg_wr x2) from hc)
      refine jg_A (pc' := 56) rfl rfl (fun _ _ _ => rfl) ?_
      refine jg_getO (pc' := 59) (k := 6) rfl h0 (by decide) rfl rfl ?_
      refine jg_A (pc' := 60) rfl rfl (fun _ _ _ => rfl) ?_
      refine jg_A (pc' := 61) rfl rfl (fun _ _ _ => rfl) ?_
      refine jg_imul (pc' := 62) rfl rfl ?_
      refine jg_A (pc' := 63) rfl rfl (fun _ _ _ => rfl) ?_
      refine jg_iadd (pc' := 64) rfl rfl ?_
      obtain ⟨hg, h⟩ := h
      refine jg_iald (pc' := 65) rfl (jg_sX0_10 h0) hg rfl ?_
      refine jg_A (pc' := 66) rfl rfl (fun _ _ _ => rfl) ?_
      refine jg_getO (pc' := 69) (k := 6) rfl h0 (by decide) rfl rfl ?_
      refine jg_A (pc' := 70) rfl rfl (fun _ _ _ => rfl) ?_
      refine jg_getI (pc' := 73) (bi := 2) rfl h0 (by decide) (Or.inl rfl) rfl rfl ?_
      refine jg_A (pc' := 74) rfl rfl (fun _ _ _ => rfl) ?_
      refine jg_imul (pc' := 75) rfl rfl ?_
      refine jg_A (pc' := 76) rfl rfl (fun _ _ _ => rfl) ?_
      refine jg_iadd (pc' := 77) rfl rfl ?_
      obtain ⟨hg, h⟩ := h
      refine jg_iald (pc' := 78) rfl (jg_sX0_10 h0) hg rfl ?_
      refine jg_ceq (pc' := 81) rfl rfl (fun hc => ?_) (fun hc => ?_)
      · have h := jg_t h (show jg_wr (σ.1 (a0 + 6) (jg_wr ((x1 * 4) + x2))) = jg_wr (σ.1 (a0 + 6) (jg_wr (((σ.1 a0 2) * 4) + x2))) from hc)
        refine jg_iinc (pc' := 86) (ls' := [.ref a0, .int (.ofInt x1), .int (.ofInt (x2 + 1))]) rfl rfl rfl rfl ?_
        refine jg_goto rfl ?_
        exact h
      · have h := jg_f h (show ¬ (jg_wr (σ.1 (a0 + 6) (jg_wr ((x1 * 4) + x2))) = jg_wr (σ.1 (a0 + 6) (jg_wr (((σ.1 a0 2) * 4) + x2)))) from hc)
        refine jg_A (pc' := 82) rfl rfl (fun _ _ _ => rfl) ?_
        exact jg_zret rfl rfl (by decide) h
set_option maxRecDepth 100000 in
set_option maxHeartbeats 4000000 in
theorem jb_X0_kindOf_0 {w : Nat} {a0 : Nat} {x1 : Int} {σ : jg_M} {Q : Int → jg_M → Prop} (h0 : jg_sh a0 = (0, 0)) (h : jg_CI w 0 mm_X0_hasRule [.ref a0, .int (.ofInt x1)] σ (fun (z102 : Int) (m101 : jg_M) => (if jg_wr z102 = 0 then Q (-1) m101 else ((0 : Int) ≤ jg_wr x1 ∧ jg_wr x1 < (12 : Int)) ∧ Q (m101.1 (a0 + 4) (jg_wr x1)) m101))) : jg_CI w 1 mm_X0_kindOf [.ref a0, .int (.ofInt x1)] σ Q := by
  show jg_G w 1 mm_X0_kindOf 0 [.ref a0, .int (.ofInt x1)] [] σ (jg_QI Q)
  refine jg_A (pc' := 1) rfl rfl (fun _ _ _ => rfl) ?_
  refine jg_A (pc' := 2) rfl rfl (fun _ _ _ => rfl) ?_
  refine jg_calX (M1 := mm_X0_hasRule) (hy := 0) (pc' := 5) rfl jm_X0_hasRule (by decide) rfl h0 (by decide) ⟨Nat.le_of_ble_eq_true rfl, rfl⟩ (Nat.le_of_ble_eq_true rfl) rfl h (jg_kI (fun z102 m101 h => ?_))
  refine jg_ifeq (pc' := 8) rfl rfl (fun hc => ?_) (fun hc => ?_)
  · have h := jg_t h (show jg_wr z102 = 0 from hc)
    refine jg_A (pc' := 18) rfl rfl (fun _ _ _ => rfl) ?_
    exact jg_iret rfl rfl h
  · have h := jg_f h (show ¬ (jg_wr z102 = 0) from hc)
    refine jg_A (pc' := 9) rfl rfl (fun _ _ _ => rfl) ?_
    refine jg_getO (pc' := 12) (k := 4) rfl h0 (by decide) rfl rfl ?_
    refine jg_A (pc' := 13) rfl rfl (fun _ _ _ => rfl) ?_
    obtain ⟨hg, h⟩ := h
    refine jg_iald (pc' := 14) rfl (jg_sX0_8 h0) hg rfl ?_
    refine jg_goto rfl ?_
    exact jg_iret rfl rfl h
set_option maxRecDepth 100000 in
set_option maxHeartbeats 4000000 in
theorem jb_X0_lengthOf_0 {w : Nat} {a0 : Nat} {x1 : Int} {σ : jg_M} {Q : Int → jg_M → Prop} (h0 : jg_sh a0 = (0, 0)) (h : (if jg_wr x1 = jg_wr (σ.1 a0 2) then Q 1 σ else (if jg_wr x1 < 0 then Q 0 σ else (if jg_wr (σ.1 a0 2) ≤ jg_wr x1 then Q 0 σ else (if 12 ≤ jg_wr x1 then Q 0 σ else ((0 : Int) ≤ jg_wr x1 ∧ jg_wr x1 < (12 : Int)) ∧ Q (σ.1 (a0 + 5) (jg_wr x1)) σ))))) : jg_CI w 0 mm_X0_lengthOf [.ref a0, .int (.ofInt x1)] σ Q := by
  show jg_G w 0 mm_X0_lengthOf 0 [.ref a0, .int (.ofInt x1)] [] σ (jg_QI Q)
  refine jg_A (pc' := 1) rfl rfl (fun _ _ _ => rfl) ?_
  refine jg_A (pc' := 2) rfl rfl (fun _ _ _ => rfl) ?_
  refine jg_getI (pc' := 5) (bi := 2) rfl h0 (by decide) (Or.inl rfl) rfl rfl ?_
  refine jg_cne (pc' := 8) rfl rfl (fun hc => ?_) (fun hc => ?_)
  · have h := jg_t h (show jg_wr x1 = jg_wr (σ.1 a0 2) from hc)
    refine jg_A (pc' := 9) rfl rfl (fun _ _ _ => rfl) ?_
    exact jg_iret rfl rfl h
  · have h := jg_f h (show ¬ (jg_wr x1 = jg_wr (σ.1 a0 2)) from hc)
    refine jg_A (pc' := 11) rfl rfl (fun _ _ _ => rfl) ?_
    refine jg_iflt (pc' := 14) rfl rfl (fun hc => ?_) (fun hc => ?_)
    · have h := jg_t h (show jg_wr x1 < 0 from hc)
      refine jg_A (pc' := 38) rfl rfl (fun _ _ _ => rfl) ?_
      exact jg_iret rfl rfl h
    · have h := jg_f h (show ¬ (jg_wr x1 < 0) from hc)
      refine jg_A (pc' := 15) rfl rfl (fun _ _ _ => rfl) ?_
      refine jg_A (pc' := 16) rfl rfl (fun _ _ _ => rfl) ?_
      refine jg_getI (pc' := 19) (bi := 2) rfl h0 (by decide) (Or.inl rfl) rfl rfl ?_
      refine jg_cge (pc' := 22) rfl rfl (fun hc => ?_) (fun hc => ?_)
      · have h := jg_t h (show jg_wr (σ.1 a0 2) ≤ jg_wr x1 from hc)
        refine jg_A (pc' := 38) rfl rfl (fun _ _ _ => rfl) ?_
        exact jg_iret rfl rfl h
      · have h := jg_f h (show ¬ (jg_wr (σ.1 a0 2) ≤ jg_wr x1) from hc)
        refine jg_A (pc' := 23) rfl rfl (fun _ _ _ => rfl) ?_
        refine jg_A (pc' := 25) rfl rfl (fun _ _ _ => rfl) ?_
        refine jg_cge (pc' := 28) rfl rfl (fun hc => ?_) (fun hc => ?_)
        · have h := jg_t h (show 12 ≤ jg_wr x1 from hc)
          refine jg_A (pc' := 38) rfl rfl (fun _ _ _ => rfl) ?_
          exact jg_iret rfl rfl h
        · have h := jg_f h (show ¬ (12 ≤ jg_wr x1) from hc)
          refine jg_A (pc' := 29) rfl rfl (fun _ _ _ => rfl) ?_
          refine jg_getO (pc' := 32) (k := 5) rfl h0 (by decide) rfl rfl ?_
          refine jg_A (pc' := 33) rfl rfl (fun _ _ _ => rfl) ?_
          obtain ⟨hg, h⟩ := h
          refine jg_iald (pc' := 34) rfl (jg_sX0_9 h0) hg rfl ?_
          refine jg_goto rfl ?_
          exact jg_iret rfl rfl h
set_option maxRecDepth 100000 in
set_option maxHeartbeats 4000000 in
theorem jb_X0_symbolAt_0 {w : Nat} {a0 : Nat} {x1 : Int} {x2 : Int} {σ : jg_M} {Q : Int → jg_M → Prop} (h0 : jg_sh a0 = (0, 0)) (h : (if jg_wr x2 < 0 then Q (-2) σ else jg_CI w 0 mm_X0_lengthOf [.ref a0, .int (.ofInt x1)] σ (fun (z102 : Int) (m101 : jg_M) => (if jg_wr z102 ≤ jg_wr x2 then Q (-2) m101 else (if jg_wr x2 < 4 then (if jg_wr x1 = jg_wr (m101.1 a0 2) then Q (10 + (m101.1 a0 3)) m101 else (if jg_wr x1 < 0 then Q (-2) m101 else (if 12 ≤ jg_wr x1 then Q (-2) m101 else ((0 : Int) ≤ jg_wr ((x1 * 4) + x2) ∧ jg_wr ((x1 * 4) + x2) < (48 : Int)) ∧ Q (m101.1 (a0 + 6) (jg_wr ((x1 * 4) + x2))) m101))) else Q (-2) m101))))) : jg_CI w 1 mm_X0_symbolAt [.ref a0, .int (.ofInt x1), .int (.ofInt x2)] σ Q := by
  show jg_G w 1 mm_X0_symbolAt 0 [.ref a0, .int (.ofInt x1), .int (.ofInt x2)] [] σ (jg_QI Q)
  refine jg_A (pc' := 1) rfl rfl (fun _ _ _ => rfl) ?_
  refine jg_iflt (pc' := 4) rfl rfl (fun hc => ?_) (fun hc => ?_)
  · have h := jg_t h (show jg_wr x2 < 0 from hc)
    refine jg_A (pc' := 20) rfl rfl (fun _ _ _ => rfl) ?_
    exact jg_iret rfl rfl h
  · have h := jg_f h (show ¬ (jg_wr x2 < 0) from hc)
    refine jg_A (pc' := 5) rfl rfl (fun _ _ _ => rfl) ?_
    refine jg_A (pc' := 6) rfl rfl (fun _ _ _ => rfl) ?_
    refine jg_A (pc' := 7) rfl rfl (fun _ _ _ => rfl) ?_
    refine jg_calX (M1 := mm_X0_lengthOf) (hy := 0) (pc' := 10) rfl jm_X0_lengthOf (by decide) rfl h0 (by decide) ⟨Nat.le_of_ble_eq_true rfl, rfl⟩ (Nat.le_of_ble_eq_true rfl) rfl h (jg_kI (fun z102 m101 h => ?_))
    refine jg_cge (pc' := 13) rfl rfl (fun hc => ?_) (fun hc => ?_)
    · have h := jg_t h (show jg_wr z102 ≤ jg_wr x2 from hc)
      refine jg_A (pc' := 20) rfl rfl (fun _ _ _ => rfl) ?_
      exact jg_iret rfl rfl h
    · have h := jg_f h (show ¬ (jg_wr z102 ≤ jg_wr x2) from hc)
      refine jg_A (pc' := 14) rfl rfl (fun _ _ _ => rfl) ?_
      refine jg_A (pc' := 15) rfl rfl (fun _ _ _ => rfl) ?_
      refine jg_clt (pc' := 18) rfl rfl (fun hc => ?_) (fun hc => ?_)
      · have h := jg_t h (show jg_wr x2 < 4 from hc)
        refine jg_A (pc' := 22) rfl rfl (fun _ _ _ => rfl) ?_
        refine jg_A (pc' := 23) rfl rfl (fun _ _ _ => rfl) ?_
        refine jg_getI (pc' := 26) (bi := 2) rfl h0 (by decide) (Or.inl rfl) rfl rfl ?_
        refine jg_cne (pc' := 29) rfl rfl (fun hc => ?_) (fun hc => ?_)
        · have h := jg_t h (show jg_wr x1 = jg_wr (m101.1 a0 2) from hc)
          refine jg_A (pc' := 31) rfl rfl (fun _ _ _ => rfl) ?_
          refine jg_A (pc' := 32) rfl rfl (fun _ _ _ => rfl) ?_
          refine jg_getI (pc' := 35) (bi := 3) rfl h0 (by decide) (Or.inl rfl) rfl rfl ?_
          refine jg_iadd (pc' := 36) rfl rfl ?_
          exact jg_iret rfl rfl h
        · have h := jg_f h (show ¬ (jg_wr x1 = jg_wr (m101.1 a0 2)) from hc)
          refine jg_A (pc' := 38) rfl rfl (fun _ _ _ => rfl) ?_
          refine jg_iflt (pc' := 41) rfl rfl (fun hc => ?_) (fun hc => ?_)
          · have h := jg_t h (show jg_wr x1 < 0 from hc)
            refine jg_A (pc' := 62) rfl rfl (fun _ _ _ => rfl) ?_
            exact jg_iret rfl rfl h
          · have h := jg_f h (show ¬ (jg_wr x1 < 0) from hc)
            refine jg_A (pc' := 42) rfl rfl (fun _ _ _ => rfl) ?_
            refine jg_A (pc' := 44) rfl rfl (fun _ _ _ => rfl) ?_
            refine jg_cge (pc' := 47) rfl rfl (fun hc => ?_) (fun hc => ?_)
            · have h := jg_t h (show 12 ≤ jg_wr x1 from hc)
              refine jg_A (pc' := 62) rfl rfl (fun _ _ _ => rfl) ?_
              exact jg_iret rfl rfl h
            · have h := jg_f h (show ¬ (12 ≤ jg_wr x1) from hc)
              refine jg_A (pc' := 48) rfl rfl (fun _ _ _ => rfl) ?_
              refine jg_getO (pc' := 51) (k := 6) rfl h0 (by decide) rfl rfl ?_
              refine jg_A (pc' := 52) rfl rfl (fun _ _ _ => rfl) ?_
              refine jg_A (pc' := 53) rfl rfl (fun _ _ _ => rfl) ?_
              refine jg_imul (pc' := 54) rfl rfl ?_
              refine jg_A (pc' := 55) rfl rfl (fun _ _ _ => rfl) ?_
              refine jg_iadd (pc' := 56) rfl rfl ?_
              obtain ⟨hg, h⟩ := h
              refine jg_iald (pc' := 57) rfl (jg_sX0_10 h0) hg rfl ?_
              refine jg_goto rfl ?_
              exact jg_iret rfl rfl h
      · have h := jg_f h (show ¬ (jg_wr x2 < 4) from hc)
        refine jg_A (pc' := 20) rfl rfl (fun _ _ _ => rfl) ?_
        exact jg_iret rfl rfl h
set_option maxRecDepth 100000 in
set_option maxHeartbeats 4000000 in
theorem jb_X0_itemAtEnd_0 {w : Nat} {a0 : Nat} {x1 : Int} {σ : jg_M} {Q : Int → jg_M → Prop} (h0 : jg_sh a0 = (0, 0)) (h : jg_CI w 0 mm_X0_lengthOf [.ref a0, .int (.ofInt x1)] σ (fun (z102 : Int) (m101 : jg_M) => Q ((x1 * 5) + z102) m101)) : jg_CI w 1 mm_X0_itemAtEnd [.ref a0, .int (.ofInt x1)] σ Q := by
  show jg_G w 1 mm_X0_itemAtEnd 0 [.ref a0, .int (.ofInt x1)] [] σ (jg_QI Q)
  refine jg_A (pc' := 1) rfl rfl (fun _ _ _ => rfl) ?_
  refine jg_A (pc' := 2) rfl rfl (fun _ _ _ => rfl) ?_
  refine jg_imul (pc' := 3) rfl rfl ?_
  refine jg_A (pc' := 4) rfl rfl (fun _ _ _ => rfl) ?_
  refine jg_A (pc' := 5) rfl rfl (fun _ _ _ => rfl) ?_
  refine jg_calX (M1 := mm_X0_lengthOf) (hy := 0) (pc' := 8) rfl jm_X0_lengthOf (by decide) rfl h0 (by decide) ⟨Nat.le_of_ble_eq_true rfl, rfl⟩ (Nat.le_of_ble_eq_true rfl) rfl h (jg_kI (fun z102 m101 h => ?_))
  refine jg_iadd (pc' := 9) rfl rfl ?_
  exact jg_iret rfl rfl h
set_option maxRecDepth 100000 in
set_option maxHeartbeats 4000000 in
theorem jb_X0_rankOf_0 {w : Nat} {a0 : Nat} {x1 : Int} {σ : jg_M} {Q : Int → jg_M → Prop} (h0 : jg_sh a0 = (0, 0)) (h : jg_CI w 0 mm_X0_lengthOf [.ref a0, .int (.ofInt x1)] σ (fun (z102 : Int) (m101 : jg_M) => ∀ t103 : Int, t103 = (z102 - 1) → jg_GI w 2 mm_X0_rankOf 8 [.ref a0, .int (.ofInt x1), .int (.ofInt t103), mj_U] m101 Q)) : jg_CI w 2 mm_X0_rankOf [.ref a0, .int (.ofInt x1)] σ Q := by
  show jg_G w 2 mm_X0_rankOf 0 [.ref a0, .int (.ofInt x1), mj_U, mj_U] [] σ (jg_QI Q)
  refine jg_A (pc' := 1) rfl rfl (fun _ _ _ => rfl) ?_
  refine jg_A (pc' := 2) rfl rfl (fun _ _ _ => rfl) ?_
  refine jg_calX (M1 := mm_X0_lengthOf) (hy := 0) (pc' := 5) rfl jm_X0_lengthOf (by decide) rfl h0 (by decide) ⟨Nat.le_of_ble_eq_true rfl, rfl⟩ (Nat.le_of_ble_eq_true rfl) rfl h (jg_kI (fun z102 m101 h => ?_))
  refine jg_A (pc' := 6) rfl rfl (fun _ _ _ => rfl) ?_
  refine jg_isub (pc' := 7) rfl rfl ?_
  refine jg_nm (F := fun t103 => jg_G w 2 mm_X0_rankOf 7 [.ref a0, .int (.ofInt x1), mj_U, mj_U] [.int (.ofInt t103)] m101 (jg_QI Q)) (z102 - 1) (fun t103 ht103 => ?_)
  have h := h t103 ht103
  refine jg_A (pc' := 8) (ls' := [.ref a0, .int (.ofInt x1), .int (.ofInt t103), mj_U]) rfl rfl (fun _ _ _ => rfl) ?_
  exact h
set_option maxRecDepth 100000 in
set_option maxHeartbeats 4000000 in
theorem jb_X0_rankOf_8 {w : Nat} {a0 : Nat} {x1 : Int} {x2 : Int} {u3 : Value} {σ : jg_M} {Q : Int → jg_M → Prop} (h0 : jg_sh a0 = (0, 0)) (h : (if jg_wr x2 < 0 then Q 0 σ else jg_CI w 1 mm_X0_symbolAt [.ref a0, .int (.ofInt x1), .int (.ofInt x2)] σ (fun (z102 : Int) (m101 : jg_M) => jg_CI w 0 mm_X0_hasToken [.ref a0, .int (.ofInt z102)] m101 (fun (z104 : Int) (m103 : jg_M) => (if jg_wr z104 = 0 then jg_GI w 2 mm_X0_rankOf 8 [.ref a0, .int (.ofInt x1), .int (.ofInt (x2 + (-1))), .int (.ofInt z102)] m103 Q else ((0 : Int) ≤ jg_wr z102 ∧ jg_wr z102 < (7 : Int)) ∧ Q (m103.1 (a0 + 2) (jg_wr z102)) m103))))) : jg_GI w 2 mm_X0_rankOf 8 [.ref a0, .int (.ofInt x1), .int (.ofInt x2), u3] σ Q := by
  show jg_G w 2 mm_X0_rankOf 8 [.ref a0, .int (.ofInt x1), .int (.ofInt x2), u3] [] σ (jg_QI Q)
  refine jg_A (pc' := 9) rfl rfl (fun _ _ _ => rfl) ?_
  refine jg_iflt (pc' := 12) rfl rfl (fun hc => ?_) (fun hc => ?_)
  · have h := jg_t h (show jg_wr x2 < 0 from hc)
    refine jg_A (pc' := 41) rfl rfl (fun _ _ _ => rfl) ?_
    exact jg_iret rfl rfl h
  · have h := jg_f h (show ¬ (jg_wr x2 < 0) from hc)
    refine jg_A (pc' := 13) rfl rfl (fun _ _ _ => rfl) ?_
    refine jg_A (pc' := 14) rfl rfl (fun _ _ _ => rfl) ?_
    refine jg_A (pc' := 15) rfl rfl (fun _ _ _ => rfl) ?_
    refine jg_calX (M1 := mm_X0_symbolAt) (hy := 1) (pc' := 18) rfl jm_X0_symbolAt (by decide) rfl h0 (by decide) ⟨Nat.le_of_ble_eq_true rfl, rfl⟩ (Nat.le_of_ble_eq_true rfl) rfl h (jg_kI (fun z102 m101 h => ?_))
    refine jg_A (pc' := 19) (ls' := [.ref a0, .int (.ofInt x1), .int (.ofInt x2), .int (.ofInt z102)]) rfl rfl (fun _ _ _ => rfl) ?_
    refine jg_A (pc' := 20) rfl rfl (fun _ _ _ => rfl) ?_
    refine jg_A (pc' := 21) rfl rfl (fun _ _ _ => rfl) ?_
    refine jg_calX (M1 := mm_X0_hasToken) (hy := 0) (pc' := 24) rfl jm_X0_hasToken (by decide) rfl h0 (by decide) ⟨Nat.le_of_ble_eq_true rfl, rfl⟩ (Nat.le_of_ble_eq_true rfl) rfl h (jg_kI (fun z104 m103 h => ?_))
    refine jg_ifeq (pc' := 27) rfl rfl (fun hc => ?_) (fun hc => ?_)
    · have h := jg_t h (show jg_wr z104 = 0 from hc)
      refine jg_iinc (pc' := 37) (ls' := [.ref a0, .int (.ofInt x1), .int (.ofInt (x2 + (-1))), .int (.ofInt z102)]) rfl rfl rfl rfl ?_
      refine jg_goto rfl ?_
      exact h
    · have h := jg_f h (show ¬ (jg_wr z104 = 0) from hc)
      refine jg_A (pc' := 28) rfl rfl (fun _ _ _ => rfl) ?_
      refine jg_getO (pc' := 31) (k := 2) rfl h0 (by decide) rfl rfl ?_
      refine jg_A (pc' := 32) rfl rfl (fun _ _ _ => rfl) ?_
      obtain ⟨hg, h⟩ := h
      refine jg_iald (pc' := 33) rfl (jg_sX0_6 h0) hg rfl ?_
      exact jg_iret rfl rfl h
set_option maxRecDepth 100000 in
set_option maxHeartbeats 4000000 in
theorem jb_X0_rankOfToken_0 {w : Nat} {a0 : Nat} {x1 : Int} {σ : jg_M} {Q : Int → jg_M → Prop} (h0 : jg_sh a0 = (0, 0)) (h : jg_CI w 0 mm_X0_hasToken [.ref a0, .int (.ofInt x1)] σ (fun (z102 : Int) (m101 : jg_M) => (if jg_wr z102 = 0 then Q 0 m101 else ((0 : Int) ≤ jg_wr x1 ∧ jg_wr x1 < (7 : Int)) ∧ Q (m101.1 (a0 + 2) (jg_wr x1)) m101))) : jg_CI w 1 mm_X0_rankOfToken [.ref a0, .int (.ofInt x1)] σ Q := by
  show jg_G w 1 mm_X0_rankOfToken 0 [.ref a0, .int (.ofInt x1)] [] σ (jg_QI Q)
  refine jg_A (pc' := 1) rfl rfl (fun _ _ _ => rfl) ?_
  refine jg_A (pc' := 2) rfl rfl (fun _ _ _ => rfl) ?_
  refine jg_calX (M1 := mm_X0_hasToken) (hy := 0) (pc' := 5) rfl jm_X0_hasToken (by decide) rfl h0 (by decide) ⟨Nat.le_of_ble_eq_true rfl, rfl⟩ (Nat.le_of_ble_eq_true rfl) rfl h (jg_kI (fun z102 m101 h => ?_))
  refine jg_ifeq (pc' := 8) rfl rfl (fun hc => ?_) (fun hc => ?_)
  · have h := jg_t h (show jg_wr z102 = 0 from hc)
    refine jg_A (pc' := 18) rfl rfl (fun _ _ _ => rfl) ?_
    exact jg_iret rfl rfl h
  · have h := jg_f h (show ¬ (jg_wr z102 = 0) from hc)
    refine jg_A (pc' := 9) rfl rfl (fun _ _ _ => rfl) ?_
    refine jg_getO (pc' := 12) (k := 2) rfl h0 (by decide) rfl rfl ?_
    refine jg_A (pc' := 13) rfl rfl (fun _ _ _ => rfl) ?_
    obtain ⟨hg, h⟩ := h
    refine jg_iald (pc' := 14) rfl (jg_sX0_6 h0) hg rfl ?_
    refine jg_goto rfl ?_
    exact jg_iret rfl rfl h
set_option maxRecDepth 100000 in
set_option maxHeartbeats 4000000 in
theorem jb_X0_sideOfToken_0 {w : Nat} {a0 : Nat} {x1 : Int} {σ : jg_M} {Q : Int → jg_M → Prop} (h0 : jg_sh a0 = (0, 0)) (h : jg_CI w 0 mm_X0_hasToken [.ref a0, .int (.ofInt x1)] σ (fun (z102 : Int) (m101 : jg_M) => (if jg_wr z102 = 0 then Q 0 m101 else ((0 : Int) ≤ jg_wr x1 ∧ jg_wr x1 < (7 : Int)) ∧ Q (m101.1 (a0 + 3) (jg_wr x1)) m101))) : jg_CI w 1 mm_X0_sideOfToken [.ref a0, .int (.ofInt x1)] σ Q := by
  show jg_G w 1 mm_X0_sideOfToken 0 [.ref a0, .int (.ofInt x1)] [] σ (jg_QI Q)
  refine jg_A (pc' := 1) rfl rfl (fun _ _ _ => rfl) ?_
  refine jg_A (pc' := 2) rfl rfl (fun _ _ _ => rfl) ?_
  refine jg_calX (M1 := mm_X0_hasToken) (hy := 0) (pc' := 5) rfl jm_X0_hasToken (by decide) rfl h0 (by decide) ⟨Nat.le_of_ble_eq_true rfl, rfl⟩ (Nat.le_of_ble_eq_true rfl) rfl h (jg_kI (fun z102 m101 h => ?_))
  refine jg_ifeq (pc' := 8) rfl rfl (fun hc => ?_) (fun hc => ?_)
  · have h := jg_t h (show jg_wr z102 = 0 from hc)
    refine jg_A (pc' := 18) rfl rfl (fun _ _ _ => rfl) ?_
    exact jg_iret rfl rfl h
  · have h := jg_f h (show ¬ (jg_wr z102 = 0) from hc)
    refine jg_A (pc' := 9) rfl rfl (fun _ _ _ => rfl) ?_
    refine jg_getO (pc' := 12) (k := 3) rfl h0 (by decide) rfl rfl ?_
    refine jg_A (pc' := 13) rfl rfl (fun _ _ _ => rfl) ?_
    obtain ⟨hg, h⟩ := h
    refine jg_iald (pc' := 14) rfl (jg_sX0_7 h0) hg rfl ?_
    refine jg_goto rfl ?_
    exact jg_iret rfl rfl h
set_option maxRecDepth 100000 in
set_option maxHeartbeats 4000000 in
theorem jb_X0_rulesOf_0 {w : Nat} {a0 : Nat} {x1 : Int} {σ : jg_M} {Q : Int → jg_M → Prop} (h0 : jg_sh a0 = (0, 0)) (h : jg_GI w 2 mm_X0_rulesOf 4 [.ref a0, .int (.ofInt x1), .int (.ofInt 0), .int (.ofInt 0)] σ Q) : jg_CI w 2 mm_X0_rulesOf [.ref a0, .int (.ofInt x1)] σ Q := by
  show jg_G w 2 mm_X0_rulesOf 0 [.ref a0, .int (.ofInt x1), mj_U, mj_U] [] σ (jg_QI Q)
  refine jg_A (pc' := 1) rfl rfl (fun _ _ _ => rfl) ?_
  refine jg_A (pc' := 2) (ls' := [.ref a0, .int (.ofInt x1), .int (.ofInt 0), mj_U]) rfl rfl (fun _ _ _ => rfl) ?_
  refine jg_A (pc' := 3) rfl rfl (fun _ _ _ => rfl) ?_
  refine jg_A (pc' := 4) (ls' := [.ref a0, .int (.ofInt x1), .int (.ofInt 0), .int (.ofInt 0)]) rfl rfl (fun _ _ _ => rfl) ?_
  exact h
set_option maxRecDepth 100000 in
set_option maxHeartbeats 4000000 in
theorem jb_X0_rulesOf_4 {w : Nat} {a0 : Nat} {x1 : Int} {x2 : Int} {x3 : Int} {σ : jg_M} {Q : Int → jg_M → Prop} (h0 : jg_sh a0 = (0, 0)) (h : (if jg_wr (σ.1 a0 2) ≤ jg_wr x3 then Q x2 σ else jg_CI w 1 mm_X0_kindOf [.ref a0, .int (.ofInt x3)] σ (fun (z102 : Int) (m101 : jg_M) => (if jg_wr z102 = jg_wr x1 then jg_GI w 2 mm_X0_rulesOf 4 [.ref a0, .int (.ofInt x1), .int (.ofInt (x2 + 1)), .int (.ofInt (x3 + 1))] m101 Q else jg_GI w 2 mm_X0_rulesOf 4 [.ref a0, .int (.ofInt x1), .int (.ofInt x2), .int (.ofInt (x3 + 1))] m101 Q)))) : jg_GI w 2 mm_X0_rulesOf 4 [.ref a0, .int (.ofInt x1), .int (.ofInt x2), .int (.ofInt x3)] σ Q := by
  show jg_G w 2 mm_X0_rulesOf 4 [.ref a0, .int (.ofInt x1), .int (.ofInt x2), .int (.ofInt x3)] [] σ (jg_QI Q)
  refine jg_A (pc' := 5) rfl rfl (fun _ _ _ => rfl) ?_
  refine jg_A (pc' := 6) rfl rfl (fun _ _ _ => rfl) ?_
  refine jg_getI (pc' := 9) (bi := 2) rfl h0 (by decide) (Or.inl rfl) rfl rfl ?_
  refine jg_cge (pc' := 12) rfl rfl (fun hc => ?_) (fun hc => ?_)
  · have h := jg_t h (show jg_wr (σ.1 a0 2) ≤ jg_wr x3 from hc)
    refine jg_A (pc' := 31) rfl rfl (fun _ _ _ => rfl) ?_
    exact jg_iret rfl rfl h
  · have h := jg_f h (show ¬ (jg_wr (σ.1 a0 2) ≤ jg_wr x3) from hc)
    refine jg_A (pc' := 13) rfl rfl (fun _ _ _ => rfl) ?_
    refine jg_A (pc' := 14) rfl rfl (fun _ _ _ => rfl) ?_
    refine jg_calX (M1 := mm_X0_kindOf) (hy := 1) (pc' := 17) rfl jm_X0_kindOf (by decide) rfl h0 (by decide) ⟨Nat.le_of_ble_eq_true rfl, rfl⟩ (Nat.le_of_ble_eq_true rfl) rfl h (jg_kI (fun z102 m101 h => ?_))
    refine jg_A (pc' := 18) rfl rfl (fun _ _ _ => rfl) ?_
    refine jg_cne (pc' := 21) rfl rfl (fun hc => ?_) (fun hc => ?_)
    · have h := jg_t h (show jg_wr z102 = jg_wr x1 from hc)
      refine jg_iinc (pc' := 24) (ls' := [.ref a0, .int (.ofInt x1), .int (.ofInt (x2 + 1)), .int (.ofInt x3)]) rfl rfl rfl rfl ?_
      refine jg_iinc (pc' := 27) (ls' := [.ref a0, .int (.ofInt x1), .int (.ofInt (x2 + 1)), .int (.ofInt (x3 + 1))]) rfl rfl rfl rfl ?_
      refine jg_goto rfl ?_
      exact h
    · have h := jg_f h (show ¬ (jg_wr z102 = jg_wr x1) from hc)
      refine jg_iinc (pc' := 27) (ls' := [.ref a0, .int (.ofInt x1), .int (.ofInt x2), .int (.ofInt (x3 + 1))]) rfl rfl rfl rfl ?_
      refine jg_goto rfl ?_
      exact h
set_option maxRecDepth 100000 in
set_option maxHeartbeats 4000000 in
theorem jb_X0_isEmpty_0 {w : Nat} {a0 : Nat} {x1 : Int} {σ : jg_M} {Q : Int → jg_M → Prop} (h0 : jg_sh a0 = (0, 0)) (h : (if jg_wr x1 < 0 then Q 0 σ else (if 5 ≤ jg_wr x1 then Q 0 σ else (if jg_wr (jg_and (jg_ushr (σ.1 a0 11) x1) 1) = 0 then Q 0 σ else Q 1 σ)))) : jg_CI w 0 mm_X0_isEmpty [.ref a0, .int (.ofInt x1)] σ Q := by
  show jg_G w 0 mm_X0_isEmpty 0 [.ref a0, .int (.ofInt x1)] [] σ (jg_QI Q)
  refine jg_A (pc' := 1) rfl rfl (fun _ _ _ => rfl) ?_
  refine jg_iflt (pc' := 4) rfl rfl (fun hc => ?_) (fun hc => ?_)
  · have h := jg_t h (show jg_wr x1 < 0 from hc)
    refine jg_A (pc' := 25) rfl rfl (fun _ _ _ => rfl) ?_
    exact jg_zret rfl rfl (by decide) h
  · have h := jg_f h (show ¬ (jg_wr x1 < 0) from hc)
    refine jg_A (pc' := 5) rfl rfl (fun _ _ _ => rfl) ?_
    refine jg_A (pc' := 6) rfl rfl (fun _ _ _ => rfl) ?_
    refine jg_cge (pc' := 9) rfl rfl (fun hc => ?_) (fun hc => ?_)
    · have h := jg_t h (show 5 ≤ jg_wr x1 from hc)
      refine jg_A (pc' := 25) rfl rfl (fun _ _ _ => rfl) ?_
      exact jg_zret rfl rfl (by decide) h
    · have h := jg_f h (show ¬ (5 ≤ jg_wr x1) from hc)
      refine jg_A (pc' := 10) rfl rfl (fun _ _ _ => rfl) ?_
      refine jg_getI (pc' := 13) (bi := 11) rfl h0 (by decide) (Or.inl rfl) rfl rfl ?_
      refine jg_A (pc' := 14) rfl rfl (fun _ _ _ => rfl) ?_
      refine jg_iushr (pc' := 15) rfl rfl ?_
      refine jg_A (pc' := 16) rfl rfl (fun _ _ _ => rfl) ?_
      refine jg_iand (pc' := 17) rfl rfl ?_
      refine jg_ifeq (pc' := 20) rfl rfl (fun hc => ?_) (fun hc => ?_)
      · have h := jg_t h (show jg_wr (jg_and (jg_ushr (σ.1 a0 11) x1) 1) = 0 from hc)
        refine jg_A (pc' := 25) rfl rfl (fun _ _ _ => rfl) ?_
        exact jg_zret rfl rfl (by decide) h
      · have h := jg_f h (show ¬ (jg_wr (jg_and (jg_ushr (σ.1 a0 11) x1) 1) = 0) from hc)
        refine jg_A (pc' := 21) rfl rfl (fun _ _ _ => rfl) ?_
        refine jg_goto rfl ?_
        exact jg_zret rfl rfl (by decide) h
set_option maxRecDepth 100000 in
set_option maxHeartbeats 4000000 in
theorem jb_X0_followOf_0 {w : Nat} {a0 : Nat} {x1 : Int} {σ : jg_M} {Q : Int → jg_M → Prop} (h0 : jg_sh a0 = (0, 0)) (h : jg_CI w 0 mm_X0_hasKind [.ref a0, .int (.ofInt x1)] σ (fun (z102 : Int) (m101 : jg_M) => (if jg_wr z102 = 0 then Q 0 m101 else ((0 : Int) ≤ jg_wr x1 ∧ jg_wr x1 < (5 : Int)) ∧ Q (m101.1 (a0 + 8) (jg_wr x1)) m101))) : jg_CI w 1 mm_X0_followOf [.ref a0, .int (.ofInt x1)] σ Q := by
  show jg_G w 1 mm_X0_followOf 0 [.ref a0, .int (.ofInt x1)] [] σ (jg_QI Q)
  refine jg_A (pc' := 1) rfl rfl (fun _ _ _ => rfl) ?_
  refine jg_A (pc' := 2) rfl rfl (fun _ _ _ => rfl) ?_
  refine jg_calX (M1 := mm_X0_hasKind) (hy := 0) (pc' := 5) rfl jm_X0_hasKind (by decide) rfl h0 (by decide) ⟨Nat.le_of_ble_eq_true rfl, rfl⟩ (Nat.le_of_ble_eq_true rfl) rfl h (jg_kI (fun z102 m101 h => ?_))
  refine jg_ifeq (pc' := 8) rfl rfl (fun hc => ?_) (fun hc => ?_)
  · have h := jg_t h (show jg_wr z102 = 0 from hc)
    refine jg_A (pc' := 18) rfl rfl (fun _ _ _ => rfl) ?_
    exact jg_iret rfl rfl h
  · have h := jg_f h (show ¬ (jg_wr z102 = 0) from hc)
    refine jg_A (pc' := 9) rfl rfl (fun _ _ _ => rfl) ?_
    refine jg_getO (pc' := 12) (k := 8) rfl h0 (by decide) rfl rfl ?_
    refine jg_A (pc' := 13) rfl rfl (fun _ _ _ => rfl) ?_
    obtain ⟨hg, h⟩ := h
    refine jg_iald (pc' := 14) rfl (jg_sX0_13 h0) hg rfl ?_
    refine jg_goto rfl ?_
    exact jg_iret rfl rfl h
set_option maxRecDepth 100000 in
set_option maxHeartbeats 4000000 in
theorem jb_X0_isEmptyFrom_0 {w : Nat} {a0 : Nat} {x1 : Int} {x2 : Int} {σ : jg_M} {Q : Int → jg_M → Prop} (h0 : jg_sh a0 = (0, 0)) (h : jg_GI w 2 mm_X0_isEmptyFrom 2 [.ref a0, .int (.ofInt x1), .int (.ofInt x2), .int (.ofInt x2)] σ Q) : jg_CI w 2 mm_X0_isEmptyFrom [.ref a0, .int (.ofInt x1), .int (.ofInt x2)] σ Q := by
  show jg_G w 2 mm_X0_isEmptyFrom 0 [.ref a0, .int (.ofInt x1), .int (.ofInt x2), mj_U] [] σ (jg_QI Q)
  refine jg_A (pc' := 1) rfl rfl (fun _ _ _ => rfl) ?_
  refine jg_A (pc' := 2) (ls' := [.ref a0, .int (.ofInt x1), .int (.ofInt x2), .int (.ofInt x2)]) rfl rfl (fun _ _ _ => rfl) ?_
  exact h
set_option maxRecDepth 100000 in
set_option maxHeartbeats 4000000 in
theorem jb_X0_isEmptyFrom_2 {w : Nat} {a0 : Nat} {x1 : Int} {u2 : Value} {x3 : Int} {σ : jg_M} {Q : Int → jg_M → Prop} (h0 : jg_sh a0 = (0, 0)) (h : jg_CI w 0 mm_X0_lengthOf [.ref a0, .int (.ofInt x1)] σ (fun (z102 : Int) (m101 : jg_M) => (if jg_wr z102 ≤ jg_wr x3 then Q 1 m101 else jg_CI w 1 mm_X0_symbolAt [.ref a0, .int (.ofInt x1), .int (.ofInt x3)] m101 (fun (z104 : Int) (m103 : jg_M) => jg_CI w 0 mm_X0_isEmpty [.ref a0, .int (.ofInt (z104 - 10))] m103 (fun (z106 : Int) (m105 : jg_M) => (if jg_wr z106 = 0 then Q 0 m105 else jg_GI w 2 mm_X0_isEmptyFrom 2 [.ref a0, .int (.ofInt x1), u2, .int (.ofInt (x3 + 1))] m105 Q)))))) : jg_GI w 2 mm_X0_isEmptyFrom 2 [.ref a0, .int (.ofInt x1), u2, .int (.ofInt x3)] σ Q := by
  show jg_G w 2 mm_X0_isEmptyFrom 2 [.ref a0, .int (.ofInt x1), u2, .int (.ofInt x3)] [] σ (jg_QI Q)
  refine jg_A (pc' := 3) rfl rfl (fun _ _ _ => rfl) ?_
  refine jg_A (pc' := 4) rfl rfl (fun _ _ _ => rfl) ?_
  refine jg_A (pc' := 5) rfl rfl (fun _ _ _ => rfl) ?_
  refine jg_calX (M1 := mm_X0_lengthOf) (hy := 0) (pc' := 8) rfl jm_X0_lengthOf (by decide) rfl h0 (by decide) ⟨Nat.le_of_ble_eq_true rfl, rfl⟩ (Nat.le_of_ble_eq_true rfl) rfl h (jg_kI (fun z102 m101 h => ?_))
  refine jg_cge (pc' := 11) rfl rfl (fun hc => ?_) (fun hc => ?_)
  · have h := jg_t h (show jg_wr z102 ≤ jg_wr x3 from hc)
    refine jg_A (pc' := 36) rfl rfl (fun _ _ _ => rfl) ?_
    exact jg_zret rfl rfl (by decide) h
  · have h := jg_f h (show ¬ (jg_wr z102 ≤ jg_wr x3) from hc)
    refine jg_A (pc' := 12) rfl rfl (fun _ _ _ => rfl) ?_
    refine jg_A (pc' := 13) rfl rfl (fun _ _ _ => rfl) ?_
    refine jg_A (pc' := 14) rfl rfl (fun _ _ _ => rfl) ?_
    refine jg_A (pc' := 15) rfl rfl (fun _ _ _ => rfl) ?_
    refine jg_calX (M1 := mm_X0_symbolAt) (hy := 1) (pc' := 18) rfl jm_X0_symbolAt (by decide) rfl h0 (by decide) ⟨Nat.le_of_ble_eq_true rfl, rfl⟩ (Nat.le_of_ble_eq_true rfl) rfl h (jg_kI (fun z104 m103 h => ?_))
    refine jg_A (pc' := 20) rfl rfl (fun _ _ _ => rfl) ?_
    refine jg_isub (pc' := 21) rfl rfl ?_
    refine jg_calX (M1 := mm_X0_isEmpty) (hy := 0) (pc' := 24) rfl jm_X0_isEmpty (by decide) rfl h0 (by decide) ⟨Nat.le_of_ble_eq_true rfl, rfl⟩ (Nat.le_of_ble_eq_true rfl) rfl h (jg_kI (fun z106 m105 h => ?_))
    refine jg_ifne (pc' := 27) rfl rfl (fun hc => ?_) (fun hc => ?_)
    · have h := jg_t h (show jg_wr z106 = 0 from hc)
      refine jg_A (pc' := 28) rfl rfl (fun _ _ _ => rfl) ?_
      exact jg_zret rfl rfl (by decide) h
    · have h := jg_f h (show ¬ (jg_wr z106 = 0) from hc)
      refine jg_iinc (pc' := 32) (ls' := [.ref a0, .int (.ofInt x1), u2, .int (.ofInt (x3 + 1))]) rfl rfl rfl rfl ?_
      refine jg_goto rfl ?_
      exact h
set_option maxRecDepth 100000 in
set_option maxHeartbeats 4000000 in
theorem jb_X0_firstFrom_0 {w : Nat} {a0 : Nat} {x1 : Int} {x2 : Int} {σ : jg_M} {Q : Int → jg_M → Prop} (h0 : jg_sh a0 = (0, 0)) (h : jg_GI w 2 mm_X0_firstFrom 5 [.ref a0, .int (.ofInt x1), .int (.ofInt x2), .int (.ofInt 0), .int (.ofInt x2), mj_U, mj_U] σ Q) : jg_CI w 2 mm_X0_firstFrom [.ref a0, .int (.ofInt x1), .int (.ofInt x2)] σ Q := by
  show jg_G w 2 mm_X0_firstFrom 0 [.ref a0, .int (.ofInt x1), .int (.ofInt x2), mj_U, mj_U, mj_U, mj_U] [] σ (jg_QI Q)
  refine jg_A (pc' := 1) rfl rfl (fun _ _ _ => rfl) ?_
  refine jg_A (pc' := 2) (ls' := [.ref a0, .int (.ofInt x1), .int (.ofInt x2), .int (.ofInt 0), mj_U, mj_U, mj_U]) rfl rfl (fun _ _ _ => rfl) ?_
  refine jg_A (pc' := 3) rfl rfl (fun _ _ _ => rfl) ?_
  refine jg_A (pc' := 5) (ls' := [.ref a0, .int (.ofInt x1), .int (.ofInt x2), .int (.ofInt 0), .int (.ofInt x2), mj_U, mj_U]) rfl rfl (fun _ _ _ => rfl) ?_
  exact h
set_option maxRecDepth 100000 in
set_option maxHeartbeats 4000000 in
theorem jb_X0_firstFrom_5 {w : Nat} {a0 : Nat} {x1 : Int} {u2 : Value} {x3 : Int} {x4 : Int} {u5 : Value} {u6 : Value} {σ : jg_M} {Q : Int → jg_M → Prop} (h0 : jg_sh a0 = (0, 0)) (h : jg_CI w 0 mm_X0_lengthOf [.ref a0, .int (.ofInt x1)] σ (fun (z102 : Int) (m101 : jg_M) => (if jg_wr z102 ≤ jg_wr x4 then Q x3 m101 else jg_CI w 1 mm_X0_symbolAt [.ref a0, .int (.ofInt x1), .int (.ofInt x4)] m101 (fun (z104 : Int) (m103 : jg_M) => jg_CI w 0 mm_X0_hasToken [.ref a0, .int (.ofInt z104)] m103 (fun (z106 : Int) (m105 : jg_M) => (if jg_wr z106 = 0 then ∀ t107 : Int, t107 = (z104 - 10) → jg_CI w 0 mm_X0_hasKind [.ref a0, .int (.ofInt t107)] m105 (fun (z109 : Int) (m108 : jg_M) => (if jg_wr z109 = 0 then Q x3 m108 else ((0 : Int) ≤ jg_wr t107 ∧ jg_wr t107 < (5 : Int)) ∧ ∀ t110 : Int, t110 = (jg_or x3 (m108.1 (a0 + 7) (jg_wr t107))) → jg_CI w 0 mm_X0_isEmpty [.ref a0, .int (.ofInt t107)] m108 (fun (z112 : Int) (m111 : jg_M) => (if jg_wr z112 = 0 then Q t110 m111 else jg_GI w 2 mm_X0_firstFrom 5 [.ref a0, .int (.ofInt x1), u2, .int (.ofInt t110), .int (.ofInt (x4 + 1)), .int (.ofInt z104), .int (.ofInt t107)] m111 Q)))) else Q (jg_or x3 (jg_shl 1 z104)) m105)))))) : jg_GI w 2 mm_X0_firstFrom 5 [.ref a0, .int (.ofInt x1), u2, .int (.ofInt x3), .int (.ofInt x4), u5, u6] σ Q := by
  show jg_G w 2 mm_X0_firstFrom 5 [.ref a0, .int (.ofInt x1), u2, .int (.ofInt x3), .int (.ofInt x4), u5, u6] [] σ (jg_QI Q)
  refine jg_A (pc' := 7) rfl rfl (fun _ _ _ => rfl) ?_
  refine jg_A (pc' := 8) rfl rfl (fun _ _ _ => rfl) ?_
  refine jg_A (pc' := 9) rfl rfl (fun _ _ _ => rfl) ?_
  refine jg_calX (M1 := mm_X0_lengthOf) (hy := 0) (pc' := 12) rfl jm_X0_lengthOf (by decide) rfl h0 (by decide) ⟨Nat.le_of_ble_eq_true rfl, rfl⟩ (Nat.le_of_ble_eq_true rfl) rfl h (jg_kI (fun z102 m101 h => ?_))
  refine jg_cge (pc' := 15) rfl rfl (fun hc => ?_) (fun hc => ?_)
  · have h := jg_t h (show jg_wr z102 ≤ jg_wr x4 from hc)
    refine jg_A (pc' := 86) rfl rfl (fun _ _ _ => rfl) ?_
    exact jg_iret rfl rfl h
  · have h := jg_f h (show ¬ (jg_wr z102 ≤ jg_wr x4) from hc)
    refine jg_A (pc' := 16) rfl rfl (fun _ _ _ => rfl) ?_
    refine jg_A (pc' := 17) rfl rfl (fun _ _ _ => rfl) ?_
    refine jg_A (pc' := 19) rfl rfl (fun _ _ _ => rfl) ?_
    refine jg_calX (M1 := mm_X0_symbolAt) (hy := 1) (pc' := 22) rfl jm_X0_symbolAt (by decide) rfl h0 (by decide) ⟨Nat.le_of_ble_eq_true rfl, rfl⟩ (Nat.le_of_ble_eq_true rfl) rfl h (jg_kI (fun z104 m103 h => ?_))
    refine jg_A (pc' := 24) (ls' := [.ref a0, .int (.ofInt x1), u2, .int (.ofInt x3), .int (.ofInt x4), .int (.ofInt z104), u6]) rfl rfl (fun _ _ _ => rfl) ?_
    refine jg_A (pc' := 25) rfl rfl (fun _ _ _ => rfl) ?_
    refine jg_A (pc' := 27) rfl rfl (fun _ _ _ => rfl) ?_
    refine jg_calX (M1 := mm_X0_hasToken) (hy := 0) (pc' := 30) rfl jm_X0_hasToken (by decide) rfl h0 (by decide) ⟨Nat.le_of_ble_eq_true rfl, rfl⟩ (Nat.le_of_ble_eq_true rfl) rfl h (jg_kI (fun z106 m105 h => ?_))
    refine jg_ifeq (pc' := 33) rfl rfl (fun hc => ?_) (fun hc => ?_)
    · have h := jg_t h (show jg_wr z106 = 0 from hc)
      refine jg_A (pc' := 42) rfl rfl (fun _ _ _ => rfl) ?_
      refine jg_A (pc' := 44) rfl rfl (fun _ _ _ => rfl) ?_
      refine jg_isub (pc' := 45) rfl rfl ?_
      refine jg_nm (F := fun t107 => jg_G w 2 mm_X0_firstFrom 45 [.ref a0, .int (.ofInt x1), u2, .int (.ofInt x3), .int (.ofInt x4), .int (.ofInt z104), u6] [.int (.ofInt t107)] m105 (jg_QI Q)) (z104 - 10) (fun t107 ht107 => ?_)
      have h := h t107 ht107
      refine jg_A (pc' := 47) (ls' := [.ref a0, .int (.ofInt x1), u2, .int (.ofInt x3), .int (.ofInt x4), .int (.ofInt z104), .int (.ofInt t107)]) rfl rfl (fun _ _ _ => rfl) ?_
      refine jg_A (pc' := 48) rfl rfl (fun _ _ _ => rfl) ?_
      refine jg_A (pc' := 50) rfl rfl (fun _ _ _ => rfl) ?_
      refine jg_calX (M1 := mm_X0_hasKind) (hy := 0) (pc' := 53) rfl jm_X0_hasKind (by decide) rfl h0 (by decide) ⟨Nat.le_of_ble_eq_true rfl, rfl⟩ (Nat.le_of_ble_eq_true rfl) rfl h (jg_kI (fun z109 m108 h => ?_))
      refine jg_ifne (pc' := 56) rfl rfl (fun hc => ?_) (fun hc => ?_)
      · have h := jg_t h (show jg_wr z109 = 0 from hc)
        refine jg_A (pc' := 57) rfl rfl (fun _ _ _ => rfl) ?_
        exact jg_iret rfl rfl h
      · have h := jg_f h (show ¬ (jg_wr z109 = 0) from hc)
        refine jg_A (pc' := 59) rfl rfl (fun _ _ _ => rfl) ?_
        refine jg_A (pc' := 60) rfl rfl (fun _ _ _ => rfl) ?_
        refine jg_getO (pc' := 63) (k := 7) rfl h0 (by decide) rfl rfl ?_
        refine jg_A (pc' := 65) rfl rfl (fun _ _ _ => rfl) ?_
        obtain ⟨hg, h⟩ := h
        refine jg_iald (pc' := 66) rfl (jg_sX0_12 h0) hg rfl ?_
        refine jg_ior (pc' := 67) rfl rfl ?_
        refine jg_nm (F := fun t110 => jg_G w 2 mm_X0_firstFrom 67 [.ref a0, .int (.ofInt x1), u2, .int (.ofInt x3), .int (.ofInt x4), .int (.ofInt z104), .int (.ofInt t107)] [.int (.ofInt t110)] m108 (jg_QI Q)) (jg_or x3 (m108.1 (a0 + 7) (jg_wr t107))) (fun t110 ht110 => ?_)
        have h := h t110 ht110
        refine jg_A (pc' := 68) (ls' := [.ref a0, .int (.ofInt x1), u2, .int (.ofInt t110), .int (.ofInt x4), .int (.ofInt z104), .int (.ofInt t107)]) rfl rfl (fun _ _ _ => rfl) ?_
        refine jg_A (pc' := 69) rfl rfl (fun _ _ _ => rfl) ?_
        refine jg_A (pc' := 71) rfl rfl (fun _ _ _ => rfl) ?_
        refine jg_calX (M1 := mm_X0_isEmpty) (hy := 0) (pc' := 74) rfl jm_X0_isEmpty (by decide) rfl h0 (by decide) ⟨Nat.le_of_ble_eq_true rfl, rfl⟩ (Nat.le_of_ble_eq_true rfl) rfl h (jg_kI (fun z112 m111 h => ?_))
        refine jg_ifne (pc' := 77) rfl rfl (fun hc => ?_) (fun hc => ?_)
        · have h := jg_t h (show jg_wr z112 = 0 from hc)
          refine jg_A (pc' := 78) rfl rfl (fun _ _ _ => rfl) ?_
          exact jg_iret rfl rfl h
        · have h := jg_f h (show ¬ (jg_wr z112 = 0) from hc)
          refine jg_iinc (pc' := 82) (ls' := [.ref a0, .int (.ofInt x1), u2, .int (.ofInt t110), .int (.ofInt (x4 + 1)), .int (.ofInt z104), .int (.ofInt t107)]) rfl rfl rfl rfl ?_
          refine jg_goto rfl ?_
          exact h
    · have h := jg_f h (show ¬ (jg_wr z106 = 0) from hc)
      refine jg_A (pc' := 34) rfl rfl (fun _ _ _ => rfl) ?_
      refine jg_A (pc' := 35) rfl rfl (fun _ _ _ => rfl) ?_
      refine jg_A (pc' := 37) rfl rfl (fun _ _ _ => rfl) ?_
      refine jg_ishl (pc' := 38) rfl rfl ?_
      refine jg_ior (pc' := 39) rfl rfl ?_
      exact jg_iret rfl rfl h
set_option maxRecDepth 100000 in
set_option maxHeartbeats 4000000 in
theorem jb_X0_settleEmpties_0 {w : Nat} {a0 : Nat} {σ : jg_M} {Q : jg_M → Prop} (h0 : jg_sh a0 = (0, 0)) (h : ∀ m101 : jg_M, m101 = jg_sI σ a0 11 0 → jg_GV w 3 mm_X0_settleEmpties 9 [.ref a0, .int (.ofInt 1), .int (.ofInt 0), mj_U, mj_U] m101 Q) : jg_CV w 3 mm_X0_settleEmpties [.ref a0] σ Q := by
  show jg_G w 3 mm_X0_settleEmpties 0 [.ref a0, mj_U, mj_U, mj_U, mj_U] [] σ (jg_QV Q)
  refine jg_A (pc' := 1) rfl rfl (fun _ _ _ => rfl) ?_
  refine jg_A (pc' := 2) rfl rfl (fun _ _ _ => rfl) ?_
  refine jg_putI (pc' := 5) (bi := 11) rfl h0 (by decide) rfl rfl rfl rfl (fun m101 hm101 => ?_)
  have h := h m101 hm101
  refine jg_A (pc' := 6) rfl rfl (fun _ _ _ => rfl) ?_
  refine jg_A (pc' := 7) (ls' := [.ref a0, .int (.ofInt 1), mj_U, mj_U, mj_U]) rfl rfl (fun _ _ _ => rfl) ?_
  refine jg_A (pc' := 8) rfl rfl (fun _ _ _ => rfl) ?_
  refine jg_A (pc' := 9) (ls' := [.ref a0, .int (.ofInt 1), .int (.ofInt 0), mj_U, mj_U]) rfl rfl (fun _ _ _ => rfl) ?_
  exact h
set_option maxRecDepth 100000 in
set_option maxHeartbeats 4000000 in
theorem jb_X0_settleEmpties_9 {w : Nat} {a0 : Nat} {x1 : Int} {x2 : Int} {u3 : Value} {u4 : Value} {σ : jg_M} {Q : jg_M → Prop} (h0 : jg_sh a0 = (0, 0)) (h : (if jg_wr x1 = 0 then Q σ else (if 1000000 ≤ jg_wr x2 then Q σ else ∀ t101 : Int, t101 = (σ.1 a0 11) → jg_GV w 3 mm_X0_settleEmpties 27 [.ref a0, .int (.ofInt x1), .int (.ofInt x2), .int (.ofInt t101), .int (.ofInt 0)] σ Q))) : jg_GV w 3 mm_X0_settleEmpties 9 [.ref a0, .int (.ofInt x1), .int (.ofInt x2), u3, u4] σ Q := by
  show jg_G w 3 mm_X0_settleEmpties 9 [.ref a0, .int (.ofInt x1), .int (.ofInt x2), u3, u4] [] σ (jg_QV Q)
  refine jg_A (pc' := 10) rfl rfl (fun _ _ _ => rfl) ?_
  refine jg_ifeq (pc' := 13) rfl rfl (fun hc => ?_) (fun hc => ?_)
  · have h := jg_t h (show jg_wr x1 = 0 from hc)
    exact jg_vret rfl rfl h
  · have h := jg_f h (show ¬ (jg_wr x1 = 0) from hc)
    refine jg_A (pc' := 14) rfl rfl (fun _ _ _ => rfl) ?_
    refine jg_A (pc' := 16) rfl rfl (fun _ _ _ => rfl) ?_
    refine jg_cge (pc' := 19) rfl rfl (fun hc => ?_) (fun hc => ?_)
    · have h := jg_t h (show 1000000 ≤ jg_wr x2 from hc)
      exact jg_vret rfl rfl h
    · have h := jg_f h (show ¬ (1000000 ≤ jg_wr x2) from hc)
      refine jg_A (pc' := 20) rfl rfl (fun _ _ _ => rfl) ?_
      refine jg_getI (pc' := 23) (bi := 11) rfl h0 (by decide) (Or.inl rfl) rfl rfl ?_
      refine jg_nm (F := fun t101 => jg_G w 3 mm_X0_settleEmpties 23 [.ref a0, .int (.ofInt x1), .int (.ofInt x2), u3, u4] [.int (.ofInt t101)] σ (jg_QV Q)) (σ.1 a0 11) (fun t101 ht101 => ?_)
      have h := h t101 ht101
      refine jg_A (pc' := 24) (ls' := [.ref a0, .int (.ofInt x1), .int (.ofInt x2), .int (.ofInt t101), u4]) rfl rfl (fun _ _ _ => rfl) ?_
      refine jg_A (pc' := 25) rfl rfl (fun _ _ _ => rfl) ?_
      refine jg_A (pc' := 27) (ls' := [.ref a0, .int (.ofInt x1), .int (.ofInt x2), .int (.ofInt t101), .int (.ofInt 0)]) rfl rfl (fun _ _ _ => rfl) ?_
      exact h
set_option maxRecDepth 100000 in
set_option maxHeartbeats 4000000 in
theorem jb_X0_settleEmpties_27 {w : Nat} {a0 : Nat} {u1 : Value} {x2 : Int} {x3 : Int} {x4 : Int} {σ : jg_M} {Q : jg_M → Prop} (h0 : jg_sh a0 = (0, 0)) (h : (if jg_wr (σ.1 a0 2) ≤ jg_wr x4 then (if jg_wr (σ.1 a0 11) = jg_wr x3 then jg_GV w 3 mm_X0_settleEmpties 9 [.ref a0, .int (.ofInt 0), .int (.ofInt (x2 + 1)), .int (.ofInt x3), .int (.ofInt x4)] σ Q else jg_GV w 3 mm_X0_settleEmpties 9 [.ref a0, .int (.ofInt 1), .int (.ofInt (x2 + 1)), .int (.ofInt x3), .int (.ofInt x4)] σ Q) else jg_CI w 0 mm_X0_uses [.ref a0, .int (.ofInt x4)] σ (fun (z102 : Int) (m101 : jg_M) => (if jg_wr z102 = 0 then jg_GV w 3 mm_X0_settleEmpties 27 [.ref a0, u1, .int (.ofInt x2), .int (.ofInt x3), .int (.ofInt (x4 + 1))] m101 Q else jg_CI w 2 mm_X0_isEmptyFrom [.ref a0, .int (.ofInt x4), .int (.ofInt 0)] m101 (fun (z104 : Int) (m103 : jg_M) => (if jg_wr z104 = 0 then jg_GV w 3 mm_X0_settleEmpties 27 [.ref a0, u1, .int (.ofInt x2), .int (.ofInt x3), .int (.ofInt (x4 + 1))] m103 Q else jg_CI w 1 mm_X0_kindOf [.ref a0, .int (.ofInt x4)] m103 (fun (z106 : Int) (m105 : jg_M) => ∀ m107 : jg_M, m107 = jg_sI m105 a0 11 (jg_or (m103.1 a0 11) (jg_shl 1 z106)) → jg_GV w 3 mm_X0_settleEmpties 27 [.ref a0, u1, .int (.ofInt x2), .int (.ofInt x3), .int (.ofInt (x4 + 1))] m107 Q))))))) : jg_GV w 3 mm_X0_settleEmpties 27 [.ref a0, u1, .int (.ofInt x2), .int (.ofInt x3), .int (.ofInt x4)] σ Q := by
  show jg_G w 3 mm_X0_settleEmpties 27 [.ref a0, u1, .int (.ofInt x2), .int (.ofInt x3), .int (.ofInt x4)] [] σ (jg_QV Q)
  refine jg_A (pc' := 29) rfl rfl (fun _ _ _ => rfl) ?_
  refine jg_A (pc' := 30) rfl rfl (fun _ _ _ => rfl) ?_
  refine jg_getI (pc' := 33) (bi := 2) rfl h0 (by decide) (Or.inl rfl) rfl rfl ?_
  refine jg_cge (pc' := 36) rfl rfl (fun hc => ?_) (fun hc => ?_)
  · have h := jg_t h (show jg_wr (σ.1 a0 2) ≤ jg_wr x4 from hc)
    refine jg_A (pc' := 79) rfl rfl (fun _ _ _ => rfl) ?_
    refine jg_getI (pc' := 82) (bi := 11) rfl h0 (by decide) (Or.inl rfl) rfl rfl ?_
    refine jg_A (pc' := 83) rfl rfl (fun _ _ _ => rfl) ?_
    refine jg_ceq (pc' := 86) rfl rfl (fun hc => ?_) (fun hc => ?_)
    · have h := jg_t h (show jg_wr (σ.1 a0 11) = jg_wr x3 from hc)
      refine jg_A (pc' := 91) rfl rfl (fun _ _ _ => rfl) ?_
      refine jg_A (pc' := 92) (ls' := [.ref a0, .int (.ofInt 0), .int (.ofInt x2), .int (.ofInt x3), .int (.ofInt x4)]) rfl rfl (fun _ _ _ => rfl) ?_
      refine jg_iinc (pc' := 95) (ls' := [.ref a0, .int (.ofInt 0), .int (.ofInt (x2 + 1)), .int (.ofInt x3), .int (.ofInt x4)]) rfl rfl rfl rfl ?_
      refine jg_goto rfl ?_
      exact h
    · have h := jg_f h (show ¬ (jg_wr (σ.1 a0 11) = jg_wr x3) from hc)
      refine jg_A (pc' := 87) rfl rfl (fun _ _ _ => rfl) ?_
      refine jg_goto rfl ?_
      refine jg_A (pc' := 92) (ls' := [.ref a0, .int (.ofInt 1), .int (.ofInt x2), .int (.ofInt x3), .int (.ofInt x4)]) rfl rfl (fun _ _ _ => rfl) ?_
      refine jg_iinc (pc' := 95) (ls' := [.ref a0, .int (.ofInt 1), .int (.ofInt (x2 + 1)), .int (.ofInt x3), .int (.ofInt x4)]) rfl rfl rfl rfl ?_
      refine jg_goto rfl ?_
      exact h
  · have h := jg_f h (show ¬ (jg_wr (σ.1 a0 2) ≤ jg_wr x4) from hc)
    refine jg_A (pc' := 37) rfl rfl (fun _ _ _ => rfl) ?_
    refine jg_A (pc' := 39) rfl rfl (fun _ _ _ => rfl) ?_
    refine jg_calX (M1 := mm_X0_uses) (hy := 0) (pc' := 42) rfl jm_X0_uses (by decide) rfl h0 (by decide) ⟨Nat.le_of_ble_eq_true rfl, rfl⟩ (Nat.le_of_ble_eq_true rfl) rfl h (jg_kI (fun z102 m101 h => ?_))
    refine jg_ifeq (pc' := 45) rfl rfl (fun hc => ?_) (fun hc => ?_)
    · have h := jg_t h (show jg_wr z102 = 0 from hc)
      refine jg_iinc (pc' := 75) (ls' := [.ref a0, u1, .int (.ofInt x2), .int (.ofInt x3), .int (.ofInt (x4 + 1))]) rfl rfl rfl rfl ?_
      refine jg_goto rfl ?_
      exact h
    · have h := jg_f h (show ¬ (jg_wr z102 = 0) from hc)
      refine jg_A (pc' := 46) rfl rfl (fun _ _ _ => rfl) ?_
      refine jg_A (pc' := 48) rfl rfl (fun _ _ _ => rfl) ?_
      refine jg_A (pc' := 49) rfl rfl (fun _ _ _ => rfl) ?_
      refine jg_calX (M1 := mm_X0_isEmptyFrom) (hy := 2) (pc' := 52) rfl jm_X0_isEmptyFrom (by decide) rfl h0 (by decide) ⟨Nat.le_of_ble_eq_true rfl, rfl⟩ (Nat.le_of_ble_eq_true rfl) rfl h (jg_kI (fun z104 m103 h => ?_))
      refine jg_ifeq (pc' := 55) rfl rfl (fun hc => ?_) (fun hc => ?_)
      · have h := jg_t h (show jg_wr z104 = 0 from hc)
        refine jg_iinc (pc' := 75) (ls' := [.ref a0, u1, .int (.ofInt x2), .int (.ofInt x3), .int (.ofInt (x4 + 1))]) rfl rfl rfl rfl ?_
        refine jg_goto rfl ?_
        exact h
      · have h := jg_f h (show ¬ (jg_wr z104 = 0) from hc)
        refine jg_A (pc' := 56) rfl rfl (fun _ _ _ => rfl) ?_
        refine jg_A (pc' := 57) rfl rfl (fun _ _ _ => rfl) ?_
        refine jg_getI (pc' := 60) (bi := 11) rfl h0 (by decide) (Or.inl rfl) rfl rfl ?_
        refine jg_A (pc' := 61) rfl rfl (fun _ _ _ => rfl) ?_
        refine jg_A (pc' := 62) rfl rfl (fun _ _ _ => rfl) ?_
        refine jg_A (pc' := 64) rfl rfl (fun _ _ _ => rfl) ?_
        refine jg_calX (M1 := mm_X0_kindOf) (hy := 1) (pc' := 67) rfl jm_X0_kindOf (by decide) rfl h0 (by decide) ⟨Nat.le_of_ble_eq_true rfl, rfl⟩ (Nat.le_of_ble_eq_true rfl) rfl h (jg_kI (fun z106 m105 h => ?_))
        refine jg_ishl (pc' := 68) rfl rfl ?_
        refine jg_ior (pc' := 69) rfl rfl ?_
        refine jg_putI (pc' := 72) (bi := 11) rfl h0 (by decide) rfl rfl rfl rfl (fun m107 hm107 => ?_)
        have h := h m107 hm107
        refine jg_iinc (pc' := 75) (ls' := [.ref a0, u1, .int (.ofInt x2), .int (.ofInt x3), .int (.ofInt (x4 + 1))]) rfl rfl rfl rfl ?_
        refine jg_goto rfl ?_
        exact h
set_option maxRecDepth 100000 in
set_option maxHeartbeats 4000000 in
theorem jb_X0_settleFirsts_0 {w : Nat} {a0 : Nat} {σ : jg_M} {Q : jg_M → Prop} (h0 : jg_sh a0 = (0, 0)) (h : jg_CV w 0 mm_J7_fill_53178 [.ref (a0 + 7), .int (.ofInt 0)] σ (fun (m101 : jg_M) => jg_GV w 3 mm_X0_settleFirsts 12 [.ref a0, .int (.ofInt 1), .int (.ofInt 0), mj_U] m101 Q)) : jg_CV w 3 mm_X0_settleFirsts [.ref a0] σ Q := by
  show jg_G w 3 mm_X0_settleFirsts 0 [.ref a0, mj_U, mj_U, mj_U] [] σ (jg_QV Q)
  refine jg_A (pc' := 1) rfl rfl (fun _ _ _ => rfl) ?_
  refine jg_getO (pc' := 4) (k := 7) rfl h0 (by decide) rfl rfl ?_
  refine jg_A (pc' := 5) rfl rfl (fun _ _ _ => rfl) ?_
  refine jg_calS (M1 := mm_J7_fill_53178) (hy := 0) (pc' := 8) rfl (Or.inl rfl) jm_J7_fill_53178 (by decide) rfl ⟨Nat.le_of_ble_eq_true rfl, rfl⟩ (Nat.le_of_ble_eq_true rfl) rfl h (jg_kV (fun m101 h => ?_))
  refine jg_A (pc' := 9) rfl rfl (fun _ _ _ => rfl) ?_
  refine jg_A (pc' := 10) (ls' := [.ref a0, .int (.ofInt 1), mj_U, mj_U]) rfl rfl (fun _ _ _ => rfl) ?_
  refine jg_A (pc' := 11) rfl rfl (fun _ _ _ => rfl) ?_
  refine jg_A (pc' := 12) (ls' := [.ref a0, .int (.ofInt 1), .int (.ofInt 0), mj_U]) rfl rfl (fun _ _ _ => rfl) ?_
  exact h
set_option maxRecDepth 100000 in
set_option maxHeartbeats 4000000 in
theorem jb_X0_settleFirsts_12 {w : Nat} {a0 : Nat} {x1 : Int} {x2 : Int} {u3 : Value} {σ : jg_M} {Q : jg_M → Prop} (h0 : jg_sh a0 = (0, 0)) (h : (if jg_wr x1 = 0 then Q σ else (if 1000000 ≤ jg_wr x2 then Q σ else jg_GV w 3 mm_X0_settleFirsts 26 [.ref a0, .int (.ofInt 0), .int (.ofInt x2), .int (.ofInt 0)] σ Q))) : jg_GV w 3 mm_X0_settleFirsts 12 [.ref a0, .int (.ofInt x1), .int (.ofInt x2), u3] σ Q := by
  show jg_G w 3 mm_X0_settleFirsts 12 [.ref a0, .int (.ofInt x1), .int (.ofInt x2), u3] [] σ (jg_QV Q)
  refine jg_A (pc' := 13) rfl rfl (fun _ _ _ => rfl) ?_
  refine jg_ifeq (pc' := 16) rfl rfl (fun hc => ?_) (fun hc => ?_)
  · have h := jg_t h (show jg_wr x1 = 0 from hc)
    exact jg_vret rfl rfl h
  · have h := jg_f h (show ¬ (jg_wr x1 = 0) from hc)
    refine jg_A (pc' := 17) rfl rfl (fun _ _ _ => rfl) ?_
    refine jg_A (pc' := 19) rfl rfl (fun _ _ _ => rfl) ?_
    refine jg_cge (pc' := 22) rfl rfl (fun hc => ?_) (fun hc => ?_)
    · have h := jg_t h (show 1000000 ≤ jg_wr x2 from hc)
      exact jg_vret rfl rfl h
    · have h := jg_f h (show ¬ (1000000 ≤ jg_wr x2) from hc)
      refine jg_A (pc' := 23) rfl rfl (fun _ _ _ => rfl) ?_
      refine jg_A (pc' := 24) (ls' := [.ref a0, .int (.ofInt 0), .int (.ofInt x2), u3]) rfl rfl (fun _ _ _ => rfl) ?_
      refine jg_A (pc' := 25) rfl rfl (fun _ _ _ => rfl) ?_
      refine jg_A (pc' := 26) (ls' := [.ref a0, .int (.ofInt 0), .int (.ofInt x2), .int (.ofInt 0)]) rfl rfl (fun _ _ _ => rfl) ?_
      exact h
set_option maxRecDepth 100000 in
set_option maxHeartbeats 4000000 in
theorem jb_X0_settleFirsts_26 {w : Nat} {a0 : Nat} {x1 : Int} {x2 : Int} {x3 : Int} {σ : jg_M} {Q : jg_M → Prop} (h0 : jg_sh a0 = (0, 0)) (h : (if jg_wr (σ.1 a0 2) ≤ jg_wr x3 then jg_GV w 3 mm_X0_settleFirsts 12 [.ref a0, .int (.ofInt x1), .int (.ofInt (x2 + 1)), .int (.ofInt x3)] σ Q else jg_CI w 0 mm_X0_uses [.ref a0, .int (.ofInt x3)] σ (fun (z102 : Int) (m101 : jg_M) => (if jg_wr z102 = 0 then jg_GV w 3 mm_X0_settleFirsts 26 [.ref a0, .int (.ofInt x1), .int (.ofInt x2), .int (.ofInt (x3 + 1))] m101 Q else jg_CI w 1 mm_X0_kindOf [.ref a0, .int (.ofInt x3)] m101 (fun (z104 : Int) (m103 : jg_M) => jg_CI w 2 mm_X0_firstFrom [.ref a0, .int (.ofInt x3), .int (.ofInt 0)] m103 (fun (z106 : Int) (m105 : jg_M) => jg_CI w 1 mm_X0_widen [.ref a0, .ref (a0 + 7), .int (.ofInt z104), .int (.ofInt z106)] m105 (fun (z108 : Int) (m107 : jg_M) => (if jg_wr z108 = 0 then jg_GV w 3 mm_X0_settleFirsts 26 [.ref a0, .int (.ofInt x1), .int (.ofInt x2), .int (.ofInt (x3 + 1))] m107 Q else jg_GV w 3 mm_X0_settleFirsts 26 [.ref a0, .int (.ofInt 1), .int (.ofInt x2), .int (.ofInt (x3 + 1))] m107 Q)))))))) : jg_GV w 3 mm_X0_settleFirsts 26 [.ref a0, .int (.ofInt x1), .int (.ofInt x2), .int (.ofInt x3)] σ Q := by
  show jg_G w 3 mm_X0_settleFirsts 26 [.ref a0, .int (.ofInt x1), .int (.ofInt x2), .int (.ofInt x3)] [] σ (jg_QV Q)
  refine jg_A (pc' := 27) rfl rfl (fun _ _ _ => rfl) ?_
  refine jg_A (pc' := 28) rfl rfl (fun _ _ _ => rfl) ?_
  refine jg_getI (pc' := 31) (bi := 2) rfl h0 (by decide) (Or.inl rfl) rfl rfl ?_
  refine jg_cge (pc' := 34) rfl rfl (fun hc => ?_) (fun hc => ?_)
  · have h := jg_t h (show jg_wr (σ.1 a0 2) ≤ jg_wr x3 from hc)
    refine jg_iinc (pc' := 75) (ls' := [.ref a0, .int (.ofInt x1), .int (.ofInt (x2 + 1)), .int (.ofInt x3)]) rfl rfl rfl rfl ?_
    refine jg_goto rfl ?_
    exact h
  · have h := jg_f h (show ¬ (jg_wr (σ.1 a0 2) ≤ jg_wr x3) from hc)
    refine jg_A (pc' := 35) rfl rfl (fun _ _ _ => rfl) ?_
    refine jg_A (pc' := 36) rfl rfl (fun _ _ _ => rfl) ?_
    refine jg_calX (M1 := mm_X0_uses) (hy := 0) (pc' := 39) rfl jm_X0_uses (by decide) rfl h0 (by decide) ⟨Nat.le_of_ble_eq_true rfl, rfl⟩ (Nat.le_of_ble_eq_true rfl) rfl h (jg_kI (fun z102 m101 h => ?_))
    refine jg_ifeq (pc' := 42) rfl rfl (fun hc => ?_) (fun hc => ?_)
    · have h := jg_t h (show jg_wr z102 = 0 from hc)
      refine jg_iinc (pc' := 69) (ls' := [.ref a0, .int (.ofInt x1), .int (.ofInt x2), .int (.ofInt (x3 + 1))]) rfl rfl rfl rfl ?_
      refine jg_goto rfl ?_
      exact h
    · have h := jg_f h (show ¬ (jg_wr z102 = 0) from hc)
      refine jg_A (pc' := 43) rfl rfl (fun _ _ _ => rfl) ?_
      refine jg_A (pc' := 44) rfl rfl (fun _ _ _ => rfl) ?_
      refine jg_getO (pc' := 47) (k := 7) rfl h0 (by decide) rfl rfl ?_
      refine jg_A (pc' := 48) rfl rfl (fun _ _ _ => rfl) ?_
      refine jg_A (pc' := 49) rfl rfl (fun _ _ _ => rfl) ?_
      refine jg_calX (M1 := mm_X0_kindOf) (hy := 1) (pc' := 52) rfl jm_X0_kindOf (by decide) rfl h0 (by decide) ⟨Nat.le_of_ble_eq_true rfl, rfl⟩ (Nat.le_of_ble_eq_true rfl) rfl h (jg_kI (fun z104 m103 h => ?_))
      refine jg_A (pc' := 53) rfl rfl (fun _ _ _ => rfl) ?_
      refine jg_A (pc' := 54) rfl rfl (fun _ _ _ => rfl) ?_
      refine jg_A (pc' := 55) rfl rfl (fun _ _ _ => rfl) ?_
      refine jg_calX (M1 := mm_X0_firstFrom) (hy := 2) (pc' := 58) rfl jm_X0_firstFrom (by decide) rfl h0 (by decide) ⟨Nat.le_of_ble_eq_true rfl, rfl⟩ (Nat.le_of_ble_eq_true rfl) rfl h (jg_kI (fun z106 m105 h => ?_))
      refine jg_calX (M1 := mm_X0_widen) (hy := 1) (pc' := 61) rfl jm_X0_widen (by decide) rfl h0 (by decide) ⟨Nat.le_of_ble_eq_true rfl, rfl⟩ (Nat.le_of_ble_eq_true rfl) rfl h (jg_kI (fun z108 m107 h => ?_))
      refine jg_ifeq (pc' := 64) rfl rfl (fun hc => ?_) (fun hc => ?_)
      · have h := jg_t h (show jg_wr z108 = 0 from hc)
        refine jg_iinc (pc' := 69) (ls' := [.ref a0, .int (.ofInt x1), .int (.ofInt x2), .int (.ofInt (x3 + 1))]) rfl rfl rfl rfl ?_
        refine jg_goto rfl ?_
        exact h
      · have h := jg_f h (show ¬ (jg_wr z108 = 0) from hc)
        refine jg_A (pc' := 65) rfl rfl (fun _ _ _ => rfl) ?_
        refine jg_A (pc' := 66) (ls' := [.ref a0, .int (.ofInt 1), .int (.ofInt x2), .int (.ofInt x3)]) rfl rfl (fun _ _ _ => rfl) ?_
        refine jg_iinc (pc' := 69) (ls' := [.ref a0, .int (.ofInt 1), .int (.ofInt x2), .int (.ofInt (x3 + 1))]) rfl rfl rfl rfl ?_
        refine jg_goto rfl ?_
        exact h
set_option maxRecDepth 100000 in
set_option maxHeartbeats 4000000 in
theorem jb_X0_settleFollows_0 {w : Nat} {a0 : Nat} {σ : jg_M} {Q : jg_M → Prop} (h0 : jg_sh a0 = (0, 0)) (h : jg_CV w 0 mm_J7_fill_53178 [.ref (a0 + 8), .int (.ofInt 0)] σ (fun (m101 : jg_M) => jg_CI w 1 mm_X0_widen [.ref a0, .ref (a0 + 8), .int (.ofInt (m101.1 a0 3)), .int (.ofInt (jg_shl 1 (m101.1 a0 0)))] m101 (fun (z103 : Int) (m102 : jg_M) => jg_GV w 4 mm_X0_settleFollows 31 [.ref a0, .int (.ofInt 1), .int (.ofInt 0), mj_U] m102 Q))) : jg_CV w 4 mm_X0_settleFollows [.ref a0] σ Q := by
  show jg_G w 4 mm_X0_settleFollows 0 [.ref a0, mj_U, mj_U, mj_U] [] σ (jg_QV Q)
  refine jg_A (pc' := 1) rfl rfl (fun _ _ _ => rfl) ?_
  refine jg_getO (pc' := 4) (k := 8) rfl h0 (by decide) rfl rfl ?_
  refine jg_A (pc' := 5) rfl rfl (fun _ _ _ => rfl) ?_
  refine jg_calS (M1 := mm_J7_fill_53178) (hy := 0) (pc' := 8) rfl (Or.inl rfl) jm_J7_fill_53178 (by decide) rfl ⟨Nat.le_of_ble_eq_true rfl, rfl⟩ (Nat.le_of_ble_eq_true rfl) rfl h (jg_kV (fun m101 h => ?_))
  refine jg_A (pc' := 9) rfl rfl (fun _ _ _ => rfl) ?_
  refine jg_A (pc' := 10) rfl rfl (fun _ _ _ => rfl) ?_
  refine jg_getO (pc' := 13) (k := 8) rfl h0 (by decide) rfl rfl ?_
  refine jg_A (pc' := 14) rfl rfl (fun _ _ _ => rfl) ?_
  refine jg_getI (pc' := 17) (bi := 3) rfl h0 (by decide) (Or.inl rfl) rfl rfl ?_
  refine jg_A (pc' := 18) rfl rfl (fun _ _ _ => rfl) ?_
  refine jg_A (pc' := 19) rfl rfl (fun _ _ _ => rfl) ?_
  refine jg_getI (pc' := 22) (bi := 0) rfl h0 (by decide) (Or.inl rfl) rfl rfl ?_
  refine jg_ishl (pc' := 23) rfl rfl ?_
  refine jg_calX (M1 := mm_X0_widen) (hy := 1) (pc' := 26) rfl jm_X0_widen (by decide) rfl h0 (by decide) ⟨Nat.le_of_ble_eq_true rfl, rfl⟩ (Nat.le_of_ble_eq_true rfl) rfl h (jg_kI (fun z103 m102 h => ?_))
  refine jg_A (pc' := 27) rfl rfl (fun _ _ _ => rfl) ?_
  refine jg_A (pc' := 28) rfl rfl (fun _ _ _ => rfl) ?_
  refine jg_A (pc' := 29) (ls' := [.ref a0, .int (.ofInt 1), mj_U, mj_U]) rfl rfl (fun _ _ _ => rfl) ?_
  refine jg_A (pc' := 30) rfl rfl (fun _ _ _ => rfl) ?_
  refine jg_A (pc' := 31) (ls' := [.ref a0, .int (.ofInt 1), .int (.ofInt 0), mj_U]) rfl rfl (fun _ _ _ => rfl) ?_
  exact h
set_option maxRecDepth 100000 in
set_option maxHeartbeats 4000000 in
theorem jb_X0_settleFollows_31 {w : Nat} {a0 : Nat} {x1 : Int} {x2 : Int} {u3 : Value} {σ : jg_M} {Q : jg_M → Prop} (h0 : jg_sh a0 = (0, 0)) (h : (if jg_wr x1 = 0 then Q σ else (if 1000000 ≤ jg_wr x2 then Q σ else jg_GV w 4 mm_X0_settleFollows 45 [.ref a0, .int (.ofInt 0), .int (.ofInt x2), .int (.ofInt 0)] σ Q))) : jg_GV w 4 mm_X0_settleFollows 31 [.ref a0, .int (.ofInt x1), .int (.ofInt x2), u3] σ Q := by
  show jg_G w 4 mm_X0_settleFollows 31 [.ref a0, .int (.ofInt x1), .int (.ofInt x2), u3] [] σ (jg_QV Q)
  refine jg_A (pc' := 32) rfl rfl (fun _ _ _ => rfl) ?_
  refine jg_ifeq (pc' := 35) rfl rfl (fun hc => ?_) (fun hc => ?_)
  · have h := jg_t h (show jg_wr x1 = 0 from hc)
    exact jg_vret rfl rfl h
  · have h := jg_f h (show ¬ (jg_wr x1 = 0) from hc)
    refine jg_A (pc' := 36) rfl rfl (fun _ _ _ => rfl) ?_
    refine jg_A (pc' := 38) rfl rfl (fun _ _ _ => rfl) ?_
    refine jg_cge (pc' := 41) rfl rfl (fun hc => ?_) (fun hc => ?_)
    · have h := jg_t h (show 1000000 ≤ jg_wr x2 from hc)
      exact jg_vret rfl rfl h
    · have h := jg_f h (show ¬ (1000000 ≤ jg_wr x2) from hc)
      refine jg_A (pc' := 42) rfl rfl (fun _ _ _ => rfl) ?_
      refine jg_A (pc' := 43) (ls' := [.ref a0, .int (.ofInt 0), .int (.ofInt x2), u3]) rfl rfl (fun _ _ _ => rfl) ?_
      refine jg_A (pc' := 44) rfl rfl (fun _ _ _ => rfl) ?_
      refine jg_A (pc' := 45) (ls' := [.ref a0, .int (.ofInt 0), .int (.ofInt x2), .int (.ofInt 0)]) rfl rfl (fun _ _ _ => rfl) ?_
      exact h
set_option maxRecDepth 100000 in
set_option maxHeartbeats 4000000 in
theorem jb_X0_settleFollows_45 {w : Nat} {a0 : Nat} {x1 : Int} {x2 : Int} {x3 : Int} {σ : jg_M} {Q : jg_M → Prop} (h0 : jg_sh a0 = (0, 0)) (h : (if jg_wr (σ.1 a0 2) ≤ jg_wr x3 then jg_GV w 4 mm_X0_settleFollows 31 [.ref a0, .int (.ofInt x1), .int (.ofInt (x2 + 1)), .int (.ofInt x3)] σ Q else jg_CI w 0 mm_X0_uses [.ref a0, .int (.ofInt x3)] σ (fun (z102 : Int) (m101 : jg_M) => (if jg_wr z102 = 0 then jg_GV w 4 mm_X0_settleFollows 45 [.ref a0, .int (.ofInt x1), .int (.ofInt x2), .int (.ofInt (x3 + 1))] m101 Q else jg_CI w 3 mm_X0_widenFollowsBy [.ref a0, .int (.ofInt x3)] m101 (fun (z104 : Int) (m103 : jg_M) => (if jg_wr z104 = 0 then jg_GV w 4 mm_X0_settleFollows 45 [.ref a0, .int (.ofInt x1), .int (.ofInt x2), .int (.ofInt (x3 + 1))] m103 Q else jg_GV w 4 mm_X0_settleFollows 45 [.ref a0, .int (.ofInt 1), .int (.ofInt x2), .int (.ofInt (x3 + 1))] m103 Q)))))) : jg_GV w 4 mm_X0_settleFollows 45 [.ref a0, .int (.ofInt x1), .int (.ofInt x2), .int (.ofInt x3)] σ Q := by
  show jg_G w 4 mm_X0_settleFollows 45 [.ref a0, .int (.ofInt x1), .int (.ofInt x2), .int (.ofInt x3)] [] σ (jg_QV Q)
  refine jg_A (pc' := 46) rfl rfl (fun _ _ _ => rfl) ?_
  refine jg_A (pc' := 47) rfl rfl (fun _ _ _ => rfl) ?_
  refine jg_getI (pc' := 50) (bi := 2) rfl h0 (by decide) (Or.inl rfl) rfl rfl ?_
  refine jg_cge (pc' := 53) rfl rfl (fun hc => ?_) (fun hc => ?_)
  · have h := jg_t h (show jg_wr (σ.1 a0 2) ≤ jg_wr x3 from hc)
    refine jg_iinc (pc' := 80) (ls' := [.ref a0, .int (.ofInt x1), .int (.ofInt (x2 + 1)), .int (.ofInt x3)]) rfl rfl rfl rfl ?_
    refine jg_goto rfl ?_
    exact h
  · have h := jg_f h (show ¬ (jg_wr (σ.1 a0 2) ≤ jg_wr x3) from hc)
    refine jg_A (pc' := 54) rfl rfl (fun _ _ _ => rfl) ?_
    refine jg_A (pc' := 55) rfl rfl (fun _ _ _ => rfl) ?_
    refine jg_calX (M1 := mm_X0_uses) (hy := 0) (pc' := 58) rfl jm_X0_uses (by decide) rfl h0 (by decide) ⟨Nat.le_of_ble_eq_true rfl, rfl⟩ (Nat.le_of_ble_eq_true rfl) rfl h (jg_kI (fun z102 m101 h => ?_))
    refine jg_ifeq (pc' := 61) rfl rfl (fun hc => ?_) (fun hc => ?_)
    · have h := jg_t h (show jg_wr z102 = 0 from hc)
      refine jg_iinc (pc' := 74) (ls' := [.ref a0, .int (.ofInt x1), .int (.ofInt x2), .int (.ofInt (x3 + 1))]) rfl rfl rfl rfl ?_
      refine jg_goto rfl ?_
      exact h
    · have h := jg_f h (show ¬ (jg_wr z102 = 0) from hc)
      refine jg_A (pc' := 62) rfl rfl (fun _ _ _ => rfl) ?_
      refine jg_A (pc' := 63) rfl rfl (fun _ _ _ => rfl) ?_
      refine jg_calX (M1 := mm_X0_widenFollowsBy) (hy := 3) (pc' := 66) rfl jm_X0_widenFollowsBy (by decide) rfl h0 (by decide) ⟨Nat.le_of_ble_eq_true rfl, rfl⟩ (Nat.le_of_ble_eq_true rfl) rfl h (jg_kI (fun z104 m103 h => ?_))
      refine jg_ifeq (pc' := 69) rfl rfl (fun hc => ?_) (fun hc => ?_)
      · have h := jg_t h (show jg_wr z104 = 0 from hc)
        refine jg_iinc (pc' := 74) (ls' := [.ref a0, .int (.ofInt x1), .int (.ofInt x2), .int (.ofInt (x3 + 1))]) rfl rfl rfl rfl ?_
        refine jg_goto rfl ?_
        exact h
      · have h := jg_f h (show ¬ (jg_wr z104 = 0) from hc)
        refine jg_A (pc' := 70) rfl rfl (fun _ _ _ => rfl) ?_
        refine jg_A (pc' := 71) (ls' := [.ref a0, .int (.ofInt 1), .int (.ofInt x2), .int (.ofInt x3)]) rfl rfl (fun _ _ _ => rfl) ?_
        refine jg_iinc (pc' := 74) (ls' := [.ref a0, .int (.ofInt 1), .int (.ofInt x2), .int (.ofInt (x3 + 1))]) rfl rfl rfl rfl ?_
        refine jg_goto rfl ?_
        exact h
set_option maxRecDepth 100000 in
set_option maxHeartbeats 4000000 in
theorem jb_X0_widenFollowsBy_0 {w : Nat} {a0 : Nat} {x1 : Int} {σ : jg_M} {Q : Int → jg_M → Prop} (h0 : jg_sh a0 = (0, 0)) (h : jg_GI w 3 mm_X0_widenFollowsBy 4 [.ref a0, .int (.ofInt x1), .int (.ofInt 0), .int (.ofInt 0), mj_U] σ Q) : jg_CI w 3 mm_X0_widenFollowsBy [.ref a0, .int (.ofInt x1)] σ Q := by
  show jg_G w 3 mm_X0_widenFollowsBy 0 [.ref a0, .int (.ofInt x1), mj_U, mj_U, mj_U] [] σ (jg_QI Q)
  refine jg_A (pc' := 1) rfl rfl (fun _ _ _ => rfl) ?_
  refine jg_A (pc' := 2) (ls' := [.ref a0, .int (.ofInt x1), .int (.ofInt 0), mj_U, mj_U]) rfl rfl (fun _ _ _ => rfl) ?_
  refine jg_A (pc' := 3) rfl rfl (fun _ _ _ => rfl) ?_
  refine jg_A (pc' := 4) (ls' := [.ref a0, .int (.ofInt x1), .int (.ofInt 0), .int (.ofInt 0), mj_U]) rfl rfl (fun _ _ _ => rfl) ?_
  exact h
set_option maxRecDepth 100000 in
set_option maxHeartbeats 4000000 in
theorem jb_X0_widenFollowsBy_4 {w : Nat} {a0 : Nat} {x1 : Int} {x2 : Int} {x3 : Int} {u4 : Value} {σ : jg_M} {Q : Int → jg_M → Prop} (h0 : jg_sh a0 = (0, 0)) (h : jg_CI w 0 mm_X0_lengthOf [.ref a0, .int (.ofInt x1)] σ (fun (z102 : Int) (m101 : jg_M) => (if jg_wr z102 ≤ jg_wr x3 then ((jg_wr x2 = 0 ∨ jg_wr x2 = 1) ∧ Q x2 m101) else jg_CI w 2 mm_X0_firstFrom [.ref a0, .int (.ofInt x1), .int (.ofInt (x3 + 1))] m101 (fun (z104 : Int) (m103 : jg_M) => jg_CI w 2 mm_X0_isEmptyFrom [.ref a0, .int (.ofInt x1), .int (.ofInt (x3 + 1))] m103 (fun (z106 : Int) (m105 : jg_M) => (if jg_wr z106 = 0 then jg_CI w 1 mm_X0_symbolAt [.ref a0, .int (.ofInt x1), .int (.ofInt x3)] m105 (fun (z108 : Int) (m107 : jg_M) => jg_CI w 1 mm_X0_widen [.ref a0, .ref (a0 + 8), .int (.ofInt (z108 - 10)), .int (.ofInt z104)] m107 (fun (z110 : Int) (m109 : jg_M) => (if jg_wr z110 = 0 then jg_GI w 3 mm_X0_widenFollowsBy 4 [.ref a0, .int (.ofInt x1), .int (.ofInt x2), .int (.ofInt (x3 + 1)), .int (.ofInt z104)] m109 Q else jg_GI w 3 mm_X0_widenFollowsBy 4 [.ref a0, .int (.ofInt x1), .int (.ofInt 1), .int (.ofInt (x3 + 1)), .int (.ofInt z104)] m109 Q))) else jg_CI w 1 mm_X0_kindOf [.ref a0, .int (.ofInt x1)] m105 (fun (z112 : Int) (m111 : jg_M) => jg_CI w 1 mm_X0_followOf [.ref a0, .int (.ofInt z112)] m111 (fun (z114 : Int) (m113 : jg_M) => ∀ t115 : Int, t115 = (jg_or z104 z114) → jg_CI w 1 mm_X0_symbolAt [.ref a0, .int (.ofInt x1), .int (.ofInt x3)] m113 (fun (z117 : Int) (m116 : jg_M) => jg_CI w 1 mm_X0_widen [.ref a0, .ref (a0 + 8), .int (.ofInt (z117 - 10)), .int (.ofInt t115)] m116 (fun (z119 : Int) (m118 : jg_M) => (if jg_wr z119 = 0 then jg_GI w 3 mm_X0_widenFollowsBy 4 [.ref a0, .int (.ofInt x1), .int (.ofInt x2), .int (.ofInt (x3 + 1)), .int (.ofInt t115)] m118 Q else jg_GI w 3 mm_X0_widenFollowsBy 4 [.ref a0, .int (.ofInt x1), .int (.ofInt 1), .int (.ofInt (x3 + 1)), .int (.ofInt t115)] m118 Q))))))))))) : jg_GI w 3 mm_X0_widenFollowsBy 4 [.ref a0, .int (.ofInt x1), .int (.ofInt x2), .int (.ofInt x3), u4] σ Q := by
  show jg_G w 3 mm_X0_widenFollowsBy 4 [.ref a0, .int (.ofInt x1), .int (.ofInt x2), .int (.ofInt x3), u4] [] σ (jg_QI Q)
  refine jg_A (pc' := 5) rfl rfl (fun _ _ _ => rfl) ?_
  refine jg_A (pc' := 6) rfl rfl (fun _ _ _ => rfl) ?_
  refine jg_A (pc' := 7) rfl rfl (fun _ _ _ => rfl) ?_
  refine jg_calX (M1 := mm_X0_lengthOf) (hy := 0) (pc' := 10) rfl jm_X0_lengthOf (by decide) rfl h0 (by decide) ⟨Nat.le_of_ble_eq_true rfl, rfl⟩ (Nat.le_of_ble_eq_true rfl) rfl h (jg_kI (fun z102 m101 h => ?_))
  refine jg_cge (pc' := 13) rfl rfl (fun hc => ?_) (fun hc => ?_)
  · have h := jg_t h (show jg_wr z102 ≤ jg_wr x3 from hc)
    refine jg_A (pc' := 79) rfl rfl (fun _ _ _ => rfl) ?_
    exact jg_zret rfl rfl h.1 h.2
  · have h := jg_f h (show ¬ (jg_wr z102 ≤ jg_wr x3) from hc)
    refine jg_A (pc' := 14) rfl rfl (fun _ _ _ => rfl) ?_
    refine jg_A (pc' := 15) rfl rfl (fun _ _ _ => rfl) ?_
    refine jg_A (pc' := 16) rfl rfl (fun _ _ _ => rfl) ?_
    refine jg_A (pc' := 17) rfl rfl (fun _ _ _ => rfl) ?_
    refine jg_iadd (pc' := 18) rfl rfl ?_
    refine jg_calX (M1 := mm_X0_firstFrom) (hy := 2) (pc' := 21) rfl jm_X0_firstFrom (by decide) rfl h0 (by decide) ⟨Nat.le_of_ble_eq_true rfl, rfl⟩ (Nat.le_of_ble_eq_true rfl) rfl h (jg_kI (fun z104 m103 h => ?_))
    refine jg_A (pc' := 23) (ls' := [.ref a0, .int (.ofInt x1), .int (.ofInt x2), .int (.ofInt x3), .int (.ofInt z104)]) rfl rfl (fun _ _ _ => rfl) ?_
    refine jg_A (pc' := 24) rfl rfl (fun _ _ _ => rfl) ?_
    refine jg_A (pc' := 25) rfl rfl (fun _ _ _ => rfl) ?_
    refine jg_A (pc' := 26) rfl rfl (fun _ _ _ => rfl) ?_
    refine jg_A (pc' := 27) rfl rfl (fun _ _ _ => rfl) ?_
    refine jg_iadd (pc' := 28) rfl rfl ?_
    refine jg_calX (M1 := mm_X0_isEmptyFrom) (hy := 2) (pc' := 31) rfl jm_X0_isEmptyFrom (by decide) rfl h0 (by decide) ⟨Nat.le_of_ble_eq_true rfl, rfl⟩ (Nat.le_of_ble_eq_true rfl) rfl h (jg_kI (fun z106 m105 h => ?_))
    refine jg_ifeq (pc' := 34) rfl rfl (fun hc => ?_) (fun hc => ?_)
    · have h := jg_t h (show jg_wr z106 = 0 from hc)
      refine jg_A (pc' := 49) rfl rfl (fun _ _ _ => rfl) ?_
      refine jg_A (pc' := 50) rfl rfl (fun _ _ _ => rfl) ?_
      refine jg_getO (pc' := 53) (k := 8) rfl h0 (by decide) rfl rfl ?_
      refine jg_A (pc' := 54) rfl rfl (fun _ _ _ => rfl) ?_
      refine jg_A (pc' := 55) rfl rfl (fun _ _ _ => rfl) ?_
      refine jg_A (pc' := 56) rfl rfl (fun _ _ _ => rfl) ?_
      refine jg_calX (M1 := mm_X0_symbolAt) (hy := 1) (pc' := 59) rfl jm_X0_symbolAt (by decide) rfl h0 (by decide) ⟨Nat.le_of_ble_eq_true rfl, rfl⟩ (Nat.le_of_ble_eq_true rfl) rfl h (jg_kI (fun z108 m107 h => ?_))
      refine jg_A (pc' := 61) rfl rfl (fun _ _ _ => rfl) ?_
      refine jg_isub (pc' := 62) rfl rfl ?_
      refine jg_A (pc' := 64) rfl rfl (fun _ _ _ => rfl) ?_
      refine jg_calX (M1 := mm_X0_widen) (hy := 1) (pc' := 67) rfl jm_X0_widen (by decide) rfl h0 (by decide) ⟨Nat.le_of_ble_eq_true rfl, rfl⟩ (Nat.le_of_ble_eq_true rfl) rfl h (jg_kI (fun z110 m109 h => ?_))
      refine jg_ifeq (pc' := 70) rfl rfl (fun hc => ?_) (fun hc => ?_)
      · have h := jg_t h (show jg_wr z110 = 0 from hc)
        refine jg_iinc (pc' := 75) (ls' := [.ref a0, .int (.ofInt x1), .int (.ofInt x2), .int (.ofInt (x3 + 1)), .int (.ofInt z104)]) rfl rfl rfl rfl ?_
        refine jg_goto rfl ?_
        exact h
      · have h := jg_f h (show ¬ (jg_wr z110 = 0) from hc)
        refine jg_A (pc' := 71) rfl rfl (fun _ _ _ => rfl) ?_
        refine jg_A (pc' := 72) (ls' := [.ref a0, .int (.ofInt x1), .int (.ofInt 1), .int (.ofInt x3), .int (.ofInt z104)]) rfl rfl (fun _ _ _ => rfl) ?_
        refine jg_iinc (pc' := 75) (ls' := [.ref a0, .int (.ofInt x1), .int (.ofInt 1), .int (.ofInt (x3 + 1)), .int (.ofInt z104)]) rfl rfl rfl rfl ?_
        refine jg_goto rfl ?_
        exact h
    · have h := jg_f h (show ¬ (jg_wr z106 = 0) from hc)
      refine jg_A (pc' := 36) rfl rfl (fun _ _ _ => rfl) ?_
      refine jg_A (pc' := 37) rfl rfl (fun _ _ _ => rfl) ?_
      refine jg_A (pc' := 38) rfl rfl (fun _ _ _ => rfl) ?_
      refine jg_A (pc' := 39) rfl rfl (fun _ _ _ => rfl) ?_
      refine jg_calX (M1 := mm_X0_kindOf) (hy := 1) (pc' := 42) rfl jm_X0_kindOf (by decide) rfl h0 (by decide) ⟨Nat.le_of_ble_eq_true rfl, rfl⟩ (Nat.le_of_ble_eq_true rfl) rfl h (jg_kI (fun z112 m111 h => ?_))
      refine jg_calX (M1 := mm_X0_followOf) (hy := 1) (pc' := 45) rfl jm_X0_followOf (by decide) rfl h0 (by decide) ⟨Nat.le_of_ble_eq_true rfl, rfl⟩ (Nat.le_of_ble_eq_true rfl) rfl h (jg_kI (fun z114 m113 h => ?_))
      refine jg_ior (pc' := 46) rfl rfl ?_
      refine jg_nm (F := fun t115 => jg_G w 3 mm_X0_widenFollowsBy 46 [.ref a0, .int (.ofInt x1), .int (.ofInt x2), .int (.ofInt x3), .int (.ofInt z104)] [.int (.ofInt t115)] m113 (jg_QI Q)) (jg_or z104 z114) (fun t115 ht115 => ?_)
      have h := h t115 ht115
      refine jg_A (pc' := 48) (ls' := [.ref a0, .int (.ofInt x1), .int (.ofInt x2), .int (.ofInt x3), .int (.ofInt t115)]) rfl rfl (fun _ _ _ => rfl) ?_
      refine jg_A (pc' := 49) rfl rfl (fun _ _ _ => rfl) ?_
      refine jg_A (pc' := 50) rfl rfl (fun _ _ _ => rfl) ?_
      refine jg_getO (pc' := 53) (k := 8) rfl h0 (by decide) rfl rfl ?_
      refine jg_A (pc' := 54) rfl rfl (fun _ _ _ => rfl) ?_
      refine jg_A (pc' := 55) rfl rfl (fun _ _ _ => rfl) ?_
      refine jg_A (pc' := 56) rfl rfl (fun _ _ _ => rfl) ?_
      refine jg_calX (M1 := mm_X0_symbolAt) (hy := 1) (pc' := 59) rfl jm_X0_symbolAt (by decide) rfl h0 (by decide) ⟨Nat.le_of_ble_eq_true rfl, rfl⟩ (Nat.le_of_ble_eq_true rfl) rfl h (jg_kI (fun z117 m116 h => ?_))
      refine jg_A (pc' := 61) rfl rfl (fun _ _ _ => rfl) ?_
      refine jg_isub (pc' := 62) rfl rfl ?_
      refine jg_A (pc' := 64) rfl rfl (fun _ _ _ => rfl) ?_
      refine jg_calX (M1 := mm_X0_widen) (hy := 1) (pc' := 67) rfl jm_X0_widen (by decide) rfl h0 (by decide) ⟨Nat.le_of_ble_eq_true rfl, rfl⟩ (Nat.le_of_ble_eq_true rfl) rfl h (jg_kI (fun z119 m118 h => ?_))
      refine jg_ifeq (pc' := 70) rfl rfl (fun hc => ?_) (fun hc => ?_)
      · have h := jg_t h (show jg_wr z119 = 0 from hc)
        refine jg_iinc (pc' := 75) (ls' := [.ref a0, .int (.ofInt x1), .int (.ofInt x2), .int (.ofInt (x3 + 1)), .int (.ofInt t115)]) rfl rfl rfl rfl ?_
        refine jg_goto rfl ?_
        exact h
      · have h := jg_f h (show ¬ (jg_wr z119 = 0) from hc)
        refine jg_A (pc' := 71) rfl rfl (fun _ _ _ => rfl) ?_
        refine jg_A (pc' := 72) (ls' := [.ref a0, .int (.ofInt x1), .int (.ofInt 1), .int (.ofInt x3), .int (.ofInt t115)]) rfl rfl (fun _ _ _ => rfl) ?_
        refine jg_iinc (pc' := 75) (ls' := [.ref a0, .int (.ofInt x1), .int (.ofInt 1), .int (.ofInt (x3 + 1)), .int (.ofInt t115)]) rfl rfl rfl rfl ?_
        refine jg_goto rfl ?_
        exact h
set_option maxRecDepth 100000 in
set_option maxHeartbeats 4000000 in
theorem jb_X0_widen_0 {w : Nat} {a0 : Nat} {a1 : Nat} {n1 : Nat} {x2 : Int} {x3 : Int} {σ : jg_M} {Q : Int → jg_M → Prop} (h0 : jg_sh a0 = (0, 0)) (h1 : jg_sh a1 = (20, n1)) (h : jg_CI w 0 mm_X0_hasKind [.ref a0, .int (.ofInt x2)] σ (fun (z102 : Int) (m101 : jg_M) => (if jg_wr z102 = 0 then Q 0 m101 else (if jg_wr (n1 : Int) ≤ jg_wr x2 then Q 0 m101 else ((0 : Int) ≤ jg_wr x2 ∧ jg_wr x2 < (n1 : Int)) ∧ ((0 : Int) ≤ jg_wr x2 ∧ jg_wr x2 < (n1 : Int)) ∧ (if jg_wr (jg_or (m101.1 a1 (jg_wr x2)) x3) = jg_wr (m101.1 a1 (jg_wr x2)) then Q 0 m101 else ((0 : Int) ≤ jg_wr x2 ∧ jg_wr x2 < (n1 : Int)) ∧ ((0 : Int) ≤ (jg_wr x2) ∧ (jg_wr x2) < (n1 : Int)) ∧ ∀ m103 : jg_M, m103 = jg_sI m101 a1 (jg_wr x2) (jg_or (m101.1 a1 (jg_wr x2)) x3) → Q 1 m103))))) : jg_CI w 1 mm_X0_widen [.ref a0, .ref a1, .int (.ofInt x2), .int (.ofInt x3)] σ Q := by
  show jg_G w 1 mm_X0_widen 0 [.ref a0, .ref a1, .int (.ofInt x2), .int (.ofInt x3)] [] σ (jg_QI Q)
  refine jg_A (pc' := 1) rfl rfl (fun _ _ _ => rfl) ?_
  refine jg_A (pc' := 2) rfl rfl (fun _ _ _ => rfl) ?_
  refine jg_calX (M1 := mm_X0_hasKind) (hy := 0) (pc' := 5) rfl jm_X0_hasKind (by decide) rfl h0 (by decide) ⟨Nat.le_of_ble_eq_true rfl, rfl⟩ (Nat.le_of_ble_eq_true rfl) rfl h (jg_kI (fun z102 m101 h => ?_))
  refine jg_ifeq (pc' := 8) rfl rfl (fun hc => ?_) (fun hc => ?_)
  · have h := jg_t h (show jg_wr z102 = 0 from hc)
    refine jg_A (pc' := 26) rfl rfl (fun _ _ _ => rfl) ?_
    exact jg_zret rfl rfl (by decide) h
  · have h := jg_f h (show ¬ (jg_wr z102 = 0) from hc)
    refine jg_A (pc' := 9) rfl rfl (fun _ _ _ => rfl) ?_
    refine jg_A (pc' := 10) rfl rfl (fun _ _ _ => rfl) ?_
    refine jg_alen (pc' := 11) (ni := (n1 : Int)) rfl h1 (by decide) rfl rfl ?_
    refine jg_cge (pc' := 14) rfl rfl (fun hc => ?_) (fun hc => ?_)
    · have h := jg_t h (show jg_wr (n1 : Int) ≤ jg_wr x2 from hc)
      refine jg_A (pc' := 26) rfl rfl (fun _ _ _ => rfl) ?_
      exact jg_zret rfl rfl (by decide) h
    · have h := jg_f h (show ¬ (jg_wr (n1 : Int) ≤ jg_wr x2) from hc)
      refine jg_A (pc' := 15) rfl rfl (fun _ _ _ => rfl) ?_
      refine jg_A (pc' := 16) rfl rfl (fun _ _ _ => rfl) ?_
      obtain ⟨hg, h⟩ := h
      refine jg_iald (pc' := 17) rfl h1 hg rfl ?_
      refine jg_A (pc' := 18) rfl rfl (fun _ _ _ => rfl) ?_
      refine jg_ior (pc' := 19) rfl rfl ?_
      refine jg_A (pc' := 20) rfl rfl (fun _ _ _ => rfl) ?_
      refine jg_A (pc' := 21) rfl rfl (fun _ _ _ => rfl) ?_
      obtain ⟨hg, h⟩ := h
      refine jg_iald (pc' := 22) rfl h1 hg rfl ?_
      refine jg_cne (pc' := 25) rfl rfl (fun hc => ?_) (fun hc => ?_)
      · have h := jg_t h (show jg_wr (jg_or (m101.1 a1 (jg_wr x2)) x3) = jg_wr (m101.1 a1 (jg_wr x2)) from hc)
        refine jg_A (pc' := 26) rfl rfl (fun _ _ _ => rfl) ?_
        exact jg_zret rfl rfl (by decide) h
      · have h := jg_f h (show ¬ (jg_wr (jg_or (m101.1 a1 (jg_wr x2)) x3) = jg_wr (m101.1 a1 (jg_wr x2))) from hc)
        refine jg_A (pc' := 28) rfl rfl (fun _ _ _ => rfl) ?_
        refine jg_A (pc' := 29) rfl rfl (fun _ _ _ => rfl) ?_
        refine jg_A (pc' := 30) rfl rfl (fun _ _ _ => rfl) ?_
        obtain ⟨hg, h⟩ := h
        refine jg_iald (pc' := 31) rfl h1 hg rfl ?_
        refine jg_A (pc' := 32) rfl rfl (fun _ _ _ => rfl) ?_
        refine jg_ior (pc' := 33) rfl rfl ?_
        obtain ⟨hg, h⟩ := h
        refine jg_iast (pc' := 34) rfl h1 hg rfl (fun m103 hm103 => ?_)
        have h := h m103 hm103
        refine jg_A (pc' := 35) rfl rfl (fun _ _ _ => rfl) ?_
        exact jg_zret rfl rfl (by decide) h
set_option maxRecDepth 100000 in
set_option maxHeartbeats 4000000 in
theorem jb_X1_forget_0 {w : Nat} {a0 : Nat} {σ : jg_M} {Q : jg_M → Prop} (h0 : jg_sh a0 = (1, 0)) (h : ∀ m101 : jg_M, m101 = jg_sI σ a0 0 0 → ∀ m102 : jg_M, m102 = jg_sI m101 a0 1 (-1) → Q m102) : jg_CV w 0 mm_X1_forget [.ref a0] σ Q := by
  show jg_G w 0 mm_X1_forget 0 [.ref a0] [] σ (jg_QV Q)
  refine jg_A (pc' := 1) rfl rfl (fun _ _ _ => rfl) ?_
  refine jg_A (pc' := 2) rfl rfl (fun _ _ _ => rfl) ?_
  refine jg_putI (pc' := 5) (bi := 0) rfl h0 (by decide) rfl rfl rfl rfl (fun m101 hm101 => ?_)
  have h := h m101 hm101
  refine jg_A (pc' := 6) rfl rfl (fun _ _ _ => rfl) ?_
  refine jg_A (pc' := 7) rfl rfl (fun _ _ _ => rfl) ?_
  refine jg_putI (pc' := 10) (bi := 1) rfl h0 (by decide) rfl rfl rfl rfl (fun m102 hm102 => ?_)
  have h := h m102 hm102
  exact jg_vret rfl rfl h
set_option maxRecDepth 100000 in
set_option maxHeartbeats 4000000 in
theorem jb_X1_addNote_0 {w : Nat} {a0 : Nat} {x1 : Int} {x2 : Int} {σ : jg_M} {Q : Int → jg_M → Prop} (h0 : jg_sh a0 = (1, 0)) (h : (if jg_wr (σ.1 a0 0) < 24 then ((0 : Int) ≤ (jg_wr (σ.1 a0 0)) ∧ (jg_wr (σ.1 a0 0)) < (24 : Int)) ∧ ∀ m101 : jg_M, m101 = jg_sI σ (a0 + 1) (jg_wr (σ.1 a0 0)) x1 → ((0 : Int) ≤ (jg_wr (m101.1 a0 0)) ∧ (jg_wr (m101.1 a0 0)) < (24 : Int)) ∧ ∀ m102 : jg_M, m102 = jg_sI m101 (a0 + 2) (jg_wr (m101.1 a0 0)) (jg_nar x2) → ((0 : Int) ≤ (jg_wr (m102.1 a0 0)) ∧ (jg_wr (m102.1 a0 0)) < (24 : Int)) ∧ ∀ m103 : jg_M, m103 = jg_sI m102 (a0 + 3) (jg_wr (m102.1 a0 0)) (-1) → ∀ m104 : jg_M, m104 = jg_sI m103 a0 0 ((m103.1 a0 0) + 1) → Q ((m104.1 a0 0) - 1) m104 else Q (-1) σ)) : jg_CI w 0 mm_X1_addNote [.ref a0, .int (.ofInt x1), .int (.ofInt x2)] σ Q := by
  show jg_G w 0 mm_X1_addNote 0 [.ref a0, .int (.ofInt x1), .int (.ofInt x2)] [] σ (jg_QI Q)
  refine jg_A (pc' := 1) rfl rfl (fun _ _ _ => rfl) ?_
  refine jg_getI (pc' := 4) (bi := 0) rfl h0 (by decide) (Or.inl rfl) rfl rfl ?_
  refine jg_A (pc' := 6) rfl rfl (fun _ _ _ => rfl) ?_
  refine jg_clt (pc' := 9) rfl rfl (fun hc => ?_) (fun hc => ?_)
  · have h := jg_t h (show jg_wr (σ.1 a0 0) < 24 from hc)
    refine jg_A (pc' := 12) rfl rfl (fun _ _ _ => rfl) ?_
    refine jg_getO (pc' := 15) (k := 1) rfl h0 (by decide) rfl rfl ?_
    refine jg_A (pc' := 16) rfl rfl (fun _ _ _ => rfl) ?_
    refine jg_getI (pc' := 19) (bi := 0) rfl h0 (by decide) (Or.inl rfl) rfl rfl ?_
    refine jg_A (pc' := 20) rfl rfl (fun _ _ _ => rfl) ?_
    obtain ⟨hg, h⟩ := h
    refine jg_iast (pc' := 21) rfl (jg_sX1_2 h0) hg rfl (fun m101 hm101 => ?_)
    have h := h m101 hm101
    refine jg_A (pc' := 22) rfl rfl (fun _ _ _ => rfl) ?_
    refine jg_getO (pc' := 25) (k := 2) rfl h0 (by decide) rfl rfl ?_
    refine jg_A (pc' := 26) rfl rfl (fun _ _ _ => rfl) ?_
    refine jg_getI (pc' := 29) (bi := 0) rfl h0 (by decide) (Or.inl rfl) rfl rfl ?_
    refine jg_A (pc' := 30) rfl rfl (fun _ _ _ => rfl) ?_
    obtain ⟨hg, h⟩ := h
    refine jg_zast (pc' := 31) rfl (jg_sX1_3 h0) hg rfl (fun m102 hm102 => ?_)
    have h := h m102 hm102
    refine jg_A (pc' := 32) rfl rfl (fun _ _ _ => rfl) ?_
    refine jg_getO (pc' := 35) (k := 3) rfl h0 (by decide) rfl rfl ?_
    refine jg_A (pc' := 36) rfl rfl (fun _ _ _ => rfl) ?_
    refine jg_getI (pc' := 39) (bi := 0) rfl h0 (by decide) (Or.inl rfl) rfl rfl ?_
    refine jg_A (pc' := 40) rfl rfl (fun _ _ _ => rfl) ?_
    obtain ⟨hg, h⟩ := h
    refine jg_iast (pc' := 41) rfl (jg_sX1_4 h0) hg rfl (fun m103 hm103 => ?_)
    have h := h m103 hm103
    refine jg_A (pc' := 42) rfl rfl (fun _ _ _ => rfl) ?_
    refine jg_A (pc' := 43) rfl rfl (fun _ _ _ => rfl) ?_
    refine jg_getI (pc' := 46) (bi := 0) rfl h0 (by decide) (Or.inl rfl) rfl rfl ?_
    refine jg_A (pc' := 47) rfl rfl (fun _ _ _ => rfl) ?_
    refine jg_iadd (pc' := 48) rfl rfl ?_
    refine jg_putI (pc' := 51) (bi := 0) rfl h0 (by decide) rfl rfl rfl rfl (fun m104 hm104 => ?_)
    have h := h m104 hm104
    refine jg_A (pc' := 52) rfl rfl (fun _ _ _ => rfl) ?_
    refine jg_getI (pc' := 55) (bi := 0) rfl h0 (by decide) (Or.inl rfl) rfl rfl ?_
    refine jg_A (pc' := 56) rfl rfl (fun _ _ _ => rfl) ?_
    refine jg_isub (pc' := 57) rfl rfl ?_
    exact jg_iret rfl rfl h
  · have h := jg_f h (show ¬ (jg_wr (σ.1 a0 0) < 24) from hc)
    refine jg_A (pc' := 10) rfl rfl (fun _ _ _ => rfl) ?_
    exact jg_iret rfl rfl h
set_option maxRecDepth 100000 in
set_option maxHeartbeats 4000000 in
theorem jb_X1_addStrike_0 {w : Nat} {a0 : Nat} {x1 : Int} {σ : jg_M} {Q : Int → jg_M → Prop} (h0 : jg_sh a0 = (1, 0)) (h : (if jg_wr x1 < 0 then Q (-1) σ else (if jg_wr (σ.1 a0 0) ≤ jg_wr x1 then Q (-1) σ else (if jg_wr (σ.1 a0 0) < 24 then ((0 : Int) ≤ (jg_wr (σ.1 a0 0)) ∧ (jg_wr (σ.1 a0 0)) < (24 : Int)) ∧ ∀ m101 : jg_M, m101 = jg_sI σ (a0 + 1) (jg_wr (σ.1 a0 0)) (-1) → ((0 : Int) ≤ (jg_wr (m101.1 a0 0)) ∧ (jg_wr (m101.1 a0 0)) < (24 : Int)) ∧ ∀ m102 : jg_M, m102 = jg_sI m101 (a0 + 3) (jg_wr (m101.1 a0 0)) x1 → ∀ m103 : jg_M, m103 = jg_sI m102 a0 0 ((m102.1 a0 0) + 1) → Q ((m103.1 a0 0) - 1) m103 else Q (-1) σ)))) : jg_CI w 0 mm_X1_addStrike [.ref a0, .int (.ofInt x1)] σ Q := by
  show jg_G w 0 mm_X1_addStrike 0 [.ref a0, .int (.ofInt x1)] [] σ (jg_QI Q)
  refine jg_A (pc' := 1) rfl rfl (fun _ _ _ => rfl) ?_
  refine jg_iflt (pc' := 4) rfl rfl (fun hc => ?_) (fun hc => ?_)
  · have h := jg_t h (show jg_wr x1 < 0 from hc)
    refine jg_A (pc' := 22) rfl rfl (fun _ _ _ => rfl) ?_
    exact jg_iret rfl rfl h
  · have h := jg_f h (show ¬ (jg_wr x1 < 0) from hc)
    refine jg_A (pc' := 5) rfl rfl (fun _ _ _ => rfl) ?_
    refine jg_A (pc' := 6) rfl rfl (fun _ _ _ => rfl) ?_
    refine jg_getI (pc' := 9) (bi := 0) rfl h0 (by decide) (Or.inl rfl) rfl rfl ?_
    refine jg_cge (pc' := 12) rfl rfl (fun hc => ?_) (fun hc => ?_)
    · have h := jg_t h (show jg_wr (σ.1 a0 0) ≤ jg_wr x1 from hc)
      refine jg_A (pc' := 22) rfl rfl (fun _ _ _ => rfl) ?_
      exact jg_iret rfl rfl h
    · have h := jg_f h (show ¬ (jg_wr (σ.1 a0 0) ≤ jg_wr x1) from hc)
      refine jg_A (pc' := 13) rfl rfl (fun _ _ _ => rfl) ?_
      refine jg_getI (pc' := 16) (bi := 0) rfl h0 (by decide) (Or.inl rfl) rfl rfl ?_
      refine jg_A (pc' := 18) rfl rfl (fun _ _ _ => rfl) ?_
      refine jg_clt (pc' := 21) rfl rfl (fun hc => ?_) (fun hc => ?_)
      · have h := jg_t h (show jg_wr (σ.1 a0 0) < 24 from hc)
        refine jg_A (pc' := 24) rfl rfl (fun _ _ _ => rfl) ?_
        refine jg_getO (pc' := 27) (k := 1) rfl h0 (by decide) rfl rfl ?_
        refine jg_A (pc' := 28) rfl rfl (fun _ _ _ => rfl) ?_
        refine jg_getI (pc' := 31) (bi := 0) rfl h0 (by decide) (Or.inl rfl) rfl rfl ?_
        refine jg_A (pc' := 32) rfl rfl (fun _ _ _ => rfl) ?_
        obtain ⟨hg, h⟩ := h
        refine jg_iast (pc' := 33) rfl (jg_sX1_2 h0) hg rfl (fun m101 hm101 => ?_)
        have h := h m101 hm101
        refine jg_A (pc' := 34) rfl rfl (fun _ _ _ => rfl) ?_
        refine jg_getO (pc' := 37) (k := 3) rfl h0 (by decide) rfl rfl ?_
        refine jg_A (pc' := 38) rfl rfl (fun _ _ _ => rfl) ?_
        refine jg_getI (pc' := 41) (bi := 0) rfl h0 (by decide) (Or.inl rfl) rfl rfl ?_
        refine jg_A (pc' := 42) rfl rfl (fun _ _ _ => rfl) ?_
        obtain ⟨hg, h⟩ := h
        refine jg_iast (pc' := 43) rfl (jg_sX1_4 h0) hg rfl (fun m102 hm102 => ?_)
        have h := h m102 hm102
        refine jg_A (pc' := 44) rfl rfl (fun _ _ _ => rfl) ?_
        refine jg_A (pc' := 45) rfl rfl (fun _ _ _ => rfl) ?_
        refine jg_getI (pc' := 48) (bi := 0) rfl h0 (by decide) (Or.inl rfl) rfl rfl ?_
        refine jg_A (pc' := 49) rfl rfl (fun _ _ _ => rfl) ?_
        refine jg_iadd (pc' := 50) rfl rfl ?_
        refine jg_putI (pc' := 53) (bi := 0) rfl h0 (by decide) rfl rfl rfl rfl (fun m103 hm103 => ?_)
        have h := h m103 hm103
        refine jg_A (pc' := 54) rfl rfl (fun _ _ _ => rfl) ?_
        refine jg_getI (pc' := 57) (bi := 0) rfl h0 (by decide) (Or.inl rfl) rfl rfl ?_
        refine jg_A (pc' := 58) rfl rfl (fun _ _ _ => rfl) ?_
        refine jg_isub (pc' := 59) rfl rfl ?_
        exact jg_iret rfl rfl h
      · have h := jg_f h (show ¬ (jg_wr (σ.1 a0 0) < 24) from hc)
        refine jg_A (pc' := 22) rfl rfl (fun _ _ _ => rfl) ?_
        exact jg_iret rfl rfl h
set_option maxRecDepth 100000 in
set_option maxHeartbeats 4000000 in
theorem jb_X1_limit_0 {w : Nat} {a0 : Nat} {x1 : Int} {σ : jg_M} {Q : Int → jg_M → Prop} (h0 : jg_sh a0 = (1, 0)) (h : (if jg_wr x1 < (-1) then Q 0 σ else (if jg_wr x1 ≤ jg_wr (σ.1 a0 0) then ∀ m101 : jg_M, m101 = jg_sI σ a0 1 x1 → Q 1 m101 else Q 0 σ))) : jg_CI w 0 mm_X1_limit [.ref a0, .int (.ofInt x1)] σ Q := by
  show jg_G w 0 mm_X1_limit 0 [.ref a0, .int (.ofInt x1)] [] σ (jg_QI Q)
  refine jg_A (pc' := 1) rfl rfl (fun _ _ _ => rfl) ?_
  refine jg_A (pc' := 2) rfl rfl (fun _ _ _ => rfl) ?_
  refine jg_clt (pc' := 5) rfl rfl (fun hc => ?_) (fun hc => ?_)
  · have h := jg_t h (show jg_wr x1 < (-1) from hc)
    refine jg_A (pc' := 14) rfl rfl (fun _ _ _ => rfl) ?_
    exact jg_zret rfl rfl (by decide) h
  · have h := jg_f h (show ¬ (jg_wr x1 < (-1)) from hc)
    refine jg_A (pc' := 6) rfl rfl (fun _ _ _ => rfl) ?_
    refine jg_A (pc' := 7) rfl rfl (fun _ _ _ => rfl) ?_
    refine jg_getI (pc' := 10) (bi := 0) rfl h0 (by decide) (Or.inl rfl) rfl rfl ?_
    refine jg_cle (pc' := 13) rfl rfl (fun hc => ?_) (fun hc => ?_)
    · have h := jg_t h (show jg_wr x1 ≤ jg_wr (σ.1 a0 0) from hc)
      refine jg_A (pc' := 16) rfl rfl (fun _ _ _ => rfl) ?_
      refine jg_A (pc' := 17) rfl rfl (fun _ _ _ => rfl) ?_
      refine jg_putI (pc' := 20) (bi := 1) rfl h0 (by decide) rfl rfl rfl rfl (fun m101 hm101 => ?_)
      have h := h m101 hm101
      refine jg_A (pc' := 21) rfl rfl (fun _ _ _ => rfl) ?_
      exact jg_zret rfl rfl (by decide) h
    · have h := jg_f h (show ¬ (jg_wr x1 ≤ jg_wr (σ.1 a0 0)) from hc)
      refine jg_A (pc' := 14) rfl rfl (fun _ _ _ => rfl) ?_
      exact jg_zret rfl rfl (by decide) h
set_option maxRecDepth 100000 in
set_option maxHeartbeats 4000000 in
theorem jb_X1_knownBy_0 {w : Nat} {a0 : Nat} {σ : jg_M} {Q : Int → jg_M → Prop} (h0 : jg_sh a0 = (1, 0)) (h : (if jg_wr (σ.1 a0 1) = (-1) then Q (σ.1 a0 0) σ else Q (σ.1 a0 1) σ)) : jg_CI w 0 mm_X1_knownBy [.ref a0] σ Q := by
  show jg_G w 0 mm_X1_knownBy 0 [.ref a0] [] σ (jg_QI Q)
  refine jg_A (pc' := 1) rfl rfl (fun _ _ _ => rfl) ?_
  refine jg_getI (pc' := 4) (bi := 1) rfl h0 (by decide) (Or.inl rfl) rfl rfl ?_
  refine jg_A (pc' := 5) rfl rfl (fun _ _ _ => rfl) ?_
  refine jg_cne (pc' := 8) rfl rfl (fun hc => ?_) (fun hc => ?_)
  · have h := jg_t h (show jg_wr (σ.1 a0 1) = (-1) from hc)
    refine jg_A (pc' := 9) rfl rfl (fun _ _ _ => rfl) ?_
    refine jg_getI (pc' := 12) (bi := 0) rfl h0 (by decide) (Or.inl rfl) rfl rfl ?_
    refine jg_goto rfl ?_
    exact jg_iret rfl rfl h
  · have h := jg_f h (show ¬ (jg_wr (σ.1 a0 1) = (-1)) from hc)
    refine jg_A (pc' := 16) rfl rfl (fun _ _ _ => rfl) ?_
    refine jg_getI (pc' := 19) (bi := 1) rfl h0 (by decide) (Or.inl rfl) rfl rfl ?_
    exact jg_iret rfl rfl h
set_option maxRecDepth 100000 in
set_option maxHeartbeats 4000000 in
theorem jb_X1_knownNotes_0 {w : Nat} {a0 : Nat} {σ : jg_M} {Q : Int → jg_M → Prop} (h0 : jg_sh a0 = (1, 0)) (h : jg_CI w 0 mm_X1_knownBy [.ref a0] σ (fun (z102 : Int) (m101 : jg_M) => ∀ t103 : Int, t103 = ((if 24 < jg_wr z102 then 24 else z102) - 1) → jg_GI w 1 mm_X1_knownNotes 16 [.ref a0, .int (.ofInt 0), .int (.ofInt 0), .int (.ofInt t103)] m101 Q)) : jg_CI w 1 mm_X1_knownNotes [.ref a0] σ Q := by
  show jg_G w 1 mm_X1_knownNotes 0 [.ref a0, mj_U, mj_U, mj_U] [] σ (jg_QI Q)
  refine jg_A (pc' := 1) rfl rfl (fun _ _ _ => rfl) ?_
  refine jg_A (pc' := 2) (ls' := [.ref a0, .int (.ofInt 0), mj_U, mj_U]) rfl rfl (fun _ _ _ => rfl) ?_
  refine jg_A (pc' := 3) rfl rfl (fun _ _ _ => rfl) ?_
  refine jg_A (pc' := 4) (ls' := [.ref a0, .int (.ofInt 0), .int (.ofInt 0), mj_U]) rfl rfl (fun _ _ _ => rfl) ?_
  refine jg_A (pc' := 5) rfl rfl (fun _ _ _ => rfl) ?_
  refine jg_calX (M1 := mm_X1_knownBy) (hy := 0) (pc' := 8) rfl jm_X1_knownBy (by decide) rfl h0 (by decide) ⟨Nat.le_of_ble_eq_true rfl, rfl⟩ (Nat.le_of_ble_eq_true rfl) rfl h (jg_kI (fun z102 m101 h => ?_))
  refine jg_A (pc' := 10) rfl rfl (fun _ _ _ => rfl) ?_
  refine jg_min (pc' := 13) rfl (by decide) (Nat.le_of_ble_eq_true rfl) rfl ?_
  refine jg_A (pc' := 14) rfl rfl (fun _ _ _ => rfl) ?_
  refine jg_isub (pc' := 15) rfl rfl ?_
  refine jg_nm (F := fun t103 => jg_G w 1 mm_X1_knownNotes 15 [.ref a0, .int (.ofInt 0), .int (.ofInt 0), mj_U] [.int (.ofInt t103)] m101 (jg_QI Q)) ((if 24 < jg_wr z102 then 24 else z102) - 1) (fun t103 ht103 => ?_)
  have h := h t103 ht103
  refine jg_A (pc' := 16) (ls' := [.ref a0, .int (.ofInt 0), .int (.ofInt 0), .int (.ofInt t103)]) rfl rfl (fun _ _ _ => rfl) ?_
  exact h
set_option maxRecDepth 100000 in
set_option maxHeartbeats 4000000 in
theorem jb_X1_knownNotes_16 {w : Nat} {a0 : Nat} {x1 : Int} {x2 : Int} {x3 : Int} {σ : jg_M} {Q : Int → jg_M → Prop} (h0 : jg_sh a0 = (1, 0)) (h : (if jg_wr x3 < 0 then Q x2 σ else jg_CI w 0 mm_X11_inBits [.long (.ofInt (jg_wr x1)), .int (.ofInt x3)] σ (fun (z102 : Int) (m101 : jg_M) => (if jg_wr z102 = 0 then ((0 : Int) ≤ jg_wr x3 ∧ jg_wr x3 < (24 : Int)) ∧ (if jg_wr (m101.1 (a0 + 1) (jg_wr x3)) < 0 then ((0 : Int) ≤ jg_wr x3 ∧ jg_wr x3 < (24 : Int)) ∧ ∀ t103 : Int, t103 = (jg_or x1 (jg_shl 1 (m101.1 (a0 + 3) (jg_wr x3)))) → jg_GI w 1 mm_X1_knownNotes 16 [.ref a0, .int (.ofInt t103), .int (.ofInt x2), .int (.ofInt (x3 + (-1)))] m101 Q else ∀ t104 : Int, t104 = (jg_or x2 (jg_shl 1 x3)) → jg_GI w 1 mm_X1_knownNotes 16 [.ref a0, .int (.ofInt x1), .int (.ofInt t104), .int (.ofInt (x3 + (-1)))] m101 Q) else jg_GI w 1 mm_X1_knownNotes 16 [.ref a0, .int (.ofInt x1), .int (.ofInt x2), .int (.ofInt (x3 + (-1)))] m101 Q)))) : jg_GI w 1 mm_X1_knownNotes 16 [.ref a0, .int (.ofInt x1), .int (.ofInt x2), .int (.ofInt x3)] σ Q := by
  show jg_G w 1 mm_X1_knownNotes 16 [.ref a0, .int (.ofInt x1), .int (.ofInt x2), .int (.ofInt x3)] [] σ (jg_QI Q)
  refine jg_A (pc' := 17) rfl rfl (fun _ _ _ => rfl) ?_
  refine jg_iflt (pc' := 20) rfl rfl (fun hc => ?_) (fun hc => ?_)
  · have h := jg_t h (show jg_wr x3 < 0 from hc)
    refine jg_A (pc' := 65) rfl rfl (fun _ _ _ => rfl) ?_
    exact jg_iret rfl rfl h
  · have h := jg_f h (show ¬ (jg_wr x3 < 0) from hc)
    refine jg_A (pc' := 21) rfl rfl (fun _ _ _ => rfl) ?_
    refine jg_i2l (pc' := 22) rfl rfl ?_
    refine jg_A (pc' := 23) rfl rfl (fun _ _ _ => rfl) ?_
    refine jg_calS (M1 := mm_X11_inBits) (hy := 0) (pc' := 26) rfl (Or.inr rfl) jm_X11_inBits (by decide) rfl ⟨Nat.le_of_ble_eq_true rfl, rfl⟩ (Nat.le_of_ble_eq_true rfl) rfl h (jg_kI (fun z102 m101 h => ?_))
    refine jg_ifne (pc' := 29) rfl rfl (fun hc => ?_) (fun hc => ?_)
    · have h := jg_t h (show jg_wr z102 = 0 from hc)
      refine jg_A (pc' := 30) rfl rfl (fun _ _ _ => rfl) ?_
      refine jg_getO (pc' := 33) (k := 1) rfl h0 (by decide) rfl rfl ?_
      refine jg_A (pc' := 34) rfl rfl (fun _ _ _ => rfl) ?_
      obtain ⟨hg, h⟩ := h
      refine jg_iald (pc' := 35) rfl (jg_sX1_2 h0) hg rfl ?_
      refine jg_iflt (pc' := 38) rfl rfl (fun hc => ?_) (fun hc => ?_)
      · have h := jg_t h (show jg_wr (m101.1 (a0 + 1) (jg_wr x3)) < 0 from hc)
        refine jg_A (pc' := 48) rfl rfl (fun _ _ _ => rfl) ?_
        refine jg_A (pc' := 49) rfl rfl (fun _ _ _ => rfl) ?_
        refine jg_A (pc' := 50) rfl rfl (fun _ _ _ => rfl) ?_
        refine jg_getO (pc' := 53) (k := 3) rfl h0 (by decide) rfl rfl ?_
        refine jg_A (pc' := 54) rfl rfl (fun _ _ _ => rfl) ?_
        obtain ⟨hg, h⟩ := h
        refine jg_iald (pc' := 55) rfl (jg_sX1_4 h0) hg rfl ?_
        refine jg_ishl (pc' := 56) rfl rfl ?_
        refine jg_ior (pc' := 57) rfl rfl ?_
        refine jg_nm (F := fun t103 => jg_G w 1 mm_X1_knownNotes 57 [.ref a0, .int (.ofInt x1), .int (.ofInt x2), .int (.ofInt x3)] [.int (.ofInt t103)] m101 (jg_QI Q)) (jg_or x1 (jg_shl 1 (m101.1 (a0 + 3) (jg_wr x3)))) (fun t103 ht103 => ?_)
        have h := h t103 ht103
        refine jg_A (pc' := 58) (ls' := [.ref a0, .int (.ofInt t103), .int (.ofInt x2), .int (.ofInt x3)]) rfl rfl (fun _ _ _ => rfl) ?_
        refine jg_iinc (pc' := 61) (ls' := [.ref a0, .int (.ofInt t103), .int (.ofInt x2), .int (.ofInt (x3 + (-1)))]) rfl rfl rfl rfl ?_
        refine jg_goto rfl ?_
        exact h
      · have h := jg_f h (show ¬ (jg_wr (m101.1 (a0 + 1) (jg_wr x3)) < 0) from hc)
        refine jg_A (pc' := 39) rfl rfl (fun _ _ _ => rfl) ?_
        refine jg_A (pc' := 40) rfl rfl (fun _ _ _ => rfl) ?_
        refine jg_A (pc' := 41) rfl rfl (fun _ _ _ => rfl) ?_
        refine jg_ishl (pc' := 42) rfl rfl ?_
        refine jg_ior (pc' := 43) rfl rfl ?_
        refine jg_nm (F := fun t104 => jg_G w 1 mm_X1_knownNotes 43 [.ref a0, .int (.ofInt x1), .int (.ofInt x2), .int (.ofInt x3)] [.int (.ofInt t104)] m101 (jg_QI Q)) (jg_or x2 (jg_shl 1 x3)) (fun t104 ht104 => ?_)
        have h := h t104 ht104
        refine jg_A (pc' := 44) (ls' := [.ref a0, .int (.ofInt x1), .int (.ofInt t104), .int (.ofInt x3)]) rfl rfl (fun _ _ _ => rfl) ?_
        refine jg_goto rfl ?_
        refine jg_iinc (pc' := 61) (ls' := [.ref a0, .int (.ofInt x1), .int (.ofInt t104), .int (.ofInt (x3 + (-1)))]) rfl rfl rfl rfl ?_
        refine jg_goto rfl ?_
        exact h
    · have h := jg_f h (show ¬ (jg_wr z102 = 0) from hc)
      refine jg_iinc (pc' := 61) (ls' := [.ref a0, .int (.ofInt x1), .int (.ofInt x2), .int (.ofInt (x3 + (-1)))]) rfl rfl rfl rfl ?_
      refine jg_goto rfl ?_
      exact h
set_option maxRecDepth 100000 in
set_option maxHeartbeats 4000000 in
theorem jb_X2_make_0 {w : Nat} {a0 : Nat} {a1 : Nat} {σ : jg_M} {Q : jg_M → Prop} (h0 : jg_sh a0 = (2, 0)) (h1 : jg_sh a1 = (8, 0)) (h : ∀ m101 : jg_M, m101 = jg_sI σ a0 0 0 → jg_CV w 0 mm_J7_fill_53178 [.ref (a0 + 1), .int (.ofInt 0)] m101 (fun (m102 : jg_M) => jg_CV w 0 mm_J7_fill_53178 [.ref (a0 + 2), .int (.ofInt 0)] m102 (fun (m103 : jg_M) => jg_GV w 4 mm_X2_make 24 [.ref a0, .ref a1, .int (.ofInt 8), mj_U] m103 Q))) : jg_CV w 4 mm_X2_make [.ref a0, .ref a1] σ Q := by
  show jg_G w 4 mm_X2_make 0 [.ref a0, .ref a1, mj_U, mj_U] [] σ (jg_QV Q)
  refine jg_A (pc' := 1) rfl rfl (fun _ _ _ => rfl) ?_
  refine jg_A (pc' := 2) rfl rfl (fun _ _ _ => rfl) ?_
  refine jg_putI (pc' := 5) (bi := 0) rfl h0 (by decide) rfl rfl rfl rfl (fun m101 hm101 => ?_)
  have h := h m101 hm101
  refine jg_A (pc' := 6) rfl rfl (fun _ _ _ => rfl) ?_
  refine jg_getO (pc' := 9) (k := 1) rfl h0 (by decide) rfl rfl ?_
  refine jg_A (pc' := 10) rfl rfl (fun _ _ _ => rfl) ?_
  refine jg_calS (M1 := mm_J7_fill_53178) (hy := 0) (pc' := 13) rfl (Or.inl rfl) jm_J7_fill_53178 (by decide) rfl ⟨Nat.le_of_ble_eq_true rfl, rfl⟩ (Nat.le_of_ble_eq_true rfl) rfl h (jg_kV (fun m102 h => ?_))
  refine jg_A (pc' := 14) rfl rfl (fun _ _ _ => rfl) ?_
  refine jg_getO (pc' := 17) (k := 2) rfl h0 (by decide) rfl rfl ?_
  refine jg_A (pc' := 18) rfl rfl (fun _ _ _ => rfl) ?_
  refine jg_calS (M1 := mm_J7_fill_53178) (hy := 0) (pc' := 21) rfl (Or.inl rfl) jm_J7_fill_53178 (by decide) rfl ⟨Nat.le_of_ble_eq_true rfl, rfl⟩ (Nat.le_of_ble_eq_true rfl) rfl h (jg_kV (fun m103 h => ?_))
  refine jg_A (pc' := 23) rfl rfl (fun _ _ _ => rfl) ?_
  refine jg_A (pc' := 24) (ls' := [.ref a0, .ref a1, .int (.ofInt 8), mj_U]) rfl rfl (fun _ _ _ => rfl) ?_
  exact h
set_option maxRecDepth 100000 in
set_option maxHeartbeats 4000000 in
theorem jb_X2_make_24 {w : Nat} {a0 : Nat} {a1 : Nat} {x2 : Int} {u3 : Value} {σ : jg_M} {Q : jg_M → Prop} (h0 : jg_sh a0 = (2, 0)) (h1 : jg_sh a1 = (8, 0)) (h : (if jg_wr x2 ≤ 0 then Q σ else jg_GV w 4 mm_X2_make 30 [.ref a0, .ref a1, .int (.ofInt x2), .int (.ofInt 0)] σ Q)) : jg_GV w 4 mm_X2_make 24 [.ref a0, .ref a1, .int (.ofInt x2), u3] σ Q := by
  show jg_G w 4 mm_X2_make 24 [.ref a0, .ref a1, .int (.ofInt x2), u3] [] σ (jg_QV Q)
  refine jg_A (pc' := 25) rfl rfl (fun _ _ _ => rfl) ?_
  refine jg_ifle (pc' := 28) rfl rfl (fun hc => ?_) (fun hc => ?_)
  · have h := jg_t h (show jg_wr x2 ≤ 0 from hc)
    exact jg_vret rfl rfl h
  · have h := jg_f h (show ¬ (jg_wr x2 ≤ 0) from hc)
    refine jg_A (pc' := 29) rfl rfl (fun _ _ _ => rfl) ?_
    refine jg_A (pc' := 30) (ls' := [.ref a0, .ref a1, .int (.ofInt x2), .int (.ofInt 0)]) rfl rfl (fun _ _ _ => rfl) ?_
    exact h
set_option maxRecDepth 100000 in
set_option maxHeartbeats 4000000 in
theorem jb_X2_make_30 {w : Nat} {a0 : Nat} {a1 : Nat} {x2 : Int} {x3 : Int} {σ : jg_M} {Q : jg_M → Prop} (h0 : jg_sh a0 = (2, 0)) (h1 : jg_sh a1 = (8, 0)) (h : (if jg_wr (σ.1 (a1 + 10) 0) ≤ jg_wr x3 then jg_GV w 4 mm_X2_make 24 [.ref a0, .ref a1, .int (.ofInt (x2 + (-1))), .int (.ofInt x3)] σ Q else jg_CI w 2 mm_X8_actionsIn [.ref a1, .int (.ofInt x3)] σ (fun (z102 : Int) (m101 : jg_M) => (if jg_wr z102 = jg_wr x2 then jg_CV w 3 mm_X2_lay [.ref a0, .ref a1, .int (.ofInt x3)] m101 (fun (m103 : jg_M) => jg_GV w 4 mm_X2_make 30 [.ref a0, .ref a1, .int (.ofInt x2), .int (.ofInt (x3 + 1))] m103 Q) else jg_GV w 4 mm_X2_make 30 [.ref a0, .ref a1, .int (.ofInt x2), .int (.ofInt (x3 + 1))] m101 Q)))) : jg_GV w 4 mm_X2_make 30 [.ref a0, .ref a1, .int (.ofInt x2), .int (.ofInt x3)] σ Q := by
  show jg_G w 4 mm_X2_make 30 [.ref a0, .ref a1, .int (.ofInt x2), .int (.ofInt x3)] [] σ (jg_QV Q)
  refine jg_A (pc' := 31) rfl rfl (fun _ _ _ => rfl) ?_
  refine jg_A (pc' := 32) rfl rfl (fun _ _ _ => rfl) ?_
  refine jg_getO (pc' := 35) (k := 10) rfl h1 (by decide) rfl rfl ?_
  refine jg_getI (pc' := 38) (bi := 0) rfl (jg_sX8_1 h1) (by decide) (Or.inl rfl) rfl rfl ?_
  refine jg_cge (pc' := 41) rfl rfl (fun hc => ?_) (fun hc => ?_)
  · have h := jg_t h (show jg_wr (σ.1 (a1 + 10) 0) ≤ jg_wr x3 from hc)
    refine jg_iinc (pc' := 65) (ls' := [.ref a0, .ref a1, .int (.ofInt (x2 + (-1))), .int (.ofInt x3)]) rfl rfl rfl rfl ?_
    refine jg_goto rfl ?_
    exact h
  · have h := jg_f h (show ¬ (jg_wr (σ.1 (a1 + 10) 0) ≤ jg_wr x3) from hc)
    refine jg_A (pc' := 42) rfl rfl (fun _ _ _ => rfl) ?_
    refine jg_A (pc' := 43) rfl rfl (fun _ _ _ => rfl) ?_
    refine jg_calX (M1 := mm_X8_actionsIn) (hy := 2) (pc' := 46) rfl jm_X8_actionsIn (by decide) rfl h1 (by decide) ⟨Nat.le_of_ble_eq_true rfl, rfl⟩ (Nat.le_of_ble_eq_true rfl) rfl h (jg_kI (fun z102 m101 h => ?_))
    refine jg_A (pc' := 47) rfl rfl (fun _ _ _ => rfl) ?_
    refine jg_cne (pc' := 50) rfl rfl (fun hc => ?_) (fun hc => ?_)
    · have h := jg_t h (show jg_wr z102 = jg_wr x2 from hc)
      refine jg_A (pc' := 51) rfl rfl (fun _ _ _ => rfl) ?_
      refine jg_A (pc' := 52) rfl rfl (fun _ _ _ => rfl) ?_
      refine jg_A (pc' := 53) rfl rfl (fun _ _ _ => rfl) ?_
      refine jg_calX (M1 := mm_X2_lay) (hy := 3) (pc' := 56) rfl jm_X2_lay (by decide) rfl h0 (by decide) ⟨Nat.le_of_ble_eq_true rfl, rfl⟩ (Nat.le_of_ble_eq_true rfl) rfl h (jg_kV (fun m103 h => ?_))
      refine jg_iinc (pc' := 59) (ls' := [.ref a0, .ref a1, .int (.ofInt x2), .int (.ofInt (x3 + 1))]) rfl rfl rfl rfl ?_
      refine jg_goto rfl ?_
      exact h
    · have h := jg_f h (show ¬ (jg_wr z102 = jg_wr x2) from hc)
      refine jg_iinc (pc' := 59) (ls' := [.ref a0, .ref a1, .int (.ofInt x2), .int (.ofInt (x3 + 1))]) rfl rfl rfl rfl ?_
      refine jg_goto rfl ?_
      exact h
set_option maxRecDepth 100000 in
set_option maxHeartbeats 4000000 in
theorem jb_X2_lay_0 {w : Nat} {a0 : Nat} {a1 : Nat} {x2 : Int} {σ : jg_M} {Q : jg_M → Prop} (h0 : jg_sh a0 = (2, 0)) (h1 : jg_sh a1 = (8, 0)) (h : jg_GV w 3 mm_X2_lay 2 [.ref a0, .ref a1, .int (.ofInt x2), .int (.ofInt 0)] σ Q) : jg_CV w 3 mm_X2_lay [.ref a0, .ref a1, .int (.ofInt x2)] σ Q := by
  show jg_G w 3 mm_X2_lay 0 [.ref a0, .ref a1, .int (.ofInt x2), mj_U] [] σ (jg_QV Q)
  refine jg_A (pc' := 1) rfl rfl (fun _ _ _ => rfl) ?_
  refine jg_A (pc' := 2) (ls' := [.ref a0, .ref a1, .int (.ofInt x2), .int (.ofInt 0)]) rfl rfl (fun _ _ _ => rfl) ?_
  exact h
set_option maxRecDepth 100000 in
set_option maxHeartbeats 4000000 in
theorem jb_X2_lay_2 {w : Nat} {a0 : Nat} {a1 : Nat} {x2 : Int} {x3 : Int} {σ : jg_M} {Q : jg_M → Prop} (h0 : jg_sh a0 = (2, 0)) (h1 : jg_sh a1 = (8, 0)) (h : (if 400 < jg_wr (x3 + 8) then Q σ else jg_CI w 2 mm_X2_hasRoom [.ref a0, .ref a1, .int (.ofInt x2), .int (.ofInt x3)] σ (fun (z102 : Int) (m101 : jg_M) => (if jg_wr z102 = 0 then jg_GV w 3 mm_X2_lay 2 [.ref a0, .ref a1, .int (.ofInt x2), .int (.ofInt (x3 + 1))] m101 Q else jg_CV w 2 mm_X2_layAt [.ref a0, .ref a1, .int (.ofInt x2), .int (.ofInt x3)] m101 (fun (m103 : jg_M) => Q m103))))) : jg_GV w 3 mm_X2_lay 2 [.ref a0, .ref a1, .int (.ofInt x2), .int (.ofInt x3)] σ Q := by
  show jg_G w 3 mm_X2_lay 2 [.ref a0, .ref a1, .int (.ofInt x2), .int (.ofInt x3)] [] σ (jg_QV Q)
  refine jg_A (pc' := 3) rfl rfl (fun _ _ _ => rfl) ?_
  refine jg_A (pc' := 5) rfl rfl (fun _ _ _ => rfl) ?_
  refine jg_iadd (pc' := 6) rfl rfl ?_
  refine jg_A (pc' := 9) rfl rfl (fun _ _ _ => rfl) ?_
  refine jg_cgt (pc' := 12) rfl rfl (fun hc => ?_) (fun hc => ?_)
  · have h := jg_t h (show 400 < jg_wr (x3 + 8) from hc)
    exact jg_vret rfl rfl h
  · have h := jg_f h (show ¬ (400 < jg_wr (x3 + 8)) from hc)
    refine jg_A (pc' := 13) rfl rfl (fun _ _ _ => rfl) ?_
    refine jg_A (pc' := 14) rfl rfl (fun _ _ _ => rfl) ?_
    refine jg_A (pc' := 15) rfl rfl (fun _ _ _ => rfl) ?_
    refine jg_A (pc' := 16) rfl rfl (fun _ _ _ => rfl) ?_
    refine jg_calX (M1 := mm_X2_hasRoom) (hy := 2) (pc' := 19) rfl jm_X2_hasRoom (by decide) rfl h0 (by decide) ⟨Nat.le_of_ble_eq_true rfl, rfl⟩ (Nat.le_of_ble_eq_true rfl) rfl h (jg_kI (fun z102 m101 h => ?_))
    refine jg_ifeq (pc' := 22) rfl rfl (fun hc => ?_) (fun hc => ?_)
    · have h := jg_t h (show jg_wr z102 = 0 from hc)
      refine jg_iinc (pc' := 33) (ls' := [.ref a0, .ref a1, .int (.ofInt x2), .int (.ofInt (x3 + 1))]) rfl rfl rfl rfl ?_
      refine jg_goto rfl ?_
      exact h
    · have h := jg_f h (show ¬ (jg_wr z102 = 0) from hc)
      refine jg_A (pc' := 23) rfl rfl (fun _ _ _ => rfl) ?_
      refine jg_A (pc' := 24) rfl rfl (fun _ _ _ => rfl) ?_
      refine jg_A (pc' := 25) rfl rfl (fun _ _ _ => rfl) ?_
      refine jg_A (pc' := 26) rfl rfl (fun _ _ _ => rfl) ?_
      refine jg_calX (M1 := mm_X2_layAt) (hy := 2) (pc' := 29) rfl jm_X2_layAt (by decide) rfl h0 (by decide) ⟨Nat.le_of_ble_eq_true rfl, rfl⟩ (Nat.le_of_ble_eq_true rfl) rfl h (jg_kV (fun m103 h => ?_))
      exact jg_vret rfl rfl h
set_option maxRecDepth 100000 in
set_option maxHeartbeats 4000000 in
theorem jb_X2_hasRoom_0 {w : Nat} {a0 : Nat} {a1 : Nat} {x2 : Int} {x3 : Int} {σ : jg_M} {Q : Int → jg_M → Prop} (h0 : jg_sh a0 = (2, 0)) (h1 : jg_sh a1 = (8, 0)) (h : jg_GI w 2 mm_X2_hasRoom 3 [.ref a0, .ref a1, .int (.ofInt x2), .int (.ofInt x3), .int (.ofInt 0)] σ Q) : jg_CI w 2 mm_X2_hasRoom [.ref a0, .ref a1, .int (.ofInt x2), .int (.ofInt x3)] σ Q := by
  show jg_G w 2 mm_X2_hasRoom 0 [.ref a0, .ref a1, .int (.ofInt x2), .int (.ofInt x3), mj_U] [] σ (jg_QI Q)
  refine jg_A (pc' := 1) rfl rfl (fun _ _ _ => rfl) ?_
  refine jg_A (pc' := 3) (ls' := [.ref a0, .ref a1, .int (.ofInt x2), .int (.ofInt x3), .int (.ofInt 0)]) rfl rfl (fun _ _ _ => rfl) ?_
  exact h
set_option maxRecDepth 100000 in
set_option maxHeartbeats 4000000 in
theorem jb_X2_hasRoom_3 {w : Nat} {a0 : Nat} {a1 : Nat} {x2 : Int} {x3 : Int} {x4 : Int} {σ : jg_M} {Q : Int → jg_M → Prop} (h0 : jg_sh a0 = (2, 0)) (h1 : jg_sh a1 = (8, 0)) (h : (if 8 ≤ jg_wr x4 then Q 1 σ else jg_CI w 1 mm_X8_actionFor [.ref a1, .int (.ofInt x2), .int (.ofInt x4)] σ (fun (z102 : Int) (m101 : jg_M) => (if jg_wr z102 = 0 then jg_GI w 2 mm_X2_hasRoom 3 [.ref a0, .ref a1, .int (.ofInt x2), .int (.ofInt x3), .int (.ofInt (x4 + 1))] m101 Q else jg_CI w 0 mm_X2_actionAt [.ref a0, .int (.ofInt (x3 + x4))] m101 (fun (z104 : Int) (m103 : jg_M) => (if jg_wr z104 = (-2) then jg_GI w 2 mm_X2_hasRoom 3 [.ref a0, .ref a1, .int (.ofInt x2), .int (.ofInt x3), .int (.ofInt (x4 + 1))] m103 Q else Q 0 m103)))))) : jg_GI w 2 mm_X2_hasRoom 3 [.ref a0, .ref a1, .int (.ofInt x2), .int (.ofInt x3), .int (.ofInt x4)] σ Q := by
  show jg_G w 2 mm_X2_hasRoom 3 [.ref a0, .ref a1, .int (.ofInt x2), .int (.ofInt x3), .int (.ofInt x4)] [] σ (jg_QI Q)
  refine jg_A (pc' := 5) rfl rfl (fun _ _ _ => rfl) ?_
  refine jg_A (pc' := 7) rfl rfl (fun _ _ _ => rfl) ?_
  refine jg_cge (pc' := 10) rfl rfl (fun hc => ?_) (fun hc => ?_)
  · have h := jg_t h (show 8 ≤ jg_wr x4 from hc)
    refine jg_A (pc' := 42) rfl rfl (fun _ _ _ => rfl) ?_
    exact jg_zret rfl rfl (by decide) h
  · have h := jg_f h (show ¬ (8 ≤ jg_wr x4) from hc)
    refine jg_A (pc' := 11) rfl rfl (fun _ _ _ => rfl) ?_
    refine jg_A (pc' := 12) rfl rfl (fun _ _ _ => rfl) ?_
    refine jg_A (pc' := 14) rfl rfl (fun _ _ _ => rfl) ?_
    refine jg_calX (M1 := mm_X8_actionFor) (hy := 1) (pc' := 17) rfl jm_X8_actionFor (by decide) rfl h1 (by decide) ⟨Nat.le_of_ble_eq_true rfl, rfl⟩ (Nat.le_of_ble_eq_true rfl) rfl h (jg_kI (fun z102 m101 h => ?_))
    refine jg_ifeq (pc' := 20) rfl rfl (fun hc => ?_) (fun hc => ?_)
    · have h := jg_t h (show jg_wr z102 = 0 from hc)
      refine jg_iinc (pc' := 38) (ls' := [.ref a0, .ref a1, .int (.ofInt x2), .int (.ofInt x3), .int (.ofInt (x4 + 1))]) rfl rfl rfl rfl ?_
      refine jg_goto rfl ?_
      exact h
    · have h := jg_f h (show ¬ (jg_wr z102 = 0) from hc)
      refine jg_A (pc' := 21) rfl rfl (fun _ _ _ => rfl) ?_
      refine jg_A (pc' := 22) rfl rfl (fun _ _ _ => rfl) ?_
      refine jg_A (pc' := 24) rfl rfl (fun _ _ _ => rfl) ?_
      refine jg_iadd (pc' := 25) rfl rfl ?_
      refine jg_calX (M1 := mm_X2_actionAt) (hy := 0) (pc' := 28) rfl jm_X2_actionAt (by decide) rfl h0 (by decide) ⟨Nat.le_of_ble_eq_true rfl, rfl⟩ (Nat.le_of_ble_eq_true rfl) rfl h (jg_kI (fun z104 m103 h => ?_))
      refine jg_A (pc' := 30) rfl rfl (fun _ _ _ => rfl) ?_
      refine jg_ceq (pc' := 33) rfl rfl (fun hc => ?_) (fun hc => ?_)
      · have h := jg_t h (show jg_wr z104 = (-2) from hc)
        refine jg_iinc (pc' := 38) (ls' := [.ref a0, .ref a1, .int (.ofInt x2), .int (.ofInt x3), .int (.ofInt (x4 + 1))]) rfl rfl rfl rfl ?_
        refine jg_goto rfl ?_
        exact h
      · have h := jg_f h (show ¬ (jg_wr z104 = (-2)) from hc)
        refine jg_A (pc' := 34) rfl rfl (fun _ _ _ => rfl) ?_
        exact jg_zret rfl rfl (by decide) h
set_option maxRecDepth 100000 in
set_option maxHeartbeats 4000000 in
theorem jb_X2_layAt_0 {w : Nat} {a0 : Nat} {a1 : Nat} {x2 : Int} {x3 : Int} {σ : jg_M} {Q : jg_M → Prop} (h0 : jg_sh a0 = (2, 0)) (h1 : jg_sh a1 = (8, 0)) (h : ((0 : Int) ≤ (jg_wr x2) ∧ (jg_wr x2) < (48 : Int)) ∧ ∀ m101 : jg_M, m101 = jg_sI σ (a0 + 1) (jg_wr x2) x3 → jg_GV w 2 mm_X2_layAt 10 [.ref a0, .ref a1, .int (.ofInt x2), .int (.ofInt x3), .int (.ofInt 0), mj_U, mj_U] m101 Q) : jg_CV w 2 mm_X2_layAt [.ref a0, .ref a1, .int (.ofInt x2), .int (.ofInt x3)] σ Q := by
  show jg_G w 2 mm_X2_layAt 0 [.ref a0, .ref a1, .int (.ofInt x2), .int (.ofInt x3), mj_U, mj_U, mj_U] [] σ (jg_QV Q)
  refine jg_A (pc' := 1) rfl rfl (fun _ _ _ => rfl) ?_
  refine jg_getO (pc' := 4) (k := 1) rfl h0 (by decide) rfl rfl ?_
  refine jg_A (pc' := 5) rfl rfl (fun _ _ _ => rfl) ?_
  refine jg_A (pc' := 6) rfl rfl (fun _ _ _ => rfl) ?_
  obtain ⟨hg, h⟩ := h
  refine jg_iast (pc' := 7) rfl (jg_sX2_1 h0) hg rfl (fun m101 hm101 => ?_)
  have h := h m101 hm101
  refine jg_A (pc' := 8) rfl rfl (fun _ _ _ => rfl) ?_
  refine jg_A (pc' := 10) (ls' := [.ref a0, .ref a1, .int (.ofInt x2), .int (.ofInt x3), .int (.ofInt 0), mj_U, mj_U]) rfl rfl (fun _ _ _ => rfl) ?_
  exact h
set_option maxRecDepth 100000 in
set_option maxHeartbeats 4000000 in
theorem jb_X2_layAt_10 {w : Nat} {a0 : Nat} {a1 : Nat} {x2 : Int} {x3 : Int} {x4 : Int} {u5 : Value} {u6 : Value} {σ : jg_M} {Q : jg_M → Prop} (h0 : jg_sh a0 = (2, 0)) (h1 : jg_sh a1 = (8, 0)) (h : (if 8 ≤ jg_wr x4 then Q σ else ∀ t101 : Int, t101 = (x3 + x4) → jg_CI w 1 mm_X8_actionFor [.ref a1, .int (.ofInt x2), .int (.ofInt x4)] σ (fun (z103 : Int) (m102 : jg_M) => (if jg_wr z103 = 0 then jg_GV w 2 mm_X2_layAt 10 [.ref a0, .ref a1, .int (.ofInt x2), .int (.ofInt x3), .int (.ofInt (x4 + 1)), .int (.ofInt t101), .int (.ofInt z103)] m102 Q else (if 400 ≤ jg_wr t101 then jg_GV w 2 mm_X2_layAt 10 [.ref a0, .ref a1, .int (.ofInt x2), .int (.ofInt x3), .int (.ofInt (x4 + 1)), .int (.ofInt t101), .int (.ofInt z103)] m102 Q else ((0 : Int) ≤ (jg_wr t101) ∧ (jg_wr t101) < (400 : Int)) ∧ ∀ m104 : jg_M, m104 = jg_sI m102 (a0 + 2) (jg_wr t101) z103 → ((0 : Int) ≤ (jg_wr t101) ∧ (jg_wr t101) < (400 : Int)) ∧ ∀ m105 : jg_M, m105 = jg_sI m104 (a0 + 3) (jg_wr t101) x2 → ∀ m106 : jg_M, m106 = jg_sI m105 a0 0 (if jg_wr (m105.1 a0 0) < jg_wr (t101 + 1) then (t101 + 1) else (m105.1 a0 0)) → jg_GV w 2 mm_X2_layAt 10 [.ref a0, .ref a1, .int (.ofInt x2), .int (.ofInt x3), .int (.ofInt (x4 + 1)), .int (.ofInt t101), .int (.ofInt z103)] m106 Q))))) : jg_GV w 2 mm_X2_layAt 10 [.ref a0, .ref a1, .int (.ofInt x2), .int (.ofInt x3), .int (.ofInt x4), u5, u6] σ Q := by
  show jg_G w 2 mm_X2_layAt 10 [.ref a0, .ref a1, .int (.ofInt x2), .int (.ofInt x3), .int (.ofInt x4), u5, u6] [] σ (jg_QV Q)
  refine jg_A (pc' := 12) rfl rfl (fun _ _ _ => rfl) ?_
  refine jg_A (pc' := 14) rfl rfl (fun _ _ _ => rfl) ?_
  refine jg_cge (pc' := 17) rfl rfl (fun hc => ?_) (fun hc => ?_)
  · have h := jg_t h (show 8 ≤ jg_wr x4 from hc)
    exact jg_vret rfl rfl h
  · have h := jg_f h (show ¬ (8 ≤ jg_wr x4) from hc)
    refine jg_A (pc' := 18) rfl rfl (fun _ _ _ => rfl) ?_
    refine jg_A (pc' := 20) rfl rfl (fun _ _ _ => rfl) ?_
    refine jg_iadd (pc' := 21) rfl rfl ?_
    refine jg_nm (F := fun t101 => jg_G w 2 mm_X2_layAt 21 [.ref a0, .ref a1, .int (.ofInt x2), .int (.ofInt x3), .int (.ofInt x4), u5, u6] [.int (.ofInt t101)] σ (jg_QV Q)) (x3 + x4) (fun t101 ht101 => ?_)
    have h := h t101 ht101
    refine jg_A (pc' := 23) (ls' := [.ref a0, .ref a1, .int (.ofInt x2), .int (.ofInt x3), .int (.ofInt x4), .int (.ofInt t101), u6]) rfl rfl (fun _ _ _ => rfl) ?_
    refine jg_A (pc' := 24) rfl rfl (fun _ _ _ => rfl) ?_
    refine jg_A (pc' := 25) rfl rfl (fun _ _ _ => rfl) ?_
    refine jg_A (pc' := 27) rfl rfl (fun _ _ _ => rfl) ?_
    refine jg_calX (M1 := mm_X8_actionFor) (hy := 1) (pc' := 30) rfl jm_X8_actionFor (by decide) rfl h1 (by decide) ⟨Nat.le_of_ble_eq_true rfl, rfl⟩ (Nat.le_of_ble_eq_true rfl) rfl h (jg_kI (fun z103 m102 h => ?_))
    refine jg_A (pc' := 32) (ls' := [.ref a0, .ref a1, .int (.ofInt x2), .int (.ofInt x3), .int (.ofInt x4), .int (.ofInt t101), .int (.ofInt z103)]) rfl rfl (fun _ _ _ => rfl) ?_
    refine jg_A (pc' := 34) rfl rfl (fun _ _ _ => rfl) ?_
    refine jg_ifeq (pc' := 37) rfl rfl (fun hc => ?_) (fun hc => ?_)
    · have h := jg_t h (show jg_wr z103 = 0 from hc)
      refine jg_iinc (pc' := 80) (ls' := [.ref a0, .ref a1, .int (.ofInt x2), .int (.ofInt x3), .int (.ofInt (x4 + 1)), .int (.ofInt t101), .int (.ofInt z103)]) rfl rfl rfl rfl ?_
      refine jg_goto rfl ?_
      exact h
    · have h := jg_f h (show ¬ (jg_wr z103 = 0) from hc)
      refine jg_A (pc' := 39) rfl rfl (fun _ _ _ => rfl) ?_
      refine jg_A (pc' := 42) rfl rfl (fun _ _ _ => rfl) ?_
      refine jg_cge (pc' := 45) rfl rfl (fun hc => ?_) (fun hc => ?_)
      · have h := jg_t h (show 400 ≤ jg_wr t101 from hc)
        refine jg_iinc (pc' := 80) (ls' := [.ref a0, .ref a1, .int (.ofInt x2), .int (.ofInt x3), .int (.ofInt (x4 + 1)), .int (.ofInt t101), .int (.ofInt z103)]) rfl rfl rfl rfl ?_
        refine jg_goto rfl ?_
        exact h
      · have h := jg_f h (show ¬ (400 ≤ jg_wr t101) from hc)
        refine jg_A (pc' := 46) rfl rfl (fun _ _ _ => rfl) ?_
        refine jg_getO (pc' := 49) (k := 2) rfl h0 (by decide) rfl rfl ?_
        refine jg_A (pc' := 51) rfl rfl (fun _ _ _ => rfl) ?_
        refine jg_A (pc' := 53) rfl rfl (fun _ _ _ => rfl) ?_
        obtain ⟨hg, h⟩ := h
        refine jg_iast (pc' := 54) rfl (jg_sX2_2 h0) hg rfl (fun m104 hm104 => ?_)
        have h := h m104 hm104
        refine jg_A (pc' := 55) rfl rfl (fun _ _ _ => rfl) ?_
        refine jg_getO (pc' := 58) (k := 3) rfl h0 (by decide) rfl rfl ?_
        refine jg_A (pc' := 60) rfl rfl (fun _ _ _ => rfl) ?_
        refine jg_A (pc' := 61) rfl rfl (fun _ _ _ => rfl) ?_
        obtain ⟨hg, h⟩ := h
        refine jg_iast (pc' := 62) rfl (jg_sX2_3 h0) hg rfl (fun m105 hm105 => ?_)
        have h := h m105 hm105
        refine jg_A (pc' := 63) rfl rfl (fun _ _ _ => rfl) ?_
        refine jg_A (pc' := 64) rfl rfl (fun _ _ _ => rfl) ?_
        refine jg_getI (pc' := 67) (bi := 0) rfl h0 (by decide) (Or.inl rfl) rfl rfl ?_
        refine jg_A (pc' := 69) rfl rfl (fun _ _ _ => rfl) ?_
        refine jg_A (pc' := 70) rfl rfl (fun _ _ _ => rfl) ?_
        refine jg_iadd (pc' := 71) rfl rfl ?_
        refine jg_max (pc' := 74) rfl (by decide) (Nat.le_of_ble_eq_true rfl) rfl ?_
        refine jg_putI (pc' := 77) (bi := 0) rfl h0 (by decide) rfl rfl rfl rfl (fun m106 hm106 => ?_)
        have h := h m106 hm106
        refine jg_iinc (pc' := 80) (ls' := [.ref a0, .ref a1, .int (.ofInt x2), .int (.ofInt x3), .int (.ofInt (x4 + 1)), .int (.ofInt t101), .int (.ofInt z103)]) rfl rfl rfl rfl ?_
        refine jg_goto rfl ?_
        exact h
set_option maxRecDepth 100000 in
set_option maxHeartbeats 4000000 in
theorem jb_X2_actionAt_0 {w : Nat} {a0 : Nat} {x1 : Int} {σ : jg_M} {Q : Int → jg_M → Prop} (h0 : jg_sh a0 = (2, 0)) (h : (if jg_wr x1 < 0 then Q (-2) σ else (if 400 ≤ jg_wr x1 then Q (-2) σ else ((0 : Int) ≤ jg_wr x1 ∧ jg_wr x1 < (400 : Int)) ∧ (if jg_wr (σ.1 (a0 + 2) (jg_wr x1)) = 0 then Q (-2) σ else ((0 : Int) ≤ jg_wr x1 ∧ jg_wr x1 < (400 : Int)) ∧ Q (σ.1 (a0 + 2) (jg_wr x1)) σ)))) : jg_CI w 0 mm_X2_actionAt [.ref a0, .int (.ofInt x1)] σ Q := by
  show jg_G w 0 mm_X2_actionAt 0 [.ref a0, .int (.ofInt x1)] [] σ (jg_QI Q)
  refine jg_A (pc' := 1) rfl rfl (fun _ _ _ => rfl) ?_
  refine jg_iflt (pc' := 4) rfl rfl (fun hc => ?_) (fun hc => ?_)
  · have h := jg_t h (show jg_wr x1 < 0 from hc)
    refine jg_A (pc' := 31) rfl rfl (fun _ _ _ => rfl) ?_
    exact jg_iret rfl rfl h
  · have h := jg_f h (show ¬ (jg_wr x1 < 0) from hc)
    refine jg_A (pc' := 5) rfl rfl (fun _ _ _ => rfl) ?_
    refine jg_A (pc' := 8) rfl rfl (fun _ _ _ => rfl) ?_
    refine jg_cge (pc' := 11) rfl rfl (fun hc => ?_) (fun hc => ?_)
    · have h := jg_t h (show 400 ≤ jg_wr x1 from hc)
      refine jg_A (pc' := 31) rfl rfl (fun _ _ _ => rfl) ?_
      exact jg_iret rfl rfl h
    · have h := jg_f h (show ¬ (400 ≤ jg_wr x1) from hc)
      refine jg_A (pc' := 12) rfl rfl (fun _ _ _ => rfl) ?_
      refine jg_getO (pc' := 15) (k := 2) rfl h0 (by decide) rfl rfl ?_
      refine jg_A (pc' := 16) rfl rfl (fun _ _ _ => rfl) ?_
      obtain ⟨hg, h⟩ := h
      refine jg_iald (pc' := 17) rfl (jg_sX2_2 h0) hg rfl ?_
      refine jg_ifeq (pc' := 20) rfl rfl (fun hc => ?_) (fun hc => ?_)
      · have h := jg_t h (show jg_wr (σ.1 (a0 + 2) (jg_wr x1)) = 0 from hc)
        refine jg_A (pc' := 31) rfl rfl (fun _ _ _ => rfl) ?_
        exact jg_iret rfl rfl h
      · have h := jg_f h (show ¬ (jg_wr (σ.1 (a0 + 2) (jg_wr x1)) = 0) from hc)
        refine jg_A (pc' := 21) rfl rfl (fun _ _ _ => rfl) ?_
        refine jg_getO (pc' := 24) (k := 2) rfl h0 (by decide) rfl rfl ?_
        refine jg_A (pc' := 25) rfl rfl (fun _ _ _ => rfl) ?_
        obtain ⟨hg, h⟩ := h
        refine jg_iald (pc' := 26) rfl (jg_sX2_2 h0) hg rfl ?_
        refine jg_goto rfl ?_
        exact jg_iret rfl rfl h
set_option maxRecDepth 100000 in
set_option maxHeartbeats 4000000 in
theorem jb_X3_forget_0 {w : Nat} {a0 : Nat} {σ : jg_M} {Q : jg_M → Prop} (h0 : jg_sh a0 = (3, 0)) (h : ∀ m101 : jg_M, m101 = jg_sI σ a0 0 0 → Q m101) : jg_CV w 0 mm_X3_forget [.ref a0] σ Q := by
  show jg_G w 0 mm_X3_forget 0 [.ref a0] [] σ (jg_QV Q)
  refine jg_A (pc' := 1) rfl rfl (fun _ _ _ => rfl) ?_
  refine jg_A (pc' := 2) rfl rfl (fun _ _ _ => rfl) ?_
  refine jg_putI (pc' := 5) (bi := 0) rfl h0 (by decide) rfl rfl rfl rfl (fun m101 hm101 => ?_)
  have h := h m101 hm101
  exact jg_vret rfl rfl h
set_option maxRecDepth 100000 in
set_option maxHeartbeats 4000000 in
theorem jb_X3_add_0 {w : Nat} {a0 : Nat} {a1 : Nat} {σ : jg_M} {Q : jg_M → Prop} (h0 : jg_sh a0 = (3, 0)) (h1 : jg_sh a1 = (5, 0)) (h : (if 20 ≤ jg_wr ((σ.1 a0 1) + 1) then ∀ m101 : jg_M, m101 = jg_sI σ a0 1 0 → ∀ m102 : jg_M, m102 = jg_sI m101 a0 0 (if jg_wr ((m101.1 a0 0) + 1) < 20 then ((m101.1 a0 0) + 1) else 20) → ((0 : Int) ≤ 0 ∧ (0 : Int) ≤ jg_wr ((m102.1 a0 1) * 40) ∧ (0 : Int) ≤ 40 ∧ (0 + 40 : Int) ≤ 40 ∧ (jg_wr ((m102.1 a0 1) * 40) + 40 : Int) ≤ 800) ∧ ∀ m103 : jg_M, m103 = jg_cI m102 (a1 + 1) (0) (a0 + 1) (jg_wr ((m102.1 a0 1) * 40)) (40) → ((0 : Int) ≤ (jg_wr (m103.1 a0 1)) ∧ (jg_wr (m103.1 a0 1)) < (20 : Int)) ∧ ∀ m104 : jg_M, m104 = jg_sI m103 (a0 + 2) (jg_wr (m103.1 a0 1)) (m103.1 a1 2) → ((0 : Int) ≤ (jg_wr (m104.1 a0 1)) ∧ (jg_wr (m104.1 a0 1)) < (20 : Int)) ∧ ∀ m105 : jg_M, m105 = jg_sI m104 (a0 + 3) (jg_wr (m104.1 a0 1)) (m104.1 a1 3) → ((0 : Int) ≤ (jg_wr (m105.1 a0 1)) ∧ (jg_wr (m105.1 a0 1)) < (20 : Int)) ∧ ∀ m106 : jg_M, m106 = jg_sI m105 (a0 + 4) (jg_wr (m105.1 a0 1)) (m105.1 a1 4) → Q m106 else ∀ m107 : jg_M, m107 = jg_sI σ a0 1 ((σ.1 a0 1) + 1) → ∀ m108 : jg_M, m108 = jg_sI m107 a0 0 (if jg_wr ((m107.1 a0 0) + 1) < 20 then ((m107.1 a0 0) + 1) else 20) → ((0 : Int) ≤ 0 ∧ (0 : Int) ≤ jg_wr ((m108.1 a0 1) * 40) ∧ (0 : Int) ≤ 40 ∧ (0 + 40 : Int) ≤ 40 ∧ (jg_wr ((m108.1 a0 1) * 40) + 40 : Int) ≤ 800) ∧ ∀ m109 : jg_M, m109 = jg_cI m108 (a1 + 1) (0) (a0 + 1) (jg_wr ((m108.1 a0 1) * 40)) (40) → ((0 : Int) ≤ (jg_wr (m109.1 a0 1)) ∧ (jg_wr (m109.1 a0 1)) < (20 : Int)) ∧ ∀ m110 : jg_M, m110 = jg_sI m109 (a0 + 2) (jg_wr (m109.1 a0 1)) (m109.1 a1 2) → ((0 : Int) ≤ (jg_wr (m110.1 a0 1)) ∧ (jg_wr (m110.1 a0 1)) < (20 : Int)) ∧ ∀ m111 : jg_M, m111 = jg_sI m110 (a0 + 3) (jg_wr (m110.1 a0 1)) (m110.1 a1 3) → ((0 : Int) ≤ (jg_wr (m111.1 a0 1)) ∧ (jg_wr (m111.1 a0 1)) < (20 : Int)) ∧ ∀ m112 : jg_M, m112 = jg_sI m111 (a0 + 4) (jg_wr (m111.1 a0 1)) (m111.1 a1 4) → Q m112)) : jg_CV w 1 mm_X3_add [.ref a0, .ref a1] σ Q := by
  show jg_G w 1 mm_X3_add 0 [.ref a0, .ref a1] [] σ (jg_QV Q)
  refine jg_A (pc' := 1) rfl rfl (fun _ _ _ => rfl) ?_
  refine jg_A (pc' := 2) rfl rfl (fun _ _ _ => rfl) ?_
  refine jg_getI (pc' := 5) (bi := 1) rfl h0 (by decide) (Or.inl rfl) rfl rfl ?_
  refine jg_A (pc' := 6) rfl rfl (fun _ _ _ => rfl) ?_
  refine jg_iadd (pc' := 7) rfl rfl ?_
  refine jg_A (pc' := 9) rfl rfl (fun _ _ _ => rfl) ?_
  refine jg_cge (pc' := 12) rfl rfl (fun hc => ?_) (fun hc => ?_)
  · have h := jg_t h (show 20 ≤ jg_wr ((σ.1 a0 1) + 1) from hc)
    refine jg_A (pc' := 22) rfl rfl (fun _ _ _ => rfl) ?_
    refine jg_putI (pc' := 25) (bi := 1) rfl h0 (by decide) rfl rfl rfl rfl (fun m101 hm101 => ?_)
    have h := h m101 hm101
    refine jg_A (pc' := 26) rfl rfl (fun _ _ _ => rfl) ?_
    refine jg_A (pc' := 28) rfl rfl (fun _ _ _ => rfl) ?_
    refine jg_A (pc' := 29) rfl rfl (fun _ _ _ => rfl) ?_
    refine jg_getI (pc' := 32) (bi := 0) rfl h0 (by decide) (Or.inl rfl) rfl rfl ?_
    refine jg_A (pc' := 33) rfl rfl (fun _ _ _ => rfl) ?_
    refine jg_iadd (pc' := 34) rfl rfl ?_
    refine jg_min (pc' := 37) rfl (by decide) (Nat.le_of_ble_eq_true rfl) rfl ?_
    refine jg_putI (pc' := 40) (bi := 0) rfl h0 (by decide) rfl rfl rfl rfl (fun m102 hm102 => ?_)
    have h := h m102 hm102
    refine jg_A (pc' := 41) rfl rfl (fun _ _ _ => rfl) ?_
    refine jg_getO (pc' := 44) (k := 1) rfl h1 (by decide) rfl rfl ?_
    refine jg_A (pc' := 45) rfl rfl (fun _ _ _ => rfl) ?_
    refine jg_A (pc' := 46) rfl rfl (fun _ _ _ => rfl) ?_
    refine jg_getO (pc' := 49) (k := 1) rfl h0 (by decide) rfl rfl ?_
    refine jg_A (pc' := 50) rfl rfl (fun _ _ _ => rfl) ?_
    refine jg_getI (pc' := 53) (bi := 1) rfl h0 (by decide) (Or.inl rfl) rfl rfl ?_
    refine jg_A (pc' := 55) rfl rfl (fun _ _ _ => rfl) ?_
    refine jg_imul (pc' := 56) rfl rfl ?_
    refine jg_A (pc' := 58) rfl rfl (fun _ _ _ => rfl) ?_
    obtain ⟨hg, h⟩ := h
    refine jg_cpI (pc' := 61) rfl (by decide) (Nat.le_of_ble_eq_true rfl) (jg_sX5_1 h1) (jg_sX3_2 h0) hg rfl (fun m103 hm103 => ?_)
    have h := h m103 hm103
    refine jg_A (pc' := 62) rfl rfl (fun _ _ _ => rfl) ?_
    refine jg_getO (pc' := 65) (k := 2) rfl h0 (by decide) rfl rfl ?_
    refine jg_A (pc' := 66) rfl rfl (fun _ _ _ => rfl) ?_
    refine jg_getI (pc' := 69) (bi := 1) rfl h0 (by decide) (Or.inl rfl) rfl rfl ?_
    refine jg_A (pc' := 70) rfl rfl (fun _ _ _ => rfl) ?_
    refine jg_getI (pc' := 73) (bi := 2) rfl h1 (by decide) (Or.inl rfl) rfl rfl ?_
    obtain ⟨hg, h⟩ := h
    refine jg_iast (pc' := 74) rfl (jg_sX3_3 h0) hg rfl (fun m104 hm104 => ?_)
    have h := h m104 hm104
    refine jg_A (pc' := 75) rfl rfl (fun _ _ _ => rfl) ?_
    refine jg_getO (pc' := 78) (k := 3) rfl h0 (by decide) rfl rfl ?_
    refine jg_A (pc' := 79) rfl rfl (fun _ _ _ => rfl) ?_
    refine jg_getI (pc' := 82) (bi := 1) rfl h0 (by decide) (Or.inl rfl) rfl rfl ?_
    refine jg_A (pc' := 83) rfl rfl (fun _ _ _ => rfl) ?_
    refine jg_getI (pc' := 86) (bi := 3) rfl h1 (by decide) (Or.inl rfl) rfl rfl ?_
    obtain ⟨hg, h⟩ := h
    refine jg_iast (pc' := 87) rfl (jg_sX3_4 h0) hg rfl (fun m105 hm105 => ?_)
    have h := h m105 hm105
    refine jg_A (pc' := 88) rfl rfl (fun _ _ _ => rfl) ?_
    refine jg_getO (pc' := 91) (k := 4) rfl h0 (by decide) rfl rfl ?_
    refine jg_A (pc' := 92) rfl rfl (fun _ _ _ => rfl) ?_
    refine jg_getI (pc' := 95) (bi := 1) rfl h0 (by decide) (Or.inl rfl) rfl rfl ?_
    refine jg_A (pc' := 96) rfl rfl (fun _ _ _ => rfl) ?_
    refine jg_getI (pc' := 99) (bi := 4) rfl h1 (by decide) (Or.inl rfl) rfl rfl ?_
    obtain ⟨hg, h⟩ := h
    refine jg_iast (pc' := 100) rfl (jg_sX3_5 h0) hg rfl (fun m106 hm106 => ?_)
    have h := h m106 hm106
    exact jg_vret rfl rfl h
  · have h := jg_f h (show ¬ (20 ≤ jg_wr ((σ.1 a0 1) + 1)) from hc)
    refine jg_A (pc' := 13) rfl rfl (fun _ _ _ => rfl) ?_
    refine jg_getI (pc' := 16) (bi := 1) rfl h0 (by decide) (Or.inl rfl) rfl rfl ?_
    refine jg_A (pc' := 17) rfl rfl (fun _ _ _ => rfl) ?_
    refine jg_iadd (pc' := 18) rfl rfl ?_
    refine jg_goto rfl ?_
    refine jg_putI (pc' := 25) (bi := 1) rfl h0 (by decide) rfl rfl rfl rfl (fun m107 hm107 => ?_)
    have h := h m107 hm107
    refine jg_A (pc' := 26) rfl rfl (fun _ _ _ => rfl) ?_
    refine jg_A (pc' := 28) rfl rfl (fun _ _ _ => rfl) ?_
    refine jg_A (pc' := 29) rfl rfl (fun _ _ _ => rfl) ?_
    refine jg_getI (pc' := 32) (bi := 0) rfl h0 (by decide) (Or.inl rfl) rfl rfl ?_
    refine jg_A (pc' := 33) rfl rfl (fun _ _ _ => rfl) ?_
    refine jg_iadd (pc' := 34) rfl rfl ?_
    refine jg_min (pc' := 37) rfl (by decide) (Nat.le_of_ble_eq_true rfl) rfl ?_
    refine jg_putI (pc' := 40) (bi := 0) rfl h0 (by decide) rfl rfl rfl rfl (fun m108 hm108 => ?_)
    have h := h m108 hm108
    refine jg_A (pc' := 41) rfl rfl (fun _ _ _ => rfl) ?_
    refine jg_getO (pc' := 44) (k := 1) rfl h1 (by decide) rfl rfl ?_
    refine jg_A (pc' := 45) rfl rfl (fun _ _ _ => rfl) ?_
    refine jg_A (pc' := 46) rfl rfl (fun _ _ _ => rfl) ?_
    refine jg_getO (pc' := 49) (k := 1) rfl h0 (by decide) rfl rfl ?_
    refine jg_A (pc' := 50) rfl rfl (fun _ _ _ => rfl) ?_
    refine jg_getI (pc' := 53) (bi := 1) rfl h0 (by decide) (Or.inl rfl) rfl rfl ?_
    refine jg_A (pc' := 55) rfl rfl (fun _ _ _ => rfl) ?_
    refine jg_imul (pc' := 56) rfl rfl ?_
    refine jg_A (pc' := 58) rfl rfl (fun _ _ _ => rfl) ?_
    obtain ⟨hg, h⟩ := h
    refine jg_cpI (pc' := 61) rfl (by decide) (Nat.le_of_ble_eq_true rfl) (jg_sX5_1 h1) (jg_sX3_2 h0) hg rfl (fun m109 hm109 => ?_)
    have h := h m109 hm109
    refine jg_A (pc' := 62) rfl rfl (fun _ _ _ => rfl) ?_
    refine jg_getO (pc' := 65) (k := 2) rfl h0 (by decide) rfl rfl ?_
    refine jg_A (pc' := 66) rfl rfl (fun _ _ _ => rfl) ?_
    refine jg_getI (pc' := 69) (bi := 1) rfl h0 (by decide) (Or.inl rfl) rfl rfl ?_
    refine jg_A (pc' := 70) rfl rfl (fun _ _ _ => rfl) ?_
    refine jg_getI (pc' := 73) (bi := 2) rfl h1 (by decide) (Or.inl rfl) rfl rfl ?_
    obtain ⟨hg, h⟩ := h
    refine jg_iast (pc' := 74) rfl (jg_sX3_3 h0) hg rfl (fun m110 hm110 => ?_)
    have h := h m110 hm110
    refine jg_A (pc' := 75) rfl rfl (fun _ _ _ => rfl) ?_
    refine jg_getO (pc' := 78) (k := 3) rfl h0 (by decide) rfl rfl ?_
    refine jg_A (pc' := 79) rfl rfl (fun _ _ _ => rfl) ?_
    refine jg_getI (pc' := 82) (bi := 1) rfl h0 (by decide) (Or.inl rfl) rfl rfl ?_
    refine jg_A (pc' := 83) rfl rfl (fun _ _ _ => rfl) ?_
    refine jg_getI (pc' := 86) (bi := 3) rfl h1 (by decide) (Or.inl rfl) rfl rfl ?_
    obtain ⟨hg, h⟩ := h
    refine jg_iast (pc' := 87) rfl (jg_sX3_4 h0) hg rfl (fun m111 hm111 => ?_)
    have h := h m111 hm111
    refine jg_A (pc' := 88) rfl rfl (fun _ _ _ => rfl) ?_
    refine jg_getO (pc' := 91) (k := 4) rfl h0 (by decide) rfl rfl ?_
    refine jg_A (pc' := 92) rfl rfl (fun _ _ _ => rfl) ?_
    refine jg_getI (pc' := 95) (bi := 1) rfl h0 (by decide) (Or.inl rfl) rfl rfl ?_
    refine jg_A (pc' := 96) rfl rfl (fun _ _ _ => rfl) ?_
    refine jg_getI (pc' := 99) (bi := 4) rfl h1 (by decide) (Or.inl rfl) rfl rfl ?_
    obtain ⟨hg, h⟩ := h
    refine jg_iast (pc' := 100) rfl (jg_sX3_5 h0) hg rfl (fun m112 hm112 => ?_)
    have h := h m112 hm112
    exact jg_vret rfl rfl h
set_option maxRecDepth 100000 in
set_option maxHeartbeats 4000000 in
theorem jb_X3_takeBack_0 {w : Nat} {a0 : Nat} {a1 : Nat} {σ : jg_M} {Q : Int → jg_M → Prop} (h0 : jg_sh a0 = (3, 0)) (h1 : jg_sh a1 = (5, 0)) (h : (if jg_wr (σ.1 a0 0) = 0 then Q (-1) σ else ((0 : Int) ≤ jg_wr ((σ.1 a0 1) * 40) ∧ (0 : Int) ≤ 0 ∧ (0 : Int) ≤ 40 ∧ (jg_wr ((σ.1 a0 1) * 40) + 40 : Int) ≤ 800 ∧ (0 + 40 : Int) ≤ 40) ∧ ∀ m101 : jg_M, m101 = jg_cI σ (a0 + 1) (jg_wr ((σ.1 a0 1) * 40)) (a1 + 1) (0) (40) → ((0 : Int) ≤ jg_wr (m101.1 a0 1) ∧ jg_wr (m101.1 a0 1) < (20 : Int)) ∧ ∀ m102 : jg_M, m102 = jg_sI m101 a1 2 (m101.1 (a0 + 2) (jg_wr (m101.1 a0 1))) → ((0 : Int) ≤ jg_wr (m102.1 a0 1) ∧ jg_wr (m102.1 a0 1) < (20 : Int)) ∧ ∀ m103 : jg_M, m103 = jg_sI m102 a1 3 (m102.1 (a0 + 3) (jg_wr (m102.1 a0 1))) → ((0 : Int) ≤ jg_wr (m103.1 a0 1) ∧ jg_wr (m103.1 a0 1) < (20 : Int)) ∧ ∀ m104 : jg_M, m104 = jg_sI m103 a1 4 (m103.1 (a0 + 4) (jg_wr (m103.1 a0 1))) → (if jg_wr (m104.1 a0 1) ≤ 0 then ∀ m105 : jg_M, m105 = jg_sI m104 a0 1 19 → ∀ m106 : jg_M, m106 = jg_sI m105 a0 0 ((m105.1 a0 0) - 1) → Q (m106.1 a0 0) m106 else ∀ m107 : jg_M, m107 = jg_sI m104 a0 1 ((m104.1 a0 1) - 1) → ∀ m108 : jg_M, m108 = jg_sI m107 a0 0 ((m107.1 a0 0) - 1) → Q (m108.1 a0 0) m108))) : jg_CI w 1 mm_X3_takeBack [.ref a0, .ref a1] σ Q := by
  show jg_G w 1 mm_X3_takeBack 0 [.ref a0, .ref a1] [] σ (jg_QI Q)
  refine jg_A (pc' := 1) rfl rfl (fun _ _ _ => rfl) ?_
  refine jg_getI (pc' := 4) (bi := 0) rfl h0 (by decide) (Or.inl rfl) rfl rfl ?_
  refine jg_ifne (pc' := 7) rfl rfl (fun hc => ?_) (fun hc => ?_)
  · have h := jg_t h (show jg_wr (σ.1 a0 0) = 0 from hc)
    refine jg_A (pc' := 8) rfl rfl (fun _ _ _ => rfl) ?_
    exact jg_iret rfl rfl h
  · have h := jg_f h (show ¬ (jg_wr (σ.1 a0 0) = 0) from hc)
    refine jg_A (pc' := 10) rfl rfl (fun _ _ _ => rfl) ?_
    refine jg_getO (pc' := 13) (k := 1) rfl h0 (by decide) rfl rfl ?_
    refine jg_A (pc' := 14) rfl rfl (fun _ _ _ => rfl) ?_
    refine jg_getI (pc' := 17) (bi := 1) rfl h0 (by decide) (Or.inl rfl) rfl rfl ?_
    refine jg_A (pc' := 19) rfl rfl (fun _ _ _ => rfl) ?_
    refine jg_imul (pc' := 20) rfl rfl ?_
    refine jg_A (pc' := 21) rfl rfl (fun _ _ _ => rfl) ?_
    refine jg_getO (pc' := 24) (k := 1) rfl h1 (by decide) rfl rfl ?_
    refine jg_A (pc' := 25) rfl rfl (fun _ _ _ => rfl) ?_
    refine jg_A (pc' := 27) rfl rfl (fun _ _ _ => rfl) ?_
    obtain ⟨hg, h⟩ := h
    refine jg_cpI (pc' := 30) rfl (by decide) (Nat.le_of_ble_eq_true rfl) (jg_sX3_2 h0) (jg_sX5_1 h1) hg rfl (fun m101 hm101 => ?_)
    have h := h m101 hm101
    refine jg_A (pc' := 31) rfl rfl (fun _ _ _ => rfl) ?_
    refine jg_A (pc' := 32) rfl rfl (fun _ _ _ => rfl) ?_
    refine jg_getO (pc' := 35) (k := 2) rfl h0 (by decide) rfl rfl ?_
    refine jg_A (pc' := 36) rfl rfl (fun _ _ _ => rfl) ?_
    refine jg_getI (pc' := 39) (bi := 1) rfl h0 (by decide) (Or.inl rfl) rfl rfl ?_
    obtain ⟨hg, h⟩ := h
    refine jg_iald (pc' := 40) rfl (jg_sX3_3 h0) hg rfl ?_
    refine jg_putI (pc' := 43) (bi := 2) rfl h1 (by decide) rfl rfl rfl rfl (fun m102 hm102 => ?_)
    have h := h m102 hm102
    refine jg_A (pc' := 44) rfl rfl (fun _ _ _ => rfl) ?_
    refine jg_A (pc' := 45) rfl rfl (fun _ _ _ => rfl) ?_
    refine jg_getO (pc' := 48) (k := 3) rfl h0 (by decide) rfl rfl ?_
    refine jg_A (pc' := 49) rfl rfl (fun _ _ _ => rfl) ?_
    refine jg_getI (pc' := 52) (bi := 1) rfl h0 (by decide) (Or.inl rfl) rfl rfl ?_
    obtain ⟨hg, h⟩ := h
    refine jg_iald (pc' := 53) rfl (jg_sX3_4 h0) hg rfl ?_
    refine jg_putI (pc' := 56) (bi := 3) rfl h1 (by decide) rfl rfl rfl rfl (fun m103 hm103 => ?_)
    have h := h m103 hm103
    refine jg_A (pc' := 57) rfl rfl (fun _ _ _ => rfl) ?_
    refine jg_A (pc' := 58) rfl rfl (fun _ _ _ => rfl) ?_
    refine jg_getO (pc' := 61) (k := 4) rfl h0 (by decide) rfl rfl ?_
    refine jg_A (pc' := 62) rfl rfl (fun _ _ _ => rfl) ?_
    refine jg_getI (pc' := 65) (bi := 1) rfl h0 (by decide) (Or.inl rfl) rfl rfl ?_
    obtain ⟨hg, h⟩ := h
    refine jg_iald (pc' := 66) rfl (jg_sX3_5 h0) hg rfl ?_
    refine jg_putI (pc' := 69) (bi := 4) rfl h1 (by decide) rfl rfl rfl rfl (fun m104 hm104 => ?_)
    have h := h m104 hm104
    refine jg_A (pc' := 70) rfl rfl (fun _ _ _ => rfl) ?_
    refine jg_A (pc' := 71) rfl rfl (fun _ _ _ => rfl) ?_
    refine jg_getI (pc' := 74) (bi := 1) rfl h0 (by decide) (Or.inl rfl) rfl rfl ?_
    refine jg_ifle (pc' := 77) rfl rfl (fun hc => ?_) (fun hc => ?_)
    · have h := jg_t h (show jg_wr (m104.1 a0 1) ≤ 0 from hc)
      refine jg_A (pc' := 88) rfl rfl (fun _ _ _ => rfl) ?_
      refine jg_putI (pc' := 91) (bi := 1) rfl h0 (by decide) rfl rfl rfl rfl (fun m105 hm105 => ?_)
      have h := h m105 hm105
      refine jg_A (pc' := 92) rfl rfl (fun _ _ _ => rfl) ?_
      refine jg_A (pc' := 93) rfl rfl (fun _ _ _ => rfl) ?_
      refine jg_getI (pc' := 96) (bi := 0) rfl h0 (by decide) (Or.inl rfl) rfl rfl ?_
      refine jg_A (pc' := 97) rfl rfl (fun _ _ _ => rfl) ?_
      refine jg_isub (pc' := 98) rfl rfl ?_
      refine jg_putI (pc' := 101) (bi := 0) rfl h0 (by decide) rfl rfl rfl rfl (fun m106 hm106 => ?_)
      have h := h m106 hm106
      refine jg_A (pc' := 102) rfl rfl (fun _ _ _ => rfl) ?_
      refine jg_getI (pc' := 105) (bi := 0) rfl h0 (by decide) (Or.inl rfl) rfl rfl ?_
      exact jg_iret rfl rfl h
    · have h := jg_f h (show ¬ (jg_wr (m104.1 a0 1) ≤ 0) from hc)
      refine jg_A (pc' := 78) rfl rfl (fun _ _ _ => rfl) ?_
      refine jg_getI (pc' := 81) (bi := 1) rfl h0 (by decide) (Or.inl rfl) rfl rfl ?_
      refine jg_A (pc' := 82) rfl rfl (fun _ _ _ => rfl) ?_
      refine jg_isub (pc' := 83) rfl rfl ?_
      refine jg_goto rfl ?_
      refine jg_putI (pc' := 91) (bi := 1) rfl h0 (by decide) rfl rfl rfl rfl (fun m107 hm107 => ?_)
      have h := h m107 hm107
      refine jg_A (pc' := 92) rfl rfl (fun _ _ _ => rfl) ?_
      refine jg_A (pc' := 93) rfl rfl (fun _ _ _ => rfl) ?_
      refine jg_getI (pc' := 96) (bi := 0) rfl h0 (by decide) (Or.inl rfl) rfl rfl ?_
      refine jg_A (pc' := 97) rfl rfl (fun _ _ _ => rfl) ?_
      refine jg_isub (pc' := 98) rfl rfl ?_
      refine jg_putI (pc' := 101) (bi := 0) rfl h0 (by decide) rfl rfl rfl rfl (fun m108 hm108 => ?_)
      have h := h m108 hm108
      refine jg_A (pc' := 102) rfl rfl (fun _ _ _ => rfl) ?_
      refine jg_getI (pc' := 105) (bi := 0) rfl h0 (by decide) (Or.inl rfl) rfl rfl ?_
      exact jg_iret rfl rfl h
set_option maxRecDepth 100000 in
set_option maxHeartbeats 4000000 in
theorem jb_X4_make_0 {w : Nat} {a0 : Nat} {a1 : Nat} {σ : jg_M} {Q : jg_M → Prop} (h0 : jg_sh a0 = (4, 0)) (h1 : jg_sh a1 = (8, 0)) (h : ∀ m101 : jg_M, m101 = jg_sI σ a0 0 0 → ∀ m102 : jg_M, m102 = jg_sI m101 a0 1 0 → ∀ m103 : jg_M, m103 = jg_sI m102 a0 2 0 → ∀ m104 : jg_M, m104 = jg_sI m103 a0 3 0 → jg_CV w 0 mm_J7_fill_53178 [.ref (a0 + 3), .int (.ofInt (-1))] m104 (fun (m105 : jg_M) => jg_CV w 0 mm_J7_fill_d0a16 [.ref (a0 + 5), .long (.ofInt 0)] m105 (fun (m106 : jg_M) => jg_CV w 2 mm_X4_numberMoves [.ref a0, .ref a1] m106 (fun (m107 : jg_M) => jg_GV w 5 mm_X4_make 43 [.ref a0, .ref a1, .int (.ofInt 0)] m107 Q)))) : jg_CV w 5 mm_X4_make [.ref a0, .ref a1] σ Q := by
  show jg_G w 5 mm_X4_make 0 [.ref a0, .ref a1, mj_U] [] σ (jg_QV Q)
  refine jg_A (pc' := 1) rfl rfl (fun _ _ _ => rfl) ?_
  refine jg_A (pc' := 2) rfl rfl (fun _ _ _ => rfl) ?_
  refine jg_putI (pc' := 5) (bi := 0) rfl h0 (by decide) rfl rfl rfl rfl (fun m101 hm101 => ?_)
  have h := h m101 hm101
  refine jg_A (pc' := 6) rfl rfl (fun _ _ _ => rfl) ?_
  refine jg_A (pc' := 7) rfl rfl (fun _ _ _ => rfl) ?_
  refine jg_putI (pc' := 10) (bi := 1) rfl h0 (by decide) rfl rfl rfl rfl (fun m102 hm102 => ?_)
  have h := h m102 hm102
  refine jg_A (pc' := 11) rfl rfl (fun _ _ _ => rfl) ?_
  refine jg_A (pc' := 12) rfl rfl (fun _ _ _ => rfl) ?_
  refine jg_putI (pc' := 15) (bi := 2) rfl h0 (by decide) rfl rfl rfl rfl (fun m103 hm103 => ?_)
  have h := h m103 hm103
  refine jg_A (pc' := 16) rfl rfl (fun _ _ _ => rfl) ?_
  refine jg_A (pc' := 17) rfl rfl (fun _ _ _ => rfl) ?_
  refine jg_putI (pc' := 20) (bi := 3) rfl h0 (by decide) rfl rfl rfl rfl (fun m104 hm104 => ?_)
  have h := h m104 hm104
  refine jg_A (pc' := 21) rfl rfl (fun _ _ _ => rfl) ?_
  refine jg_getO (pc' := 24) (k := 3) rfl h0 (by decide) rfl rfl ?_
  refine jg_A (pc' := 25) rfl rfl (fun _ _ _ => rfl) ?_
  refine jg_calS (M1 := mm_J7_fill_53178) (hy := 0) (pc' := 28) rfl (Or.inl rfl) jm_J7_fill_53178 (by decide) rfl ⟨Nat.le_of_ble_eq_true rfl, rfl⟩ (Nat.le_of_ble_eq_true rfl) rfl h (jg_kV (fun m105 h => ?_))
  refine jg_A (pc' := 29) rfl rfl (fun _ _ _ => rfl) ?_
  refine jg_getO (pc' := 32) (k := 5) rfl h0 (by decide) rfl rfl ?_
  refine jg_lcst (pc' := 33) (x := 0) rfl rfl rfl ?_
  refine jg_calS (M1 := mm_J7_fill_d0a16) (hy := 0) (pc' := 36) rfl (Or.inl rfl) jm_J7_fill_d0a16 (by decide) rfl ⟨Nat.le_of_ble_eq_true rfl, rfl⟩ (Nat.le_of_ble_eq_true rfl) rfl h (jg_kV (fun m106 h => ?_))
  refine jg_A (pc' := 37) rfl rfl (fun _ _ _ => rfl) ?_
  refine jg_A (pc' := 38) rfl rfl (fun _ _ _ => rfl) ?_
  refine jg_calX (M1 := mm_X4_numberMoves) (hy := 2) (pc' := 41) rfl jm_X4_numberMoves (by decide) rfl h0 (by decide) ⟨Nat.le_of_ble_eq_true rfl, rfl⟩ (Nat.le_of_ble_eq_true rfl) rfl h (jg_kV (fun m107 h => ?_))
  refine jg_A (pc' := 42) rfl rfl (fun _ _ _ => rfl) ?_
  refine jg_A (pc' := 43) (ls' := [.ref a0, .ref a1, .int (.ofInt 0)]) rfl rfl (fun _ _ _ => rfl) ?_
  exact h
set_option maxRecDepth 100000 in
set_option maxHeartbeats 4000000 in
theorem jb_X4_make_43 {w : Nat} {a0 : Nat} {a1 : Nat} {x2 : Int} {σ : jg_M} {Q : jg_M → Prop} (h0 : jg_sh a0 = (4, 0)) (h1 : jg_sh a1 = (8, 0)) (h : (if jg_wr (σ.1 a0 0) ≤ jg_wr x2 then jg_CV w 3 mm_X4_settleAfters [.ref a0, .ref a1] σ (fun (m101 : jg_M) => Q m101) else jg_CV w 4 mm_X4_relate [.ref a0, .ref a1, .int (.ofInt x2)] σ (fun (m102 : jg_M) => jg_GV w 5 mm_X4_make 43 [.ref a0, .ref a1, .int (.ofInt (x2 + 1))] m102 Q))) : jg_GV w 5 mm_X4_make 43 [.ref a0, .ref a1, .int (.ofInt x2)] σ Q := by
  show jg_G w 5 mm_X4_make 43 [.ref a0, .ref a1, .int (.ofInt x2)] [] σ (jg_QV Q)
  refine jg_A (pc' := 44) rfl rfl (fun _ _ _ => rfl) ?_
  refine jg_A (pc' := 45) rfl rfl (fun _ _ _ => rfl) ?_
  refine jg_getI (pc' := 48) (bi := 0) rfl h0 (by decide) (Or.inl rfl) rfl rfl ?_
  refine jg_cge (pc' := 51) rfl rfl (fun hc => ?_) (fun hc => ?_)
  · have h := jg_t h (show jg_wr (σ.1 a0 0) ≤ jg_wr x2 from hc)
    refine jg_A (pc' := 64) rfl rfl (fun _ _ _ => rfl) ?_
    refine jg_A (pc' := 65) rfl rfl (fun _ _ _ => rfl) ?_
    refine jg_calX (M1 := mm_X4_settleAfters) (hy := 3) (pc' := 68) rfl jm_X4_settleAfters (by decide) rfl h0 (by decide) ⟨Nat.le_of_ble_eq_true rfl, rfl⟩ (Nat.le_of_ble_eq_true rfl) rfl h (jg_kV (fun m101 h => ?_))
    exact jg_vret rfl rfl h
  · have h := jg_f h (show ¬ (jg_wr (σ.1 a0 0) ≤ jg_wr x2) from hc)
    refine jg_A (pc' := 52) rfl rfl (fun _ _ _ => rfl) ?_
    refine jg_A (pc' := 53) rfl rfl (fun _ _ _ => rfl) ?_
    refine jg_A (pc' := 54) rfl rfl (fun _ _ _ => rfl) ?_
    refine jg_calX (M1 := mm_X4_relate) (hy := 4) (pc' := 57) rfl jm_X4_relate (by decide) rfl h0 (by decide) ⟨Nat.le_of_ble_eq_true rfl, rfl⟩ (Nat.le_of_ble_eq_true rfl) rfl h (jg_kV (fun m102 h => ?_))
    refine jg_iinc (pc' := 60) (ls' := [.ref a0, .ref a1, .int (.ofInt (x2 + 1))]) rfl rfl rfl rfl ?_
    refine jg_goto rfl ?_
    exact h
set_option maxRecDepth 100000 in
set_option maxHeartbeats 4000000 in
theorem jb_X4_numberMoves_0 {w : Nat} {a0 : Nat} {a1 : Nat} {σ : jg_M} {Q : jg_M → Prop} (h0 : jg_sh a0 = (4, 0)) (h1 : jg_sh a1 = (8, 0)) (h : jg_GV w 2 mm_X4_numberMoves 2 [.ref a0, .ref a1, .int (.ofInt 0), mj_U] σ Q) : jg_CV w 2 mm_X4_numberMoves [.ref a0, .ref a1] σ Q := by
  show jg_G w 2 mm_X4_numberMoves 0 [.ref a0, .ref a1, mj_U, mj_U] [] σ (jg_QV Q)
  refine jg_A (pc' := 1) rfl rfl (fun _ _ _ => rfl) ?_
  refine jg_A (pc' := 2) (ls' := [.ref a0, .ref a1, .int (.ofInt 0), mj_U]) rfl rfl (fun _ _ _ => rfl) ?_
  exact h
set_option maxRecDepth 100000 in
set_option maxHeartbeats 4000000 in
theorem jb_X4_numberMoves_2 {w : Nat} {a0 : Nat} {a1 : Nat} {x2 : Int} {u3 : Value} {σ : jg_M} {Q : jg_M → Prop} (h0 : jg_sh a0 = (4, 0)) (h1 : jg_sh a1 = (8, 0)) (h : (if jg_wr (σ.1 (a1 + 10) 0) ≤ jg_wr x2 then Q σ else jg_GV w 2 mm_X4_numberMoves 15 [.ref a0, .ref a1, .int (.ofInt x2), .int (.ofInt 0)] σ Q)) : jg_GV w 2 mm_X4_numberMoves 2 [.ref a0, .ref a1, .int (.ofInt x2), u3] σ Q := by
  show jg_G w 2 mm_X4_numberMoves 2 [.ref a0, .ref a1, .int (.ofInt x2), u3] [] σ (jg_QV Q)
  refine jg_A (pc' := 3) rfl rfl (fun _ _ _ => rfl) ?_
  refine jg_A (pc' := 4) rfl rfl (fun _ _ _ => rfl) ?_
  refine jg_getO (pc' := 7) (k := 10) rfl h1 (by decide) rfl rfl ?_
  refine jg_getI (pc' := 10) (bi := 0) rfl (jg_sX8_1 h1) (by decide) (Or.inl rfl) rfl rfl ?_
  refine jg_cge (pc' := 13) rfl rfl (fun hc => ?_) (fun hc => ?_)
  · have h := jg_t h (show jg_wr (σ.1 (a1 + 10) 0) ≤ jg_wr x2 from hc)
    exact jg_vret rfl rfl h
  · have h := jg_f h (show ¬ (jg_wr (σ.1 (a1 + 10) 0) ≤ jg_wr x2) from hc)
    refine jg_A (pc' := 14) rfl rfl (fun _ _ _ => rfl) ?_
    refine jg_A (pc' := 15) (ls' := [.ref a0, .ref a1, .int (.ofInt x2), .int (.ofInt 0)]) rfl rfl (fun _ _ _ => rfl) ?_
    exact h
set_option maxRecDepth 100000 in
set_option maxHeartbeats 4000000 in
theorem jb_X4_numberMoves_15 {w : Nat} {a0 : Nat} {a1 : Nat} {x2 : Int} {x3 : Int} {σ : jg_M} {Q : jg_M → Prop} (h0 : jg_sh a0 = (4, 0)) (h1 : jg_sh a1 = (8, 0)) (h : (if 5 ≤ jg_wr x3 then jg_GV w 2 mm_X4_numberMoves 2 [.ref a0, .ref a1, .int (.ofInt (x2 + 1)), .int (.ofInt x3)] σ Q else jg_CI w 1 mm_X7_moveBy [.ref (a1 + 10), .int (.ofInt x2), .int (.ofInt (10 + x3))] σ (fun (z102 : Int) (m101 : jg_M) => (if jg_wr z102 < 0 then jg_GV w 2 mm_X4_numberMoves 15 [.ref a0, .ref a1, .int (.ofInt x2), .int (.ofInt (x3 + 1))] m101 Q else (if 240 ≤ jg_wr (m101.1 a0 0) then jg_GV w 2 mm_X4_numberMoves 15 [.ref a0, .ref a1, .int (.ofInt x2), .int (.ofInt (x3 + 1))] m101 Q else ((0 : Int) ≤ (jg_wr ((x2 * 5) + x3)) ∧ (jg_wr ((x2 * 5) + x3)) < (240 : Int)) ∧ ∀ m103 : jg_M, m103 = jg_sI m101 (a0 + 3) (jg_wr ((x2 * 5) + x3)) (m101.1 a0 0) → ((0 : Int) ≤ (jg_wr (m103.1 a0 0)) ∧ (jg_wr (m103.1 a0 0)) < (240 : Int)) ∧ ∀ m104 : jg_M, m104 = jg_sI m103 (a0 + 1) (jg_wr (m103.1 a0 0)) x2 → ((0 : Int) ≤ (jg_wr (m104.1 a0 0)) ∧ (jg_wr (m104.1 a0 0)) < (240 : Int)) ∧ ∀ m105 : jg_M, m105 = jg_sI m104 (a0 + 2) (jg_wr (m104.1 a0 0)) x3 → ∀ m106 : jg_M, m106 = jg_sI m105 a0 0 ((m105.1 a0 0) + 1) → jg_GV w 2 mm_X4_numberMoves 15 [.ref a0, .ref a1, .int (.ofInt x2), .int (.ofInt (x3 + 1))] m106 Q))))) : jg_GV w 2 mm_X4_numberMoves 15 [.ref a0, .ref a1, .int (.ofInt x2), .int (.ofInt x3)] σ Q := by
  show jg_G w 2 mm_X4_numberMoves 15 [.ref a0, .ref a1, .int (.ofInt x2), .int (.ofInt x3)] [] σ (jg_QV Q)
  refine jg_A (pc' := 16) rfl rfl (fun _ _ _ => rfl) ?_
  refine jg_A (pc' := 17) rfl rfl (fun _ _ _ => rfl) ?_
  refine jg_cge (pc' := 20) rfl rfl (fun hc => ?_) (fun hc => ?_)
  · have h := jg_t h (show 5 ≤ jg_wr x3 from hc)
    refine jg_iinc (pc' := 98) (ls' := [.ref a0, .ref a1, .int (.ofInt (x2 + 1)), .int (.ofInt x3)]) rfl rfl rfl rfl ?_
    refine jg_goto rfl ?_
    exact h
  · have h := jg_f h (show ¬ (5 ≤ jg_wr x3) from hc)
    refine jg_A (pc' := 21) rfl rfl (fun _ _ _ => rfl) ?_
    refine jg_getO (pc' := 24) (k := 10) rfl h1 (by decide) rfl rfl ?_
    refine jg_A (pc' := 25) rfl rfl (fun _ _ _ => rfl) ?_
    refine jg_A (pc' := 27) rfl rfl (fun _ _ _ => rfl) ?_
    refine jg_A (pc' := 28) rfl rfl (fun _ _ _ => rfl) ?_
    refine jg_iadd (pc' := 29) rfl rfl ?_
    refine jg_calX (M1 := mm_X7_moveBy) (hy := 1) (pc' := 32) rfl jm_X7_moveBy (by decide) rfl (jg_sX8_1 h1) (by decide) ⟨Nat.le_of_ble_eq_true rfl, rfl⟩ (Nat.le_of_ble_eq_true rfl) rfl h (jg_kI (fun z102 m101 h => ?_))
    refine jg_iflt (pc' := 35) rfl rfl (fun hc => ?_) (fun hc => ?_)
    · have h := jg_t h (show jg_wr z102 < 0 from hc)
      refine jg_iinc (pc' := 92) (ls' := [.ref a0, .ref a1, .int (.ofInt x2), .int (.ofInt (x3 + 1))]) rfl rfl rfl rfl ?_
      refine jg_goto rfl ?_
      exact h
    · have h := jg_f h (show ¬ (jg_wr z102 < 0) from hc)
      refine jg_A (pc' := 36) rfl rfl (fun _ _ _ => rfl) ?_
      refine jg_getI (pc' := 39) (bi := 0) rfl h0 (by decide) (Or.inl rfl) rfl rfl ?_
      refine jg_A (pc' := 42) rfl rfl (fun _ _ _ => rfl) ?_
      refine jg_cge (pc' := 45) rfl rfl (fun hc => ?_) (fun hc => ?_)
      · have h := jg_t h (show 240 ≤ jg_wr (m101.1 a0 0) from hc)
        refine jg_iinc (pc' := 92) (ls' := [.ref a0, .ref a1, .int (.ofInt x2), .int (.ofInt (x3 + 1))]) rfl rfl rfl rfl ?_
        refine jg_goto rfl ?_
        exact h
      · have h := jg_f h (show ¬ (240 ≤ jg_wr (m101.1 a0 0)) from hc)
        refine jg_A (pc' := 46) rfl rfl (fun _ _ _ => rfl) ?_
        refine jg_getO (pc' := 49) (k := 3) rfl h0 (by decide) rfl rfl ?_
        refine jg_A (pc' := 50) rfl rfl (fun _ _ _ => rfl) ?_
        refine jg_A (pc' := 51) rfl rfl (fun _ _ _ => rfl) ?_
        refine jg_imul (pc' := 52) rfl rfl ?_
        refine jg_A (pc' := 53) rfl rfl (fun _ _ _ => rfl) ?_
        refine jg_iadd (pc' := 54) rfl rfl ?_
        refine jg_A (pc' := 55) rfl rfl (fun _ _ _ => rfl) ?_
        refine jg_getI (pc' := 58) (bi := 0) rfl h0 (by decide) (Or.inl rfl) rfl rfl ?_
        obtain ⟨hg, h⟩ := h
        refine jg_iast (pc' := 59) rfl (jg_sX4_6 h0) hg rfl (fun m103 hm103 => ?_)
        have h := h m103 hm103
        refine jg_A (pc' := 60) rfl rfl (fun _ _ _ => rfl) ?_
        refine jg_getO (pc' := 63) (k := 1) rfl h0 (by decide) rfl rfl ?_
        refine jg_A (pc' := 64) rfl rfl (fun _ _ _ => rfl) ?_
        refine jg_getI (pc' := 67) (bi := 0) rfl h0 (by decide) (Or.inl rfl) rfl rfl ?_
        refine jg_A (pc' := 68) rfl rfl (fun _ _ _ => rfl) ?_
        obtain ⟨hg, h⟩ := h
        refine jg_iast (pc' := 69) rfl (jg_sX4_4 h0) hg rfl (fun m104 hm104 => ?_)
        have h := h m104 hm104
        refine jg_A (pc' := 70) rfl rfl (fun _ _ _ => rfl) ?_
        refine jg_getO (pc' := 73) (k := 2) rfl h0 (by decide) rfl rfl ?_
        refine jg_A (pc' := 74) rfl rfl (fun _ _ _ => rfl) ?_
        refine jg_getI (pc' := 77) (bi := 0) rfl h0 (by decide) (Or.inl rfl) rfl rfl ?_
        refine jg_A (pc' := 78) rfl rfl (fun _ _ _ => rfl) ?_
        obtain ⟨hg, h⟩ := h
        refine jg_iast (pc' := 79) rfl (jg_sX4_5 h0) hg rfl (fun m105 hm105 => ?_)
        have h := h m105 hm105
        refine jg_A (pc' := 80) rfl rfl (fun _ _ _ => rfl) ?_
        refine jg_A (pc' := 81) rfl rfl (fun _ _ _ => rfl) ?_
        refine jg_getI (pc' := 84) (bi := 0) rfl h0 (by decide) (Or.inl rfl) rfl rfl ?_
        refine jg_A (pc' := 85) rfl rfl (fun _ _ _ => rfl) ?_
        refine jg_iadd (pc' := 86) rfl rfl ?_
        refine jg_putI (pc' := 89) (bi := 0) rfl h0 (by decide) rfl rfl rfl rfl (fun m106 hm106 => ?_)
        have h := h m106 hm106
        refine jg_iinc (pc' := 92) (ls' := [.ref a0, .ref a1, .int (.ofInt x2), .int (.ofInt (x3 + 1))]) rfl rfl rfl rfl ?_
        refine jg_goto rfl ?_
        exact h
set_option maxRecDepth 100000 in
set_option maxHeartbeats 4000000 in
theorem jb_X4_numberOf_0 {w : Nat} {a0 : Nat} {x1 : Int} {x2 : Int} {σ : jg_M} {Q : Int → jg_M → Prop} (h0 : jg_sh a0 = (4, 0)) (h : (if jg_wr x1 < 0 then Q (-1) σ else (if 48 ≤ jg_wr x1 then Q (-1) σ else (if jg_wr x2 < 0 then Q (-1) σ else (if jg_wr x2 < 5 then ((0 : Int) ≤ jg_wr ((x1 * 5) + x2) ∧ jg_wr ((x1 * 5) + x2) < (240 : Int)) ∧ Q (σ.1 (a0 + 3) (jg_wr ((x1 * 5) + x2))) σ else Q (-1) σ))))) : jg_CI w 0 mm_X4_numberOf [.ref a0, .int (.ofInt x1), .int (.ofInt x2)] σ Q := by
  show jg_G w 0 mm_X4_numberOf 0 [.ref a0, .int (.ofInt x1), .int (.ofInt x2)] [] σ (jg_QI Q)
  refine jg_A (pc' := 1) rfl rfl (fun _ _ _ => rfl) ?_
  refine jg_iflt (pc' := 4) rfl rfl (fun hc => ?_) (fun hc => ?_)
  · have h := jg_t h (show jg_wr x1 < 0 from hc)
    refine jg_A (pc' := 20) rfl rfl (fun _ _ _ => rfl) ?_
    exact jg_iret rfl rfl h
  · have h := jg_f h (show ¬ (jg_wr x1 < 0) from hc)
    refine jg_A (pc' := 5) rfl rfl (fun _ _ _ => rfl) ?_
    refine jg_A (pc' := 7) rfl rfl (fun _ _ _ => rfl) ?_
    refine jg_cge (pc' := 10) rfl rfl (fun hc => ?_) (fun hc => ?_)
    · have h := jg_t h (show 48 ≤ jg_wr x1 from hc)
      refine jg_A (pc' := 20) rfl rfl (fun _ _ _ => rfl) ?_
      exact jg_iret rfl rfl h
    · have h := jg_f h (show ¬ (48 ≤ jg_wr x1) from hc)
      refine jg_A (pc' := 11) rfl rfl (fun _ _ _ => rfl) ?_
      refine jg_iflt (pc' := 14) rfl rfl (fun hc => ?_) (fun hc => ?_)
      · have h := jg_t h (show jg_wr x2 < 0 from hc)
        refine jg_A (pc' := 20) rfl rfl (fun _ _ _ => rfl) ?_
        exact jg_iret rfl rfl h
      · have h := jg_f h (show ¬ (jg_wr x2 < 0) from hc)
        refine jg_A (pc' := 15) rfl rfl (fun _ _ _ => rfl) ?_
        refine jg_A (pc' := 16) rfl rfl (fun _ _ _ => rfl) ?_
        refine jg_clt (pc' := 19) rfl rfl (fun hc => ?_) (fun hc => ?_)
        · have h := jg_t h (show jg_wr x2 < 5 from hc)
          refine jg_A (pc' := 22) rfl rfl (fun _ _ _ => rfl) ?_
          refine jg_getO (pc' := 25) (k := 3) rfl h0 (by decide) rfl rfl ?_
          refine jg_A (pc' := 26) rfl rfl (fun _ _ _ => rfl) ?_
          refine jg_A (pc' := 27) rfl rfl (fun _ _ _ => rfl) ?_
          refine jg_imul (pc' := 28) rfl rfl ?_
          refine jg_A (pc' := 29) rfl rfl (fun _ _ _ => rfl) ?_
          refine jg_iadd (pc' := 30) rfl rfl ?_
          obtain ⟨hg, h⟩ := h
          refine jg_iald (pc' := 31) rfl (jg_sX4_6 h0) hg rfl ?_
          exact jg_iret rfl rfl h
        · have h := jg_f h (show ¬ (jg_wr x2 < 5) from hc)
          refine jg_A (pc' := 20) rfl rfl (fun _ _ _ => rfl) ?_
          exact jg_iret rfl rfl h
set_option maxRecDepth 100000 in
set_option maxHeartbeats 4000000 in
theorem jb_X4_relate_0 {w : Nat} {a0 : Nat} {a1 : Nat} {x2 : Int} {σ : jg_M} {Q : jg_M → Prop} (h0 : jg_sh a0 = (4, 0)) (h1 : jg_sh a1 = (8, 0)) (h : ((0 : Int) ≤ jg_wr x2 ∧ jg_wr x2 < (240 : Int)) ∧ ((0 : Int) ≤ jg_wr x2 ∧ jg_wr x2 < (240 : Int)) ∧ jg_CI w 1 mm_X7_moveBy [.ref (a1 + 10), .int (.ofInt (σ.1 (a0 + 1) (jg_wr x2))), .int (.ofInt (10 + (σ.1 (a0 + 2) (jg_wr x2))))] σ (fun (z102 : Int) (m101 : jg_M) => jg_GV w 4 mm_X4_relate 26 [.ref a0, .ref a1, .int (.ofInt x2), .int (.ofInt z102), .int (.ofInt 0)] m101 Q)) : jg_CV w 4 mm_X4_relate [.ref a0, .ref a1, .int (.ofInt x2)] σ Q := by
  show jg_G w 4 mm_X4_relate 0 [.ref a0, .ref a1, .int (.ofInt x2), mj_U, mj_U] [] σ (jg_QV Q)
  refine jg_A (pc' := 1) rfl rfl (fun _ _ _ => rfl) ?_
  refine jg_getO (pc' := 4) (k := 10) rfl h1 (by decide) rfl rfl ?_
  refine jg_A (pc' := 5) rfl rfl (fun _ _ _ => rfl) ?_
  refine jg_getO (pc' := 8) (k := 1) rfl h0 (by decide) rfl rfl ?_
  refine jg_A (pc' := 9) rfl rfl (fun _ _ _ => rfl) ?_
  obtain ⟨hg, h⟩ := h
  refine jg_iald (pc' := 10) rfl (jg_sX4_4 h0) hg rfl ?_
  refine jg_A (pc' := 12) rfl rfl (fun _ _ _ => rfl) ?_
  refine jg_A (pc' := 13) rfl rfl (fun _ _ _ => rfl) ?_
  refine jg_getO (pc' := 16) (k := 2) rfl h0 (by decide) rfl rfl ?_
  refine jg_A (pc' := 17) rfl rfl (fun _ _ _ => rfl) ?_
  obtain ⟨hg, h⟩ := h
  refine jg_iald (pc' := 18) rfl (jg_sX4_5 h0) hg rfl ?_
  refine jg_iadd (pc' := 19) rfl rfl ?_
  refine jg_calX (M1 := mm_X7_moveBy) (hy := 1) (pc' := 22) rfl jm_X7_moveBy (by decide) rfl (jg_sX8_1 h1) (by decide) ⟨Nat.le_of_ble_eq_true rfl, rfl⟩ (Nat.le_of_ble_eq_true rfl) rfl h (jg_kI (fun z102 m101 h => ?_))
  refine jg_A (pc' := 23) (ls' := [.ref a0, .ref a1, .int (.ofInt x2), .int (.ofInt z102), mj_U]) rfl rfl (fun _ _ _ => rfl) ?_
  refine jg_A (pc' := 24) rfl rfl (fun _ _ _ => rfl) ?_
  refine jg_A (pc' := 26) (ls' := [.ref a0, .ref a1, .int (.ofInt x2), .int (.ofInt z102), .int (.ofInt 0)]) rfl rfl (fun _ _ _ => rfl) ?_
  exact h
set_option maxRecDepth 100000 in
set_option maxHeartbeats 4000000 in
theorem jb_X4_relate_26 {w : Nat} {a0 : Nat} {a1 : Nat} {x2 : Int} {x3 : Int} {x4 : Int} {σ : jg_M} {Q : jg_M → Prop} (h0 : jg_sh a0 = (4, 0)) (h1 : jg_sh a1 = (8, 0)) (h : (if 5 ≤ jg_wr x4 then jg_GV w 4 mm_X4_relate 73 [.ref a0, .ref a1, .int (.ofInt x2), .int (.ofInt x3), .int (.ofInt 0)] σ Q else jg_CI w 0 mm_X0_isEmpty [.ref (a1 + 1), .int (.ofInt x4)] σ (fun (z102 : Int) (m101 : jg_M) => (if jg_wr z102 = 0 then jg_GV w 4 mm_X4_relate 26 [.ref a0, .ref a1, .int (.ofInt x2), .int (.ofInt x3), .int (.ofInt (x4 + 1))] m101 Q else jg_CI w 0 mm_X4_numberOf [.ref a0, .int (.ofInt x3), .int (.ofInt x4)] m101 (fun (z104 : Int) (m103 : jg_M) => (if jg_wr z104 < 0 then jg_GV w 4 mm_X4_relate 26 [.ref a0, .ref a1, .int (.ofInt x2), .int (.ofInt x3), .int (.ofInt (x4 + 1))] m103 Q else ∀ m105 : jg_M, m105 = jg_sI m103 a0 1 ((m103.1 a0 1) + 1) → jg_GV w 4 mm_X4_relate 26 [.ref a0, .ref a1, .int (.ofInt x2), .int (.ofInt x3), .int (.ofInt (x4 + 1))] m105 Q)))))) : jg_GV w 4 mm_X4_relate 26 [.ref a0, .ref a1, .int (.ofInt x2), .int (.ofInt x3), .int (.ofInt x4)] σ Q := by
  show jg_G w 4 mm_X4_relate 26 [.ref a0, .ref a1, .int (.ofInt x2), .int (.ofInt x3), .int (.ofInt x4)] [] σ (jg_QV Q)
  refine jg_A (pc' := 28) rfl rfl (fun _ _ _ => rfl) ?_
  refine jg_A (pc' := 29) rfl rfl (fun _ _ _ => rfl) ?_
  refine jg_cge (pc' := 32) rfl rfl (fun hc => ?_) (fun hc => ?_)
  · have h := jg_t h (show 5 ≤ jg_wr x4 from hc)
    refine jg_A (pc' := 71) rfl rfl (fun _ _ _ => rfl) ?_
    refine jg_A (pc' := 73) (ls' := [.ref a0, .ref a1, .int (.ofInt x2), .int (.ofInt x3), .int (.ofInt 0)]) rfl rfl (fun _ _ _ => rfl) ?_
    exact h
  · have h := jg_f h (show ¬ (5 ≤ jg_wr x4) from hc)
    refine jg_A (pc' := 33) rfl rfl (fun _ _ _ => rfl) ?_
    refine jg_getO (pc' := 36) (k := 1) rfl h1 (by decide) rfl rfl ?_
    refine jg_A (pc' := 38) rfl rfl (fun _ _ _ => rfl) ?_
    refine jg_calX (M1 := mm_X0_isEmpty) (hy := 0) (pc' := 41) rfl jm_X0_isEmpty (by decide) rfl (jg_sX8_0 h1) (by decide) ⟨Nat.le_of_ble_eq_true rfl, rfl⟩ (Nat.le_of_ble_eq_true rfl) rfl h (jg_kI (fun z102 m101 h => ?_))
    refine jg_ifeq (pc' := 44) rfl rfl (fun hc => ?_) (fun hc => ?_)
    · have h := jg_t h (show jg_wr z102 = 0 from hc)
      refine jg_iinc (pc' := 67) (ls' := [.ref a0, .ref a1, .int (.ofInt x2), .int (.ofInt x3), .int (.ofInt (x4 + 1))]) rfl rfl rfl rfl ?_
      refine jg_goto rfl ?_
      exact h
    · have h := jg_f h (show ¬ (jg_wr z102 = 0) from hc)
      refine jg_A (pc' := 45) rfl rfl (fun _ _ _ => rfl) ?_
      refine jg_A (pc' := 46) rfl rfl (fun _ _ _ => rfl) ?_
      refine jg_A (pc' := 48) rfl rfl (fun _ _ _ => rfl) ?_
      refine jg_calX (M1 := mm_X4_numberOf) (hy := 0) (pc' := 51) rfl jm_X4_numberOf (by decide) rfl h0 (by decide) ⟨Nat.le_of_ble_eq_true rfl, rfl⟩ (Nat.le_of_ble_eq_true rfl) rfl h (jg_kI (fun z104 m103 h => ?_))
      refine jg_iflt (pc' := 54) rfl rfl (fun hc => ?_) (fun hc => ?_)
      · have h := jg_t h (show jg_wr z104 < 0 from hc)
        refine jg_iinc (pc' := 67) (ls' := [.ref a0, .ref a1, .int (.ofInt x2), .int (.ofInt x3), .int (.ofInt (x4 + 1))]) rfl rfl rfl rfl ?_
        refine jg_goto rfl ?_
        exact h
      · have h := jg_f h (show ¬ (jg_wr z104 < 0) from hc)
        refine jg_A (pc' := 55) rfl rfl (fun _ _ _ => rfl) ?_
        refine jg_A (pc' := 56) rfl rfl (fun _ _ _ => rfl) ?_
        refine jg_getI (pc' := 59) (bi := 1) rfl h0 (by decide) (Or.inl rfl) rfl rfl ?_
        refine jg_A (pc' := 60) rfl rfl (fun _ _ _ => rfl) ?_
        refine jg_iadd (pc' := 61) rfl rfl ?_
        refine jg_putI (pc' := 64) (bi := 1) rfl h0 (by decide) rfl rfl rfl rfl (fun m105 hm105 => ?_)
        have h := h m105 hm105
        refine jg_iinc (pc' := 67) (ls' := [.ref a0, .ref a1, .int (.ofInt x2), .int (.ofInt x3), .int (.ofInt (x4 + 1))]) rfl rfl rfl rfl ?_
        refine jg_goto rfl ?_
        exact h
set_option maxRecDepth 100000 in
set_option maxHeartbeats 4000000 in
theorem jb_X4_relate_73 {w : Nat} {a0 : Nat} {a1 : Nat} {x2 : Int} {u3 : Value} {x4 : Int} {σ : jg_M} {Q : jg_M → Prop} (h0 : jg_sh a0 = (4, 0)) (h1 : jg_sh a1 = (8, 0)) (h : (if jg_wr (σ.1 (a1 + 1) 2) ≤ jg_wr x4 then Q σ else jg_CI w 1 mm_X0_kindOf [.ref (a1 + 1), .int (.ofInt x4)] σ (fun (z102 : Int) (m101 : jg_M) => ((0 : Int) ≤ jg_wr x2 ∧ jg_wr x2 < (240 : Int)) ∧ (if jg_wr z102 = jg_wr (m101.1 (a0 + 2) (jg_wr x2)) then jg_CV w 3 mm_X4_walk [.ref a0, .ref a1, .int (.ofInt x2), .int (.ofInt x4)] m101 (fun (m103 : jg_M) => jg_GV w 4 mm_X4_relate 73 [.ref a0, .ref a1, .int (.ofInt x2), u3, .int (.ofInt (x4 + 1))] m103 Q) else jg_GV w 4 mm_X4_relate 73 [.ref a0, .ref a1, .int (.ofInt x2), u3, .int (.ofInt (x4 + 1))] m101 Q)))) : jg_GV w 4 mm_X4_relate 73 [.ref a0, .ref a1, .int (.ofInt x2), u3, .int (.ofInt x4)] σ Q := by
  show jg_G w 4 mm_X4_relate 73 [.ref a0, .ref a1, .int (.ofInt x2), u3, .int (.ofInt x4)] [] σ (jg_QV Q)
  refine jg_A (pc' := 75) rfl rfl (fun _ _ _ => rfl) ?_
  refine jg_A (pc' := 76) rfl rfl (fun _ _ _ => rfl) ?_
  refine jg_getO (pc' := 79) (k := 1) rfl h1 (by decide) rfl rfl ?_
  refine jg_getI (pc' := 82) (bi := 2) rfl (jg_sX8_0 h1) (by decide) (Or.inl rfl) rfl rfl ?_
  refine jg_cge (pc' := 85) rfl rfl (fun hc => ?_) (fun hc => ?_)
  · have h := jg_t h (show jg_wr (σ.1 (a1 + 1) 2) ≤ jg_wr x4 from hc)
    exact jg_vret rfl rfl h
  · have h := jg_f h (show ¬ (jg_wr (σ.1 (a1 + 1) 2) ≤ jg_wr x4) from hc)
    refine jg_A (pc' := 86) rfl rfl (fun _ _ _ => rfl) ?_
    refine jg_getO (pc' := 89) (k := 1) rfl h1 (by decide) rfl rfl ?_
    refine jg_A (pc' := 91) rfl rfl (fun _ _ _ => rfl) ?_
    refine jg_calX (M1 := mm_X0_kindOf) (hy := 1) (pc' := 94) rfl jm_X0_kindOf (by decide) rfl (jg_sX8_0 h1) (by decide) ⟨Nat.le_of_ble_eq_true rfl, rfl⟩ (Nat.le_of_ble_eq_true rfl) rfl h (jg_kI (fun z102 m101 h => ?_))
    refine jg_A (pc' := 95) rfl rfl (fun _ _ _ => rfl) ?_
    refine jg_getO (pc' := 98) (k := 2) rfl h0 (by decide) rfl rfl ?_
    refine jg_A (pc' := 99) rfl rfl (fun _ _ _ => rfl) ?_
    obtain ⟨hg, h⟩ := h
    refine jg_iald (pc' := 100) rfl (jg_sX4_5 h0) hg rfl ?_
    refine jg_cne (pc' := 103) rfl rfl (fun hc => ?_) (fun hc => ?_)
    · have h := jg_t h (show jg_wr z102 = jg_wr (m101.1 (a0 + 2) (jg_wr x2)) from hc)
      refine jg_A (pc' := 104) rfl rfl (fun _ _ _ => rfl) ?_
      refine jg_A (pc' := 105) rfl rfl (fun _ _ _ => rfl) ?_
      refine jg_A (pc' := 106) rfl rfl (fun _ _ _ => rfl) ?_
      refine jg_A (pc' := 108) rfl rfl (fun _ _ _ => rfl) ?_
      refine jg_calX (M1 := mm_X4_walk) (hy := 3) (pc' := 111) rfl jm_X4_walk (by decide) rfl h0 (by decide) ⟨Nat.le_of_ble_eq_true rfl, rfl⟩ (Nat.le_of_ble_eq_true rfl) rfl h (jg_kV (fun m103 h => ?_))
      refine jg_iinc (pc' := 114) (ls' := [.ref a0, .ref a1, .int (.ofInt x2), u3, .int (.ofInt (x4 + 1))]) rfl rfl rfl rfl ?_
      refine jg_goto rfl ?_
      exact h
    · have h := jg_f h (show ¬ (jg_wr z102 = jg_wr (m101.1 (a0 + 2) (jg_wr x2))) from hc)
      refine jg_iinc (pc' := 114) (ls' := [.ref a0, .ref a1, .int (.ofInt x2), u3, .int (.ofInt (x4 + 1))]) rfl rfl rfl rfl ?_
      refine jg_goto rfl ?_
      exact h
set_option maxRecDepth 100000 in
set_option maxHeartbeats 4000000 in
theorem jb_X4_walk_0 {w : Nat} {a0 : Nat} {a1 : Nat} {x2 : Int} {x3 : Int} {σ : jg_M} {Q : jg_M → Prop} (h0 : jg_sh a0 = (4, 0)) (h1 : jg_sh a1 = (8, 0)) (h : ((0 : Int) ≤ jg_wr x2 ∧ jg_wr x2 < (240 : Int)) ∧ ∀ t101 : Int, t101 = (σ.1 (a0 + 1) (jg_wr x2)) → jg_GV w 3 mm_X4_walk 11 [.ref a0, .ref a1, .int (.ofInt x2), .int (.ofInt x3), .int (.ofInt t101), .int (.ofInt 0), mj_U] σ Q) : jg_CV w 3 mm_X4_walk [.ref a0, .ref a1, .int (.ofInt x2), .int (.ofInt x3)] σ Q := by
  show jg_G w 3 mm_X4_walk 0 [.ref a0, .ref a1, .int (.ofInt x2), .int (.ofInt x3), mj_U, mj_U, mj_U] [] σ (jg_QV Q)
  refine jg_A (pc' := 1) rfl rfl (fun _ _ _ => rfl) ?_
  refine jg_getO (pc' := 4) (k := 1) rfl h0 (by decide) rfl rfl ?_
  refine jg_A (pc' := 5) rfl rfl (fun _ _ _ => rfl) ?_
  obtain ⟨hg, h⟩ := h
  refine jg_iald (pc' := 6) rfl (jg_sX4_4 h0) hg rfl ?_
  refine jg_nm (F := fun t101 => jg_G w 3 mm_X4_walk 6 [.ref a0, .ref a1, .int (.ofInt x2), .int (.ofInt x3), mj_U, mj_U, mj_U] [.int (.ofInt t101)] σ (jg_QV Q)) (σ.1 (a0 + 1) (jg_wr x2)) (fun t101 ht101 => ?_)
  have h := h t101 ht101
  refine jg_A (pc' := 8) (ls' := [.ref a0, .ref a1, .int (.ofInt x2), .int (.ofInt x3), .int (.ofInt t101), mj_U, mj_U]) rfl rfl (fun _ _ _ => rfl) ?_
  refine jg_A (pc' := 9) rfl rfl (fun _ _ _ => rfl) ?_
  refine jg_A (pc' := 11) (ls' := [.ref a0, .ref a1, .int (.ofInt x2), .int (.ofInt x3), .int (.ofInt t101), .int (.ofInt 0), mj_U]) rfl rfl (fun _ _ _ => rfl) ?_
  exact h
set_option maxRecDepth 100000 in
set_option maxHeartbeats 4000000 in
theorem jb_X4_walk_11 {w : Nat} {a0 : Nat} {a1 : Nat} {x2 : Int} {x3 : Int} {x4 : Int} {x5 : Int} {u6 : Value} {σ : jg_M} {Q : jg_M → Prop} (h0 : jg_sh a0 = (4, 0)) (h1 : jg_sh a1 = (8, 0)) (h : jg_CI w 0 mm_X0_lengthOf [.ref (a1 + 1), .int (.ofInt x3)] σ (fun (z102 : Int) (m101 : jg_M) => (if jg_wr z102 ≤ jg_wr x5 then (if jg_wr x4 < 0 then Q m101 else ∀ m103 : jg_M, m103 = jg_sI m101 a0 3 ((m101.1 a0 3) + 1) → Q m103) else jg_CI w 1 mm_X0_symbolAt [.ref (a1 + 1), .int (.ofInt x3), .int (.ofInt x5)] m101 (fun (z105 : Int) (m104 : jg_M) => (if jg_wr z105 < 10 then jg_CI w 1 mm_X7_moveBy [.ref (a1 + 10), .int (.ofInt x4), .int (.ofInt z105)] m104 (fun (z107 : Int) (m106 : jg_M) => jg_GV w 3 mm_X4_walk 11 [.ref a0, .ref a1, .int (.ofInt x2), .int (.ofInt x3), .int (.ofInt z107), .int (.ofInt (x5 + 1)), .int (.ofInt z105)] m106 Q) else jg_CI w 2 mm_X0_isEmptyFrom [.ref (a1 + 1), .int (.ofInt x3), .int (.ofInt (x5 + 1))] m104 (fun (z109 : Int) (m108 : jg_M) => (if jg_wr z109 = 0 then jg_CI w 1 mm_X7_moveBy [.ref (a1 + 10), .int (.ofInt x4), .int (.ofInt z105)] m108 (fun (z111 : Int) (m110 : jg_M) => jg_GV w 3 mm_X4_walk 11 [.ref a0, .ref a1, .int (.ofInt x2), .int (.ofInt x3), .int (.ofInt z111), .int (.ofInt (x5 + 1)), .int (.ofInt z105)] m110 Q) else jg_CI w 0 mm_X4_numberOf [.ref a0, .int (.ofInt x4), .int (.ofInt (z105 - 10))] m108 (fun (z113 : Int) (m112 : jg_M) => jg_CV w 2 mm_X4_include [.ref a0, .int (.ofInt z113), .int (.ofInt x2)] m112 (fun (m114 : jg_M) => jg_CI w 1 mm_X7_moveBy [.ref (a1 + 10), .int (.ofInt x4), .int (.ofInt z105)] m114 (fun (z116 : Int) (m115 : jg_M) => jg_GV w 3 mm_X4_walk 11 [.ref a0, .ref a1, .int (.ofInt x2), .int (.ofInt x3), .int (.ofInt z116), .int (.ofInt (x5 + 1)), .int (.ofInt z105)] m115 Q)))))))))) : jg_GV w 3 mm_X4_walk 11 [.ref a0, .ref a1, .int (.ofInt x2), .int (.ofInt x3), .int (.ofInt x4), .int (.ofInt x5), u6] σ Q := by
  show jg_G w 3 mm_X4_walk 11 [.ref a0, .ref a1, .int (.ofInt x2), .int (.ofInt x3), .int (.ofInt x4), .int (.ofInt x5), u6] [] σ (jg_QV Q)
  refine jg_A (pc' := 13) rfl rfl (fun _ _ _ => rfl) ?_
  refine jg_A (pc' := 14) rfl rfl (fun _ _ _ => rfl) ?_
  refine jg_getO (pc' := 17) (k := 1) rfl h1 (by decide) rfl rfl ?_
  refine jg_A (pc' := 18) rfl rfl (fun _ _ _ => rfl) ?_
  refine jg_calX (M1 := mm_X0_lengthOf) (hy := 0) (pc' := 21) rfl jm_X0_lengthOf (by decide) rfl (jg_sX8_0 h1) (by decide) ⟨Nat.le_of_ble_eq_true rfl, rfl⟩ (Nat.le_of_ble_eq_true rfl) rfl h (jg_kI (fun z102 m101 h => ?_))
  refine jg_cge (pc' := 24) rfl rfl (fun hc => ?_) (fun hc => ?_)
  · have h := jg_t h (show jg_wr z102 ≤ jg_wr x5 from hc)
    refine jg_A (pc' := 95) rfl rfl (fun _ _ _ => rfl) ?_
    refine jg_iflt (pc' := 98) rfl rfl (fun hc => ?_) (fun hc => ?_)
    · have h := jg_t h (show jg_wr x4 < 0 from hc)
      exact jg_vret rfl rfl h
    · have h := jg_f h (show ¬ (jg_wr x4 < 0) from hc)
      refine jg_A (pc' := 99) rfl rfl (fun _ _ _ => rfl) ?_
      refine jg_A (pc' := 100) rfl rfl (fun _ _ _ => rfl) ?_
      refine jg_getI (pc' := 103) (bi := 3) rfl h0 (by decide) (Or.inl rfl) rfl rfl ?_
      refine jg_A (pc' := 104) rfl rfl (fun _ _ _ => rfl) ?_
      refine jg_iadd (pc' := 105) rfl rfl ?_
      refine jg_putI (pc' := 108) (bi := 3) rfl h0 (by decide) rfl rfl rfl rfl (fun m103 hm103 => ?_)
      have h := h m103 hm103
      exact jg_vret rfl rfl h
  · have h := jg_f h (show ¬ (jg_wr z102 ≤ jg_wr x5) from hc)
    refine jg_A (pc' := 25) rfl rfl (fun _ _ _ => rfl) ?_
    refine jg_getO (pc' := 28) (k := 1) rfl h1 (by decide) rfl rfl ?_
    refine jg_A (pc' := 29) rfl rfl (fun _ _ _ => rfl) ?_
    refine jg_A (pc' := 31) rfl rfl (fun _ _ _ => rfl) ?_
    refine jg_calX (M1 := mm_X0_symbolAt) (hy := 1) (pc' := 34) rfl jm_X0_symbolAt (by decide) rfl (jg_sX8_0 h1) (by decide) ⟨Nat.le_of_ble_eq_true rfl, rfl⟩ (Nat.le_of_ble_eq_true rfl) rfl h (jg_kI (fun z105 m104 h => ?_))
    refine jg_A (pc' := 36) (ls' := [.ref a0, .ref a1, .int (.ofInt x2), .int (.ofInt x3), .int (.ofInt x4), .int (.ofInt x5), .int (.ofInt z105)]) rfl rfl (fun _ _ _ => rfl) ?_
    refine jg_A (pc' := 38) rfl rfl (fun _ _ _ => rfl) ?_
    refine jg_A (pc' := 40) rfl rfl (fun _ _ _ => rfl) ?_
    refine jg_clt (pc' := 43) rfl rfl (fun hc => ?_) (fun hc => ?_)
    · have h := jg_t h (show jg_wr z105 < 10 from hc)
      refine jg_A (pc' := 75) rfl rfl (fun _ _ _ => rfl) ?_
      refine jg_getO (pc' := 78) (k := 10) rfl h1 (by decide) rfl rfl ?_
      refine jg_A (pc' := 80) rfl rfl (fun _ _ _ => rfl) ?_
      refine jg_A (pc' := 82) rfl rfl (fun _ _ _ => rfl) ?_
      refine jg_calX (M1 := mm_X7_moveBy) (hy := 1) (pc' := 85) rfl jm_X7_moveBy (by decide) rfl (jg_sX8_1 h1) (by decide) ⟨Nat.le_of_ble_eq_true rfl, rfl⟩ (Nat.le_of_ble_eq_true rfl) rfl h (jg_kI (fun z107 m106 h => ?_))
      refine jg_A (pc' := 87) (ls' := [.ref a0, .ref a1, .int (.ofInt x2), .int (.ofInt x3), .int (.ofInt z107), .int (.ofInt x5), .int (.ofInt z105)]) rfl rfl (fun _ _ _ => rfl) ?_
      refine jg_iinc (pc' := 90) (ls' := [.ref a0, .ref a1, .int (.ofInt x2), .int (.ofInt x3), .int (.ofInt z107), .int (.ofInt (x5 + 1)), .int (.ofInt z105)]) rfl rfl rfl rfl ?_
      refine jg_goto rfl ?_
      exact h
    · have h := jg_f h (show ¬ (jg_wr z105 < 10) from hc)
      refine jg_A (pc' := 44) rfl rfl (fun _ _ _ => rfl) ?_
      refine jg_getO (pc' := 47) (k := 1) rfl h1 (by decide) rfl rfl ?_
      refine jg_A (pc' := 48) rfl rfl (fun _ _ _ => rfl) ?_
      refine jg_A (pc' := 50) rfl rfl (fun _ _ _ => rfl) ?_
      refine jg_A (pc' := 51) rfl rfl (fun _ _ _ => rfl) ?_
      refine jg_iadd (pc' := 52) rfl rfl ?_
      refine jg_calX (M1 := mm_X0_isEmptyFrom) (hy := 2) (pc' := 55) rfl jm_X0_isEmptyFrom (by decide) rfl (jg_sX8_0 h1) (by decide) ⟨Nat.le_of_ble_eq_true rfl, rfl⟩ (Nat.le_of_ble_eq_true rfl) rfl h (jg_kI (fun z109 m108 h => ?_))
      refine jg_ifeq (pc' := 58) rfl rfl (fun hc => ?_) (fun hc => ?_)
      · have h := jg_t h (show jg_wr z109 = 0 from hc)
        refine jg_A (pc' := 75) rfl rfl (fun _ _ _ => rfl) ?_
        refine jg_getO (pc' := 78) (k := 10) rfl h1 (by decide) rfl rfl ?_
        refine jg_A (pc' := 80) rfl rfl (fun _ _ _ => rfl) ?_
        refine jg_A (pc' := 82) rfl rfl (fun _ _ _ => rfl) ?_
        refine jg_calX (M1 := mm_X7_moveBy) (hy := 1) (pc' := 85) rfl jm_X7_moveBy (by decide) rfl (jg_sX8_1 h1) (by decide) ⟨Nat.le_of_ble_eq_true rfl, rfl⟩ (Nat.le_of_ble_eq_true rfl) rfl h (jg_kI (fun z111 m110 h => ?_))
        refine jg_A (pc' := 87) (ls' := [.ref a0, .ref a1, .int (.ofInt x2), .int (.ofInt x3), .int (.ofInt z111), .int (.ofInt x5), .int (.ofInt z105)]) rfl rfl (fun _ _ _ => rfl) ?_
        refine jg_iinc (pc' := 90) (ls' := [.ref a0, .ref a1, .int (.ofInt x2), .int (.ofInt x3), .int (.ofInt z111), .int (.ofInt (x5 + 1)), .int (.ofInt z105)]) rfl rfl rfl rfl ?_
        refine jg_goto rfl ?_
        exact h
      · have h := jg_f h (show ¬ (jg_wr z109 = 0) from hc)
        refine jg_A (pc' := 59) rfl rfl (fun _ _ _ => rfl) ?_
        refine jg_A (pc' := 60) rfl rfl (fun _ _ _ => rfl) ?_
        refine jg_A (pc' := 62) rfl rfl (fun _ _ _ => rfl) ?_
        refine jg_A (pc' := 64) rfl rfl (fun _ _ _ => rfl) ?_
        refine jg_A (pc' := 66) rfl rfl (fun _ _ _ => rfl) ?_
        refine jg_isub (pc' := 67) rfl rfl ?_
        refine jg_calX (M1 := mm_X4_numberOf) (hy := 0) (pc' := 70) rfl jm_X4_numberOf (by decide) rfl h0 (by decide) ⟨Nat.le_of_ble_eq_true rfl, rfl⟩ (Nat.le_of_ble_eq_true rfl) rfl h (jg_kI (fun z113 m112 h => ?_))
        refine jg_A (pc' := 71) rfl rfl (fun _ _ _ => rfl) ?_
        refine jg_calX (M1 := mm_X4_include) (hy := 2) (pc' := 74) rfl jm_X4_include (by decide) rfl h0 (by decide) ⟨Nat.le_of_ble_eq_true rfl, rfl⟩ (Nat.le_of_ble_eq_true rfl) rfl h (jg_kV (fun m114 h => ?_))
        refine jg_A (pc' := 75) rfl rfl (fun _ _ _ => rfl) ?_
        refine jg_getO (pc' := 78) (k := 10) rfl h1 (by decide) rfl rfl ?_
        refine jg_A (pc' := 80) rfl rfl (fun _ _ _ => rfl) ?_
        refine jg_A (pc' := 82) rfl rfl (fun _ _ _ => rfl) ?_
        refine jg_calX (M1 := mm_X7_moveBy) (hy := 1) (pc' := 85) rfl jm_X7_moveBy (by decide) rfl (jg_sX8_1 h1) (by decide) ⟨Nat.le_of_ble_eq_true rfl, rfl⟩ (Nat.le_of_ble_eq_true rfl) rfl h (jg_kI (fun z116 m115 h => ?_))
        refine jg_A (pc' := 87) (ls' := [.ref a0, .ref a1, .int (.ofInt x2), .int (.ofInt x3), .int (.ofInt z116), .int (.ofInt x5), .int (.ofInt z105)]) rfl rfl (fun _ _ _ => rfl) ?_
        refine jg_iinc (pc' := 90) (ls' := [.ref a0, .ref a1, .int (.ofInt x2), .int (.ofInt x3), .int (.ofInt z116), .int (.ofInt (x5 + 1)), .int (.ofInt z105)]) rfl rfl rfl rfl ?_
        refine jg_goto rfl ?_
        exact h
set_option maxRecDepth 100000 in
set_option maxHeartbeats 4000000 in
theorem jb_X4_include_0 {w : Nat} {a0 : Nat} {x1 : Int} {x2 : Int} {σ : jg_M} {Q : jg_M → Prop} (h0 : jg_sh a0 = (4, 0)) (h : (if jg_wr x1 < 0 then Q σ else (if 240 ≤ jg_wr x1 then Q σ else jg_CI w 1 mm_X4_inRow [.ref (a0 + 5), .int (.ofInt x1), .int (.ofInt x2)] σ (fun (z102 : Int) (m101 : jg_M) => (if jg_wr z102 = 0 then ((0 : Int) ≤ jg_wr ((x1 * 4) + (jg_div x2 64)) ∧ jg_wr ((x1 * 4) + (jg_div x2 64)) < (960 : Int)) ∧ ((0 : Int) ≤ (jg_wr ((x1 * 4) + (jg_div x2 64))) ∧ (jg_wr ((x1 * 4) + (jg_div x2 64))) < (960 : Int)) ∧ ∀ m103 : jg_M, m103 = jg_sL m101 (a0 + 5) (jg_wr ((x1 * 4) + (jg_div x2 64))) (jg_qor (m101.2 (a0 + 5) (jg_wr ((x1 * 4) + (jg_div x2 64)))) (jg_qshl 1 (jg_rem x2 64))) → ∀ m104 : jg_M, m104 = jg_sI m103 a0 2 ((m103.1 a0 2) + 1) → Q m104 else Q m101))))) : jg_CV w 2 mm_X4_include [.ref a0, .int (.ofInt x1), .int (.ofInt x2)] σ Q := by
  show jg_G w 2 mm_X4_include 0 [.ref a0, .int (.ofInt x1), .int (.ofInt x2)] [] σ (jg_QV Q)
  refine jg_A (pc' := 1) rfl rfl (fun _ _ _ => rfl) ?_
  refine jg_iflt (pc' := 4) rfl rfl (fun hc => ?_) (fun hc => ?_)
  · have h := jg_t h (show jg_wr x1 < 0 from hc)
    exact jg_vret rfl rfl h
  · have h := jg_f h (show ¬ (jg_wr x1 < 0) from hc)
    refine jg_A (pc' := 5) rfl rfl (fun _ _ _ => rfl) ?_
    refine jg_A (pc' := 8) rfl rfl (fun _ _ _ => rfl) ?_
    refine jg_cge (pc' := 11) rfl rfl (fun hc => ?_) (fun hc => ?_)
    · have h := jg_t h (show 240 ≤ jg_wr x1 from hc)
      exact jg_vret rfl rfl h
    · have h := jg_f h (show ¬ (240 ≤ jg_wr x1) from hc)
      refine jg_A (pc' := 12) rfl rfl (fun _ _ _ => rfl) ?_
      refine jg_getO (pc' := 15) (k := 5) rfl h0 (by decide) rfl rfl ?_
      refine jg_A (pc' := 16) rfl rfl (fun _ _ _ => rfl) ?_
      refine jg_A (pc' := 17) rfl rfl (fun _ _ _ => rfl) ?_
      refine jg_calS (M1 := mm_X4_inRow) (hy := 1) (pc' := 20) rfl (Or.inl rfl) jm_X4_inRow (by decide) rfl ⟨Nat.le_of_ble_eq_true rfl, rfl⟩ (Nat.le_of_ble_eq_true rfl) rfl h (jg_kI (fun z102 m101 h => ?_))
      refine jg_ifne (pc' := 23) rfl rfl (fun hc => ?_) (fun hc => ?_)
      · have h := jg_t h (show jg_wr z102 = 0 from hc)
        refine jg_A (pc' := 24) rfl rfl (fun _ _ _ => rfl) ?_
        refine jg_getO (pc' := 27) (k := 5) rfl h0 (by decide) rfl rfl ?_
        refine jg_A (pc' := 28) rfl rfl (fun _ _ _ => rfl) ?_
        refine jg_A (pc' := 29) rfl rfl (fun _ _ _ => rfl) ?_
        refine jg_imul (pc' := 30) rfl rfl ?_
        refine jg_A (pc' := 31) rfl rfl (fun _ _ _ => rfl) ?_
        refine jg_A (pc' := 33) rfl rfl (fun _ _ _ => rfl) ?_
        refine jg_idiv (pc' := 34) rfl rfl (by decide) ?_
        refine jg_iadd (pc' := 35) rfl rfl ?_
        refine jg_A (pc' := 36) rfl rfl (fun _ _ _ => rfl) ?_
        obtain ⟨hg, h⟩ := h
        refine jg_lald (pc' := 37) rfl (jg_sX4_8 h0) hg rfl ?_
        refine jg_lcst (pc' := 38) (x := 1) rfl rfl rfl ?_
        refine jg_A (pc' := 39) rfl rfl (fun _ _ _ => rfl) ?_
        refine jg_A (pc' := 41) rfl rfl (fun _ _ _ => rfl) ?_
        refine jg_irem (pc' := 42) rfl rfl (by decide) ?_
        refine jg_lshl (pc' := 43) rfl rfl ?_
        refine jg_lor (pc' := 44) rfl rfl ?_
        obtain ⟨hg, h⟩ := h
        refine jg_last (pc' := 45) rfl (jg_sX4_8 h0) hg rfl (fun m103 hm103 => ?_)
        have h := h m103 hm103
        refine jg_A (pc' := 46) rfl rfl (fun _ _ _ => rfl) ?_
        refine jg_A (pc' := 47) rfl rfl (fun _ _ _ => rfl) ?_
        refine jg_getI (pc' := 50) (bi := 2) rfl h0 (by decide) (Or.inl rfl) rfl rfl ?_
        refine jg_A (pc' := 51) rfl rfl (fun _ _ _ => rfl) ?_
        refine jg_iadd (pc' := 52) rfl rfl ?_
        refine jg_putI (pc' := 55) (bi := 2) rfl h0 (by decide) rfl rfl rfl rfl (fun m104 hm104 => ?_)
        have h := h m104 hm104
        exact jg_vret rfl rfl h
      · have h := jg_f h (show ¬ (jg_wr z102 = 0) from hc)
        exact jg_vret rfl rfl h
set_option maxRecDepth 100000 in
set_option maxHeartbeats 4000000 in
theorem jb_X4_inRow_0 {w : Nat} {a0 : Nat} {n0 : Nat} {x1 : Int} {x2 : Int} {σ : jg_M} {Q : Int → jg_M → Prop} (h0 : jg_sh a0 = (21, n0)) (h : ∀ t101 : Int, t101 = ((x1 * 4) + (jg_div x2 64)) → (if jg_wr t101 < 0 then Q 0 σ else (if jg_wr (n0 : Int) ≤ jg_wr t101 then Q 0 σ else ((0 : Int) ≤ jg_wr t101 ∧ jg_wr t101 < (n0 : Int)) ∧ jg_CI w 0 mm_X11_inBits [.long (.ofInt (σ.2 a0 (jg_wr t101))), .int (.ofInt (jg_rem x2 64))] σ (fun (z103 : Int) (m102 : jg_M) => (if jg_wr z103 = 0 then Q 0 m102 else Q 1 m102))))) : jg_CI w 1 mm_X4_inRow [.ref a0, .int (.ofInt x1), .int (.ofInt x2)] σ Q := by
  show jg_G w 1 mm_X4_inRow 0 [.ref a0, .int (.ofInt x1), .int (.ofInt x2), mj_U] [] σ (jg_QI Q)
  refine jg_A (pc' := 1) rfl rfl (fun _ _ _ => rfl) ?_
  refine jg_A (pc' := 2) rfl rfl (fun _ _ _ => rfl) ?_
  refine jg_imul (pc' := 3) rfl rfl ?_
  refine jg_A (pc' := 4) rfl rfl (fun _ _ _ => rfl) ?_
  refine jg_A (pc' := 6) rfl rfl (fun _ _ _ => rfl) ?_
  refine jg_idiv (pc' := 7) rfl rfl (by decide) ?_
  refine jg_iadd (pc' := 8) rfl rfl ?_
  refine jg_nm (F := fun t101 => jg_G w 1 mm_X4_inRow 8 [.ref a0, .int (.ofInt x1), .int (.ofInt x2), mj_U] [.int (.ofInt t101)] σ (jg_QI Q)) ((x1 * 4) + (jg_div x2 64)) (fun t101 ht101 => ?_)
  have h := h t101 ht101
  refine jg_A (pc' := 9) (ls' := [.ref a0, .int (.ofInt x1), .int (.ofInt x2), .int (.ofInt t101)]) rfl rfl (fun _ _ _ => rfl) ?_
  refine jg_A (pc' := 10) rfl rfl (fun _ _ _ => rfl) ?_
  refine jg_iflt (pc' := 13) rfl rfl (fun hc => ?_) (fun hc => ?_)
  · have h := jg_t h (show jg_wr t101 < 0 from hc)
    refine jg_A (pc' := 37) rfl rfl (fun _ _ _ => rfl) ?_
    exact jg_zret rfl rfl (by decide) h
  · have h := jg_f h (show ¬ (jg_wr t101 < 0) from hc)
    refine jg_A (pc' := 14) rfl rfl (fun _ _ _ => rfl) ?_
    refine jg_A (pc' := 15) rfl rfl (fun _ _ _ => rfl) ?_
    refine jg_alen (pc' := 16) (ni := (n0 : Int)) rfl h0 (by decide) rfl rfl ?_
    refine jg_cge (pc' := 19) rfl rfl (fun hc => ?_) (fun hc => ?_)
    · have h := jg_t h (show jg_wr (n0 : Int) ≤ jg_wr t101 from hc)
      refine jg_A (pc' := 37) rfl rfl (fun _ _ _ => rfl) ?_
      exact jg_zret rfl rfl (by decide) h
    · have h := jg_f h (show ¬ (jg_wr (n0 : Int) ≤ jg_wr t101) from hc)
      refine jg_A (pc' := 20) rfl rfl (fun _ _ _ => rfl) ?_
      refine jg_A (pc' := 21) rfl rfl (fun _ _ _ => rfl) ?_
      obtain ⟨hg, h⟩ := h
      refine jg_lald (pc' := 22) rfl h0 hg rfl ?_
      refine jg_A (pc' := 23) rfl rfl (fun _ _ _ => rfl) ?_
      refine jg_A (pc' := 25) rfl rfl (fun _ _ _ => rfl) ?_
      refine jg_irem (pc' := 26) rfl rfl (by decide) ?_
      refine jg_calS (M1 := mm_X11_inBits) (hy := 0) (pc' := 29) rfl (Or.inr rfl) jm_X11_inBits (by decide) rfl ⟨Nat.le_of_ble_eq_true rfl, rfl⟩ (Nat.le_of_ble_eq_true rfl) rfl h (jg_kI (fun z103 m102 h => ?_))
      refine jg_ifeq (pc' := 32) rfl rfl (fun hc => ?_) (fun hc => ?_)
      · have h := jg_t h (show jg_wr z103 = 0 from hc)
        refine jg_A (pc' := 37) rfl rfl (fun _ _ _ => rfl) ?_
        exact jg_zret rfl rfl (by decide) h
      · have h := jg_f h (show ¬ (jg_wr z103 = 0) from hc)
        refine jg_A (pc' := 33) rfl rfl (fun _ _ _ => rfl) ?_
        refine jg_goto rfl ?_
        exact jg_zret rfl rfl (by decide) h
set_option maxRecDepth 100000 in
set_option maxHeartbeats 4000000 in
theorem jb_X4_settleAfters_0 {w : Nat} {a0 : Nat} {a1 : Nat} {σ : jg_M} {Q : jg_M → Prop} (h0 : jg_sh a0 = (4, 0)) (h1 : jg_sh a1 = (8, 0)) (h : jg_GV w 3 mm_X4_settleAfters 2 [.ref a0, .ref a1, .int (.ofInt 0), mj_U, mj_U, mj_U, mj_U] σ Q) : jg_CV w 3 mm_X4_settleAfters [.ref a0, .ref a1] σ Q := by
  show jg_G w 3 mm_X4_settleAfters 0 [.ref a0, .ref a1, mj_U, mj_U, mj_U, mj_U, mj_U] [] σ (jg_QV Q)
  refine jg_A (pc' := 1) rfl rfl (fun _ _ _ => rfl) ?_
  refine jg_A (pc' := 2) (ls' := [.ref a0, .ref a1, .int (.ofInt 0), mj_U, mj_U, mj_U, mj_U]) rfl rfl (fun _ _ _ => rfl) ?_
  exact h
set_option maxRecDepth 100000 in
set_option maxHeartbeats 4000000 in
theorem jb_X4_settleAfters_2 {w : Nat} {a0 : Nat} {a1 : Nat} {x2 : Int} {u3 : Value} {u4 : Value} {u5 : Value} {u6 : Value} {σ : jg_M} {Q : jg_M → Prop} (h0 : jg_sh a0 = (4, 0)) (h1 : jg_sh a1 = (8, 0)) (h : (if jg_wr (σ.1 a0 0) ≤ jg_wr x2 then jg_CI w 0 mm_X4_numberOf [.ref a0, .int (.ofInt 0), .int (.ofInt (σ.1 (a1 + 1) 3))] σ (fun (z102 : Int) (m101 : jg_M) => (if jg_wr z102 < 0 then jg_GV w 3 mm_X4_settleAfters 75 [.ref a0, .ref a1, .int (.ofInt z102), .int (.ofInt 1), .int (.ofInt 0), u5, u6] m101 Q else (if 240 ≤ jg_wr z102 then jg_GV w 3 mm_X4_settleAfters 75 [.ref a0, .ref a1, .int (.ofInt z102), .int (.ofInt 1), .int (.ofInt 0), u5, u6] m101 Q else ((0 : Int) ≤ jg_wr z102 ∧ jg_wr z102 < (240 : Int)) ∧ ((0 : Int) ≤ (jg_wr z102) ∧ (jg_wr z102) < (240 : Int)) ∧ ∀ m103 : jg_M, m103 = jg_sI m101 (a0 + 4) (jg_wr z102) (jg_or (m101.1 (a0 + 4) (jg_wr z102)) (jg_shl 1 (m101.1 (a1 + 1) 0))) → jg_GV w 3 mm_X4_settleAfters 75 [.ref a0, .ref a1, .int (.ofInt z102), .int (.ofInt 1), .int (.ofInt 0), u5, u6] m103 Q))) else jg_CI w 2 mm_X4_tokensFrom [.ref a0, .ref a1, .int (.ofInt x2)] σ (fun (z105 : Int) (m104 : jg_M) => ((0 : Int) ≤ (jg_wr x2) ∧ (jg_wr x2) < (240 : Int)) ∧ ∀ m106 : jg_M, m106 = jg_sI m104 (a0 + 4) (jg_wr x2) z105 → jg_GV w 3 mm_X4_settleAfters 2 [.ref a0, .ref a1, .int (.ofInt (x2 + 1)), u3, u4, u5, u6] m106 Q))) : jg_GV w 3 mm_X4_settleAfters 2 [.ref a0, .ref a1, .int (.ofInt x2), u3, u4, u5, u6] σ Q := by
  show jg_G w 3 mm_X4_settleAfters 2 [.ref a0, .ref a1, .int (.ofInt x2), u3, u4, u5, u6] [] σ (jg_QV Q)
  refine jg_A (pc' := 3) rfl rfl (fun _ _ _ => rfl) ?_
  refine jg_A (pc' := 4) rfl rfl (fun _ _ _ => rfl) ?_
  refine jg_getI (pc' := 7) (bi := 0) rfl h0 (by decide) (Or.inl rfl) rfl rfl ?_
  refine jg_cge (pc' := 10) rfl rfl (fun hc => ?_) (fun hc => ?_)
  · have h := jg_t h (show jg_wr (σ.1 a0 0) ≤ jg_wr x2 from hc)
    refine jg_A (pc' := 29) rfl rfl (fun _ _ _ => rfl) ?_
    refine jg_A (pc' := 30) rfl rfl (fun _ _ _ => rfl) ?_
    refine jg_A (pc' := 31) rfl rfl (fun _ _ _ => rfl) ?_
    refine jg_getO (pc' := 34) (k := 1) rfl h1 (by decide) rfl rfl ?_
    refine jg_getI (pc' := 37) (bi := 3) rfl (jg_sX8_0 h1) (by decide) (Or.inl rfl) rfl rfl ?_
    refine jg_calX (M1 := mm_X4_numberOf) (hy := 0) (pc' := 40) rfl jm_X4_numberOf (by decide) rfl h0 (by decide) ⟨Nat.le_of_ble_eq_true rfl, rfl⟩ (Nat.le_of_ble_eq_true rfl) rfl h (jg_kI (fun z102 m101 h => ?_))
    refine jg_A (pc' := 41) (ls' := [.ref a0, .ref a1, .int (.ofInt z102), u3, u4, u5, u6]) rfl rfl (fun _ _ _ => rfl) ?_
    refine jg_A (pc' := 42) rfl rfl (fun _ _ _ => rfl) ?_
    refine jg_iflt (pc' := 45) rfl rfl (fun hc => ?_) (fun hc => ?_)
    · have h := jg_t h (show jg_wr z102 < 0 from hc)
      refine jg_A (pc' := 71) rfl rfl (fun _ _ _ => rfl) ?_
      refine jg_A (pc' := 72) (ls' := [.ref a0, .ref a1, .int (.ofInt z102), .int (.ofInt 1), u4, u5, u6]) rfl rfl (fun _ _ _ => rfl) ?_
      refine jg_A (pc' := 73) rfl rfl (fun _ _ _ => rfl) ?_
      refine jg_A (pc' := 75) (ls' := [.ref a0, .ref a1, .int (.ofInt z102), .int (.ofInt 1), .int (.ofInt 0), u5, u6]) rfl rfl (fun _ _ _ => rfl) ?_
      exact h
    · have h := jg_f h (show ¬ (jg_wr z102 < 0) from hc)
      refine jg_A (pc' := 46) rfl rfl (fun _ _ _ => rfl) ?_
      refine jg_A (pc' := 49) rfl rfl (fun _ _ _ => rfl) ?_
      refine jg_cge (pc' := 52) rfl rfl (fun hc => ?_) (fun hc => ?_)
      · have h := jg_t h (show 240 ≤ jg_wr z102 from hc)
        refine jg_A (pc' := 71) rfl rfl (fun _ _ _ => rfl) ?_
        refine jg_A (pc' := 72) (ls' := [.ref a0, .ref a1, .int (.ofInt z102), .int (.ofInt 1), u4, u5, u6]) rfl rfl (fun _ _ _ => rfl) ?_
        refine jg_A (pc' := 73) rfl rfl (fun _ _ _ => rfl) ?_
        refine jg_A (pc' := 75) (ls' := [.ref a0, .ref a1, .int (.ofInt z102), .int (.ofInt 1), .int (.ofInt 0), u5, u6]) rfl rfl (fun _ _ _ => rfl) ?_
        exact h
      · have h := jg_f h (show ¬ (240 ≤ jg_wr z102) from hc)
        refine jg_A (pc' := 53) rfl rfl (fun _ _ _ => rfl) ?_
        refine jg_getO (pc' := 56) (k := 4) rfl h0 (by decide) rfl rfl ?_
        refine jg_A (pc' := 57) rfl rfl (fun _ _ _ => rfl) ?_
        refine jg_A (pc' := 58) rfl rfl (fun _ _ _ => rfl) ?_
        obtain ⟨hg, h⟩ := h
        refine jg_iald (pc' := 59) rfl (jg_sX4_7 h0) hg rfl ?_
        refine jg_A (pc' := 60) rfl rfl (fun _ _ _ => rfl) ?_
        refine jg_A (pc' := 61) rfl rfl (fun _ _ _ => rfl) ?_
        refine jg_getO (pc' := 64) (k := 1) rfl h1 (by decide) rfl rfl ?_
        refine jg_getI (pc' := 67) (bi := 0) rfl (jg_sX8_0 h1) (by decide) (Or.inl rfl) rfl rfl ?_
        refine jg_ishl (pc' := 68) rfl rfl ?_
        refine jg_ior (pc' := 69) rfl rfl ?_
        obtain ⟨hg, h⟩ := h
        refine jg_iast (pc' := 70) rfl (jg_sX4_7 h0) hg rfl (fun m103 hm103 => ?_)
        have h := h m103 hm103
        refine jg_A (pc' := 71) rfl rfl (fun _ _ _ => rfl) ?_
        refine jg_A (pc' := 72) (ls' := [.ref a0, .ref a1, .int (.ofInt z102), .int (.ofInt 1), u4, u5, u6]) rfl rfl (fun _ _ _ => rfl) ?_
        refine jg_A (pc' := 73) rfl rfl (fun _ _ _ => rfl) ?_
        refine jg_A (pc' := 75) (ls' := [.ref a0, .ref a1, .int (.ofInt z102), .int (.ofInt 1), .int (.ofInt 0), u5, u6]) rfl rfl (fun _ _ _ => rfl) ?_
        exact h
  · have h := jg_f h (show ¬ (jg_wr (σ.1 a0 0) ≤ jg_wr x2) from hc)
    refine jg_A (pc' := 11) rfl rfl (fun _ _ _ => rfl) ?_
    refine jg_getO (pc' := 14) (k := 4) rfl h0 (by decide) rfl rfl ?_
    refine jg_A (pc' := 15) rfl rfl (fun _ _ _ => rfl) ?_
    refine jg_A (pc' := 16) rfl rfl (fun _ _ _ => rfl) ?_
    refine jg_A (pc' := 17) rfl rfl (fun _ _ _ => rfl) ?_
    refine jg_A (pc' := 18) rfl rfl (fun _ _ _ => rfl) ?_
    refine jg_calX (M1 := mm_X4_tokensFrom) (hy := 2) (pc' := 21) rfl jm_X4_tokensFrom (by decide) rfl h0 (by decide) ⟨Nat.le_of_ble_eq_true rfl, rfl⟩ (Nat.le_of_ble_eq_true rfl) rfl h (jg_kI (fun z105 m104 h => ?_))
    obtain ⟨hg, h⟩ := h
    refine jg_iast (pc' := 22) rfl (jg_sX4_7 h0) hg rfl (fun m106 hm106 => ?_)
    have h := h m106 hm106
    refine jg_iinc (pc' := 25) (ls' := [.ref a0, .ref a1, .int (.ofInt (x2 + 1)), u3, u4, u5, u6]) rfl rfl rfl rfl ?_
    refine jg_goto rfl ?_
    exact h
