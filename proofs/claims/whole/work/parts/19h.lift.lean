/-! LIFTED METHODS, 7: from a method's entry, and from each loop's head, what must hold for its run to end with Q (printed by wip/whole/gen/gen18.py) -/
set_option maxRecDepth 100000 in
set_option maxHeartbeats 4000000 in
theorem jb_X12_comes_10 {w : Nat} {a0 : Nat} {x1 : Int} {x2 : Int} {u3 : Value} {u4 : Value} {u5 : Value} {u6 : Value} {σ : jg_M} {Q : Int → jg_M → Prop} (h0 : jg_sh a0 = (12, 0)) (h : ((0 : Int) ≤ jg_wr ((σ.1 a0 54) - 1) ∧ jg_wr ((σ.1 a0 54) - 1) < (42 : Int)) ∧ ∀ t101 : Int, t101 = (σ.1 (a0 + 37) (jg_wr ((σ.1 a0 54) - 1))) → ((0 : Int) ≤ jg_wr ((8 * ((48 * x1) + t101)) + x2) ∧ jg_wr ((8 * ((48 * x1) + t101)) + x2) < (768 : Int)) ∧ ∀ t102 : Int, t102 = (σ.1 (a0 + 19) (jg_wr ((8 * ((48 * x1) + t101)) + x2))) → (if jg_wr t102 = 0 then Q 0 σ else (if jg_wr t102 = 3000 then ∀ m103 : jg_M, m103 = jg_sI σ a0 56 1 → Q 1 m103 else ∀ t104 : Int, t104 = (t102 - 1000) → (if jg_wr t102 < 2000 then (if jg_wr (σ.1 a0 54) = 40 then Q 0 σ else ((0 : Int) ≤ (jg_wr (σ.1 a0 54)) ∧ (jg_wr (σ.1 a0 54)) < (42 : Int)) ∧ ∀ m105 : jg_M, m105 = jg_sI σ (a0 + 37) (jg_wr (σ.1 a0 54)) t104 → ∀ m106 : jg_M, m106 = jg_sI m105 a0 54 ((m105.1 a0 54) + 1) → (if 2000 ≤ jg_wr t102 then jg_GI w 0 mm_X12_comes 10 [.ref a0, .int (.ofInt x1), .int (.ofInt x2), .int (.ofInt t101), .int (.ofInt t102), .int (.ofInt t104), u6] m106 Q else Q 1 m106)) else ∀ t107 : Int, t107 = (t102 - 2000) → (if jg_wr (σ.1 a0 55) = 60 then Q 0 σ else ∀ m108 : jg_M, m108 = jg_sI σ a0 55 ((σ.1 a0 55) + 1) → ((0 : Int) ≤ jg_wr t107 ∧ jg_wr t107 < (26 : Int)) ∧ ∀ m109 : jg_M, m109 = jg_sI m108 a0 54 ((m108.1 a0 54) - (m108.1 (a0 + 11) (jg_wr t107))) → ((0 : Int) ≤ jg_wr ((m109.1 a0 54) - 1) ∧ jg_wr ((m109.1 a0 54) - 1) < (42 : Int)) ∧ ((0 : Int) ≤ jg_wr t107 ∧ jg_wr t107 < (26 : Int)) ∧ ((0 : Int) ≤ jg_wr (((12 * ((48 * x1) + (m109.1 (a0 + 37) (jg_wr ((m109.1 a0 54) - 1))))) + 7) + (m109.1 (a0 + 10) (jg_wr t107))) ∧ jg_wr (((12 * ((48 * x1) + (m109.1 (a0 + 37) (jg_wr ((m109.1 a0 54) - 1))))) + 7) + (m109.1 (a0 + 10) (jg_wr t107))) < (1152 : Int)) ∧ ∀ t110 : Int, t110 = (m109.1 (a0 + 16) (jg_wr (((12 * ((48 * x1) + (m109.1 (a0 + 37) (jg_wr ((m109.1 a0 54) - 1))))) + 7) + (m109.1 (a0 + 10) (jg_wr t107))))) → (if jg_wr (m109.1 a0 54) = 40 then Q 0 m109 else ((0 : Int) ≤ (jg_wr (m109.1 a0 54)) ∧ (jg_wr (m109.1 a0 54)) < (42 : Int)) ∧ ∀ m111 : jg_M, m111 = jg_sI m109 (a0 + 37) (jg_wr (m109.1 a0 54)) t110 → ∀ m112 : jg_M, m112 = jg_sI m111 a0 54 ((m111.1 a0 54) + 1) → (if 2000 ≤ jg_wr t102 then jg_GI w 0 mm_X12_comes 10 [.ref a0, .int (.ofInt x1), .int (.ofInt x2), .int (.ofInt t101), .int (.ofInt t102), .int (.ofInt t110), .int (.ofInt t107)] m112 Q else Q 1 m112))))))) : jg_GI w 0 mm_X12_comes 10 [.ref a0, .int (.ofInt x1), .int (.ofInt x2), u3, u4, u5, u6] σ Q := by
  show jg_G w 0 mm_X12_comes 10 [.ref a0, .int (.ofInt x1), .int (.ofInt x2), u3, u4, u5, u6] [] σ (jg_QI Q)
  refine jg_A (pc' := 11) rfl rfl (fun _ _ _ => rfl) ?_
  refine jg_getO (pc' := 14) (k := 37) rfl h0 (by decide) rfl rfl ?_
  refine jg_A (pc' := 15) rfl rfl (fun _ _ _ => rfl) ?_
  refine jg_getI (pc' := 18) (bi := 54) rfl h0 (by decide) (Or.inl rfl) rfl rfl ?_
  refine jg_A (pc' := 19) rfl rfl (fun _ _ _ => rfl) ?_
  refine jg_isub (pc' := 20) rfl rfl ?_
  obtain ⟨hg, h⟩ := h
  refine jg_iald (pc' := 21) rfl (jg_sX12_53 h0) hg rfl ?_
  refine jg_nm (F := fun t101 => jg_G w 0 mm_X12_comes 21 [.ref a0, .int (.ofInt x1), .int (.ofInt x2), u3, u4, u5, u6] [.int (.ofInt t101)] σ (jg_QI Q)) (σ.1 (a0 + 37) (jg_wr ((σ.1 a0 54) - 1))) (fun t101 ht101 => ?_)
  have h := h t101 ht101
  refine jg_A (pc' := 22) (ls' := [.ref a0, .int (.ofInt x1), .int (.ofInt x2), .int (.ofInt t101), u4, u5, u6]) rfl rfl (fun _ _ _ => rfl) ?_
  refine jg_A (pc' := 23) rfl rfl (fun _ _ _ => rfl) ?_
  refine jg_getO (pc' := 26) (k := 19) rfl h0 (by decide) rfl rfl ?_
  refine jg_A (pc' := 28) rfl rfl (fun _ _ _ => rfl) ?_
  refine jg_A (pc' := 30) rfl rfl (fun _ _ _ => rfl) ?_
  refine jg_A (pc' := 31) rfl rfl (fun _ _ _ => rfl) ?_
  refine jg_imul (pc' := 32) rfl rfl ?_
  refine jg_A (pc' := 33) rfl rfl (fun _ _ _ => rfl) ?_
  refine jg_iadd (pc' := 34) rfl rfl ?_
  refine jg_imul (pc' := 35) rfl rfl ?_
  refine jg_A (pc' := 36) rfl rfl (fun _ _ _ => rfl) ?_
  refine jg_iadd (pc' := 37) rfl rfl ?_
  obtain ⟨hg, h⟩ := h
  refine jg_iald (pc' := 38) rfl (jg_sX12_28 h0) hg rfl ?_
  refine jg_nm (F := fun t102 => jg_G w 0 mm_X12_comes 38 [.ref a0, .int (.ofInt x1), .int (.ofInt x2), .int (.ofInt t101), u4, u5, u6] [.int (.ofInt t102)] σ (jg_QI Q)) (σ.1 (a0 + 19) (jg_wr ((8 * ((48 * x1) + t101)) + x2))) (fun t102 ht102 => ?_)
  have h := h t102 ht102
  refine jg_A (pc' := 40) (ls' := [.ref a0, .int (.ofInt x1), .int (.ofInt x2), .int (.ofInt t101), .int (.ofInt t102), u5, u6]) rfl rfl (fun _ _ _ => rfl) ?_
  refine jg_A (pc' := 42) rfl rfl (fun _ _ _ => rfl) ?_
  refine jg_ifne (pc' := 45) rfl rfl (fun hc => ?_) (fun hc => ?_)
  · have h := jg_t h (show jg_wr t102 = 0 from hc)
    refine jg_A (pc' := 46) rfl rfl (fun _ _ _ => rfl) ?_
    exact jg_zret rfl rfl (by decide) h
  · have h := jg_f h (show ¬ (jg_wr t102 = 0) from hc)
    refine jg_A (pc' := 49) rfl rfl (fun _ _ _ => rfl) ?_
    refine jg_A (pc' := 52) rfl rfl (fun _ _ _ => rfl) ?_
    refine jg_cne (pc' := 55) rfl rfl (fun hc => ?_) (fun hc => ?_)
    · have h := jg_t h (show jg_wr t102 = 3000 from hc)
      refine jg_A (pc' := 56) rfl rfl (fun _ _ _ => rfl) ?_
      refine jg_A (pc' := 57) rfl rfl (fun _ _ _ => rfl) ?_
      refine jg_putZ (pc' := 60) (bi := 56) rfl h0 (by decide) rfl rfl (by decide) rfl rfl (fun m103 hm103 => ?_)
      have h := h m103 hm103
      refine jg_A (pc' := 61) rfl rfl (fun _ _ _ => rfl) ?_
      exact jg_zret rfl rfl (by decide) h
    · have h := jg_f h (show ¬ (jg_wr t102 = 3000) from hc)
      refine jg_A (pc' := 64) rfl rfl (fun _ _ _ => rfl) ?_
      refine jg_A (pc' := 67) rfl rfl (fun _ _ _ => rfl) ?_
      refine jg_isub (pc' := 68) rfl rfl ?_
      refine jg_nm (F := fun t104 => jg_G w 0 mm_X12_comes 68 [.ref a0, .int (.ofInt x1), .int (.ofInt x2), .int (.ofInt t101), .int (.ofInt t102), u5, u6] [.int (.ofInt t104)] σ (jg_QI Q)) (t102 - 1000) (fun t104 ht104 => ?_)
      have h := h t104 ht104
      refine jg_A (pc' := 70) (ls' := [.ref a0, .int (.ofInt x1), .int (.ofInt x2), .int (.ofInt t101), .int (.ofInt t102), .int (.ofInt t104), u6]) rfl rfl (fun _ _ _ => rfl) ?_
      refine jg_A (pc' := 72) rfl rfl (fun _ _ _ => rfl) ?_
      refine jg_A (pc' := 75) rfl rfl (fun _ _ _ => rfl) ?_
      refine jg_clt (pc' := 78) rfl rfl (fun hc => ?_) (fun hc => ?_)
      · have h := jg_t h (show jg_wr t102 < 2000 from hc)
        refine jg_A (pc' := 161) rfl rfl (fun _ _ _ => rfl) ?_
        refine jg_getI (pc' := 164) (bi := 54) rfl h0 (by decide) (Or.inl rfl) rfl rfl ?_
        refine jg_A (pc' := 166) rfl rfl (fun _ _ _ => rfl) ?_
        refine jg_cne (pc' := 169) rfl rfl (fun hc => ?_) (fun hc => ?_)
        · have h := jg_t h (show jg_wr (σ.1 a0 54) = 40 from hc)
          refine jg_A (pc' := 170) rfl rfl (fun _ _ _ => rfl) ?_
          exact jg_zret rfl rfl (by decide) h
        · have h := jg_f h (show ¬ (jg_wr (σ.1 a0 54) = 40) from hc)
          refine jg_A (pc' := 172) rfl rfl (fun _ _ _ => rfl) ?_
          refine jg_getO (pc' := 175) (k := 37) rfl h0 (by decide) rfl rfl ?_
          refine jg_A (pc' := 176) rfl rfl (fun _ _ _ => rfl) ?_
          refine jg_getI (pc' := 179) (bi := 54) rfl h0 (by decide) (Or.inl rfl) rfl rfl ?_
          refine jg_A (pc' := 181) rfl rfl (fun _ _ _ => rfl) ?_
          obtain ⟨hg, h⟩ := h
          refine jg_iast (pc' := 182) rfl (jg_sX12_53 h0) hg rfl (fun m105 hm105 => ?_)
          have h := h m105 hm105
          refine jg_A (pc' := 183) rfl rfl (fun _ _ _ => rfl) ?_
          refine jg_A (pc' := 184) rfl rfl (fun _ _ _ => rfl) ?_
          refine jg_getI (pc' := 187) (bi := 54) rfl h0 (by decide) (Or.inl rfl) rfl rfl ?_
          refine jg_A (pc' := 188) rfl rfl (fun _ _ _ => rfl) ?_
          refine jg_iadd (pc' := 189) rfl rfl ?_
          refine jg_putI (pc' := 192) (bi := 54) rfl h0 (by decide) rfl rfl rfl rfl (fun m106 hm106 => ?_)
          have h := h m106 hm106
          refine jg_A (pc' := 194) rfl rfl (fun _ _ _ => rfl) ?_
          refine jg_A (pc' := 197) rfl rfl (fun _ _ _ => rfl) ?_
          refine jg_cge (pc' := 200) rfl rfl (fun hc => ?_) (fun hc => ?_)
          · have h := jg_t h (show 2000 ≤ jg_wr t102 from hc)
            refine jg_goto rfl ?_
            exact h
          · have h := jg_f h (show ¬ (2000 ≤ jg_wr t102) from hc)
            refine jg_A (pc' := 201) rfl rfl (fun _ _ _ => rfl) ?_
            exact jg_zret rfl rfl (by decide) h
      · have h := jg_f h (show ¬ (jg_wr t102 < 2000) from hc)
        refine jg_A (pc' := 80) rfl rfl (fun _ _ _ => rfl) ?_
        refine jg_A (pc' := 83) rfl rfl (fun _ _ _ => rfl) ?_
        refine jg_isub (pc' := 84) rfl rfl ?_
        refine jg_nm (F := fun t107 => jg_G w 0 mm_X12_comes 84 [.ref a0, .int (.ofInt x1), .int (.ofInt x2), .int (.ofInt t101), .int (.ofInt t102), .int (.ofInt t104), u6] [.int (.ofInt t107)] σ (jg_QI Q)) (t102 - 2000) (fun t107 ht107 => ?_)
        have h := h t107 ht107
        refine jg_A (pc' := 86) (ls' := [.ref a0, .int (.ofInt x1), .int (.ofInt x2), .int (.ofInt t101), .int (.ofInt t102), .int (.ofInt t104), .int (.ofInt t107)]) rfl rfl (fun _ _ _ => rfl) ?_
        refine jg_A (pc' := 87) rfl rfl (fun _ _ _ => rfl) ?_
        refine jg_getI (pc' := 90) (bi := 55) rfl h0 (by decide) (Or.inl rfl) rfl rfl ?_
        refine jg_A (pc' := 92) rfl rfl (fun _ _ _ => rfl) ?_
        refine jg_cne (pc' := 95) rfl rfl (fun hc => ?_) (fun hc => ?_)
        · have h := jg_t h (show jg_wr (σ.1 a0 55) = 60 from hc)
          refine jg_A (pc' := 96) rfl rfl (fun _ _ _ => rfl) ?_
          exact jg_zret rfl rfl (by decide) h
        · have h := jg_f h (show ¬ (jg_wr (σ.1 a0 55) = 60) from hc)
          refine jg_A (pc' := 98) rfl rfl (fun _ _ _ => rfl) ?_
          refine jg_A (pc' := 99) rfl rfl (fun _ _ _ => rfl) ?_
          refine jg_getI (pc' := 102) (bi := 55) rfl h0 (by decide) (Or.inl rfl) rfl rfl ?_
          refine jg_A (pc' := 103) rfl rfl (fun _ _ _ => rfl) ?_
          refine jg_iadd (pc' := 104) rfl rfl ?_
          refine jg_putI (pc' := 107) (bi := 55) rfl h0 (by decide) rfl rfl rfl rfl (fun m108 hm108 => ?_)
          have h := h m108 hm108
          refine jg_A (pc' := 108) rfl rfl (fun _ _ _ => rfl) ?_
          refine jg_A (pc' := 109) rfl rfl (fun _ _ _ => rfl) ?_
          refine jg_getI (pc' := 112) (bi := 54) rfl h0 (by decide) (Or.inl rfl) rfl rfl ?_
          refine jg_A (pc' := 113) rfl rfl (fun _ _ _ => rfl) ?_
          refine jg_getO (pc' := 116) (k := 11) rfl h0 (by decide) rfl rfl ?_
          refine jg_A (pc' := 118) rfl rfl (fun _ _ _ => rfl) ?_
          obtain ⟨hg, h⟩ := h
          refine jg_iald (pc' := 119) rfl (jg_sX12_20 h0) hg rfl ?_
          refine jg_isub (pc' := 120) rfl rfl ?_
          refine jg_putI (pc' := 123) (bi := 54) rfl h0 (by decide) rfl rfl rfl rfl (fun m109 hm109 => ?_)
          have h := h m109 hm109
          refine jg_A (pc' := 124) rfl rfl (fun _ _ _ => rfl) ?_
          refine jg_getO (pc' := 127) (k := 16) rfl h0 (by decide) rfl rfl ?_
          refine jg_A (pc' := 129) rfl rfl (fun _ _ _ => rfl) ?_
          refine jg_A (pc' := 131) rfl rfl (fun _ _ _ => rfl) ?_
          refine jg_A (pc' := 132) rfl rfl (fun _ _ _ => rfl) ?_
          refine jg_imul (pc' := 133) rfl rfl ?_
          refine jg_A (pc' := 134) rfl rfl (fun _ _ _ => rfl) ?_
          refine jg_getO (pc' := 137) (k := 37) rfl h0 (by decide) rfl rfl ?_
          refine jg_A (pc' := 138) rfl rfl (fun _ _ _ => rfl) ?_
          refine jg_getI (pc' := 141) (bi := 54) rfl h0 (by decide) (Or.inl rfl) rfl rfl ?_
          refine jg_A (pc' := 142) rfl rfl (fun _ _ _ => rfl) ?_
          refine jg_isub (pc' := 143) rfl rfl ?_
          obtain ⟨hg, h⟩ := h
          refine jg_iald (pc' := 144) rfl (jg_sX12_53 h0) hg rfl ?_
          refine jg_iadd (pc' := 145) rfl rfl ?_
          refine jg_imul (pc' := 146) rfl rfl ?_
          refine jg_A (pc' := 148) rfl rfl (fun _ _ _ => rfl) ?_
          refine jg_iadd (pc' := 149) rfl rfl ?_
          refine jg_A (pc' := 150) rfl rfl (fun _ _ _ => rfl) ?_
          refine jg_getO (pc' := 153) (k := 10) rfl h0 (by decide) rfl rfl ?_
          refine jg_A (pc' := 155) rfl rfl (fun _ _ _ => rfl) ?_
          obtain ⟨hg, h⟩ := h
          refine jg_iald (pc' := 156) rfl (jg_sX12_19 h0) hg rfl ?_
          refine jg_iadd (pc' := 157) rfl rfl ?_
          obtain ⟨hg, h⟩ := h
          refine jg_iald (pc' := 158) rfl (jg_sX12_25 h0) hg rfl ?_
          refine jg_nm (F := fun t110 => jg_G w 0 mm_X12_comes 158 [.ref a0, .int (.ofInt x1), .int (.ofInt x2), .int (.ofInt t101), .int (.ofInt t102), .int (.ofInt t104), .int (.ofInt t107)] [.int (.ofInt t110)] m109 (jg_QI Q)) (m109.1 (a0 + 16) (jg_wr (((12 * ((48 * x1) + (m109.1 (a0 + 37) (jg_wr ((m109.1 a0 54) - 1))))) + 7) + (m109.1 (a0 + 10) (jg_wr t107))))) (fun t110 ht110 => ?_)
          have h := h t110 ht110
          refine jg_A (pc' := 160) (ls' := [.ref a0, .int (.ofInt x1), .int (.ofInt x2), .int (.ofInt t101), .int (.ofInt t102), .int (.ofInt t110), .int (.ofInt t107)]) rfl rfl (fun _ _ _ => rfl) ?_
          refine jg_A (pc' := 161) rfl rfl (fun _ _ _ => rfl) ?_
          refine jg_getI (pc' := 164) (bi := 54) rfl h0 (by decide) (Or.inl rfl) rfl rfl ?_
          refine jg_A (pc' := 166) rfl rfl (fun _ _ _ => rfl) ?_
          refine jg_cne (pc' := 169) rfl rfl (fun hc => ?_) (fun hc => ?_)
          · have h := jg_t h (show jg_wr (m109.1 a0 54) = 40 from hc)
            refine jg_A (pc' := 170) rfl rfl (fun _ _ _ => rfl) ?_
            exact jg_zret rfl rfl (by decide) h
          · have h := jg_f h (show ¬ (jg_wr (m109.1 a0 54) = 40) from hc)
            refine jg_A (pc' := 172) rfl rfl (fun _ _ _ => rfl) ?_
            refine jg_getO (pc' := 175) (k := 37) rfl h0 (by decide) rfl rfl ?_
            refine jg_A (pc' := 176) rfl rfl (fun _ _ _ => rfl) ?_
            refine jg_getI (pc' := 179) (bi := 54) rfl h0 (by decide) (Or.inl rfl) rfl rfl ?_
            refine jg_A (pc' := 181) rfl rfl (fun _ _ _ => rfl) ?_
            obtain ⟨hg, h⟩ := h
            refine jg_iast (pc' := 182) rfl (jg_sX12_53 h0) hg rfl (fun m111 hm111 => ?_)
            have h := h m111 hm111
            refine jg_A (pc' := 183) rfl rfl (fun _ _ _ => rfl) ?_
            refine jg_A (pc' := 184) rfl rfl (fun _ _ _ => rfl) ?_
            refine jg_getI (pc' := 187) (bi := 54) rfl h0 (by decide) (Or.inl rfl) rfl rfl ?_
            refine jg_A (pc' := 188) rfl rfl (fun _ _ _ => rfl) ?_
            refine jg_iadd (pc' := 189) rfl rfl ?_
            refine jg_putI (pc' := 192) (bi := 54) rfl h0 (by decide) rfl rfl rfl rfl (fun m112 hm112 => ?_)
            have h := h m112 hm112
            refine jg_A (pc' := 194) rfl rfl (fun _ _ _ => rfl) ?_
            refine jg_A (pc' := 197) rfl rfl (fun _ _ _ => rfl) ?_
            refine jg_cge (pc' := 200) rfl rfl (fun hc => ?_) (fun hc => ?_)
            · have h := jg_t h (show 2000 ≤ jg_wr t102 from hc)
              refine jg_goto rfl ?_
              exact h
            · have h := jg_f h (show ¬ (2000 ≤ jg_wr t102) from hc)
              refine jg_A (pc' := 201) rfl rfl (fun _ _ _ => rfl) ?_
              exact jg_zret rfl rfl (by decide) h
set_option maxRecDepth 100000 in
set_option maxHeartbeats 4000000 in
theorem jb_X12_isSentence_0 {w : Nat} {a0 : Nat} {x1 : Int} {x2 : Int} {σ : jg_M} {Q : Int → jg_M → Prop} (h0 : jg_sh a0 = (12, 0)) (h : ((0 : Int) ≤ jg_wr x1 ∧ jg_wr x1 < (2 : Int)) ∧ (if jg_wr (σ.1 (a0 + 13) (jg_wr x1)) = 0 then Q 0 σ else jg_CV w 0 mm_X12_fromFirst [.ref a0] σ (fun (m101 : jg_M) => jg_GI w 1 mm_X12_isSentence 17 [.ref a0, .int (.ofInt x1), .int (.ofInt x2), .int (.ofInt 0)] m101 Q))) : jg_CI w 1 mm_X12_isSentence [.ref a0, .int (.ofInt x1), .int (.ofInt x2)] σ Q := by
  show jg_G w 1 mm_X12_isSentence 0 [.ref a0, .int (.ofInt x1), .int (.ofInt x2), mj_U] [] σ (jg_QI Q)
  refine jg_A (pc' := 1) rfl rfl (fun _ _ _ => rfl) ?_
  refine jg_getO (pc' := 4) (k := 13) rfl h0 (by decide) rfl rfl ?_
  refine jg_A (pc' := 5) rfl rfl (fun _ _ _ => rfl) ?_
  obtain ⟨hg, h⟩ := h
  refine jg_iald (pc' := 6) rfl (jg_sX12_22 h0) hg rfl ?_
  refine jg_ifne (pc' := 9) rfl rfl (fun hc => ?_) (fun hc => ?_)
  · have h := jg_t h (show jg_wr (σ.1 (a0 + 13) (jg_wr x1)) = 0 from hc)
    refine jg_A (pc' := 10) rfl rfl (fun _ _ _ => rfl) ?_
    exact jg_zret rfl rfl (by decide) h
  · have h := jg_f h (show ¬ (jg_wr (σ.1 (a0 + 13) (jg_wr x1)) = 0) from hc)
    refine jg_A (pc' := 12) rfl rfl (fun _ _ _ => rfl) ?_
    refine jg_calX (M1 := mm_X12_fromFirst) (hy := 0) (pc' := 15) rfl jm_X12_fromFirst (by decide) rfl h0 (by decide) ⟨Nat.le_of_ble_eq_true rfl, rfl⟩ (Nat.le_of_ble_eq_true rfl) rfl h (jg_kV (fun m101 h => ?_))
    refine jg_A (pc' := 16) rfl rfl (fun _ _ _ => rfl) ?_
    refine jg_A (pc' := 17) (ls' := [.ref a0, .int (.ofInt x1), .int (.ofInt x2), .int (.ofInt 0)]) rfl rfl (fun _ _ _ => rfl) ?_
    exact h
set_option maxRecDepth 100000 in
set_option maxHeartbeats 4000000 in
theorem jb_X12_isSentence_17 {w : Nat} {a0 : Nat} {x1 : Int} {x2 : Int} {x3 : Int} {σ : jg_M} {Q : Int → jg_M → Prop} (h0 : jg_sh a0 = (12, 0)) (h : (if jg_wr x2 ≤ jg_wr x3 then jg_CI w 0 mm_X12_comes [.ref a0, .int (.ofInt x1), .int (.ofInt (σ.1 (a0 + 3) (0)))] σ (fun (z102 : Int) (m101 : jg_M) => (if jg_wr z102 = 0 then Q 0 m101 else (if jg_wr (m101.1 a0 56) = 0 then Q 0 m101 else Q 1 m101))) else ((0 : Int) ≤ jg_wr x3 ∧ jg_wr x3 < (9 : Int)) ∧ jg_CI w 0 mm_X12_comes [.ref a0, .int (.ofInt x1), .int (.ofInt (σ.1 (a0 + 39) (jg_wr x3)))] σ (fun (z104 : Int) (m103 : jg_M) => (if jg_wr z104 = 0 then Q 0 m103 else jg_GI w 1 mm_X12_isSentence 17 [.ref a0, .int (.ofInt x1), .int (.ofInt x2), .int (.ofInt (x3 + 1))] m103 Q)))) : jg_GI w 1 mm_X12_isSentence 17 [.ref a0, .int (.ofInt x1), .int (.ofInt x2), .int (.ofInt x3)] σ Q := by
  show jg_G w 1 mm_X12_isSentence 17 [.ref a0, .int (.ofInt x1), .int (.ofInt x2), .int (.ofInt x3)] [] σ (jg_QI Q)
  refine jg_A (pc' := 18) rfl rfl (fun _ _ _ => rfl) ?_
  refine jg_A (pc' := 19) rfl rfl (fun _ _ _ => rfl) ?_
  refine jg_cge (pc' := 22) rfl rfl (fun hc => ?_) (fun hc => ?_)
  · have h := jg_t h (show jg_wr x2 ≤ jg_wr x3 from hc)
    refine jg_A (pc' := 45) rfl rfl (fun _ _ _ => rfl) ?_
    refine jg_A (pc' := 46) rfl rfl (fun _ _ _ => rfl) ?_
    refine jg_A (pc' := 47) rfl rfl (fun _ _ _ => rfl) ?_
    refine jg_getO (pc' := 50) (k := 3) rfl h0 (by decide) rfl rfl ?_
    refine jg_A (pc' := 51) rfl rfl (fun _ _ _ => rfl) ?_
    refine jg_ialdK (pc' := 52) (xi := 0) rfl (jg_sX12_12 h0) (by decide) (by decide) rfl ?_
    refine jg_calX (M1 := mm_X12_comes) (hy := 0) (pc' := 55) rfl jm_X12_comes (by decide) rfl h0 (by decide) ⟨Nat.le_of_ble_eq_true rfl, rfl⟩ (Nat.le_of_ble_eq_true rfl) rfl h (jg_kI (fun z102 m101 h => ?_))
    refine jg_ifeq (pc' := 58) rfl rfl (fun hc => ?_) (fun hc => ?_)
    · have h := jg_t h (show jg_wr z102 = 0 from hc)
      refine jg_A (pc' := 70) rfl rfl (fun _ _ _ => rfl) ?_
      exact jg_zret rfl rfl (by decide) h
    · have h := jg_f h (show ¬ (jg_wr z102 = 0) from hc)
      refine jg_A (pc' := 59) rfl rfl (fun _ _ _ => rfl) ?_
      refine jg_getI (pc' := 62) (bi := 56) rfl h0 (by decide) (Or.inr rfl) rfl rfl ?_
      refine jg_ifeq (pc' := 65) rfl rfl (fun hc => ?_) (fun hc => ?_)
      · have h := jg_t h (show jg_wr (m101.1 a0 56) = 0 from hc)
        refine jg_A (pc' := 70) rfl rfl (fun _ _ _ => rfl) ?_
        exact jg_zret rfl rfl (by decide) h
      · have h := jg_f h (show ¬ (jg_wr (m101.1 a0 56) = 0) from hc)
        refine jg_A (pc' := 66) rfl rfl (fun _ _ _ => rfl) ?_
        refine jg_goto rfl ?_
        exact jg_zret rfl rfl (by decide) h
  · have h := jg_f h (show ¬ (jg_wr x2 ≤ jg_wr x3) from hc)
    refine jg_A (pc' := 23) rfl rfl (fun _ _ _ => rfl) ?_
    refine jg_A (pc' := 24) rfl rfl (fun _ _ _ => rfl) ?_
    refine jg_A (pc' := 25) rfl rfl (fun _ _ _ => rfl) ?_
    refine jg_getO (pc' := 28) (k := 39) rfl h0 (by decide) rfl rfl ?_
    refine jg_A (pc' := 29) rfl rfl (fun _ _ _ => rfl) ?_
    obtain ⟨hg, h⟩ := h
    refine jg_iald (pc' := 30) rfl (jg_sX12_61 h0) hg rfl ?_
    refine jg_calX (M1 := mm_X12_comes) (hy := 0) (pc' := 33) rfl jm_X12_comes (by decide) rfl h0 (by decide) ⟨Nat.le_of_ble_eq_true rfl, rfl⟩ (Nat.le_of_ble_eq_true rfl) rfl h (jg_kI (fun z104 m103 h => ?_))
    refine jg_ifne (pc' := 36) rfl rfl (fun hc => ?_) (fun hc => ?_)
    · have h := jg_t h (show jg_wr z104 = 0 from hc)
      refine jg_A (pc' := 37) rfl rfl (fun _ _ _ => rfl) ?_
      exact jg_zret rfl rfl (by decide) h
    · have h := jg_f h (show ¬ (jg_wr z104 = 0) from hc)
      refine jg_iinc (pc' := 41) (ls' := [.ref a0, .int (.ofInt x1), .int (.ofInt x2), .int (.ofInt (x3 + 1))]) rfl rfl rfl rfl ?_
      refine jg_goto rfl ?_
      exact h
set_option maxRecDepth 100000 in
set_option maxHeartbeats 4000000 in
theorem jb_X12_power_0 {w : Nat} {x0 : Int} {x1 : Int} {σ : jg_M} {Q : Int → jg_M → Prop} (h : jg_GI w 0 mm_X12_power 4 [.int (.ofInt x0), .int (.ofInt x1), .int (.ofInt 1), .int (.ofInt 0)] σ Q) : jg_CI w 0 mm_X12_power [.int (.ofInt x0), .int (.ofInt x1)] σ Q := by
  show jg_G w 0 mm_X12_power 0 [.int (.ofInt x0), .int (.ofInt x1), mj_U, mj_U] [] σ (jg_QI Q)
  refine jg_A (pc' := 1) rfl rfl (fun _ _ _ => rfl) ?_
  refine jg_A (pc' := 2) (ls' := [.int (.ofInt x0), .int (.ofInt x1), .int (.ofInt 1), mj_U]) rfl rfl (fun _ _ _ => rfl) ?_
  refine jg_A (pc' := 3) rfl rfl (fun _ _ _ => rfl) ?_
  refine jg_A (pc' := 4) (ls' := [.int (.ofInt x0), .int (.ofInt x1), .int (.ofInt 1), .int (.ofInt 0)]) rfl rfl (fun _ _ _ => rfl) ?_
  exact h
set_option maxRecDepth 100000 in
set_option maxHeartbeats 4000000 in
theorem jb_X12_power_4 {w : Nat} {x0 : Int} {x1 : Int} {x2 : Int} {x3 : Int} {σ : jg_M} {Q : Int → jg_M → Prop} (h : (if jg_wr x1 ≤ jg_wr x3 then Q x2 σ else ∀ t101 : Int, t101 = (x2 * x0) → jg_GI w 0 mm_X12_power 4 [.int (.ofInt x0), .int (.ofInt x1), .int (.ofInt t101), .int (.ofInt (x3 + 1))] σ Q)) : jg_GI w 0 mm_X12_power 4 [.int (.ofInt x0), .int (.ofInt x1), .int (.ofInt x2), .int (.ofInt x3)] σ Q := by
  show jg_G w 0 mm_X12_power 4 [.int (.ofInt x0), .int (.ofInt x1), .int (.ofInt x2), .int (.ofInt x3)] [] σ (jg_QI Q)
  refine jg_A (pc' := 5) rfl rfl (fun _ _ _ => rfl) ?_
  refine jg_A (pc' := 6) rfl rfl (fun _ _ _ => rfl) ?_
  refine jg_cge (pc' := 9) rfl rfl (fun hc => ?_) (fun hc => ?_)
  · have h := jg_t h (show jg_wr x1 ≤ jg_wr x3 from hc)
    refine jg_A (pc' := 20) rfl rfl (fun _ _ _ => rfl) ?_
    exact jg_iret rfl rfl h
  · have h := jg_f h (show ¬ (jg_wr x1 ≤ jg_wr x3) from hc)
    refine jg_A (pc' := 10) rfl rfl (fun _ _ _ => rfl) ?_
    refine jg_A (pc' := 11) rfl rfl (fun _ _ _ => rfl) ?_
    refine jg_imul (pc' := 12) rfl rfl ?_
    refine jg_nm (F := fun t101 => jg_G w 0 mm_X12_power 12 [.int (.ofInt x0), .int (.ofInt x1), .int (.ofInt x2), .int (.ofInt x3)] [.int (.ofInt t101)] σ (jg_QI Q)) (x2 * x0) (fun t101 ht101 => ?_)
    have h := h t101 ht101
    refine jg_A (pc' := 13) (ls' := [.int (.ofInt x0), .int (.ofInt x1), .int (.ofInt t101), .int (.ofInt x3)]) rfl rfl (fun _ _ _ => rfl) ?_
    refine jg_iinc (pc' := 16) (ls' := [.int (.ofInt x0), .int (.ofInt x1), .int (.ofInt t101), .int (.ofInt (x3 + 1))]) rfl rfl rfl rfl ?_
    refine jg_goto rfl ?_
    exact h
set_option maxRecDepth 100000 in
set_option maxHeartbeats 4000000 in
theorem jb_X12_gives_0 {w : Nat} {a0 : Nat} {x1 : Int} {x2 : Int} {x3 : Int} {σ : jg_M} {Q : jg_M → Prop} (h0 : jg_sh a0 = (12, 0)) (h : ∀ t101 : Int, t101 = (x2 - 1) → jg_GV w 0 mm_X12_gives 8 [.ref a0, .int (.ofInt x1), .int (.ofInt x2), .int (.ofInt x3), .int (.ofInt x1), .int (.ofInt t101)] σ Q) : jg_CV w 0 mm_X12_gives [.ref a0, .int (.ofInt x1), .int (.ofInt x2), .int (.ofInt x3)] σ Q := by
  show jg_G w 0 mm_X12_gives 0 [.ref a0, .int (.ofInt x1), .int (.ofInt x2), .int (.ofInt x3), mj_U, mj_U] [] σ (jg_QV Q)
  refine jg_A (pc' := 1) rfl rfl (fun _ _ _ => rfl) ?_
  refine jg_A (pc' := 3) (ls' := [.ref a0, .int (.ofInt x1), .int (.ofInt x2), .int (.ofInt x3), .int (.ofInt x1), mj_U]) rfl rfl (fun _ _ _ => rfl) ?_
  refine jg_A (pc' := 4) rfl rfl (fun _ _ _ => rfl) ?_
  refine jg_A (pc' := 5) rfl rfl (fun _ _ _ => rfl) ?_
  refine jg_isub (pc' := 6) rfl rfl ?_
  refine jg_nm (F := fun t101 => jg_G w 0 mm_X12_gives 6 [.ref a0, .int (.ofInt x1), .int (.ofInt x2), .int (.ofInt x3), .int (.ofInt x1), mj_U] [.int (.ofInt t101)] σ (jg_QV Q)) (x2 - 1) (fun t101 ht101 => ?_)
  have h := h t101 ht101
  refine jg_A (pc' := 8) (ls' := [.ref a0, .int (.ofInt x1), .int (.ofInt x2), .int (.ofInt x3), .int (.ofInt x1), .int (.ofInt t101)]) rfl rfl (fun _ _ _ => rfl) ?_
  exact h
set_option maxRecDepth 100000 in
set_option maxHeartbeats 4000000 in
theorem jb_X12_gives_8 {w : Nat} {a0 : Nat} {u1 : Value} {u2 : Value} {x3 : Int} {x4 : Int} {x5 : Int} {σ : jg_M} {Q : jg_M → Prop} (h0 : jg_sh a0 = (12, 0)) (h : (if jg_wr x5 < 0 then Q σ else jg_wr x3 ≠ 0 ∧ ((0 : Int) ≤ (jg_wr x5) ∧ (jg_wr x5) < (9 : Int)) ∧ ∀ m101 : jg_M, m101 = jg_sI σ (a0 + 39) (jg_wr x5) (jg_rem x4 x3) → jg_wr x3 ≠ 0 ∧ ∀ t102 : Int, t102 = (jg_div x4 x3) → jg_GV w 0 mm_X12_gives 8 [.ref a0, u1, u2, .int (.ofInt x3), .int (.ofInt t102), .int (.ofInt (x5 + (-1)))] m101 Q)) : jg_GV w 0 mm_X12_gives 8 [.ref a0, u1, u2, .int (.ofInt x3), .int (.ofInt x4), .int (.ofInt x5)] σ Q := by
  show jg_G w 0 mm_X12_gives 8 [.ref a0, u1, u2, .int (.ofInt x3), .int (.ofInt x4), .int (.ofInt x5)] [] σ (jg_QV Q)
  refine jg_A (pc' := 10) rfl rfl (fun _ _ _ => rfl) ?_
  refine jg_iflt (pc' := 13) rfl rfl (fun hc => ?_) (fun hc => ?_)
  · have h := jg_t h (show jg_wr x5 < 0 from hc)
    exact jg_vret rfl rfl h
  · have h := jg_f h (show ¬ (jg_wr x5 < 0) from hc)
    refine jg_A (pc' := 14) rfl rfl (fun _ _ _ => rfl) ?_
    refine jg_getO (pc' := 17) (k := 39) rfl h0 (by decide) rfl rfl ?_
    refine jg_A (pc' := 19) rfl rfl (fun _ _ _ => rfl) ?_
    refine jg_A (pc' := 21) rfl rfl (fun _ _ _ => rfl) ?_
    refine jg_A (pc' := 22) rfl rfl (fun _ _ _ => rfl) ?_
    obtain ⟨hg, h⟩ := h
    refine jg_irem (pc' := 23) rfl rfl hg ?_
    obtain ⟨hg, h⟩ := h
    refine jg_iast (pc' := 24) rfl (jg_sX12_61 h0) hg rfl (fun m101 hm101 => ?_)
    have h := h m101 hm101
    refine jg_A (pc' := 26) rfl rfl (fun _ _ _ => rfl) ?_
    refine jg_A (pc' := 27) rfl rfl (fun _ _ _ => rfl) ?_
    obtain ⟨hg, h⟩ := h
    refine jg_idiv (pc' := 28) rfl rfl hg ?_
    refine jg_nm (F := fun t102 => jg_G w 0 mm_X12_gives 28 [.ref a0, u1, u2, .int (.ofInt x3), .int (.ofInt x4), .int (.ofInt x5)] [.int (.ofInt t102)] m101 (jg_QV Q)) (jg_div x4 x3) (fun t102 ht102 => ?_)
    have h := h t102 ht102
    refine jg_A (pc' := 30) (ls' := [.ref a0, u1, u2, .int (.ofInt x3), .int (.ofInt t102), .int (.ofInt x5)]) rfl rfl (fun _ _ _ => rfl) ?_
    refine jg_iinc (pc' := 33) (ls' := [.ref a0, u1, u2, .int (.ofInt x3), .int (.ofInt t102), .int (.ofInt (x5 + (-1)))]) rfl rfl rfl rfl ?_
    refine jg_goto rfl ?_
    exact h
set_option maxRecDepth 100000 in
set_option maxHeartbeats 4000000 in
theorem jb_X12_sentences_0 {w : Nat} {a0 : Nat} {x1 : Int} {σ : jg_M} {Q : Int → jg_M → Prop} (h0 : jg_sh a0 = (12, 0)) (h : ∀ m101 : jg_M, m101 = jg_sI σ a0 2 0 → jg_CI w 0 mm_X12_isIn [.int (.ofInt x1), .int (.ofInt 0), .int (.ofInt 4)] m101 (fun (z103 : Int) (m102 : jg_M) => (if jg_wr z103 = 0 then Q (-1) m102 else jg_GI w 2 mm_X12_sentences 20 [.ref a0, .int (.ofInt x1), .int (.ofInt 0), .int (.ofInt 0)] m102 Q))) : jg_CI w 2 mm_X12_sentences [.ref a0, .int (.ofInt x1)] σ Q := by
  show jg_G w 2 mm_X12_sentences 0 [.ref a0, .int (.ofInt x1), mj_U, mj_U] [] σ (jg_QI Q)
  refine jg_A (pc' := 1) rfl rfl (fun _ _ _ => rfl) ?_
  refine jg_A (pc' := 2) rfl rfl (fun _ _ _ => rfl) ?_
  refine jg_putI (pc' := 5) (bi := 2) rfl h0 (by decide) rfl rfl rfl rfl (fun m101 hm101 => ?_)
  have h := h m101 hm101
  refine jg_A (pc' := 6) rfl rfl (fun _ _ _ => rfl) ?_
  refine jg_A (pc' := 7) rfl rfl (fun _ _ _ => rfl) ?_
  refine jg_A (pc' := 8) rfl rfl (fun _ _ _ => rfl) ?_
  refine jg_calS (M1 := mm_X12_isIn) (hy := 0) (pc' := 11) rfl (Or.inl rfl) jm_X12_isIn (by decide) rfl ⟨Nat.le_of_ble_eq_true rfl, rfl⟩ (Nat.le_of_ble_eq_true rfl) rfl h (jg_kI (fun z103 m102 h => ?_))
  refine jg_ifne (pc' := 14) rfl rfl (fun hc => ?_) (fun hc => ?_)
  · have h := jg_t h (show jg_wr z103 = 0 from hc)
    refine jg_A (pc' := 15) rfl rfl (fun _ _ _ => rfl) ?_
    exact jg_iret rfl rfl h
  · have h := jg_f h (show ¬ (jg_wr z103 = 0) from hc)
    refine jg_A (pc' := 17) rfl rfl (fun _ _ _ => rfl) ?_
    refine jg_A (pc' := 18) (ls' := [.ref a0, .int (.ofInt x1), .int (.ofInt 0), mj_U]) rfl rfl (fun _ _ _ => rfl) ?_
    refine jg_A (pc' := 19) rfl rfl (fun _ _ _ => rfl) ?_
    refine jg_A (pc' := 20) (ls' := [.ref a0, .int (.ofInt x1), .int (.ofInt 0), .int (.ofInt 0)]) rfl rfl (fun _ _ _ => rfl) ?_
    exact h
set_option maxRecDepth 100000 in
set_option maxHeartbeats 4000000 in
theorem jb_X12_sentences_20 {w : Nat} {a0 : Nat} {x1 : Int} {x2 : Int} {x3 : Int} {σ : jg_M} {Q : Int → jg_M → Prop} (h0 : jg_sh a0 = (12, 0)) (h : jg_CI w 0 mm_X12_power [.int (.ofInt (σ.1 (a0 + 3) (0))), .int (.ofInt x1)] σ (fun (z102 : Int) (m101 : jg_M) => (if jg_wr z102 ≤ jg_wr x3 then Q x2 m101 else jg_CV w 0 mm_X12_gives [.ref a0, .int (.ofInt x3), .int (.ofInt x1), .int (.ofInt (m101.1 (a0 + 3) (0)))] m101 (fun (m103 : jg_M) => jg_CI w 1 mm_X12_isSentence [.ref a0, .int (.ofInt 0), .int (.ofInt x1)] m103 (fun (z105 : Int) (m104 : jg_M) => (if jg_wr z105 = 0 then ∀ t106 : Int, t106 = (x2 + 0) → jg_GI w 2 mm_X12_sentences 20 [.ref a0, .int (.ofInt x1), .int (.ofInt t106), .int (.ofInt (x3 + 1))] m104 Q else ∀ t107 : Int, t107 = (x2 + 1) → jg_GI w 2 mm_X12_sentences 20 [.ref a0, .int (.ofInt x1), .int (.ofInt t107), .int (.ofInt (x3 + 1))] m104 Q)))))) : jg_GI w 2 mm_X12_sentences 20 [.ref a0, .int (.ofInt x1), .int (.ofInt x2), .int (.ofInt x3)] σ Q := by
  show jg_G w 2 mm_X12_sentences 20 [.ref a0, .int (.ofInt x1), .int (.ofInt x2), .int (.ofInt x3)] [] σ (jg_QI Q)
  refine jg_A (pc' := 21) rfl rfl (fun _ _ _ => rfl) ?_
  refine jg_A (pc' := 22) rfl rfl (fun _ _ _ => rfl) ?_
  refine jg_getO (pc' := 25) (k := 3) rfl h0 (by decide) rfl rfl ?_
  refine jg_A (pc' := 26) rfl rfl (fun _ _ _ => rfl) ?_
  refine jg_ialdK (pc' := 27) (xi := 0) rfl (jg_sX12_12 h0) (by decide) (by decide) rfl ?_
  refine jg_A (pc' := 28) rfl rfl (fun _ _ _ => rfl) ?_
  refine jg_calS (M1 := mm_X12_power) (hy := 0) (pc' := 31) rfl (Or.inl rfl) jm_X12_power (by decide) rfl ⟨Nat.le_of_ble_eq_true rfl, rfl⟩ (Nat.le_of_ble_eq_true rfl) rfl h (jg_kI (fun z102 m101 h => ?_))
  refine jg_cge (pc' := 34) rfl rfl (fun hc => ?_) (fun hc => ?_)
  · have h := jg_t h (show jg_wr z102 ≤ jg_wr x3 from hc)
    refine jg_A (pc' := 70) rfl rfl (fun _ _ _ => rfl) ?_
    exact jg_iret rfl rfl h
  · have h := jg_f h (show ¬ (jg_wr z102 ≤ jg_wr x3) from hc)
    refine jg_A (pc' := 35) rfl rfl (fun _ _ _ => rfl) ?_
    refine jg_A (pc' := 36) rfl rfl (fun _ _ _ => rfl) ?_
    refine jg_A (pc' := 37) rfl rfl (fun _ _ _ => rfl) ?_
    refine jg_A (pc' := 38) rfl rfl (fun _ _ _ => rfl) ?_
    refine jg_getO (pc' := 41) (k := 3) rfl h0 (by decide) rfl rfl ?_
    refine jg_A (pc' := 42) rfl rfl (fun _ _ _ => rfl) ?_
    refine jg_ialdK (pc' := 43) (xi := 0) rfl (jg_sX12_12 h0) (by decide) (by decide) rfl ?_
    refine jg_calX (M1 := mm_X12_gives) (hy := 0) (pc' := 46) rfl jm_X12_gives (by decide) rfl h0 (by decide) ⟨Nat.le_of_ble_eq_true rfl, rfl⟩ (Nat.le_of_ble_eq_true rfl) rfl h (jg_kV (fun m103 h => ?_))
    refine jg_A (pc' := 47) rfl rfl (fun _ _ _ => rfl) ?_
    refine jg_A (pc' := 48) rfl rfl (fun _ _ _ => rfl) ?_
    refine jg_A (pc' := 49) rfl rfl (fun _ _ _ => rfl) ?_
    refine jg_A (pc' := 50) rfl rfl (fun _ _ _ => rfl) ?_
    refine jg_calX (M1 := mm_X12_isSentence) (hy := 1) (pc' := 53) rfl jm_X12_isSentence (by decide) rfl h0 (by decide) ⟨Nat.le_of_ble_eq_true rfl, rfl⟩ (Nat.le_of_ble_eq_true rfl) rfl h (jg_kI (fun z105 m104 h => ?_))
    refine jg_ifeq (pc' := 56) rfl rfl (fun hc => ?_) (fun hc => ?_)
    · have h := jg_t h (show jg_wr z105 = 0 from hc)
      refine jg_A (pc' := 61) rfl rfl (fun _ _ _ => rfl) ?_
      refine jg_iadd (pc' := 62) rfl rfl ?_
      refine jg_nm (F := fun t106 => jg_G w 2 mm_X12_sentences 62 [.ref a0, .int (.ofInt x1), .int (.ofInt x2), .int (.ofInt x3)] [.int (.ofInt t106)] m104 (jg_QI Q)) (x2 + 0) (fun t106 ht106 => ?_)
      have h := h t106 ht106
      refine jg_A (pc' := 63) (ls' := [.ref a0, .int (.ofInt x1), .int (.ofInt t106), .int (.ofInt x3)]) rfl rfl (fun _ _ _ => rfl) ?_
      refine jg_iinc (pc' := 66) (ls' := [.ref a0, .int (.ofInt x1), .int (.ofInt t106), .int (.ofInt (x3 + 1))]) rfl rfl rfl rfl ?_
      refine jg_goto rfl ?_
      exact h
    · have h := jg_f h (show ¬ (jg_wr z105 = 0) from hc)
      refine jg_A (pc' := 57) rfl rfl (fun _ _ _ => rfl) ?_
      refine jg_goto rfl ?_
      refine jg_iadd (pc' := 62) rfl rfl ?_
      refine jg_nm (F := fun t107 => jg_G w 2 mm_X12_sentences 62 [.ref a0, .int (.ofInt x1), .int (.ofInt x2), .int (.ofInt x3)] [.int (.ofInt t107)] m104 (jg_QI Q)) (x2 + 1) (fun t107 ht107 => ?_)
      have h := h t107 ht107
      refine jg_A (pc' := 63) (ls' := [.ref a0, .int (.ofInt x1), .int (.ofInt t107), .int (.ofInt x3)]) rfl rfl (fun _ _ _ => rfl) ?_
      refine jg_iinc (pc' := 66) (ls' := [.ref a0, .int (.ofInt x1), .int (.ofInt t107), .int (.ofInt (x3 + 1))]) rfl rfl rfl rfl ?_
      refine jg_goto rfl ?_
      exact h
set_option maxRecDepth 100000 in
set_option maxHeartbeats 4000000 in
theorem jb_X12_read_0 {w : Nat} {a0 : Nat} {x1 : Int} {σ : jg_M} {Q : Int → jg_M → Prop} (h0 : jg_sh a0 = (12, 0)) (h : ∀ m101 : jg_M, m101 = jg_sI σ a0 2 0 → jg_CI w 0 mm_X12_isToken [.ref a0, .int (.ofInt x1)] m101 (fun (z103 : Int) (m102 : jg_M) => (if jg_wr z103 = 0 then Q (-1) m102 else (if jg_wr (m102.1 (a0 + 13) (0)) = 0 then Q (-1) m102 else jg_CV w 0 mm_X12_fromNow [.ref a0] m102 (fun (m104 : jg_M) => jg_CI w 0 mm_X12_comes [.ref a0, .int (.ofInt 0), .int (.ofInt x1)] m104 (fun (z106 : Int) (m105 : jg_M) => (if jg_wr z106 = 0 then Q (-2) m105 else jg_CV w 1 mm_X12_remember [.ref a0] m105 (fun (m107 : jg_M) => jg_GI w 2 mm_X12_read 46 [.ref a0, .int (.ofInt x1), .int (.ofInt 0)] m107 Q)))))))) : jg_CI w 2 mm_X12_read [.ref a0, .int (.ofInt x1)] σ Q := by
  show jg_G w 2 mm_X12_read 0 [.ref a0, .int (.ofInt x1), mj_U] [] σ (jg_QI Q)
  refine jg_A (pc' := 1) rfl rfl (fun _ _ _ => rfl) ?_
  refine jg_A (pc' := 2) rfl rfl (fun _ _ _ => rfl) ?_
  refine jg_putI (pc' := 5) (bi := 2) rfl h0 (by decide) rfl rfl rfl rfl (fun m101 hm101 => ?_)
  have h := h m101 hm101
  refine jg_A (pc' := 6) rfl rfl (fun _ _ _ => rfl) ?_
  refine jg_A (pc' := 7) rfl rfl (fun _ _ _ => rfl) ?_
  refine jg_calX (M1 := mm_X12_isToken) (hy := 0) (pc' := 10) rfl jm_X12_isToken (by decide) rfl h0 (by decide) ⟨Nat.le_of_ble_eq_true rfl, rfl⟩ (Nat.le_of_ble_eq_true rfl) rfl h (jg_kI (fun z103 m102 h => ?_))
  refine jg_ifeq (pc' := 13) rfl rfl (fun hc => ?_) (fun hc => ?_)
  · have h := jg_t h (show jg_wr z103 = 0 from hc)
    refine jg_A (pc' := 23) rfl rfl (fun _ _ _ => rfl) ?_
    exact jg_iret rfl rfl h
  · have h := jg_f h (show ¬ (jg_wr z103 = 0) from hc)
    refine jg_A (pc' := 14) rfl rfl (fun _ _ _ => rfl) ?_
    refine jg_getO (pc' := 17) (k := 13) rfl h0 (by decide) rfl rfl ?_
    refine jg_A (pc' := 18) rfl rfl (fun _ _ _ => rfl) ?_
    refine jg_ialdK (pc' := 19) (xi := 0) rfl (jg_sX12_22 h0) (by decide) (by decide) rfl ?_
    refine jg_ifne (pc' := 22) rfl rfl (fun hc => ?_) (fun hc => ?_)
    · have h := jg_t h (show jg_wr (m102.1 (a0 + 13) (0)) = 0 from hc)
      refine jg_A (pc' := 23) rfl rfl (fun _ _ _ => rfl) ?_
      exact jg_iret rfl rfl h
    · have h := jg_f h (show ¬ (jg_wr (m102.1 (a0 + 13) (0)) = 0) from hc)
      refine jg_A (pc' := 25) rfl rfl (fun _ _ _ => rfl) ?_
      refine jg_calX (M1 := mm_X12_fromNow) (hy := 0) (pc' := 28) rfl jm_X12_fromNow (by decide) rfl h0 (by decide) ⟨Nat.le_of_ble_eq_true rfl, rfl⟩ (Nat.le_of_ble_eq_true rfl) rfl h (jg_kV (fun m104 h => ?_))
      refine jg_A (pc' := 29) rfl rfl (fun _ _ _ => rfl) ?_
      refine jg_A (pc' := 30) rfl rfl (fun _ _ _ => rfl) ?_
      refine jg_A (pc' := 31) rfl rfl (fun _ _ _ => rfl) ?_
      refine jg_calX (M1 := mm_X12_comes) (hy := 0) (pc' := 34) rfl jm_X12_comes (by decide) rfl h0 (by decide) ⟨Nat.le_of_ble_eq_true rfl, rfl⟩ (Nat.le_of_ble_eq_true rfl) rfl h (jg_kI (fun z106 m105 h => ?_))
      refine jg_ifne (pc' := 37) rfl rfl (fun hc => ?_) (fun hc => ?_)
      · have h := jg_t h (show jg_wr z106 = 0 from hc)
        refine jg_A (pc' := 39) rfl rfl (fun _ _ _ => rfl) ?_
        exact jg_iret rfl rfl h
      · have h := jg_f h (show ¬ (jg_wr z106 = 0) from hc)
        refine jg_A (pc' := 41) rfl rfl (fun _ _ _ => rfl) ?_
        refine jg_calX (M1 := mm_X12_remember) (hy := 1) (pc' := 44) rfl jm_X12_remember (by decide) rfl h0 (by decide) ⟨Nat.le_of_ble_eq_true rfl, rfl⟩ (Nat.le_of_ble_eq_true rfl) rfl h (jg_kV (fun m107 h => ?_))
        refine jg_A (pc' := 45) rfl rfl (fun _ _ _ => rfl) ?_
        refine jg_A (pc' := 46) (ls' := [.ref a0, .int (.ofInt x1), .int (.ofInt 0)]) rfl rfl (fun _ _ _ => rfl) ?_
        exact h
set_option maxRecDepth 100000 in
set_option maxHeartbeats 4000000 in
theorem jb_X12_read_46 {w : Nat} {a0 : Nat} {u1 : Value} {x2 : Int} {σ : jg_M} {Q : Int → jg_M → Prop} (h0 : jg_sh a0 = (12, 0)) (h : (if jg_wr (σ.1 a0 54) ≤ jg_wr x2 then ∀ m101 : jg_M, m101 = jg_sI σ a0 58 (σ.1 a0 54) → ∀ m102 : jg_M, m102 = jg_sI m101 a0 59 ((m101.1 a0 59) + 1) → ∀ m103 : jg_M, m103 = jg_sI m102 a0 60 ((m102.1 a0 60) + (m102.1 a0 55)) → Q (m103.1 a0 55) m103 else ((0 : Int) ≤ jg_wr x2 ∧ jg_wr x2 < (42 : Int)) ∧ ((0 : Int) ≤ (jg_wr x2) ∧ (jg_wr x2) < (40 : Int)) ∧ ∀ m104 : jg_M, m104 = jg_sI σ (a0 + 38) (jg_wr x2) (σ.1 (a0 + 37) (jg_wr x2)) → jg_GI w 2 mm_X12_read 46 [.ref a0, u1, .int (.ofInt (x2 + 1))] m104 Q)) : jg_GI w 2 mm_X12_read 46 [.ref a0, u1, .int (.ofInt x2)] σ Q := by
  show jg_G w 2 mm_X12_read 46 [.ref a0, u1, .int (.ofInt x2)] [] σ (jg_QI Q)
  refine jg_A (pc' := 47) rfl rfl (fun _ _ _ => rfl) ?_
  refine jg_A (pc' := 48) rfl rfl (fun _ _ _ => rfl) ?_
  refine jg_getI (pc' := 51) (bi := 54) rfl h0 (by decide) (Or.inl rfl) rfl rfl ?_
  refine jg_cge (pc' := 54) rfl rfl (fun hc => ?_) (fun hc => ?_)
  · have h := jg_t h (show jg_wr (σ.1 a0 54) ≤ jg_wr x2 from hc)
    refine jg_A (pc' := 73) rfl rfl (fun _ _ _ => rfl) ?_
    refine jg_A (pc' := 74) rfl rfl (fun _ _ _ => rfl) ?_
    refine jg_getI (pc' := 77) (bi := 54) rfl h0 (by decide) (Or.inl rfl) rfl rfl ?_
    refine jg_putI (pc' := 80) (bi := 58) rfl h0 (by decide) rfl rfl rfl rfl (fun m101 hm101 => ?_)
    have h := h m101 hm101
    refine jg_A (pc' := 81) rfl rfl (fun _ _ _ => rfl) ?_
    refine jg_A (pc' := 82) rfl rfl (fun _ _ _ => rfl) ?_
    refine jg_getI (pc' := 85) (bi := 59) rfl h0 (by decide) (Or.inl rfl) rfl rfl ?_
    refine jg_A (pc' := 86) rfl rfl (fun _ _ _ => rfl) ?_
    refine jg_iadd (pc' := 87) rfl rfl ?_
    refine jg_putI (pc' := 90) (bi := 59) rfl h0 (by decide) rfl rfl rfl rfl (fun m102 hm102 => ?_)
    have h := h m102 hm102
    refine jg_A (pc' := 91) rfl rfl (fun _ _ _ => rfl) ?_
    refine jg_A (pc' := 92) rfl rfl (fun _ _ _ => rfl) ?_
    refine jg_getI (pc' := 95) (bi := 60) rfl h0 (by decide) (Or.inl rfl) rfl rfl ?_
    refine jg_A (pc' := 96) rfl rfl (fun _ _ _ => rfl) ?_
    refine jg_getI (pc' := 99) (bi := 55) rfl h0 (by decide) (Or.inl rfl) rfl rfl ?_
    refine jg_iadd (pc' := 100) rfl rfl ?_
    refine jg_putI (pc' := 103) (bi := 60) rfl h0 (by decide) rfl rfl rfl rfl (fun m103 hm103 => ?_)
    have h := h m103 hm103
    refine jg_A (pc' := 104) rfl rfl (fun _ _ _ => rfl) ?_
    refine jg_getI (pc' := 107) (bi := 55) rfl h0 (by decide) (Or.inl rfl) rfl rfl ?_
    exact jg_iret rfl rfl h
  · have h := jg_f h (show ¬ (jg_wr (σ.1 a0 54) ≤ jg_wr x2) from hc)
    refine jg_A (pc' := 55) rfl rfl (fun _ _ _ => rfl) ?_
    refine jg_getO (pc' := 58) (k := 38) rfl h0 (by decide) rfl rfl ?_
    refine jg_A (pc' := 59) rfl rfl (fun _ _ _ => rfl) ?_
    refine jg_A (pc' := 60) rfl rfl (fun _ _ _ => rfl) ?_
    refine jg_getO (pc' := 63) (k := 37) rfl h0 (by decide) rfl rfl ?_
    refine jg_A (pc' := 64) rfl rfl (fun _ _ _ => rfl) ?_
    obtain ⟨hg, h⟩ := h
    refine jg_iald (pc' := 65) rfl (jg_sX12_53 h0) hg rfl ?_
    obtain ⟨hg, h⟩ := h
    refine jg_iast (pc' := 66) rfl (jg_sX12_57 h0) hg rfl (fun m104 hm104 => ?_)
    have h := h m104 hm104
    refine jg_iinc (pc' := 69) (ls' := [.ref a0, u1, .int (.ofInt (x2 + 1))]) rfl rfl rfl rfl ?_
    refine jg_goto rfl ?_
    exact h
set_option maxRecDepth 100000 in
set_option maxHeartbeats 4000000 in
theorem jb_X12_whole_0 {w : Nat} {a0 : Nat} {σ : jg_M} {Q : Int → jg_M → Prop} (h0 : jg_sh a0 = (12, 0)) (h : ∀ m101 : jg_M, m101 = jg_sI σ a0 2 0 → (if jg_wr (m101.1 (a0 + 13) (0)) = 0 then Q (-1) m101 else jg_CV w 0 mm_X12_fromNow [.ref a0] m101 (fun (m102 : jg_M) => jg_CI w 0 mm_X12_comes [.ref a0, .int (.ofInt 0), .int (.ofInt (m102.1 (a0 + 3) (0)))] m102 (fun (z104 : Int) (m103 : jg_M) => (if jg_wr z104 = 0 then Q 0 m103 else (if jg_wr (m103.1 a0 56) = 0 then Q 0 m103 else Q 1 m103)))))) : jg_CI w 1 mm_X12_whole [.ref a0] σ Q := by
  show jg_G w 1 mm_X12_whole 0 [.ref a0] [] σ (jg_QI Q)
  refine jg_A (pc' := 1) rfl rfl (fun _ _ _ => rfl) ?_
  refine jg_A (pc' := 2) rfl rfl (fun _ _ _ => rfl) ?_
  refine jg_putI (pc' := 5) (bi := 2) rfl h0 (by decide) rfl rfl rfl rfl (fun m101 hm101 => ?_)
  have h := h m101 hm101
  refine jg_A (pc' := 6) rfl rfl (fun _ _ _ => rfl) ?_
  refine jg_getO (pc' := 9) (k := 13) rfl h0 (by decide) rfl rfl ?_
  refine jg_A (pc' := 10) rfl rfl (fun _ _ _ => rfl) ?_
  refine jg_ialdK (pc' := 11) (xi := 0) rfl (jg_sX12_22 h0) (by decide) (by decide) rfl ?_
  refine jg_ifne (pc' := 14) rfl rfl (fun hc => ?_) (fun hc => ?_)
  · have h := jg_t h (show jg_wr (m101.1 (a0 + 13) (0)) = 0 from hc)
    refine jg_A (pc' := 15) rfl rfl (fun _ _ _ => rfl) ?_
    exact jg_iret rfl rfl h
  · have h := jg_f h (show ¬ (jg_wr (m101.1 (a0 + 13) (0)) = 0) from hc)
    refine jg_A (pc' := 17) rfl rfl (fun _ _ _ => rfl) ?_
    refine jg_calX (M1 := mm_X12_fromNow) (hy := 0) (pc' := 20) rfl jm_X12_fromNow (by decide) rfl h0 (by decide) ⟨Nat.le_of_ble_eq_true rfl, rfl⟩ (Nat.le_of_ble_eq_true rfl) rfl h (jg_kV (fun m102 h => ?_))
    refine jg_A (pc' := 21) rfl rfl (fun _ _ _ => rfl) ?_
    refine jg_A (pc' := 22) rfl rfl (fun _ _ _ => rfl) ?_
    refine jg_A (pc' := 23) rfl rfl (fun _ _ _ => rfl) ?_
    refine jg_getO (pc' := 26) (k := 3) rfl h0 (by decide) rfl rfl ?_
    refine jg_A (pc' := 27) rfl rfl (fun _ _ _ => rfl) ?_
    refine jg_ialdK (pc' := 28) (xi := 0) rfl (jg_sX12_12 h0) (by decide) (by decide) rfl ?_
    refine jg_calX (M1 := mm_X12_comes) (hy := 0) (pc' := 31) rfl jm_X12_comes (by decide) rfl h0 (by decide) ⟨Nat.le_of_ble_eq_true rfl, rfl⟩ (Nat.le_of_ble_eq_true rfl) rfl h (jg_kI (fun z104 m103 h => ?_))
    refine jg_ifeq (pc' := 34) rfl rfl (fun hc => ?_) (fun hc => ?_)
    · have h := jg_t h (show jg_wr z104 = 0 from hc)
      refine jg_A (pc' := 46) rfl rfl (fun _ _ _ => rfl) ?_
      exact jg_iret rfl rfl h
    · have h := jg_f h (show ¬ (jg_wr z104 = 0) from hc)
      refine jg_A (pc' := 35) rfl rfl (fun _ _ _ => rfl) ?_
      refine jg_getI (pc' := 38) (bi := 56) rfl h0 (by decide) (Or.inr rfl) rfl rfl ?_
      refine jg_ifeq (pc' := 41) rfl rfl (fun hc => ?_) (fun hc => ?_)
      · have h := jg_t h (show jg_wr (m103.1 a0 56) = 0 from hc)
        refine jg_A (pc' := 46) rfl rfl (fun _ _ _ => rfl) ?_
        exact jg_iret rfl rfl h
      · have h := jg_f h (show ¬ (jg_wr (m103.1 a0 56) = 0) from hc)
        refine jg_A (pc' := 42) rfl rfl (fun _ _ _ => rfl) ?_
        refine jg_goto rfl ?_
        exact jg_iret rfl rfl h
set_option maxRecDepth 100000 in
set_option maxHeartbeats 4000000 in
theorem jb_X12_expected_0 {w : Nat} {a0 : Nat} {σ : jg_M} {Q : Int → jg_M → Prop} (h0 : jg_sh a0 = (12, 0)) (h : ∀ m101 : jg_M, m101 = jg_sI σ a0 2 0 → jg_GI w 1 mm_X12_expected 9 [.ref a0, .int (.ofInt 0), .int (.ofInt 0)] m101 Q) : jg_CI w 1 mm_X12_expected [.ref a0] σ Q := by
  show jg_G w 1 mm_X12_expected 0 [.ref a0, mj_U, mj_U] [] σ (jg_QI Q)
  refine jg_A (pc' := 1) rfl rfl (fun _ _ _ => rfl) ?_
  refine jg_A (pc' := 2) rfl rfl (fun _ _ _ => rfl) ?_
  refine jg_putI (pc' := 5) (bi := 2) rfl h0 (by decide) rfl rfl rfl rfl (fun m101 hm101 => ?_)
  have h := h m101 hm101
  refine jg_A (pc' := 6) rfl rfl (fun _ _ _ => rfl) ?_
  refine jg_A (pc' := 7) (ls' := [.ref a0, .int (.ofInt 0), mj_U]) rfl rfl (fun _ _ _ => rfl) ?_
  refine jg_A (pc' := 8) rfl rfl (fun _ _ _ => rfl) ?_
  refine jg_A (pc' := 9) (ls' := [.ref a0, .int (.ofInt 0), .int (.ofInt 0)]) rfl rfl (fun _ _ _ => rfl) ?_
  exact h
set_option maxRecDepth 100000 in
set_option maxHeartbeats 4000000 in
theorem jb_X12_expected_9 {w : Nat} {a0 : Nat} {x1 : Int} {x2 : Int} {σ : jg_M} {Q : Int → jg_M → Prop} (h0 : jg_sh a0 = (12, 0)) (h : (if jg_wr (σ.1 (a0 + 3) (0)) ≤ jg_wr x2 then Q x1 σ else (if jg_wr (σ.1 (a0 + 13) (0)) ≤ 0 then Q x1 σ else jg_CV w 0 mm_X12_fromNow [.ref a0] σ (fun (m101 : jg_M) => jg_CI w 0 mm_X12_comes [.ref a0, .int (.ofInt 0), .int (.ofInt x2)] m101 (fun (z103 : Int) (m102 : jg_M) => (if jg_wr z103 = 0 then ∀ t104 : Int, t104 = (jg_or x1 0) → jg_GI w 1 mm_X12_expected 9 [.ref a0, .int (.ofInt t104), .int (.ofInt (x2 + 1))] m102 Q else ∀ t105 : Int, t105 = (jg_or x1 (jg_shl 1 x2)) → jg_GI w 1 mm_X12_expected 9 [.ref a0, .int (.ofInt t105), .int (.ofInt (x2 + 1))] m102 Q)))))) : jg_GI w 1 mm_X12_expected 9 [.ref a0, .int (.ofInt x1), .int (.ofInt x2)] σ Q := by
  show jg_G w 1 mm_X12_expected 9 [.ref a0, .int (.ofInt x1), .int (.ofInt x2)] [] σ (jg_QI Q)
  refine jg_A (pc' := 10) rfl rfl (fun _ _ _ => rfl) ?_
  refine jg_A (pc' := 11) rfl rfl (fun _ _ _ => rfl) ?_
  refine jg_getO (pc' := 14) (k := 3) rfl h0 (by decide) rfl rfl ?_
  refine jg_A (pc' := 15) rfl rfl (fun _ _ _ => rfl) ?_
  refine jg_ialdK (pc' := 16) (xi := 0) rfl (jg_sX12_12 h0) (by decide) (by decide) rfl ?_
  refine jg_cge (pc' := 19) rfl rfl (fun hc => ?_) (fun hc => ?_)
  · have h := jg_t h (show jg_wr (σ.1 (a0 + 3) (0)) ≤ jg_wr x2 from hc)
    refine jg_A (pc' := 58) rfl rfl (fun _ _ _ => rfl) ?_
    exact jg_iret rfl rfl h
  · have h := jg_f h (show ¬ (jg_wr (σ.1 (a0 + 3) (0)) ≤ jg_wr x2) from hc)
    refine jg_A (pc' := 20) rfl rfl (fun _ _ _ => rfl) ?_
    refine jg_getO (pc' := 23) (k := 13) rfl h0 (by decide) rfl rfl ?_
    refine jg_A (pc' := 24) rfl rfl (fun _ _ _ => rfl) ?_
    refine jg_ialdK (pc' := 25) (xi := 0) rfl (jg_sX12_22 h0) (by decide) (by decide) rfl ?_
    refine jg_ifle (pc' := 28) rfl rfl (fun hc => ?_) (fun hc => ?_)
    · have h := jg_t h (show jg_wr (σ.1 (a0 + 13) (0)) ≤ 0 from hc)
      refine jg_A (pc' := 58) rfl rfl (fun _ _ _ => rfl) ?_
      exact jg_iret rfl rfl h
    · have h := jg_f h (show ¬ (jg_wr (σ.1 (a0 + 13) (0)) ≤ 0) from hc)
      refine jg_A (pc' := 29) rfl rfl (fun _ _ _ => rfl) ?_
      refine jg_calX (M1 := mm_X12_fromNow) (hy := 0) (pc' := 32) rfl jm_X12_fromNow (by decide) rfl h0 (by decide) ⟨Nat.le_of_ble_eq_true rfl, rfl⟩ (Nat.le_of_ble_eq_true rfl) rfl h (jg_kV (fun m101 h => ?_))
      refine jg_A (pc' := 33) rfl rfl (fun _ _ _ => rfl) ?_
      refine jg_A (pc' := 34) rfl rfl (fun _ _ _ => rfl) ?_
      refine jg_A (pc' := 35) rfl rfl (fun _ _ _ => rfl) ?_
      refine jg_A (pc' := 36) rfl rfl (fun _ _ _ => rfl) ?_
      refine jg_calX (M1 := mm_X12_comes) (hy := 0) (pc' := 39) rfl jm_X12_comes (by decide) rfl h0 (by decide) ⟨Nat.le_of_ble_eq_true rfl, rfl⟩ (Nat.le_of_ble_eq_true rfl) rfl h (jg_kI (fun z103 m102 h => ?_))
      refine jg_ifeq (pc' := 42) rfl rfl (fun hc => ?_) (fun hc => ?_)
      · have h := jg_t h (show jg_wr z103 = 0 from hc)
        refine jg_A (pc' := 49) rfl rfl (fun _ _ _ => rfl) ?_
        refine jg_ior (pc' := 50) rfl rfl ?_
        refine jg_nm (F := fun t104 => jg_G w 1 mm_X12_expected 50 [.ref a0, .int (.ofInt x1), .int (.ofInt x2)] [.int (.ofInt t104)] m102 (jg_QI Q)) (jg_or x1 0) (fun t104 ht104 => ?_)
        have h := h t104 ht104
        refine jg_A (pc' := 51) (ls' := [.ref a0, .int (.ofInt t104), .int (.ofInt x2)]) rfl rfl (fun _ _ _ => rfl) ?_
        refine jg_iinc (pc' := 54) (ls' := [.ref a0, .int (.ofInt t104), .int (.ofInt (x2 + 1))]) rfl rfl rfl rfl ?_
        refine jg_goto rfl ?_
        exact h
      · have h := jg_f h (show ¬ (jg_wr z103 = 0) from hc)
        refine jg_A (pc' := 43) rfl rfl (fun _ _ _ => rfl) ?_
        refine jg_A (pc' := 44) rfl rfl (fun _ _ _ => rfl) ?_
        refine jg_ishl (pc' := 45) rfl rfl ?_
        refine jg_goto rfl ?_
        refine jg_ior (pc' := 50) rfl rfl ?_
        refine jg_nm (F := fun t105 => jg_G w 1 mm_X12_expected 50 [.ref a0, .int (.ofInt x1), .int (.ofInt x2)] [.int (.ofInt t105)] m102 (jg_QI Q)) (jg_or x1 (jg_shl 1 x2)) (fun t105 ht105 => ?_)
        have h := h t105 ht105
        refine jg_A (pc' := 51) (ls' := [.ref a0, .int (.ofInt t105), .int (.ofInt x2)]) rfl rfl (fun _ _ _ => rfl) ?_
        refine jg_iinc (pc' := 54) (ls' := [.ref a0, .int (.ofInt t105), .int (.ofInt (x2 + 1))]) rfl rfl rfl rfl ?_
        refine jg_goto rfl ?_
        exact h
set_option maxRecDepth 100000 in
set_option maxHeartbeats 4000000 in
theorem jb_X12_stack_0 {w : Nat} {a0 : Nat} {x1 : Int} {σ : jg_M} {Q : Int → jg_M → Prop} (h0 : jg_sh a0 = (12, 0)) (h : ∀ m101 : jg_M, m101 = jg_sI σ a0 2 0 → (if jg_wr x1 < 0 then Q (-1) m101 else (if jg_wr (m101.1 (a0 + 13) (0)) = 0 then Q (-1) m101 else (if jg_wr (m101.1 a0 58) ≤ jg_wr x1 then Q (-2) m101 else ((0 : Int) ≤ jg_wr (((m101.1 a0 58) - 1) - x1) ∧ jg_wr (((m101.1 a0 58) - 1) - x1) < (40 : Int)) ∧ Q (m101.1 (a0 + 38) (jg_wr (((m101.1 a0 58) - 1) - x1))) m101)))) : jg_CI w 0 mm_X12_stack [.ref a0, .int (.ofInt x1)] σ Q := by
  show jg_G w 0 mm_X12_stack 0 [.ref a0, .int (.ofInt x1)] [] σ (jg_QI Q)
  refine jg_A (pc' := 1) rfl rfl (fun _ _ _ => rfl) ?_
  refine jg_A (pc' := 2) rfl rfl (fun _ _ _ => rfl) ?_
  refine jg_putI (pc' := 5) (bi := 2) rfl h0 (by decide) rfl rfl rfl rfl (fun m101 hm101 => ?_)
  have h := h m101 hm101
  refine jg_A (pc' := 6) rfl rfl (fun _ _ _ => rfl) ?_
  refine jg_iflt (pc' := 9) rfl rfl (fun hc => ?_) (fun hc => ?_)
  · have h := jg_t h (show jg_wr x1 < 0 from hc)
    refine jg_A (pc' := 19) rfl rfl (fun _ _ _ => rfl) ?_
    exact jg_iret rfl rfl h
  · have h := jg_f h (show ¬ (jg_wr x1 < 0) from hc)
    refine jg_A (pc' := 10) rfl rfl (fun _ _ _ => rfl) ?_
    refine jg_getO (pc' := 13) (k := 13) rfl h0 (by decide) rfl rfl ?_
    refine jg_A (pc' := 14) rfl rfl (fun _ _ _ => rfl) ?_
    refine jg_ialdK (pc' := 15) (xi := 0) rfl (jg_sX12_22 h0) (by decide) (by decide) rfl ?_
    refine jg_ifne (pc' := 18) rfl rfl (fun hc => ?_) (fun hc => ?_)
    · have h := jg_t h (show jg_wr (m101.1 (a0 + 13) (0)) = 0 from hc)
      refine jg_A (pc' := 19) rfl rfl (fun _ _ _ => rfl) ?_
      exact jg_iret rfl rfl h
    · have h := jg_f h (show ¬ (jg_wr (m101.1 (a0 + 13) (0)) = 0) from hc)
      refine jg_A (pc' := 21) rfl rfl (fun _ _ _ => rfl) ?_
      refine jg_A (pc' := 22) rfl rfl (fun _ _ _ => rfl) ?_
      refine jg_getI (pc' := 25) (bi := 58) rfl h0 (by decide) (Or.inl rfl) rfl rfl ?_
      refine jg_cge (pc' := 28) rfl rfl (fun hc => ?_) (fun hc => ?_)
      · have h := jg_t h (show jg_wr (m101.1 a0 58) ≤ jg_wr x1 from hc)
        refine jg_A (pc' := 46) rfl rfl (fun _ _ _ => rfl) ?_
        exact jg_iret rfl rfl h
      · have h := jg_f h (show ¬ (jg_wr (m101.1 a0 58) ≤ jg_wr x1) from hc)
        refine jg_A (pc' := 29) rfl rfl (fun _ _ _ => rfl) ?_
        refine jg_getO (pc' := 32) (k := 38) rfl h0 (by decide) rfl rfl ?_
        refine jg_A (pc' := 33) rfl rfl (fun _ _ _ => rfl) ?_
        refine jg_getI (pc' := 36) (bi := 58) rfl h0 (by decide) (Or.inl rfl) rfl rfl ?_
        refine jg_A (pc' := 37) rfl rfl (fun _ _ _ => rfl) ?_
        refine jg_isub (pc' := 38) rfl rfl ?_
        refine jg_A (pc' := 39) rfl rfl (fun _ _ _ => rfl) ?_
        refine jg_isub (pc' := 40) rfl rfl ?_
        obtain ⟨hg, h⟩ := h
        refine jg_iald (pc' := 41) rfl (jg_sX12_57 h0) hg rfl ?_
        refine jg_goto rfl ?_
        exact jg_iret rfl rfl h
set_option maxRecDepth 100000 in
set_option maxHeartbeats 4000000 in
theorem jb_X12_layCome_0 {w : Nat} {a0 : Nat} {x1 : Int} {σ : jg_M} {Q : jg_M → Prop} (h0 : jg_sh a0 = (12, 0)) (h : jg_GV w 1 mm_X12_layCome 2 [.ref a0, .int (.ofInt x1), .int (.ofInt 0), mj_U, mj_U] σ Q) : jg_CV w 1 mm_X12_layCome [.ref a0, .int (.ofInt x1)] σ Q := by
  show jg_G w 1 mm_X12_layCome 0 [.ref a0, .int (.ofInt x1), mj_U, mj_U, mj_U] [] σ (jg_QV Q)
  refine jg_A (pc' := 1) rfl rfl (fun _ _ _ => rfl) ?_
  refine jg_A (pc' := 2) (ls' := [.ref a0, .int (.ofInt x1), .int (.ofInt 0), mj_U, mj_U]) rfl rfl (fun _ _ _ => rfl) ?_
  exact h
set_option maxRecDepth 100000 in
set_option maxHeartbeats 4000000 in
theorem jb_X12_layCome_2 {w : Nat} {a0 : Nat} {x1 : Int} {x2 : Int} {u3 : Value} {u4 : Value} {σ : jg_M} {Q : jg_M → Prop} (h0 : jg_sh a0 = (12, 0)) (h : jg_CI w 0 mm_X12_power [.int (.ofInt (σ.1 (a0 + 3) (0))), .int (.ofInt x1)] σ (fun (z102 : Int) (m101 : jg_M) => (if jg_wr z102 ≤ jg_wr x2 then Q m101 else jg_CV w 0 mm_X12_gives [.ref a0, .int (.ofInt x2), .int (.ofInt x1), .int (.ofInt (m101.1 (a0 + 3) (0)))] m101 (fun (m103 : jg_M) => jg_CV w 0 mm_X12_fromNow [.ref a0] m103 (fun (m104 : jg_M) => jg_GV w 1 mm_X12_layCome 37 [.ref a0, .int (.ofInt x1), .int (.ofInt x2), .int (.ofInt 1), .int (.ofInt 0)] m104 Q))))) : jg_GV w 1 mm_X12_layCome 2 [.ref a0, .int (.ofInt x1), .int (.ofInt x2), u3, u4] σ Q := by
  show jg_G w 1 mm_X12_layCome 2 [.ref a0, .int (.ofInt x1), .int (.ofInt x2), u3, u4] [] σ (jg_QV Q)
  refine jg_A (pc' := 3) rfl rfl (fun _ _ _ => rfl) ?_
  refine jg_A (pc' := 4) rfl rfl (fun _ _ _ => rfl) ?_
  refine jg_getO (pc' := 7) (k := 3) rfl h0 (by decide) rfl rfl ?_
  refine jg_A (pc' := 8) rfl rfl (fun _ _ _ => rfl) ?_
  refine jg_ialdK (pc' := 9) (xi := 0) rfl (jg_sX12_12 h0) (by decide) (by decide) rfl ?_
  refine jg_A (pc' := 10) rfl rfl (fun _ _ _ => rfl) ?_
  refine jg_calS (M1 := mm_X12_power) (hy := 0) (pc' := 13) rfl (Or.inl rfl) jm_X12_power (by decide) rfl ⟨Nat.le_of_ble_eq_true rfl, rfl⟩ (Nat.le_of_ble_eq_true rfl) rfl h (jg_kI (fun z102 m101 h => ?_))
  refine jg_cge (pc' := 16) rfl rfl (fun hc => ?_) (fun hc => ?_)
  · have h := jg_t h (show jg_wr z102 ≤ jg_wr x2 from hc)
    exact jg_vret rfl rfl h
  · have h := jg_f h (show ¬ (jg_wr z102 ≤ jg_wr x2) from hc)
    refine jg_A (pc' := 17) rfl rfl (fun _ _ _ => rfl) ?_
    refine jg_A (pc' := 18) rfl rfl (fun _ _ _ => rfl) ?_
    refine jg_A (pc' := 19) rfl rfl (fun _ _ _ => rfl) ?_
    refine jg_A (pc' := 20) rfl rfl (fun _ _ _ => rfl) ?_
    refine jg_getO (pc' := 23) (k := 3) rfl h0 (by decide) rfl rfl ?_
    refine jg_A (pc' := 24) rfl rfl (fun _ _ _ => rfl) ?_
    refine jg_ialdK (pc' := 25) (xi := 0) rfl (jg_sX12_12 h0) (by decide) (by decide) rfl ?_
    refine jg_calX (M1 := mm_X12_gives) (hy := 0) (pc' := 28) rfl jm_X12_gives (by decide) rfl h0 (by decide) ⟨Nat.le_of_ble_eq_true rfl, rfl⟩ (Nat.le_of_ble_eq_true rfl) rfl h (jg_kV (fun m103 h => ?_))
    refine jg_A (pc' := 29) rfl rfl (fun _ _ _ => rfl) ?_
    refine jg_calX (M1 := mm_X12_fromNow) (hy := 0) (pc' := 32) rfl jm_X12_fromNow (by decide) rfl h0 (by decide) ⟨Nat.le_of_ble_eq_true rfl, rfl⟩ (Nat.le_of_ble_eq_true rfl) rfl h (jg_kV (fun m104 h => ?_))
    refine jg_A (pc' := 33) rfl rfl (fun _ _ _ => rfl) ?_
    refine jg_A (pc' := 34) (ls' := [.ref a0, .int (.ofInt x1), .int (.ofInt x2), .int (.ofInt 1), u4]) rfl rfl (fun _ _ _ => rfl) ?_
    refine jg_A (pc' := 35) rfl rfl (fun _ _ _ => rfl) ?_
    refine jg_A (pc' := 37) (ls' := [.ref a0, .int (.ofInt x1), .int (.ofInt x2), .int (.ofInt 1), .int (.ofInt 0)]) rfl rfl (fun _ _ _ => rfl) ?_
    exact h
set_option maxRecDepth 100000 in
set_option maxHeartbeats 4000000 in
theorem jb_X12_layCome_37 {w : Nat} {a0 : Nat} {x1 : Int} {x2 : Int} {x3 : Int} {x4 : Int} {σ : jg_M} {Q : jg_M → Prop} (h0 : jg_sh a0 = (12, 0)) (h : (if jg_wr x1 ≤ jg_wr x4 then ((0 : Int) ≤ (jg_wr x2) ∧ (jg_wr x2) < (2401 : Int)) ∧ ∀ m101 : jg_M, m101 = jg_sI σ (a0 + 40) (jg_wr x2) (jg_nar x3) → jg_GV w 1 mm_X12_layCome 2 [.ref a0, .int (.ofInt x1), .int (.ofInt (x2 + 1)), .int (.ofInt x3), .int (.ofInt x4)] m101 Q else (if jg_wr x3 = 0 then ((0 : Int) ≤ (jg_wr x2) ∧ (jg_wr x2) < (2401 : Int)) ∧ ∀ m102 : jg_M, m102 = jg_sI σ (a0 + 40) (jg_wr x2) (jg_nar x3) → jg_GV w 1 mm_X12_layCome 2 [.ref a0, .int (.ofInt x1), .int (.ofInt (x2 + 1)), .int (.ofInt x3), .int (.ofInt x4)] m102 Q else ((0 : Int) ≤ jg_wr x4 ∧ jg_wr x4 < (9 : Int)) ∧ jg_CI w 0 mm_X12_comes [.ref a0, .int (.ofInt 0), .int (.ofInt (σ.1 (a0 + 39) (jg_wr x4)))] σ (fun (z104 : Int) (m103 : jg_M) => jg_GV w 1 mm_X12_layCome 37 [.ref a0, .int (.ofInt x1), .int (.ofInt x2), .int (.ofInt z104), .int (.ofInt (x4 + 1))] m103 Q)))) : jg_GV w 1 mm_X12_layCome 37 [.ref a0, .int (.ofInt x1), .int (.ofInt x2), .int (.ofInt x3), .int (.ofInt x4)] σ Q := by
  show jg_G w 1 mm_X12_layCome 37 [.ref a0, .int (.ofInt x1), .int (.ofInt x2), .int (.ofInt x3), .int (.ofInt x4)] [] σ (jg_QV Q)
  refine jg_A (pc' := 39) rfl rfl (fun _ _ _ => rfl) ?_
  refine jg_A (pc' := 40) rfl rfl (fun _ _ _ => rfl) ?_
  refine jg_cge (pc' := 43) rfl rfl (fun hc => ?_) (fun hc => ?_)
  · have h := jg_t h (show jg_wr x1 ≤ jg_wr x4 from hc)
    refine jg_A (pc' := 67) rfl rfl (fun _ _ _ => rfl) ?_
    refine jg_getO (pc' := 70) (k := 40) rfl h0 (by decide) rfl rfl ?_
    refine jg_A (pc' := 71) rfl rfl (fun _ _ _ => rfl) ?_
    refine jg_A (pc' := 72) rfl rfl (fun _ _ _ => rfl) ?_
    obtain ⟨hg, h⟩ := h
    refine jg_zast (pc' := 73) rfl (jg_sX12_62 h0) hg rfl (fun m101 hm101 => ?_)
    have h := h m101 hm101
    refine jg_iinc (pc' := 76) (ls' := [.ref a0, .int (.ofInt x1), .int (.ofInt (x2 + 1)), .int (.ofInt x3), .int (.ofInt x4)]) rfl rfl rfl rfl ?_
    refine jg_goto rfl ?_
    exact h
  · have h := jg_f h (show ¬ (jg_wr x1 ≤ jg_wr x4) from hc)
    refine jg_A (pc' := 44) rfl rfl (fun _ _ _ => rfl) ?_
    refine jg_ifeq (pc' := 47) rfl rfl (fun hc => ?_) (fun hc => ?_)
    · have h := jg_t h (show jg_wr x3 = 0 from hc)
      refine jg_A (pc' := 67) rfl rfl (fun _ _ _ => rfl) ?_
      refine jg_getO (pc' := 70) (k := 40) rfl h0 (by decide) rfl rfl ?_
      refine jg_A (pc' := 71) rfl rfl (fun _ _ _ => rfl) ?_
      refine jg_A (pc' := 72) rfl rfl (fun _ _ _ => rfl) ?_
      obtain ⟨hg, h⟩ := h
      refine jg_zast (pc' := 73) rfl (jg_sX12_62 h0) hg rfl (fun m102 hm102 => ?_)
      have h := h m102 hm102
      refine jg_iinc (pc' := 76) (ls' := [.ref a0, .int (.ofInt x1), .int (.ofInt (x2 + 1)), .int (.ofInt x3), .int (.ofInt x4)]) rfl rfl rfl rfl ?_
      refine jg_goto rfl ?_
      exact h
    · have h := jg_f h (show ¬ (jg_wr x3 = 0) from hc)
      refine jg_A (pc' := 48) rfl rfl (fun _ _ _ => rfl) ?_
      refine jg_A (pc' := 49) rfl rfl (fun _ _ _ => rfl) ?_
      refine jg_A (pc' := 50) rfl rfl (fun _ _ _ => rfl) ?_
      refine jg_getO (pc' := 53) (k := 39) rfl h0 (by decide) rfl rfl ?_
      refine jg_A (pc' := 55) rfl rfl (fun _ _ _ => rfl) ?_
      obtain ⟨hg, h⟩ := h
      refine jg_iald (pc' := 56) rfl (jg_sX12_61 h0) hg rfl ?_
      refine jg_calX (M1 := mm_X12_comes) (hy := 0) (pc' := 59) rfl jm_X12_comes (by decide) rfl h0 (by decide) ⟨Nat.le_of_ble_eq_true rfl, rfl⟩ (Nat.le_of_ble_eq_true rfl) rfl h (jg_kI (fun z104 m103 h => ?_))
      refine jg_A (pc' := 60) (ls' := [.ref a0, .int (.ofInt x1), .int (.ofInt x2), .int (.ofInt z104), .int (.ofInt x4)]) rfl rfl (fun _ _ _ => rfl) ?_
      refine jg_iinc (pc' := 63) (ls' := [.ref a0, .int (.ofInt x1), .int (.ofInt x2), .int (.ofInt z104), .int (.ofInt (x4 + 1))]) rfl rfl rfl rfl ?_
      refine jg_goto rfl ?_
      exact h
set_option maxRecDepth 100000 in
set_option maxHeartbeats 4000000 in
theorem jb_X12_game_0 {w : Nat} {a0 : Nat} {x1 : Int} {x2 : Int} {σ : jg_M} {Q : Int → jg_M → Prop} (h0 : jg_sh a0 = (12, 0)) (h : ∀ m101 : jg_M, m101 = jg_sI σ a0 2 0 → jg_CI w 0 mm_X12_isIn [.int (.ofInt x1), .int (.ofInt 0), .int (.ofInt 4)] m101 (fun (z103 : Int) (m102 : jg_M) => (if jg_wr z103 = 0 then Q (-1) m102 else jg_CI w 0 mm_X12_isIn [.int (.ofInt x2), .int (.ofInt 0), .int (.ofInt 1)] m102 (fun (z105 : Int) (m104 : jg_M) => (if jg_wr z105 = 0 then Q (-1) m104 else (if jg_wr (m104.1 (a0 + 13) (0)) = 0 then Q (-1) m104 else jg_GI w 2 mm_X12_game 36 [.ref a0, .int (.ofInt x1), .int (.ofInt x2), .int (.ofInt 0), mj_U, mj_U, mj_U, mj_U, mj_U] m104 Q)))))) : jg_CI w 2 mm_X12_game [.ref a0, .int (.ofInt x1), .int (.ofInt x2)] σ Q := by
  show jg_G w 2 mm_X12_game 0 [.ref a0, .int (.ofInt x1), .int (.ofInt x2), mj_U, mj_U, mj_U, mj_U, mj_U, mj_U] [] σ (jg_QI Q)
  refine jg_A (pc' := 1) rfl rfl (fun _ _ _ => rfl) ?_
  refine jg_A (pc' := 2) rfl rfl (fun _ _ _ => rfl) ?_
  refine jg_putI (pc' := 5) (bi := 2) rfl h0 (by decide) rfl rfl rfl rfl (fun m101 hm101 => ?_)
  have h := h m101 hm101
  refine jg_A (pc' := 6) rfl rfl (fun _ _ _ => rfl) ?_
  refine jg_A (pc' := 7) rfl rfl (fun _ _ _ => rfl) ?_
  refine jg_A (pc' := 8) rfl rfl (fun _ _ _ => rfl) ?_
  refine jg_calS (M1 := mm_X12_isIn) (hy := 0) (pc' := 11) rfl (Or.inl rfl) jm_X12_isIn (by decide) rfl ⟨Nat.le_of_ble_eq_true rfl, rfl⟩ (Nat.le_of_ble_eq_true rfl) rfl h (jg_kI (fun z103 m102 h => ?_))
  refine jg_ifeq (pc' := 14) rfl rfl (fun hc => ?_) (fun hc => ?_)
  · have h := jg_t h (show jg_wr z103 = 0 from hc)
    refine jg_A (pc' := 33) rfl rfl (fun _ _ _ => rfl) ?_
    exact jg_iret rfl rfl h
  · have h := jg_f h (show ¬ (jg_wr z103 = 0) from hc)
    refine jg_A (pc' := 15) rfl rfl (fun _ _ _ => rfl) ?_
    refine jg_A (pc' := 16) rfl rfl (fun _ _ _ => rfl) ?_
    refine jg_A (pc' := 17) rfl rfl (fun _ _ _ => rfl) ?_
    refine jg_calS (M1 := mm_X12_isIn) (hy := 0) (pc' := 20) rfl (Or.inl rfl) jm_X12_isIn (by decide) rfl ⟨Nat.le_of_ble_eq_true rfl, rfl⟩ (Nat.le_of_ble_eq_true rfl) rfl h (jg_kI (fun z105 m104 h => ?_))
    refine jg_ifeq (pc' := 23) rfl rfl (fun hc => ?_) (fun hc => ?_)
    · have h := jg_t h (show jg_wr z105 = 0 from hc)
      refine jg_A (pc' := 33) rfl rfl (fun _ _ _ => rfl) ?_
      exact jg_iret rfl rfl h
    · have h := jg_f h (show ¬ (jg_wr z105 = 0) from hc)
      refine jg_A (pc' := 24) rfl rfl (fun _ _ _ => rfl) ?_
      refine jg_getO (pc' := 27) (k := 13) rfl h0 (by decide) rfl rfl ?_
      refine jg_A (pc' := 28) rfl rfl (fun _ _ _ => rfl) ?_
      refine jg_ialdK (pc' := 29) (xi := 0) rfl (jg_sX12_22 h0) (by decide) (by decide) rfl ?_
      refine jg_ifne (pc' := 32) rfl rfl (fun hc => ?_) (fun hc => ?_)
      · have h := jg_t h (show jg_wr (m104.1 (a0 + 13) (0)) = 0 from hc)
        refine jg_A (pc' := 33) rfl rfl (fun _ _ _ => rfl) ?_
        exact jg_iret rfl rfl h
      · have h := jg_f h (show ¬ (jg_wr (m104.1 (a0 + 13) (0)) = 0) from hc)
        refine jg_A (pc' := 35) rfl rfl (fun _ _ _ => rfl) ?_
        refine jg_A (pc' := 36) (ls' := [.ref a0, .int (.ofInt x1), .int (.ofInt x2), .int (.ofInt 0), mj_U, mj_U, mj_U, mj_U, mj_U]) rfl rfl (fun _ _ _ => rfl) ?_
        exact h
set_option maxRecDepth 100000 in
set_option maxHeartbeats 4000000 in
theorem jb_X12_game_36 {w : Nat} {a0 : Nat} {x1 : Int} {x2 : Int} {x3 : Int} {u4 : Value} {u5 : Value} {u6 : Value} {u7 : Value} {u8 : Value} {σ : jg_M} {Q : Int → jg_M → Prop} (h0 : jg_sh a0 = (12, 0)) (h : (if 2401 ≤ jg_wr x3 then jg_GI w 2 mm_X12_game 61 [.ref a0, .int (.ofInt x1), .int (.ofInt x2), .int (.ofInt (-1)), .int (.ofInt x1), u5, u6, u7, u8] σ Q else ((0 : Int) ≤ (jg_wr x3) ∧ (jg_wr x3) < (2401 : Int)) ∧ ∀ m101 : jg_M, m101 = jg_sI σ (a0 + 41) (jg_wr x3) (jg_nar 0) → jg_GI w 2 mm_X12_game 36 [.ref a0, .int (.ofInt x1), .int (.ofInt x2), .int (.ofInt (x3 + 1)), u4, u5, u6, u7, u8] m101 Q)) : jg_GI w 2 mm_X12_game 36 [.ref a0, .int (.ofInt x1), .int (.ofInt x2), .int (.ofInt x3), u4, u5, u6, u7, u8] σ Q := by
  show jg_G w 2 mm_X12_game 36 [.ref a0, .int (.ofInt x1), .int (.ofInt x2), .int (.ofInt x3), u4, u5, u6, u7, u8] [] σ (jg_QI Q)
  refine jg_A (pc' := 37) rfl rfl (fun _ _ _ => rfl) ?_
  refine jg_A (pc' := 40) rfl rfl (fun _ _ _ => rfl) ?_
  refine jg_cge (pc' := 43) rfl rfl (fun hc => ?_) (fun hc => ?_)
  · have h := jg_t h (show 2401 ≤ jg_wr x3 from hc)
    refine jg_A (pc' := 57) rfl rfl (fun _ _ _ => rfl) ?_
    refine jg_A (pc' := 58) (ls' := [.ref a0, .int (.ofInt x1), .int (.ofInt x2), .int (.ofInt (-1)), u4, u5, u6, u7, u8]) rfl rfl (fun _ _ _ => rfl) ?_
    refine jg_A (pc' := 59) rfl rfl (fun _ _ _ => rfl) ?_
    refine jg_A (pc' := 61) (ls' := [.ref a0, .int (.ofInt x1), .int (.ofInt x2), .int (.ofInt (-1)), .int (.ofInt x1), u5, u6, u7, u8]) rfl rfl (fun _ _ _ => rfl) ?_
    exact h
  · have h := jg_f h (show ¬ (2401 ≤ jg_wr x3) from hc)
    refine jg_A (pc' := 44) rfl rfl (fun _ _ _ => rfl) ?_
    refine jg_getO (pc' := 47) (k := 41) rfl h0 (by decide) rfl rfl ?_
    refine jg_A (pc' := 48) rfl rfl (fun _ _ _ => rfl) ?_
    refine jg_A (pc' := 49) rfl rfl (fun _ _ _ => rfl) ?_
    obtain ⟨hg, h⟩ := h
    refine jg_zast (pc' := 50) rfl (jg_sX12_63 h0) hg rfl (fun m101 hm101 => ?_)
    have h := h m101 hm101
    refine jg_iinc (pc' := 53) (ls' := [.ref a0, .int (.ofInt x1), .int (.ofInt x2), .int (.ofInt (x3 + 1)), u4, u5, u6, u7, u8]) rfl rfl rfl rfl ?_
    refine jg_goto rfl ?_
    exact h
set_option maxRecDepth 100000 in
set_option maxHeartbeats 4000000 in
theorem jb_X12_game_61 {w : Nat} {a0 : Nat} {u1 : Value} {x2 : Int} {x3 : Int} {x4 : Int} {u5 : Value} {u6 : Value} {u7 : Value} {u8 : Value} {σ : jg_M} {Q : Int → jg_M → Prop} (h0 : jg_sh a0 = (12, 0)) (h : (if jg_wr x4 ≤ 0 then (if jg_wr x2 = 0 then (if 0 ≤ jg_wr x3 then Q 0 σ else Q 1 σ) else jg_CI w 0 mm_X12_noneAsTwo [.int (.ofInt x3)] σ (fun (z102 : Int) (m101 : jg_M) => Q z102 m101)) else jg_CV w 1 mm_X12_layCome [.ref a0, .int (.ofInt x4)] σ (fun (m103 : jg_M) => jg_CI w 0 mm_X12_power [.int (.ofInt (m103.1 (a0 + 3) (0))), .int (.ofInt (x4 - 1))] m103 (fun (z105 : Int) (m104 : jg_M) => jg_GI w 2 mm_X12_game 90 [.ref a0, u1, .int (.ofInt x2), .int (.ofInt x3), .int (.ofInt x4), .int (.ofInt z105), .int (.ofInt 0), u7, u8] m104 Q)))) : jg_GI w 2 mm_X12_game 61 [.ref a0, u1, .int (.ofInt x2), .int (.ofInt x3), .int (.ofInt x4), u5, u6, u7, u8] σ Q := by
  show jg_G w 2 mm_X12_game 61 [.ref a0, u1, .int (.ofInt x2), .int (.ofInt x3), .int (.ofInt x4), u5, u6, u7, u8] [] σ (jg_QI Q)
  refine jg_A (pc' := 63) rfl rfl (fun _ _ _ => rfl) ?_
  refine jg_ifle (pc' := 66) rfl rfl (fun hc => ?_) (fun hc => ?_)
  · have h := jg_t h (show jg_wr x4 ≤ 0 from hc)
    refine jg_A (pc' := 220) rfl rfl (fun _ _ _ => rfl) ?_
    refine jg_ifne (pc' := 223) rfl rfl (fun hc => ?_) (fun hc => ?_)
    · have h := jg_t h (show jg_wr x2 = 0 from hc)
      refine jg_A (pc' := 224) rfl rfl (fun _ _ _ => rfl) ?_
      refine jg_ifge (pc' := 227) rfl rfl (fun hc => ?_) (fun hc => ?_)
      · have h := jg_t h (show 0 ≤ jg_wr x3 from hc)
        refine jg_A (pc' := 232) rfl rfl (fun _ _ _ => rfl) ?_
        refine jg_goto rfl ?_
        exact jg_iret rfl rfl h
      · have h := jg_f h (show ¬ (0 ≤ jg_wr x3) from hc)
        refine jg_A (pc' := 228) rfl rfl (fun _ _ _ => rfl) ?_
        refine jg_goto rfl ?_
        exact jg_iret rfl rfl h
    · have h := jg_f h (show ¬ (jg_wr x2 = 0) from hc)
      refine jg_A (pc' := 236) rfl rfl (fun _ _ _ => rfl) ?_
      refine jg_calS (M1 := mm_X12_noneAsTwo) (hy := 0) (pc' := 239) rfl (Or.inl rfl) jm_X12_noneAsTwo (by decide) rfl ⟨Nat.le_of_ble_eq_true rfl, rfl⟩ (Nat.le_of_ble_eq_true rfl) rfl h (jg_kI (fun z102 m101 h => ?_))
      exact jg_iret rfl rfl h
  · have h := jg_f h (show ¬ (jg_wr x4 ≤ 0) from hc)
    refine jg_A (pc' := 67) rfl rfl (fun _ _ _ => rfl) ?_
    refine jg_A (pc' := 69) rfl rfl (fun _ _ _ => rfl) ?_
    refine jg_calX (M1 := mm_X12_layCome) (hy := 1) (pc' := 72) rfl jm_X12_layCome (by decide) rfl h0 (by decide) ⟨Nat.le_of_ble_eq_true rfl, rfl⟩ (Nat.le_of_ble_eq_true rfl) rfl h (jg_kV (fun m103 h => ?_))
    refine jg_A (pc' := 73) rfl rfl (fun _ _ _ => rfl) ?_
    refine jg_getO (pc' := 76) (k := 3) rfl h0 (by decide) rfl rfl ?_
    refine jg_A (pc' := 77) rfl rfl (fun _ _ _ => rfl) ?_
    refine jg_ialdK (pc' := 78) (xi := 0) rfl (jg_sX12_12 h0) (by decide) (by decide) rfl ?_
    refine jg_A (pc' := 80) rfl rfl (fun _ _ _ => rfl) ?_
    refine jg_A (pc' := 81) rfl rfl (fun _ _ _ => rfl) ?_
    refine jg_isub (pc' := 82) rfl rfl ?_
    refine jg_calS (M1 := mm_X12_power) (hy := 0) (pc' := 85) rfl (Or.inl rfl) jm_X12_power (by decide) rfl ⟨Nat.le_of_ble_eq_true rfl, rfl⟩ (Nat.le_of_ble_eq_true rfl) rfl h (jg_kI (fun z105 m104 h => ?_))
    refine jg_A (pc' := 87) (ls' := [.ref a0, u1, .int (.ofInt x2), .int (.ofInt x3), .int (.ofInt x4), .int (.ofInt z105), u6, u7, u8]) rfl rfl (fun _ _ _ => rfl) ?_
    refine jg_A (pc' := 88) rfl rfl (fun _ _ _ => rfl) ?_
    refine jg_A (pc' := 90) (ls' := [.ref a0, u1, .int (.ofInt x2), .int (.ofInt x3), .int (.ofInt x4), .int (.ofInt z105), .int (.ofInt 0), u7, u8]) rfl rfl (fun _ _ _ => rfl) ?_
    exact h
set_option maxRecDepth 100000 in
set_option maxHeartbeats 4000000 in
theorem jb_X12_game_90 {w : Nat} {a0 : Nat} {u1 : Value} {x2 : Int} {x3 : Int} {x4 : Int} {x5 : Int} {x6 : Int} {u7 : Value} {u8 : Value} {σ : jg_M} {Q : Int → jg_M → Prop} (h0 : jg_sh a0 = (12, 0)) (h : (if jg_wr x5 ≤ jg_wr x6 then jg_GI w 2 mm_X12_game 186 [.ref a0, u1, .int (.ofInt x2), .int (.ofInt x3), .int (.ofInt x4), .int (.ofInt x5), .int (.ofInt 0), u7, u8] σ Q else ∀ t101 : Int, t101 = ((σ.1 (a0 + 3) (0)) - 1) → jg_GI w 2 mm_X12_game 109 [.ref a0, u1, .int (.ofInt x2), .int (.ofInt (-1)), .int (.ofInt x4), .int (.ofInt x5), .int (.ofInt x6), .int (.ofInt t101), u8] σ Q)) : jg_GI w 2 mm_X12_game 90 [.ref a0, u1, .int (.ofInt x2), .int (.ofInt x3), .int (.ofInt x4), .int (.ofInt x5), .int (.ofInt x6), u7, u8] σ Q := by
  show jg_G w 2 mm_X12_game 90 [.ref a0, u1, .int (.ofInt x2), .int (.ofInt x3), .int (.ofInt x4), .int (.ofInt x5), .int (.ofInt x6), u7, u8] [] σ (jg_QI Q)
  refine jg_A (pc' := 92) rfl rfl (fun _ _ _ => rfl) ?_
  refine jg_A (pc' := 94) rfl rfl (fun _ _ _ => rfl) ?_
  refine jg_cge (pc' := 97) rfl rfl (fun hc => ?_) (fun hc => ?_)
  · have h := jg_t h (show jg_wr x5 ≤ jg_wr x6 from hc)
    refine jg_A (pc' := 184) rfl rfl (fun _ _ _ => rfl) ?_
    refine jg_A (pc' := 186) (ls' := [.ref a0, u1, .int (.ofInt x2), .int (.ofInt x3), .int (.ofInt x4), .int (.ofInt x5), .int (.ofInt 0), u7, u8]) rfl rfl (fun _ _ _ => rfl) ?_
    exact h
  · have h := jg_f h (show ¬ (jg_wr x5 ≤ jg_wr x6) from hc)
    refine jg_A (pc' := 98) rfl rfl (fun _ _ _ => rfl) ?_
    refine jg_A (pc' := 99) (ls' := [.ref a0, u1, .int (.ofInt x2), .int (.ofInt (-1)), .int (.ofInt x4), .int (.ofInt x5), .int (.ofInt x6), u7, u8]) rfl rfl (fun _ _ _ => rfl) ?_
    refine jg_A (pc' := 100) rfl rfl (fun _ _ _ => rfl) ?_
    refine jg_getO (pc' := 103) (k := 3) rfl h0 (by decide) rfl rfl ?_
    refine jg_A (pc' := 104) rfl rfl (fun _ _ _ => rfl) ?_
    refine jg_ialdK (pc' := 105) (xi := 0) rfl (jg_sX12_12 h0) (by decide) (by decide) rfl ?_
    refine jg_A (pc' := 106) rfl rfl (fun _ _ _ => rfl) ?_
    refine jg_isub (pc' := 107) rfl rfl ?_
    refine jg_nm (F := fun t101 => jg_G w 2 mm_X12_game 107 [.ref a0, u1, .int (.ofInt x2), .int (.ofInt (-1)), .int (.ofInt x4), .int (.ofInt x5), .int (.ofInt x6), u7, u8] [.int (.ofInt t101)] σ (jg_QI Q)) ((σ.1 (a0 + 3) (0)) - 1) (fun t101 ht101 => ?_)
    have h := h t101 ht101
    refine jg_A (pc' := 109) (ls' := [.ref a0, u1, .int (.ofInt x2), .int (.ofInt (-1)), .int (.ofInt x4), .int (.ofInt x5), .int (.ofInt x6), .int (.ofInt t101), u8]) rfl rfl (fun _ _ _ => rfl) ?_
    exact h
set_option maxRecDepth 100000 in
set_option maxHeartbeats 4000000 in
theorem jb_X12_game_186 {w : Nat} {a0 : Nat} {u1 : Value} {x2 : Int} {x3 : Int} {x4 : Int} {x5 : Int} {x6 : Int} {u7 : Value} {u8 : Value} {σ : jg_M} {Q : Int → jg_M → Prop} (h0 : jg_sh a0 = (12, 0)) (h : (if jg_wr x5 ≤ jg_wr x6 then jg_GI w 2 mm_X12_game 61 [.ref a0, u1, .int (.ofInt x2), .int (.ofInt x3), .int (.ofInt (x4 + (-1))), .int (.ofInt x5), .int (.ofInt x6), u7, u8] σ Q else ((0 : Int) ≤ jg_wr x6 ∧ jg_wr x6 < (343 : Int)) ∧ ((0 : Int) ≤ (jg_wr x6) ∧ (jg_wr x6) < (2401 : Int)) ∧ ∀ m101 : jg_M, m101 = jg_sI σ (a0 + 41) (jg_wr x6) (jg_nar (σ.1 (a0 + 42) (jg_wr x6))) → jg_GI w 2 mm_X12_game 186 [.ref a0, u1, .int (.ofInt x2), .int (.ofInt x3), .int (.ofInt x4), .int (.ofInt x5), .int (.ofInt (x6 + 1)), u7, u8] m101 Q)) : jg_GI w 2 mm_X12_game 186 [.ref a0, u1, .int (.ofInt x2), .int (.ofInt x3), .int (.ofInt x4), .int (.ofInt x5), .int (.ofInt x6), u7, u8] σ Q := by
  show jg_G w 2 mm_X12_game 186 [.ref a0, u1, .int (.ofInt x2), .int (.ofInt x3), .int (.ofInt x4), .int (.ofInt x5), .int (.ofInt x6), u7, u8] [] σ (jg_QI Q)
  refine jg_A (pc' := 188) rfl rfl (fun _ _ _ => rfl) ?_
  refine jg_A (pc' := 190) rfl rfl (fun _ _ _ => rfl) ?_
  refine jg_cge (pc' := 193) rfl rfl (fun hc => ?_) (fun hc => ?_)
  · have h := jg_t h (show jg_wr x5 ≤ jg_wr x6 from hc)
    refine jg_iinc (pc' := 216) (ls' := [.ref a0, u1, .int (.ofInt x2), .int (.ofInt x3), .int (.ofInt (x4 + (-1))), .int (.ofInt x5), .int (.ofInt x6), u7, u8]) rfl rfl rfl rfl ?_
    refine jg_goto rfl ?_
    exact h
  · have h := jg_f h (show ¬ (jg_wr x5 ≤ jg_wr x6) from hc)
    refine jg_A (pc' := 194) rfl rfl (fun _ _ _ => rfl) ?_
    refine jg_getO (pc' := 197) (k := 41) rfl h0 (by decide) rfl rfl ?_
    refine jg_A (pc' := 199) rfl rfl (fun _ _ _ => rfl) ?_
    refine jg_A (pc' := 200) rfl rfl (fun _ _ _ => rfl) ?_
    refine jg_getO (pc' := 203) (k := 42) rfl h0 (by decide) rfl rfl ?_
    refine jg_A (pc' := 205) rfl rfl (fun _ _ _ => rfl) ?_
    obtain ⟨hg, h⟩ := h
    refine jg_zald (pc' := 206) rfl (jg_sX12_64 h0) hg rfl ?_
    obtain ⟨hg, h⟩ := h
    refine jg_zast (pc' := 207) rfl (jg_sX12_63 h0) hg rfl (fun m101 hm101 => ?_)
    have h := h m101 hm101
    refine jg_iinc (pc' := 210) (ls' := [.ref a0, u1, .int (.ofInt x2), .int (.ofInt x3), .int (.ofInt x4), .int (.ofInt x5), .int (.ofInt (x6 + 1)), u7, u8]) rfl rfl rfl rfl ?_
    refine jg_goto rfl ?_
    exact h
set_option maxRecDepth 100000 in
set_option maxHeartbeats 4000000 in
theorem jb_X12_game_109 {w : Nat} {a0 : Nat} {u1 : Value} {x2 : Int} {x3 : Int} {x4 : Int} {x5 : Int} {x6 : Int} {x7 : Int} {u8 : Value} {σ : jg_M} {Q : Int → jg_M → Prop} (h0 : jg_sh a0 = (12, 0)) (h : (if jg_wr x7 < 0 then (if jg_wr x3 < 0 then ((0 : Int) ≤ (jg_wr x6) ∧ (jg_wr x6) < (343 : Int)) ∧ ∀ m101 : jg_M, m101 = jg_sI σ (a0 + 42) (jg_wr x6) (jg_nar 0) → jg_GI w 2 mm_X12_game 90 [.ref a0, u1, .int (.ofInt x2), .int (.ofInt x3), .int (.ofInt x4), .int (.ofInt x5), .int (.ofInt (x6 + 1)), .int (.ofInt x7), u8] m101 Q else ((0 : Int) ≤ (jg_wr x6) ∧ (jg_wr x6) < (343 : Int)) ∧ ∀ m102 : jg_M, m102 = jg_sI σ (a0 + 42) (jg_wr x6) (jg_nar 1) → jg_GI w 2 mm_X12_game 90 [.ref a0, u1, .int (.ofInt x2), .int (.ofInt x3), .int (.ofInt x4), .int (.ofInt x5), .int (.ofInt (x6 + 1)), .int (.ofInt x7), u8] m102 Q) else ∀ t103 : Int, t103 = (((σ.1 (a0 + 3) (0)) * x6) + x7) → ((0 : Int) ≤ jg_wr t103 ∧ jg_wr t103 < (2401 : Int)) ∧ (if jg_wr (σ.1 (a0 + 40) (jg_wr t103)) = 0 then jg_GI w 2 mm_X12_game 109 [.ref a0, u1, .int (.ofInt x2), .int (.ofInt x3), .int (.ofInt x4), .int (.ofInt x5), .int (.ofInt x6), .int (.ofInt (x7 + (-1))), .int (.ofInt t103)] σ Q else ((0 : Int) ≤ jg_wr t103 ∧ jg_wr t103 < (2401 : Int)) ∧ (if jg_wr (σ.1 (a0 + 41) (jg_wr t103)) = 0 then jg_GI w 2 mm_X12_game 109 [.ref a0, u1, .int (.ofInt x2), .int (.ofInt x7), .int (.ofInt x4), .int (.ofInt x5), .int (.ofInt x6), .int (.ofInt (x7 + (-1))), .int (.ofInt t103)] σ Q else jg_GI w 2 mm_X12_game 109 [.ref a0, u1, .int (.ofInt x2), .int (.ofInt x3), .int (.ofInt x4), .int (.ofInt x5), .int (.ofInt x6), .int (.ofInt (x7 + (-1))), .int (.ofInt t103)] σ Q)))) : jg_GI w 2 mm_X12_game 109 [.ref a0, u1, .int (.ofInt x2), .int (.ofInt x3), .int (.ofInt x4), .int (.ofInt x5), .int (.ofInt x6), .int (.ofInt x7), u8] σ Q := by
  show jg_G w 2 mm_X12_game 109 [.ref a0, u1, .int (.ofInt x2), .int (.ofInt x3), .int (.ofInt x4), .int (.ofInt x5), .int (.ofInt x6), .int (.ofInt x7), u8] [] σ (jg_QI Q)
  refine jg_A (pc' := 111) rfl rfl (fun _ _ _ => rfl) ?_
  refine jg_iflt (pc' := 114) rfl rfl (fun hc => ?_) (fun hc => ?_)
  · have h := jg_t h (show jg_wr x7 < 0 from hc)
    refine jg_A (pc' := 162) rfl rfl (fun _ _ _ => rfl) ?_
    refine jg_getO (pc' := 165) (k := 42) rfl h0 (by decide) rfl rfl ?_
    refine jg_A (pc' := 167) rfl rfl (fun _ _ _ => rfl) ?_
    refine jg_A (pc' := 168) rfl rfl (fun _ _ _ => rfl) ?_
    refine jg_iflt (pc' := 171) rfl rfl (fun hc => ?_) (fun hc => ?_)
    · have h := jg_t h (show jg_wr x3 < 0 from hc)
      refine jg_A (pc' := 176) rfl rfl (fun _ _ _ => rfl) ?_
      obtain ⟨hg, h⟩ := h
      refine jg_zast (pc' := 177) rfl (jg_sX12_64 h0) hg rfl (fun m101 hm101 => ?_)
      have h := h m101 hm101
      refine jg_iinc (pc' := 180) (ls' := [.ref a0, u1, .int (.ofInt x2), .int (.ofInt x3), .int (.ofInt x4), .int (.ofInt x5), .int (.ofInt (x6 + 1)), .int (.ofInt x7), u8]) rfl rfl rfl rfl ?_
      refine jg_goto rfl ?_
      exact h
    · have h := jg_f h (show ¬ (jg_wr x3 < 0) from hc)
      refine jg_A (pc' := 172) rfl rfl (fun _ _ _ => rfl) ?_
      refine jg_goto rfl ?_
      obtain ⟨hg, h⟩ := h
      refine jg_zast (pc' := 177) rfl (jg_sX12_64 h0) hg rfl (fun m102 hm102 => ?_)
      have h := h m102 hm102
      refine jg_iinc (pc' := 180) (ls' := [.ref a0, u1, .int (.ofInt x2), .int (.ofInt x3), .int (.ofInt x4), .int (.ofInt x5), .int (.ofInt (x6 + 1)), .int (.ofInt x7), u8]) rfl rfl rfl rfl ?_
      refine jg_goto rfl ?_
      exact h
  · have h := jg_f h (show ¬ (jg_wr x7 < 0) from hc)
    refine jg_A (pc' := 115) rfl rfl (fun _ _ _ => rfl) ?_
    refine jg_getO (pc' := 118) (k := 3) rfl h0 (by decide) rfl rfl ?_
    refine jg_A (pc' := 119) rfl rfl (fun _ _ _ => rfl) ?_
    refine jg_ialdK (pc' := 120) (xi := 0) rfl (jg_sX12_12 h0) (by decide) (by decide) rfl ?_
    refine jg_A (pc' := 122) rfl rfl (fun _ _ _ => rfl) ?_
    refine jg_imul (pc' := 123) rfl rfl ?_
    refine jg_A (pc' := 125) rfl rfl (fun _ _ _ => rfl) ?_
    refine jg_iadd (pc' := 126) rfl rfl ?_
    refine jg_nm (F := fun t103 => jg_G w 2 mm_X12_game 126 [.ref a0, u1, .int (.ofInt x2), .int (.ofInt x3), .int (.ofInt x4), .int (.ofInt x5), .int (.ofInt x6), .int (.ofInt x7), u8] [.int (.ofInt t103)] σ (jg_QI Q)) (((σ.1 (a0 + 3) (0)) * x6) + x7) (fun t103 ht103 => ?_)
    have h := h t103 ht103
    refine jg_A (pc' := 128) (ls' := [.ref a0, u1, .int (.ofInt x2), .int (.ofInt x3), .int (.ofInt x4), .int (.ofInt x5), .int (.ofInt x6), .int (.ofInt x7), .int (.ofInt t103)]) rfl rfl (fun _ _ _ => rfl) ?_
    refine jg_A (pc' := 129) rfl rfl (fun _ _ _ => rfl) ?_
    refine jg_getO (pc' := 132) (k := 40) rfl h0 (by decide) rfl rfl ?_
    refine jg_A (pc' := 134) rfl rfl (fun _ _ _ => rfl) ?_
    obtain ⟨hg, h⟩ := h
    refine jg_zald (pc' := 135) rfl (jg_sX12_62 h0) hg rfl ?_
    refine jg_ifeq (pc' := 138) rfl rfl (fun hc => ?_) (fun hc => ?_)
    · have h := jg_t h (show jg_wr (σ.1 (a0 + 40) (jg_wr t103)) = 0 from hc)
      refine jg_A (pc' := 154) rfl rfl (fun _ _ _ => rfl) ?_
      refine jg_A (pc' := 155) (ls' := [.ref a0, u1, .int (.ofInt x2), .int (.ofInt x3), .int (.ofInt x4), .int (.ofInt x5), .int (.ofInt x6), .int (.ofInt x7), .int (.ofInt t103)]) rfl rfl (fun _ _ _ => rfl) ?_
      refine jg_iinc (pc' := 158) (ls' := [.ref a0, u1, .int (.ofInt x2), .int (.ofInt x3), .int (.ofInt x4), .int (.ofInt x5), .int (.ofInt x6), .int (.ofInt (x7 + (-1))), .int (.ofInt t103)]) rfl rfl rfl rfl ?_
      refine jg_goto rfl ?_
      exact h
    · have h := jg_f h (show ¬ (jg_wr (σ.1 (a0 + 40) (jg_wr t103)) = 0) from hc)
      refine jg_A (pc' := 139) rfl rfl (fun _ _ _ => rfl) ?_
      refine jg_getO (pc' := 142) (k := 41) rfl h0 (by decide) rfl rfl ?_
      refine jg_A (pc' := 144) rfl rfl (fun _ _ _ => rfl) ?_
      obtain ⟨hg, h⟩ := h
      refine jg_zald (pc' := 145) rfl (jg_sX12_63 h0) hg rfl ?_
      refine jg_ifne (pc' := 148) rfl rfl (fun hc => ?_) (fun hc => ?_)
      · have h := jg_t h (show jg_wr (σ.1 (a0 + 41) (jg_wr t103)) = 0 from hc)
        refine jg_A (pc' := 150) rfl rfl (fun _ _ _ => rfl) ?_
        refine jg_goto rfl ?_
        refine jg_A (pc' := 155) (ls' := [.ref a0, u1, .int (.ofInt x2), .int (.ofInt x7), .int (.ofInt x4), .int (.ofInt x5), .int (.ofInt x6), .int (.ofInt x7), .int (.ofInt t103)]) rfl rfl (fun _ _ _ => rfl) ?_
        refine jg_iinc (pc' := 158) (ls' := [.ref a0, u1, .int (.ofInt x2), .int (.ofInt x7), .int (.ofInt x4), .int (.ofInt x5), .int (.ofInt x6), .int (.ofInt (x7 + (-1))), .int (.ofInt t103)]) rfl rfl rfl rfl ?_
        refine jg_goto rfl ?_
        exact h
      · have h := jg_f h (show ¬ (jg_wr (σ.1 (a0 + 41) (jg_wr t103)) = 0) from hc)
        refine jg_A (pc' := 154) rfl rfl (fun _ _ _ => rfl) ?_
        refine jg_A (pc' := 155) (ls' := [.ref a0, u1, .int (.ofInt x2), .int (.ofInt x3), .int (.ofInt x4), .int (.ofInt x5), .int (.ofInt x6), .int (.ofInt x7), .int (.ofInt t103)]) rfl rfl (fun _ _ _ => rfl) ?_
        refine jg_iinc (pc' := 158) (ls' := [.ref a0, u1, .int (.ofInt x2), .int (.ofInt x3), .int (.ofInt x4), .int (.ofInt x5), .int (.ofInt x6), .int (.ofInt (x7 + (-1))), .int (.ofInt t103)]) rfl rfl rfl rfl ?_
        refine jg_goto rfl ?_
        exact h
set_option maxRecDepth 100000 in
set_option maxHeartbeats 4000000 in
theorem jb_X12_notes1_0 {w : Nat} {a0 : Nat} {x1 : Int} {x2 : Int} {x3 : Int} {σ : jg_M} {Q : Int → jg_M → Prop} (h0 : jg_sh a0 = (12, 0)) (h : (if jg_wr (σ.1 a0 65) = 24 then Q (-1) σ else ∀ t101 : Int, t101 = (3 * (σ.1 a0 65)) → ((0 : Int) ≤ (jg_wr t101) ∧ (jg_wr t101) < (72 : Int)) ∧ ∀ m102 : jg_M, m102 = jg_sI σ (a0 + 43) (jg_wr t101) x1 → ((0 : Int) ≤ (jg_wr (t101 + 1)) ∧ (jg_wr (t101 + 1)) < (72 : Int)) ∧ ∀ m103 : jg_M, m103 = jg_sI m102 (a0 + 43) (jg_wr (t101 + 1)) x2 → ((0 : Int) ≤ (jg_wr (t101 + 2)) ∧ (jg_wr (t101 + 2)) < (72 : Int)) ∧ ∀ m104 : jg_M, m104 = jg_sI m103 (a0 + 43) (jg_wr (t101 + 2)) x3 → ∀ m105 : jg_M, m105 = jg_sI m104 a0 65 ((m104.1 a0 65) + 1) → Q ((m105.1 a0 65) - 1) m105)) : jg_CI w 0 mm_X12_notes1 [.ref a0, .int (.ofInt x1), .int (.ofInt x2), .int (.ofInt x3)] σ Q := by
  show jg_G w 0 mm_X12_notes1 0 [.ref a0, .int (.ofInt x1), .int (.ofInt x2), .int (.ofInt x3), mj_U] [] σ (jg_QI Q)
  refine jg_A (pc' := 1) rfl rfl (fun _ _ _ => rfl) ?_
  refine jg_getI (pc' := 4) (bi := 65) rfl h0 (by decide) (Or.inl rfl) rfl rfl ?_
  refine jg_A (pc' := 6) rfl rfl (fun _ _ _ => rfl) ?_
  refine jg_cne (pc' := 9) rfl rfl (fun hc => ?_) (fun hc => ?_)
  · have h := jg_t h (show jg_wr (σ.1 a0 65) = 24 from hc)
    refine jg_A (pc' := 10) rfl rfl (fun _ _ _ => rfl) ?_
    exact jg_iret rfl rfl h
  · have h := jg_f h (show ¬ (jg_wr (σ.1 a0 65) = 24) from hc)
    refine jg_A (pc' := 12) rfl rfl (fun _ _ _ => rfl) ?_
    refine jg_A (pc' := 13) rfl rfl (fun _ _ _ => rfl) ?_
    refine jg_getI (pc' := 16) (bi := 65) rfl h0 (by decide) (Or.inl rfl) rfl rfl ?_
    refine jg_imul (pc' := 17) rfl rfl ?_
    refine jg_nm (F := fun t101 => jg_G w 0 mm_X12_notes1 17 [.ref a0, .int (.ofInt x1), .int (.ofInt x2), .int (.ofInt x3), mj_U] [.int (.ofInt t101)] σ (jg_QI Q)) (3 * (σ.1 a0 65)) (fun t101 ht101 => ?_)
    have h := h t101 ht101
    refine jg_A (pc' := 19) (ls' := [.ref a0, .int (.ofInt x1), .int (.ofInt x2), .int (.ofInt x3), .int (.ofInt t101)]) rfl rfl (fun _ _ _ => rfl) ?_
    refine jg_A (pc' := 20) rfl rfl (fun _ _ _ => rfl) ?_
    refine jg_getO (pc' := 23) (k := 43) rfl h0 (by decide) rfl rfl ?_
    refine jg_A (pc' := 25) rfl rfl (fun _ _ _ => rfl) ?_
    refine jg_A (pc' := 26) rfl rfl (fun _ _ _ => rfl) ?_
    obtain ⟨hg, h⟩ := h
    refine jg_iast (pc' := 27) rfl (jg_sX12_67 h0) hg rfl (fun m102 hm102 => ?_)
    have h := h m102 hm102
    refine jg_A (pc' := 28) rfl rfl (fun _ _ _ => rfl) ?_
    refine jg_getO (pc' := 31) (k := 43) rfl h0 (by decide) rfl rfl ?_
    refine jg_A (pc' := 33) rfl rfl (fun _ _ _ => rfl) ?_
    refine jg_A (pc' := 34) rfl rfl (fun _ _ _ => rfl) ?_
    refine jg_iadd (pc' := 35) rfl rfl ?_
    refine jg_A (pc' := 36) rfl rfl (fun _ _ _ => rfl) ?_
    obtain ⟨hg, h⟩ := h
    refine jg_iast (pc' := 37) rfl (jg_sX12_67 h0) hg rfl (fun m103 hm103 => ?_)
    have h := h m103 hm103
    refine jg_A (pc' := 38) rfl rfl (fun _ _ _ => rfl) ?_
    refine jg_getO (pc' := 41) (k := 43) rfl h0 (by decide) rfl rfl ?_
    refine jg_A (pc' := 43) rfl rfl (fun _ _ _ => rfl) ?_
    refine jg_A (pc' := 44) rfl rfl (fun _ _ _ => rfl) ?_
    refine jg_iadd (pc' := 45) rfl rfl ?_
    refine jg_A (pc' := 46) rfl rfl (fun _ _ _ => rfl) ?_
    obtain ⟨hg, h⟩ := h
    refine jg_iast (pc' := 47) rfl (jg_sX12_67 h0) hg rfl (fun m104 hm104 => ?_)
    have h := h m104 hm104
    refine jg_A (pc' := 48) rfl rfl (fun _ _ _ => rfl) ?_
    refine jg_A (pc' := 49) rfl rfl (fun _ _ _ => rfl) ?_
    refine jg_getI (pc' := 52) (bi := 65) rfl h0 (by decide) (Or.inl rfl) rfl rfl ?_
    refine jg_A (pc' := 53) rfl rfl (fun _ _ _ => rfl) ?_
    refine jg_iadd (pc' := 54) rfl rfl ?_
    refine jg_putI (pc' := 57) (bi := 65) rfl h0 (by decide) rfl rfl rfl rfl (fun m105 hm105 => ?_)
    have h := h m105 hm105
    refine jg_A (pc' := 58) rfl rfl (fun _ _ _ => rfl) ?_
    refine jg_getI (pc' := 61) (bi := 65) rfl h0 (by decide) (Or.inl rfl) rfl rfl ?_
    refine jg_A (pc' := 62) rfl rfl (fun _ _ _ => rfl) ?_
    refine jg_isub (pc' := 63) rfl rfl ?_
    exact jg_iret rfl rfl h
set_option maxRecDepth 100000 in
set_option maxHeartbeats 4000000 in
theorem jb_X12_note_0 {w : Nat} {a0 : Nat} {x1 : Int} {x2 : Int} {x3 : Int} {σ : jg_M} {Q : Int → jg_M → Prop} (h0 : jg_sh a0 = (12, 0)) (h : ∀ m101 : jg_M, m101 = jg_sI σ a0 2 0 → jg_CI w 0 mm_X12_isIn [.int (.ofInt x1), .int (.ofInt 0), .int (.ofInt 4)] m101 (fun (z103 : Int) (m102 : jg_M) => (if jg_wr z103 = 0 then Q (-1) m102 else jg_CI w 0 mm_X12_power [.int (.ofInt 10), .int (.ofInt x1)] m102 (fun (z105 : Int) (m104 : jg_M) => jg_CI w 0 mm_X12_isIn [.int (.ofInt x2), .int (.ofInt 0), .int (.ofInt (z105 - 1))] m104 (fun (z107 : Int) (m106 : jg_M) => (if jg_wr z107 = 0 then Q (-1) m106 else jg_CV w 0 mm_X12_gives [.ref a0, .int (.ofInt x2), .int (.ofInt x1), .int (.ofInt 10)] m106 (fun (m108 : jg_M) => jg_GI w 1 mm_X12_note 43 [.ref a0, .int (.ofInt x1), .int (.ofInt x2), .int (.ofInt x3), .int (.ofInt 0)] m108 Q))))))) : jg_CI w 1 mm_X12_note [.ref a0, .int (.ofInt x1), .int (.ofInt x2), .int (.ofInt x3)] σ Q := by
  show jg_G w 1 mm_X12_note 0 [.ref a0, .int (.ofInt x1), .int (.ofInt x2), .int (.ofInt x3), mj_U] [] σ (jg_QI Q)
  refine jg_A (pc' := 1) rfl rfl (fun _ _ _ => rfl) ?_
  refine jg_A (pc' := 2) rfl rfl (fun _ _ _ => rfl) ?_
  refine jg_putI (pc' := 5) (bi := 2) rfl h0 (by decide) rfl rfl rfl rfl (fun m101 hm101 => ?_)
  have h := h m101 hm101
  refine jg_A (pc' := 6) rfl rfl (fun _ _ _ => rfl) ?_
  refine jg_A (pc' := 7) rfl rfl (fun _ _ _ => rfl) ?_
  refine jg_A (pc' := 8) rfl rfl (fun _ _ _ => rfl) ?_
  refine jg_calS (M1 := mm_X12_isIn) (hy := 0) (pc' := 11) rfl (Or.inl rfl) jm_X12_isIn (by decide) rfl ⟨Nat.le_of_ble_eq_true rfl, rfl⟩ (Nat.le_of_ble_eq_true rfl) rfl h (jg_kI (fun z103 m102 h => ?_))
  refine jg_ifeq (pc' := 14) rfl rfl (fun hc => ?_) (fun hc => ?_)
  · have h := jg_t h (show jg_wr z103 = 0 from hc)
    refine jg_A (pc' := 31) rfl rfl (fun _ _ _ => rfl) ?_
    exact jg_iret rfl rfl h
  · have h := jg_f h (show ¬ (jg_wr z103 = 0) from hc)
    refine jg_A (pc' := 15) rfl rfl (fun _ _ _ => rfl) ?_
    refine jg_A (pc' := 16) rfl rfl (fun _ _ _ => rfl) ?_
    refine jg_A (pc' := 18) rfl rfl (fun _ _ _ => rfl) ?_
    refine jg_A (pc' := 19) rfl rfl (fun _ _ _ => rfl) ?_
    refine jg_calS (M1 := mm_X12_power) (hy := 0) (pc' := 22) rfl (Or.inl rfl) jm_X12_power (by decide) rfl ⟨Nat.le_of_ble_eq_true rfl, rfl⟩ (Nat.le_of_ble_eq_true rfl) rfl h (jg_kI (fun z105 m104 h => ?_))
    refine jg_A (pc' := 23) rfl rfl (fun _ _ _ => rfl) ?_
    refine jg_isub (pc' := 24) rfl rfl ?_
    refine jg_calS (M1 := mm_X12_isIn) (hy := 0) (pc' := 27) rfl (Or.inl rfl) jm_X12_isIn (by decide) rfl ⟨Nat.le_of_ble_eq_true rfl, rfl⟩ (Nat.le_of_ble_eq_true rfl) rfl h (jg_kI (fun z107 m106 h => ?_))
    refine jg_ifne (pc' := 30) rfl rfl (fun hc => ?_) (fun hc => ?_)
    · have h := jg_t h (show jg_wr z107 = 0 from hc)
      refine jg_A (pc' := 31) rfl rfl (fun _ _ _ => rfl) ?_
      exact jg_iret rfl rfl h
    · have h := jg_f h (show ¬ (jg_wr z107 = 0) from hc)
      refine jg_A (pc' := 33) rfl rfl (fun _ _ _ => rfl) ?_
      refine jg_A (pc' := 34) rfl rfl (fun _ _ _ => rfl) ?_
      refine jg_A (pc' := 35) rfl rfl (fun _ _ _ => rfl) ?_
      refine jg_A (pc' := 37) rfl rfl (fun _ _ _ => rfl) ?_
      refine jg_calX (M1 := mm_X12_gives) (hy := 0) (pc' := 40) rfl jm_X12_gives (by decide) rfl h0 (by decide) ⟨Nat.le_of_ble_eq_true rfl, rfl⟩ (Nat.le_of_ble_eq_true rfl) rfl h (jg_kV (fun m108 h => ?_))
      refine jg_A (pc' := 41) rfl rfl (fun _ _ _ => rfl) ?_
      refine jg_A (pc' := 43) (ls' := [.ref a0, .int (.ofInt x1), .int (.ofInt x2), .int (.ofInt x3), .int (.ofInt 0)]) rfl rfl (fun _ _ _ => rfl) ?_
      exact h
set_option maxRecDepth 100000 in
set_option maxHeartbeats 4000000 in
theorem jb_X12_note_43 {w : Nat} {a0 : Nat} {x1 : Int} {x2 : Int} {x3 : Int} {x4 : Int} {σ : jg_M} {Q : Int → jg_M → Prop} (h0 : jg_sh a0 = (12, 0)) (h : (if jg_wr x1 ≤ jg_wr x4 then (if jg_wr x3 = 0 then jg_CI w 0 mm_X12_notes1 [.ref a0, .int (.ofInt x1), .int (.ofInt x2), .int (.ofInt 0)] σ (fun (z102 : Int) (m101 : jg_M) => Q z102 m101) else jg_CI w 0 mm_X12_notes1 [.ref a0, .int (.ofInt x1), .int (.ofInt x2), .int (.ofInt 1)] σ (fun (z104 : Int) (m103 : jg_M) => Q z104 m103)) else ((0 : Int) ≤ jg_wr x4 ∧ jg_wr x4 < (9 : Int)) ∧ jg_CI w 0 mm_X12_isToken [.ref a0, .int (.ofInt (σ.1 (a0 + 39) (jg_wr x4)))] σ (fun (z106 : Int) (m105 : jg_M) => (if jg_wr z106 = 0 then Q (-1) m105 else jg_GI w 1 mm_X12_note 43 [.ref a0, .int (.ofInt x1), .int (.ofInt x2), .int (.ofInt x3), .int (.ofInt (x4 + 1))] m105 Q)))) : jg_GI w 1 mm_X12_note 43 [.ref a0, .int (.ofInt x1), .int (.ofInt x2), .int (.ofInt x3), .int (.ofInt x4)] σ Q := by
  show jg_G w 1 mm_X12_note 43 [.ref a0, .int (.ofInt x1), .int (.ofInt x2), .int (.ofInt x3), .int (.ofInt x4)] [] σ (jg_QI Q)
  refine jg_A (pc' := 45) rfl rfl (fun _ _ _ => rfl) ?_
  refine jg_A (pc' := 46) rfl rfl (fun _ _ _ => rfl) ?_
  refine jg_cge (pc' := 49) rfl rfl (fun hc => ?_) (fun hc => ?_)
  · have h := jg_t h (show jg_wr x1 ≤ jg_wr x4 from hc)
    refine jg_A (pc' := 72) rfl rfl (fun _ _ _ => rfl) ?_
    refine jg_A (pc' := 73) rfl rfl (fun _ _ _ => rfl) ?_
    refine jg_A (pc' := 74) rfl rfl (fun _ _ _ => rfl) ?_
    refine jg_A (pc' := 75) rfl rfl (fun _ _ _ => rfl) ?_
    refine jg_ifeq (pc' := 78) rfl rfl (fun hc => ?_) (fun hc => ?_)
    · have h := jg_t h (show jg_wr x3 = 0 from hc)
      refine jg_A (pc' := 83) rfl rfl (fun _ _ _ => rfl) ?_
      refine jg_calX (M1 := mm_X12_notes1) (hy := 0) (pc' := 86) rfl jm_X12_notes1 (by decide) rfl h0 (by decide) ⟨Nat.le_of_ble_eq_true rfl, rfl⟩ (Nat.le_of_ble_eq_true rfl) rfl h (jg_kI (fun z102 m101 h => ?_))
      exact jg_iret rfl rfl h
    · have h := jg_f h (show ¬ (jg_wr x3 = 0) from hc)
      refine jg_A (pc' := 79) rfl rfl (fun _ _ _ => rfl) ?_
      refine jg_goto rfl ?_
      refine jg_calX (M1 := mm_X12_notes1) (hy := 0) (pc' := 86) rfl jm_X12_notes1 (by decide) rfl h0 (by decide) ⟨Nat.le_of_ble_eq_true rfl, rfl⟩ (Nat.le_of_ble_eq_true rfl) rfl h (jg_kI (fun z104 m103 h => ?_))
      exact jg_iret rfl rfl h
  · have h := jg_f h (show ¬ (jg_wr x1 ≤ jg_wr x4) from hc)
    refine jg_A (pc' := 50) rfl rfl (fun _ _ _ => rfl) ?_
    refine jg_A (pc' := 51) rfl rfl (fun _ _ _ => rfl) ?_
    refine jg_getO (pc' := 54) (k := 39) rfl h0 (by decide) rfl rfl ?_
    refine jg_A (pc' := 56) rfl rfl (fun _ _ _ => rfl) ?_
    obtain ⟨hg, h⟩ := h
    refine jg_iald (pc' := 57) rfl (jg_sX12_61 h0) hg rfl ?_
    refine jg_calX (M1 := mm_X12_isToken) (hy := 0) (pc' := 60) rfl jm_X12_isToken (by decide) rfl h0 (by decide) ⟨Nat.le_of_ble_eq_true rfl, rfl⟩ (Nat.le_of_ble_eq_true rfl) rfl h (jg_kI (fun z106 m105 h => ?_))
    refine jg_ifne (pc' := 63) rfl rfl (fun hc => ?_) (fun hc => ?_)
    · have h := jg_t h (show jg_wr z106 = 0 from hc)
      refine jg_A (pc' := 64) rfl rfl (fun _ _ _ => rfl) ?_
      exact jg_iret rfl rfl h
    · have h := jg_f h (show ¬ (jg_wr z106 = 0) from hc)
      refine jg_iinc (pc' := 68) (ls' := [.ref a0, .int (.ofInt x1), .int (.ofInt x2), .int (.ofInt x3), .int (.ofInt (x4 + 1))]) rfl rfl rfl rfl ?_
      refine jg_goto rfl ?_
      exact h
set_option maxRecDepth 100000 in
set_option maxHeartbeats 4000000 in
theorem jb_X12_strike_0 {w : Nat} {a0 : Nat} {x1 : Int} {σ : jg_M} {Q : Int → jg_M → Prop} (h0 : jg_sh a0 = (12, 0)) (h : ∀ m101 : jg_M, m101 = jg_sI σ a0 2 0 → (if jg_wr x1 < 0 then Q (-1) m101 else (if jg_wr x1 < jg_wr (m101.1 a0 65) then jg_CI w 0 mm_X12_notes1 [.ref a0, .int (.ofInt (-1)), .int (.ofInt x1), .int (.ofInt 0)] m101 (fun (z103 : Int) (m102 : jg_M) => Q z103 m102) else Q (-1) m101))) : jg_CI w 1 mm_X12_strike [.ref a0, .int (.ofInt x1)] σ Q := by
  show jg_G w 1 mm_X12_strike 0 [.ref a0, .int (.ofInt x1)] [] σ (jg_QI Q)
  refine jg_A (pc' := 1) rfl rfl (fun _ _ _ => rfl) ?_
  refine jg_A (pc' := 2) rfl rfl (fun _ _ _ => rfl) ?_
  refine jg_putI (pc' := 5) (bi := 2) rfl h0 (by decide) rfl rfl rfl rfl (fun m101 hm101 => ?_)
  have h := h m101 hm101
  refine jg_A (pc' := 6) rfl rfl (fun _ _ _ => rfl) ?_
  refine jg_iflt (pc' := 9) rfl rfl (fun hc => ?_) (fun hc => ?_)
  · have h := jg_t h (show jg_wr x1 < 0 from hc)
    refine jg_A (pc' := 18) rfl rfl (fun _ _ _ => rfl) ?_
    refine jg_goto rfl ?_
    exact jg_iret rfl rfl h
  · have h := jg_f h (show ¬ (jg_wr x1 < 0) from hc)
    refine jg_A (pc' := 10) rfl rfl (fun _ _ _ => rfl) ?_
    refine jg_A (pc' := 11) rfl rfl (fun _ _ _ => rfl) ?_
    refine jg_getI (pc' := 14) (bi := 65) rfl h0 (by decide) (Or.inl rfl) rfl rfl ?_
    refine jg_clt (pc' := 17) rfl rfl (fun hc => ?_) (fun hc => ?_)
    · have h := jg_t h (show jg_wr x1 < jg_wr (m101.1 a0 65) from hc)
      refine jg_A (pc' := 22) rfl rfl (fun _ _ _ => rfl) ?_
      refine jg_A (pc' := 23) rfl rfl (fun _ _ _ => rfl) ?_
      refine jg_A (pc' := 24) rfl rfl (fun _ _ _ => rfl) ?_
      refine jg_A (pc' := 25) rfl rfl (fun _ _ _ => rfl) ?_
      refine jg_calX (M1 := mm_X12_notes1) (hy := 0) (pc' := 28) rfl jm_X12_notes1 (by decide) rfl h0 (by decide) ⟨Nat.le_of_ble_eq_true rfl, rfl⟩ (Nat.le_of_ble_eq_true rfl) rfl h (jg_kI (fun z103 m102 h => ?_))
      exact jg_iret rfl rfl h
    · have h := jg_f h (show ¬ (jg_wr x1 < jg_wr (m101.1 a0 65)) from hc)
      refine jg_A (pc' := 18) rfl rfl (fun _ _ _ => rfl) ?_
      refine jg_goto rfl ?_
      exact jg_iret rfl rfl h
set_option maxRecDepth 100000 in
set_option maxHeartbeats 4000000 in
theorem jb_X12_known_0 {w : Nat} {a0 : Nat} {x1 : Int} {σ : jg_M} {Q : Int → jg_M → Prop} (h0 : jg_sh a0 = (12, 0)) (h : ∀ m101 : jg_M, m101 = jg_sI σ a0 2 0 → jg_CI w 0 mm_X12_isIn [.int (.ofInt x1), .int (.ofInt (-1)), .int (.ofInt (m101.1 a0 65))] m101 (fun (z103 : Int) (m102 : jg_M) => (if jg_wr z103 = 0 then Q 0 m102 else ∀ m104 : jg_M, m104 = jg_sI m102 a0 66 x1 → Q 1 m104))) : jg_CI w 1 mm_X12_known [.ref a0, .int (.ofInt x1)] σ Q := by
  show jg_G w 1 mm_X12_known 0 [.ref a0, .int (.ofInt x1)] [] σ (jg_QI Q)
  refine jg_A (pc' := 1) rfl rfl (fun _ _ _ => rfl) ?_
  refine jg_A (pc' := 2) rfl rfl (fun _ _ _ => rfl) ?_
  refine jg_putI (pc' := 5) (bi := 2) rfl h0 (by decide) rfl rfl rfl rfl (fun m101 hm101 => ?_)
  have h := h m101 hm101
  refine jg_A (pc' := 6) rfl rfl (fun _ _ _ => rfl) ?_
  refine jg_A (pc' := 7) rfl rfl (fun _ _ _ => rfl) ?_
  refine jg_A (pc' := 8) rfl rfl (fun _ _ _ => rfl) ?_
  refine jg_getI (pc' := 11) (bi := 65) rfl h0 (by decide) (Or.inl rfl) rfl rfl ?_
  refine jg_calS (M1 := mm_X12_isIn) (hy := 0) (pc' := 14) rfl (Or.inl rfl) jm_X12_isIn (by decide) rfl ⟨Nat.le_of_ble_eq_true rfl, rfl⟩ (Nat.le_of_ble_eq_true rfl) rfl h (jg_kI (fun z103 m102 h => ?_))
  refine jg_ifne (pc' := 17) rfl rfl (fun hc => ?_) (fun hc => ?_)
  · have h := jg_t h (show jg_wr z103 = 0 from hc)
    refine jg_A (pc' := 18) rfl rfl (fun _ _ _ => rfl) ?_
    exact jg_zret rfl rfl (by decide) h
  · have h := jg_f h (show ¬ (jg_wr z103 = 0) from hc)
    refine jg_A (pc' := 20) rfl rfl (fun _ _ _ => rfl) ?_
    refine jg_A (pc' := 21) rfl rfl (fun _ _ _ => rfl) ?_
    refine jg_putI (pc' := 24) (bi := 66) rfl h0 (by decide) rfl rfl rfl rfl (fun m104 hm104 => ?_)
    have h := h m104 hm104
    refine jg_A (pc' := 25) rfl rfl (fun _ _ _ => rfl) ?_
    exact jg_zret rfl rfl (by decide) h
set_option maxRecDepth 100000 in
set_option maxHeartbeats 4000000 in
theorem jb_X12_knownBy_0 {w : Nat} {a0 : Nat} {σ : jg_M} {Q : Int → jg_M → Prop} (h0 : jg_sh a0 = (12, 0)) (h : (if 0 ≤ jg_wr (σ.1 a0 66) then Q (σ.1 a0 66) σ else Q (σ.1 a0 65) σ)) : jg_CI w 0 mm_X12_knownBy [.ref a0] σ Q := by
  show jg_G w 0 mm_X12_knownBy 0 [.ref a0] [] σ (jg_QI Q)
  refine jg_A (pc' := 1) rfl rfl (fun _ _ _ => rfl) ?_
  refine jg_getI (pc' := 4) (bi := 66) rfl h0 (by decide) (Or.inl rfl) rfl rfl ?_
  refine jg_ifge (pc' := 7) rfl rfl (fun hc => ?_) (fun hc => ?_)
  · have h := jg_t h (show 0 ≤ jg_wr (σ.1 a0 66) from hc)
    refine jg_A (pc' := 15) rfl rfl (fun _ _ _ => rfl) ?_
    refine jg_getI (pc' := 18) (bi := 66) rfl h0 (by decide) (Or.inl rfl) rfl rfl ?_
    exact jg_iret rfl rfl h
  · have h := jg_f h (show ¬ (0 ≤ jg_wr (σ.1 a0 66)) from hc)
    refine jg_A (pc' := 8) rfl rfl (fun _ _ _ => rfl) ?_
    refine jg_getI (pc' := 11) (bi := 65) rfl h0 (by decide) (Or.inl rfl) rfl rfl ?_
    refine jg_goto rfl ?_
    exact jg_iret rfl rfl h
set_option maxRecDepth 100000 in
set_option maxHeartbeats 4000000 in
theorem jb_X12_layCounts_0 {w : Nat} {a0 : Nat} {σ : jg_M} {Q : jg_M → Prop} (h0 : jg_sh a0 = (12, 0)) (h : jg_GV w 1 mm_X12_layCounts 2 [.ref a0, .int (.ofInt 0)] σ Q) : jg_CV w 1 mm_X12_layCounts [.ref a0] σ Q := by
  show jg_G w 1 mm_X12_layCounts 0 [.ref a0, mj_U] [] σ (jg_QV Q)
  refine jg_A (pc' := 1) rfl rfl (fun _ _ _ => rfl) ?_
  refine jg_A (pc' := 2) (ls' := [.ref a0, .int (.ofInt 0)]) rfl rfl (fun _ _ _ => rfl) ?_
  exact h
set_option maxRecDepth 100000 in
set_option maxHeartbeats 4000000 in
theorem jb_X12_layCounts_2 {w : Nat} {a0 : Nat} {x1 : Int} {σ : jg_M} {Q : jg_M → Prop} (h0 : jg_sh a0 = (12, 0)) (h : jg_CI w 0 mm_X12_knownBy [.ref a0] σ (fun (z102 : Int) (m101 : jg_M) => (if jg_wr z102 ≤ jg_wr x1 then jg_CI w 0 mm_X12_knownBy [.ref a0] m101 (fun (z104 : Int) (m103 : jg_M) => ∀ t105 : Int, t105 = (z104 - 1) → jg_GV w 1 mm_X12_layCounts 30 [.ref a0, .int (.ofInt t105)] m103 Q) else ((0 : Int) ≤ (jg_wr x1) ∧ (jg_wr x1) < (24 : Int)) ∧ ∀ m106 : jg_M, m106 = jg_sI m101 (a0 + 44) (jg_wr x1) (jg_nar 1) → jg_GV w 1 mm_X12_layCounts 2 [.ref a0, .int (.ofInt (x1 + 1))] m106 Q))) : jg_GV w 1 mm_X12_layCounts 2 [.ref a0, .int (.ofInt x1)] σ Q := by
  show jg_G w 1 mm_X12_layCounts 2 [.ref a0, .int (.ofInt x1)] [] σ (jg_QV Q)
  refine jg_A (pc' := 3) rfl rfl (fun _ _ _ => rfl) ?_
  refine jg_A (pc' := 4) rfl rfl (fun _ _ _ => rfl) ?_
  refine jg_calX (M1 := mm_X12_knownBy) (hy := 0) (pc' := 7) rfl jm_X12_knownBy (by decide) rfl h0 (by decide) ⟨Nat.le_of_ble_eq_true rfl, rfl⟩ (Nat.le_of_ble_eq_true rfl) rfl h (jg_kI (fun z102 m101 h => ?_))
  refine jg_cge (pc' := 10) rfl rfl (fun hc => ?_) (fun hc => ?_)
  · have h := jg_t h (show jg_wr z102 ≤ jg_wr x1 from hc)
    refine jg_A (pc' := 24) rfl rfl (fun _ _ _ => rfl) ?_
    refine jg_calX (M1 := mm_X12_knownBy) (hy := 0) (pc' := 27) rfl jm_X12_knownBy (by decide) rfl h0 (by decide) ⟨Nat.le_of_ble_eq_true rfl, rfl⟩ (Nat.le_of_ble_eq_true rfl) rfl h (jg_kI (fun z104 m103 h => ?_))
    refine jg_A (pc' := 28) rfl rfl (fun _ _ _ => rfl) ?_
    refine jg_isub (pc' := 29) rfl rfl ?_
    refine jg_nm (F := fun t105 => jg_G w 1 mm_X12_layCounts 29 [.ref a0, .int (.ofInt x1)] [.int (.ofInt t105)] m103 (jg_QV Q)) (z104 - 1) (fun t105 ht105 => ?_)
    have h := h t105 ht105
    refine jg_A (pc' := 30) (ls' := [.ref a0, .int (.ofInt t105)]) rfl rfl (fun _ _ _ => rfl) ?_
    exact h
  · have h := jg_f h (show ¬ (jg_wr z102 ≤ jg_wr x1) from hc)
    refine jg_A (pc' := 11) rfl rfl (fun _ _ _ => rfl) ?_
    refine jg_getO (pc' := 14) (k := 44) rfl h0 (by decide) rfl rfl ?_
    refine jg_A (pc' := 15) rfl rfl (fun _ _ _ => rfl) ?_
    refine jg_A (pc' := 16) rfl rfl (fun _ _ _ => rfl) ?_
    obtain ⟨hg, h⟩ := h
    refine jg_zast (pc' := 17) rfl (jg_sX12_68 h0) hg rfl (fun m106 hm106 => ?_)
    have h := h m106 hm106
    refine jg_iinc (pc' := 20) (ls' := [.ref a0, .int (.ofInt (x1 + 1))]) rfl rfl rfl rfl ?_
    refine jg_goto rfl ?_
    exact h
set_option maxRecDepth 100000 in
set_option maxHeartbeats 4000000 in
theorem jb_X12_layCounts_30 {w : Nat} {a0 : Nat} {x1 : Int} {σ : jg_M} {Q : jg_M → Prop} (h0 : jg_sh a0 = (12, 0)) (h : (if jg_wr x1 < 0 then Q σ else ((0 : Int) ≤ jg_wr x1 ∧ jg_wr x1 < (24 : Int)) ∧ (if jg_wr (σ.1 (a0 + 44) (jg_wr x1)) = 0 then jg_GV w 1 mm_X12_layCounts 30 [.ref a0, .int (.ofInt (x1 + (-1)))] σ Q else ((0 : Int) ≤ jg_wr (3 * x1) ∧ jg_wr (3 * x1) < (72 : Int)) ∧ (if 0 ≤ jg_wr (σ.1 (a0 + 43) (jg_wr (3 * x1))) then jg_GV w 1 mm_X12_layCounts 30 [.ref a0, .int (.ofInt (x1 + (-1)))] σ Q else ((0 : Int) ≤ jg_wr ((3 * x1) + 1) ∧ jg_wr ((3 * x1) + 1) < (72 : Int)) ∧ ((0 : Int) ≤ (jg_wr (σ.1 (a0 + 43) (jg_wr ((3 * x1) + 1)))) ∧ (jg_wr (σ.1 (a0 + 43) (jg_wr ((3 * x1) + 1)))) < (24 : Int)) ∧ ∀ m101 : jg_M, m101 = jg_sI σ (a0 + 44) (jg_wr (σ.1 (a0 + 43) (jg_wr ((3 * x1) + 1)))) (jg_nar 0) → jg_GV w 1 mm_X12_layCounts 30 [.ref a0, .int (.ofInt (x1 + (-1)))] m101 Q)))) : jg_GV w 1 mm_X12_layCounts 30 [.ref a0, .int (.ofInt x1)] σ Q := by
  show jg_G w 1 mm_X12_layCounts 30 [.ref a0, .int (.ofInt x1)] [] σ (jg_QV Q)
  refine jg_A (pc' := 31) rfl rfl (fun _ _ _ => rfl) ?_
  refine jg_iflt (pc' := 34) rfl rfl (fun hc => ?_) (fun hc => ?_)
  · have h := jg_t h (show jg_wr x1 < 0 from hc)
    exact jg_vret rfl rfl h
  · have h := jg_f h (show ¬ (jg_wr x1 < 0) from hc)
    refine jg_A (pc' := 35) rfl rfl (fun _ _ _ => rfl) ?_
    refine jg_getO (pc' := 38) (k := 44) rfl h0 (by decide) rfl rfl ?_
    refine jg_A (pc' := 39) rfl rfl (fun _ _ _ => rfl) ?_
    obtain ⟨hg, h⟩ := h
    refine jg_zald (pc' := 40) rfl (jg_sX12_68 h0) hg rfl ?_
    refine jg_ifeq (pc' := 43) rfl rfl (fun hc => ?_) (fun hc => ?_)
    · have h := jg_t h (show jg_wr (σ.1 (a0 + 44) (jg_wr x1)) = 0 from hc)
      refine jg_iinc (pc' := 73) (ls' := [.ref a0, .int (.ofInt (x1 + (-1)))]) rfl rfl rfl rfl ?_
      refine jg_goto rfl ?_
      exact h
    · have h := jg_f h (show ¬ (jg_wr (σ.1 (a0 + 44) (jg_wr x1)) = 0) from hc)
      refine jg_A (pc' := 44) rfl rfl (fun _ _ _ => rfl) ?_
      refine jg_getO (pc' := 47) (k := 43) rfl h0 (by decide) rfl rfl ?_
      refine jg_A (pc' := 48) rfl rfl (fun _ _ _ => rfl) ?_
      refine jg_A (pc' := 49) rfl rfl (fun _ _ _ => rfl) ?_
      refine jg_imul (pc' := 50) rfl rfl ?_
      obtain ⟨hg, h⟩ := h
      refine jg_iald (pc' := 51) rfl (jg_sX12_67 h0) hg rfl ?_
      refine jg_ifge (pc' := 54) rfl rfl (fun hc => ?_) (fun hc => ?_)
      · have h := jg_t h (show 0 ≤ jg_wr (σ.1 (a0 + 43) (jg_wr (3 * x1))) from hc)
        refine jg_iinc (pc' := 73) (ls' := [.ref a0, .int (.ofInt (x1 + (-1)))]) rfl rfl rfl rfl ?_
        refine jg_goto rfl ?_
        exact h
      · have h := jg_f h (show ¬ (0 ≤ jg_wr (σ.1 (a0 + 43) (jg_wr (3 * x1)))) from hc)
        refine jg_A (pc' := 55) rfl rfl (fun _ _ _ => rfl) ?_
        refine jg_getO (pc' := 58) (k := 44) rfl h0 (by decide) rfl rfl ?_
        refine jg_A (pc' := 59) rfl rfl (fun _ _ _ => rfl) ?_
        refine jg_getO (pc' := 62) (k := 43) rfl h0 (by decide) rfl rfl ?_
        refine jg_A (pc' := 63) rfl rfl (fun _ _ _ => rfl) ?_
        refine jg_A (pc' := 64) rfl rfl (fun _ _ _ => rfl) ?_
        refine jg_imul (pc' := 65) rfl rfl ?_
        refine jg_A (pc' := 66) rfl rfl (fun _ _ _ => rfl) ?_
        refine jg_iadd (pc' := 67) rfl rfl ?_
        obtain ⟨hg, h⟩ := h
        refine jg_iald (pc' := 68) rfl (jg_sX12_67 h0) hg rfl ?_
        refine jg_A (pc' := 69) rfl rfl (fun _ _ _ => rfl) ?_
        obtain ⟨hg, h⟩ := h
        refine jg_zast (pc' := 70) rfl (jg_sX12_68 h0) hg rfl (fun m101 hm101 => ?_)
        have h := h m101 hm101
        refine jg_iinc (pc' := 73) (ls' := [.ref a0, .int (.ofInt (x1 + (-1)))]) rfl rfl rfl rfl ?_
        refine jg_goto rfl ?_
        exact h
set_option maxRecDepth 100000 in
set_option maxHeartbeats 4000000 in
theorem jb_X12_isMissing_0 {w : Nat} {a0 : Nat} {x1 : Int} {σ : jg_M} {Q : Int → jg_M → Prop} (h0 : jg_sh a0 = (12, 0)) (h : jg_CI w 5 mm_X12_layTables [.ref a0, .int (.ofInt 1), .int (.ofInt 0), .int (.ofInt x1)] σ (fun (z102 : Int) (m101 : jg_M) => jg_GI w 6 mm_X12_isMissing 10 [.ref a0, .int (.ofInt x1), .int (.ofInt z102), .int (.ofInt 0), mj_U] m101 Q)) : jg_CI w 6 mm_X12_isMissing [.ref a0, .int (.ofInt x1)] σ Q := by
  show jg_G w 6 mm_X12_isMissing 0 [.ref a0, .int (.ofInt x1), mj_U, mj_U, mj_U] [] σ (jg_QI Q)
  refine jg_A (pc' := 1) rfl rfl (fun _ _ _ => rfl) ?_
  refine jg_A (pc' := 2) rfl rfl (fun _ _ _ => rfl) ?_
  refine jg_A (pc' := 3) rfl rfl (fun _ _ _ => rfl) ?_
  refine jg_A (pc' := 4) rfl rfl (fun _ _ _ => rfl) ?_
  refine jg_calX (M1 := mm_X12_layTables) (hy := 5) (pc' := 7) rfl jm_X12_layTables (by decide) rfl h0 (by decide) ⟨Nat.le_of_ble_eq_true rfl, rfl⟩ (Nat.le_of_ble_eq_true rfl) rfl h (jg_kI (fun z102 m101 h => ?_))
  refine jg_A (pc' := 8) (ls' := [.ref a0, .int (.ofInt x1), .int (.ofInt z102), mj_U, mj_U]) rfl rfl (fun _ _ _ => rfl) ?_
  refine jg_A (pc' := 9) rfl rfl (fun _ _ _ => rfl) ?_
  refine jg_A (pc' := 10) (ls' := [.ref a0, .int (.ofInt x1), .int (.ofInt z102), .int (.ofInt 0), mj_U]) rfl rfl (fun _ _ _ => rfl) ?_
  exact h
set_option maxRecDepth 100000 in
set_option maxHeartbeats 4000000 in
theorem jb_X12_isMissing_10 {w : Nat} {a0 : Nat} {u1 : Value} {x2 : Int} {x3 : Int} {u4 : Value} {σ : jg_M} {Q : Int → jg_M → Prop} (h0 : jg_sh a0 = (12, 0)) (h : jg_CI w 0 mm_X12_knownBy [.ref a0] σ (fun (z102 : Int) (m101 : jg_M) => (if jg_wr z102 ≤ jg_wr x3 then ((jg_wr x2 = 0 ∨ jg_wr x2 = 1) ∧ Q x2 m101) else (if jg_wr x2 = 0 then ((jg_wr x2 = 0 ∨ jg_wr x2 = 1) ∧ Q x2 m101) else ∀ t103 : Int, t103 = (3 * x3) → ((0 : Int) ≤ jg_wr x3 ∧ jg_wr x3 < (24 : Int)) ∧ (if jg_wr (m101.1 (a0 + 44) (jg_wr x3)) = 0 then jg_GI w 6 mm_X12_isMissing 10 [.ref a0, u1, .int (.ofInt x2), .int (.ofInt (x3 + 1)), .int (.ofInt t103)] m101 Q else ((0 : Int) ≤ jg_wr t103 ∧ jg_wr t103 < (72 : Int)) ∧ (if 0 ≤ jg_wr (m101.1 (a0 + 43) (jg_wr t103)) then ((0 : Int) ≤ jg_wr (t103 + 1) ∧ jg_wr (t103 + 1) < (72 : Int)) ∧ ((0 : Int) ≤ jg_wr t103 ∧ jg_wr t103 < (72 : Int)) ∧ jg_CV w 0 mm_X12_gives [.ref a0, .int (.ofInt (m101.1 (a0 + 43) (jg_wr (t103 + 1)))), .int (.ofInt (m101.1 (a0 + 43) (jg_wr t103))), .int (.ofInt 10)] m101 (fun (m104 : jg_M) => ((0 : Int) ≤ jg_wr t103 ∧ jg_wr t103 < (72 : Int)) ∧ jg_CI w 1 mm_X12_isSentence [.ref a0, .int (.ofInt 1), .int (.ofInt (m104.1 (a0 + 43) (jg_wr t103)))] m104 (fun (z106 : Int) (m105 : jg_M) => ((0 : Int) ≤ jg_wr (t103 + 2) ∧ jg_wr (t103 + 2) < (72 : Int)) ∧ (if jg_wr (m105.1 (a0 + 43) (jg_wr (t103 + 2))) = 1 then (if jg_wr z106 = 1 then jg_GI w 6 mm_X12_isMissing 10 [.ref a0, u1, .int (.ofInt 1), .int (.ofInt (x3 + 1)), .int (.ofInt t103)] m105 Q else jg_GI w 6 mm_X12_isMissing 10 [.ref a0, u1, .int (.ofInt 0), .int (.ofInt (x3 + 1)), .int (.ofInt t103)] m105 Q) else (if jg_wr z106 = 0 then jg_GI w 6 mm_X12_isMissing 10 [.ref a0, u1, .int (.ofInt 1), .int (.ofInt (x3 + 1)), .int (.ofInt t103)] m105 Q else jg_GI w 6 mm_X12_isMissing 10 [.ref a0, u1, .int (.ofInt 0), .int (.ofInt (x3 + 1)), .int (.ofInt t103)] m105 Q)))) else jg_GI w 6 mm_X12_isMissing 10 [.ref a0, u1, .int (.ofInt x2), .int (.ofInt (x3 + 1)), .int (.ofInt t103)] m101 Q)))))) : jg_GI w 6 mm_X12_isMissing 10 [.ref a0, u1, .int (.ofInt x2), .int (.ofInt x3), u4] σ Q := by
  show jg_G w 6 mm_X12_isMissing 10 [.ref a0, u1, .int (.ofInt x2), .int (.ofInt x3), u4] [] σ (jg_QI Q)
  refine jg_A (pc' := 11) rfl rfl (fun _ _ _ => rfl) ?_
  refine jg_A (pc' := 12) rfl rfl (fun _ _ _ => rfl) ?_
  refine jg_calX (M1 := mm_X12_knownBy) (hy := 0) (pc' := 15) rfl jm_X12_knownBy (by decide) rfl h0 (by decide) ⟨Nat.le_of_ble_eq_true rfl, rfl⟩ (Nat.le_of_ble_eq_true rfl) rfl h (jg_kI (fun z102 m101 h => ?_))
  refine jg_cge (pc' := 18) rfl rfl (fun hc => ?_) (fun hc => ?_)
  · have h := jg_t h (show jg_wr z102 ≤ jg_wr x3 from hc)
    refine jg_A (pc' := 117) rfl rfl (fun _ _ _ => rfl) ?_
    exact jg_zret rfl rfl h.1 h.2
  · have h := jg_f h (show ¬ (jg_wr z102 ≤ jg_wr x3) from hc)
    refine jg_A (pc' := 19) rfl rfl (fun _ _ _ => rfl) ?_
    refine jg_ifeq (pc' := 22) rfl rfl (fun hc => ?_) (fun hc => ?_)
    · have h := jg_t h (show jg_wr x2 = 0 from hc)
      refine jg_A (pc' := 117) rfl rfl (fun _ _ _ => rfl) ?_
      exact jg_zret rfl rfl h.1 h.2
    · have h := jg_f h (show ¬ (jg_wr x2 = 0) from hc)
      refine jg_A (pc' := 23) rfl rfl (fun _ _ _ => rfl) ?_
      refine jg_A (pc' := 24) rfl rfl (fun _ _ _ => rfl) ?_
      refine jg_imul (pc' := 25) rfl rfl ?_
      refine jg_nm (F := fun t103 => jg_G w 6 mm_X12_isMissing 25 [.ref a0, u1, .int (.ofInt x2), .int (.ofInt x3), u4] [.int (.ofInt t103)] m101 (jg_QI Q)) (3 * x3) (fun t103 ht103 => ?_)
      have h := h t103 ht103
      refine jg_A (pc' := 27) (ls' := [.ref a0, u1, .int (.ofInt x2), .int (.ofInt x3), .int (.ofInt t103)]) rfl rfl (fun _ _ _ => rfl) ?_
      refine jg_A (pc' := 28) rfl rfl (fun _ _ _ => rfl) ?_
      refine jg_getO (pc' := 31) (k := 44) rfl h0 (by decide) rfl rfl ?_
      refine jg_A (pc' := 32) rfl rfl (fun _ _ _ => rfl) ?_
      obtain ⟨hg, h⟩ := h
      refine jg_zald (pc' := 33) rfl (jg_sX12_68 h0) hg rfl ?_
      refine jg_ifeq (pc' := 36) rfl rfl (fun hc => ?_) (fun hc => ?_)
      · have h := jg_t h (show jg_wr (m101.1 (a0 + 44) (jg_wr x3)) = 0 from hc)
        refine jg_iinc (pc' := 113) (ls' := [.ref a0, u1, .int (.ofInt x2), .int (.ofInt (x3 + 1)), .int (.ofInt t103)]) rfl rfl rfl rfl ?_
        refine jg_goto rfl ?_
        exact h
      · have h := jg_f h (show ¬ (jg_wr (m101.1 (a0 + 44) (jg_wr x3)) = 0) from hc)
        refine jg_A (pc' := 37) rfl rfl (fun _ _ _ => rfl) ?_
        refine jg_getO (pc' := 40) (k := 43) rfl h0 (by decide) rfl rfl ?_
        refine jg_A (pc' := 42) rfl rfl (fun _ _ _ => rfl) ?_
        obtain ⟨hg, h⟩ := h
        refine jg_iald (pc' := 43) rfl (jg_sX12_67 h0) hg rfl ?_
        refine jg_ifge (pc' := 46) rfl rfl (fun hc => ?_) (fun hc => ?_)
        · have h := jg_t h (show 0 ≤ jg_wr (m101.1 (a0 + 43) (jg_wr t103)) from hc)
          refine jg_A (pc' := 50) rfl rfl (fun _ _ _ => rfl) ?_
          refine jg_A (pc' := 51) rfl rfl (fun _ _ _ => rfl) ?_
          refine jg_getO (pc' := 54) (k := 43) rfl h0 (by decide) rfl rfl ?_
          refine jg_A (pc' := 56) rfl rfl (fun _ _ _ => rfl) ?_
          refine jg_A (pc' := 57) rfl rfl (fun _ _ _ => rfl) ?_
          refine jg_iadd (pc' := 58) rfl rfl ?_
          obtain ⟨hg, h⟩ := h
          refine jg_iald (pc' := 59) rfl (jg_sX12_67 h0) hg rfl ?_
          refine jg_A (pc' := 60) rfl rfl (fun _ _ _ => rfl) ?_
          refine jg_getO (pc' := 63) (k := 43) rfl h0 (by decide) rfl rfl ?_
          refine jg_A (pc' := 65) rfl rfl (fun _ _ _ => rfl) ?_
          obtain ⟨hg, h⟩ := h
          refine jg_iald (pc' := 66) rfl (jg_sX12_67 h0) hg rfl ?_
          refine jg_A (pc' := 68) rfl rfl (fun _ _ _ => rfl) ?_
          refine jg_calX (M1 := mm_X12_gives) (hy := 0) (pc' := 71) rfl jm_X12_gives (by decide) rfl h0 (by decide) ⟨Nat.le_of_ble_eq_true rfl, rfl⟩ (Nat.le_of_ble_eq_true rfl) rfl h (jg_kV (fun m104 h => ?_))
          refine jg_A (pc' := 72) rfl rfl (fun _ _ _ => rfl) ?_
          refine jg_A (pc' := 73) rfl rfl (fun _ _ _ => rfl) ?_
          refine jg_A (pc' := 74) rfl rfl (fun _ _ _ => rfl) ?_
          refine jg_getO (pc' := 77) (k := 43) rfl h0 (by decide) rfl rfl ?_
          refine jg_A (pc' := 79) rfl rfl (fun _ _ _ => rfl) ?_
          obtain ⟨hg, h⟩ := h
          refine jg_iald (pc' := 80) rfl (jg_sX12_67 h0) hg rfl ?_
          refine jg_calX (M1 := mm_X12_isSentence) (hy := 1) (pc' := 83) rfl jm_X12_isSentence (by decide) rfl h0 (by decide) ⟨Nat.le_of_ble_eq_true rfl, rfl⟩ (Nat.le_of_ble_eq_true rfl) rfl h (jg_kI (fun z106 m105 h => ?_))
          refine jg_A (pc' := 84) rfl rfl (fun _ _ _ => rfl) ?_
          refine jg_getO (pc' := 87) (k := 43) rfl h0 (by decide) rfl rfl ?_
          refine jg_A (pc' := 89) rfl rfl (fun _ _ _ => rfl) ?_
          refine jg_A (pc' := 90) rfl rfl (fun _ _ _ => rfl) ?_
          refine jg_iadd (pc' := 91) rfl rfl ?_
          obtain ⟨hg, h⟩ := h
          refine jg_iald (pc' := 92) rfl (jg_sX12_67 h0) hg rfl ?_
          refine jg_A (pc' := 93) rfl rfl (fun _ _ _ => rfl) ?_
          refine jg_cne (pc' := 96) rfl rfl (fun hc => ?_) (fun hc => ?_)
          · have h := jg_t h (show jg_wr (m105.1 (a0 + 43) (jg_wr (t103 + 2))) = 1 from hc)
            refine jg_A (pc' := 97) rfl rfl (fun _ _ _ => rfl) ?_
            refine jg_goto rfl ?_
            refine jg_cne (pc' := 104) rfl rfl (fun hc => ?_) (fun hc => ?_)
            · have h := jg_t h (show jg_wr z106 = 1 from hc)
              refine jg_A (pc' := 105) rfl rfl (fun _ _ _ => rfl) ?_
              refine jg_goto rfl ?_
              refine jg_A (pc' := 110) (ls' := [.ref a0, u1, .int (.ofInt 1), .int (.ofInt x3), .int (.ofInt t103)]) rfl rfl (fun _ _ _ => rfl) ?_
              refine jg_iinc (pc' := 113) (ls' := [.ref a0, u1, .int (.ofInt 1), .int (.ofInt (x3 + 1)), .int (.ofInt t103)]) rfl rfl rfl rfl ?_
              refine jg_goto rfl ?_
              exact h
            · have h := jg_f h (show ¬ (jg_wr z106 = 1) from hc)
              refine jg_A (pc' := 109) rfl rfl (fun _ _ _ => rfl) ?_
              refine jg_A (pc' := 110) (ls' := [.ref a0, u1, .int (.ofInt 0), .int (.ofInt x3), .int (.ofInt t103)]) rfl rfl (fun _ _ _ => rfl) ?_
              refine jg_iinc (pc' := 113) (ls' := [.ref a0, u1, .int (.ofInt 0), .int (.ofInt (x3 + 1)), .int (.ofInt t103)]) rfl rfl rfl rfl ?_
              refine jg_goto rfl ?_
              exact h
          · have h := jg_f h (show ¬ (jg_wr (m105.1 (a0 + 43) (jg_wr (t103 + 2))) = 1) from hc)
            refine jg_A (pc' := 101) rfl rfl (fun _ _ _ => rfl) ?_
            refine jg_cne (pc' := 104) rfl rfl (fun hc => ?_) (fun hc => ?_)
            · have h := jg_t h (show jg_wr z106 = 0 from hc)
              refine jg_A (pc' := 105) rfl rfl (fun _ _ _ => rfl) ?_
              refine jg_goto rfl ?_
              refine jg_A (pc' := 110) (ls' := [.ref a0, u1, .int (.ofInt 1), .int (.ofInt x3), .int (.ofInt t103)]) rfl rfl (fun _ _ _ => rfl) ?_
              refine jg_iinc (pc' := 113) (ls' := [.ref a0, u1, .int (.ofInt 1), .int (.ofInt (x3 + 1)), .int (.ofInt t103)]) rfl rfl rfl rfl ?_
              refine jg_goto rfl ?_
              exact h
            · have h := jg_f h (show ¬ (jg_wr z106 = 0) from hc)
              refine jg_A (pc' := 109) rfl rfl (fun _ _ _ => rfl) ?_
              refine jg_A (pc' := 110) (ls' := [.ref a0, u1, .int (.ofInt 0), .int (.ofInt x3), .int (.ofInt t103)]) rfl rfl (fun _ _ _ => rfl) ?_
              refine jg_iinc (pc' := 113) (ls' := [.ref a0, u1, .int (.ofInt 0), .int (.ofInt (x3 + 1)), .int (.ofInt t103)]) rfl rfl rfl rfl ?_
              refine jg_goto rfl ?_
              exact h
        · have h := jg_f h (show ¬ (0 ≤ jg_wr (m101.1 (a0 + 43) (jg_wr t103))) from hc)
          refine jg_goto rfl ?_
          refine jg_iinc (pc' := 113) (ls' := [.ref a0, u1, .int (.ofInt x2), .int (.ofInt (x3 + 1)), .int (.ofInt t103)]) rfl rfl rfl rfl ?_
          refine jg_goto rfl ?_
          exact h
set_option maxRecDepth 100000 in
set_option maxHeartbeats 4000000 in
theorem jb_X12_missing_0 {w : Nat} {a0 : Nat} {σ : jg_M} {Q : Int → jg_M → Prop} (h0 : jg_sh a0 = (12, 0)) (h : ∀ m101 : jg_M, m101 = jg_sI σ a0 2 0 → jg_CV w 1 mm_X12_layCounts [.ref a0] m101 (fun (m102 : jg_M) => jg_GI w 7 mm_X12_missing 13 [.ref a0, .int (.ofInt 0), .int (.ofInt 0)] m102 Q)) : jg_CI w 7 mm_X12_missing [.ref a0] σ Q := by
  show jg_G w 7 mm_X12_missing 0 [.ref a0, mj_U, mj_U] [] σ (jg_QI Q)
  refine jg_A (pc' := 1) rfl rfl (fun _ _ _ => rfl) ?_
  refine jg_A (pc' := 2) rfl rfl (fun _ _ _ => rfl) ?_
  refine jg_putI (pc' := 5) (bi := 2) rfl h0 (by decide) rfl rfl rfl rfl (fun m101 hm101 => ?_)
  have h := h m101 hm101
  refine jg_A (pc' := 6) rfl rfl (fun _ _ _ => rfl) ?_
  refine jg_calX (M1 := mm_X12_layCounts) (hy := 1) (pc' := 9) rfl jm_X12_layCounts (by decide) rfl h0 (by decide) ⟨Nat.le_of_ble_eq_true rfl, rfl⟩ (Nat.le_of_ble_eq_true rfl) rfl h (jg_kV (fun m102 h => ?_))
  refine jg_A (pc' := 10) rfl rfl (fun _ _ _ => rfl) ?_
  refine jg_A (pc' := 11) (ls' := [.ref a0, .int (.ofInt 0), mj_U]) rfl rfl (fun _ _ _ => rfl) ?_
  refine jg_A (pc' := 12) rfl rfl (fun _ _ _ => rfl) ?_
  refine jg_A (pc' := 13) (ls' := [.ref a0, .int (.ofInt 0), .int (.ofInt 0)]) rfl rfl (fun _ _ _ => rfl) ?_
  exact h
set_option maxRecDepth 100000 in
set_option maxHeartbeats 4000000 in
theorem jb_X12_missing_13 {w : Nat} {a0 : Nat} {x1 : Int} {x2 : Int} {σ : jg_M} {Q : Int → jg_M → Prop} (h0 : jg_sh a0 = (12, 0)) (h : (if jg_wr (σ.1 (a0 + 5) (0)) ≤ jg_wr x2 then jg_CV w 0 mm_X12_byText [.ref a0] σ (fun (m101 : jg_M) => Q x1 m101) else jg_CI w 6 mm_X12_isMissing [.ref a0, .int (.ofInt x2)] σ (fun (z103 : Int) (m102 : jg_M) => (if jg_wr z103 = 0 then ∀ t104 : Int, t104 = (jg_or x1 0) → jg_GI w 7 mm_X12_missing 13 [.ref a0, .int (.ofInt t104), .int (.ofInt (x2 + 1))] m102 Q else ∀ t105 : Int, t105 = (jg_or x1 (jg_shl 1 x2)) → jg_GI w 7 mm_X12_missing 13 [.ref a0, .int (.ofInt t105), .int (.ofInt (x2 + 1))] m102 Q)))) : jg_GI w 7 mm_X12_missing 13 [.ref a0, .int (.ofInt x1), .int (.ofInt x2)] σ Q := by
  show jg_G w 7 mm_X12_missing 13 [.ref a0, .int (.ofInt x1), .int (.ofInt x2)] [] σ (jg_QI Q)
  refine jg_A (pc' := 14) rfl rfl (fun _ _ _ => rfl) ?_
  refine jg_A (pc' := 15) rfl rfl (fun _ _ _ => rfl) ?_
  refine jg_getO (pc' := 18) (k := 5) rfl h0 (by decide) rfl rfl ?_
  refine jg_A (pc' := 19) rfl rfl (fun _ _ _ => rfl) ?_
  refine jg_ialdK (pc' := 20) (xi := 0) rfl (jg_sX12_14 h0) (by decide) (by decide) rfl ?_
  refine jg_cge (pc' := 23) rfl rfl (fun hc => ?_) (fun hc => ?_)
  · have h := jg_t h (show jg_wr (σ.1 (a0 + 5) (0)) ≤ jg_wr x2 from hc)
    refine jg_A (pc' := 48) rfl rfl (fun _ _ _ => rfl) ?_
    refine jg_calX (M1 := mm_X12_byText) (hy := 0) (pc' := 51) rfl jm_X12_byText (by decide) rfl h0 (by decide) ⟨Nat.le_of_ble_eq_true rfl, rfl⟩ (Nat.le_of_ble_eq_true rfl) rfl h (jg_kV (fun m101 h => ?_))
    refine jg_A (pc' := 52) rfl rfl (fun _ _ _ => rfl) ?_
    exact jg_iret rfl rfl h
  · have h := jg_f h (show ¬ (jg_wr (σ.1 (a0 + 5) (0)) ≤ jg_wr x2) from hc)
    refine jg_A (pc' := 24) rfl rfl (fun _ _ _ => rfl) ?_
    refine jg_A (pc' := 25) rfl rfl (fun _ _ _ => rfl) ?_
    refine jg_A (pc' := 26) rfl rfl (fun _ _ _ => rfl) ?_
    refine jg_calX (M1 := mm_X12_isMissing) (hy := 6) (pc' := 29) rfl jm_X12_isMissing (by decide) rfl h0 (by decide) ⟨Nat.le_of_ble_eq_true rfl, rfl⟩ (Nat.le_of_ble_eq_true rfl) rfl h (jg_kI (fun z103 m102 h => ?_))
    refine jg_ifeq (pc' := 32) rfl rfl (fun hc => ?_) (fun hc => ?_)
    · have h := jg_t h (show jg_wr z103 = 0 from hc)
      refine jg_A (pc' := 39) rfl rfl (fun _ _ _ => rfl) ?_
      refine jg_ior (pc' := 40) rfl rfl ?_
      refine jg_nm (F := fun t104 => jg_G w 7 mm_X12_missing 40 [.ref a0, .int (.ofInt x1), .int (.ofInt x2)] [.int (.ofInt t104)] m102 (jg_QI Q)) (jg_or x1 0) (fun t104 ht104 => ?_)
      have h := h t104 ht104
      refine jg_A (pc' := 41) (ls' := [.ref a0, .int (.ofInt t104), .int (.ofInt x2)]) rfl rfl (fun _ _ _ => rfl) ?_
      refine jg_iinc (pc' := 44) (ls' := [.ref a0, .int (.ofInt t104), .int (.ofInt (x2 + 1))]) rfl rfl rfl rfl ?_
      refine jg_goto rfl ?_
      exact h
    · have h := jg_f h (show ¬ (jg_wr z103 = 0) from hc)
      refine jg_A (pc' := 33) rfl rfl (fun _ _ _ => rfl) ?_
      refine jg_A (pc' := 34) rfl rfl (fun _ _ _ => rfl) ?_
      refine jg_ishl (pc' := 35) rfl rfl ?_
      refine jg_goto rfl ?_
      refine jg_ior (pc' := 40) rfl rfl ?_
      refine jg_nm (F := fun t105 => jg_G w 7 mm_X12_missing 40 [.ref a0, .int (.ofInt x1), .int (.ofInt x2)] [.int (.ofInt t105)] m102 (jg_QI Q)) (jg_or x1 (jg_shl 1 x2)) (fun t105 ht105 => ?_)
      have h := h t105 ht105
      refine jg_A (pc' := 41) (ls' := [.ref a0, .int (.ofInt t105), .int (.ofInt x2)]) rfl rfl (fun _ _ _ => rfl) ?_
      refine jg_iinc (pc' := 44) (ls' := [.ref a0, .int (.ofInt t105), .int (.ofInt (x2 + 1))]) rfl rfl rfl rfl ?_
      refine jg_goto rfl ?_
      exact h
set_option maxRecDepth 100000 in
set_option maxHeartbeats 4000000 in
theorem jb_X12_ask_0 {w : Nat} {a0 : Nat} {x1 : Int} {x2 : Int} {σ : jg_M} {Q : Int → jg_M → Prop} (h0 : jg_sh a0 = (12, 0)) (h : ∀ m101 : jg_M, m101 = jg_sI σ a0 2 0 → jg_CI w 0 mm_X12_isIn [.int (.ofInt x1), .int (.ofInt 1), .int (.ofInt 3)] m101 (fun (z103 : Int) (m102 : jg_M) => (if jg_wr z103 = 0 then Q (-1) m102 else jg_CI w 0 mm_X12_isIn [.int (.ofInt x2), .int (.ofInt 0), .int (.ofInt 1)] m102 (fun (z105 : Int) (m104 : jg_M) => (if jg_wr z105 = 0 then Q (-1) m104 else (if jg_wr (m104.1 (a0 + 3) (0)) = 0 then Q (-2) m104 else jg_CV w 1 mm_X12_layCounts [.ref a0] m104 (fun (m106 : jg_M) => jg_CI w 0 mm_X12_power [.int (.ofInt (m106.1 (a0 + 3) (0))), .int (.ofInt x1)] m106 (fun (z108 : Int) (m107 : jg_M) => jg_GI w 7 mm_X12_ask 55 [.ref a0, .int (.ofInt x1), .int (.ofInt x2), .int (.ofInt z108), .int (.ofInt 0), mj_U, mj_U, mj_U] m107 Q)))))))) : jg_CI w 7 mm_X12_ask [.ref a0, .int (.ofInt x1), .int (.ofInt x2)] σ Q := by
  show jg_G w 7 mm_X12_ask 0 [.ref a0, .int (.ofInt x1), .int (.ofInt x2), mj_U, mj_U, mj_U, mj_U, mj_U] [] σ (jg_QI Q)
  refine jg_A (pc' := 1) rfl rfl (fun _ _ _ => rfl) ?_
  refine jg_A (pc' := 2) rfl rfl (fun _ _ _ => rfl) ?_
  refine jg_putI (pc' := 5) (bi := 2) rfl h0 (by decide) rfl rfl rfl rfl (fun m101 hm101 => ?_)
  have h := h m101 hm101
  refine jg_A (pc' := 6) rfl rfl (fun _ _ _ => rfl) ?_
  refine jg_A (pc' := 7) rfl rfl (fun _ _ _ => rfl) ?_
  refine jg_A (pc' := 8) rfl rfl (fun _ _ _ => rfl) ?_
  refine jg_calS (M1 := mm_X12_isIn) (hy := 0) (pc' := 11) rfl (Or.inl rfl) jm_X12_isIn (by decide) rfl ⟨Nat.le_of_ble_eq_true rfl, rfl⟩ (Nat.le_of_ble_eq_true rfl) rfl h (jg_kI (fun z103 m102 h => ?_))
  refine jg_ifeq (pc' := 14) rfl rfl (fun hc => ?_) (fun hc => ?_)
  · have h := jg_t h (show jg_wr z103 = 0 from hc)
    refine jg_A (pc' := 24) rfl rfl (fun _ _ _ => rfl) ?_
    exact jg_iret rfl rfl h
  · have h := jg_f h (show ¬ (jg_wr z103 = 0) from hc)
    refine jg_A (pc' := 15) rfl rfl (fun _ _ _ => rfl) ?_
    refine jg_A (pc' := 16) rfl rfl (fun _ _ _ => rfl) ?_
    refine jg_A (pc' := 17) rfl rfl (fun _ _ _ => rfl) ?_
    refine jg_calS (M1 := mm_X12_isIn) (hy := 0) (pc' := 20) rfl (Or.inl rfl) jm_X12_isIn (by decide) rfl ⟨Nat.le_of_ble_eq_true rfl, rfl⟩ (Nat.le_of_ble_eq_true rfl) rfl h (jg_kI (fun z105 m104 h => ?_))
    refine jg_ifne (pc' := 23) rfl rfl (fun hc => ?_) (fun hc => ?_)
    · have h := jg_t h (show jg_wr z105 = 0 from hc)
      refine jg_A (pc' := 24) rfl rfl (fun _ _ _ => rfl) ?_
      exact jg_iret rfl rfl h
    · have h := jg_f h (show ¬ (jg_wr z105 = 0) from hc)
      refine jg_A (pc' := 26) rfl rfl (fun _ _ _ => rfl) ?_
      refine jg_getO (pc' := 29) (k := 3) rfl h0 (by decide) rfl rfl ?_
      refine jg_A (pc' := 30) rfl rfl (fun _ _ _ => rfl) ?_
      refine jg_ialdK (pc' := 31) (xi := 0) rfl (jg_sX12_12 h0) (by decide) (by decide) rfl ?_
      refine jg_ifne (pc' := 34) rfl rfl (fun hc => ?_) (fun hc => ?_)
      · have h := jg_t h (show jg_wr (m104.1 (a0 + 3) (0)) = 0 from hc)
        refine jg_A (pc' := 36) rfl rfl (fun _ _ _ => rfl) ?_
        exact jg_iret rfl rfl h
      · have h := jg_f h (show ¬ (jg_wr (m104.1 (a0 + 3) (0)) = 0) from hc)
        refine jg_A (pc' := 38) rfl rfl (fun _ _ _ => rfl) ?_
        refine jg_calX (M1 := mm_X12_layCounts) (hy := 1) (pc' := 41) rfl jm_X12_layCounts (by decide) rfl h0 (by decide) ⟨Nat.le_of_ble_eq_true rfl, rfl⟩ (Nat.le_of_ble_eq_true rfl) rfl h (jg_kV (fun m106 h => ?_))
        refine jg_A (pc' := 42) rfl rfl (fun _ _ _ => rfl) ?_
        refine jg_getO (pc' := 45) (k := 3) rfl h0 (by decide) rfl rfl ?_
        refine jg_A (pc' := 46) rfl rfl (fun _ _ _ => rfl) ?_
        refine jg_ialdK (pc' := 47) (xi := 0) rfl (jg_sX12_12 h0) (by decide) (by decide) rfl ?_
        refine jg_A (pc' := 48) rfl rfl (fun _ _ _ => rfl) ?_
        refine jg_calS (M1 := mm_X12_power) (hy := 0) (pc' := 51) rfl (Or.inl rfl) jm_X12_power (by decide) rfl ⟨Nat.le_of_ble_eq_true rfl, rfl⟩ (Nat.le_of_ble_eq_true rfl) rfl h (jg_kI (fun z108 m107 h => ?_))
        refine jg_A (pc' := 52) (ls' := [.ref a0, .int (.ofInt x1), .int (.ofInt x2), .int (.ofInt z108), mj_U, mj_U, mj_U, mj_U]) rfl rfl (fun _ _ _ => rfl) ?_
        refine jg_A (pc' := 53) rfl rfl (fun _ _ _ => rfl) ?_
        refine jg_A (pc' := 55) (ls' := [.ref a0, .int (.ofInt x1), .int (.ofInt x2), .int (.ofInt z108), .int (.ofInt 0), mj_U, mj_U, mj_U]) rfl rfl (fun _ _ _ => rfl) ?_
        exact h
set_option maxRecDepth 100000 in
set_option maxHeartbeats 4000000 in
theorem jb_X12_ask_55 {w : Nat} {a0 : Nat} {x1 : Int} {x2 : Int} {x3 : Int} {x4 : Int} {u5 : Value} {u6 : Value} {u7 : Value} {σ : jg_M} {Q : Int → jg_M → Prop} (h0 : jg_sh a0 = (12, 0)) (h : (if jg_wr x3 ≤ jg_wr x4 then jg_GI w 7 mm_X12_ask 81 [.ref a0, .int (.ofInt x1), .int (.ofInt x2), .int (.ofInt x3), .int (.ofInt 0), .int (.ofInt 0), u6, u7] σ Q else ((0 : Int) ≤ (jg_wr x4) ∧ (jg_wr x4) < (343 : Int)) ∧ ∀ m101 : jg_M, m101 = jg_sI σ (a0 + 45) (jg_wr x4) 0 → jg_GI w 7 mm_X12_ask 55 [.ref a0, .int (.ofInt x1), .int (.ofInt x2), .int (.ofInt x3), .int (.ofInt (x4 + 1)), u5, u6, u7] m101 Q)) : jg_GI w 7 mm_X12_ask 55 [.ref a0, .int (.ofInt x1), .int (.ofInt x2), .int (.ofInt x3), .int (.ofInt x4), u5, u6, u7] σ Q := by
  show jg_G w 7 mm_X12_ask 55 [.ref a0, .int (.ofInt x1), .int (.ofInt x2), .int (.ofInt x3), .int (.ofInt x4), u5, u6, u7] [] σ (jg_QI Q)
  refine jg_A (pc' := 57) rfl rfl (fun _ _ _ => rfl) ?_
  refine jg_A (pc' := 58) rfl rfl (fun _ _ _ => rfl) ?_
  refine jg_cge (pc' := 61) rfl rfl (fun hc => ?_) (fun hc => ?_)
  · have h := jg_t h (show jg_wr x3 ≤ jg_wr x4 from hc)
    refine jg_A (pc' := 76) rfl rfl (fun _ _ _ => rfl) ?_
    refine jg_A (pc' := 78) (ls' := [.ref a0, .int (.ofInt x1), .int (.ofInt x2), .int (.ofInt x3), .int (.ofInt 0), u5, u6, u7]) rfl rfl (fun _ _ _ => rfl) ?_
    refine jg_A (pc' := 79) rfl rfl (fun _ _ _ => rfl) ?_
    refine jg_A (pc' := 81) (ls' := [.ref a0, .int (.ofInt x1), .int (.ofInt x2), .int (.ofInt x3), .int (.ofInt 0), .int (.ofInt 0), u6, u7]) rfl rfl (fun _ _ _ => rfl) ?_
    exact h
  · have h := jg_f h (show ¬ (jg_wr x3 ≤ jg_wr x4) from hc)
    refine jg_A (pc' := 62) rfl rfl (fun _ _ _ => rfl) ?_
    refine jg_getO (pc' := 65) (k := 45) rfl h0 (by decide) rfl rfl ?_
    refine jg_A (pc' := 67) rfl rfl (fun _ _ _ => rfl) ?_
    refine jg_A (pc' := 68) rfl rfl (fun _ _ _ => rfl) ?_
    obtain ⟨hg, h⟩ := h
    refine jg_iast (pc' := 69) rfl (jg_sX12_69 h0) hg rfl (fun m101 hm101 => ?_)
    have h := h m101 hm101
    refine jg_iinc (pc' := 72) (ls' := [.ref a0, .int (.ofInt x1), .int (.ofInt x2), .int (.ofInt x3), .int (.ofInt (x4 + 1)), u5, u6, u7]) rfl rfl rfl rfl ?_
    refine jg_goto rfl ?_
    exact h
set_option maxRecDepth 100000 in
set_option maxHeartbeats 4000000 in
theorem jb_X12_ask_81 {w : Nat} {a0 : Nat} {x1 : Int} {x2 : Int} {x3 : Int} {x4 : Int} {x5 : Int} {u6 : Value} {u7 : Value} {σ : jg_M} {Q : Int → jg_M → Prop} (h0 : jg_sh a0 = (12, 0)) (h : (if jg_wr (σ.1 (a0 + 5) (0)) ≤ jg_wr x5 then jg_CV w 0 mm_X12_byText [.ref a0] σ (fun (m101 : jg_M) => jg_GI w 7 mm_X12_ask 175 [.ref a0, .int (.ofInt x1), .int (.ofInt x2), .int (.ofInt x3), .int (.ofInt x4), .int (.ofInt 0), .int (.ofInt 1), u7] m101 Q) else jg_CI w 6 mm_X12_isMissing [.ref a0, .int (.ofInt x5)] σ (fun (z103 : Int) (m102 : jg_M) => (if jg_wr z103 = 0 then jg_GI w 7 mm_X12_ask 81 [.ref a0, .int (.ofInt x1), .int (.ofInt x2), .int (.ofInt x3), .int (.ofInt x4), .int (.ofInt (x5 + 1)), u6, u7] m102 Q else jg_GI w 7 mm_X12_ask 110 [.ref a0, .int (.ofInt x1), .int (.ofInt x2), .int (.ofInt x3), .int (.ofInt (x4 + 1)), .int (.ofInt x5), .int (.ofInt 0), u7] m102 Q)))) : jg_GI w 7 mm_X12_ask 81 [.ref a0, .int (.ofInt x1), .int (.ofInt x2), .int (.ofInt x3), .int (.ofInt x4), .int (.ofInt x5), u6, u7] σ Q := by
  show jg_G w 7 mm_X12_ask 81 [.ref a0, .int (.ofInt x1), .int (.ofInt x2), .int (.ofInt x3), .int (.ofInt x4), .int (.ofInt x5), u6, u7] [] σ (jg_QI Q)
  refine jg_A (pc' := 83) rfl rfl (fun _ _ _ => rfl) ?_
  refine jg_A (pc' := 84) rfl rfl (fun _ _ _ => rfl) ?_
  refine jg_getO (pc' := 87) (k := 5) rfl h0 (by decide) rfl rfl ?_
  refine jg_A (pc' := 88) rfl rfl (fun _ _ _ => rfl) ?_
  refine jg_ialdK (pc' := 89) (xi := 0) rfl (jg_sX12_14 h0) (by decide) (by decide) rfl ?_
  refine jg_cge (pc' := 92) rfl rfl (fun hc => ?_) (fun hc => ?_)
  · have h := jg_t h (show jg_wr (σ.1 (a0 + 5) (0)) ≤ jg_wr x5 from hc)
    refine jg_A (pc' := 166) rfl rfl (fun _ _ _ => rfl) ?_
    refine jg_calX (M1 := mm_X12_byText) (hy := 0) (pc' := 169) rfl jm_X12_byText (by decide) rfl h0 (by decide) ⟨Nat.le_of_ble_eq_true rfl, rfl⟩ (Nat.le_of_ble_eq_true rfl) rfl h (jg_kV (fun m101 h => ?_))
    refine jg_A (pc' := 170) rfl rfl (fun _ _ _ => rfl) ?_
    refine jg_A (pc' := 172) (ls' := [.ref a0, .int (.ofInt x1), .int (.ofInt x2), .int (.ofInt x3), .int (.ofInt x4), .int (.ofInt 0), u6, u7]) rfl rfl (fun _ _ _ => rfl) ?_
    refine jg_A (pc' := 173) rfl rfl (fun _ _ _ => rfl) ?_
    refine jg_A (pc' := 175) (ls' := [.ref a0, .int (.ofInt x1), .int (.ofInt x2), .int (.ofInt x3), .int (.ofInt x4), .int (.ofInt 0), .int (.ofInt 1), u7]) rfl rfl (fun _ _ _ => rfl) ?_
    exact h
  · have h := jg_f h (show ¬ (jg_wr (σ.1 (a0 + 5) (0)) ≤ jg_wr x5) from hc)
    refine jg_A (pc' := 93) rfl rfl (fun _ _ _ => rfl) ?_
    refine jg_A (pc' := 95) rfl rfl (fun _ _ _ => rfl) ?_
    refine jg_calX (M1 := mm_X12_isMissing) (hy := 6) (pc' := 98) rfl jm_X12_isMissing (by decide) rfl h0 (by decide) ⟨Nat.le_of_ble_eq_true rfl, rfl⟩ (Nat.le_of_ble_eq_true rfl) rfl h (jg_kI (fun z103 m102 h => ?_))
    refine jg_ifne (pc' := 101) rfl rfl (fun hc => ?_) (fun hc => ?_)
    · have h := jg_t h (show jg_wr z103 = 0 from hc)
      refine jg_goto rfl ?_
      refine jg_iinc (pc' := 162) (ls' := [.ref a0, .int (.ofInt x1), .int (.ofInt x2), .int (.ofInt x3), .int (.ofInt x4), .int (.ofInt (x5 + 1)), u6, u7]) rfl rfl rfl rfl ?_
      refine jg_goto rfl ?_
      exact h
    · have h := jg_f h (show ¬ (jg_wr z103 = 0) from hc)
      refine jg_iinc (pc' := 107) (ls' := [.ref a0, .int (.ofInt x1), .int (.ofInt x2), .int (.ofInt x3), .int (.ofInt (x4 + 1)), .int (.ofInt x5), u6, u7]) rfl rfl rfl rfl ?_
      refine jg_A (pc' := 108) rfl rfl (fun _ _ _ => rfl) ?_
      refine jg_A (pc' := 110) (ls' := [.ref a0, .int (.ofInt x1), .int (.ofInt x2), .int (.ofInt x3), .int (.ofInt (x4 + 1)), .int (.ofInt x5), .int (.ofInt 0), u7]) rfl rfl (fun _ _ _ => rfl) ?_
      exact h
set_option maxRecDepth 100000 in
set_option maxHeartbeats 4000000 in
theorem jb_X12_ask_175 {w : Nat} {a0 : Nat} {x1 : Int} {x2 : Int} {x3 : Int} {x4 : Int} {x5 : Int} {x6 : Int} {u7 : Value} {σ : jg_M} {Q : Int → jg_M → Prop} (h0 : jg_sh a0 = (12, 0)) (h : (if jg_wr x3 ≤ jg_wr x6 then (if jg_wr x2 = 1 then jg_CI w 0 mm_X12_worst [.ref a0, .int (.ofInt x5), .int (.ofInt x4)] σ (fun (z102 : Int) (m101 : jg_M) => Q z102 m101) else jg_CV w 0 mm_X12_gives [.ref a0, .int (.ofInt x5), .int (.ofInt x1), .int (.ofInt (σ.1 (a0 + 3) (0)))] σ (fun (m103 : jg_M) => jg_GI w 7 mm_X12_ask 248 [.ref a0, .int (.ofInt x1), .int (.ofInt x2), .int (.ofInt x3), .int (.ofInt x4), .int (.ofInt x5), .int (.ofInt 0), .int (.ofInt 0)] m103 Q)) else jg_CI w 0 mm_X12_worst [.ref a0, .int (.ofInt x6), .int (.ofInt x4)] σ (fun (z105 : Int) (m104 : jg_M) => jg_CI w 0 mm_X12_worst [.ref a0, .int (.ofInt x5), .int (.ofInt x4)] m104 (fun (z107 : Int) (m106 : jg_M) => (if jg_wr z107 ≤ jg_wr z105 then jg_GI w 7 mm_X12_ask 175 [.ref a0, .int (.ofInt x1), .int (.ofInt x2), .int (.ofInt x3), .int (.ofInt x4), .int (.ofInt x5), .int (.ofInt (x6 + 1)), u7] m106 Q else jg_GI w 7 mm_X12_ask 175 [.ref a0, .int (.ofInt x1), .int (.ofInt x2), .int (.ofInt x3), .int (.ofInt x4), .int (.ofInt x6), .int (.ofInt (x6 + 1)), u7] m106 Q))))) : jg_GI w 7 mm_X12_ask 175 [.ref a0, .int (.ofInt x1), .int (.ofInt x2), .int (.ofInt x3), .int (.ofInt x4), .int (.ofInt x5), .int (.ofInt x6), u7] σ Q := by
  show jg_G w 7 mm_X12_ask 175 [.ref a0, .int (.ofInt x1), .int (.ofInt x2), .int (.ofInt x3), .int (.ofInt x4), .int (.ofInt x5), .int (.ofInt x6), u7] [] σ (jg_QI Q)
  refine jg_A (pc' := 177) rfl rfl (fun _ _ _ => rfl) ?_
  refine jg_A (pc' := 178) rfl rfl (fun _ _ _ => rfl) ?_
  refine jg_cge (pc' := 181) rfl rfl (fun hc => ?_) (fun hc => ?_)
  · have h := jg_t h (show jg_wr x3 ≤ jg_wr x6 from hc)
    refine jg_A (pc' := 216) rfl rfl (fun _ _ _ => rfl) ?_
    refine jg_A (pc' := 217) rfl rfl (fun _ _ _ => rfl) ?_
    refine jg_cne (pc' := 220) rfl rfl (fun hc => ?_) (fun hc => ?_)
    · have h := jg_t h (show jg_wr x2 = 1 from hc)
      refine jg_A (pc' := 221) rfl rfl (fun _ _ _ => rfl) ?_
      refine jg_A (pc' := 223) rfl rfl (fun _ _ _ => rfl) ?_
      refine jg_A (pc' := 225) rfl rfl (fun _ _ _ => rfl) ?_
      refine jg_calX (M1 := mm_X12_worst) (hy := 0) (pc' := 228) rfl jm_X12_worst (by decide) rfl h0 (by decide) ⟨Nat.le_of_ble_eq_true rfl, rfl⟩ (Nat.le_of_ble_eq_true rfl) rfl h (jg_kI (fun z102 m101 h => ?_))
      exact jg_iret rfl rfl h
    · have h := jg_f h (show ¬ (jg_wr x2 = 1) from hc)
      refine jg_A (pc' := 230) rfl rfl (fun _ _ _ => rfl) ?_
      refine jg_A (pc' := 232) rfl rfl (fun _ _ _ => rfl) ?_
      refine jg_A (pc' := 233) rfl rfl (fun _ _ _ => rfl) ?_
      refine jg_A (pc' := 234) rfl rfl (fun _ _ _ => rfl) ?_
      refine jg_getO (pc' := 237) (k := 3) rfl h0 (by decide) rfl rfl ?_
      refine jg_A (pc' := 238) rfl rfl (fun _ _ _ => rfl) ?_
      refine jg_ialdK (pc' := 239) (xi := 0) rfl (jg_sX12_12 h0) (by decide) (by decide) rfl ?_
      refine jg_calX (M1 := mm_X12_gives) (hy := 0) (pc' := 242) rfl jm_X12_gives (by decide) rfl h0 (by decide) ⟨Nat.le_of_ble_eq_true rfl, rfl⟩ (Nat.le_of_ble_eq_true rfl) rfl h (jg_kV (fun m103 h => ?_))
      refine jg_A (pc' := 243) rfl rfl (fun _ _ _ => rfl) ?_
      refine jg_A (pc' := 245) (ls' := [.ref a0, .int (.ofInt x1), .int (.ofInt x2), .int (.ofInt x3), .int (.ofInt x4), .int (.ofInt x5), .int (.ofInt 0), u7]) rfl rfl (fun _ _ _ => rfl) ?_
      refine jg_A (pc' := 246) rfl rfl (fun _ _ _ => rfl) ?_
      refine jg_A (pc' := 248) (ls' := [.ref a0, .int (.ofInt x1), .int (.ofInt x2), .int (.ofInt x3), .int (.ofInt x4), .int (.ofInt x5), .int (.ofInt 0), .int (.ofInt 0)]) rfl rfl (fun _ _ _ => rfl) ?_
      exact h
  · have h := jg_f h (show ¬ (jg_wr x3 ≤ jg_wr x6) from hc)
    refine jg_A (pc' := 182) rfl rfl (fun _ _ _ => rfl) ?_
    refine jg_A (pc' := 184) rfl rfl (fun _ _ _ => rfl) ?_
    refine jg_A (pc' := 186) rfl rfl (fun _ _ _ => rfl) ?_
    refine jg_calX (M1 := mm_X12_worst) (hy := 0) (pc' := 189) rfl jm_X12_worst (by decide) rfl h0 (by decide) ⟨Nat.le_of_ble_eq_true rfl, rfl⟩ (Nat.le_of_ble_eq_true rfl) rfl h (jg_kI (fun z105 m104 h => ?_))
    refine jg_A (pc' := 190) rfl rfl (fun _ _ _ => rfl) ?_
    refine jg_A (pc' := 192) rfl rfl (fun _ _ _ => rfl) ?_
    refine jg_A (pc' := 194) rfl rfl (fun _ _ _ => rfl) ?_
    refine jg_calX (M1 := mm_X12_worst) (hy := 0) (pc' := 197) rfl jm_X12_worst (by decide) rfl h0 (by decide) ⟨Nat.le_of_ble_eq_true rfl, rfl⟩ (Nat.le_of_ble_eq_true rfl) rfl h (jg_kI (fun z107 m106 h => ?_))
    refine jg_cge (pc' := 200) rfl rfl (fun hc => ?_) (fun hc => ?_)
    · have h := jg_t h (show jg_wr z107 ≤ jg_wr z105 from hc)
      refine jg_A (pc' := 207) rfl rfl (fun _ _ _ => rfl) ?_
      refine jg_A (pc' := 209) (ls' := [.ref a0, .int (.ofInt x1), .int (.ofInt x2), .int (.ofInt x3), .int (.ofInt x4), .int (.ofInt x5), .int (.ofInt x6), u7]) rfl rfl (fun _ _ _ => rfl) ?_
      refine jg_iinc (pc' := 212) (ls' := [.ref a0, .int (.ofInt x1), .int (.ofInt x2), .int (.ofInt x3), .int (.ofInt x4), .int (.ofInt x5), .int (.ofInt (x6 + 1)), u7]) rfl rfl rfl rfl ?_
      refine jg_goto rfl ?_
      exact h
    · have h := jg_f h (show ¬ (jg_wr z107 ≤ jg_wr z105) from hc)
      refine jg_A (pc' := 202) rfl rfl (fun _ _ _ => rfl) ?_
      refine jg_goto rfl ?_
      refine jg_A (pc' := 209) (ls' := [.ref a0, .int (.ofInt x1), .int (.ofInt x2), .int (.ofInt x3), .int (.ofInt x4), .int (.ofInt x6), .int (.ofInt x6), u7]) rfl rfl (fun _ _ _ => rfl) ?_
      refine jg_iinc (pc' := 212) (ls' := [.ref a0, .int (.ofInt x1), .int (.ofInt x2), .int (.ofInt x3), .int (.ofInt x4), .int (.ofInt x6), .int (.ofInt (x6 + 1)), u7]) rfl rfl rfl rfl ?_
      refine jg_goto rfl ?_
      exact h
set_option maxRecDepth 100000 in
set_option maxHeartbeats 4000000 in
theorem jb_X12_ask_110 {w : Nat} {a0 : Nat} {x1 : Int} {x2 : Int} {x3 : Int} {x4 : Int} {x5 : Int} {x6 : Int} {u7 : Value} {σ : jg_M} {Q : Int → jg_M → Prop} (h0 : jg_sh a0 = (12, 0)) (h : (if jg_wr x3 ≤ jg_wr x6 then jg_GI w 7 mm_X12_ask 81 [.ref a0, .int (.ofInt x1), .int (.ofInt x2), .int (.ofInt x3), .int (.ofInt x4), .int (.ofInt (x5 + 1)), .int (.ofInt x6), u7] σ Q else jg_CV w 0 mm_X12_gives [.ref a0, .int (.ofInt x6), .int (.ofInt x1), .int (.ofInt (σ.1 (a0 + 3) (0)))] σ (fun (m101 : jg_M) => ((0 : Int) ≤ jg_wr x6 ∧ jg_wr x6 < (343 : Int)) ∧ jg_CI w 1 mm_X12_isSentence [.ref a0, .int (.ofInt 1), .int (.ofInt x1)] m101 (fun (z103 : Int) (m102 : jg_M) => (if jg_wr z103 = 0 then ((0 : Int) ≤ (jg_wr x6) ∧ (jg_wr x6) < (343 : Int)) ∧ ∀ m104 : jg_M, m104 = jg_sI m102 (a0 + 45) (jg_wr x6) ((m101.1 (a0 + 45) (jg_wr x6)) + 0) → jg_GI w 7 mm_X12_ask 110 [.ref a0, .int (.ofInt x1), .int (.ofInt x2), .int (.ofInt x3), .int (.ofInt x4), .int (.ofInt x5), .int (.ofInt (x6 + 1)), u7] m104 Q else ((0 : Int) ≤ (jg_wr x6) ∧ (jg_wr x6) < (343 : Int)) ∧ ∀ m105 : jg_M, m105 = jg_sI m102 (a0 + 45) (jg_wr x6) ((m101.1 (a0 + 45) (jg_wr x6)) + 1) → jg_GI w 7 mm_X12_ask 110 [.ref a0, .int (.ofInt x1), .int (.ofInt x2), .int (.ofInt x3), .int (.ofInt x4), .int (.ofInt x5), .int (.ofInt (x6 + 1)), u7] m105 Q))))) : jg_GI w 7 mm_X12_ask 110 [.ref a0, .int (.ofInt x1), .int (.ofInt x2), .int (.ofInt x3), .int (.ofInt x4), .int (.ofInt x5), .int (.ofInt x6), u7] σ Q := by
  show jg_G w 7 mm_X12_ask 110 [.ref a0, .int (.ofInt x1), .int (.ofInt x2), .int (.ofInt x3), .int (.ofInt x4), .int (.ofInt x5), .int (.ofInt x6), u7] [] σ (jg_QI Q)
  refine jg_A (pc' := 112) rfl rfl (fun _ _ _ => rfl) ?_
  refine jg_A (pc' := 113) rfl rfl (fun _ _ _ => rfl) ?_
  refine jg_cge (pc' := 116) rfl rfl (fun hc => ?_) (fun hc => ?_)
  · have h := jg_t h (show jg_wr x3 ≤ jg_wr x6 from hc)
    refine jg_iinc (pc' := 162) (ls' := [.ref a0, .int (.ofInt x1), .int (.ofInt x2), .int (.ofInt x3), .int (.ofInt x4), .int (.ofInt (x5 + 1)), .int (.ofInt x6), u7]) rfl rfl rfl rfl ?_
    refine jg_goto rfl ?_
    exact h
  · have h := jg_f h (show ¬ (jg_wr x3 ≤ jg_wr x6) from hc)
    refine jg_A (pc' := 117) rfl rfl (fun _ _ _ => rfl) ?_
    refine jg_A (pc' := 119) rfl rfl (fun _ _ _ => rfl) ?_
    refine jg_A (pc' := 120) rfl rfl (fun _ _ _ => rfl) ?_
    refine jg_A (pc' := 121) rfl rfl (fun _ _ _ => rfl) ?_
    refine jg_getO (pc' := 124) (k := 3) rfl h0 (by decide) rfl rfl ?_
    refine jg_A (pc' := 125) rfl rfl (fun _ _ _ => rfl) ?_
    refine jg_ialdK (pc' := 126) (xi := 0) rfl (jg_sX12_12 h0) (by decide) (by decide) rfl ?_
    refine jg_calX (M1 := mm_X12_gives) (hy := 0) (pc' := 129) rfl jm_X12_gives (by decide) rfl h0 (by decide) ⟨Nat.le_of_ble_eq_true rfl, rfl⟩ (Nat.le_of_ble_eq_true rfl) rfl h (jg_kV (fun m101 h => ?_))
    refine jg_A (pc' := 130) rfl rfl (fun _ _ _ => rfl) ?_
    refine jg_getO (pc' := 133) (k := 45) rfl h0 (by decide) rfl rfl ?_
    refine jg_A (pc' := 135) rfl rfl (fun _ _ _ => rfl) ?_
    refine jg_A (pc' := 136) rfl rfl (fun _ _ _ => rfl) ?_
    obtain ⟨hg, h⟩ := h
    refine jg_iald (pc' := 137) rfl (jg_sX12_69 h0) hg rfl ?_
    refine jg_A (pc' := 138) rfl rfl (fun _ _ _ => rfl) ?_
    refine jg_A (pc' := 139) rfl rfl (fun _ _ _ => rfl) ?_
    refine jg_A (pc' := 140) rfl rfl (fun _ _ _ => rfl) ?_
    refine jg_calX (M1 := mm_X12_isSentence) (hy := 1) (pc' := 143) rfl jm_X12_isSentence (by decide) rfl h0 (by decide) ⟨Nat.le_of_ble_eq_true rfl, rfl⟩ (Nat.le_of_ble_eq_true rfl) rfl h (jg_kI (fun z103 m102 h => ?_))
    refine jg_ifeq (pc' := 146) rfl rfl (fun hc => ?_) (fun hc => ?_)
    · have h := jg_t h (show jg_wr z103 = 0 from hc)
      refine jg_A (pc' := 151) rfl rfl (fun _ _ _ => rfl) ?_
      refine jg_iadd (pc' := 152) rfl rfl ?_
      obtain ⟨hg, h⟩ := h
      refine jg_iast (pc' := 153) rfl (jg_sX12_69 h0) hg rfl (fun m104 hm104 => ?_)
      have h := h m104 hm104
      refine jg_iinc (pc' := 156) (ls' := [.ref a0, .int (.ofInt x1), .int (.ofInt x2), .int (.ofInt x3), .int (.ofInt x4), .int (.ofInt x5), .int (.ofInt (x6 + 1)), u7]) rfl rfl rfl rfl ?_
      refine jg_goto rfl ?_
      exact h
    · have h := jg_f h (show ¬ (jg_wr z103 = 0) from hc)
      refine jg_A (pc' := 147) rfl rfl (fun _ _ _ => rfl) ?_
      refine jg_goto rfl ?_
      refine jg_iadd (pc' := 152) rfl rfl ?_
      obtain ⟨hg, h⟩ := h
      refine jg_iast (pc' := 153) rfl (jg_sX12_69 h0) hg rfl (fun m105 hm105 => ?_)
      have h := h m105 hm105
      refine jg_iinc (pc' := 156) (ls' := [.ref a0, .int (.ofInt x1), .int (.ofInt x2), .int (.ofInt x3), .int (.ofInt x4), .int (.ofInt x5), .int (.ofInt (x6 + 1)), u7]) rfl rfl rfl rfl ?_
      refine jg_goto rfl ?_
      exact h
set_option maxRecDepth 100000 in
set_option maxHeartbeats 4000000 in
theorem jb_X12_ask_248 {w : Nat} {a0 : Nat} {x1 : Int} {u2 : Value} {u3 : Value} {u4 : Value} {u5 : Value} {x6 : Int} {x7 : Int} {σ : jg_M} {Q : Int → jg_M → Prop} (h0 : jg_sh a0 = (12, 0)) (h : (if jg_wr x1 ≤ jg_wr x7 then Q x6 σ else ((0 : Int) ≤ jg_wr x7 ∧ jg_wr x7 < (9 : Int)) ∧ ∀ t101 : Int, t101 = ((10 * x6) + (σ.1 (a0 + 39) (jg_wr x7))) → jg_GI w 7 mm_X12_ask 248 [.ref a0, .int (.ofInt x1), u2, u3, u4, u5, .int (.ofInt t101), .int (.ofInt (x7 + 1))] σ Q)) : jg_GI w 7 mm_X12_ask 248 [.ref a0, .int (.ofInt x1), u2, u3, u4, u5, .int (.ofInt x6), .int (.ofInt x7)] σ Q := by
  show jg_G w 7 mm_X12_ask 248 [.ref a0, .int (.ofInt x1), u2, u3, u4, u5, .int (.ofInt x6), .int (.ofInt x7)] [] σ (jg_QI Q)
  refine jg_A (pc' := 250) rfl rfl (fun _ _ _ => rfl) ?_
  refine jg_A (pc' := 251) rfl rfl (fun _ _ _ => rfl) ?_
  refine jg_cge (pc' := 254) rfl rfl (fun hc => ?_) (fun hc => ?_)
  · have h := jg_t h (show jg_wr x1 ≤ jg_wr x7 from hc)
    refine jg_A (pc' := 277) rfl rfl (fun _ _ _ => rfl) ?_
    exact jg_iret rfl rfl h
  · have h := jg_f h (show ¬ (jg_wr x1 ≤ jg_wr x7) from hc)
    refine jg_A (pc' := 256) rfl rfl (fun _ _ _ => rfl) ?_
    refine jg_A (pc' := 258) rfl rfl (fun _ _ _ => rfl) ?_
    refine jg_imul (pc' := 259) rfl rfl ?_
    refine jg_A (pc' := 260) rfl rfl (fun _ _ _ => rfl) ?_
    refine jg_getO (pc' := 263) (k := 39) rfl h0 (by decide) rfl rfl ?_
    refine jg_A (pc' := 265) rfl rfl (fun _ _ _ => rfl) ?_
    obtain ⟨hg, h⟩ := h
    refine jg_iald (pc' := 266) rfl (jg_sX12_61 h0) hg rfl ?_
    refine jg_iadd (pc' := 267) rfl rfl ?_
    refine jg_nm (F := fun t101 => jg_G w 7 mm_X12_ask 267 [.ref a0, .int (.ofInt x1), u2, u3, u4, u5, .int (.ofInt x6), .int (.ofInt x7)] [.int (.ofInt t101)] σ (jg_QI Q)) ((10 * x6) + (σ.1 (a0 + 39) (jg_wr x7))) (fun t101 ht101 => ?_)
    have h := h t101 ht101
    refine jg_A (pc' := 269) (ls' := [.ref a0, .int (.ofInt x1), u2, u3, u4, u5, .int (.ofInt t101), .int (.ofInt x7)]) rfl rfl (fun _ _ _ => rfl) ?_
    refine jg_iinc (pc' := 272) (ls' := [.ref a0, .int (.ofInt x1), u2, u3, u4, u5, .int (.ofInt t101), .int (.ofInt (x7 + 1))]) rfl rfl rfl rfl ?_
    refine jg_goto rfl ?_
    exact h
set_option maxRecDepth 100000 in
set_option maxHeartbeats 4000000 in
theorem jb_X12_worst_0 {w : Nat} {a0 : Nat} {x1 : Int} {x2 : Int} {σ : jg_M} {Q : Int → jg_M → Prop} (h0 : jg_sh a0 = (12, 0)) (h : ((0 : Int) ≤ jg_wr x1 ∧ jg_wr x1 < (343 : Int)) ∧ ((0 : Int) ≤ jg_wr x1 ∧ jg_wr x1 < (343 : Int)) ∧ (if jg_wr (σ.1 (a0 + 45) (jg_wr x1)) ≤ jg_wr (x2 - (σ.1 (a0 + 45) (jg_wr x1))) then ((0 : Int) ≤ jg_wr x1 ∧ jg_wr x1 < (343 : Int)) ∧ Q (x2 - (σ.1 (a0 + 45) (jg_wr x1))) σ else ((0 : Int) ≤ jg_wr x1 ∧ jg_wr x1 < (343 : Int)) ∧ Q (σ.1 (a0 + 45) (jg_wr x1)) σ)) : jg_CI w 0 mm_X12_worst [.ref a0, .int (.ofInt x1), .int (.ofInt x2)] σ Q := by
  show jg_G w 0 mm_X12_worst 0 [.ref a0, .int (.ofInt x1), .int (.ofInt x2)] [] σ (jg_QI Q)
  refine jg_A (pc' := 1) rfl rfl (fun _ _ _ => rfl) ?_
  refine jg_getO (pc' := 4) (k := 45) rfl h0 (by decide) rfl rfl ?_
  refine jg_A (pc' := 5) rfl rfl (fun _ _ _ => rfl) ?_
  obtain ⟨hg, h⟩ := h
  refine jg_iald (pc' := 6) rfl (jg_sX12_69 h0) hg rfl ?_
  refine jg_A (pc' := 7) rfl rfl (fun _ _ _ => rfl) ?_
  refine jg_A (pc' := 8) rfl rfl (fun _ _ _ => rfl) ?_
  refine jg_getO (pc' := 11) (k := 45) rfl h0 (by decide) rfl rfl ?_
  refine jg_A (pc' := 12) rfl rfl (fun _ _ _ => rfl) ?_
  obtain ⟨hg, h⟩ := h
  refine jg_iald (pc' := 13) rfl (jg_sX12_69 h0) hg rfl ?_
  refine jg_isub (pc' := 14) rfl rfl ?_
  refine jg_cle (pc' := 17) rfl rfl (fun hc => ?_) (fun hc => ?_)
  · have h := jg_t h (show jg_wr (σ.1 (a0 + 45) (jg_wr x1)) ≤ jg_wr (x2 - (σ.1 (a0 + 45) (jg_wr x1))) from hc)
    refine jg_A (pc' := 27) rfl rfl (fun _ _ _ => rfl) ?_
    refine jg_A (pc' := 28) rfl rfl (fun _ _ _ => rfl) ?_
    refine jg_getO (pc' := 31) (k := 45) rfl h0 (by decide) rfl rfl ?_
    refine jg_A (pc' := 32) rfl rfl (fun _ _ _ => rfl) ?_
    obtain ⟨hg, h⟩ := h
    refine jg_iald (pc' := 33) rfl (jg_sX12_69 h0) hg rfl ?_
    refine jg_isub (pc' := 34) rfl rfl ?_
    exact jg_iret rfl rfl h
  · have h := jg_f h (show ¬ (jg_wr (σ.1 (a0 + 45) (jg_wr x1)) ≤ jg_wr (x2 - (σ.1 (a0 + 45) (jg_wr x1)))) from hc)
    refine jg_A (pc' := 18) rfl rfl (fun _ _ _ => rfl) ?_
    refine jg_getO (pc' := 21) (k := 45) rfl h0 (by decide) rfl rfl ?_
    refine jg_A (pc' := 22) rfl rfl (fun _ _ _ => rfl) ?_
    obtain ⟨hg, h⟩ := h
    refine jg_iald (pc' := 23) rfl (jg_sX12_69 h0) hg rfl ?_
    refine jg_goto rfl ?_
    exact jg_iret rfl rfl h
set_option maxRecDepth 100000 in
set_option maxHeartbeats 4000000 in
theorem jb_X12_chance_0 {w : Nat} {a0 : Nat} {x1 : Int} {x2 : Int} {σ : jg_M} {Q : Int → jg_M → Prop} (h0 : jg_sh a0 = (12, 0)) (h : ∀ m101 : jg_M, m101 = jg_sI σ a0 2 0 → (if jg_wr x1 < 0 then Q (-1) m101 else jg_CI w 0 mm_X12_isIn [.int (.ofInt x2), .int (.ofInt 1), .int (.ofInt 9)] m101 (fun (z103 : Int) (m102 : jg_M) => (if jg_wr z103 = 0 then Q (-1) m102 else (if jg_wr (m102.1 (a0 + 3) (0)) = 0 then Q (-2) m102 else ∀ t104 : Int, t104 = (jg_wr x1) → jg_GI w 2 mm_X12_chance 42 [.ref a0, .int (.ofInt x1), .int (.ofInt x2), .long (.ofInt t104), mj_U, .int (.ofInt 0), .int (.ofInt 0), mj_U] m102 Q))))) : jg_CI w 2 mm_X12_chance [.ref a0, .int (.ofInt x1), .int (.ofInt x2)] σ Q := by
  show jg_G w 2 mm_X12_chance 0 [.ref a0, .int (.ofInt x1), .int (.ofInt x2), mj_U, mj_U, mj_U, mj_U, mj_U] [] σ (jg_QI Q)
  refine jg_A (pc' := 1) rfl rfl (fun _ _ _ => rfl) ?_
  refine jg_A (pc' := 2) rfl rfl (fun _ _ _ => rfl) ?_
  refine jg_putI (pc' := 5) (bi := 2) rfl h0 (by decide) rfl rfl rfl rfl (fun m101 hm101 => ?_)
  have h := h m101 hm101
  refine jg_A (pc' := 6) rfl rfl (fun _ _ _ => rfl) ?_
  refine jg_iflt (pc' := 9) rfl rfl (fun hc => ?_) (fun hc => ?_)
  · have h := jg_t h (show jg_wr x1 < 0 from hc)
    refine jg_A (pc' := 20) rfl rfl (fun _ _ _ => rfl) ?_
    exact jg_iret rfl rfl h
  · have h := jg_f h (show ¬ (jg_wr x1 < 0) from hc)
    refine jg_A (pc' := 10) rfl rfl (fun _ _ _ => rfl) ?_
    refine jg_A (pc' := 11) rfl rfl (fun _ _ _ => rfl) ?_
    refine jg_A (pc' := 13) rfl rfl (fun _ _ _ => rfl) ?_
    refine jg_calS (M1 := mm_X12_isIn) (hy := 0) (pc' := 16) rfl (Or.inl rfl) jm_X12_isIn (by decide) rfl ⟨Nat.le_of_ble_eq_true rfl, rfl⟩ (Nat.le_of_ble_eq_true rfl) rfl h (jg_kI (fun z103 m102 h => ?_))
    refine jg_ifne (pc' := 19) rfl rfl (fun hc => ?_) (fun hc => ?_)
    · have h := jg_t h (show jg_wr z103 = 0 from hc)
      refine jg_A (pc' := 20) rfl rfl (fun _ _ _ => rfl) ?_
      exact jg_iret rfl rfl h
    · have h := jg_f h (show ¬ (jg_wr z103 = 0) from hc)
      refine jg_A (pc' := 22) rfl rfl (fun _ _ _ => rfl) ?_
      refine jg_getO (pc' := 25) (k := 3) rfl h0 (by decide) rfl rfl ?_
      refine jg_A (pc' := 26) rfl rfl (fun _ _ _ => rfl) ?_
      refine jg_ialdK (pc' := 27) (xi := 0) rfl (jg_sX12_12 h0) (by decide) (by decide) rfl ?_
      refine jg_ifne (pc' := 30) rfl rfl (fun hc => ?_) (fun hc => ?_)
      · have h := jg_t h (show jg_wr (m102.1 (a0 + 3) (0)) = 0 from hc)
        refine jg_A (pc' := 32) rfl rfl (fun _ _ _ => rfl) ?_
        exact jg_iret rfl rfl h
      · have h := jg_f h (show ¬ (jg_wr (m102.1 (a0 + 3) (0)) = 0) from hc)
        refine jg_A (pc' := 34) rfl rfl (fun _ _ _ => rfl) ?_
        refine jg_i2l (pc' := 35) rfl rfl ?_
        refine jg_nm (F := fun t104 => jg_G w 2 mm_X12_chance 35 [.ref a0, .int (.ofInt x1), .int (.ofInt x2), mj_U, mj_U, mj_U, mj_U, mj_U] [.long (.ofInt t104)] m102 (jg_QI Q)) (jg_wr x1) (fun t104 ht104 => ?_)
        have h := h t104 ht104
        refine jg_A (pc' := 36) (ls' := [.ref a0, .int (.ofInt x1), .int (.ofInt x2), .long (.ofInt t104), mj_U, mj_U, mj_U, mj_U]) rfl rfl (fun _ _ _ => rfl) ?_
        refine jg_A (pc' := 37) rfl rfl (fun _ _ _ => rfl) ?_
        refine jg_A (pc' := 39) (ls' := [.ref a0, .int (.ofInt x1), .int (.ofInt x2), .long (.ofInt t104), mj_U, .int (.ofInt 0), mj_U, mj_U]) rfl rfl (fun _ _ _ => rfl) ?_
        refine jg_A (pc' := 40) rfl rfl (fun _ _ _ => rfl) ?_
        refine jg_A (pc' := 42) (ls' := [.ref a0, .int (.ofInt x1), .int (.ofInt x2), .long (.ofInt t104), mj_U, .int (.ofInt 0), .int (.ofInt 0), mj_U]) rfl rfl (fun _ _ _ => rfl) ?_
        exact h
set_option maxRecDepth 100000 in
set_option maxHeartbeats 4000000 in
theorem jb_X12_chance_42 {w : Nat} {a0 : Nat} {u1 : Value} {x2 : Int} {l3 : Int} {u4 : Value} {x5 : Int} {x6 : Int} {u7 : Value} {σ : jg_M} {Q : Int → jg_M → Prop} (h0 : jg_sh a0 = (12, 0)) (h : (if 10 ≤ jg_wr x6 then Q x5 σ else jg_GI w 2 mm_X12_chance 52 [.ref a0, u1, .int (.ofInt x2), .long (.ofInt l3), u4, .int (.ofInt x5), .int (.ofInt x6), .int (.ofInt 0)] σ Q)) : jg_GI w 2 mm_X12_chance 42 [.ref a0, u1, .int (.ofInt x2), .long (.ofInt l3), u4, .int (.ofInt x5), .int (.ofInt x6), u7] σ Q := by
  show jg_G w 2 mm_X12_chance 42 [.ref a0, u1, .int (.ofInt x2), .long (.ofInt l3), u4, .int (.ofInt x5), .int (.ofInt x6), u7] [] σ (jg_QI Q)
  refine jg_A (pc' := 44) rfl rfl (fun _ _ _ => rfl) ?_
  refine jg_A (pc' := 46) rfl rfl (fun _ _ _ => rfl) ?_
  refine jg_cge (pc' := 49) rfl rfl (fun hc => ?_) (fun hc => ?_)
  · have h := jg_t h (show 10 ≤ jg_wr x6 from hc)
    refine jg_A (pc' := 126) rfl rfl (fun _ _ _ => rfl) ?_
    exact jg_iret rfl rfl h
  · have h := jg_f h (show ¬ (10 ≤ jg_wr x6) from hc)
    refine jg_A (pc' := 50) rfl rfl (fun _ _ _ => rfl) ?_
    refine jg_A (pc' := 52) (ls' := [.ref a0, u1, .int (.ofInt x2), .long (.ofInt l3), u4, .int (.ofInt x5), .int (.ofInt x6), .int (.ofInt 0)]) rfl rfl (fun _ _ _ => rfl) ?_
    exact h
set_option maxRecDepth 100000 in
set_option maxHeartbeats 4000000 in
theorem jb_X12_chance_52 {w : Nat} {a0 : Nat} {u1 : Value} {x2 : Int} {l3 : Int} {u4 : Value} {x5 : Int} {x6 : Int} {x7 : Int} {σ : jg_M} {Q : Int → jg_M → Prop} (h0 : jg_sh a0 = (12, 0)) (h : (if jg_wr x2 ≤ jg_wr x7 then jg_CI w 1 mm_X12_isSentence [.ref a0, .int (.ofInt 0), .int (.ofInt x2)] σ (fun (z102 : Int) (m101 : jg_M) => (if jg_wr z102 = 0 then ∀ t103 : Int, t103 = (x5 + 0) → jg_GI w 2 mm_X12_chance 42 [.ref a0, u1, .int (.ofInt x2), .long (.ofInt l3), u4, .int (.ofInt t103), .int (.ofInt (x6 + 1)), .int (.ofInt x7)] m101 Q else ∀ t104 : Int, t104 = (x5 + 1) → jg_GI w 2 mm_X12_chance 42 [.ref a0, u1, .int (.ofInt x2), .long (.ofInt l3), u4, .int (.ofInt t104), .int (.ofInt (x6 + 1)), .int (.ofInt x7)] m101 Q)) else ∀ t105 : Int, t105 = (jg_qand ((l3 * ((1103515245 : Nat) : Int)) + ((12345 : Nat) : Int)) ((2147483647 : Nat) : Int)) → jg_wl (jg_wr (σ.1 (a0 + 3) (0))) ≠ 0 ∧ ((0 : Int) ≤ (jg_wr x7) ∧ (jg_wr x7) < (9 : Int)) ∧ ∀ m106 : jg_M, m106 = jg_sI σ (a0 + 39) (jg_wr x7) (jg_qrem (jg_qdiv t105 ((65536 : Nat) : Int)) (jg_wr (σ.1 (a0 + 3) (0)))) → jg_GI w 2 mm_X12_chance 52 [.ref a0, u1, .int (.ofInt x2), .long (.ofInt t105), u4, .int (.ofInt x5), .int (.ofInt x6), .int (.ofInt (x7 + 1))] m106 Q)) : jg_GI w 2 mm_X12_chance 52 [.ref a0, u1, .int (.ofInt x2), .long (.ofInt l3), u4, .int (.ofInt x5), .int (.ofInt x6), .int (.ofInt x7)] σ Q := by
  show jg_G w 2 mm_X12_chance 52 [.ref a0, u1, .int (.ofInt x2), .long (.ofInt l3), u4, .int (.ofInt x5), .int (.ofInt x6), .int (.ofInt x7)] [] σ (jg_QI Q)
  refine jg_A (pc' := 54) rfl rfl (fun _ _ _ => rfl) ?_
  refine jg_A (pc' := 55) rfl rfl (fun _ _ _ => rfl) ?_
  refine jg_cge (pc' := 58) rfl rfl (fun hc => ?_) (fun hc => ?_)
  · have h := jg_t h (show jg_wr x2 ≤ jg_wr x7 from hc)
    refine jg_A (pc' := 101) rfl rfl (fun _ _ _ => rfl) ?_
    refine jg_A (pc' := 102) rfl rfl (fun _ _ _ => rfl) ?_
    refine jg_A (pc' := 103) rfl rfl (fun _ _ _ => rfl) ?_
    refine jg_A (pc' := 104) rfl rfl (fun _ _ _ => rfl) ?_
    refine jg_calX (M1 := mm_X12_isSentence) (hy := 1) (pc' := 107) rfl jm_X12_isSentence (by decide) rfl h0 (by decide) ⟨Nat.le_of_ble_eq_true rfl, rfl⟩ (Nat.le_of_ble_eq_true rfl) rfl h (jg_kI (fun z102 m101 h => ?_))
    refine jg_ifeq (pc' := 110) rfl rfl (fun hc => ?_) (fun hc => ?_)
    · have h := jg_t h (show jg_wr z102 = 0 from hc)
      refine jg_A (pc' := 115) rfl rfl (fun _ _ _ => rfl) ?_
      refine jg_iadd (pc' := 116) rfl rfl ?_
      refine jg_nm (F := fun t103 => jg_G w 2 mm_X12_chance 116 [.ref a0, u1, .int (.ofInt x2), .long (.ofInt l3), u4, .int (.ofInt x5), .int (.ofInt x6), .int (.ofInt x7)] [.int (.ofInt t103)] m101 (jg_QI Q)) (x5 + 0) (fun t103 ht103 => ?_)
      have h := h t103 ht103
      refine jg_A (pc' := 118) (ls' := [.ref a0, u1, .int (.ofInt x2), .long (.ofInt l3), u4, .int (.ofInt t103), .int (.ofInt x6), .int (.ofInt x7)]) rfl rfl (fun _ _ _ => rfl) ?_
      refine jg_iinc (pc' := 121) (ls' := [.ref a0, u1, .int (.ofInt x2), .long (.ofInt l3), u4, .int (.ofInt t103), .int (.ofInt (x6 + 1)), .int (.ofInt x7)]) rfl rfl rfl rfl ?_
      refine jg_goto rfl ?_
      exact h
    · have h := jg_f h (show ¬ (jg_wr z102 = 0) from hc)
      refine jg_A (pc' := 111) rfl rfl (fun _ _ _ => rfl) ?_
      refine jg_goto rfl ?_
      refine jg_iadd (pc' := 116) rfl rfl ?_
      refine jg_nm (F := fun t104 => jg_G w 2 mm_X12_chance 116 [.ref a0, u1, .int (.ofInt x2), .long (.ofInt l3), u4, .int (.ofInt x5), .int (.ofInt x6), .int (.ofInt x7)] [.int (.ofInt t104)] m101 (jg_QI Q)) (x5 + 1) (fun t104 ht104 => ?_)
      have h := h t104 ht104
      refine jg_A (pc' := 118) (ls' := [.ref a0, u1, .int (.ofInt x2), .long (.ofInt l3), u4, .int (.ofInt t104), .int (.ofInt x6), .int (.ofInt x7)]) rfl rfl (fun _ _ _ => rfl) ?_
      refine jg_iinc (pc' := 121) (ls' := [.ref a0, u1, .int (.ofInt x2), .long (.ofInt l3), u4, .int (.ofInt t104), .int (.ofInt (x6 + 1)), .int (.ofInt x7)]) rfl rfl rfl rfl ?_
      refine jg_goto rfl ?_
      exact h
  · have h := jg_f h (show ¬ (jg_wr x2 ≤ jg_wr x7) from hc)
    refine jg_A (pc' := 59) rfl rfl (fun _ _ _ => rfl) ?_
    refine jg_A (pc' := 62) rfl rfl (fun _ _ _ => rfl) ?_
    refine jg_lmul (pc' := 63) rfl rfl ?_
    refine jg_A (pc' := 66) rfl rfl (fun _ _ _ => rfl) ?_
    refine jg_ladd (pc' := 67) rfl rfl ?_
    refine jg_A (pc' := 70) rfl rfl (fun _ _ _ => rfl) ?_
    refine jg_land (pc' := 71) rfl rfl ?_
    refine jg_nm (F := fun t105 => jg_G w 2 mm_X12_chance 71 [.ref a0, u1, .int (.ofInt x2), .long (.ofInt l3), u4, .int (.ofInt x5), .int (.ofInt x6), .int (.ofInt x7)] [.long (.ofInt t105)] σ (jg_QI Q)) (jg_qand ((l3 * ((1103515245 : Nat) : Int)) + ((12345 : Nat) : Int)) ((2147483647 : Nat) : Int)) (fun t105 ht105 => ?_)
    have h := h t105 ht105
    refine jg_A (pc' := 72) (ls' := [.ref a0, u1, .int (.ofInt x2), .long (.ofInt t105), u4, .int (.ofInt x5), .int (.ofInt x6), .int (.ofInt x7)]) rfl rfl (fun _ _ _ => rfl) ?_
    refine jg_A (pc' := 73) rfl rfl (fun _ _ _ => rfl) ?_
    refine jg_getO (pc' := 76) (k := 39) rfl h0 (by decide) rfl rfl ?_
    refine jg_A (pc' := 78) rfl rfl (fun _ _ _ => rfl) ?_
    refine jg_A (pc' := 79) rfl rfl (fun _ _ _ => rfl) ?_
    refine jg_A (pc' := 82) rfl rfl (fun _ _ _ => rfl) ?_
    refine jg_ldiv (pc' := 83) rfl rfl (by decide) ?_
    refine jg_A (pc' := 84) rfl rfl (fun _ _ _ => rfl) ?_
    refine jg_getO (pc' := 87) (k := 3) rfl h0 (by decide) rfl rfl ?_
    refine jg_A (pc' := 88) rfl rfl (fun _ _ _ => rfl) ?_
    refine jg_ialdK (pc' := 89) (xi := 0) rfl (jg_sX12_12 h0) (by decide) (by decide) rfl ?_
    refine jg_i2l (pc' := 90) rfl rfl ?_
    obtain ⟨hg, h⟩ := h
    refine jg_lrem (pc' := 91) rfl rfl hg ?_
    refine jg_l2i (pc' := 92) rfl rfl ?_
    obtain ⟨hg, h⟩ := h
    refine jg_iast (pc' := 93) rfl (jg_sX12_61 h0) hg rfl (fun m106 hm106 => ?_)
    have h := h m106 hm106
    refine jg_iinc (pc' := 96) (ls' := [.ref a0, u1, .int (.ofInt x2), .long (.ofInt t105), u4, .int (.ofInt x5), .int (.ofInt x6), .int (.ofInt (x7 + 1))]) rfl rfl rfl rfl ?_
    refine jg_goto rfl ?_
    exact h
set_option maxRecDepth 100000 in
set_option maxHeartbeats 4000000 in
theorem jb_X12_tried_0 {w : Nat} {a0 : Nat} {x1 : Int} {x2 : Int} {σ : jg_M} {Q : Int → jg_M → Prop} (h0 : jg_sh a0 = (12, 0)) (h : ∀ m101 : jg_M, m101 = jg_sI σ a0 2 0 → jg_CI w 0 mm_X12_isIn [.int (.ofInt x1), .int (.ofInt 0), .int (.ofInt 4)] m101 (fun (z103 : Int) (m102 : jg_M) => (if jg_wr z103 = 0 then jg_GI w 5 mm_X12_tried 50 [.ref a0, .int (.ofInt x1), .int (.ofInt x2), mj_U] m102 Q else (if jg_wr x1 = 2 then jg_CI w 0 mm_X12_isRule [.ref a0, .int (.ofInt x2)] m102 (fun (z105 : Int) (m104 : jg_M) => (if jg_wr z105 = 0 then jg_GI w 5 mm_X12_tried 50 [.ref a0, .int (.ofInt x1), .int (.ofInt x2), mj_U] m104 Q else jg_GI w 5 mm_X12_tried 52 [.ref a0, .int (.ofInt x1), .int (.ofInt x2), mj_U] m104 Q)) else (if jg_wr x1 = 3 then jg_CI w 0 mm_X12_isKind [.ref a0, .int (.ofInt x2)] m102 (fun (z107 : Int) (m106 : jg_M) => (if jg_wr z107 = 0 then jg_GI w 5 mm_X12_tried 50 [.ref a0, .int (.ofInt x1), .int (.ofInt x2), mj_U] m106 Q else jg_GI w 5 mm_X12_tried 52 [.ref a0, .int (.ofInt x1), .int (.ofInt x2), mj_U] m106 Q)) else (if jg_wr x2 = 0 then jg_GI w 5 mm_X12_tried 52 [.ref a0, .int (.ofInt x1), .int (.ofInt x2), mj_U] m102 Q else jg_GI w 5 mm_X12_tried 50 [.ref a0, .int (.ofInt x1), .int (.ofInt x2), mj_U] m102 Q)))))) : jg_CI w 5 mm_X12_tried [.ref a0, .int (.ofInt x1), .int (.ofInt x2)] σ Q := by
  show jg_G w 5 mm_X12_tried 0 [.ref a0, .int (.ofInt x1), .int (.ofInt x2), mj_U] [] σ (jg_QI Q)
  refine jg_A (pc' := 1) rfl rfl (fun _ _ _ => rfl) ?_
  refine jg_A (pc' := 2) rfl rfl (fun _ _ _ => rfl) ?_
  refine jg_putI (pc' := 5) (bi := 2) rfl h0 (by decide) rfl rfl rfl rfl (fun m101 hm101 => ?_)
  have h := h m101 hm101
  refine jg_A (pc' := 6) rfl rfl (fun _ _ _ => rfl) ?_
  refine jg_A (pc' := 7) rfl rfl (fun _ _ _ => rfl) ?_
  refine jg_A (pc' := 8) rfl rfl (fun _ _ _ => rfl) ?_
  refine jg_calS (M1 := mm_X12_isIn) (hy := 0) (pc' := 11) rfl (Or.inl rfl) jm_X12_isIn (by decide) rfl ⟨Nat.le_of_ble_eq_true rfl, rfl⟩ (Nat.le_of_ble_eq_true rfl) rfl h (jg_kI (fun z103 m102 h => ?_))
  refine jg_ifeq (pc' := 14) rfl rfl (fun hc => ?_) (fun hc => ?_)
  · have h := jg_t h (show jg_wr z103 = 0 from hc)
    exact h
  · have h := jg_f h (show ¬ (jg_wr z103 = 0) from hc)
    refine jg_A (pc' := 15) rfl rfl (fun _ _ _ => rfl) ?_
    refine jg_A (pc' := 16) rfl rfl (fun _ _ _ => rfl) ?_
    refine jg_cne (pc' := 19) rfl rfl (fun hc => ?_) (fun hc => ?_)
    · have h := jg_t h (show jg_wr x1 = 2 from hc)
      refine jg_A (pc' := 20) rfl rfl (fun _ _ _ => rfl) ?_
      refine jg_A (pc' := 21) rfl rfl (fun _ _ _ => rfl) ?_
      refine jg_calX (M1 := mm_X12_isRule) (hy := 0) (pc' := 24) rfl jm_X12_isRule (by decide) rfl h0 (by decide) ⟨Nat.le_of_ble_eq_true rfl, rfl⟩ (Nat.le_of_ble_eq_true rfl) rfl h (jg_kI (fun z105 m104 h => ?_))
      refine jg_ifne (pc' := 27) rfl rfl (fun hc => ?_) (fun hc => ?_)
      · have h := jg_t h (show jg_wr z105 = 0 from hc)
        refine jg_goto rfl ?_
        exact h
      · have h := jg_f h (show ¬ (jg_wr z105 = 0) from hc)
        exact h
    · have h := jg_f h (show ¬ (jg_wr x1 = 2) from hc)
      refine jg_A (pc' := 31) rfl rfl (fun _ _ _ => rfl) ?_
      refine jg_A (pc' := 32) rfl rfl (fun _ _ _ => rfl) ?_
      refine jg_cne (pc' := 35) rfl rfl (fun hc => ?_) (fun hc => ?_)
      · have h := jg_t h (show jg_wr x1 = 3 from hc)
        refine jg_A (pc' := 36) rfl rfl (fun _ _ _ => rfl) ?_
        refine jg_A (pc' := 37) rfl rfl (fun _ _ _ => rfl) ?_
        refine jg_calX (M1 := mm_X12_isKind) (hy := 0) (pc' := 40) rfl jm_X12_isKind (by decide) rfl h0 (by decide) ⟨Nat.le_of_ble_eq_true rfl, rfl⟩ (Nat.le_of_ble_eq_true rfl) rfl h (jg_kI (fun z107 m106 h => ?_))
        refine jg_ifne (pc' := 43) rfl rfl (fun hc => ?_) (fun hc => ?_)
        · have h := jg_t h (show jg_wr z107 = 0 from hc)
          refine jg_goto rfl ?_
          exact h
        · have h := jg_f h (show ¬ (jg_wr z107 = 0) from hc)
          exact h
      · have h := jg_f h (show ¬ (jg_wr x1 = 3) from hc)
        refine jg_A (pc' := 47) rfl rfl (fun _ _ _ => rfl) ?_
        refine jg_ifeq (pc' := 50) rfl rfl (fun hc => ?_) (fun hc => ?_)
        · have h := jg_t h (show jg_wr x2 = 0 from hc)
          exact h
        · have h := jg_f h (show ¬ (jg_wr x2 = 0) from hc)
          exact h
set_option maxRecDepth 100000 in
set_option maxHeartbeats 4000000 in
theorem jb_X12_tried_50 {w : Nat} {u0 : Value} {u1 : Value} {u2 : Value} {u3 : Value} {σ : jg_M} {Q : Int → jg_M → Prop} (h : Q (-1) σ) : jg_GI w 5 mm_X12_tried 50 [u0, u1, u2, u3] σ Q := by
  show jg_G w 5 mm_X12_tried 50 [u0, u1, u2, u3] [] σ (jg_QI Q)
  refine jg_A (pc' := 51) rfl rfl (fun _ _ _ => rfl) ?_
  exact jg_iret rfl rfl h
set_option maxRecDepth 100000 in
set_option maxHeartbeats 4000000 in
theorem jb_X12_tried_52 {w : Nat} {a0 : Nat} {x1 : Int} {x2 : Int} {u3 : Value} {σ : jg_M} {Q : Int → jg_M → Prop} (h0 : jg_sh a0 = (12, 0)) (h : (if jg_wr x1 = 3 then jg_G w 5 mm_X12_tried 63 [.ref a0, .int (.ofInt x1), .int (.ofInt x2), u3] [.int (.ofInt x2), .ref a0] σ (jg_QI Q) else jg_G w 5 mm_X12_tried 63 [.ref a0, .int (.ofInt x1), .int (.ofInt x2), u3] [.int (.ofInt 0), .ref a0] σ (jg_QI Q))) : jg_GI w 5 mm_X12_tried 52 [.ref a0, .int (.ofInt x1), .int (.ofInt x2), u3] σ Q := by
  show jg_G w 5 mm_X12_tried 52 [.ref a0, .int (.ofInt x1), .int (.ofInt x2), u3] [] σ (jg_QI Q)
  refine jg_A (pc' := 53) rfl rfl (fun _ _ _ => rfl) ?_
  refine jg_A (pc' := 54) rfl rfl (fun _ _ _ => rfl) ?_
  refine jg_A (pc' := 55) rfl rfl (fun _ _ _ => rfl) ?_
  refine jg_cne (pc' := 58) rfl rfl (fun hc => ?_) (fun hc => ?_)
  · have h := jg_t h (show jg_wr x1 = 3 from hc)
    refine jg_A (pc' := 59) rfl rfl (fun _ _ _ => rfl) ?_
    refine jg_goto rfl ?_
    exact h
  · have h := jg_f h (show ¬ (jg_wr x1 = 3) from hc)
    refine jg_A (pc' := 63) rfl rfl (fun _ _ _ => rfl) ?_
    exact h
set_option maxRecDepth 100000 in
set_option maxHeartbeats 4000000 in
theorem jb_X12_tried_63 {w : Nat} {a0 : Nat} {x1 : Int} {x2 : Int} {u3 : Value} {y0 : Int} {b1 : Nat} {σ : jg_M} {Q : Int → jg_M → Prop} (h0 : jg_sh a0 = (12, 0)) (g1 : jg_sh b1 = (12, 0)) (h : ∀ m101 : jg_M, m101 = jg_sI σ b1 33 y0 → ∀ m102 : jg_M, m102 = jg_sI m101 a0 38 0 → (if jg_wr x1 = 2 then jg_G w 5 mm_X12_tried 84 [.ref a0, .int (.ofInt x1), .int (.ofInt x2), u3] [.int (.ofInt x2), .int (.ofInt 0), .int (.ofInt 1), .ref a0] m102 (jg_QI Q) else jg_G w 5 mm_X12_tried 84 [.ref a0, .int (.ofInt x1), .int (.ofInt x2), u3] [.int (.ofInt (-1)), .int (.ofInt 0), .int (.ofInt 1), .ref a0] m102 (jg_QI Q))) : jg_G w 5 mm_X12_tried 63 [.ref a0, .int (.ofInt x1), .int (.ofInt x2), u3] [.int (.ofInt y0), .ref b1] σ (jg_QI Q) := by
  show jg_G w 5 mm_X12_tried 63 [.ref a0, .int (.ofInt x1), .int (.ofInt x2), u3] [.int (.ofInt y0), .ref b1] σ (jg_QI Q)
  refine jg_putI (pc' := 66) (bi := 33) rfl g1 (by decide) rfl rfl rfl rfl (fun m101 hm101 => ?_)
  have h := h m101 hm101
  refine jg_A (pc' := 67) rfl rfl (fun _ _ _ => rfl) ?_
  refine jg_A (pc' := 68) rfl rfl (fun _ _ _ => rfl) ?_
  refine jg_putI (pc' := 71) (bi := 38) rfl h0 (by decide) rfl rfl rfl rfl (fun m102 hm102 => ?_)
  have h := h m102 hm102
  refine jg_A (pc' := 72) rfl rfl (fun _ _ _ => rfl) ?_
  refine jg_A (pc' := 73) rfl rfl (fun _ _ _ => rfl) ?_
  refine jg_A (pc' := 74) rfl rfl (fun _ _ _ => rfl) ?_
  refine jg_A (pc' := 75) rfl rfl (fun _ _ _ => rfl) ?_
  refine jg_A (pc' := 76) rfl rfl (fun _ _ _ => rfl) ?_
  refine jg_cne (pc' := 79) rfl rfl (fun hc => ?_) (fun hc => ?_)
  · have h := jg_t h (show jg_wr x1 = 2 from hc)
    refine jg_A (pc' := 80) rfl rfl (fun _ _ _ => rfl) ?_
    refine jg_goto rfl ?_
    exact h
  · have h := jg_f h (show ¬ (jg_wr x1 = 2) from hc)
    refine jg_A (pc' := 84) rfl rfl (fun _ _ _ => rfl) ?_
    exact h
set_option maxRecDepth 100000 in
set_option maxHeartbeats 4000000 in
theorem jb_X12_tried_84 {w : Nat} {a0 : Nat} {x1 : Int} {u2 : Value} {u3 : Value} {y0 : Int} {y1 : Int} {y2 : Int} {b3 : Nat} {σ : jg_M} {Q : Int → jg_M → Prop} (h0 : jg_sh a0 = (12, 0)) (g3 : jg_sh b3 = (12, 0)) (h : jg_CI w 4 mm_X12_layAll [.ref b3, .int (.ofInt y2), .int (.ofInt y1), .int (.ofInt y0)] σ (fun (z102 : Int) (m101 : jg_M) => (if jg_wr z102 = 0 then jg_GI w 5 mm_X12_tried 105 [.ref a0, .int (.ofInt x1), u2, .int (.ofInt z102)] m101 Q else (if jg_wr x1 = 4 then jg_CV w 3 mm_X12_layFollow [.ref a0, .int (.ofInt 1), .int (.ofInt 0), .int (.ofInt (-1)), .int (.ofInt 0)] m101 (fun (m103 : jg_M) => jg_GI w 5 mm_X12_tried 105 [.ref a0, .int (.ofInt x1), u2, .int (.ofInt z102)] m103 Q) else jg_GI w 5 mm_X12_tried 105 [.ref a0, .int (.ofInt x1), u2, .int (.ofInt z102)] m101 Q)))) : jg_G w 5 mm_X12_tried 84 [.ref a0, .int (.ofInt x1), u2, u3] [.int (.ofInt y0), .int (.ofInt y1), .int (.ofInt y2), .ref b3] σ (jg_QI Q) := by
  show jg_G w 5 mm_X12_tried 84 [.ref a0, .int (.ofInt x1), u2, u3] [.int (.ofInt y0), .int (.ofInt y1), .int (.ofInt y2), .ref b3] σ (jg_QI Q)
  refine jg_calX (M1 := mm_X12_layAll) (hy := 4) (pc' := 87) rfl jm_X12_layAll (by decide) rfl g3 (by decide) ⟨Nat.le_of_ble_eq_true rfl, rfl⟩ (Nat.le_of_ble_eq_true rfl) rfl h (jg_kI (fun z102 m101 h => ?_))
  refine jg_A (pc' := 88) (ls' := [.ref a0, .int (.ofInt x1), u2, .int (.ofInt z102)]) rfl rfl (fun _ _ _ => rfl) ?_
  refine jg_A (pc' := 89) rfl rfl (fun _ _ _ => rfl) ?_
  refine jg_ifeq (pc' := 92) rfl rfl (fun hc => ?_) (fun hc => ?_)
  · have h := jg_t h (show jg_wr z102 = 0 from hc)
    exact h
  · have h := jg_f h (show ¬ (jg_wr z102 = 0) from hc)
    refine jg_A (pc' := 93) rfl rfl (fun _ _ _ => rfl) ?_
    refine jg_A (pc' := 94) rfl rfl (fun _ _ _ => rfl) ?_
    refine jg_cne (pc' := 97) rfl rfl (fun hc => ?_) (fun hc => ?_)
    · have h := jg_t h (show jg_wr x1 = 4 from hc)
      refine jg_A (pc' := 98) rfl rfl (fun _ _ _ => rfl) ?_
      refine jg_A (pc' := 99) rfl rfl (fun _ _ _ => rfl) ?_
      refine jg_A (pc' := 100) rfl rfl (fun _ _ _ => rfl) ?_
      refine jg_A (pc' := 101) rfl rfl (fun _ _ _ => rfl) ?_
      refine jg_A (pc' := 102) rfl rfl (fun _ _ _ => rfl) ?_
      refine jg_calX (M1 := mm_X12_layFollow) (hy := 3) (pc' := 105) rfl jm_X12_layFollow (by decide) rfl h0 (by decide) ⟨Nat.le_of_ble_eq_true rfl, rfl⟩ (Nat.le_of_ble_eq_true rfl) rfl h (jg_kV (fun m103 h => ?_))
      exact h
    · have h := jg_f h (show ¬ (jg_wr x1 = 4) from hc)
      exact h
set_option maxRecDepth 100000 in
set_option maxHeartbeats 4000000 in
theorem jb_X12_tried_105 {w : Nat} {a0 : Nat} {x1 : Int} {u2 : Value} {x3 : Int} {σ : jg_M} {Q : Int → jg_M → Prop} (h0 : jg_sh a0 = (12, 0)) (h : (if jg_wr x1 = 0 then jg_G w 5 mm_X12_tried 133 [.ref a0, .int (.ofInt x1), u2, .int (.ofInt x3)] [.int (.ofInt 1), .ref a0] σ (jg_QI Q) else (if jg_wr x1 = 1 then jg_G w 5 mm_X12_tried 133 [.ref a0, .int (.ofInt x1), u2, .int (.ofInt x3)] [.int (.ofInt 2), .ref a0] σ (jg_QI Q) else (if jg_wr x1 = 4 then jg_G w 5 mm_X12_tried 133 [.ref a0, .int (.ofInt x1), u2, .int (.ofInt x3)] [.int (.ofInt 3), .ref a0] σ (jg_QI Q) else jg_G w 5 mm_X12_tried 133 [.ref a0, .int (.ofInt x1), u2, .int (.ofInt x3)] [.int (.ofInt 0), .ref a0] σ (jg_QI Q))))) : jg_GI w 5 mm_X12_tried 105 [.ref a0, .int (.ofInt x1), u2, .int (.ofInt x3)] σ Q := by
  show jg_G w 5 mm_X12_tried 105 [.ref a0, .int (.ofInt x1), u2, .int (.ofInt x3)] [] σ (jg_QI Q)
  refine jg_A (pc' := 106) rfl rfl (fun _ _ _ => rfl) ?_
  refine jg_A (pc' := 107) rfl rfl (fun _ _ _ => rfl) ?_
  refine jg_ifne (pc' := 110) rfl rfl (fun hc => ?_) (fun hc => ?_)
  · have h := jg_t h (show jg_wr x1 = 0 from hc)
    refine jg_A (pc' := 111) rfl rfl (fun _ _ _ => rfl) ?_
    refine jg_goto rfl ?_
    exact h
  · have h := jg_f h (show ¬ (jg_wr x1 = 0) from hc)
    refine jg_A (pc' := 115) rfl rfl (fun _ _ _ => rfl) ?_
    refine jg_A (pc' := 116) rfl rfl (fun _ _ _ => rfl) ?_
    refine jg_cne (pc' := 119) rfl rfl (fun hc => ?_) (fun hc => ?_)
    · have h := jg_t h (show jg_wr x1 = 1 from hc)
      refine jg_A (pc' := 120) rfl rfl (fun _ _ _ => rfl) ?_
      refine jg_goto rfl ?_
      exact h
    · have h := jg_f h (show ¬ (jg_wr x1 = 1) from hc)
      refine jg_A (pc' := 124) rfl rfl (fun _ _ _ => rfl) ?_
      refine jg_A (pc' := 125) rfl rfl (fun _ _ _ => rfl) ?_
      refine jg_cne (pc' := 128) rfl rfl (fun hc => ?_) (fun hc => ?_)
      · have h := jg_t h (show jg_wr x1 = 4 from hc)
        refine jg_A (pc' := 129) rfl rfl (fun _ _ _ => rfl) ?_
        refine jg_goto rfl ?_
        exact h
      · have h := jg_f h (show ¬ (jg_wr x1 = 4) from hc)
        refine jg_A (pc' := 133) rfl rfl (fun _ _ _ => rfl) ?_
        exact h
set_option maxRecDepth 100000 in
set_option maxHeartbeats 4000000 in
theorem jb_X12_tried_133 {w : Nat} {a0 : Nat} {u1 : Value} {u2 : Value} {x3 : Int} {y0 : Int} {b1 : Nat} {σ : jg_M} {Q : Int → jg_M → Prop} (h0 : jg_sh a0 = (12, 0)) (g1 : jg_sh b1 = (12, 0)) (h : ∀ m101 : jg_M, m101 = jg_sI σ b1 38 y0 → (if jg_wr x3 = 0 then jg_GI w 5 mm_X12_tried 144 [.ref a0, u1, u2, .int (.ofInt x3)] m101 Q else jg_CV w 3 mm_X12_layActions [.ref a0] m101 (fun (m102 : jg_M) => jg_GI w 5 mm_X12_tried 144 [.ref a0, u1, u2, .int (.ofInt x3)] m102 Q))) : jg_G w 5 mm_X12_tried 133 [.ref a0, u1, u2, .int (.ofInt x3)] [.int (.ofInt y0), .ref b1] σ (jg_QI Q) := by
  show jg_G w 5 mm_X12_tried 133 [.ref a0, u1, u2, .int (.ofInt x3)] [.int (.ofInt y0), .ref b1] σ (jg_QI Q)
  refine jg_putI (pc' := 136) (bi := 38) rfl g1 (by decide) rfl rfl rfl rfl (fun m101 hm101 => ?_)
  have h := h m101 hm101
  refine jg_A (pc' := 137) rfl rfl (fun _ _ _ => rfl) ?_
  refine jg_ifeq (pc' := 140) rfl rfl (fun hc => ?_) (fun hc => ?_)
  · have h := jg_t h (show jg_wr x3 = 0 from hc)
    exact h
  · have h := jg_f h (show ¬ (jg_wr x3 = 0) from hc)
    refine jg_A (pc' := 141) rfl rfl (fun _ _ _ => rfl) ?_
    refine jg_calX (M1 := mm_X12_layActions) (hy := 3) (pc' := 144) rfl jm_X12_layActions (by decide) rfl h0 (by decide) ⟨Nat.le_of_ble_eq_true rfl, rfl⟩ (Nat.le_of_ble_eq_true rfl) rfl h (jg_kV (fun m102 h => ?_))
    exact h
set_option maxRecDepth 100000 in
set_option maxHeartbeats 4000000 in
theorem jb_X12_tried_144 {w : Nat} {a0 : Nat} {u1 : Value} {u2 : Value} {x3 : Int} {σ : jg_M} {Q : Int → jg_M → Prop} (h0 : jg_sh a0 = (12, 0)) (h : jg_CV w 0 mm_X12_byText [.ref a0] σ (fun (m101 : jg_M) => (if jg_wr x3 = 0 then Q (-2) m101 else Q (m101.1 (a0 + 22) (1)) m101))) : jg_GI w 5 mm_X12_tried 144 [.ref a0, u1, u2, .int (.ofInt x3)] σ Q := by
  show jg_G w 5 mm_X12_tried 144 [.ref a0, u1, u2, .int (.ofInt x3)] [] σ (jg_QI Q)
  refine jg_A (pc' := 145) rfl rfl (fun _ _ _ => rfl) ?_
  refine jg_calX (M1 := mm_X12_byText) (hy := 0) (pc' := 148) rfl jm_X12_byText (by decide) rfl h0 (by decide) ⟨Nat.le_of_ble_eq_true rfl, rfl⟩ (Nat.le_of_ble_eq_true rfl) rfl h (jg_kV (fun m101 h => ?_))
  refine jg_A (pc' := 149) rfl rfl (fun _ _ _ => rfl) ?_
  refine jg_ifeq (pc' := 152) rfl rfl (fun hc => ?_) (fun hc => ?_)
  · have h := jg_t h (show jg_wr x3 = 0 from hc)
    refine jg_A (pc' := 163) rfl rfl (fun _ _ _ => rfl) ?_
    exact jg_iret rfl rfl h
  · have h := jg_f h (show ¬ (jg_wr x3 = 0) from hc)
    refine jg_A (pc' := 153) rfl rfl (fun _ _ _ => rfl) ?_
    refine jg_getO (pc' := 156) (k := 22) rfl h0 (by decide) rfl rfl ?_
    refine jg_A (pc' := 157) rfl rfl (fun _ _ _ => rfl) ?_
    refine jg_ialdK (pc' := 158) (xi := 1) rfl (jg_sX12_31 h0) (by decide) (by decide) rfl ?_
    refine jg_goto rfl ?_
    exact jg_iret rfl rfl h
set_option maxRecDepth 100000 in
set_option maxHeartbeats 4000000 in
theorem jb_X12_put_0 {w : Nat} {a0 : Nat} {a1 : Nat} {n1 : Nat} {x2 : Int} {σ : jg_M} {Q : jg_M → Prop} (h0 : jg_sh a0 = (12, 0)) (h1 : jg_sh a1 = (20, n1)) (h : jg_GV w 0 mm_X12_put 2 [.ref a0, .ref a1, .int (.ofInt x2), .int (.ofInt 0)] σ Q) : jg_CV w 0 mm_X12_put [.ref a0, .ref a1, .int (.ofInt x2)] σ Q := by
  show jg_G w 0 mm_X12_put 0 [.ref a0, .ref a1, .int (.ofInt x2), mj_U] [] σ (jg_QV Q)
  refine jg_A (pc' := 1) rfl rfl (fun _ _ _ => rfl) ?_
  refine jg_A (pc' := 2) (ls' := [.ref a0, .ref a1, .int (.ofInt x2), .int (.ofInt 0)]) rfl rfl (fun _ _ _ => rfl) ?_
  exact h
set_option maxRecDepth 100000 in
set_option maxHeartbeats 4000000 in
theorem jb_X12_put_2 {w : Nat} {a0 : Nat} {n1 : Nat} {a1 : Nat} {x2 : Int} {x3 : Int} {σ : jg_M} {Q : jg_M → Prop} (h0 : jg_sh a0 = (12, 0)) (h1 : jg_sh a1 = (20, n1)) (h : (if 40 ≤ jg_wr x3 then ((0 : Int) ≤ (jg_wr (x2 + 40)) ∧ (jg_wr (x2 + 40)) < (n1 : Int)) ∧ ∀ m101 : jg_M, m101 = jg_sI σ a1 (jg_wr (x2 + 40)) (σ.1 a0 58) → ((0 : Int) ≤ (jg_wr (x2 + 41)) ∧ (jg_wr (x2 + 41)) < (n1 : Int)) ∧ ∀ m102 : jg_M, m102 = jg_sI m101 a1 (jg_wr (x2 + 41)) (m101.1 a0 59) → ((0 : Int) ≤ (jg_wr (x2 + 42)) ∧ (jg_wr (x2 + 42)) < (n1 : Int)) ∧ ∀ m103 : jg_M, m103 = jg_sI m102 a1 (jg_wr (x2 + 42)) (m102.1 a0 60) → Q m103 else ((0 : Int) ≤ jg_wr x3 ∧ jg_wr x3 < (40 : Int)) ∧ ((0 : Int) ≤ (jg_wr (x2 + x3)) ∧ (jg_wr (x2 + x3)) < (n1 : Int)) ∧ ∀ m104 : jg_M, m104 = jg_sI σ a1 (jg_wr (x2 + x3)) (σ.1 (a0 + 38) (jg_wr x3)) → jg_GV w 0 mm_X12_put 2 [.ref a0, .ref a1, .int (.ofInt x2), .int (.ofInt (x3 + 1))] m104 Q)) : jg_GV w 0 mm_X12_put 2 [.ref a0, .ref a1, .int (.ofInt x2), .int (.ofInt x3)] σ Q := by
  show jg_G w 0 mm_X12_put 2 [.ref a0, .ref a1, .int (.ofInt x2), .int (.ofInt x3)] [] σ (jg_QV Q)
  refine jg_A (pc' := 3) rfl rfl (fun _ _ _ => rfl) ?_
  refine jg_A (pc' := 5) rfl rfl (fun _ _ _ => rfl) ?_
  refine jg_cge (pc' := 8) rfl rfl (fun hc => ?_) (fun hc => ?_)
  · have h := jg_t h (show 40 ≤ jg_wr x3 from hc)
    refine jg_A (pc' := 26) rfl rfl (fun _ _ _ => rfl) ?_
    refine jg_A (pc' := 27) rfl rfl (fun _ _ _ => rfl) ?_
    refine jg_A (pc' := 29) rfl rfl (fun _ _ _ => rfl) ?_
    refine jg_iadd (pc' := 30) rfl rfl ?_
    refine jg_A (pc' := 31) rfl rfl (fun _ _ _ => rfl) ?_
    refine jg_getI (pc' := 34) (bi := 58) rfl h0 (by decide) (Or.inl rfl) rfl rfl ?_
    obtain ⟨hg, h⟩ := h
    refine jg_iast (pc' := 35) rfl h1 hg rfl (fun m101 hm101 => ?_)
    have h := h m101 hm101
    refine jg_A (pc' := 36) rfl rfl (fun _ _ _ => rfl) ?_
    refine jg_A (pc' := 37) rfl rfl (fun _ _ _ => rfl) ?_
    refine jg_A (pc' := 39) rfl rfl (fun _ _ _ => rfl) ?_
    refine jg_iadd (pc' := 40) rfl rfl ?_
    refine jg_A (pc' := 41) rfl rfl (fun _ _ _ => rfl) ?_
    refine jg_getI (pc' := 44) (bi := 59) rfl h0 (by decide) (Or.inl rfl) rfl rfl ?_
    obtain ⟨hg, h⟩ := h
    refine jg_iast (pc' := 45) rfl h1 hg rfl (fun m102 hm102 => ?_)
    have h := h m102 hm102
    refine jg_A (pc' := 46) rfl rfl (fun _ _ _ => rfl) ?_
    refine jg_A (pc' := 47) rfl rfl (fun _ _ _ => rfl) ?_
    refine jg_A (pc' := 49) rfl rfl (fun _ _ _ => rfl) ?_
    refine jg_iadd (pc' := 50) rfl rfl ?_
    refine jg_A (pc' := 51) rfl rfl (fun _ _ _ => rfl) ?_
    refine jg_getI (pc' := 54) (bi := 60) rfl h0 (by decide) (Or.inl rfl) rfl rfl ?_
    obtain ⟨hg, h⟩ := h
    refine jg_iast (pc' := 55) rfl h1 hg rfl (fun m103 hm103 => ?_)
    have h := h m103 hm103
    exact jg_vret rfl rfl h
  · have h := jg_f h (show ¬ (40 ≤ jg_wr x3) from hc)
    refine jg_A (pc' := 9) rfl rfl (fun _ _ _ => rfl) ?_
    refine jg_A (pc' := 10) rfl rfl (fun _ _ _ => rfl) ?_
    refine jg_A (pc' := 11) rfl rfl (fun _ _ _ => rfl) ?_
    refine jg_iadd (pc' := 12) rfl rfl ?_
    refine jg_A (pc' := 13) rfl rfl (fun _ _ _ => rfl) ?_
    refine jg_getO (pc' := 16) (k := 38) rfl h0 (by decide) rfl rfl ?_
    refine jg_A (pc' := 17) rfl rfl (fun _ _ _ => rfl) ?_
    obtain ⟨hg, h⟩ := h
    refine jg_iald (pc' := 18) rfl (jg_sX12_57 h0) hg rfl ?_
    obtain ⟨hg, h⟩ := h
    refine jg_iast (pc' := 19) rfl h1 hg rfl (fun m104 hm104 => ?_)
    have h := h m104 hm104
    refine jg_iinc (pc' := 22) (ls' := [.ref a0, .ref a1, .int (.ofInt x2), .int (.ofInt (x3 + 1))]) rfl rfl rfl rfl ?_
    refine jg_goto rfl ?_
    exact h
set_option maxRecDepth 100000 in
set_option maxHeartbeats 4000000 in
theorem jb_X12_take_0 {w : Nat} {a0 : Nat} {a1 : Nat} {n1 : Nat} {x2 : Int} {σ : jg_M} {Q : jg_M → Prop} (h0 : jg_sh a0 = (12, 0)) (h1 : jg_sh a1 = (20, n1)) (h : jg_GV w 0 mm_X12_take 2 [.ref a0, .ref a1, .int (.ofInt x2), .int (.ofInt 0)] σ Q) : jg_CV w 0 mm_X12_take [.ref a0, .ref a1, .int (.ofInt x2)] σ Q := by
  show jg_G w 0 mm_X12_take 0 [.ref a0, .ref a1, .int (.ofInt x2), mj_U] [] σ (jg_QV Q)
  refine jg_A (pc' := 1) rfl rfl (fun _ _ _ => rfl) ?_
  refine jg_A (pc' := 2) (ls' := [.ref a0, .ref a1, .int (.ofInt x2), .int (.ofInt 0)]) rfl rfl (fun _ _ _ => rfl) ?_
  exact h
set_option maxRecDepth 100000 in
set_option maxHeartbeats 4000000 in
theorem jb_X12_take_2 {w : Nat} {a0 : Nat} {n1 : Nat} {a1 : Nat} {x2 : Int} {x3 : Int} {σ : jg_M} {Q : jg_M → Prop} (h0 : jg_sh a0 = (12, 0)) (h1 : jg_sh a1 = (20, n1)) (h : (if 40 ≤ jg_wr x3 then ((0 : Int) ≤ jg_wr (x2 + 40) ∧ jg_wr (x2 + 40) < (n1 : Int)) ∧ ∀ m101 : jg_M, m101 = jg_sI σ a0 58 (σ.1 a1 (jg_wr (x2 + 40))) → ((0 : Int) ≤ jg_wr (x2 + 41) ∧ jg_wr (x2 + 41) < (n1 : Int)) ∧ ∀ m102 : jg_M, m102 = jg_sI m101 a0 59 (m101.1 a1 (jg_wr (x2 + 41))) → ((0 : Int) ≤ jg_wr (x2 + 42) ∧ jg_wr (x2 + 42) < (n1 : Int)) ∧ ∀ m103 : jg_M, m103 = jg_sI m102 a0 60 (m102.1 a1 (jg_wr (x2 + 42))) → Q m103 else ((0 : Int) ≤ jg_wr (x2 + x3) ∧ jg_wr (x2 + x3) < (n1 : Int)) ∧ ((0 : Int) ≤ (jg_wr x3) ∧ (jg_wr x3) < (40 : Int)) ∧ ∀ m104 : jg_M, m104 = jg_sI σ (a0 + 38) (jg_wr x3) (σ.1 a1 (jg_wr (x2 + x3))) → jg_GV w 0 mm_X12_take 2 [.ref a0, .ref a1, .int (.ofInt x2), .int (.ofInt (x3 + 1))] m104 Q)) : jg_GV w 0 mm_X12_take 2 [.ref a0, .ref a1, .int (.ofInt x2), .int (.ofInt x3)] σ Q := by
  show jg_G w 0 mm_X12_take 2 [.ref a0, .ref a1, .int (.ofInt x2), .int (.ofInt x3)] [] σ (jg_QV Q)
  refine jg_A (pc' := 3) rfl rfl (fun _ _ _ => rfl) ?_
  refine jg_A (pc' := 5) rfl rfl (fun _ _ _ => rfl) ?_
  refine jg_cge (pc' := 8) rfl rfl (fun hc => ?_) (fun hc => ?_)
  · have h := jg_t h (show 40 ≤ jg_wr x3 from hc)
    refine jg_A (pc' := 26) rfl rfl (fun _ _ _ => rfl) ?_
    refine jg_A (pc' := 27) rfl rfl (fun _ _ _ => rfl) ?_
    refine jg_A (pc' := 28) rfl rfl (fun _ _ _ => rfl) ?_
    refine jg_A (pc' := 30) rfl rfl (fun _ _ _ => rfl) ?_
    refine jg_iadd (pc' := 31) rfl rfl ?_
    obtain ⟨hg, h⟩ := h
    refine jg_iald (pc' := 32) rfl h1 hg rfl ?_
    refine jg_putI (pc' := 35) (bi := 58) rfl h0 (by decide) rfl rfl rfl rfl (fun m101 hm101 => ?_)
    have h := h m101 hm101
    refine jg_A (pc' := 36) rfl rfl (fun _ _ _ => rfl) ?_
    refine jg_A (pc' := 37) rfl rfl (fun _ _ _ => rfl) ?_
    refine jg_A (pc' := 38) rfl rfl (fun _ _ _ => rfl) ?_
    refine jg_A (pc' := 40) rfl rfl (fun _ _ _ => rfl) ?_
    refine jg_iadd (pc' := 41) rfl rfl ?_
    obtain ⟨hg, h⟩ := h
    refine jg_iald (pc' := 42) rfl h1 hg rfl ?_
    refine jg_putI (pc' := 45) (bi := 59) rfl h0 (by decide) rfl rfl rfl rfl (fun m102 hm102 => ?_)
    have h := h m102 hm102
    refine jg_A (pc' := 46) rfl rfl (fun _ _ _ => rfl) ?_
    refine jg_A (pc' := 47) rfl rfl (fun _ _ _ => rfl) ?_
    refine jg_A (pc' := 48) rfl rfl (fun _ _ _ => rfl) ?_
    refine jg_A (pc' := 50) rfl rfl (fun _ _ _ => rfl) ?_
    refine jg_iadd (pc' := 51) rfl rfl ?_
    obtain ⟨hg, h⟩ := h
    refine jg_iald (pc' := 52) rfl h1 hg rfl ?_
    refine jg_putI (pc' := 55) (bi := 60) rfl h0 (by decide) rfl rfl rfl rfl (fun m103 hm103 => ?_)
    have h := h m103 hm103
    exact jg_vret rfl rfl h
  · have h := jg_f h (show ¬ (40 ≤ jg_wr x3) from hc)
    refine jg_A (pc' := 9) rfl rfl (fun _ _ _ => rfl) ?_
    refine jg_getO (pc' := 12) (k := 38) rfl h0 (by decide) rfl rfl ?_
    refine jg_A (pc' := 13) rfl rfl (fun _ _ _ => rfl) ?_
    refine jg_A (pc' := 14) rfl rfl (fun _ _ _ => rfl) ?_
    refine jg_A (pc' := 15) rfl rfl (fun _ _ _ => rfl) ?_
    refine jg_A (pc' := 16) rfl rfl (fun _ _ _ => rfl) ?_
    refine jg_iadd (pc' := 17) rfl rfl ?_
    obtain ⟨hg, h⟩ := h
    refine jg_iald (pc' := 18) rfl h1 hg rfl ?_
    obtain ⟨hg, h⟩ := h
    refine jg_iast (pc' := 19) rfl (jg_sX12_57 h0) hg rfl (fun m104 hm104 => ?_)
    have h := h m104 hm104
    refine jg_iinc (pc' := 22) (ls' := [.ref a0, .ref a1, .int (.ofInt x2), .int (.ofInt (x3 + 1))]) rfl rfl rfl rfl ?_
    refine jg_goto rfl ?_
    exact h
set_option maxRecDepth 100000 in
set_option maxHeartbeats 4000000 in
theorem jb_X12_remember_0 {w : Nat} {a0 : Nat} {σ : jg_M} {Q : jg_M → Prop} (h0 : jg_sh a0 = (12, 0)) (h : (if jg_wr (σ.1 a0 70) = 20 then jg_GV w 1 mm_X12_remember 11 [.ref a0, .int (.ofInt 0)] σ Q else jg_CV w 0 mm_X12_put [.ref a0, .ref (a0 + 46), .int (.ofInt (43 * (σ.1 a0 70)))] σ (fun (m101 : jg_M) => ∀ m102 : jg_M, m102 = jg_sI m101 a0 70 ((m101.1 a0 70) + 1) → Q m102))) : jg_CV w 1 mm_X12_remember [.ref a0] σ Q := by
  show jg_G w 1 mm_X12_remember 0 [.ref a0, mj_U] [] σ (jg_QV Q)
  refine jg_A (pc' := 1) rfl rfl (fun _ _ _ => rfl) ?_
  refine jg_getI (pc' := 4) (bi := 70) rfl h0 (by decide) (Or.inl rfl) rfl rfl ?_
  refine jg_A (pc' := 6) rfl rfl (fun _ _ _ => rfl) ?_
  refine jg_cne (pc' := 9) rfl rfl (fun hc => ?_) (fun hc => ?_)
  · have h := jg_t h (show jg_wr (σ.1 a0 70) = 20 from hc)
    refine jg_A (pc' := 10) rfl rfl (fun _ _ _ => rfl) ?_
    refine jg_A (pc' := 11) (ls' := [.ref a0, .int (.ofInt 0)]) rfl rfl (fun _ _ _ => rfl) ?_
    exact h
  · have h := jg_f h (show ¬ (jg_wr (σ.1 a0 70) = 20) from hc)
    refine jg_A (pc' := 50) rfl rfl (fun _ _ _ => rfl) ?_
    refine jg_A (pc' := 51) rfl rfl (fun _ _ _ => rfl) ?_
    refine jg_getO (pc' := 54) (k := 46) rfl h0 (by decide) rfl rfl ?_
    refine jg_A (pc' := 56) rfl rfl (fun _ _ _ => rfl) ?_
    refine jg_A (pc' := 57) rfl rfl (fun _ _ _ => rfl) ?_
    refine jg_getI (pc' := 60) (bi := 70) rfl h0 (by decide) (Or.inl rfl) rfl rfl ?_
    refine jg_imul (pc' := 61) rfl rfl ?_
    refine jg_calX (M1 := mm_X12_put) (hy := 0) (pc' := 64) rfl jm_X12_put (by decide) rfl h0 (by decide) ⟨Nat.le_of_ble_eq_true rfl, rfl⟩ (Nat.le_of_ble_eq_true rfl) rfl h (jg_kV (fun m101 h => ?_))
    refine jg_A (pc' := 65) rfl rfl (fun _ _ _ => rfl) ?_
    refine jg_A (pc' := 66) rfl rfl (fun _ _ _ => rfl) ?_
    refine jg_getI (pc' := 69) (bi := 70) rfl h0 (by decide) (Or.inl rfl) rfl rfl ?_
    refine jg_A (pc' := 70) rfl rfl (fun _ _ _ => rfl) ?_
    refine jg_iadd (pc' := 71) rfl rfl ?_
    refine jg_putI (pc' := 74) (bi := 70) rfl h0 (by decide) rfl rfl rfl rfl (fun m102 hm102 => ?_)
    have h := h m102 hm102
    exact jg_vret rfl rfl h
set_option maxRecDepth 100000 in
set_option maxHeartbeats 4000000 in
theorem jb_X12_remember_11 {w : Nat} {a0 : Nat} {x1 : Int} {σ : jg_M} {Q : jg_M → Prop} (h0 : jg_sh a0 = (12, 0)) (h : (if 817 ≤ jg_wr x1 then ∀ m101 : jg_M, m101 = jg_sI σ a0 70 ((σ.1 a0 70) - 1) → jg_CV w 0 mm_X12_put [.ref a0, .ref (a0 + 46), .int (.ofInt (43 * (m101.1 a0 70)))] m101 (fun (m102 : jg_M) => ∀ m103 : jg_M, m103 = jg_sI m102 a0 70 ((m102.1 a0 70) + 1) → Q m103) else ((0 : Int) ≤ jg_wr (x1 + 43) ∧ jg_wr (x1 + 43) < (860 : Int)) ∧ ((0 : Int) ≤ (jg_wr x1) ∧ (jg_wr x1) < (860 : Int)) ∧ ∀ m104 : jg_M, m104 = jg_sI σ (a0 + 46) (jg_wr x1) (σ.1 (a0 + 46) (jg_wr (x1 + 43))) → jg_GV w 1 mm_X12_remember 11 [.ref a0, .int (.ofInt (x1 + 1))] m104 Q)) : jg_GV w 1 mm_X12_remember 11 [.ref a0, .int (.ofInt x1)] σ Q := by
  show jg_G w 1 mm_X12_remember 11 [.ref a0, .int (.ofInt x1)] [] σ (jg_QV Q)
  refine jg_A (pc' := 12) rfl rfl (fun _ _ _ => rfl) ?_
  refine jg_A (pc' := 15) rfl rfl (fun _ _ _ => rfl) ?_
  refine jg_cge (pc' := 18) rfl rfl (fun hc => ?_) (fun hc => ?_)
  · have h := jg_t h (show 817 ≤ jg_wr x1 from hc)
    refine jg_A (pc' := 40) rfl rfl (fun _ _ _ => rfl) ?_
    refine jg_A (pc' := 41) rfl rfl (fun _ _ _ => rfl) ?_
    refine jg_getI (pc' := 44) (bi := 70) rfl h0 (by decide) (Or.inl rfl) rfl rfl ?_
    refine jg_A (pc' := 45) rfl rfl (fun _ _ _ => rfl) ?_
    refine jg_isub (pc' := 46) rfl rfl ?_
    refine jg_putI (pc' := 49) (bi := 70) rfl h0 (by decide) rfl rfl rfl rfl (fun m101 hm101 => ?_)
    have h := h m101 hm101
    refine jg_A (pc' := 50) rfl rfl (fun _ _ _ => rfl) ?_
    refine jg_A (pc' := 51) rfl rfl (fun _ _ _ => rfl) ?_
    refine jg_getO (pc' := 54) (k := 46) rfl h0 (by decide) rfl rfl ?_
    refine jg_A (pc' := 56) rfl rfl (fun _ _ _ => rfl) ?_
    refine jg_A (pc' := 57) rfl rfl (fun _ _ _ => rfl) ?_
    refine jg_getI (pc' := 60) (bi := 70) rfl h0 (by decide) (Or.inl rfl) rfl rfl ?_
    refine jg_imul (pc' := 61) rfl rfl ?_
    refine jg_calX (M1 := mm_X12_put) (hy := 0) (pc' := 64) rfl jm_X12_put (by decide) rfl h0 (by decide) ⟨Nat.le_of_ble_eq_true rfl, rfl⟩ (Nat.le_of_ble_eq_true rfl) rfl h (jg_kV (fun m102 h => ?_))
    refine jg_A (pc' := 65) rfl rfl (fun _ _ _ => rfl) ?_
    refine jg_A (pc' := 66) rfl rfl (fun _ _ _ => rfl) ?_
    refine jg_getI (pc' := 69) (bi := 70) rfl h0 (by decide) (Or.inl rfl) rfl rfl ?_
    refine jg_A (pc' := 70) rfl rfl (fun _ _ _ => rfl) ?_
    refine jg_iadd (pc' := 71) rfl rfl ?_
    refine jg_putI (pc' := 74) (bi := 70) rfl h0 (by decide) rfl rfl rfl rfl (fun m103 hm103 => ?_)
    have h := h m103 hm103
    exact jg_vret rfl rfl h
  · have h := jg_f h (show ¬ (817 ≤ jg_wr x1) from hc)
    refine jg_A (pc' := 19) rfl rfl (fun _ _ _ => rfl) ?_
    refine jg_getO (pc' := 22) (k := 46) rfl h0 (by decide) rfl rfl ?_
    refine jg_A (pc' := 23) rfl rfl (fun _ _ _ => rfl) ?_
    refine jg_A (pc' := 24) rfl rfl (fun _ _ _ => rfl) ?_
    refine jg_getO (pc' := 27) (k := 46) rfl h0 (by decide) rfl rfl ?_
    refine jg_A (pc' := 28) rfl rfl (fun _ _ _ => rfl) ?_
    refine jg_A (pc' := 30) rfl rfl (fun _ _ _ => rfl) ?_
    refine jg_iadd (pc' := 31) rfl rfl ?_
    obtain ⟨hg, h⟩ := h
    refine jg_iald (pc' := 32) rfl (jg_sX12_71 h0) hg rfl ?_
    obtain ⟨hg, h⟩ := h
    refine jg_iast (pc' := 33) rfl (jg_sX12_71 h0) hg rfl (fun m104 hm104 => ?_)
    have h := h m104 hm104
    refine jg_iinc (pc' := 36) (ls' := [.ref a0, .int (.ofInt (x1 + 1))]) rfl rfl rfl rfl ?_
    refine jg_goto rfl ?_
    exact h
set_option maxRecDepth 100000 in
set_option maxHeartbeats 4000000 in
theorem jb_X12_undo_0 {w : Nat} {a0 : Nat} {σ : jg_M} {Q : Int → jg_M → Prop} (h0 : jg_sh a0 = (12, 0)) (h : ∀ m101 : jg_M, m101 = jg_sI σ a0 2 0 → (if jg_wr (m101.1 a0 70) = 0 then Q (-1) m101 else ∀ m102 : jg_M, m102 = jg_sI m101 a0 70 ((m101.1 a0 70) - 1) → jg_CV w 0 mm_X12_take [.ref a0, .ref (a0 + 46), .int (.ofInt (43 * (m102.1 a0 70)))] m102 (fun (m103 : jg_M) => Q (m103.1 a0 70) m103))) : jg_CI w 1 mm_X12_undo [.ref a0] σ Q := by
  show jg_G w 1 mm_X12_undo 0 [.ref a0] [] σ (jg_QI Q)
  refine jg_A (pc' := 1) rfl rfl (fun _ _ _ => rfl) ?_
  refine jg_A (pc' := 2) rfl rfl (fun _ _ _ => rfl) ?_
  refine jg_putI (pc' := 5) (bi := 2) rfl h0 (by decide) rfl rfl rfl rfl (fun m101 hm101 => ?_)
  have h := h m101 hm101
  refine jg_A (pc' := 6) rfl rfl (fun _ _ _ => rfl) ?_
  refine jg_getI (pc' := 9) (bi := 70) rfl h0 (by decide) (Or.inl rfl) rfl rfl ?_
  refine jg_ifne (pc' := 12) rfl rfl (fun hc => ?_) (fun hc => ?_)
  · have h := jg_t h (show jg_wr (m101.1 a0 70) = 0 from hc)
    refine jg_A (pc' := 13) rfl rfl (fun _ _ _ => rfl) ?_
    exact jg_iret rfl rfl h
  · have h := jg_f h (show ¬ (jg_wr (m101.1 a0 70) = 0) from hc)
    refine jg_A (pc' := 15) rfl rfl (fun _ _ _ => rfl) ?_
    refine jg_A (pc' := 16) rfl rfl (fun _ _ _ => rfl) ?_
    refine jg_getI (pc' := 19) (bi := 70) rfl h0 (by decide) (Or.inl rfl) rfl rfl ?_
    refine jg_A (pc' := 20) rfl rfl (fun _ _ _ => rfl) ?_
    refine jg_isub (pc' := 21) rfl rfl ?_
    refine jg_putI (pc' := 24) (bi := 70) rfl h0 (by decide) rfl rfl rfl rfl (fun m102 hm102 => ?_)
    have h := h m102 hm102
    refine jg_A (pc' := 25) rfl rfl (fun _ _ _ => rfl) ?_
    refine jg_A (pc' := 26) rfl rfl (fun _ _ _ => rfl) ?_
    refine jg_getO (pc' := 29) (k := 46) rfl h0 (by decide) rfl rfl ?_
    refine jg_A (pc' := 31) rfl rfl (fun _ _ _ => rfl) ?_
    refine jg_A (pc' := 32) rfl rfl (fun _ _ _ => rfl) ?_
    refine jg_getI (pc' := 35) (bi := 70) rfl h0 (by decide) (Or.inl rfl) rfl rfl ?_
    refine jg_imul (pc' := 36) rfl rfl ?_
    refine jg_calX (M1 := mm_X12_take) (hy := 0) (pc' := 39) rfl jm_X12_take (by decide) rfl h0 (by decide) ⟨Nat.le_of_ble_eq_true rfl, rfl⟩ (Nat.le_of_ble_eq_true rfl) rfl h (jg_kV (fun m103 h => ?_))
    refine jg_A (pc' := 40) rfl rfl (fun _ _ _ => rfl) ?_
    refine jg_getI (pc' := 43) (bi := 70) rfl h0 (by decide) (Or.inl rfl) rfl rfl ?_
    exact jg_iret rfl rfl h
set_option maxRecDepth 100000 in
set_option maxHeartbeats 4000000 in
theorem jb_X12_keep_0 {w : Nat} {a0 : Nat} {σ : jg_M} {Q : Int → jg_M → Prop} (h0 : jg_sh a0 = (12, 0)) (h : ∀ m101 : jg_M, m101 = jg_sI σ a0 2 0 → ∀ m102 : jg_M, m102 = jg_sI m101 a0 72 1 → jg_CV w 0 mm_X12_put [.ref a0, .ref (a0 + 47), .int (.ofInt 0)] m102 (fun (m103 : jg_M) => Q (m103.1 a0 58) m103)) : jg_CI w 1 mm_X12_keep [.ref a0] σ Q := by
  show jg_G w 1 mm_X12_keep 0 [.ref a0] [] σ (jg_QI Q)
  refine jg_A (pc' := 1) rfl rfl (fun _ _ _ => rfl) ?_
  refine jg_A (pc' := 2) rfl rfl (fun _ _ _ => rfl) ?_
  refine jg_putI (pc' := 5) (bi := 2) rfl h0 (by decide) rfl rfl rfl rfl (fun m101 hm101 => ?_)
  have h := h m101 hm101
  refine jg_A (pc' := 6) rfl rfl (fun _ _ _ => rfl) ?_
  refine jg_A (pc' := 7) rfl rfl (fun _ _ _ => rfl) ?_
  refine jg_putZ (pc' := 10) (bi := 72) rfl h0 (by decide) rfl rfl (by decide) rfl rfl (fun m102 hm102 => ?_)
  have h := h m102 hm102
  refine jg_A (pc' := 11) rfl rfl (fun _ _ _ => rfl) ?_
  refine jg_A (pc' := 12) rfl rfl (fun _ _ _ => rfl) ?_
  refine jg_getO (pc' := 15) (k := 47) rfl h0 (by decide) rfl rfl ?_
  refine jg_A (pc' := 16) rfl rfl (fun _ _ _ => rfl) ?_
  refine jg_calX (M1 := mm_X12_put) (hy := 0) (pc' := 19) rfl jm_X12_put (by decide) rfl h0 (by decide) ⟨Nat.le_of_ble_eq_true rfl, rfl⟩ (Nat.le_of_ble_eq_true rfl) rfl h (jg_kV (fun m103 h => ?_))
  refine jg_A (pc' := 20) rfl rfl (fun _ _ _ => rfl) ?_
  refine jg_getI (pc' := 23) (bi := 58) rfl h0 (by decide) (Or.inl rfl) rfl rfl ?_
  exact jg_iret rfl rfl h
set_option maxRecDepth 100000 in
set_option maxHeartbeats 4000000 in
theorem jb_X12_back_0 {w : Nat} {a0 : Nat} {σ : jg_M} {Q : Int → jg_M → Prop} (h0 : jg_sh a0 = (12, 0)) (h : ∀ m101 : jg_M, m101 = jg_sI σ a0 2 0 → (if jg_wr (m101.1 a0 72) = 0 then Q (-1) m101 else jg_CV w 0 mm_X12_take [.ref a0, .ref (a0 + 47), .int (.ofInt 0)] m101 (fun (m102 : jg_M) => ∀ m103 : jg_M, m103 = jg_sI m102 a0 70 0 → Q (m103.1 a0 58) m103))) : jg_CI w 1 mm_X12_back [.ref a0] σ Q := by
  show jg_G w 1 mm_X12_back 0 [.ref a0] [] σ (jg_QI Q)
  refine jg_A (pc' := 1) rfl rfl (fun _ _ _ => rfl) ?_
  refine jg_A (pc' := 2) rfl rfl (fun _ _ _ => rfl) ?_
  refine jg_putI (pc' := 5) (bi := 2) rfl h0 (by decide) rfl rfl rfl rfl (fun m101 hm101 => ?_)
  have h := h m101 hm101
  refine jg_A (pc' := 6) rfl rfl (fun _ _ _ => rfl) ?_
  refine jg_getI (pc' := 9) (bi := 72) rfl h0 (by decide) (Or.inr rfl) rfl rfl ?_
  refine jg_ifne (pc' := 12) rfl rfl (fun hc => ?_) (fun hc => ?_)
  · have h := jg_t h (show jg_wr (m101.1 a0 72) = 0 from hc)
    refine jg_A (pc' := 13) rfl rfl (fun _ _ _ => rfl) ?_
    exact jg_iret rfl rfl h
  · have h := jg_f h (show ¬ (jg_wr (m101.1 a0 72) = 0) from hc)
    refine jg_A (pc' := 15) rfl rfl (fun _ _ _ => rfl) ?_
    refine jg_A (pc' := 16) rfl rfl (fun _ _ _ => rfl) ?_
    refine jg_getO (pc' := 19) (k := 47) rfl h0 (by decide) rfl rfl ?_
    refine jg_A (pc' := 20) rfl rfl (fun _ _ _ => rfl) ?_
    refine jg_calX (M1 := mm_X12_take) (hy := 0) (pc' := 23) rfl jm_X12_take (by decide) rfl h0 (by decide) ⟨Nat.le_of_ble_eq_true rfl, rfl⟩ (Nat.le_of_ble_eq_true rfl) rfl h (jg_kV (fun m102 h => ?_))
    refine jg_A (pc' := 24) rfl rfl (fun _ _ _ => rfl) ?_
    refine jg_A (pc' := 25) rfl rfl (fun _ _ _ => rfl) ?_
    refine jg_putI (pc' := 28) (bi := 70) rfl h0 (by decide) rfl rfl rfl rfl (fun m103 hm103 => ?_)
    have h := h m103 hm103
    refine jg_A (pc' := 29) rfl rfl (fun _ _ _ => rfl) ?_
    refine jg_getI (pc' := 32) (bi := 58) rfl h0 (by decide) (Or.inl rfl) rfl rfl ?_
    exact jg_iret rfl rfl h
set_option maxRecDepth 100000 in
set_option maxHeartbeats 4000000 in
theorem jb_X12_count_0 {w : Nat} {a0 : Nat} {x1 : Int} {σ : jg_M} {Q : Int → jg_M → Prop} (h0 : jg_sh a0 = (12, 0)) (h : ∀ m101 : jg_M, m101 = jg_sI σ a0 2 0 → (if jg_wr x1 = 0 then Q (m101.1 (a0 + 3) (0)) m101 else (if jg_wr x1 = 1 then Q (m101.1 (a0 + 4) (0)) m101 else (if jg_wr x1 = 2 then Q (m101.1 (a0 + 5) (0)) m101 else (if jg_wr x1 = 3 then Q (m101.1 (a0 + 13) (0)) m101 else (if jg_wr x1 = 4 then jg_GI w 1 mm_X12_count 110 [.ref a0, .int (.ofInt x1), .int (.ofInt 0), .int (.ofInt 0)] m101 Q else (if jg_wr x1 = 5 then jg_GI w 1 mm_X12_count 139 [.ref a0, .int (.ofInt x1), .int (.ofInt 0), .int (.ofInt 0)] m101 Q else (if jg_wr x1 = 6 then jg_GI w 1 mm_X12_count 179 [.ref a0, .int (.ofInt x1), .int (.ofInt 0), .int (.ofInt 0)] m101 Q else (if jg_wr x1 = 7 then Q (m101.1 a0 60) m101 else (if jg_wr x1 = 8 then Q (m101.1 a0 59) m101 else (if jg_wr x1 = 9 then Q (m101.1 a0 58) m101 else (if jg_wr x1 = 10 then Q (m101.1 a0 52) m101 else (if jg_wr x1 = 11 then Q (m101.1 a0 65) m101 else (if jg_wr x1 = 12 then jg_CI w 0 mm_X12_knownBy [.ref a0] m101 (fun (z103 : Int) (m102 : jg_M) => Q z103 m102) else (if jg_wr x1 = 13 then Q (m101.1 a0 70) m101 else Q (-1) m101))))))))))))))) : jg_CI w 1 mm_X12_count [.ref a0, .int (.ofInt x1)] σ Q := by
  show jg_G w 1 mm_X12_count 0 [.ref a0, .int (.ofInt x1), mj_U, mj_U] [] σ (jg_QI Q)
  refine jg_A (pc' := 1) rfl rfl (fun _ _ _ => rfl) ?_
  refine jg_A (pc' := 2) rfl rfl (fun _ _ _ => rfl) ?_
  refine jg_putI (pc' := 5) (bi := 2) rfl h0 (by decide) rfl rfl rfl rfl (fun m101 hm101 => ?_)
  have h := h m101 hm101
  refine jg_A (pc' := 6) rfl rfl (fun _ _ _ => rfl) ?_
  refine jg_A (pc' := 7) (ls' := [.ref a0, .int (.ofInt x1), .int (.ofInt 0), mj_U]) rfl rfl (fun _ _ _ => rfl) ?_
  refine jg_A (pc' := 8) rfl rfl (fun _ _ _ => rfl) ?_
  refine jg_tsw rfl rfl ?_
  refine jg_swc (v := 0) (t := 80) (fun hc => ?_) (fun hc => ?_)
  · have h := jg_t h hc
    refine jg_A (pc' := 81) rfl rfl (fun _ _ _ => rfl) ?_
    refine jg_getO (pc' := 84) (k := 3) rfl h0 (by decide) rfl rfl ?_
    refine jg_A (pc' := 85) rfl rfl (fun _ _ _ => rfl) ?_
    refine jg_ialdK (pc' := 86) (xi := 0) rfl (jg_sX12_12 h0) (by decide) (by decide) rfl ?_
    exact jg_iret rfl rfl h
  have h := jg_f h hc
  refine jg_swc (v := 1) (t := 87) (fun hc => ?_) (fun hc => ?_)
  · have h := jg_t h hc
    refine jg_A (pc' := 88) rfl rfl (fun _ _ _ => rfl) ?_
    refine jg_getO (pc' := 91) (k := 4) rfl h0 (by decide) rfl rfl ?_
    refine jg_A (pc' := 92) rfl rfl (fun _ _ _ => rfl) ?_
    refine jg_ialdK (pc' := 93) (xi := 0) rfl (jg_sX12_13 h0) (by decide) (by decide) rfl ?_
    exact jg_iret rfl rfl h
  have h := jg_f h hc
  refine jg_swc (v := 2) (t := 94) (fun hc => ?_) (fun hc => ?_)
  · have h := jg_t h hc
    refine jg_A (pc' := 95) rfl rfl (fun _ _ _ => rfl) ?_
    refine jg_getO (pc' := 98) (k := 5) rfl h0 (by decide) rfl rfl ?_
    refine jg_A (pc' := 99) rfl rfl (fun _ _ _ => rfl) ?_
    refine jg_ialdK (pc' := 100) (xi := 0) rfl (jg_sX12_14 h0) (by decide) (by decide) rfl ?_
    exact jg_iret rfl rfl h
  have h := jg_f h hc
  refine jg_swc (v := 3) (t := 101) (fun hc => ?_) (fun hc => ?_)
  · have h := jg_t h hc
    refine jg_A (pc' := 102) rfl rfl (fun _ _ _ => rfl) ?_
    refine jg_getO (pc' := 105) (k := 13) rfl h0 (by decide) rfl rfl ?_
    refine jg_A (pc' := 106) rfl rfl (fun _ _ _ => rfl) ?_
    refine jg_ialdK (pc' := 107) (xi := 0) rfl (jg_sX12_22 h0) (by decide) (by decide) rfl ?_
    exact jg_iret rfl rfl h
  have h := jg_f h hc
  refine jg_swc (v := 4) (t := 108) (fun hc => ?_) (fun hc => ?_)
  · have h := jg_t h hc
    refine jg_A (pc' := 109) rfl rfl (fun _ _ _ => rfl) ?_
    refine jg_A (pc' := 110) (ls' := [.ref a0, .int (.ofInt x1), .int (.ofInt 0), .int (.ofInt 0)]) rfl rfl (fun _ _ _ => rfl) ?_
    exact h
  have h := jg_f h hc
  refine jg_swc (v := 5) (t := 137) (fun hc => ?_) (fun hc => ?_)
  · have h := jg_t h hc
    refine jg_A (pc' := 138) rfl rfl (fun _ _ _ => rfl) ?_
    refine jg_A (pc' := 139) (ls' := [.ref a0, .int (.ofInt x1), .int (.ofInt 0), .int (.ofInt 0)]) rfl rfl (fun _ _ _ => rfl) ?_
    exact h
  have h := jg_f h hc
  refine jg_swc (v := 6) (t := 177) (fun hc => ?_) (fun hc => ?_)
  · have h := jg_t h hc
    refine jg_A (pc' := 178) rfl rfl (fun _ _ _ => rfl) ?_
    refine jg_A (pc' := 179) (ls' := [.ref a0, .int (.ofInt x1), .int (.ofInt 0), .int (.ofInt 0)]) rfl rfl (fun _ _ _ => rfl) ?_
    exact h
  have h := jg_f h hc
  refine jg_swc (v := 7) (t := 205) (fun hc => ?_) (fun hc => ?_)
  · have h := jg_t h hc
    refine jg_A (pc' := 206) rfl rfl (fun _ _ _ => rfl) ?_
    refine jg_getI (pc' := 209) (bi := 60) rfl h0 (by decide) (Or.inl rfl) rfl rfl ?_
    exact jg_iret rfl rfl h
  have h := jg_f h hc
  refine jg_swc (v := 8) (t := 210) (fun hc => ?_) (fun hc => ?_)
  · have h := jg_t h hc
    refine jg_A (pc' := 211) rfl rfl (fun _ _ _ => rfl) ?_
    refine jg_getI (pc' := 214) (bi := 59) rfl h0 (by decide) (Or.inl rfl) rfl rfl ?_
    exact jg_iret rfl rfl h
  have h := jg_f h hc
  refine jg_swc (v := 9) (t := 215) (fun hc => ?_) (fun hc => ?_)
  · have h := jg_t h hc
    refine jg_A (pc' := 216) rfl rfl (fun _ _ _ => rfl) ?_
    refine jg_getI (pc' := 219) (bi := 58) rfl h0 (by decide) (Or.inl rfl) rfl rfl ?_
    exact jg_iret rfl rfl h
  have h := jg_f h hc
  refine jg_swc (v := 10) (t := 220) (fun hc => ?_) (fun hc => ?_)
  · have h := jg_t h hc
    refine jg_A (pc' := 221) rfl rfl (fun _ _ _ => rfl) ?_
    refine jg_getI (pc' := 224) (bi := 52) rfl h0 (by decide) (Or.inl rfl) rfl rfl ?_
    exact jg_iret rfl rfl h
  have h := jg_f h hc
  refine jg_swc (v := 11) (t := 225) (fun hc => ?_) (fun hc => ?_)
  · have h := jg_t h hc
    refine jg_A (pc' := 226) rfl rfl (fun _ _ _ => rfl) ?_
    refine jg_getI (pc' := 229) (bi := 65) rfl h0 (by decide) (Or.inl rfl) rfl rfl ?_
    exact jg_iret rfl rfl h
  have h := jg_f h hc
  refine jg_swc (v := 12) (t := 230) (fun hc => ?_) (fun hc => ?_)
  · have h := jg_t h hc
    refine jg_A (pc' := 231) rfl rfl (fun _ _ _ => rfl) ?_
    refine jg_calX (M1 := mm_X12_knownBy) (hy := 0) (pc' := 234) rfl jm_X12_knownBy (by decide) rfl h0 (by decide) ⟨Nat.le_of_ble_eq_true rfl, rfl⟩ (Nat.le_of_ble_eq_true rfl) rfl h (jg_kI (fun z103 m102 h => ?_))
    exact jg_iret rfl rfl h
  have h := jg_f h hc
  refine jg_swc (v := 13) (t := 235) (fun hc => ?_) (fun hc => ?_)
  · have h := jg_t h hc
    refine jg_A (pc' := 236) rfl rfl (fun _ _ _ => rfl) ?_
    refine jg_getI (pc' := 239) (bi := 70) rfl h0 (by decide) (Or.inl rfl) rfl rfl ?_
    exact jg_iret rfl rfl h
  have h := jg_f h hc
  show jg_G w 1 mm_X12_count 240 [.ref a0, .int (.ofInt x1), .int (.ofInt 0), mj_U] [] m101 (jg_QI Q)
  refine jg_A (pc' := 241) rfl rfl (fun _ _ _ => rfl) ?_
  exact jg_iret rfl rfl h
set_option maxRecDepth 100000 in
set_option maxHeartbeats 4000000 in
theorem jb_X12_count_110 {w : Nat} {a0 : Nat} {u1 : Value} {x2 : Int} {x3 : Int} {σ : jg_M} {Q : Int → jg_M → Prop} (h0 : jg_sh a0 = (12, 0)) (h : (if jg_wr (σ.1 (a0 + 13) (0)) ≤ jg_wr x3 then Q x2 σ else jg_CI w 0 mm_X12_itemsOf [.ref a0, .int (.ofInt x3), .int (.ofInt 0)] σ (fun (z102 : Int) (m101 : jg_M) => ∀ t103 : Int, t103 = (x2 + z102) → jg_GI w 1 mm_X12_count 110 [.ref a0, u1, .int (.ofInt t103), .int (.ofInt (x3 + 1))] m101 Q))) : jg_GI w 1 mm_X12_count 110 [.ref a0, u1, .int (.ofInt x2), .int (.ofInt x3)] σ Q := by
  show jg_G w 1 mm_X12_count 110 [.ref a0, u1, .int (.ofInt x2), .int (.ofInt x3)] [] σ (jg_QI Q)
  refine jg_A (pc' := 111) rfl rfl (fun _ _ _ => rfl) ?_
  refine jg_A (pc' := 112) rfl rfl (fun _ _ _ => rfl) ?_
  refine jg_getO (pc' := 115) (k := 13) rfl h0 (by decide) rfl rfl ?_
  refine jg_A (pc' := 116) rfl rfl (fun _ _ _ => rfl) ?_
  refine jg_ialdK (pc' := 117) (xi := 0) rfl (jg_sX12_22 h0) (by decide) (by decide) rfl ?_
  refine jg_cge (pc' := 120) rfl rfl (fun hc => ?_) (fun hc => ?_)
  · have h := jg_t h (show jg_wr (σ.1 (a0 + 13) (0)) ≤ jg_wr x3 from hc)
    refine jg_A (pc' := 136) rfl rfl (fun _ _ _ => rfl) ?_
    exact jg_iret rfl rfl h
  · have h := jg_f h (show ¬ (jg_wr (σ.1 (a0 + 13) (0)) ≤ jg_wr x3) from hc)
    refine jg_A (pc' := 121) rfl rfl (fun _ _ _ => rfl) ?_
    refine jg_A (pc' := 122) rfl rfl (fun _ _ _ => rfl) ?_
    refine jg_A (pc' := 123) rfl rfl (fun _ _ _ => rfl) ?_
    refine jg_A (pc' := 124) rfl rfl (fun _ _ _ => rfl) ?_
    refine jg_calX (M1 := mm_X12_itemsOf) (hy := 0) (pc' := 127) rfl jm_X12_itemsOf (by decide) rfl h0 (by decide) ⟨Nat.le_of_ble_eq_true rfl, rfl⟩ (Nat.le_of_ble_eq_true rfl) rfl h (jg_kI (fun z102 m101 h => ?_))
    refine jg_iadd (pc' := 128) rfl rfl ?_
    refine jg_nm (F := fun t103 => jg_G w 1 mm_X12_count 128 [.ref a0, u1, .int (.ofInt x2), .int (.ofInt x3)] [.int (.ofInt t103)] m101 (jg_QI Q)) (x2 + z102) (fun t103 ht103 => ?_)
    have h := h t103 ht103
    refine jg_A (pc' := 129) (ls' := [.ref a0, u1, .int (.ofInt t103), .int (.ofInt x3)]) rfl rfl (fun _ _ _ => rfl) ?_
    refine jg_iinc (pc' := 132) (ls' := [.ref a0, u1, .int (.ofInt t103), .int (.ofInt (x3 + 1))]) rfl rfl rfl rfl ?_
    refine jg_goto rfl ?_
    exact h
set_option maxRecDepth 100000 in
set_option maxHeartbeats 4000000 in
theorem jb_X12_count_139 {w : Nat} {a0 : Nat} {u1 : Value} {x2 : Int} {x3 : Int} {σ : jg_M} {Q : Int → jg_M → Prop} (h0 : jg_sh a0 = (12, 0)) (h : (if jg_wr (12 * (σ.1 (a0 + 13) (0))) ≤ jg_wr x3 then Q x2 σ else ((0 : Int) ≤ jg_wr x3 ∧ jg_wr x3 < (1152 : Int)) ∧ (if jg_wr (σ.1 (a0 + 16) (jg_wr x3)) < 0 then ∀ t101 : Int, t101 = (x2 + 0) → jg_GI w 1 mm_X12_count 139 [.ref a0, u1, .int (.ofInt t101), .int (.ofInt (x3 + 1))] σ Q else ∀ t102 : Int, t102 = (x2 + 1) → jg_GI w 1 mm_X12_count 139 [.ref a0, u1, .int (.ofInt t102), .int (.ofInt (x3 + 1))] σ Q))) : jg_GI w 1 mm_X12_count 139 [.ref a0, u1, .int (.ofInt x2), .int (.ofInt x3)] σ Q := by
  show jg_G w 1 mm_X12_count 139 [.ref a0, u1, .int (.ofInt x2), .int (.ofInt x3)] [] σ (jg_QI Q)
  refine jg_A (pc' := 140) rfl rfl (fun _ _ _ => rfl) ?_
  refine jg_A (pc' := 142) rfl rfl (fun _ _ _ => rfl) ?_
  refine jg_A (pc' := 143) rfl rfl (fun _ _ _ => rfl) ?_
  refine jg_getO (pc' := 146) (k := 13) rfl h0 (by decide) rfl rfl ?_
  refine jg_A (pc' := 147) rfl rfl (fun _ _ _ => rfl) ?_
  refine jg_ialdK (pc' := 148) (xi := 0) rfl (jg_sX12_22 h0) (by decide) (by decide) rfl ?_
  refine jg_imul (pc' := 149) rfl rfl ?_
  refine jg_cge (pc' := 152) rfl rfl (fun hc => ?_) (fun hc => ?_)
  · have h := jg_t h (show jg_wr (12 * (σ.1 (a0 + 13) (0))) ≤ jg_wr x3 from hc)
    refine jg_A (pc' := 176) rfl rfl (fun _ _ _ => rfl) ?_
    exact jg_iret rfl rfl h
  · have h := jg_f h (show ¬ (jg_wr (12 * (σ.1 (a0 + 13) (0))) ≤ jg_wr x3) from hc)
    refine jg_A (pc' := 153) rfl rfl (fun _ _ _ => rfl) ?_
    refine jg_A (pc' := 154) rfl rfl (fun _ _ _ => rfl) ?_
    refine jg_getO (pc' := 157) (k := 16) rfl h0 (by decide) rfl rfl ?_
    refine jg_A (pc' := 158) rfl rfl (fun _ _ _ => rfl) ?_
    obtain ⟨hg, h⟩ := h
    refine jg_iald (pc' := 159) rfl (jg_sX12_25 h0) hg rfl ?_
    refine jg_iflt (pc' := 162) rfl rfl (fun hc => ?_) (fun hc => ?_)
    · have h := jg_t h (show jg_wr (σ.1 (a0 + 16) (jg_wr x3)) < 0 from hc)
      refine jg_A (pc' := 167) rfl rfl (fun _ _ _ => rfl) ?_
      refine jg_iadd (pc' := 168) rfl rfl ?_
      refine jg_nm (F := fun t101 => jg_G w 1 mm_X12_count 168 [.ref a0, u1, .int (.ofInt x2), .int (.ofInt x3)] [.int (.ofInt t101)] σ (jg_QI Q)) (x2 + 0) (fun t101 ht101 => ?_)
      have h := h t101 ht101
      refine jg_A (pc' := 169) (ls' := [.ref a0, u1, .int (.ofInt t101), .int (.ofInt x3)]) rfl rfl (fun _ _ _ => rfl) ?_
      refine jg_iinc (pc' := 172) (ls' := [.ref a0, u1, .int (.ofInt t101), .int (.ofInt (x3 + 1))]) rfl rfl rfl rfl ?_
      refine jg_goto rfl ?_
      exact h
    · have h := jg_f h (show ¬ (jg_wr (σ.1 (a0 + 16) (jg_wr x3)) < 0) from hc)
      refine jg_A (pc' := 163) rfl rfl (fun _ _ _ => rfl) ?_
      refine jg_goto rfl ?_
      refine jg_iadd (pc' := 168) rfl rfl ?_
      refine jg_nm (F := fun t102 => jg_G w 1 mm_X12_count 168 [.ref a0, u1, .int (.ofInt x2), .int (.ofInt x3)] [.int (.ofInt t102)] σ (jg_QI Q)) (x2 + 1) (fun t102 ht102 => ?_)
      have h := h t102 ht102
      refine jg_A (pc' := 169) (ls' := [.ref a0, u1, .int (.ofInt t102), .int (.ofInt x3)]) rfl rfl (fun _ _ _ => rfl) ?_
      refine jg_iinc (pc' := 172) (ls' := [.ref a0, u1, .int (.ofInt t102), .int (.ofInt (x3 + 1))]) rfl rfl rfl rfl ?_
      refine jg_goto rfl ?_
      exact h
set_option maxRecDepth 100000 in
set_option maxHeartbeats 4000000 in
theorem jb_X12_count_179 {w : Nat} {a0 : Nat} {u1 : Value} {x2 : Int} {x3 : Int} {σ : jg_M} {Q : Int → jg_M → Prop} (h0 : jg_sh a0 = (12, 0)) (h : (if jg_wr (σ.1 (a0 + 13) (0)) ≤ jg_wr x3 then Q x2 σ else jg_CI w 0 mm_X12_actionsOf [.ref a0, .int (.ofInt x3)] σ (fun (z102 : Int) (m101 : jg_M) => ∀ t103 : Int, t103 = (x2 + z102) → jg_GI w 1 mm_X12_count 179 [.ref a0, u1, .int (.ofInt t103), .int (.ofInt (x3 + 1))] m101 Q))) : jg_GI w 1 mm_X12_count 179 [.ref a0, u1, .int (.ofInt x2), .int (.ofInt x3)] σ Q := by
  show jg_G w 1 mm_X12_count 179 [.ref a0, u1, .int (.ofInt x2), .int (.ofInt x3)] [] σ (jg_QI Q)
  refine jg_A (pc' := 180) rfl rfl (fun _ _ _ => rfl) ?_
  refine jg_A (pc' := 181) rfl rfl (fun _ _ _ => rfl) ?_
  refine jg_getO (pc' := 184) (k := 13) rfl h0 (by decide) rfl rfl ?_
  refine jg_A (pc' := 185) rfl rfl (fun _ _ _ => rfl) ?_
  refine jg_ialdK (pc' := 186) (xi := 0) rfl (jg_sX12_22 h0) (by decide) (by decide) rfl ?_
  refine jg_cge (pc' := 189) rfl rfl (fun hc => ?_) (fun hc => ?_)
  · have h := jg_t h (show jg_wr (σ.1 (a0 + 13) (0)) ≤ jg_wr x3 from hc)
    refine jg_A (pc' := 204) rfl rfl (fun _ _ _ => rfl) ?_
    exact jg_iret rfl rfl h
  · have h := jg_f h (show ¬ (jg_wr (σ.1 (a0 + 13) (0)) ≤ jg_wr x3) from hc)
    refine jg_A (pc' := 190) rfl rfl (fun _ _ _ => rfl) ?_
    refine jg_A (pc' := 191) rfl rfl (fun _ _ _ => rfl) ?_
    refine jg_A (pc' := 192) rfl rfl (fun _ _ _ => rfl) ?_
    refine jg_calX (M1 := mm_X12_actionsOf) (hy := 0) (pc' := 195) rfl jm_X12_actionsOf (by decide) rfl h0 (by decide) ⟨Nat.le_of_ble_eq_true rfl, rfl⟩ (Nat.le_of_ble_eq_true rfl) rfl h (jg_kI (fun z102 m101 h => ?_))
    refine jg_iadd (pc' := 196) rfl rfl ?_
    refine jg_nm (F := fun t103 => jg_G w 1 mm_X12_count 196 [.ref a0, u1, .int (.ofInt x2), .int (.ofInt x3)] [.int (.ofInt t103)] m101 (jg_QI Q)) (x2 + z102) (fun t103 ht103 => ?_)
    have h := h t103 ht103
    refine jg_A (pc' := 197) (ls' := [.ref a0, u1, .int (.ofInt t103), .int (.ofInt x3)]) rfl rfl (fun _ _ _ => rfl) ?_
    refine jg_iinc (pc' := 200) (ls' := [.ref a0, u1, .int (.ofInt t103), .int (.ofInt (x3 + 1))]) rfl rfl rfl rfl ?_
    refine jg_goto rfl ?_
    exact h
set_option maxRecDepth 100000 in
set_option maxHeartbeats 4000000 in
theorem jb_J6_bitCount_0f7a4_0 {w : Nat} {x0 : Int} {σ : jg_M} {Q : Int → jg_M → Prop} (h : ∀ t101 : Int, t101 = (x0 - (jg_and (jg_ushr x0 1) ((1431655765 : Nat) : Int))) → ∀ t102 : Int, t102 = ((jg_and t101 ((858993459 : Nat) : Int)) + (jg_and (jg_ushr t101 2) ((858993459 : Nat) : Int))) → ∀ t103 : Int, t103 = (jg_and (t102 + (jg_ushr t102 4)) ((252645135 : Nat) : Int)) → ∀ t104 : Int, t104 = (t103 + (jg_ushr t103 8)) → ∀ t105 : Int, t105 = (t104 + (jg_ushr t104 16)) → Q (jg_and t105 63) σ) : jg_CI w 0 mm_J6_bitCount_0f7a4 [.int (.ofInt x0)] σ Q := by
  show jg_G w 0 mm_J6_bitCount_0f7a4 0 [.int (.ofInt x0)] [] σ (jg_QI Q)
  refine jg_A (pc' := 1) rfl rfl (fun _ _ _ => rfl) ?_
  refine jg_A (pc' := 2) rfl rfl (fun _ _ _ => rfl) ?_
  refine jg_A (pc' := 3) rfl rfl (fun _ _ _ => rfl) ?_
  refine jg_iushr (pc' := 4) rfl rfl ?_
  refine jg_A (pc' := 7) rfl rfl (fun _ _ _ => rfl) ?_
  refine jg_iand (pc' := 8) rfl rfl ?_
  refine jg_isub (pc' := 9) rfl rfl ?_
  refine jg_nm (F := fun t101 => jg_G w 0 mm_J6_bitCount_0f7a4 9 [.int (.ofInt x0)] [.int (.ofInt t101)] σ (jg_QI Q)) (x0 - (jg_and (jg_ushr x0 1) ((1431655765 : Nat) : Int))) (fun t101 ht101 => ?_)
  have h := h t101 ht101
  refine jg_A (pc' := 10) (ls' := [.int (.ofInt t101)]) rfl rfl (fun _ _ _ => rfl) ?_
  refine jg_A (pc' := 11) rfl rfl (fun _ _ _ => rfl) ?_
  refine jg_A (pc' := 14) rfl rfl (fun _ _ _ => rfl) ?_
  refine jg_iand (pc' := 15) rfl rfl ?_
  refine jg_A (pc' := 16) rfl rfl (fun _ _ _ => rfl) ?_
  refine jg_A (pc' := 17) rfl rfl (fun _ _ _ => rfl) ?_
  refine jg_iushr (pc' := 18) rfl rfl ?_
  refine jg_A (pc' := 21) rfl rfl (fun _ _ _ => rfl) ?_
  refine jg_iand (pc' := 22) rfl rfl ?_
  refine jg_iadd (pc' := 23) rfl rfl ?_
  refine jg_nm (F := fun t102 => jg_G w 0 mm_J6_bitCount_0f7a4 23 [.int (.ofInt t101)] [.int (.ofInt t102)] σ (jg_QI Q)) ((jg_and t101 ((858993459 : Nat) : Int)) + (jg_and (jg_ushr t101 2) ((858993459 : Nat) : Int))) (fun t102 ht102 => ?_)
  have h := h t102 ht102
  refine jg_A (pc' := 24) (ls' := [.int (.ofInt t102)]) rfl rfl (fun _ _ _ => rfl) ?_
  refine jg_A (pc' := 25) rfl rfl (fun _ _ _ => rfl) ?_
  refine jg_A (pc' := 26) rfl rfl (fun _ _ _ => rfl) ?_
  refine jg_A (pc' := 27) rfl rfl (fun _ _ _ => rfl) ?_
  refine jg_iushr (pc' := 28) rfl rfl ?_
  refine jg_iadd (pc' := 29) rfl rfl ?_
  refine jg_A (pc' := 32) rfl rfl (fun _ _ _ => rfl) ?_
  refine jg_iand (pc' := 33) rfl rfl ?_
  refine jg_nm (F := fun t103 => jg_G w 0 mm_J6_bitCount_0f7a4 33 [.int (.ofInt t102)] [.int (.ofInt t103)] σ (jg_QI Q)) (jg_and (t102 + (jg_ushr t102 4)) ((252645135 : Nat) : Int)) (fun t103 ht103 => ?_)
  have h := h t103 ht103
  refine jg_A (pc' := 34) (ls' := [.int (.ofInt t103)]) rfl rfl (fun _ _ _ => rfl) ?_
  refine jg_A (pc' := 35) rfl rfl (fun _ _ _ => rfl) ?_
  refine jg_A (pc' := 36) rfl rfl (fun _ _ _ => rfl) ?_
  refine jg_A (pc' := 38) rfl rfl (fun _ _ _ => rfl) ?_
  refine jg_iushr (pc' := 39) rfl rfl ?_
  refine jg_iadd (pc' := 40) rfl rfl ?_
  refine jg_nm (F := fun t104 => jg_G w 0 mm_J6_bitCount_0f7a4 40 [.int (.ofInt t103)] [.int (.ofInt t104)] σ (jg_QI Q)) (t103 + (jg_ushr t103 8)) (fun t104 ht104 => ?_)
  have h := h t104 ht104
  refine jg_A (pc' := 41) (ls' := [.int (.ofInt t104)]) rfl rfl (fun _ _ _ => rfl) ?_
  refine jg_A (pc' := 42) rfl rfl (fun _ _ _ => rfl) ?_
  refine jg_A (pc' := 43) rfl rfl (fun _ _ _ => rfl) ?_
  refine jg_A (pc' := 45) rfl rfl (fun _ _ _ => rfl) ?_
  refine jg_iushr (pc' := 46) rfl rfl ?_
  refine jg_iadd (pc' := 47) rfl rfl ?_
  refine jg_nm (F := fun t105 => jg_G w 0 mm_J6_bitCount_0f7a4 47 [.int (.ofInt t104)] [.int (.ofInt t105)] σ (jg_QI Q)) (t104 + (jg_ushr t104 16)) (fun t105 ht105 => ?_)
  have h := h t105 ht105
  refine jg_A (pc' := 48) (ls' := [.int (.ofInt t105)]) rfl rfl (fun _ _ _ => rfl) ?_
  refine jg_A (pc' := 49) rfl rfl (fun _ _ _ => rfl) ?_
  refine jg_A (pc' := 51) rfl rfl (fun _ _ _ => rfl) ?_
  refine jg_iand (pc' := 52) rfl rfl ?_
  exact jg_iret rfl rfl h
set_option maxRecDepth 100000 in
set_option maxHeartbeats 4000000 in
theorem jb_J13_bitCount_95d88_0 {w : Nat} {l0 : Int} {σ : jg_M} {Q : Int → jg_M → Prop} (h : ∀ t101 : Int, t101 = (l0 - (jg_qand (jg_qushr l0 1) ((6148914691236517205 : Nat) : Int))) → ∀ t102 : Int, t102 = ((jg_qand t101 ((3689348814741910323 : Nat) : Int)) + (jg_qand (jg_qushr t101 2) ((3689348814741910323 : Nat) : Int))) → ∀ t103 : Int, t103 = (jg_qand (t102 + (jg_qushr t102 4)) ((1085102592571150095 : Nat) : Int)) → ∀ t104 : Int, t104 = (t103 + (jg_qushr t103 8)) → ∀ t105 : Int, t105 = (t104 + (jg_qushr t104 16)) → ∀ t106 : Int, t106 = (t105 + (jg_qushr t105 32)) → Q (jg_and t106 127) σ) : jg_CI w 0 mm_J13_bitCount_95d88 [.long (.ofInt l0)] σ Q := by
  show jg_G w 0 mm_J13_bitCount_95d88 0 [.long (.ofInt l0), mj_U] [] σ (jg_QI Q)
  refine jg_A (pc' := 1) rfl rfl (fun _ _ _ => rfl) ?_
  refine jg_A (pc' := 2) rfl rfl (fun _ _ _ => rfl) ?_
  refine jg_A (pc' := 3) rfl rfl (fun _ _ _ => rfl) ?_
  refine jg_lushr (pc' := 4) rfl rfl ?_
  refine jg_A (pc' := 7) rfl rfl (fun _ _ _ => rfl) ?_
  refine jg_land (pc' := 8) rfl rfl ?_
  refine jg_lsub (pc' := 9) rfl rfl ?_
  refine jg_nm (F := fun t101 => jg_G w 0 mm_J13_bitCount_95d88 9 [.long (.ofInt l0), mj_U] [.long (.ofInt t101)] σ (jg_QI Q)) (l0 - (jg_qand (jg_qushr l0 1) ((6148914691236517205 : Nat) : Int))) (fun t101 ht101 => ?_)
  have h := h t101 ht101
  refine jg_A (pc' := 10) (ls' := [.long (.ofInt t101), mj_U]) rfl rfl (fun _ _ _ => rfl) ?_
  refine jg_A (pc' := 11) rfl rfl (fun _ _ _ => rfl) ?_
  refine jg_A (pc' := 14) rfl rfl (fun _ _ _ => rfl) ?_
  refine jg_land (pc' := 15) rfl rfl ?_
  refine jg_A (pc' := 16) rfl rfl (fun _ _ _ => rfl) ?_
  refine jg_A (pc' := 17) rfl rfl (fun _ _ _ => rfl) ?_
  refine jg_lushr (pc' := 18) rfl rfl ?_
  refine jg_A (pc' := 21) rfl rfl (fun _ _ _ => rfl) ?_
  refine jg_land (pc' := 22) rfl rfl ?_
  refine jg_ladd (pc' := 23) rfl rfl ?_
  refine jg_nm (F := fun t102 => jg_G w 0 mm_J13_bitCount_95d88 23 [.long (.ofInt t101), mj_U] [.long (.ofInt t102)] σ (jg_QI Q)) ((jg_qand t101 ((3689348814741910323 : Nat) : Int)) + (jg_qand (jg_qushr t101 2) ((3689348814741910323 : Nat) : Int))) (fun t102 ht102 => ?_)
  have h := h t102 ht102
  refine jg_A (pc' := 24) (ls' := [.long (.ofInt t102), mj_U]) rfl rfl (fun _ _ _ => rfl) ?_
  refine jg_A (pc' := 25) rfl rfl (fun _ _ _ => rfl) ?_
  refine jg_A (pc' := 26) rfl rfl (fun _ _ _ => rfl) ?_
  refine jg_A (pc' := 27) rfl rfl (fun _ _ _ => rfl) ?_
  refine jg_lushr (pc' := 28) rfl rfl ?_
  refine jg_ladd (pc' := 29) rfl rfl ?_
  refine jg_A (pc' := 32) rfl rfl (fun _ _ _ => rfl) ?_
  refine jg_land (pc' := 33) rfl rfl ?_
  refine jg_nm (F := fun t103 => jg_G w 0 mm_J13_bitCount_95d88 33 [.long (.ofInt t102), mj_U] [.long (.ofInt t103)] σ (jg_QI Q)) (jg_qand (t102 + (jg_qushr t102 4)) ((1085102592571150095 : Nat) : Int)) (fun t103 ht103 => ?_)
  have h := h t103 ht103
  refine jg_A (pc' := 34) (ls' := [.long (.ofInt t103), mj_U]) rfl rfl (fun _ _ _ => rfl) ?_
  refine jg_A (pc' := 35) rfl rfl (fun _ _ _ => rfl) ?_
  refine jg_A (pc' := 36) rfl rfl (fun _ _ _ => rfl) ?_
  refine jg_A (pc' := 38) rfl rfl (fun _ _ _ => rfl) ?_
  refine jg_lushr (pc' := 39) rfl rfl ?_
  refine jg_ladd (pc' := 40) rfl rfl ?_
  refine jg_nm (F := fun t104 => jg_G w 0 mm_J13_bitCount_95d88 40 [.long (.ofInt t103), mj_U] [.long (.ofInt t104)] σ (jg_QI Q)) (t103 + (jg_qushr t103 8)) (fun t104 ht104 => ?_)
  have h := h t104 ht104
  refine jg_A (pc' := 41) (ls' := [.long (.ofInt t104), mj_U]) rfl rfl (fun _ _ _ => rfl) ?_
  refine jg_A (pc' := 42) rfl rfl (fun _ _ _ => rfl) ?_
  refine jg_A (pc' := 43) rfl rfl (fun _ _ _ => rfl) ?_
  refine jg_A (pc' := 45) rfl rfl (fun _ _ _ => rfl) ?_
  refine jg_lushr (pc' := 46) rfl rfl ?_
  refine jg_ladd (pc' := 47) rfl rfl ?_
  refine jg_nm (F := fun t105 => jg_G w 0 mm_J13_bitCount_95d88 47 [.long (.ofInt t104), mj_U] [.long (.ofInt t105)] σ (jg_QI Q)) (t104 + (jg_qushr t104 16)) (fun t105 ht105 => ?_)
  have h := h t105 ht105
  refine jg_A (pc' := 48) (ls' := [.long (.ofInt t105), mj_U]) rfl rfl (fun _ _ _ => rfl) ?_
  refine jg_A (pc' := 49) rfl rfl (fun _ _ _ => rfl) ?_
  refine jg_A (pc' := 50) rfl rfl (fun _ _ _ => rfl) ?_
  refine jg_A (pc' := 52) rfl rfl (fun _ _ _ => rfl) ?_
  refine jg_lushr (pc' := 53) rfl rfl ?_
  refine jg_ladd (pc' := 54) rfl rfl ?_
  refine jg_nm (F := fun t106 => jg_G w 0 mm_J13_bitCount_95d88 54 [.long (.ofInt t105), mj_U] [.long (.ofInt t106)] σ (jg_QI Q)) (t105 + (jg_qushr t105 32)) (fun t106 ht106 => ?_)
  have h := h t106 ht106
  refine jg_A (pc' := 55) (ls' := [.long (.ofInt t106), mj_U]) rfl rfl (fun _ _ _ => rfl) ?_
  refine jg_A (pc' := 56) rfl rfl (fun _ _ _ => rfl) ?_
  refine jg_l2i (pc' := 57) rfl rfl ?_
  refine jg_A (pc' := 59) rfl rfl (fun _ _ _ => rfl) ?_
  refine jg_iand (pc' := 60) rfl rfl ?_
  exact jg_iret rfl rfl h
set_option maxRecDepth 100000 in
set_option maxHeartbeats 4000000 in
theorem jb_J7_fill_d0a16_0 {w : Nat} {a0 : Nat} {n0 : Nat} {l1 : Int} {σ : jg_M} {Q : jg_M → Prop} (h0 : jg_sh a0 = (21, n0)) (h : ∀ t101 : Int, t101 = (n0 : Int) → jg_GV w 0 mm_J7_fill_d0a16 6 [.ref a0, .long (.ofInt l1), mj_U, .int (.ofInt 0), .int (.ofInt t101)] σ Q) : jg_CV w 0 mm_J7_fill_d0a16 [.ref a0, .long (.ofInt l1)] σ Q := by
  show jg_G w 0 mm_J7_fill_d0a16 0 [.ref a0, .long (.ofInt l1), mj_U, mj_U, mj_U] [] σ (jg_QV Q)
  refine jg_A (pc' := 1) rfl rfl (fun _ _ _ => rfl) ?_
  refine jg_A (pc' := 2) (ls' := [.ref a0, .long (.ofInt l1), mj_U, .int (.ofInt 0), mj_U]) rfl rfl (fun _ _ _ => rfl) ?_
  refine jg_A (pc' := 3) rfl rfl (fun _ _ _ => rfl) ?_
  refine jg_alen (pc' := 4) (ni := (n0 : Int)) rfl h0 (by decide) rfl rfl ?_
  refine jg_nm (F := fun t101 => jg_G w 0 mm_J7_fill_d0a16 4 [.ref a0, .long (.ofInt l1), mj_U, .int (.ofInt 0), mj_U] [.int (.ofInt t101)] σ (jg_QV Q)) (n0 : Int) (fun t101 ht101 => ?_)
  have h := h t101 ht101
  refine jg_A (pc' := 6) (ls' := [.ref a0, .long (.ofInt l1), mj_U, .int (.ofInt 0), .int (.ofInt t101)]) rfl rfl (fun _ _ _ => rfl) ?_
  exact h
set_option maxRecDepth 100000 in
set_option maxHeartbeats 4000000 in
theorem jb_J7_fill_d0a16_6 {w : Nat} {n0 : Nat} {a0 : Nat} {l1 : Int} {u2 : Value} {x3 : Int} {x4 : Int} {σ : jg_M} {Q : jg_M → Prop} (h0 : jg_sh a0 = (21, n0)) (h : (if jg_wr x4 ≤ jg_wr x3 then Q σ else ((0 : Int) ≤ (jg_wr x3) ∧ (jg_wr x3) < (n0 : Int)) ∧ ∀ m101 : jg_M, m101 = jg_sL σ a0 (jg_wr x3) l1 → jg_GV w 0 mm_J7_fill_d0a16 6 [.ref a0, .long (.ofInt l1), u2, .int (.ofInt (x3 + 1)), .int (.ofInt x4)] m101 Q)) : jg_GV w 0 mm_J7_fill_d0a16 6 [.ref a0, .long (.ofInt l1), u2, .int (.ofInt x3), .int (.ofInt x4)] σ Q := by
  show jg_G w 0 mm_J7_fill_d0a16 6 [.ref a0, .long (.ofInt l1), u2, .int (.ofInt x3), .int (.ofInt x4)] [] σ (jg_QV Q)
  refine jg_A (pc' := 7) rfl rfl (fun _ _ _ => rfl) ?_
  refine jg_A (pc' := 9) rfl rfl (fun _ _ _ => rfl) ?_
  refine jg_cge (pc' := 12) rfl rfl (fun hc => ?_) (fun hc => ?_)
  · have h := jg_t h (show jg_wr x4 ≤ jg_wr x3 from hc)
    exact jg_vret rfl rfl h
  · have h := jg_f h (show ¬ (jg_wr x4 ≤ jg_wr x3) from hc)
    refine jg_A (pc' := 13) rfl rfl (fun _ _ _ => rfl) ?_
    refine jg_A (pc' := 14) rfl rfl (fun _ _ _ => rfl) ?_
    refine jg_A (pc' := 15) rfl rfl (fun _ _ _ => rfl) ?_
    obtain ⟨hg, h⟩ := h
    refine jg_last (pc' := 16) rfl h0 hg rfl (fun m101 hm101 => ?_)
    have h := h m101 hm101
    refine jg_iinc (pc' := 19) (ls' := [.ref a0, .long (.ofInt l1), u2, .int (.ofInt (x3 + 1)), .int (.ofInt x4)]) rfl rfl rfl rfl ?_
    refine jg_goto rfl ?_
    exact h
