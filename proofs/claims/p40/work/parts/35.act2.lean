/-! The ACTIONS in the class, 2 -/
theorem jn_rk_rng {g : gM} {r : Int} (hW : jn_GW g) : ∀ {n : Nat}, 0 ≤ jn_rk g r n ∧ jn_rk g r n ≤ 9
  | 0 => ⟨Int.le_refl 0, by unfold jn_rk; decide⟩
  | n + 1 => by
    unfold jn_rk
    by_cases h : 0 ≤ jn_sym g r n ∧ jn_sym g r n < g 0 0
    · rw [if_pos h]; exact (hW.2.2 _ h.1 h.2).1
    · rw [if_neg h]; exact jn_rk_rng hW
theorem jn_rr_rng {g : gM} {r : Int} (hW : jn_GW g) : 0 ≤ jn_rr g r ∧ jn_rr g r ≤ 9 := jn_rk_rng hW
theorem jn_tr_rng {g : gM} {t : Int} (hW : jn_GW g) : 0 ≤ jn_tr g t ∧ jn_tr g t ≤ 9 := by
  unfold jn_tr
  split
  · rename_i h; exact (hW.2.2 _ h.1 h.2).1
  · decide
theorem jn_ts_rng {g : gM} {t : Int} (hW : jn_GW g) : 0 ≤ jn_ts g t ∧ jn_ts g t ≤ 2 := by
  unfold jn_ts
  split
  · rename_i h; exact (hW.2.2 _ h.1 h.2).2
  · decide
theorem jn_acs_acc {g : gM} {S : jn_Q} {s t : Int} {m : Nat} (h : t = g 0 0 ∧ (jn_clo g (S.2.1 s)).testBit (g 0 2 * 5 + 1).toNat = true) : jn_acs g S s t m = (3000, m) := if_pos h
theorem jn_acs_not {g : gM} {S : jn_Q} {s t : Int} {m : Nat} (h : ¬ (t = g 0 0 ∧ (jn_clo g (S.2.1 s)).testBit (g 0 2 * 5 + 1).toNat = true)) : jn_acs g S s t m = jn_ac1 g (jn_go g S s t) t m := if_neg h
section JAD
variable {w : Nat} {σ : jg_M} {A G T : Nat} {g : gM} {x r k a b s t y : Int} {c : Int} {e m : Nat} {f fo : Int → Nat} {S S' : jn_Q} {L L' : Int → Int → Nat} {K : jg_M → Prop} {KI : Int → jg_M → Prop}
theorem jc_X8_decide1 {u1 u4 u5 u6 u7 u8 u9 : Value} {go : Int} (h0 : jg_sh T = (8, 0)) (h1 : jg_sh (T + 1) = (0, 0)) (h3 : jg_sh (T + 20) = (20, 384)) (hW : jn_GW g) (hG : jn_Gr σ (T + 1) g) (hs : 0 ≤ s ∧ s < 48) (ht : 0 ≤ t ∧ t ≤ g 0 0) (hgo : -1 ≤ go ∧ go < 48) (hm : m < 4096) (hmr : ∀ i, m.testBit i = true → (i : Int) < g 0 2) (hc : σ.1 (T + 21) (s * 8 + t) = (m : Nat))
    (hk : ∀ τ, jF (fun a i => (a = T + 20 ∨ a = T + 21) ∧ i = s * 8 + t) σ τ → τ.1 (T + 20) (s * 8 + t) = (jn_ac1 g go t m).1 → τ.1 (T + 21) (s * 8 + t) = ((jn_ac1 g go t m).2 : Nat) → K τ) : jg_G w 3 mm_X8_decide 84 [.ref T, u1, .int (.ofInt t), .int (.ofInt (s * 8 + t)), u4, u5, u6, u7, u8, u9] [.int (.ofInt (jn_m2 go))] σ (jg_QV K) := by
  have hw := hW.1
  have hm2 : jn_m2 go < 0 ↔ go < 0 := by unfold jn_m2; split <;> omega
  have hm3 : 0 ≤ go → jn_m2 go = go := jn_m2_nn
  have hm4 : jr (jn_m2 go) := by unfold jn_m2; split <;> omega
  have hF20 : ∀ v, jF (fun a i => (a = T + 20 ∨ a = T + 21) ∧ i = s * 8 + t) σ (jg_sI σ (T + 20) (s * 8 + t) v) := fun v => jF_I ⟨Or.inl rfl, rfl⟩
  have hF21 : ∀ v v', jF (fun a i => (a = T + 20 ∨ a = T + 21) ∧ i = s * 8 + t) σ (jg_sI (jg_sI σ (T + 21) (s * 8 + t) v) (T + 20) (s * 8 + t) v') := fun v v' => jF_tr (jF_I ⟨Or.inr rfl, rfl⟩) (jF_I ⟨Or.inl rfl, rfl⟩)
  refine jb_X8_decide_84 h0 ?_
  rw [jr_wr (show jr (s * 8 + t) by omega), jr_wr hm4]
  refine ⟨by omega, ?_⟩
  rintro _ rfl
  rw [hc, jr_wr (show jr (m : Int) by omega)]
  have hrt := jn_tr_rng (t := t) hW
  have hst := jn_ts_rng (t := t) hW
  have hrr := jn_rr_rng (r := (jn_lo m : Nat)) hW
  -- what is written at 0 rules, or where the token goes
  have fin1 : ∀ v, (jn_ac1 g go t m).1 = v → ((jn_ac1 g go t m).2 : Nat) = m → K (jg_sI σ (T + 20) (s * 8 + t) v) := fun v q1 q2 => hk _ (hF20 v) (by rw [js_Is, q1]) (by rw [js_In (Or.inl (by omega)), hc, q2])
  refine jn_ite (fun hm0 => ?_) (fun hm0 => ?_)
  · have hm0' : m = 0 := by omega
    refine jn_ite (fun hg => jb_X8_decide_119 h3 ?_) (fun hg => jb_X8_decide_119 h3 ?_)
    · rw [jr_wr (show jr (s * 8 + t) by omega)]
      refine ⟨by omega, ?_⟩
      rintro _ rfl
      refine fin1 _ ?_ ?_
      · unfold jn_ac1; rw [if_pos hm0', if_pos (hm2.mp hg)]
      · unfold jn_ac1; rw [if_pos hm0']; exact hm0'.symm
    · rw [jr_wr (show jr (s * 8 + t) by omega)]
      refine ⟨by omega, ?_⟩
      rintro _ rfl
      refine fin1 _ ?_ ?_
      · unfold jn_ac1; rw [if_pos hm0', if_neg (fun q => hg (hm2.mpr q)), hm3 (by omega)]
      · unfold jn_ac1; rw [if_pos hm0']; exact hm0'.symm
  · have hm0' : ¬ m = 0 := by omega
    obtain ⟨l1, l2, l3, l4⟩ := jn_lo_all hm hm0'
    have hlr := hmr _ l4
    refine jc_leastOf hm hm0' (jc_X0_rankOf h1 hG hW (by omega) (jc_X0_rankOfToken h1 hG hW (by omega) ?_))
    show if jn_m2 go < 0 then _ else if jg_wr (jn_rr g (jn_lo m : Nat)) = 0 then _ else if jg_wr (jn_tr g t) = 0 then _ else _
    rw [jr_wr (show jr (jn_rr g (jn_lo m : Nat)) by omega), jr_wr (show jr (jn_tr g t) by omega)]
    -- by ranks
    have hby : ¬ (0 ≤ go ∧ (jn_rr g (jn_lo m : Nat) = 0 ∨ jn_tr g t = 0)) → jg_GV w 3 mm_X8_decide 177 [.ref T, u1, .int (.ofInt t), .int (.ofInt (s * 8 + t)), u4, .int (.ofInt (jn_m2 go)), .int (.ofInt (m : Int)), .int (.ofInt ((jn_lo m : Nat) : Int)), .int (.ofInt (jn_rr g (jn_lo m : Nat))), .int (.ofInt (jn_tr g t))] σ K := fun hno => by
      have fin2 : ∀ v, (jn_ac1 g go t m).1 = v → K (jg_sI (jg_sI σ (T + 21) (s * 8 + t) ((m ^^^ 2 ^ jn_lo m : Nat) : Int)) (T + 20) (s * 8 + t) v) := fun v q1 => hk _ (hF21 _ v) (by rw [js_Is, q1]) (by
        rw [js_In (Or.inl (by omega)), js_Is]
        unfold jn_ac1
        rw [if_neg hm0', if_neg hno])
      refine jb_X8_decide_177 h0 ?_
      rw [jr_wr (show jr (s * 8 + t) by omega), jr_wr hm4, jr_wr (show jr (jn_rr g (jn_lo m : Nat)) by omega), jr_wr (show jr (jn_tr g t) by omega)]
      refine ⟨by omega, ?_⟩
      rintro _ rfl
      rw [l2]
      have h202 : (go < 0 ∨ jn_tr g t < jn_rr g (jn_lo m : Nat)) → jg_GV w 3 mm_X8_decide 202 [.ref T, u1, .int (.ofInt t), .int (.ofInt (s * 8 + t)), u4, .int (.ofInt (jn_m2 go)), .int (.ofInt (m : Int)), .int (.ofInt ((jn_lo m : Nat) : Int)), .int (.ofInt (jn_rr g (jn_lo m : Nat))), .int (.ofInt (jn_tr g t))] (jg_sI σ (T + 21) (s * 8 + t) ((m ^^^ 2 ^ jn_lo m : Nat) : Int)) K := fun hq => by
        refine jb_X8_decide_202 h0 ?_
        rw [jr_wr (show jr (s * 8 + t) by omega)]
        refine ⟨by omega, ?_⟩
        rintro _ rfl
        refine fin2 _ ?_
        unfold jn_ac1
        rw [if_neg hm0', if_neg hno]
        exact if_pos hq
      refine jn_ite (fun hg => h202 (Or.inl (hm2.mp hg))) (fun hg => jn_ite (fun hle => jn_ite (fun hle2 => ?_) (fun hle2 => ?_)) (fun hle => h202 (Or.inr (by omega))))
      · have hGt : jn_Gr (jg_sI σ (T + 21) (s * 8 + t) ((m ^^^ 2 ^ jn_lo m : Nat) : Int)) (T + 1) g := jn_Gr_fr (W := fun a _ => a = T + 21) hG (jF_I rfl) (fun i _ => by omega) (fun k i _ _ => by omega)
        refine jc_X0_sideOfToken h1 hGt hW (by omega) (jb_X8_actionBySide_0 ?_)
        show if jg_wr (jn_ts g t) = 0 then _ else if jg_wr (jn_ts g t) = 1 then _ else _
        rw [jr_wr (show jr (jn_ts g t) by omega), hm3 (by omega)]
        have hb : ∀ v, (if jn_ts g t = 0 then 2000 + ((jn_lo m : Nat) : Int) else if jn_ts g t = 1 then 1000 + go else 0) = v → (jn_ac1 g go t m).1 = v := fun v q => by
          unfold jn_ac1
          rw [if_neg hm0', if_neg hno]
          dsimp only
          rw [if_neg (by omega), if_neg (by omega)]
          exact q
        refine jn_ite (fun h9 => ⟨by omega, ?_⟩) (fun h9 => jn_ite (fun h8 => ⟨by omega, ?_⟩) (fun h8 => ⟨by omega, ?_⟩)) <;> rintro _ rfl
        · exact fin2 _ (hb _ (if_pos h9))
        · exact fin2 _ (hb _ (by rw [if_neg h9, if_pos h8]))
        · exact fin2 _ (hb _ (by rw [if_neg h9, if_neg h8]))
      · refine ⟨by omega, ?_⟩
        rintro _ rfl
        refine fin2 _ ?_
        unfold jn_ac1
        rw [if_neg hm0', if_neg hno, hm3 (by omega)]
        dsimp only
        rw [if_neg (by omega), if_pos (by omega)]
    have h164 : 0 ≤ go → (jn_rr g (jn_lo m : Nat) = 0 ∨ jn_tr g t = 0) → jg_GV w 3 mm_X8_decide 164 [.ref T, u1, .int (.ofInt t), .int (.ofInt (s * 8 + t)), u4, .int (.ofInt (jn_m2 go)), .int (.ofInt (m : Int)), .int (.ofInt ((jn_lo m : Nat) : Int)), .int (.ofInt (jn_rr g (jn_lo m : Nat))), .int (.ofInt (jn_tr g t))] σ K := fun q1 q2 => by
      refine jb_X8_decide_164 h0 ?_
      rw [jr_wr (show jr (s * 8 + t) by omega)]
      refine ⟨by omega, ?_⟩
      rintro _ rfl
      have ha : jn_ac1 g go t m = (1000 + go, m) := by
        unfold jn_ac1
        rw [if_neg hm0', if_pos ⟨q1, q2⟩]
      rw [hm3 q1]
      exact fin1 _ (by rw [ha]) (by rw [ha])
    exact jn_ite (fun hg => hby (fun q => by omega)) (fun hg => jn_ite (fun hr0 => h164 (by omega) (Or.inl hr0)) (fun hr0 => jn_ite (fun ht0 => h164 (by omega) (Or.inr ht0)) (fun ht0 => hby (fun q => by omega))))
theorem jc_X8_decide (h0 : jg_sh T = (8, 0)) (h1 : jg_sh (T + 1) = (0, 0)) (h2 : jg_sh (T + 10) = (7, 0)) (h3 : jg_sh (T + 20) = (20, 384)) (hW : jn_GW g) (hB : jn_TB σ T g e f S L fo) (hF : jn_FP g S) (hs : 0 ≤ s ∧ s < S.1) (ht : 0 ≤ t ∧ t ≤ g 0 0) (hm : m < 4096) (hmr : ∀ i, m.testBit i = true → (i : Int) < g 0 2) (hc : σ.1 (T + 21) (s * 8 + t) = (m : Nat))
    (hk : ∀ τ, jF (fun a i => (a = T + 20 ∨ a = T + 21) ∧ i = s * 8 + t) σ τ → τ.1 (T + 20) (s * 8 + t) = (jn_acs g S s t m).1 → τ.1 (T + 21) (s * 8 + t) = ((jn_acs g S s t m).2 : Nat) → K τ) : jg_CV w 3 mm_X8_decide [.ref T, .int (.ofInt s), .int (.ofInt t)] σ K := by
  have hI1 := hF.1.1
  have hw := hW.1
  have hG := hB.1.1
  have hmv := hF.1.2.2.1 s t
  have hln : jn_len g (g 0 2) = 1 := by unfold jn_len; rw [if_pos rfl]
  refine jb_X8_decide_0 h0 ?_
  rintro _ rfl
  rw [hG.1.1, jr_wr (show jr t by omega), jr_wr (show jr (g 0 0) by omega)]
  have no : ∀ (y : Int) (u5 u6 u7 u8 u9 : Value), y = jn_b (t = g 0 0) → ¬ (t = g 0 0 ∧ (jn_clo g (S.2.1 s)).testBit (g 0 2 * 5 + 1).toNat = true) → jg_GV w 3 mm_X8_decide 65 [.ref T, .int (.ofInt s), .int (.ofInt t), .int (.ofInt (s * 8 + t)), .int (.ofInt y), u5, u6, u7, u8, u9] σ K := by
    rintro y u5 u6 u7 u8 u9 rfl hno
    rw [jn_acs_not hno] at hk
    refine jb_X8_decide_65 h0 (jn_if (fun hte => ?_) (fun hte => ?_))
    · refine jc_X7_moveBy h2 hB.2.1.1.1 (by omega) (by omega) (by omega) ?_
      rw [if_pos ⟨hs, by omega, by omega⟩, hB.2.1.2.1 s t hs.1 hs.2 ht.1 (by omega)]
      have hgo : jn_go g S s t = S.2.2.1 s t := if_neg hte
      rw [hgo] at hk
      exact jc_X8_decide1 h0 h1 h3 hW hG (by omega) ht (by omega) hm hmr hc hk
    · have hgo : jn_go g S s t = -1 := if_pos hte
      rw [hgo] at hk
      exact jc_X8_decide1 (go := -1) h0 h1 h3 hW hG (by omega) ht (by omega) hm hmr hc hk
  refine jn_ite (fun hte => jb_X8_decide_23 h0 ?_) (fun hte => jb_X8_decide_23 h0 ?_)
  · rw [show jg_wr 1 = 1 from rfl, hG.1.2.2.1]
    refine jn_ite (fun h9 => by omega) (fun _ => jc_X0_itemAtEnd h1 hG hW (by omega) (jc_X7_hasItem h2 hW hB.2.1.1 hF (by omega) (by rw [hln]; omega) ?_))
    rw [hln]
    refine jn_if (fun hp => no _ _ _ _ _ _ (jn_b_t hte).symm (fun q => hp ⟨hs, by omega, q.2⟩)) (fun hp => ?_)
    rw [jr_wr (show jr (s * 8 + t) by omega)]
    refine ⟨by omega, ?_⟩
    rintro _ rfl
    have ha := jn_acs_acc (S := S) (s := s) (m := m) ⟨hte, hp.2.2⟩
    rw [ha] at hk
    exact hk _ (jF_I ⟨Or.inl rfl, rfl⟩) js_Is (by rw [js_In (Or.inl (by omega)), hc])
  · rw [show jg_wr 0 = 0 from rfl]
    exact jn_ite (fun _ => no _ _ _ _ _ _ (jn_b_f hte).symm (fun q => hte q.1)) (fun h9 => absurd rfl h9)
end JAD
