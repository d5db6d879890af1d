/-! How many ACTIONS a STATE has, on both sides -/
noncomputable def jn_an (g : gM) (S : jn_Q) (L : Int → Int → Nat) (fo : Int → Nat) (y s : Int) (t : Nat) : Bool := decide ((t : Int) ≤ g 0 0) && decide ((jn_AP g S L fo y s (t : Int)).1 ≠ 0)
section JAN
variable {w : Nat} {σ : jg_M} {T : Nat} {g : gM} {y x s t n : Int} {S : jn_Q} {L : Int → Int → Nat} {fo : Int → Nat} {KI : Int → jg_M → Prop}
theorem jn_an_iff {t : Nat} : jn_an g S L fo y s t = true ↔ (t : Int) ≤ g 0 0 ∧ (jn_AP g S L fo y s (t : Int)).1 ≠ 0 := by
  unfold jn_an
  rw [Bool.and_eq_true, decide_eq_true_iff, decide_eq_true_iff]
theorem jn_AP_rng (hF : jn_FP g S) : 0 ≤ (jn_AP g S L fo y s t).1 ∧ (jn_AP g S L fo y s t).1 ≤ 3000 := by
  have hI1 := hF.1.1
  have hm := hF.1.2.2.1 s t
  have hgo : -1 ≤ jn_go g S s t ∧ jn_go g S s t < 48 := by
    unfold jn_go
    split <;> omega
  unfold jn_AP
  by_cases ha : t = g 0 0 ∧ (jn_clo g (S.2.1 s)).testBit (g 0 2 * 5 + 1).toNat = true
  · rw [jn_acs_acc ha]; dsimp only; omega
  · rw [jn_acs_not ha]
    unfold jn_ac1
    split
    · dsimp only
      split <;> omega
    · rename_i h0
      have hl := (jn_lo_all (jn_rm_lt (g := g) (S := S) (L := L) (fo := fo) (y := y) (s := s) (t := t)) h0).2.2.1
      split
      · rename_i h1
        dsimp only
        omega
      · dsimp only
        split
        · omega
        · split
          · omega
          · split
            · omega
            · split <;> omega
theorem jc_X8_actionsIn (h0 : jg_sh T = (8, 0)) (h2 : jg_sh (T + 10) = (7, 0)) (hW : jn_GW g) (hn : σ.1 (T + 10) 0 = S.1) (hF : jn_FP g S) (hC : jn_TC σ T g S L fo y) (hs : 0 ≤ s ∧ s < S.1) (hk : KI (jn_ct (jn_an g S L fo y s) 8 : Nat) σ) : jg_CI w 2 mm_X8_actionsIn [.ref T, .int (.ofInt s)] σ KI := by
  have hI1 := hF.1.1
  have hw := hW.1
  have hloop : ∀ (m t : Nat), t + m = 8 → jg_GI w 2 mm_X8_actionsIn 4 [.ref T, .int (.ofInt s), .int (.ofInt ((jn_ct (jn_an g S L fo y s) t : Nat) : Int)), .int (.ofInt (t : Int))] σ KI := by
    intro m
    induction m with
    | zero =>
      intro t ht
      refine jb_X8_actionsIn_4 h0 ?_
      rw [jr_wr (by omega)]
      exact jn_ite (fun _ => by rwa [show t = 8 by omega]) (fun h => by omega)
    | succ m ih =>
      intro t ht
      have hr := jn_AP_rng (y := y) (L := L) (fo := fo) (s := s) (t := (t : Int)) hF
      have hc := hC s (t : Int) hs.1 (by omega) (by omega) (by omega)
      have := ih (t + 1) (by omega)
      have hv : jn_an g S L fo y s t = true ↔ σ.1 (T + 20) (s * 8 + (t : Int)) ≠ 0 := by
        rw [jn_an_iff]
        by_cases hle : (t : Int) ≤ g 0 0
        · rw [(hc.1 ⟨hs.2, hle⟩).1]
          exact ⟨fun q => q.2, fun q => ⟨hle, q⟩⟩
        · rw [(hc.2 (fun q => hle q.2)).1]
          exact ⟨fun q => absurd q.1 hle, fun q => absurd rfl q⟩
      have hj : jr (σ.1 (T + 20) (s * 8 + (t : Int))) := by
        by_cases hle : (t : Int) ≤ g 0 0
        · rw [(hc.1 ⟨hs.2, hle⟩).1]; omega
        · rw [(hc.2 (fun q => hle q.2)).1]; decide
      refine jb_X8_actionsIn_4 h0 ?_
      rw [jr_wr (show jr (t : Int) by omega)]
      refine jn_ite (fun h => by omega) (fun _ => jc_X8_actionFor h0 h2 hn (by omega) (by omega) (by omega) ?_)
      rw [show (if (0 ≤ s ∧ s < S.1) ∧ 0 ≤ (t : Int) ∧ (t : Int) < 8 then σ.1 (T + 20) (s * 8 + (t : Int)) else 0) = σ.1 (T + 20) (s * 8 + (t : Int)) from if_pos ⟨hs, by omega, by omega⟩, jr_wr hj]
      rw [show ((t + 1 : Nat) : Int) = (t : Int) + 1 by omega] at this
      refine jn_ite (fun hz => ?_) (fun hz => ?_)
      · rw [jn_ct_f (fun q => hv.mp q hz)] at this
        exact this
      · rw [jn_ct_t (hv.mpr hz)] at this
        exact this
  exact jb_X8_actionsIn_0 h0 (hloop 8 0 rfl)
end JAN
