/-! Items of a KERNEL told; sums over all STATES -/
section JKI
variable {w : Nat} {σ : jg_M} {A T : Nat} {g : gM} {y x s t k : Int} {S : jn_Q} {L : Int → Int → Nat} {fo : Int → Nat} {KI : Int → jg_M → Prop}
def jn_sum (f : Nat → Nat) : Nat → Nat
  | 0 => 0
  | n + 1 => jn_sum f n + f n
theorem jc_X8_actionsInAll (h0 : jg_sh T = (8, 0)) (h2 : jg_sh (T + 10) = (7, 0)) (hW : jn_GW g) (hn : σ.1 (T + 10) 0 = S.1) (hF : jn_FP g S) (hC : jn_TC σ T g S L fo y) (hk : KI (jn_sum (fun s => jn_ct (jn_an g S L fo y (s : Int)) 8) S.1.toNat : Nat) σ) : jg_CI w 3 mm_X8_actionsInAll [.ref T] σ KI := by
  have hI1 := hF.1.1
  have hloop : ∀ (m s : Nat), (s : Int) + m = S.1 → jg_GI w 3 mm_X8_actionsInAll 4 [.ref T, .int (.ofInt ((jn_sum (fun s => jn_ct (jn_an g S L fo y (s : Int)) 8) s : Nat) : Int)), .int (.ofInt (s : Int))] σ KI := by
    intro m
    induction m with
    | zero =>
      intro s hs
      refine jb_X8_actionsInAll_4 h0 ?_
      rw [hn, jr_wr (by omega), jr_wr (by omega)]
      exact jn_ite (fun _ => by rwa [show S.1.toNat = s by omega] at hk) (fun h => by omega)
    | succ m ih =>
      intro s hs
      refine jb_X8_actionsInAll_4 h0 ?_
      rw [hn, jr_wr (by omega), jr_wr (by omega)]
      refine jn_ite (fun h => by omega) (fun _ => jc_X8_actionsIn h0 h2 hW hn hF hC ⟨by omega, by omega⟩ ?_)
      rintro _ rfl
      have := ih (s + 1) (by omega)
      rw [show ((s + 1 : Nat) : Int) = (s : Int) + 1 by omega] at this
      exact this
  exact jb_X8_actionsInAll_0 h0 (hloop S.1.toNat 0 (by omega))
end JKI
