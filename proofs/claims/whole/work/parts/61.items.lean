/-! Items of a KERNEL told; sums over all STATES -/
section JKI
variable {w : Nat} {σ : jg_M} {A T : Nat} {g : gM} {y x s t k : Int} {S : jn_Q} {L : Int → Int → Nat} {fo : Int → Nat} {KI : Int → jg_M → Prop}
theorem jc_X7_kernelItem (h0 : jg_sh A = (7, 0)) (hR : jn_RC σ A g S) (hF : jn_FP g S) (hs : 0 ≤ s ∧ s < S.1) (hk0 : 0 ≤ k ∧ k < 2147483648) (k0 : ((jn_ct (S.2.1 s).testBit 62 : Nat) : Int) ≤ k → KI (-2) σ)
    (k1 : ∀ i : Nat, i < 62 → (S.2.1 s).testBit i = true → ((jn_ct (S.2.1 s).testBit i : Nat) : Int) = k → KI (((i / 5 : Nat) : Int) * 10 + ((i % 5 : Nat) : Int)) σ) : jg_CI w 1 mm_X7_kernelItem [.ref A, .int (.ofInt s), .int (.ofInt k)] σ KI := by
  have hI1 := hF.1.1
  have hv := hF.1.2.1 s hs.1 hs.2
  have hloop : ∀ (m i : Nat), i + m = 62 → ((jn_ct (S.2.1 s).testBit i : Nat) : Int) ≤ k → jg_GI w 1 mm_X7_kernelItem 5 [.ref A, .int (.ofInt s), .int (.ofInt k), .int (.ofInt (k - ((jn_ct (S.2.1 s).testBit i : Nat) : Int))), .int (.ofInt (i : Int))] σ KI := by
    intro m
    induction m with
    | zero =>
      intro i hi hle
      refine jb_X7_kernelItem_5 h0 ?_
      rw [jr_wr (by omega)]
      exact jn_ite (fun _ => k0 (by rwa [show i = 62 by omega] at hle)) (fun h => by omega)
    | succ m ih =>
      intro i hi hle
      have h1 := ih (i + 1) (by omega)
      rw [show ((i + 1 : Nat) : Int) = (i : Int) + 1 by omega] at h1
      refine jb_X7_kernelItem_5 h0 ?_
      rw [jr_wr (show jr (i : Int) by omega)]
      refine jn_ite (fun h => by omega) (fun _ => jc_X7_has h0 hR.1 (by omega) (by omega) (jn_if (fun hp => absurd hs hp) (fun _ => ?_)))
      rw [jr_wr (show jr s by omega), (hR.2 s hs.1 hs.2).1]
      refine ⟨by omega, jc_inBits hv.1 (by omega) (jn_if (fun hp => ?_) (fun hp => ?_))⟩
      · rw [jn_ct_f (fun q => hp ⟨by omega, by rw [Int.toNat_natCast]; exact q⟩)] at h1
        exact h1 hle
      · have hb : (S.2.1 s).testBit i = true := by have := hp.2; rwa [Int.toNat_natCast] at this
        rw [jn_ct_t hb] at h1
        rw [jr_wr (show jr (k - ((jn_ct (S.2.1 s).testBit i : Nat) : Int)) by omega)]
        refine jn_ite (fun hz => ?_) (fun hz => ?_)
        · rw [jb_div (by omega) (by omega), jb_rem (by omega) (by omega), show (i : Int) / 5 = ((i / 5 : Nat) : Int) by omega, show (i : Int) % 5 = ((i % 5 : Nat) : Int) by omega]
          exact k1 i (by omega) hb (by omega)
        · have h2 := h1 (by omega)
          rw [show k - ((jn_ct (S.2.1 s).testBit i + 1 : Nat) : Int) = k - ((jn_ct (S.2.1 s).testBit i : Nat) : Int) + -1 by omega] at h2
          exact h2
  have := hloop 62 0 rfl (show ((0 : Nat) : Int) ≤ k by omega)
  rw [show k - ((jn_ct (S.2.1 s).testBit 0 : Nat) : Int) = k by show k - ((0 : Nat) : Int) = k; omega] at this
  exact jb_X7_kernelItem_0 h0 this
def jn_sum (f : Nat → Nat) : Nat → Nat
  | 0 => 0
  | n + 1 => jn_sum f n + f n
theorem jn_sum_le {f : Nat → Nat} {b : Nat} (hf : ∀ i, f i ≤ b) : ∀ {n : Nat}, jn_sum f n ≤ n * b
  | 0 => by unfold jn_sum; omega
  | n + 1 => by
    have h1 := jn_sum_le hf (n := n)
    have h2 := hf n
    unfold jn_sum
    rw [Nat.succ_mul]
    omega
theorem jc_X8_actionsInAll (h0 : jg_sh T = (8, 0)) (h2 : jg_sh (T + 10) = (7, 0)) (hW : jn_GW g) (hn : σ.1 (T + 10) 0 = S.1) (hF : jn_FP g S) (hC : jn_TC σ T g S L fo y) (hk : KI (jn_sum (fun s => jn_ct (jn_an g S L fo y (s : Int)) 8) S.1.toNat : Nat) σ) : jg_CI w 3 mm_X8_actionsInAll [.ref T] σ KI := by
  have hI1 := hF.1.1
  have hloop : ∀ (m s : Nat), (s : Int) + m = S.1 → jg_GI w 3 mm_X8_actionsInAll 4 [.ref T, .int (.ofInt ((jn_sum (fun s => jn_ct (jn_an g S L fo y (s : Int)) 8) s : Nat) : Int)), .int (.ofInt (s : Int))] σ KI := by
    intro m
    induction m with
    | zero =>
      intro s hs
      refine jb_X8_actionsInAll_4 h0 ?_
      rw [hn, jr_wr (by omega), jr_wr (by omega)]
      exact jn_ite (fun _ => by rwa [show S.1.toNat = s by omega] at hk) (fun h => by omega)
    | succ m ih =>
      intro s hs
      refine jb_X8_actionsInAll_4 h0 ?_
      rw [hn, jr_wr (by omega), jr_wr (by omega)]
      refine jn_ite (fun h => by omega) (fun _ => jc_X8_actionsIn h0 h2 hW hn hF hC ⟨by omega, by omega⟩ ?_)
      rintro _ rfl
      have := ih (s + 1) (by omega)
      rw [show ((s + 1 : Nat) : Int) = (s : Int) + 1 by omega] at this
      exact this
  exact jb_X8_actionsInAll_0 h0 (hloop S.1.toNat 0 (by omega))
end JKI
