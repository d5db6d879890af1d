/-! FOLLOW, on both sides, 2 -/
section JFP
variable {w : Nat} {σ : jg_M} {G : Nat} {g : gM} {x r k b c d : Int} {e e' v : Nat} {f f' q q' : Int → Nat} {K : jg_M → Prop} {KI : Int → jg_M → Prop}
theorem jn_pow_lt (hW : jn_GW g) : 2 ^ (g 0 0).toNat < 256 ∧ jg_shl 1 (g 0 0) = ((2 ^ (g 0 0).toNat : Nat) : Int) := by
  have hw := hW.1
  have h1 : 2 ^ (g 0 0).toNat < 256 := by
    have : 2 ^ (g 0 0).toNat < 2 ^ 8 := Nat.pow_lt_pow_right (by omega) (by omega)
    omega
  refine ⟨h1, ?_⟩
  have hb := jb_shl (m := 1) (k := (g 0 0).toNat) (by omega) (by omega)
  rw [show (((g 0 0).toNat : Nat) : Int) = g 0 0 by omega, Nat.one_mul, show ((1 : Nat) : Int) = 1 from rfl] at hb
  exact hb
theorem jn_mW_0 (hW : jn_GW g) (hn : 0 < g 0 1) : jn_mW g e f (jn_up (fun _ => 0) (g 0 3) (2 ^ (g 0 0).toNat)) := by
  have hw := hW.1
  refine ⟨fun x x1 x2 => ?_, fun x x1 x2 => ?_, fun w' hw' x x1 x2 => ?_⟩
  · by_cases hx : x = g 0 3
    · rw [hx, jn_up_s]; exact (jn_pow_lt hW).1
    · rw [jn_up_n hx]; omega
  · rw [jn_up_n (by omega)]
  · by_cases hx : x = g 0 3
    · rw [hx, jn_up_s]; exact hw'.1 hn
    · rw [jn_up_n hx]; exact jn_sub_0
theorem jc_X0_settleFollows (h0 : jg_sh G = (0, 0)) (hG : jn_Gr σ G g) (hW : jn_GW g) (he : σ.1 G 11 = (e : Int)) (he2 : e < 32) (hf : ∀ k, 0 ≤ k → k < 5 → σ.1 (G + 7) k = (f k : Int)) (hf2 : ∀ k, 0 ≤ k → k < 5 → f k < 256)
    (hk : ∀ τ q, jF (fun a _ => a = G + 8) σ τ → (∀ x, 0 ≤ x → x < 5 → τ.1 (G + 8) x = ((q x : Nat) : Int)) → jn_lW g e f q → K τ) : jg_CV w 4 mm_X0_settleFollows [.ref G] σ K := by
  refine jb_X0_settleFollows_0 h0 (jc_fill (jg_sX0_13 h0) (by omega) (fun τ0 hF0 hz => ?_))
  have hw := hW.1
  have hGt : ∀ τ, jF (fun a _ => a = G + 8) σ τ → jn_Gr τ G g ∧ τ.1 G 11 = (e : Int) ∧ ∀ k, 0 ≤ k → k < 5 → τ.1 (G + 7) k = (f k : Int) := fun τ h => ⟨jn_Gr_fr hG h (by omega) (by omega), (h.1 _ _ (by omega)).trans he, fun k h1 h2 => (h.1 _ _ (by omega)).trans (hf k h1 h2)⟩
  have hst : ∀ q : Int → Nat, (0 < g 0 1 → jn_sub (2 ^ (g 0 0).toNat) (q (g 0 3))) → ∀ q' : Int → Nat, (∀ x, 0 ≤ x → x < 5 → jn_sub (q x) (q' x)) → 0 < g 0 1 → jn_sub (2 ^ (g 0 0).toNat) (q' (g 0 3)) := fun q h1 q' h2 h3 => jn_sub_tr (h1 h3) (h2 _ (by omega) (by omega))
  have hin : ∀ (m : Nat) (r b n : Int) (S0 : Nat) (q : Int → Nat) (τ : jg_M), (∀ (b : Int) (τ : jg_M) (q : Int → Nat), jF (fun a _ => a = G + 8) σ τ → (∀ x, 0 ≤ x → x < 5 → τ.1 (G + 8) x = ((q x : Nat) : Int)) → jn_mW g e f q → (0 < g 0 1 → jn_sub (2 ^ (g 0 0).toNat) (q (g 0 3))) → ((b = 0 ∧ jn_cW g e f q) ∨ (b = 1 ∧ S0 < jn_S q)) → jg_GV w 4 mm_X0_settleFollows 31 [.ref G, .int (.ofInt b), .int (.ofInt (n + 1)), .int (.ofInt (g 0 2))] τ K) →
      0 ≤ r → r ≤ g 0 2 → (g 0 2 - r).toNat = m → jF (fun a _ => a = G + 8) σ τ → (∀ x, 0 ≤ x → x < 5 → τ.1 (G + 8) x = ((q x : Nat) : Int)) → jn_mW g e f q → (0 < g 0 1 → jn_sub (2 ^ (g 0 0).toNat) (q (g 0 3))) → S0 ≤ jn_S q → ((b = 0 ∧ ∀ r', 0 ≤ r' → r' < r → r' ≠ g 0 4 → ∀ d, 0 ≤ d → d < jn_len g r' → jn_cW1 g e f q r' d) ∨ (b = 1 ∧ S0 < jn_S q)) → jg_GV w 4 mm_X0_settleFollows 45 [.ref G, .int (.ofInt b), .int (.ofInt n), .int (.ofInt r)] τ K := by
    intro m
    induction m with
    | zero =>
      intro r b n S0 q τ hP h1 h2 h3 h4 h5 h6 h7 h9 h10
      refine jb_X0_settleFollows_45 h0 ?_
      have hr : r = g 0 2 := by omega
      rw [(hGt τ h4).1.1.2.2.1, jr_wr (by omega), jr_wr (by omega)]
      refine jn_ite (fun hc => ?_) (fun hc => by omega)
      rw [hr]
      refine hP b τ q h4 h5 h6 h7 ?_
      rcases h10 with ⟨q1, q2⟩ | q
      · exact Or.inl ⟨q1, h7, fun r' r1 r2 r3 => q2 r' r1 (by omega) r3⟩
      · exact Or.inr q
    | succ m ih =>
      intro r b n S0 q τ hP h1 h2 h3 h4 h5 h6 h7 h9 h10
      refine jb_X0_settleFollows_45 h0 ?_
      obtain ⟨hGτ, heτ, hfτ⟩ := hGt τ h4
      rw [hGτ.1.2.2.1, jr_wr (by omega), jr_wr (by omega)]
      have next : (r = g 0 4 ∨ ∀ d, 0 ≤ d → d < jn_len g r → jn_cW1 g e f q r d) → jg_GV w 4 mm_X0_settleFollows 45 [.ref G, .int (.ofInt b), .int (.ofInt n), .int (.ofInt (r + 1))] τ K := by
        intro hq
        refine ih (r + 1) b n S0 q τ hP (by omega) (by omega) (by omega) h4 h5 h6 h7 h9 ?_
        rcases h10 with ⟨q1, q2⟩ | q
        · refine Or.inl ⟨q1, fun r' r1 r2 r3 => ?_⟩
          by_cases hr : r' = r
          · rw [hr] at r3 ⊢; exact hq.resolve_left r3
          · exact q2 r' r1 (by omega) r3
        · exact Or.inr q
      refine jn_ite (fun hc => by omega) (fun hc => jc_X0_uses h0 hGτ hW (by omega) (jn_if (fun hp => next (Or.inl (by omega))) (fun hp => ?_)))
      refine jc_X0_widenFollowsBy h0 hGτ hW heτ he2 hfτ hf2 h5 h6 (by omega) (fun hq => ?_) (fun τ' q' a1 a2 a3 a4 a5 => ?_)
      · rw [show jg_wr 0 = 0 from rfl]
        exact jn_ite (fun _ => next (Or.inr hq)) (fun hc => absurd rfl hc)
      · rw [show jg_wr 1 = 1 from rfl]
        exact jn_ite (fun hc => by omega) (fun _ => ih (r + 1) 1 n S0 q' τ' hP (by omega) (by omega) (by omega) (jF_tr h4 a1) a2 a3 (hst q h7 q' a4) (by omega) (Or.inr ⟨rfl, by omega⟩))
  have hout : ∀ (m : Nat) (n : Int) (u : Value) (q : Int → Nat) (τ : jg_M), 1275 - jn_S q = m → 0 ≤ n → n ≤ jn_S q → jF (fun a _ => a = G + 8) σ τ → (∀ x, 0 ≤ x → x < 5 → τ.1 (G + 8) x = ((q x : Nat) : Int)) → jn_mW g e f q → (0 < g 0 1 → jn_sub (2 ^ (g 0 0).toNat) (q (g 0 3))) → jg_GV w 4 mm_X0_settleFollows 31 [.ref G, .int (.ofInt 1), .int (.ofInt n), u] τ K := by
    intro m
    induction m using Nat.strongRecOn with
    | ind m ih =>
      intro n u q τ h1 h2 h3 h4 h5 h6 h7
      have hS := jn_S_le h6.1
      refine jb_X0_settleFollows_31 h0 ?_
      rw [show jg_wr 1 = 1 from rfl, jr_wr (by omega)]
      refine jn_ite (fun hc => by omega) (fun hc => jn_ite (fun hc2 => by omega) (fun hc2 => ?_))
      refine hin _ 0 0 n (jn_S q) q τ (fun b τ' q2 a1 a2 a3 a4 a5 => ?_) (by omega) (by omega) rfl h4 h5 h6 h7 (Nat.le_refl _) (Or.inl ⟨rfl, fun r' r1 r2 => by omega⟩)
      have hS2 := jn_S_le a3.1
      rcases a5 with ⟨rfl, a5⟩ | ⟨rfl, a5⟩
      · refine jb_X0_settleFollows_31 h0 ?_
        rw [show jg_wr 0 = 0 from rfl]
        exact jn_ite (fun _ => hk τ' q2 a1 a2 ⟨a5, a3.1, a3.2.1, a3.2.2⟩) (fun hc => absurd rfl hc)
      · exact ih (1275 - jn_S q2) (by omega) (n + 1) _ q2 τ' rfl (by omega) (by omega) a1 a2 a3 a4
  obtain ⟨hGτ, heτ, hfτ⟩ := hGt τ0 hF0
  rw [hGτ.1.1, hGτ.1.2.2.2.1, (jn_pow_lt hW).2]
  refine jc_X0_widen (s := 0) h0 (jg_sX0_13 h0) (by omega) hGτ hW (by omega) (fun h1 h2 => hz _ h1 (by omega)) (fun _ _ => by omega) (jn_pow_lt hW).1 (fun hh => ?_) (fun hh1 hh2 => ?_)
  · have hn : ¬ 0 < g 0 1 := by
      rcases hh with hh | hh
      · omega
      · have := jn_sub_pow.mp hh
        rw [Nat.zero_testBit] at this
        cases this
    refine hout _ 0 _ (fun _ => 0) τ0 rfl (by omega) (by omega) hF0 (fun x x1 x2 => hz x x1 (by omega)) ⟨fun _ _ _ => (by decide : 0 < 256), fun _ _ _ => rfl, fun w' hw' x x1 x2 => by omega⟩ (fun h => absurd h hn)
  · refine hout _ 0 _ (jn_up (fun _ => 0) (g 0 3) (2 ^ (g 0 0).toNat)) _ rfl (by omega) (by omega) (jF_toI hF0 rfl) (fun x x1 x2 => ?_) (jn_mW_0 hW (by omega)) (fun _ => by rw [jn_up_s]; exact jn_sub_rf)
    by_cases hx : x = g 0 3
    · rw [hx, js_Is, jn_up_s, Nat.zero_or]
    · rw [js_In (Or.inr hx), jn_up_n hx]; exact hz x x1 (by omega)
/-- a grammar's arrays in a bank of the reference -/
def jn_Mb (σ : jg_M) (b : Int) (g : gM) : Prop := ((0 ≤ b ∧ b ≤ 1) ∧ σ.1 (92 + 3) b = g 0 0 ∧ σ.1 (92 + 4) b = g 0 1 ∧ σ.1 (92 + 5) b = g 0 2) ∧
  ∀ r, 0 ≤ r → r < g 0 2 → σ.1 (92 + 10) (13 * b + r) = g 3 r ∧ σ.1 (92 + 11) (13 * b + r) = g 4 r ∧ ∀ d, 0 ≤ d → d < g 4 r → σ.1 (92 + 12) (4 * (13 * b + r) + d) = g 5 (r * 4 + d)
/-- the places of layFollow -/
def jW_fo (a : Nat) (i : Int) : Prop := (a = 92 ∧ 33 ≤ i ∧ i ≤ 36) ∨ a = 92 + 25
end JFP
