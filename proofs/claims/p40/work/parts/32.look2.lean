/-! BEHIND, on both sides, 2 -/
section JLM
variable {w : Nat} {σ : jg_M} {A G : Nat} {g : gM} {x r k a b s t : Int} {c : Int} {e : Nat} {f : Int → Nat} {S S' : jn_Q} {L L' : Int → Int → Nat} {K : jg_M → Prop} {KI : Int → jg_M → Prop}
theorem jc_X7_spreadIn (h0 : jg_sh A = (7, 0)) (hW : jn_GW g) (hf2 : ∀ k, 0 ≤ k → k < 5 → f k < 256) (hX : jn_Fx σ A g e f S) (hF : jn_FP g S) (hM : jn_LM σ A L) (hm : jn_mL g e f S L) (hs : 0 ≤ s ∧ s < S.1)
    (k0 : (∀ i : Nat, (jn_clo g (S.2.1 s)).testBit i = true → jn_it g i → jn_c1 g e f S L s i) → KI 0 σ) (k1 : ∀ τ L', jF (fun a _ => a = A + 5) σ τ → jn_LM τ A L' → jn_mL g e f S L' → (∀ s x, jn_sub (L s x) (L' s x)) → jn_D L < jn_D L' → KI 1 τ) : jg_CI w 3 mm_X7_spreadIn [.ref A, .int (.ofInt s)] σ KI := by
  have hI1 := hF.1.1
  have hw := hW.1
  have hclv := jn_clo_vs hW (hF.1.2.1 s hs.1 hs.2)
  refine jb_X7_spreadIn_0 h0 ?_
  have hloop : ∀ (m : Nat) (i : Nat) (z : Int) (τ : jg_M) (L1 : Int → Int → Nat), i + m = 5 * (g 0 2).toNat + 2 → jF (fun a _ => a = A + 5) σ τ → jn_LM τ A L1 → jn_mL g e f S L1 → (∀ s x, jn_sub (L s x) (L1 s x)) → ((z = 0 ∧ τ = σ ∧ L1 = L ∧ ∀ j : Nat, j < i → (jn_clo g (S.2.1 s)).testBit j = true → jn_it g j → jn_c1 g e f S L s j) ∨ (z = 1 ∧ jn_D L < jn_D L1)) → jg_GI w 3 mm_X7_spreadIn 4 [.ref A, .int (.ofInt s), .int (.ofInt z), .int (.ofInt (i : Int))] τ KI := by
    intro m
    induction m with
    | zero =>
      intro i z τ L1 hi hFτ hM1 hm1 hsub hz
      have hXτ := jn_Fx_fr hX hFτ (fun a i h => by omega)
      refine jb_X7_spreadIn_4 h0 ?_
      rw [hXτ.2.2.2.2.2.2, jr_wr (by omega), jr_wr (by omega)]
      refine jn_ite (fun _ => ?_) (fun hc => by omega)
      rcases hz with ⟨rfl, rfl, -, z4⟩ | ⟨rfl, z2⟩
      · refine ⟨Or.inl rfl, k0 (fun j hj hit => z4 j ?_ hj hit)⟩
        obtain ⟨q1, q2, q3⟩ := hit
        by_cases hr : jn_r j = g 0 2
        · have : jn_len g (jn_r j) = 1 := by unfold jn_len; rw [if_pos hr]
          rw [this] at q3
          unfold jn_r jn_d at *
          omega
        · unfold jn_r at *
          omega
      · exact ⟨Or.inr rfl, k1 τ L1 hFτ hM1 hm1 hsub z2⟩
    | succ m ih =>
      intro i z τ L1 hi hFτ hM1 hm1 hsub hz
      have hXτ := jn_Fx_fr hX hFτ (fun a i h => by omega)
      refine jb_X7_spreadIn_4 h0 ?_
      rw [hXτ.2.2.2.2.2.2, jr_wr (show jr (g 0 2 * 5 + 2) by omega), jr_wr (show jr (i : Int) by omega), jr_wr (show jr s by omega), (hXτ.1.2 s hs.1 hs.2).2.1]
      have next : (∀ (hb : (jn_clo g (S.2.1 s)).testBit i = true) (hit : jn_it g i), z = 1 ∨ jn_c1 g e f S L1 s i) → jg_GI w 3 mm_X7_spreadIn 4 [.ref A, .int (.ofInt s), .int (.ofInt z), .int (.ofInt ((i : Int) + 1))] τ KI := by
        intro hno
        rw [show (i : Int) + 1 = ((i + 1 : Nat) : Int) by omega]
        refine ih (i + 1) z τ L1 (by omega) hFτ hM1 hm1 hsub ?_
        rcases hz with ⟨z1, z2, z3, z4⟩ | z1
        · refine Or.inl ⟨z1, z2, z3, fun j hj hb hit => ?_⟩
          by_cases hji : j = i
          · rw [hji] at hb hit ⊢
            rcases hno hb hit with q | q
            · omega
            · rw [z3] at q; exact q
          · exact z4 j (by omega) hb hit
        · exact Or.inr z1
      refine jn_ite (fun hc => by omega) (fun _ => ⟨by omega, jc_inBits hclv.1 (by omega) (jn_if (fun hp => next (fun hb _ => absurd ⟨by omega, by rw [Int.toNat_natCast]; exact hb⟩ hp)) (fun hp => ⟨by omega, ?_⟩))⟩)
      rw [Int.toNat_natCast] at hp
      obtain ⟨-, -, p3, -, -⟩ := hXτ.2.2
      have hi62 : i < 62 := by omega
      by_cases hit : jn_it g i
      · obtain ⟨g1, -⟩ := jn_FP_go hW hF hs hp.2 hit
        rw [((p3 i hi62).1 hit).1, jr_wr (show jr (jn_is g i) by omega)]
        refine jn_ite (fun hc => by omega) (fun _ => ?_)
        refine jc_X7_spreadFrom h0 hW hf2 hXτ hF hM1 hm1 hs hp.2 hit (fun hq => ?_) (fun τ' L' a1 a2 a3 a4 a5 => ?_)
        · rw [show jg_wr 0 = 0 from rfl]
          exact jn_ite (fun _ => next (fun _ _ => Or.inr hq)) (fun hc => absurd rfl hc)
        · rw [show jg_wr 1 = 1 from rfl]
          refine jn_ite (fun hc => by omega) (fun _ => ?_)
          rw [show (i : Int) + 1 = ((i + 1 : Nat) : Int) by omega]
          refine ih (i + 1) 1 τ' L' (by omega) (jF_tr hFτ a1) a2 a3 (fun s' x' => jn_sub_tr (hsub s' x') (a4 s' x')) (Or.inr ⟨rfl, ?_⟩)
          rcases hz with ⟨-, -, z3, -⟩ | ⟨-, z1⟩
          · rw [z3] at a5; exact a5
          · omega
      · rw [(p3 i hi62).2 hit, show jg_wr (-2) = -2 from rfl]
        exact jn_ite (fun _ => next (fun _ h => absurd h hit)) (fun hc => by omega)
  exact hloop _ 0 0 σ L (Nat.zero_add _) jF_rf hM hm (fun _ _ => jn_sub_rf) (Or.inl ⟨rfl, rfl, rfl, fun j hj => by omega⟩)
theorem jc_X7_spread0 {v : Nat} (h0 : jg_sh A = (7, 0)) (hn : σ.1 A 0 = 0) (hx : jr x) (hk : ∀ τ, jF (fun a _ => a = A + 5) σ τ → K τ) : jg_CV w 4 mm_X7_spread [.ref A, .int (.ofInt x), .int (.ofInt (v : Int))] σ K := by
  refine jb_X7_spread_0 h0 (jc_fill (jg_sX7_5 h0) (by omega) (fun τ hF _ => ?_))
  have hn1 : τ.1 A 0 = 0 := (hF.1 _ _ (by omega)).trans hn
  refine jb_X7_widen_0 h0 (jc_X7_has h0 hn1 (by omega) (by omega) (jn_if (fun hp => ?_) (fun hp => by omega)))
  refine jb_X7_spread_21 h0 ?_
  rw [show jg_wr 1 = 1 from rfl, show jg_wr 0 = 0 from rfl]
  refine jn_ite (fun hc => by omega) (fun _ => jn_ite (fun hc => by omega) (fun _ => jb_X7_spread_37 h0 ?_))
  rw [hn1, show jg_wr 0 = 0 from rfl]
  refine jn_ite (fun _ => jb_X7_spread_21 h0 ?_) (fun hc => by omega)
  rw [show jg_wr 0 = 0 from rfl]
  exact jn_ite (fun _ => hk τ hF) (fun hc => absurd rfl hc)
theorem jc_X7_spread (h0 : jg_sh A = (7, 0)) (hW : jn_GW g) (hf2 : ∀ k, 0 ≤ k → k < 5 → f k < 256) (hX : jn_Fx σ A g e f S) (hF : jn_FP g S)
    (hk : ∀ τ L, jF (fun a _ => a = A + 5) σ τ → jn_LM τ A L → jn_lL g e f S L → K τ) : jg_CV w 4 mm_X7_spread [.ref A, .int (.ofInt (g 0 2 * 5)), .int (.ofInt ((2 ^ (g 0 0).toNat : Nat) : Int))] σ K := by
  have hI1 := hF.1.1
  have hw := hW.1
  have hpl := (jn_pow_lt hW).1
  have hin : ∀ (m : Nat) (s : Int) (u1 u2 : Value) (z n : Int) (D0 : Nat) (τ : jg_M) (L : Int → Int → Nat), (∀ (u1 u2 u5 : Value) (z : Int) (τ : jg_M) (L : Int → Int → Nat), jF (fun a _ => a = A + 5) σ τ → jn_LM τ A L → jn_mL g e f S L → jn_sub (2 ^ (g 0 0).toNat) (L 0 (5 * g 0 2)) → ((z = 0 ∧ jn_cL g e f S L) ∨ (z = 1 ∧ D0 < jn_D L)) → jg_GV w 4 mm_X7_spread 21 [.ref A, u1, u2, .int (.ofInt z), .int (.ofInt (n + 1)), u5] τ K) →
      0 ≤ s → s + m = S.1 → jF (fun a _ => a = A + 5) σ τ → jn_LM τ A L → jn_mL g e f S L → jn_sub (2 ^ (g 0 0).toNat) (L 0 (5 * g 0 2)) → ((z = 0 ∧ jn_D L = D0 ∧ ∀ s' (i : Nat), 0 ≤ s' → s' < s → (jn_clo g (S.2.1 s')).testBit i = true → jn_it g i → jn_c1 g e f S L s' i) ∨ (z = 1 ∧ D0 < jn_D L)) → jg_GV w 4 mm_X7_spread 37 [.ref A, u1, u2, .int (.ofInt z), .int (.ofInt n), .int (.ofInt s)] τ K := by
    intro m
    induction m with
    | zero =>
      intro s u1 u2 z n D0 τ L hP s0 s1 hFτ hM hm hst hz
      have hXτ := jn_Fx_fr hX hFτ (fun a i h => by omega)
      refine jb_X7_spread_37 h0 ?_
      rw [hXτ.1.1, jr_wr (by omega), jr_wr (by omega)]
      refine jn_ite (fun _ => hP _ _ _ z τ L hFτ hM hm hst ?_) (fun hc => by omega)
      rcases hz with ⟨z1, -, z3⟩ | z1
      · exact Or.inl ⟨z1, hst, fun s' i q1 q2 => z3 s' i q1 (by omega)⟩
      · exact Or.inr z1
    | succ m ih =>
      intro s u1 u2 z n D0 τ L hP s0 s1 hFτ hM hm hst hz
      have hXτ := jn_Fx_fr hX hFτ (fun a i h => by omega)
      refine jb_X7_spread_37 h0 ?_
      rw [hXτ.1.1, jr_wr (by omega), jr_wr (by omega)]
      refine jn_ite (fun hc => by omega) (fun _ => jc_X7_spreadIn h0 hW hf2 hXτ hF hM hm ⟨s0, by omega⟩ (fun hq => ?_) (fun τ' L' a1 a2 a3 a4 a5 => ?_))
      · rw [show jg_wr 0 = 0 from rfl]
        refine jn_ite (fun _ => ih (s + 1) u1 u2 z n D0 τ L hP (by omega) (by omega) hFτ hM hm hst ?_) (fun hc => absurd rfl hc)
        rcases hz with ⟨z1, z2, z3⟩ | z1
        · refine Or.inl ⟨z1, z2, fun s' i q1 q2 q3 q4 => ?_⟩
          by_cases hs : s' = s
          · rw [hs] at q3 ⊢; exact hq i q3 q4
          · exact z3 s' i q1 (by omega) q3 q4
        · exact Or.inr z1
      · rw [show jg_wr 1 = 1 from rfl]
        refine jn_ite (fun hc => by omega) (fun _ => ih (s + 1) u1 u2 1 n D0 τ' L' hP (by omega) (by omega) (jF_tr hFτ a1) a2 a3 (jn_sub_tr hst (a4 _ _)) (Or.inr ⟨rfl, ?_⟩))
        rcases hz with ⟨-, z2, -⟩ | ⟨-, z1⟩ <;> omega
  have hout : ∀ (m : Nat) (n : Int) (u1 u2 u5 : Value) (τ : jg_M) (L : Int → Int → Nat), 758880 - jn_D L = m → 0 ≤ n → n ≤ jn_D L → jF (fun a _ => a = A + 5) σ τ → jn_LM τ A L → jn_mL g e f S L → jn_sub (2 ^ (g 0 0).toNat) (L 0 (5 * g 0 2)) → jg_GV w 4 mm_X7_spread 21 [.ref A, u1, u2, .int (.ofInt 1), .int (.ofInt n), u5] τ K := by
    intro m
    induction m using Nat.strongRecOn with
    | ind m ih =>
      intro n u1 u2 u5 τ L h1 h2 h3 hFτ hM hm hst
      have hD := jn_D_le hm.1
      refine jb_X7_spread_21 h0 ?_
      rw [show jg_wr 1 = 1 from rfl, jr_wr (by omega)]
      refine jn_ite (fun hc => by omega) (fun _ => jn_ite (fun hc => by omega) (fun _ => ?_))
      refine hin _ 0 _ _ 0 n (jn_D L) τ L (fun u1 u2 u5 z τ' L' a1 a2 a3 a4 a5 => ?_) (by omega) (by omega : (0 : Int) + S.1.toNat = S.1) hFτ hM hm hst (Or.inl ⟨rfl, rfl, fun s' i q1 q2 => by omega⟩)
      have hD' := jn_D_le a3.1
      rcases a5 with ⟨rfl, a5⟩ | ⟨rfl, a5⟩
      · refine jb_X7_spread_21 h0 ?_
        rw [show jg_wr 0 = 0 from rfl]
        exact jn_ite (fun _ => hk τ' L' a1 a2 ⟨a5, a3⟩) (fun hc => absurd rfl hc)
      · exact ih (758880 - jn_D L') (by omega) (n + 1) _ _ _ τ' L' rfl (by omega) (by omega) a1 a2 a3 a4
  refine jb_X7_spread_0 h0 (jc_fill (jg_sX7_5 h0) (by omega) (fun τ0 hF0 hz => ?_))
  have hX0 := jn_Fx_fr hX hF0 (fun a i h => by omega)
  have hM0 : jn_LM τ0 A (fun _ _ => 0) := fun s i q1 q2 q3 q4 => hz _ (by omega) (by omega)
  have hm0 : jn_mL g e f S (fun _ _ => 0) := ⟨fun _ _ => (by decide : 0 < 256), fun L' hL' s i q1 q2 q3 q4 => jn_sub_0⟩
  refine jc_X7_widen h0 hX0 hF hM0 hm0 ⟨by omega, by omega⟩ ⟨by omega, by omega⟩ hpl (fun L' hL' => by rw [show g 0 2 * 5 = 5 * g 0 2 by omega]; exact hL'.1) (fun hq => ?_) (fun τ a1 a2 a3 a4 => ?_)
  · have := jn_sub_pow.mp hq
    rw [Nat.zero_testBit] at this
    cases this
  · refine hout _ 0 _ _ _ τ _ rfl (by omega) (by omega) (jF_tr hF0 a1) a2 a3 ?_
    rw [show g 0 2 * 5 = 5 * g 0 2 by omega, jn_v2_s]
    exact jn_sub_r
/-- BEHIND in the reference -/
def jn_LMm (σ : jg_M) (c : Int) (S : jn_Q) (L : Int → Int → Nat) : Prop := ∀ s i, 0 ≤ s → s < S.1 → 0 ≤ i → i < 62 → σ.1 (92 + 18) (65 * (48 * c + s) + i) = (L s i : Nat)
def jn_RK (σ : jg_M) (c : Int) (g : gM) (S : jn_Q) : Prop := σ.1 (92 + 13) c = S.1 ∧ (∀ j, 0 ≤ j → j < S.1 → jn_row σ (92 + 14) (65 * (48 * c + j)) (S.2.1 j) ∧ jn_row σ (92 + 15) (65 * (48 * c + j)) (jn_clo g (S.2.1 j)) ∧ σ.1 (92 + 17) (48 * c + j) = jn_mx (S.2.2.2 j)) ∧ ∀ s x, 0 ≤ s → s < S.1 → 0 ≤ x → x < 12 → σ.1 (92 + 16) (12 * (48 * c + s) + x) = S.2.2.1 s (jn_sy x)
end JLM
