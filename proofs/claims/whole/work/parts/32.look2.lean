/-! BEHIND, on both sides, 2 -/
section JLM
variable {w : Nat} {σ : jg_M} {A G : Nat} {g : gM} {x r k a b s t : Int} {c : Int} {e : Nat} {f : Int → Nat} {S S' : jn_Q} {L L' : Int → Int → Nat} {K : jg_M → Prop} {KI : Int → jg_M → Prop}
theorem jc_X7_spreadIn (h0 : jg_sh A = (7, 0)) (hW : jn_GW g) (hf2 : ∀ k, 0 ≤ k → k < 5 → f k < 256) (hX : jn_Fx σ A g e f S) (hF : jn_FP g S) (hM : jn_LM σ A L) (hm : jn_mL g e f S L) (hs : 0 ≤ s ∧ s < S.1)
    (k0 : (∀ i : Nat, (jn_clo g (S.2.1 s)).testBit i = true → jn_it g i → jn_c1 g e f S L s i) → KI 0 σ) (k1 : ∀ τ L', jF (fun a _ => a = A + 5) σ τ → jn_LM τ A L' → jn_mL g e f S L' → (∀ s x, jn_sub (L s x) (L' s x)) → jn_D L < jn_D L' → KI 1 τ) : jg_CI w 3 mm_X7_spreadIn [.ref A, .int (.ofInt s)] σ KI := by
  have hI1 := hF.1.1
  have hw := hW.1
  have hclv := jn_clo_vs hW (hF.1.2.1 s hs.1 hs.2)
  refine jb_X7_spreadIn_0 h0 ?_
  have hloop : ∀ (m : Nat) (i : Nat) (z : Int) (τ : jg_M) (L1 : Int → Int → Nat), i + m = 5 * (g 0 2).toNat + 2 → jF (fun a _ => a = A + 5) σ τ → jn_LM τ A L1 → jn_mL g e f S L1 → (∀ s x, jn_sub (L s x) (L1 s x)) → ((z = 0 ∧ τ = σ ∧ L1 = L ∧ ∀ j : Nat, j < i → (jn_clo g (S.2.1 s)).testBit j = true → jn_it g j → jn_c1 g e f S L s j) ∨ (z = 1 ∧ jn_D L < jn_D L1)) → jg_GI w 3 mm_X7_spreadIn 4 [.ref A, .int (.ofInt s), .int (.ofInt z), .int (.ofInt (i : Int))] τ KI := by
    intro m
    induction m with
    | zero =>
      intro i z τ L1 hi hFτ hM1 hm1 hsub hz
      have hXτ := jn_Fx_fr hX hFτ (fun a i h => by omega)
      refine jb_X7_spreadIn_4 h0 ?_
      rw [hXτ.2.2.2.2.2.2, jr_wr (by omega), jr_wr (by omega)]
      refine jn_ite (fun _ => ?_) (fun hc => by omega)
      rcases hz with ⟨rfl, rfl, -, z4⟩ | ⟨rfl, z2⟩
      · refine ⟨Or.inl rfl, k0 (fun j hj hit => z4 j ?_ hj hit)⟩
        obtain ⟨q1, q2, q3⟩ := hit
        by_cases hr : jn_r j = g 0 2
        · have : jn_len g (jn_r j) = 1 := by unfold jn_len; rw [if_pos hr]
          rw [this] at q3
          unfold jn_r jn_d at *
          omega
        · unfold jn_r at *
          omega
      · exact ⟨Or.inr rfl, k1 τ L1 hFτ hM1 hm1 hsub z2⟩
    | succ m ih =>
      intro i z τ L1 hi hFτ hM1 hm1 hsub hz
      have hXτ := jn_Fx_fr hX hFτ (fun a i h => by omega)
      refine jb_X7_spreadIn_4 h0 ?_
      rw [hXτ.2.2.2.2.2.2, jr_wr (show jr (g 0 2 * 5 + 2) by omega), jr_wr (show jr (i : Int) by omega), jr_wr (show jr s by omega), (hXτ.1.2 s hs.1 hs.2).2.1]
      have next : (∀ (hb : (jn_clo g (S.2.1 s)).testBit i = true) (hit : jn_it g i), z = 1 ∨ jn_c1 g e f S L1 s i) → jg_GI w 3 mm_X7_spreadIn 4 [.ref A, .int (.ofInt s), .int (.ofInt z), .int (.ofInt ((i : Int) + 1))] τ KI := by
        intro hno
        rw [show (i : Int) + 1 = ((i + 1 : Nat) : Int) by omega]
        refine ih (i + 1) z τ L1 (by omega) hFτ hM1 hm1 hsub ?_
        rcases hz with ⟨z1, z2, z3, z4⟩ | z1
        · refine Or.inl ⟨z1, z2, z3, fun j hj hb hit => ?_⟩
          by_cases hji : j = i
          · rw [hji] at hb hit ⊢
            rcases hno hb hit with q | q
            · omega
            · rw [z3] at q; exact q
          · exact z4 j (by omega) hb hit
        · exact Or.inr z1
      refine jn_ite (fun hc => by omega) (fun _ => ⟨by omega, jc_inBits hclv.1 (by omega) (jn_if (fun hp => next (fun hb _ => absurd ⟨by omega, by rw [Int.toNat_natCast]; exact hb⟩ hp)) (fun hp => ⟨by omega, ?_⟩))⟩)
      rw [Int.toNat_natCast] at hp
      obtain ⟨-, -, p3, -, -⟩ := hXτ.2.2
      have hi62 : i < 62 := by omega
      by_cases hit : jn_it g i
      · obtain ⟨g1, -⟩ := jn_FP_go hW hF hs hp.2 hit
        rw [((p3 i hi62).1 hit).1, jr_wr (show jr (jn_is g i) by omega)]
        refine jn_ite (fun hc => by omega) (fun _ => ?_)
        refine jc_X7_spreadFrom h0 hW hf2 hXτ hF hM1 hm1 hs hp.2 hit (fun hq => ?_) (fun τ' L' a1 a2 a3 a4 a5 => ?_)
        · rw [show jg_wr 0 = 0 from rfl]
          exact jn_ite (fun _ => next (fun _ _ => Or.inr hq)) (fun hc => absurd rfl hc)
        · rw [show jg_wr 1 = 1 from rfl]
          refine jn_ite (fun hc => by omega) (fun _ => ?_)
          rw [show (i : Int) + 1 = ((i + 1 : Nat) : Int) by omega]
          refine ih (i + 1) 1 τ' L' (by omega) (jF_tr hFτ a1) a2 a3 (fun s' x' => jn_sub_tr (hsub s' x') (a4 s' x')) (Or.inr ⟨rfl, ?_⟩)
          rcases hz with ⟨-, -, z3, -⟩ | ⟨-, z1⟩
          · rw [z3] at a5; exact a5
          · omega
      · rw [(p3 i hi62).2 hit, show jg_wr (-2) = -2 from rfl]
        exact jn_ite (fun _ => next (fun _ h => absurd h hit)) (fun hc => by omega)
  exact hloop _ 0 0 σ L (Nat.zero_add _) jF_rf hM hm (fun _ _ => jn_sub_rf) (Or.inl ⟨rfl, rfl, rfl, fun j hj => by omega⟩)
theorem jc_X7_spread0 {v : Nat} (h0 : jg_sh A = (7, 0)) (hn : σ.1 A 0 = 0) (hx : jr x) (hk : ∀ τ, jF (fun a _ => a = A + 5) σ τ → K τ) : jg_CV w 4 mm_X7_spread [.ref A, .int (.ofInt x), .int (.ofInt (v : Int))] σ K := by
  refine jb_X7_spread_0 h0 (jc_fill (jg_sX7_5 h0) (by omega) (fun τ hF _ => ?_))
  have hn1 : τ.1 A 0 = 0 := (hF.1 _ _ (by omega)).trans hn
  refine jb_X7_widen_0 h0 (jc_X7_has h0 hn1 (by omega) (by omega) (jn_if (fun hp => ?_) (fun hp => by omega)))
  refine jb_X7_spread_21 h0 ?_
  rw [show jg_wr 1 = 1 from rfl, show jg_wr 0 = 0 from rfl]
  refine jn_ite (fun hc => by omega) (fun _ => jn_ite (fun hc => by omega) (fun _ => jb_X7_spread_37 h0 ?_))
  rw [hn1, show jg_wr 0 = 0 from rfl]
  refine jn_ite (fun _ => jb_X7_spread_21 h0 ?_) (fun hc => by omega)
  rw [show jg_wr 0 = 0 from rfl]
  exact jn_ite (fun _ => hk τ hF) (fun hc => absurd rfl hc)
theorem jn_mL_0 (hW : jn_GW g) : jn_mL g e f S (fun s i => if s = 0 ∧ i = 5 * g 0 2 then 2 ^ (g 0 0).toNat else 0) := by
  refine ⟨fun s i => ?_, fun L' hL' s i q1 q2 q3 q4 => ?_⟩
  · dsimp only
    split
    · exact (jn_pow_lt hW).1
    · omega
  · dsimp only
    split
    · rename_i h; rw [h.1, h.2]; exact hL'.1
    · exact jn_sub_0
theorem jc_X7_spread (h0 : jg_sh A = (7, 0)) (hW : jn_GW g) (hf2 : ∀ k, 0 ≤ k → k < 5 → f k < 256) (hX : jn_Fx σ A g e f S) (hF : jn_FP g S)
    (hk : ∀ τ L, jF (fun a _ => a = A + 5) σ τ → jn_LM τ A L → jn_lL g e f S L → K τ) : jg_CV w 4 mm_X7_spread [.ref A, .int (.ofInt (g 0 2 * 5)), .int (.ofInt ((2 ^ (g 0 0).toNat : Nat) : Int))] σ K := by
  have hI1 := hF.1.1
  have hw := hW.1
  have hpl := (jn_pow_lt hW).1
  have hin : ∀ (m : Nat) (s : Int) (u1 u2 : Value) (z n : Int) (D0 : Nat) (τ : jg_M) (L : Int → Int → Nat), (∀ (u1 u2 u5 : Value) (z : Int) (τ : jg_M) (L : Int → Int → Nat), jF (fun a _ => a = A + 5) σ τ → jn_LM τ A L → jn_mL g e f S L → jn_sub (2 ^ (g 0 0).toNat) (L 0 (5 * g 0 2)) → ((z = 0 ∧ jn_cL g e f S L) ∨ (z = 1 ∧ D0 < jn_D L)) → jg_GV w 4 mm_X7_spread 21 [.ref A, u1, u2, .int (.ofInt z), .int (.ofInt (n + 1)), u5] τ K) →
      0 ≤ s → s + m = S.1 → jF (fun a _ => a = A + 5) σ τ → jn_LM τ A L → jn_mL g e f S L → jn_sub (2 ^ (g 0 0).toNat) (L 0 (5 * g 0 2)) → ((z = 0 ∧ jn_D L = D0 ∧ ∀ s' (i : Nat), 0 ≤ s' → s' < s → (jn_clo g (S.2.1 s')).testBit i = true → jn_it g i → jn_c1 g e f S L s' i) ∨ (z = 1 ∧ D0 < jn_D L)) → jg_GV w 4 mm_X7_spread 37 [.ref A, u1, u2, .int (.ofInt z), .int (.ofInt n), .int (.ofInt s)] τ K := by
    intro m
    induction m with
    | zero =>
      intro s u1 u2 z n D0 τ L hP s0 s1 hFτ hM hm hst hz
      have hXτ := jn_Fx_fr hX hFτ (fun a i h => by omega)
      refine jb_X7_spread_37 h0 ?_
      rw [hXτ.1.1, jr_wr (by omega), jr_wr (by omega)]
      refine jn_ite (fun _ => hP _ _ _ z τ L hFτ hM hm hst ?_) (fun hc => by omega)
      rcases hz with ⟨z1, -, z3⟩ | z1
      · exact Or.inl ⟨z1, hst, fun s' i q1 q2 => z3 s' i q1 (by omega)⟩
      · exact Or.inr z1
    | succ m ih =>
      intro s u1 u2 z n D0 τ L hP s0 s1 hFτ hM hm hst hz
      have hXτ := jn_Fx_fr hX hFτ (fun a i h => by omega)
      refine jb_X7_spread_37 h0 ?_
      rw [hXτ.1.1, jr_wr (by omega), jr_wr (by omega)]
      refine jn_ite (fun hc => by omega) (fun _ => jc_X7_spreadIn h0 hW hf2 hXτ hF hM hm ⟨s0, by omega⟩ (fun hq => ?_) (fun τ' L' a1 a2 a3 a4 a5 => ?_))
      · rw [show jg_wr 0 = 0 from rfl]
        refine jn_ite (fun _ => ih (s + 1) u1 u2 z n D0 τ L hP (by omega) (by omega) hFτ hM hm hst ?_) (fun hc => absurd rfl hc)
        rcases hz with ⟨z1, z2, z3⟩ | z1
        · refine Or.inl ⟨z1, z2, fun s' i q1 q2 q3 q4 => ?_⟩
          by_cases hs : s' = s
          · rw [hs] at q3 ⊢; exact hq i q3 q4
          · exact z3 s' i q1 (by omega) q3 q4
        · exact Or.inr z1
      · rw [show jg_wr 1 = 1 from rfl]
        refine jn_ite (fun hc => by omega) (fun _ => ih (s + 1) u1 u2 1 n D0 τ' L' hP (by omega) (by omega) (jF_tr hFτ a1) a2 a3 (jn_sub_tr hst (a4 _ _)) (Or.inr ⟨rfl, ?_⟩))
        rcases hz with ⟨-, z2, -⟩ | ⟨-, z1⟩ <;> omega
  have hout : ∀ (m : Nat) (n : Int) (u1 u2 u5 : Value) (τ : jg_M) (L : Int → Int → Nat), 758880 - jn_D L = m → 0 ≤ n → n ≤ jn_D L → jF (fun a _ => a = A + 5) σ τ → jn_LM τ A L → jn_mL g e f S L → jn_sub (2 ^ (g 0 0).toNat) (L 0 (5 * g 0 2)) → jg_GV w 4 mm_X7_spread 21 [.ref A, u1, u2, .int (.ofInt 1), .int (.ofInt n), u5] τ K := by
    intro m
    induction m using Nat.strongRecOn with
    | ind m ih =>
      intro n u1 u2 u5 τ L h1 h2 h3 hFτ hM hm hst
      have hD := jn_D_le hm.1
      refine jb_X7_spread_21 h0 ?_
      rw [show jg_wr 1 = 1 from rfl, jr_wr (by omega)]
      refine jn_ite (fun hc => by omega) (fun _ => jn_ite (fun hc => by omega) (fun _ => ?_))
      refine hin _ 0 _ _ 0 n (jn_D L) τ L (fun u1 u2 u5 z τ' L' a1 a2 a3 a4 a5 => ?_) (by omega) (by omega : (0 : Int) + S.1.toNat = S.1) hFτ hM hm hst (Or.inl ⟨rfl, rfl, fun s' i q1 q2 => by omega⟩)
      have hD' := jn_D_le a3.1
      rcases a5 with ⟨rfl, a5⟩ | ⟨rfl, a5⟩
      · refine jb_X7_spread_21 h0 ?_
        rw [show jg_wr 0 = 0 from rfl]
        exact jn_ite (fun _ => hk τ' L' a1 a2 ⟨a5, a3⟩) (fun hc => absurd rfl hc)
      · exact ih (758880 - jn_D L') (by omega) (n + 1) _ _ _ τ' L' rfl (by omega) (by omega) a1 a2 a3 a4
  refine jb_X7_spread_0 h0 (jc_fill (jg_sX7_5 h0) (by omega) (fun τ0 hF0 hz => ?_))
  have hX0 := jn_Fx_fr hX hF0 (fun a i h => by omega)
  have hM0 : jn_LM τ0 A (fun _ _ => 0) := fun s i q1 q2 q3 q4 => hz _ (by omega) (by omega)
  have hm0 : jn_mL g e f S (fun _ _ => 0) := ⟨fun _ _ => (by decide : 0 < 256), fun L' hL' s i q1 q2 q3 q4 => jn_sub_0⟩
  refine jc_X7_widen h0 hX0 hF hM0 hm0 ⟨by omega, by omega⟩ ⟨by omega, by omega⟩ hpl (fun L' hL' => by rw [show g 0 2 * 5 = 5 * g 0 2 by omega]; exact hL'.1) (fun hq => ?_) (fun τ a1 a2 a3 a4 => ?_)
  · have := jn_sub_pow.mp hq
    rw [Nat.zero_testBit] at this
    cases this
  · refine hout _ 0 _ _ _ τ _ rfl (by omega) (by omega) (jF_tr hF0 a1) a2 a3 ?_
    rw [show g 0 2 * 5 = 5 * g 0 2 by omega, jn_v2_s]
    exact jn_sub_r
/-- BEHIND in the reference -/
def jn_LMm (σ : jg_M) (c : Int) (S : jn_Q) (L : Int → Int → Nat) : Prop := ∀ s i, 0 ≤ s → s < S.1 → 0 ≤ i → i < 62 → σ.1 (92 + 18) (65 * (48 * c + s) + i) = (L s i : Nat)
def jn_RK (σ : jg_M) (c : Int) (g : gM) (S : jn_Q) : Prop := σ.1 (92 + 13) c = S.1 ∧ (∀ j, 0 ≤ j → j < S.1 → jn_row σ (92 + 14) (65 * (48 * c + j)) (S.2.1 j) ∧ jn_row σ (92 + 15) (65 * (48 * c + j)) (jn_clo g (S.2.1 j)) ∧ σ.1 (92 + 17) (48 * c + j) = jn_mx (S.2.2.2 j)) ∧ ∀ s x, 0 ≤ s → s < S.1 → 0 ≤ x → x < 12 → σ.1 (92 + 16) (12 * (48 * c + s) + x) = S.2.2.1 s (jn_sy x)
theorem jn_RK_fr {W : Nat → Int → Prop} {τ : jg_M} (h : jn_RK σ c g S) (hF : jF W σ τ) (hn : ∀ a i, (92 + 13 ≤ a ∧ a ≤ 92 + 17) → ¬ W a i) : jn_RK τ c g S := by
  obtain ⟨h1, h2, h3⟩ := h
  refine ⟨(hF.1 _ _ (hn _ _ (by omega))).trans h1, fun j j1 j2 => ?_, fun s x s1 s2 x1 x2 => (hF.1 _ _ (hn _ _ (by omega))).trans (h3 s x s1 s2 x1 x2)⟩
  obtain ⟨r1, r2, r3⟩ := h2 j j1 j2
  exact ⟨jn_row_fr r1 hF (fun i _ => hn _ _ (by omega)), jn_row_fr r2 hF (fun i _ => hn _ _ (by omega)), (hF.1 _ _ (hn _ _ (by omega))).trans r3⟩
theorem jn_or01 {z1 z2 : Int} (h1 : z1 = 0 ∨ z1 = 1) (h2 : z2 = 0 ∨ z2 = 1) : jg_or z1 z2 = if z1 = 0 ∧ z2 = 0 then 0 else 1 := by
  rcases h1 with rfl | rfl <;> rcases h2 with rfl | rfl <;> rfl
theorem jm_moreLook {v : Nat} (hI : jn_IQ g S) (hc2 : 0 ≤ c ∧ c ≤ 1) (hM : jn_LMm σ c S L) (hm : jn_mL g e f S L) (hs : 0 ≤ s ∧ s < S.1) (hx : 0 ≤ x ∧ x < 62) (hv : v < 256) (hq : ∀ L', jn_cL g e f S L' → jn_sub v (L' s x))
    (k0 : jn_sub v (L s x) → KI 0 σ) (k1 : ∀ τ, jF (fun a i => a = 92 + 18 ∧ 3120 * c ≤ i ∧ i < 3120 * c + 3120) σ τ → jn_LMm τ c S (jn_v2 L s x (L s x ||| v)) → jn_mL g e f S (jn_v2 L s x (L s x ||| v)) → jn_D L < jn_D (jn_v2 L s x (L s x ||| v)) → KI 1 τ) : jg_CI w 0 mm_X12_moreLook [.ref 92, .int (.ofInt (65 * (48 * c + s) + x)), .int (.ofInt (v : Int))] σ KI := by
  have hI1 := hI.1
  have hL := hm.1 s x
  refine jb_X12_moreLook_0 rfl ?_
  rw [jr_wr (by omega), hM s x hs.1 hs.2 hx.1 hx.2, jb_or (by omega) (by omega)]
  refine ⟨by omega, jn_ite (fun h9 => k0 ((jb_andn (by omega) (by omega)).mp h9)) (fun h9 => ⟨by omega, by omega, ?_⟩)⟩
  have hns : ¬ jn_sub v (L s x) := fun q => h9 ((jb_andn (by omega) (by omega)).mpr q)
  rintro _ rfl
  have hgt := jn_or_gt hns
  have hD := jn_D_up (L := L) (s := s) (x := x) (v := L s x ||| v) (by omega) hx
  refine k1 _ (jF_I ⟨rfl, by omega, by omega⟩) (fun s' i' q1 q2 q3 q4 => ?_) (jn_mL_up hm hv hq hs hx) (by omega)
  by_cases h9 : s' = s ∧ i' = x
  · rw [h9.1, h9.2, js_Is, jn_v2_s]
  · rw [js_In (Or.inr (by omega)), jn_v2_n (by omega)]
    exact hM s' i' q1 q2 q3 q4
theorem jm_layLooks0 (hG : jn_Mg σ a g) (hc : σ.1 92 36 = c) (hc2 : 0 ≤ c ∧ c ≤ 1) (hn : σ.1 (92 + 13) c = 0) (hk : K σ) : jg_CV w 3 mm_X12_layLooks [.ref 92] σ K := by
  refine jb_X12_layLooks_0 rfl ?_
  rw [hc, jr_wr (show jr c by omega), hn, show jg_wr 0 = 0 from rfl]
  exact ⟨by omega, jn_ite (fun _ => hk) (fun h => absurd rfl h)⟩
theorem jm_layLooks (hG : jn_Mg σ a g) (hW : jn_GW g) (hc : σ.1 92 36 = c) (hc2 : 0 ≤ c ∧ c ≤ 1) (he : σ.1 (92 + 20) c = (e : Int)) (he2 : e < 32) (hf : ∀ k, 0 ≤ k → k < 5 → σ.1 (92 + 21) (5 * c + k) = (f k : Int)) (hf2 : ∀ k, 0 ≤ k → k < 5 → f k < 256)
    (hR : jn_RK σ c g S) (hF : jn_FP g S) (hz : ∀ j, 0 ≤ j → j < S.1 → ∀ i : Nat, i < 65 → σ.1 (92 + 18) (65 * (48 * c + j) + i) = 0) (hk : ∀ τ L, jF (fun a i => a = 92 + 18 ∧ 3120 * c ≤ i ∧ i < 3120 * c + 3120) σ τ → jn_LMm τ c S L → jn_lL g e f S L → K τ) : jg_CV w 3 mm_X12_layLooks [.ref 92] σ K := by
  have hI1 := hF.1.1
  have hw := hW.1
  have ha := hG.1.2.1
  have hpl := jn_pow_lt hW
  have hGt : ∀ τ, jF (fun a i => a = 92 + 18 ∧ 3120 * c ≤ i ∧ i < 3120 * c + 3120) σ τ → jn_Mg τ a g ∧ τ.1 92 36 = c ∧ τ.1 (92 + 20) c = (e : Int) ∧ (∀ k, 0 ≤ k → k < 5 → τ.1 (92 + 21) (5 * c + k) = (f k : Int)) ∧ jn_RK τ c g S := fun τ h => ⟨jn_Mg_fr hG h (by omega) (by omega), (h.1 _ _ (by omega)).trans hc, (h.1 _ _ (by omega)).trans he, fun k k1 k2 => (h.1 _ _ (by omega)).trans (hf k k1 k2), jn_RK_fr hR h (fun a i h => by omega)⟩
  -- the rules of one item's kind
  have hrule : ∀ (s : Int) (m : Nat) (R : Nat) (z z0 : Int) (i : Nat) (u5 : Value) (D0 : Nat) (τ : jg_M) (L0 L1 : Int → Int → Nat), (∀ (u4 u5 u6 u7 : Value) (z : Int) (τ : jg_M) (L1 : Int → Int → Nat), jF (fun a i => a = 92 + 18 ∧ 3120 * c ≤ i ∧ i < 3120 * c + 3120) σ τ → jn_LMm τ c S L1 → jn_mL g e f S L1 → (∀ s x, jn_sub (L0 s x) (L1 s x)) → ((z = 0 ∧ z0 = 0 ∧ jn_D L1 = D0 ∧ L1 = L0 ∧ ∀ j : Nat, (jn_O g (jn_is g i - 10)).testBit j = true → jn_sub (jn_LB g e f L0 s i) (L0 s j)) ∨ (z = 1 ∧ D0 < jn_D L1)) → jg_GV w 3 mm_X12_layLooks 70 [.ref 92, .int (.ofInt z), .int (.ofInt s), .int (.ofInt ((i : Int) + 1)), u4, u5, u6, u7] τ K) →
      0 ≤ s → s < S.1 → i < 61 → (jn_clo g (S.2.1 s)).testBit i = true → jn_it g i → 10 ≤ jn_is g i → jn_is g i < 15 → jn_mL g e f S L0 → R + m = (g 0 2).toNat → jF (fun a i => a = 92 + 18 ∧ 3120 * c ≤ i ∧ i < 3120 * c + 3120) σ τ → jn_LMm τ c S L1 → jn_mL g e f S L1 → (∀ s x, jn_sub (L0 s x) (L1 s x)) → ((z = 0 ∧ z0 = 0 ∧ jn_D L1 = D0 ∧ L1 = L0 ∧ ∀ j : Nat, j < 5 * R → (jn_O g (jn_is g i - 10)).testBit j = true → jn_sub (jn_LB g e f L0 s i) (L0 s j)) ∨ (z = 1 ∧ D0 < jn_D L1)) → jg_GV w 3 mm_X12_layLooks 204 [.ref 92, .int (.ofInt z), .int (.ofInt s), .int (.ofInt (i : Int)), .int (.ofInt (jn_is g i - 3)), u5, .int (.ofInt (jn_LB g e f L0 s i : Nat)), .int (.ofInt (R : Int))] τ K := by
    intro s m
    induction m with
    | zero =>
      intro R z z0 i u5 D0 τ L0 L1 hP s0 s1 i1 hb hit h10 h15 hm0 hR9 hFτ hM hm hsub hz
      obtain ⟨hGτ, hcτ, heτ, hfτ, hRτ⟩ := hGt τ hFτ
      refine jb_X12_layLooks_204 rfl ?_
      rw [hGτ.1.1, jr_wr (show jr a by omega), hGτ.1.2.2.2.2.2.2, jr_wr (show jr (g 0 2) by omega), jr_wr (show jr (R : Int) by omega)]
      refine ⟨by omega, jn_ite (fun _ => hP _ _ _ _ z τ L1 hFτ hM hm hsub ?_) (fun hh => by omega)⟩
      rcases hz with ⟨z1, zz, z2, z3, z4⟩ | z1
      · refine Or.inl ⟨z1, zz, z2, z3, fun j hj => z4 j ?_ hj⟩
        have h9 := (jn_mk_bit.mp hj).2.2.1
        unfold jn_r at h9
        omega
      · exact Or.inr z1
    | succ m ih =>
      intro R z z0 i u5 D0 τ L0 L1 hP s0 s1 i1 hb hit h10 h15 hm0 hR9 hFτ hM hm hsub hz
      obtain ⟨hGτ, hcτ, heτ, hfτ, hRτ⟩ := hGt τ hFτ
      have hrk := (hW.2.1 (R : Int) (by omega) (by omega)).1
      refine jb_X12_layLooks_204 rfl ?_
      rw [hGτ.1.1, jr_wr (show jr a by omega), hGτ.1.2.2.2.2.2.2, jr_wr (show jr (g 0 2) by omega), jr_wr (show jr (R : Int) by omega)]
      refine ⟨by omega, jn_ite (fun hh => by omega) (fun _ => ?_)⟩
      rw [show jn_is g i - 3 - 7 = jn_is g i - 10 by omega]
      have hz01 : z = 0 ∨ z = 1 := by rcases hz with ⟨q, -⟩ | ⟨q, -⟩ <;> omega
      have hO : (jn_O g (jn_is g i - 10)).testBit (5 * R) = true ↔ ((R : Int) ≠ g 0 4 ∧ g 3 (R : Int) = jn_is g i - 10) := by
        unfold jn_O
        rw [jn_mk_bit]
        have hr5 : jn_r (5 * R) = (R : Int) := by unfold jn_r; omega
        rw [hr5]
        exact ⟨fun q => q.2.2.2, fun q => ⟨by omega, by omega, by omega, q⟩⟩
      have next : ∀ z' : Int, z' = z → (¬ (jn_O g (jn_is g i - 10)).testBit (5 * R) = true ∨ z = 1 ∨ jn_sub (jn_LB g e f L0 s i) (L1 s ((5 * R : Nat) : Int))) → jg_GV w 3 mm_X12_layLooks 204 [.ref 92, .int (.ofInt z'), .int (.ofInt s), .int (.ofInt (i : Int)), .int (.ofInt (jn_is g i - 3)), u5, .int (.ofInt (jn_LB g e f L0 s i : Nat)), .int (.ofInt ((R : Int) + 1))] τ K := by
        rintro z' rfl hno
        rw [show (R : Int) + 1 = ((R + 1 : Nat) : Int) by omega]
        refine ih (R + 1) z' z0 i u5 D0 τ L0 L1 hP s0 s1 i1 hb hit h10 h15 hm0 (by omega) hFτ hM hm hsub ?_
        rcases hz with ⟨z1, zz, z2, z3, z4⟩ | z1
        · refine Or.inl ⟨z1, zz, z2, z3, fun j hj hb => ?_⟩
          by_cases hlt : j < 5 * R
          · exact z4 j hlt hb
          · have h5 := (jn_mk_bit.mp hb).2.1
            have hjR : j = 5 * R := by omega
            rw [hjR] at hb ⊢
            rcases hno with q | q | q
            · exact absurd hb q
            · omega
            · rw [z3] at q; exact q
        · exact Or.inr z1
      refine jm_isRuleOf hGτ hW (by omega) (by omega) (jn_if (fun hp => next z rfl (Or.inl (fun q => hp (hO.mp q)))) (fun hp => jm_itemAt hcτ ?_))
      have hO5 := hO.mpr hp
      have hR62 := (jn_mk_bit.mp hO5).1
      rw [show (5 * (R : Int)) = ((5 * R : Nat) : Int) by omega]
      refine jm_moreLook hF.1 hc2 hM hm ⟨s0, s1⟩ ⟨by omega, by omega⟩ (jn_LB_lt hW hf2 hm0.1) (fun L' hL' => ?_) (fun hq => ?_) (fun τ' a1 a2 a3 a4 => ?_)
      · exact jn_sub_tr (jn_LB_mono (hm0.2 L' hL' s i s0 s1 (by omega) (by omega))) ((hL'.2 s i s0 s1 hb hit).2 _ hO5 h10)
      · intro t ht
        rw [jn_or01 hz01 (Or.inl rfl)] at ht
        exact next t (by rw [ht]; split <;> omega) (Or.inr (Or.inr hq))
      · intro t ht
        rw [jn_or01 hz01 (Or.inr rfl), if_neg (by omega)] at ht
        rw [ht, show (R : Int) + 1 = ((R + 1 : Nat) : Int) by omega]
        refine ih (R + 1) 1 z0 i u5 D0 τ' L0 _ hP s0 s1 i1 hb hit h10 h15 hm0 (by omega) (jF_tr hFτ a1) a2 a3 (fun s' x' => jn_sub_tr (hsub s' x') jn_v2_sub) (Or.inr ⟨rfl, ?_⟩)
        rcases hz with ⟨-, -, z2, -, -⟩ | ⟨-, z1⟩ <;> omega
  -- the items of one state
  have hitem : ∀ (s : Int) (m : Nat) (i : Nat) (z : Int) (u4 u5 u6 u7 : Value) (D0 : Nat) (τ : jg_M) (L1 : Int → Int → Nat), (∀ (u3 u4 u5 u6 u7 : Value) (z : Int) (τ : jg_M) (L1 : Int → Int → Nat), jF (fun a i => a = 92 + 18 ∧ 3120 * c ≤ i ∧ i < 3120 * c + 3120) σ τ → jn_LMm τ c S L1 → jn_mL g e f S L1 → jn_sub (2 ^ (g 0 0).toNat) (L1 0 (5 * g 0 2)) → ((z = 0 ∧ jn_D L1 = D0 ∧ ∀ s' (j : Nat), 0 ≤ s' → s' < s + 1 → (jn_clo g (S.2.1 s')).testBit j = true → jn_it g j → jn_c1 g e f S L1 s' j) ∨ (z = 1 ∧ D0 < jn_D L1)) → jg_GV w 3 mm_X12_layLooks 55 [.ref 92, .int (.ofInt z), .int (.ofInt (s + 1)), u3, u4, u5, u6, u7] τ K) →
      0 ≤ s → s < S.1 → i + m = 65 → jF (fun a i => a = 92 + 18 ∧ 3120 * c ≤ i ∧ i < 3120 * c + 3120) σ τ → jn_LMm τ c S L1 → jn_mL g e f S L1 → jn_sub (2 ^ (g 0 0).toNat) (L1 0 (5 * g 0 2)) → ((z = 0 ∧ jn_D L1 = D0 ∧ (∀ s' (j : Nat), 0 ≤ s' → s' < s → (jn_clo g (S.2.1 s')).testBit j = true → jn_it g j → jn_c1 g e f S L1 s' j) ∧ ∀ j : Nat, j < i → (jn_clo g (S.2.1 s)).testBit j = true → jn_it g j → jn_c1 g e f S L1 s j) ∨ (z = 1 ∧ D0 < jn_D L1)) → jg_GV w 3 mm_X12_layLooks 70 [.ref 92, .int (.ofInt z), .int (.ofInt s), .int (.ofInt (i : Int)), u4, u5, u6, u7] τ K := by
    intro s m
    induction m with
    | zero =>
      intro i z u4 u5 u6 u7 D0 τ L1 hP s0 s1 hi hFτ hM hm hst hz
      refine jb_X12_layLooks_70 rfl ?_
      rw [jr_wr (show jr (i : Int) by omega)]
      refine jn_ite (fun _ => hP _ _ _ _ _ z τ L1 hFτ hM hm hst ?_) (fun hh => by omega)
      rcases hz with ⟨z1, z2, z3, z4⟩ | z1
      · refine Or.inl ⟨z1, z2, fun s' j q1 q2 q3 q4 => ?_⟩
        by_cases hs : s' = s
        · rw [hs] at q3 ⊢; exact z4 j (by have := jn_it_lt hW q4; omega) q3 q4
        · exact z3 s' j q1 (by omega) q3 q4
      · exact Or.inr z1
    | succ m ih =>
      intro i z u4 u5 u6 u7 D0 τ L1 hP s0 s1 hi hFτ hM hm hst hz
      obtain ⟨hGτ, hcτ, heτ, hfτ, hRτ⟩ := hGt τ hFτ
      have hclv := jn_clo_vs hW (hF.1.2.1 s s0 s1)
      have hdm := jn_divmod (i := i) (by omega)
      have hz01 : z = 0 ∨ z = 1 := by rcases hz with ⟨q, -⟩ | ⟨q, -⟩ <;> omega
      refine jb_X12_layLooks_70 rfl ?_
      rw [jr_wr (show jr (i : Int) by omega), hdm.1, hdm.2]
      have next : (∀ (hb : (jn_clo g (S.2.1 s)).testBit i = true) (hit : jn_it g i), z = 1 ∨ jn_c1 g e f S L1 s i) → ∀ u4 u5 u6 u7 : Value, jg_GV w 3 mm_X12_layLooks 70 [.ref 92, .int (.ofInt z), .int (.ofInt s), .int (.ofInt ((i : Int) + 1)), u4, u5, u6, u7] τ K := by
        intro hno u4 u5 u6 u7
        rw [show (i : Int) + 1 = ((i + 1 : Nat) : Int) by omega]
        refine ih (i + 1) z u4 u5 u6 u7 D0 τ L1 hP s0 s1 (by omega) hFτ hM hm hst ?_
        rcases hz with ⟨z1, z2, z3, z4⟩ | z1
        · refine Or.inl ⟨z1, z2, z3, fun j hj hb hit => ?_⟩
          by_cases hji : j = i
          · rw [hji] at hb hit ⊢
            rcases hno hb hit with q | q
            · omega
            · exact q
          · exact z4 j (by omega) hb hit
        · exact Or.inr z1
      refine jn_ite (fun hh => by omega) (fun _ => jm_itemAt hcτ ?_)
      rw [jr_wr (show jr (65 * (48 * c + s) + (i : Int)) by omega), (hRτ.2.1 s s0 s1).2.1 i (by omega)]
      refine ⟨by omega, jn_if (fun hp => next (fun hb _ => absurd hb hp) _ _ _ _) (fun hp => ?_)⟩
      have hvi := hclv.2 i hp
      have hmr := jn_mx_rng (r := jn_r i) (k := jn_d i) hW
      refine jm_moveBy hGτ hW ⟨by unfold jn_r; omega, hvi.1⟩ ⟨by unfold jn_d; omega, by unfold jn_d; omega⟩ ?_
      rw [jr_wr (show jr (jn_mx (jn_sym g (jn_r i) (jn_d i))) by omega)]
      by_cases hit : jn_it g i
      · obtain ⟨g1, g2, g3, g4⟩ := jn_FP_go hW hF ⟨s0, s1⟩ hp hit
        have hi61 := jn_it_lt hW hit
        have hsy := jn_sym_rng (r := jn_r i) (k := jn_d i) hW ⟨by unfold jn_d; omega, hit.2.2⟩
        have hmx : 0 ≤ jn_mx (jn_sym g (jn_r i) (jn_d i)) ∧ jn_sy (jn_mx (jn_sym g (jn_r i) (jn_d i))) = jn_is g i := by
          unfold jn_is jn_sy jn_mx
          rw [if_neg (by omega)]
          split
          · rw [if_pos (by omega)]; omega
          · rw [if_neg (by omega)]; omega
        refine jn_ite (fun _ => jm_itemAt hcτ ?_) (fun hh => absurd hmx.1 hh)
        have hLi := hm.1 s i
        rw [jr_wr (show jr (65 * (48 * c + s) + (i : Int)) by omega), hM s i s0 s1 (by omega) (by omega)]
        refine ⟨by omega, fun t ht => ?_⟩
        rw [ht]
        refine jm_moveAt hcτ ?_
        rw [jr_wr (by omega), hRτ.2.2 s _ s0 s1 hmx.1 (by omega), hmx.2]
        refine ⟨by omega, jm_itemAt hcτ ?_⟩
        -- what holds behind the item
        have after : ∀ (u4 u5 u6 u7 : Value) (z2 : Int) (τ2 : jg_M) (L3 : Int → Int → Nat), jF (fun a i => a = 92 + 18 ∧ 3120 * c ≤ i ∧ i < 3120 * c + 3120) σ τ2 → jn_LMm τ2 c S L3 → jn_mL g e f S L3 → (∀ s x, jn_sub (L1 s x) (L3 s x)) → ((z2 = 0 ∧ z = 0 ∧ L3 = L1 ∧ jn_c1 g e f S L1 s i) ∨ (z2 = 1 ∧ D0 < jn_D L3)) → jg_GV w 3 mm_X12_layLooks 70 [.ref 92, .int (.ofInt z2), .int (.ofInt s), .int (.ofInt ((i : Int) + 1)), u4, u5, u6, u7] τ2 K := by
          intro u4 u5 u6 u7 z2 τ2 L3 hF2 hM2 hm2 hsub2 hz2
          rw [show (i : Int) + 1 = ((i + 1 : Nat) : Int) by omega]
          refine ih (i + 1) z2 u4 u5 u6 u7 D0 τ2 L3 hP s0 s1 (by omega) hF2 hM2 hm2 (jn_sub_tr hst (hsub2 _ _)) ?_
          rcases hz2 with ⟨b1, b2, b3, b4⟩ | b
          · rcases hz with ⟨-, d2, d3, d4⟩ | ⟨d1, -⟩
            · rw [b3]
              refine Or.inl ⟨b1, d2, d3, fun j hj hb hjt => ?_⟩
              by_cases hji : j = i
              · rw [hji]; exact b4
              · exact d4 j (by omega) hb hjt
            · omega
          · exact Or.inr b
        -- behind the first widening
        have rest : ∀ (z1 : Int) (τ1 : jg_M) (L2 : Int → Int → Nat), jF (fun a i => a = 92 + 18 ∧ 3120 * c ≤ i ∧ i < 3120 * c + 3120) σ τ1 → jn_LMm τ1 c S L2 → jn_mL g e f S L2 → (∀ s x, jn_sub (L1 s x) (L2 s x)) → ((z1 = 0 ∧ z = 0 ∧ L2 = L1 ∧ jn_sub (L1 s i) (L1 (S.2.2.1 s (jn_is g i)) ((i : Int) + 1))) ∨ (z1 = 1 ∧ D0 < jn_D L2)) →
            (if 7 ≤ jn_mx (jn_sym g (jn_r i) (jn_d i)) then jg_CI w 2 mm_X12_firstFrom [.ref 92, .int (.ofInt (jn_r i)), .int (.ofInt (jn_d i + 1))] τ1 (fun (z116 : Int) (m115 : jg_M) => jg_CI w 2 mm_X12_isEmptyFrom [.ref 92, .int (.ofInt (jn_r i)), .int (.ofInt (jn_d i + 1))] m115 (fun (z118 : Int) (m117 : jg_M) => (if jg_wr z118 = 0 then ∀ t119 : Int, t119 = (jg_or z116 0) → jg_GV w 3 mm_X12_layLooks 204 [.ref 92, .int (.ofInt z1), .int (.ofInt s), .int (.ofInt (i : Int)), .int (.ofInt (jn_mx (jn_sym g (jn_r i) (jn_d i)))), .int (.ofInt (L1 s i : Nat)), .int (.ofInt t119), .int (.ofInt 0)] m117 K else ∀ t120 : Int, t120 = (jg_or z116 (L1 s i : Nat)) → jg_GV w 3 mm_X12_layLooks 204 [.ref 92, .int (.ofInt z1), .int (.ofInt s), .int (.ofInt (i : Int)), .int (.ofInt (jn_mx (jn_sym g (jn_r i) (jn_d i)))), .int (.ofInt (L1 s i : Nat)), .int (.ofInt t120), .int (.ofInt 0)] m117 K))) else jg_GV w 3 mm_X12_layLooks 70 [.ref 92, .int (.ofInt z1), .int (.ofInt s), .int (.ofInt ((i : Int) + 1)), .int (.ofInt (jn_mx (jn_sym g (jn_r i) (jn_d i)))), .int (.ofInt (L1 s i : Nat)), u6, u7] τ1 K) := by
          intro z1 τ1 L2 hF1 hM1 hm1 hsub hz1
          obtain ⟨hG1, hc1, he1, hf1, hR1⟩ := hGt τ1 hF1
          have hsy2 := hmx.2
          unfold jn_sy at hsy2
          refine jn_ite (fun h7 => ?_) (fun h7 => ?_)
          · rw [if_neg (by omega)] at hsy2
            have h10 : 10 ≤ jn_is g i := by omega
            have hm3 : jn_mx (jn_sym g (jn_r i) (jn_d i)) = jn_is g i - 3 := by omega
            have hFlt := jn_F_lt (e := e) (r := jn_r i) (k := jn_d i + 1) hW hf2 (by unfold jn_d; omega)
            have start : ∀ (t : Int) (u5 : Value), t = (jn_LB g e f L1 s i : Nat) → jg_GV w 3 mm_X12_layLooks 204 [.ref 92, .int (.ofInt z1), .int (.ofInt s), .int (.ofInt (i : Int)), .int (.ofInt (jn_mx (jn_sym g (jn_r i) (jn_d i)))), u5, .int (.ofInt t), .int (.ofInt 0)] τ1 K := by
              rintro t u5 rfl
              rw [hm3]
              refine hrule s _ 0 z1 z1 i u5 D0 τ1 L1 L2 (fun u4 u5 u6 u7 z2 τ2 L3 a1 a2 a3 a4 a5 => after u4 u5 u6 u7 z2 τ2 L3 a1 a2 a3 a4 ?_) s0 s1 hi61 hp hit h10 g1.2 hm (Nat.zero_add _) hF1 hM1 hm1 hsub ?_
              · rcases a5 with ⟨b1, b0, b2, b3, b4⟩ | b
                · rcases hz1 with ⟨c1, c2, c3, c4⟩ | ⟨c1, c2⟩
                  · exact Or.inl ⟨b1, c2, b3, c4, fun j hj _ => b4 j hj⟩
                  · omega
                · exact Or.inr b
              · rcases hz1 with ⟨c1, c2, c3, c4⟩ | c
                · rcases hz with ⟨-, d2, -, -⟩ | ⟨d1, -⟩
                  · exact Or.inl ⟨c1, c1, by rw [c3]; exact d2, c3, fun j hj => by omega⟩
                  · omega
                · exact Or.inr c
            refine jm_firstFrom hG1 hW hc1 hc2 he1 he2 hf1 hf2 ⟨by unfold jn_r; omega, hvi.1⟩ ⟨by unfold jn_d; omega, by unfold jn_d; omega⟩ (jm_isEmptyFrom hG1 hW hc1 hc2 he1 he2 ⟨by unfold jn_r; omega, hvi.1⟩ ⟨by unfold jn_d; omega, by unfold jn_d; omega⟩ (jn_if (fun hE t ht => start t _ ?_) (fun hE t ht => start t _ ?_)))
            · have h0 := jb_or (m := jn_F g e f (jn_r i) (jn_d i + 1)) (n := 0) (by omega) (by omega)
              rw [show ((0 : Nat) : Int) = 0 from rfl] at h0
              rw [ht, h0, Nat.or_zero]
              unfold jn_LB
              rw [if_neg hE, Nat.or_zero]
            · rw [ht, jb_or (by omega) (by omega)]
              unfold jn_LB
              rw [if_pos hE]
          · rw [if_pos (by omega)] at hsy2
            refine after _ _ _ _ z1 τ1 L2 hF1 hM1 hm1 hsub ?_
            rcases hz1 with ⟨c1, c2, c3, c4⟩ | c
            · exact Or.inl ⟨c1, c2, c3, c4, fun j hj h10 => by omega⟩
            · exact Or.inr c
        refine jm_moreLook hF.1 hc2 hM hm ⟨g2, g3⟩ ⟨by omega, by omega⟩ hLi (fun L' hL' => jn_sub_tr (hm.2 L' hL' s i s0 s1 (by omega) (by omega)) (hL'.2 s i s0 s1 hp hit).1) (fun hq => ?_) (fun τ' a1 a2 a3 a4 => ?_)
        · intro t ht
          rw [jn_or01 hz01 (Or.inl rfl)] at ht
          have htz : t = z := by rw [ht]; split <;> omega
          rw [htz]
          refine rest z τ L1 hFτ hM hm (fun _ _ => jn_sub_rf) ?_
          rcases hz with ⟨d1, -⟩ | d
          · exact Or.inl ⟨d1, d1, rfl, hq⟩
          · exact Or.inr d
        · intro t ht
          rw [jn_or01 hz01 (Or.inr rfl), if_neg (by omega)] at ht
          rw [ht]
          refine rest 1 τ' _ (jF_tr hFτ a1) a2 a3 (fun s' x' => jn_v2_sub) (Or.inr ⟨rfl, ?_⟩)
          rcases hz with ⟨-, d2, -, -⟩ | ⟨-, d2⟩ <;> omega
      · have hsm : jn_mx (jn_sym g (jn_r i) (jn_d i)) = -1 := by
          have : jn_sym g (jn_r i) (jn_d i) = -2 := by
            unfold jn_sym
            rw [if_pos (Or.inr (by
              have h9 : ¬ jn_d i < jn_len g (jn_r i) := fun q => hit ⟨hvi.1, hvi.2.1, q⟩
              omega))]
          rw [this]; rfl
        rw [hsm]
        exact jn_ite (fun hh => by omega) (fun _ => next (fun _ h => absurd h hit) _ _ _ _)
  have hst : ∀ (m : Nat) (s : Int) (u3 u4 u5 u6 u7 : Value) (z : Int) (D0 : Nat) (τ : jg_M) (L1 : Int → Int → Nat), (∀ (u2 u3 u4 u5 u6 u7 : Value) (z : Int) (τ : jg_M) (L1 : Int → Int → Nat), jF (fun a i => a = 92 + 18 ∧ 3120 * c ≤ i ∧ i < 3120 * c + 3120) σ τ → jn_LMm τ c S L1 → jn_mL g e f S L1 → jn_sub (2 ^ (g 0 0).toNat) (L1 0 (5 * g 0 2)) → ((z = 0 ∧ jn_cL g e f S L1) ∨ (z = 1 ∧ D0 < jn_D L1)) → jg_GV w 3 mm_X12_layLooks 47 [.ref 92, .int (.ofInt z), u2, u3, u4, u5, u6, u7] τ K) →
      0 ≤ s → s + m = S.1 → jF (fun a i => a = 92 + 18 ∧ 3120 * c ≤ i ∧ i < 3120 * c + 3120) σ τ → jn_LMm τ c S L1 → jn_mL g e f S L1 → jn_sub (2 ^ (g 0 0).toNat) (L1 0 (5 * g 0 2)) → ((z = 0 ∧ jn_D L1 = D0 ∧ ∀ s' (j : Nat), 0 ≤ s' → s' < s → (jn_clo g (S.2.1 s')).testBit j = true → jn_it g j → jn_c1 g e f S L1 s' j) ∨ (z = 1 ∧ D0 < jn_D L1)) → jg_GV w 3 mm_X12_layLooks 55 [.ref 92, .int (.ofInt z), .int (.ofInt s), u3, u4, u5, u6, u7] τ K := by
    intro m
    induction m with
    | zero =>
      intro s u3 u4 u5 u6 u7 z D0 τ L1 hP s0 s1 hFτ hM hm hst hz
      obtain ⟨hGτ, hcτ, heτ, hfτ, hRτ⟩ := hGt τ hFτ
      refine jb_X12_layLooks_55 rfl ?_
      rw [hcτ, jr_wr (show jr c by omega), hRτ.1, jr_wr (show jr S.1 by omega), jr_wr (show jr s by omega)]
      refine ⟨by omega, jn_ite (fun _ => hP _ _ _ _ _ _ z τ L1 hFτ hM hm hst ?_) (fun hh => by omega)⟩
      rcases hz with ⟨z1, -, z3⟩ | z1
      · exact Or.inl ⟨z1, hst, fun s' j q1 q2 => z3 s' j q1 (by omega)⟩
      · exact Or.inr z1
    | succ m ih =>
      intro s u3 u4 u5 u6 u7 z D0 τ L1 hP s0 s1 hFτ hM hm hst hz
      obtain ⟨hGτ, hcτ, heτ, hfτ, hRτ⟩ := hGt τ hFτ
      refine jb_X12_layLooks_55 rfl ?_
      rw [hcτ, jr_wr (show jr c by omega), hRτ.1, jr_wr (show jr S.1 by omega), jr_wr (show jr s by omega)]
      refine ⟨by omega, jn_ite (fun hh => by omega) (fun _ => ?_)⟩
      refine hitem s 65 0 z _ _ _ _ D0 τ L1 (fun u3 u4 u5 u6 u7 z τ L1 a1 a2 a3 a4 a5 => ih (s + 1) _ _ _ _ _ z D0 τ L1 hP (by omega) (by omega) a1 a2 a3 a4 a5) s0 (by omega) rfl hFτ hM hm hst ?_
      rcases hz with ⟨z1, z2, z3⟩ | z1
      · exact Or.inl ⟨z1, z2, z3, fun j hj => by omega⟩
      · exact Or.inr z1
  have hout : ∀ (m : Nat) (u2 u3 u4 u5 u6 u7 : Value) (τ : jg_M) (L : Int → Int → Nat), 758880 - jn_D L = m → jF (fun a i => a = 92 + 18 ∧ 3120 * c ≤ i ∧ i < 3120 * c + 3120) σ τ → jn_LMm τ c S L → jn_mL g e f S L → jn_sub (2 ^ (g 0 0).toNat) (L 0 (5 * g 0 2)) → jg_GV w 3 mm_X12_layLooks 47 [.ref 92, .int (.ofInt 1), u2, u3, u4, u5, u6, u7] τ K := by
    intro m
    induction m using Nat.strongRecOn with
    | ind m ih =>
      intro u2 u3 u4 u5 u6 u7 τ L h1 hFτ hM hm hs0
      have hD := jn_D_le hm.1
      refine jb_X12_layLooks_47 rfl ?_
      rw [show jg_wr 1 = 1 from rfl]
      refine jn_ite (fun hh => by omega) (fun _ => ?_)
      refine hst _ 0 _ _ _ _ _ 0 (jn_D L) τ L (fun u2 u3 u4 u5 u6 u7 z τ' L' a1 a2 a3 a4 a5 => ?_) (by omega) (by omega : (0 : Int) + S.1.toNat = S.1) hFτ hM hm hs0 (Or.inl ⟨rfl, rfl, fun s' j q1 q2 => by omega⟩)
      have hD' := jn_D_le a3.1
      rcases a5 with ⟨rfl, a5⟩ | ⟨rfl, a5⟩
      · refine jb_X12_layLooks_47 rfl ?_
        rw [show jg_wr 0 = 0 from rfl]
        exact jn_ite (fun _ => hk τ' L' a1 a2 ⟨a5, a3⟩) (fun hh => absurd rfl hh)
      · exact ih (758880 - jn_D L') (by omega) _ _ _ _ _ _ τ' L' rfl a1 a2 a3 a4
  refine jb_X12_layLooks_0 rfl ?_
  rw [hc, jr_wr (show jr c by omega), hR.1, jr_wr (show jr S.1 by omega), hG.1.1, jr_wr (show jr a by omega), hG.1.2.2.2.2.2.2]
  refine ⟨by omega, jn_ite (fun hh => by omega) (fun _ => ⟨by omega, jm_itemAt hc ?_⟩)⟩
  rw [hG.1.1, jr_wr (show jr a by omega), hG.1.2.2.2.2.1, hpl.2, jr_wr (by omega)]
  refine ⟨by omega, by omega, ?_⟩
  rintro _ rfl
  refine hout _ _ _ _ _ _ _ _ (fun s i => if s = 0 ∧ i = 5 * g 0 2 then 2 ^ (g 0 0).toNat else 0) rfl (jF_I ⟨rfl, by omega, by omega⟩) (fun s' i' q1 q2 q3 q4 => ?_) (jn_mL_0 hW) (by rw [if_pos ⟨rfl, rfl⟩]; exact jn_sub_rf)
  show _ = ((if s' = 0 ∧ i' = 5 * g 0 2 then 2 ^ (g 0 0).toNat else 0 : Nat) : Int)
  by_cases h9 : s' = 0 ∧ i' = 5 * g 0 2
  · rw [if_pos h9, h9.1, h9.2, js_Is]
  · rw [if_neg h9, js_In (Or.inr (by omega))]
    have := hz s' q1 q2 i'.toNat (by omega)
    rw [show ((i'.toNat : Nat) : Int) = i' by omega] at this
    exact this
end JLM
