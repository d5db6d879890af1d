/-! Rows MARKED: which are SENTENCES by the tables without a RULE -/
def kp_o (g : gM) (r : Int) : gM := fun a i => if a = 0 ∧ i = 4 then r else g a i
/-- the places that are marked from a row so long, so many digits on -/
def kp_S (g : gM) (len dg : Nat) (K : kr_K) (p : Int) : Prop := ∃ j e : Nat, (len + j ≤ 4 ∧ e < 7 ^ j) ∧ (∀ k, k < j → kr_dg 7 j e k < (g 0 0).toNat) ∧ kr_sK g (fun k => ((kr_dg 7 j e k : Nat) : Int)) j K = true ∧ p = jg_pl ((len + j : Nat) : Int) + ((dg * 7 ^ j + e : Nat) : Int)
def kp_MK (σ : jg_M) (B : Int → Nat → Prop) : Prop := ∀ p, 0 ≤ p → p < 2801 → σ.1 79 p = (jn_mk (B p) 12 : Nat)
def kW_gc (G : Nat) (c : Nat) (i : Int) : Prop := (c = G ∧ 0 ≤ i ∧ i ≤ 4) ∨ (G + 1 ≤ c ∧ c ≤ G + 6)
def kW_mk (R : Nat) (c : Nat) (i : Int) : Prop := kW_lo R c i ∨ c = 79
section KPB
variable {w : Nat} {σ τ : jg_M} {G G' T T' n c r0 r1 a : Nat} {g : gM} {K K' : kr_K} {B : Int → Nat → Prop} {x i p sp dp m : Int} {KV : jg_M → Prop} {KI : Int → jg_M → Prop}
theorem js_cn (h : a ≠ r1) : (jg_cI σ r0 sp r1 dp m).1 a i = σ.1 a i := by
  show (if _ then _ else _) = _
  rw [if_neg (fun q => h q.1)]
theorem js_cs (h : dp ≤ i ∧ i < dp + m) : (jg_cI σ r0 sp r1 dp m).1 r1 i = σ.1 r0 (sp + (i - dp)) := by
  show (if _ then _ else _) = _
  rw [if_pos ⟨rfl, h.1, h.2⟩]
theorem jc_X0_copy (h0 : jg_sh G = (0, 0)) (h1 : jg_sh G' = (0, 0)) (hd : G' + 7 < G ∨ G + 7 < G')
    (hk : ∀ τ, jF (kW_gc G) σ τ → (∀ i, 0 ≤ i → i ≤ 4 → τ.1 G i = σ.1 G' i) → (∀ i, 0 ≤ i → i < 7 → τ.1 (G + 2) i = σ.1 (G' + 2) i ∧ τ.1 (G + 3) i = σ.1 (G' + 3) i) → (∀ i, 0 ≤ i → i < 12 → τ.1 (G + 4) i = σ.1 (G' + 4) i ∧ τ.1 (G + 5) i = σ.1 (G' + 5) i) → (∀ i, 0 ≤ i → i < 48 → τ.1 (G + 6) i = σ.1 (G' + 6) i) → KV τ) : jg_CV w 1 mm_X0_copy [.ref G, .ref G'] σ KV := by
  refine jb_X0_copy_0 h0 h1 ?_
  intro m1 e1 m2 e2 m3 e3 m4 e4 m5 e5 m6 e6 m7 e7 m8 e8 m9 e9 m10 e10 m11 e11
  have f5 : jF (fun c i => c = G ∧ 0 ≤ i ∧ i ≤ 4) σ m5 := by
    rw [e5, e4, e3, e2, e1]
    exact jF_toI (jF_toI (jF_toI (jF_toI (jF_I ⟨rfl, by omega, by omega⟩) ⟨rfl, by omega, by omega⟩) ⟨rfl, by omega, by omega⟩) ⟨rfl, by omega, by omega⟩) ⟨rfl, by omega, by omega⟩
  have f11 : jF (fun c i => G + 1 ≤ c ∧ c ≤ G + 6) m5 m11 := by
    refine ⟨fun c i q => ?_, fun c i q => ?_⟩
    · rw [e11, js_cn (by omega), e10, js_cn (by omega), e9, js_cn (by omega), e8, js_cn (by omega), e7, js_cn (by omega), e6, js_cn (by omega)]
    · rw [e11, e10, e9, e8, e7, e6]; rfl
  have hd' : ∀ c i, G' ≤ c → c ≤ G' + 6 → m5.1 c i = σ.1 c i := fun c i c1 c2 => f5.1 _ _ (by omega)
  refine hk m11 (jF_tr (jF_mono f5 (fun c i q => Or.inl q)) (jF_mono f11 (fun c i q => Or.inr q))) (fun i i0 i4 => ?_) (fun i i0 i7 => ⟨?_, ?_⟩) (fun i i0 i12 => ⟨?_, ?_⟩) (fun i i0 i48 => ?_)
  · rw [f11.1 _ _ (by omega)]
    have v1 : m1.1 G' 1 = σ.1 G' 1 := by rw [e1, js_In (Or.inl (by omega))]
    have v2 : m2.1 G' 2 = σ.1 G' 2 := by rw [e2, js_In (Or.inl (by omega)), e1, js_In (Or.inl (by omega))]
    have v3 : m3.1 G' 3 = σ.1 G' 3 := by rw [e3, js_In (Or.inl (by omega)), e2, js_In (Or.inl (by omega)), e1, js_In (Or.inl (by omega))]
    have v4 : m4.1 G' 4 = σ.1 G' 4 := by rw [e4, js_In (Or.inl (by omega)), e3, js_In (Or.inl (by omega)), e2, js_In (Or.inl (by omega)), e1, js_In (Or.inl (by omega))]
    rw [v1] at e2
    rw [v2] at e3
    rw [v3] at e4
    rw [v4] at e5
    rcases (by omega : i = 0 ∨ i = 1 ∨ i = 2 ∨ i = 3 ∨ i = 4) with q | q | q | q | q <;> subst q
    · rw [e5, js_In (Or.inr (by decide)), e4, js_In (Or.inr (by decide)), e3, js_In (Or.inr (by decide)), e2, js_In (Or.inr (by decide)), e1, js_Is]
    · rw [e5, js_In (Or.inr (by decide)), e4, js_In (Or.inr (by decide)), e3, js_In (Or.inr (by decide)), e2, js_Is]
    · rw [e5, js_In (Or.inr (by decide)), e4, js_In (Or.inr (by decide)), e3, js_Is]
    · rw [e5, js_In (Or.inr (by decide)), e4, js_Is]
    · rw [e5, js_Is]
  · rw [e11, js_cn (by omega), e10, js_cn (by omega), e9, js_cn (by omega), e8, js_cn (by omega), e7, js_cs (by omega), show (0 : Int) + (i - 0) = i by omega, e6, js_cn (by omega), hd' _ _ (by omega) (by omega)]
  · rw [e11, js_cn (by omega), e10, js_cn (by omega), e9, js_cn (by omega), e8, js_cs (by omega), show (0 : Int) + (i - 0) = i by omega, e7, js_cn (by omega), e6, js_cn (by omega), hd' _ _ (by omega) (by omega)]
  · rw [e11, js_cn (by omega), e10, js_cn (by omega), e9, js_cs (by omega), show (0 : Int) + (i - 0) = i by omega, e8, js_cn (by omega), e7, js_cn (by omega), e6, js_cn (by omega), hd' _ _ (by omega) (by omega)]
  · rw [e11, js_cn (by omega), e10, js_cs (by omega), show (0 : Int) + (i - 0) = i by omega, e9, js_cn (by omega), e8, js_cn (by omega), e7, js_cn (by omega), e6, js_cn (by omega), hd' _ _ (by omega) (by omega)]
  · rw [e11, js_cs (by omega), show (0 : Int) + (i - 0) = i by omega, e10, js_cn (by omega), e9, js_cn (by omega), e8, js_cn (by omega), e7, js_cn (by omega), e6, js_cn (by omega), hd' _ _ (by omega) (by omega)]
theorem kp_sK0 {gv : Nat → Int} : kr_sK g gv 0 K = kr_en g K := rfl
theorem kp_S_4 {dg : Nat} : kp_S g 4 dg K p ↔ (kr_en g K = true ∧ p = jg_pl 4 + (dg : Int)) := by
  constructor
  · rintro ⟨j, e, ⟨h1, h2⟩, _, h4, h5⟩
    have hj : j = 0 := by omega
    subst hj
    have he : e = 0 := by rw [Nat.pow_zero] at h2; omega
    subst he
    rw [kp_sK0] at h4
    refine ⟨h4, ?_⟩
    rw [h5]
    show jg_pl ((4 + 0 : Nat) : Int) + ((dg * 1 + 0 : Nat) : Int) = _
    rw [Nat.mul_one]
    rfl
  · rintro ⟨h1, h2⟩
    refine ⟨0, 0, ⟨by omega, by decide⟩, fun k hk => absurd hk (Nat.not_lt_zero k), h1, ?_⟩
    rw [h2]
    show _ = jg_pl ((4 + 0 : Nat) : Int) + ((dg * 1 + 0 : Nat) : Int)
    rw [Nat.mul_one]
    rfl
theorem kp_S_up {len dg : Nat} (ha : g 0 0 ≤ 7) (hl : len < 4) : kp_S g len dg K p ↔ (kr_en g K = true ∧ p = jg_pl (len : Int) + (dg : Int)) ∨ ∃ t : Nat, (t : Int) < g 0 0 ∧ ∃ K', kr_nx g (t : Int) K = some K' ∧ kp_S g (len + 1) (dg * 7 + t) K' p := by
  constructor
  · rintro ⟨j, e, ⟨h1, h2⟩, h3, h4, h5⟩
    match j, h1, h2, h3, h4, h5 with
    | 0, h1, h2, h3, h4, h5 =>
      have he : e = 0 := by rw [Nat.pow_zero] at h2; omega
      subst he
      rw [kp_sK0] at h4
      refine Or.inl ⟨h4, ?_⟩
      rw [h5]
      show jg_pl ((len + 0 : Nat) : Int) + ((dg * 1 + 0 : Nat) : Int) = _
      rw [Nat.mul_one]
      rfl
    | j + 1, h1, h2, h3, h4, h5 =>
      have hp : 7 ^ (j + 1) = 7 ^ j * 7 := Nat.pow_succ 7 j
      have hpos : 0 < 7 ^ j := Nat.pow_pos (by decide)
      have ht7 : e / 7 ^ j < 7 := by rw [Nat.div_lt_iff_lt_mul hpos, Nat.mul_comm]; omega
      have hr7 : e % 7 ^ j < 7 ^ j := Nat.mod_lt _ hpos
      have he : e = e / 7 ^ j * 7 ^ j + e % 7 ^ j := by rw [Nat.mul_comm]; exact (Nat.div_add_mod e (7 ^ j)).symm
      generalize e / 7 ^ j = t at *
      generalize e % 7 ^ j = e' at *
      subst he
      have hd0 := kr_dg_hi (n := j) (a := 7) (B := 0) ht7 hr7
      have h30 := h3 0 (by omega)
      rw [hd0] at h30
      rw [kr_sK_first, hd0] at h4
      refine Or.inr ⟨t, by omega, ?_⟩
      cases hn : kr_nx g (t : Int) K with
      | none => rw [hn] at h4; cases h4
      | some K' =>
        rw [hn] at h4
        refine ⟨K', rfl, j, e', ⟨by omega, hr7⟩, fun k hk => ?_, ?_, ?_⟩
        · have := h3 (k + 1) (by omega)
          rw [kr_dg_lo hk] at this
          exact this
        · rw [kr_sK_cg (gv' := fun i => ((kr_dg 7 (j + 1) (t * 7 ^ j + e') (i + 1) : Nat) : Int)) (fun i hi => by rw [kr_dg_lo hi])]
          exact h4
        · have e : dg * 7 ^ (j + 1) + (t * 7 ^ j + e') = (dg * 7 + t) * 7 ^ j + e' := by
            rw [hp, Nat.add_mul, Nat.mul_comm (7 ^ j) 7, ← Nat.mul_assoc, Nat.add_assoc]
          rw [h5, e, show len + (j + 1) = len + 1 + j by omega]
  · rintro (⟨h1, h2⟩ | ⟨t, ht, K', hn, j, e, ⟨h1, h2⟩, h3, h4, h5⟩)
    · refine ⟨0, 0, ⟨by omega, by decide⟩, fun k hk => absurd hk (Nat.not_lt_zero k), h1, ?_⟩
      rw [h2]
      show _ = jg_pl ((len + 0 : Nat) : Int) + ((dg * 1 + 0 : Nat) : Int)
      rw [Nat.mul_one]
      rfl
    · have hp : 7 ^ (j + 1) = 7 ^ j * 7 := Nat.pow_succ 7 j
      have ht7 : t < 7 := by omega
      have hd0 := kr_dg_hi (n := j) (a := 7) (B := 0) ht7 h2
      have hmul : t * 7 ^ j ≤ 6 * 7 ^ j := Nat.mul_le_mul_right _ (by omega)
      refine ⟨j + 1, t * 7 ^ j + e, ⟨by omega, by omega⟩, fun k hk => ?_, ?_, ?_⟩
      · cases k with
        | zero => rw [hd0]; omega
        | succ k => rw [kr_dg_lo (by omega)]; exact h3 k (by omega)
      · rw [kr_sK_first, hd0, hn]
        show kr_sK g (fun i => ((kr_dg 7 (j + 1) (t * 7 ^ j + e) (i + 1) : Nat) : Int)) j K' = true
        rw [kr_sK_cg (gv' := fun i => ((kr_dg 7 j e i : Nat) : Int)) (fun i hi => by rw [kr_dg_lo hi])]
        exact h4
      · have e' : dg * 7 ^ (j + 1) + (t * 7 ^ j + e) = (dg * 7 + t) * 7 ^ j + e := by
          rw [hp, Nat.add_mul, Nat.mul_comm (7 ^ j) 7, ← Nat.mul_assoc, Nat.add_assoc]
        rw [h5, e', show len + (j + 1) = len + 1 + j by omega]
theorem kp_MK_cg {B' : Int → Nat → Prop} (h : kp_MK σ B) (hb : ∀ p i, 0 ≤ p → p < 2801 → i < 12 → (B p i ↔ B' p i)) : kp_MK σ B' := fun p p0 p1 => by
  rw [h p p0 p1]
  exact jn_mk_ex (fun i hi => hb p i p0 p1 hi)
theorem kp_MK_fr {W : Nat → Int → Prop} (h : kp_MK σ B) (hf : jF W σ τ) (hn : ∀ i, ¬ W 79 i) : kp_MK τ B := fun p p0 p1 => (hf.1 _ _ (hn _)).trans (h p p0 p1)
theorem kp_MK_or {r : Nat} (h : kp_MK σ B) (hr : r < 12) (hp : 0 ≤ p ∧ p < 2801) : kp_MK (jg_sI σ 79 p (jg_or (σ.1 79 p) (jg_shl 1 (r : Int)))) (fun q i => B q i ∨ (i = r ∧ q = p)) := fun q q0 q1 => by
  by_cases hq : q = p
  · subst hq
    have h2 : 2 ^ r < 2 ^ 12 := Nat.pow_lt_pow_right (by decide) hr
    have h12 : (2 : Nat) ^ 12 = 4096 := rfl
    have hlt : jn_mk (B q) 12 < 2 ^ 12 := jn_mk_lt
    have hsh : jg_shl 1 (r : Int) = ((2 ^ r : Nat) : Int) := by
      have := jb_shl (m := 1) (k := r) (by omega) (by omega)
      rw [Nat.one_mul] at this
      exact this
    rw [js_Is, h q q0 q1, hsh, jb_or (by omega) (by omega)]
    apply congrArg
    apply Nat.eq_of_testBit_eq
    intro j
    rw [Bool.eq_iff_iff, Nat.testBit_or, Bool.or_eq_true, jn_mk_bit, jn_mk_bit, Nat.testBit_two_pow, decide_eq_true_iff]
    constructor
    · rintro (z | z)
      · exact ⟨z.1, Or.inl z.2⟩
      · exact ⟨by omega, Or.inr ⟨z.symm, rfl⟩⟩
    · rintro ⟨z1, z2 | z2⟩
      · exact Or.inl ⟨z1, z2⟩
      · exact Or.inr z2.1.symm
  · rw [js_In (Or.inr hq), h q q0 q1]
    exact jn_mk_ex (fun i hi => ⟨Or.inl, fun z => z.elim id (fun z => absurd z.2 hq)⟩)
theorem kp_pl_lt : ∀ {l : Nat}, l ≤ 4 → 0 ≤ jg_pl (l : Int) ∧ jg_pl (l : Int) + ((7 ^ l : Nat) : Int) ≤ 2801
  | 0, _ => by decide
  | 1, _ => by decide
  | 2, _ => by decide
  | 3, _ => by decide
  | 4, _ => by decide
  | n + 5, h => by omega
/-- the loop over TOKENS behind a row -/
theorem jc_mark (hT : jg_sh T = (8, 0)) (h1 : jg_sh (T + 1) = (0, 0)) (h2 : jg_sh (T + 10) = (7, 0)) (hTR : T + 22 ≤ 79) {r : Nat} (hr : g 0 4 = (r : Int)) (hr12 : r < 12) : ∀ (n m d : Nat) (σ : jg_M) (K : kr_K) (len dg : Nat) (B : Int → Nat → Prop) (KV : jg_M → Prop), len + n = 4 → n + 1 ≤ m → m ≤ 5 → 4 + n ≤ d → dg < 7 ^ len → kr_CW σ T g → kr_Ro σ (80 + 2 * m) K → kr_OK g K → kp_MK σ B →
    (∀ τ, jF (kW_mk (80 + 2 * m)) σ τ → kp_MK τ (fun p i => B p i ∨ (i = r ∧ kp_S g len dg K p)) → KV τ) → jg_CV w (d + 1) mm_X10_mark [.ref T, .ref (80 + 2 * m), .ref 79, .int (.ofInt (len : Int)), .int (.ofInt (dg : Int))] σ KV := by
  intro n
  induction n with
  | zero =>
    intro m d σ K len dg B KV hln hm hm5 hd hdg hC hR hK hM hk
    have hw := hC.1.1.1
    have s1 := kr_shl ⟨m, by omega⟩
    have s0 := kr_shl ⟨m - 1, by omega⟩
    have sb := kr_botl ⟨m, by omega⟩ (by show 1 ≤ m; omega)
    dsimp only at s1 sb s0
    have hl4 : len = 4 := by omega
    subst hl4
    have hplt := kp_pl_lt (l := 4) (by omega)
    have hdg' : dg < 2401 := hdg
    have hpl : jg_pl 4 = 400 := rfl
    have w4 : jg_wr ((4 : Nat) : Int) = 4 := rfl
    have e4 : ((4 : Nat) : Int) = 4 := rfl
    refine jb_X10_mark_0 (n2 := 2801) (by omega) hT s1 rfl ?_
    rw [sb, w4]
    refine jn_ite (fun h => by cases h) (fun _ => jn_ite (fun h => by omega) (fun _ => jn_ite (fun _ => ⟨by omega, ?_⟩) (fun h => by omega)))
    rintro _ rfl
    have hw6 : jg_wr (jg_pl 4 + (dg : Int)) = jg_pl 4 + (dg : Int) := jr_wr (by rw [hpl]; omega)
    have hw28 : jg_wr ((2801 : Nat) : Int) = 2801 := rfl
    rw [hw6, hw28]
    have hgo : ∀ (v6 : Value) (τ : jg_M), jF (kW_mk (80 + 2 * m)) σ τ → kp_MK τ (fun p i => B p i ∨ (i = r ∧ kp_S g 4 dg K p)) → jg_GV w (d + 1) mm_X10_mark 84 [.ref T, .ref (80 + 2 * m), .ref 79, .int (.ofInt ((4 : Nat) : Int)), .int (.ofInt (dg : Int)), .ref (80 + 2 * m - 2), v6, .int (.ofInt 0)] τ KV := fun v6 τ hf hMτ => by
      refine jb_X10_mark_84 (n2 := 2801) (by omega) hT s1 rfl (by rw [show 80 + 2 * m - 2 = 80 + 2 * (m - 1) by omega]; exact s0) ?_
      rw [w4]
      exact jn_ite (fun _ => hk τ hf hMτ) (fun h => by omega)
    refine jc_try (w := w) (fun τ => τ.1 (T + 1) 0) (t := g 0 0) (fun τ hf => (hf.1 _ _ (fun q => by unfold kW_lo at q; omega)).trans hC.1.2.1.1) hT h1 h2 (by omega) ⟨by omega, hm5⟩ hC hR hK ⟨by omega, Int.le_refl _⟩ (fun hn τ hf => ?_) (fun K' d' hs _ hd' τ hf _ => ?_)
    · refine jn_ite (fun _ => ?_) (fun h => absurd (show jg_wr (-2) < 0 by decide) h)
      refine hgo _ τ (jF_mono hf (fun c i q => Or.inl q)) (kp_MK_cg (kp_MK_fr hM hf (fun i q => by unfold kW_lo at q; omega)) (fun p i p0 p1 hi => ⟨Or.inl, fun z => z.elim id (fun z => ?_)⟩))
      have he := (kp_S_4.mp z.2).1
      unfold kr_en at he
      unfold kr_nx at hn
      cases hq : kr_T g (g 0 0) K with
      | none => rw [hq] at he; cases he
      | some v => rw [hq] at hn; cases hn
    · have hen : kr_en g K = true := by
        unfold kr_en
        unfold kr_nx at hs
        cases hq : kr_T g (g 0 0) K with
        | none => rw [hq] at hs; cases hs
        | some v => rfl
      rw [jr_wr (show jr ((d' : Nat) : Int) by omega)]
      refine jn_ite (fun h => by omega) (fun _ => jn_ite (fun h => by omega) (fun _ => jn_ite (fun h => by omega) (fun _ => ⟨by omega, by omega, ?_⟩)))
      have h4 : τ.1 (T + 1) 4 = (r : Int) := by rw [hf.1 _ _ (fun q => by unfold kW_lo at q; omega)]; exact hC.1.2.1.2.2.2.2.trans hr
      rw [h4]
      intro τ2 h2'
      have hM2 := kp_MK_or (kp_MK_fr hM hf (fun i q => by unfold kW_lo at q; omega)) hr12 (p := jg_pl 4 + (dg : Int)) ⟨by omega, by omega⟩
      rw [← h2'] at hM2
      have hf2 : jF (kW_mk (80 + 2 * m)) τ τ2 := by rw [h2']; exact jF_I (Or.inr rfl)
      refine hgo _ τ2 (jF_tr (jF_mono hf (fun c i q => Or.inl q)) hf2) (kp_MK_cg hM2 (fun p i p0 p1 hi => ⟨fun z => z.elim Or.inl (fun z => Or.inr ⟨z.1, kp_S_4.mpr ⟨hen, z.2⟩⟩), fun z => z.elim Or.inl (fun z => Or.inr ⟨z.1, (kp_S_4.mp z.2).2⟩)⟩))
  | succ n ih =>
    intro m d σ K len dg B KV hln hm hm5 hd hdg hC hR hK hM hk
    have hw := hC.1.1.1
    have s1 := kr_shl ⟨m, by omega⟩
    have s0 := kr_shl ⟨m - 1, by omega⟩
    have sb := kr_botl ⟨m, by omega⟩ (by show 1 ≤ m; omega)
    dsimp only at s1 sb s0
    have hplt := kp_pl_lt (l := len) (by omega)
    have h7l : 7 ^ len ≤ 343 := Nat.le_trans (Nat.pow_le_pow_right (by decide) (show len ≤ 3 by omega)) (by decide)
    have wl : jg_wr (len : Int) = (len : Int) := jr_wr (by omega)
    refine jb_X10_mark_0 (n2 := 2801) (by omega) hT s1 rfl ?_
    rw [sb, wl]
    refine jn_ite (fun h => by cases h) (fun _ => jn_ite (fun h => by omega) (fun _ => jn_ite (fun _ => ⟨by omega, ?_⟩) (fun h => by omega)))
    rintro _ rfl
    have hw6 : jg_wr (jg_pl (len : Int) + (dg : Int)) = jg_pl (len : Int) + (dg : Int) := jr_wr (by omega)
    have hw28 : jg_wr ((2801 : Nat) : Int) = 2801 := rfl
    rw [hw6, hw28]
    have hgo : ∀ (v6 : Value) (mm t : Nat) (τ : jg_M), (t : Int) + mm = g 0 0 → jF (kW_mk (80 + 2 * m)) σ τ → kp_MK τ (fun p i => B p i ∨ (i = r ∧ ((kr_en g K = true ∧ p = jg_pl (len : Int) + (dg : Int)) ∨ ∃ t' : Nat, t' < t ∧ ∃ K', kr_nx g (t' : Int) K = some K' ∧ kp_S g (len + 1) (dg * 7 + t') K' p))) → jg_GV w (d + 1) mm_X10_mark 84 [.ref T, .ref (80 + 2 * m), .ref 79, .int (.ofInt (len : Int)), .int (.ofInt (dg : Int)), .ref (80 + 2 * m - 2), v6, .int (.ofInt (t : Int))] τ KV := by
      intro v6 mm
      induction mm with
      | zero =>
        intro t τ ht hf hMτ
        have hCτ := kr_CW_fr hC hf (fun c i c1 c2 q => by unfold kW_mk kW_lo at q; omega)
        refine jb_X10_mark_84 (n2 := 2801) (by omega) hT s1 rfl (by rw [show 80 + 2 * m - 2 = 80 + 2 * (m - 1) by omega]; exact s0) ?_
        rw [wl, hCτ.1.2.1.1, jr_wr (show jr (g 0 0) by omega), jr_wr (show jr (t : Int) by omega)]
        refine jn_ite (fun h => by omega) (fun _ => jn_ite (fun _ => ?_) (fun h => by omega))
        refine hk τ hf (kp_MK_cg hMτ (fun p i p0 p1 hi => ?_))
        rw [kp_S_up (by omega) (by omega)]
        have e : ∀ t' : Nat, (t' < t ↔ (t' : Int) < g 0 0) := fun t' => by omega
        simp only [e]
      | succ mm ihm =>
        intro t τ ht hf hMτ
        have hCτ := kr_CW_fr hC hf (fun c i c1 c2 q => by unfold kW_mk kW_lo at q; omega)
        have hRτ := kr_Ro_fr hR hf (fun i q => by unfold kW_mk kW_lo at q; omega) (fun i q => by unfold kW_mk kW_lo at q; omega)
        refine jb_X10_mark_84 (n2 := 2801) (by omega) hT s1 rfl (by rw [show 80 + 2 * m - 2 = 80 + 2 * (m - 1) by omega]; exact s0) ?_
        rw [wl, hCτ.1.2.1.1, jr_wr (show jr (g 0 0) by omega), jr_wr (show jr (t : Int) by omega)]
        refine jn_ite (fun h => by omega) (fun _ => jn_ite (fun h => by omega) (fun _ => ?_))
        refine jc_try (fun _ => (t : Int)) (t := (t : Int)) (fun _ _ => rfl) hT h1 h2 (by omega) ⟨by omega, hm5⟩ hCτ hRτ hK ⟨by omega, by omega⟩ (fun hn τ2 hf2 => ?_) (fun K' d' hs hok hd' τ2 hf2 hR2 => ?_)
        · refine jn_ite (fun _ => ?_) (fun h => absurd (show jg_wr (-2) < 0 by decide) h)
          have := ihm (t + 1) τ2 (by omega) (jF_tr hf (jF_mono hf2 (fun c i q => Or.inl q))) (kp_MK_cg (kp_MK_fr hMτ hf2 (fun i q => by unfold kW_lo at q; omega)) (fun p i p0 p1 hi => ⟨fun z => z.elim Or.inl (fun z => Or.inr ⟨z.1, z.2.elim Or.inl (fun ⟨t', q1, q2⟩ => Or.inr ⟨t', by omega, q2⟩)⟩), fun z => z.elim Or.inl (fun z => Or.inr ⟨z.1, z.2.elim Or.inl (fun ⟨t', q1, q2⟩ => Or.inr ⟨t', by
            by_cases htt : t' = t
            · subst htt
              obtain ⟨K2, q3, _⟩ := q2
              rw [hn] at q3
              cases q3
            · omega, q2⟩)⟩)⟩))
          rw [show ((t + 1 : Nat) : Int) = (t : Int) + 1 by omega] at this
          exact this
        · rw [jr_wr (show jr ((d' : Nat) : Int) by omega)]
          refine jn_ite (fun h => by omega) (fun _ => ?_)
          have hC2 := kr_CW_fr hCτ hf2 (fun c i c1 c2 q => by unfold kW_lo at q; omega)
          have hM2 := kp_MK_fr hMτ hf2 (fun i q => by unfold kW_lo at q; omega)
          have hdd : d = d - 1 + 1 := by omega
          rw [show 80 + 2 * m - 2 = 80 + 2 * (m - 1) by omega]
          have h7' : 7 ^ (len + 1) = 7 ^ len * 7 := Nat.pow_succ 7 len
          have hrec := ih (m - 1) (d - 1) τ2 K' (len + 1) (dg * 7 + t) _ (fun (m104 : jg_M) => jg_GV w (d + 1) mm_X10_mark 84 [.ref T, .ref (80 + 2 * m), .ref 79, .int (.ofInt (len : Int)), .int (.ofInt (dg : Int)), .ref (80 + 2 * (m - 1)), v6, .int (.ofInt ((t : Int) + 1))] m104 KV) (by omega) (by omega) (by omega) (by omega) (by omega) hC2 hR2 hok hM2 (fun τ3 hf3 hM3 => ?_)
          · rw [← hdd] at hrec
            rw [show ((len + 1 : Nat) : Int) = (len : Int) + 1 by omega, show ((dg * 7 + t : Nat) : Int) = (dg : Int) * 7 + (t : Int) by omega] at hrec
            exact hrec
          · have := ihm (t + 1) τ3 (by omega) (jF_tr (jF_tr hf (jF_mono hf2 (fun c i q => Or.inl q))) (jF_mono hf3 (fun c i q => by unfold kW_mk kW_lo at q ⊢; omega))) (kp_MK_cg hM3 (fun p i p0 p1 hi => ⟨fun z => ?_, fun z => ?_⟩))
            · rw [show ((t + 1 : Nat) : Int) = (t : Int) + 1 by omega, show 80 + 2 * m - 2 = 80 + 2 * (m - 1) by omega] at this
              exact this
            · rcases z with (z | z) | z
              · exact Or.inl z
              · exact Or.inr ⟨z.1, z.2.elim Or.inl (fun ⟨t', q1, q2⟩ => Or.inr ⟨t', by omega, q2⟩)⟩
              · exact Or.inr ⟨z.1, Or.inr ⟨t, by omega, K', hs, z.2⟩⟩
            · rcases z with z | ⟨z1, z2⟩
              · exact Or.inl (Or.inl z)
              · rcases z2 with z2 | ⟨t', q1, K2, q2, q3⟩
                · exact Or.inl (Or.inr ⟨z1, Or.inl z2⟩)
                · by_cases htt : t' = t
                  · subst htt
                    rw [hs] at q2
                    cases q2
                    exact Or.inr ⟨z1, q3⟩
                  · exact Or.inl (Or.inr ⟨z1, Or.inr ⟨t', by omega, K2, q2, q3⟩⟩)
    refine jc_try (w := w) (fun τ => τ.1 (T + 1) 0) (t := g 0 0) (fun τ hf => (hf.1 _ _ (fun q => by unfold kW_lo at q; omega)).trans hC.1.2.1.1) hT h1 h2 (by omega) ⟨by omega, hm5⟩ hC hR hK ⟨by omega, Int.le_refl _⟩ (fun hn τ hf => ?_) (fun K' d' hs _ hd' τ hf _ => ?_)
    · refine jn_ite (fun _ => ?_) (fun h => absurd (show jg_wr (-2) < 0 by decide) h)
      refine hgo _ (g 0 0).toNat 0 τ (by omega) (jF_mono hf (fun c i q => Or.inl q)) (kp_MK_cg (kp_MK_fr hM hf (fun i q => by unfold kW_lo at q; omega)) (fun p i p0 p1 hi => ⟨Or.inl, fun z => z.elim id (fun z => ?_)⟩))
      rcases z.2 with he | ⟨t', q1, _⟩
      · have he := he.1
        unfold kr_en at he
        unfold kr_nx at hn
        cases hq : kr_T g (g 0 0) K with
        | none => rw [hq] at he; cases he
        | some v => rw [hq] at hn; cases hn
      · omega
    · have hen : kr_en g K = true := by
        unfold kr_en
        unfold kr_nx at hs
        cases hq : kr_T g (g 0 0) K with
        | none => rw [hq] at hs; cases hs
        | some v => rfl
      rw [jr_wr (show jr ((d' : Nat) : Int) by omega)]
      refine jn_ite (fun h => by omega) (fun _ => jn_ite (fun h => by omega) (fun _ => jn_ite (fun h => by omega) (fun _ => ⟨by omega, by omega, ?_⟩)))
      have h4 : τ.1 (T + 1) 4 = (r : Int) := by rw [hf.1 _ _ (fun q => by unfold kW_lo at q; omega)]; exact hC.1.2.1.2.2.2.2.trans hr
      rw [h4]
      intro τ2 h2'
      have hM2 := kp_MK_or (kp_MK_fr hM hf (fun i q => by unfold kW_lo at q; omega)) hr12 (p := jg_pl (len : Int) + (dg : Int)) ⟨by omega, by omega⟩
      rw [← h2'] at hM2
      have hf2 : jF (kW_mk (80 + 2 * m)) τ τ2 := by rw [h2']; exact jF_I (Or.inr rfl)
      refine hgo _ (g 0 0).toNat 0 τ2 (by omega) (jF_tr (jF_mono hf (fun c i q => Or.inl q)) hf2) (kp_MK_cg hM2 (fun p i p0 p1 hi => ⟨fun z => z.elim Or.inl (fun z => Or.inr ⟨z.1, Or.inl ⟨hen, z.2⟩⟩), fun z => z.elim Or.inl (fun z => Or.inr ⟨z.1, z.2.elim (fun q => q.2) (fun ⟨t', q1, _⟩ => by omega)⟩)⟩))
end KPB
