/-! TEXT: its LINES, in the class, 2 -/
section KTH
variable {w : Nat} {σ σ0 τ : jg_M} {a G n p k : Nat} {B : Nat → Int} {g g' : gM} {m c : Int} {t : kt_T} {R : kt_R} {KV : jg_M → Prop} {KI : Int → jg_M → Prop} {x : Int}
theorem jc_nmK (h0 : jg_sh a = (9, 0)) (h1 : jg_sh G = (0, 0)) (haG : a + 1 < G) (hB : kt_By σ a B n) (hp : p ≤ n) (h4 : σ.1 a 4 = (p : Nat)) (h6 : σ.1 a 6 = (k : Nat)) (hG : kt_GC σ G g (g 0 2)) (hok : kt_ok g) (hf : jF (kW_cp a G) σ0 σ) (hk : kt_PC σ0 a G (kt_nmL B n false g k p) KI) : jg_CI w 4 mm_X9_takeKind [.ref a, .ref G] σ KI := by
  have hw := hok.1.1.1
  have hs := (kt_tk_le (B := B) hp)
  refine jb_X9_takeKind_0 h0 h1 ?_
  rw [hG.1.2.1, jr_wr (show jr (g 0 1) by omega)]
  unfold kt_nmL at hk
  refine jn_ite (fun hlt => jc_advance h0 hB hp h4 (fun τ hfa hC => ?_)) (fun hge => jc_refuse h0 haG hf h6 (by rw [if_pos (show (if false = true then 7 ≤ g 0 0 else 5 ≤ g 0 1) by rw [if_neg (by decide)]; omega)]) (kt_PC_01 hk))
  rw [if_neg (show ¬ (if false = true then 7 ≤ g 0 0 else 5 ≤ g 0 1) by rw [if_neg (by decide)]; omega)] at hk
  have hfτ := kW_ad_cp hf hfa
  have hGτ := kt_GC_fr hG hfa (fun i q => by unfold kW_ad at q; omega) (fun c i c1 c2 q => by unfold kW_ad at q; omega)
  have hBτ := kt_By_fr hB hfa (fun q => by unfold kW_ad at q; omega) (fun i q => by unfold kW_ad at q; omega)
  refine jb_X9_isNewName_0 h0 h1 (jc_isName h0 hC hp (jn_if (fun hno => ?_) (fun hyes => ?_)))
  · rw [if_neg hno] at hk
    exact jc_refuse (k := (kt_tk B n p).2.1) h0 haG hfτ hC.2.1 rfl (kt_PC_01 (kt_PC_in hk (fun τ h => (if_pos (show jg_wr 0 = 0 from rfl)).mpr h)))
  · rw [if_pos hyes] at hk
    have hv := kt_tk_v0 (B := B) hp hyes.1
    have hfr := kt_fd_rng (c := (kt_tk B n p).2.2.2) hok.1.1
    rw [hC.2.2.2.1 hyes.1]
    refine jc_symbolNamed h1 hGτ (Int.le_refl _) hok (by omega) ?_
    rw [jr_wr (show jr (kt_fd g (kt_tk B n p).2.2.2) by omega)]
    refine jn_ite (fun hneg => ?_) (fun hpos => ?_)
    · rw [if_neg (by omega)] at hk
      refine jn_ite (fun h => absurd h (by decide)) (fun _ => jb_X0_addKind_0 h1 ?_)
      rw [hGτ.1.2.1, jr_wr (show jr (g 0 1) by omega), jr_wr (show jr (10 + g 0 1) by omega)]
      refine jn_ite (fun h => by omega) (fun _ => ⟨by omega, ?_⟩)
      rw [hC.2.2.2.1 hyes.1]
      rintro _ rfl _ rfl
      generalize hvv : (kt_tk B n p).2.2.2 = v at *
      rw [js_In (Or.inl (by omega)), hGτ.1.2.1]
      rw [if_neg (show ¬ false = true by decide)] at hk
      have hf2 : jF (fun c i => (c = G + 1) ∨ (c = G ∧ i = 1)) τ (jg_sI (jg_sI τ (G + 1) (10 + g 0 1) v) G 1 (g 0 1 + 1)) := jF_toI (jF_I (Or.inl rfl)) (Or.inr ⟨rfl, rfl⟩)
      have hf2' : jF (kW_cp a G) σ0 (jg_sI (jg_sI τ (G + 1) (10 + g 0 1) v) G 1 (g 0 1 + 1)) := jF_tr hfτ (jF_mono hf2 (fun c i q => by unfold kW_cp; omega))
      have e2 : kt_aK g v 0 2 = g 0 2 := by unfold kt_aK; rw [kt_up_ne (Or.inr (by decide)), kt_up_ne (Or.inl (by decide))]
      refine jc_lineEnd (g := kt_aK g v) h0 haG (kt_By_fr hBτ hf2 (fun q => by omega) (fun i q => by omega)) hs.2.2.1 (by rw [hf2.1 _ _ (by omega)]; exact hC.2.2.1) ?_ hf2' (kt_PC_01 hk)
      obtain ⟨⟨a0, a1, a2, a3, a4⟩, b, c, d⟩ := hGτ
      have eo : ∀ (i : Nat) (j : Int), i ≠ 6 → (i ≠ 0 ∨ j ≠ 1) → kt_aK g v i j = g i j := fun i j h1 h2 => by unfold kt_aK; rw [kt_up_ne h2, kt_up_ne (Or.inl h1)]
      rw [e2]
      refine ⟨⟨?_, ?_, ?_, ?_, ?_⟩, fun s hss => ?_, fun t t0 t1 => ?_, fun r r0 r1 => ?_⟩
      · rw [js_In (Or.inr (by decide)), js_In (Or.inl (by omega)), a0, eo 0 0 (by decide) (by decide)]
      · rw [js_Is]; exact kt_up_at.symm
      · rw [js_In (Or.inr (by decide)), js_In (Or.inl (by omega)), a2, eo 0 2 (by decide) (by decide)]
      · rw [js_In (Or.inr (by decide)), js_In (Or.inl (by omega)), a3, eo 0 3 (by decide) (by decide)]
      · rw [js_In (Or.inr (by decide)), js_In (Or.inl (by omega)), a4, eo 0 4 (by decide) (by decide)]
      · rw [js_In (Or.inl (by omega))]
        unfold kt_aK
        rw [kt_up_ne (Or.inl (by decide))]
        by_cases hsn : s = 10 + g 0 1
        · rw [hsn, js_Is, kt_up_at]
        · rw [js_In (Or.inr hsn), kt_up_ne (Or.inr hsn)]
          exact b s (((kt_isS_K hok.1.1).mp hss).resolve_right hsn)
      · rw [js_In (Or.inl (by omega)), js_In (Or.inl (by omega)), js_In (Or.inl (by omega)), js_In (Or.inl (by omega)), eo 1 t (by decide) (Or.inl (by decide)), eo 2 t (by decide) (Or.inl (by decide))]
        exact c t t0 t1
      · rw [js_In (Or.inl (by omega)), js_In (Or.inl (by omega)), js_In (Or.inl (by omega)), js_In (Or.inl (by omega)), eo 3 r (by decide) (Or.inl (by decide)), eo 4 r (by decide) (Or.inl (by decide))]
        refine ⟨(d r r0 r1).1, (d r r0 r1).2.1, fun e e0 e1 => ?_⟩
        rw [js_In (Or.inl (by omega)), js_In (Or.inl (by omega)), eo 5 _ (by decide) (Or.inl (by decide))]
        exact (d r r0 r1).2.2 e e0 e1
    · rw [if_pos (by omega)] at hk
      exact jc_refuse (k := (kt_tk B n p).2.1) h0 haG hfτ hC.2.1 rfl (kt_PC_in hk (fun τ h => (if_pos (show jg_wr 0 = 0 from rfl)).mpr ((if_pos (show jg_wr 0 = 0 from rfl)).mpr h)))
/-- a rule told ahead and the one begun -/
theorem jc_isSame (h1 : jg_sh G = (0, 0)) (hG : kt_GC σ G g (g 0 2 + 1)) (hok : kt_ok g) (hnr : g 0 2 < 12) (hlen : 0 ≤ g 4 (g 0 2) ∧ g 4 (g 0 2) ≤ 4) (hkb : jr (g 3 (g 0 2))) (hsb : ∀ d, 0 ≤ d → d < g 4 (g 0 2) → jr (g 5 (g 0 2 * 4 + d))) (hx : 0 ≤ x ∧ x < g 0 2) (hk : KI (jn_b (kt_sm g x)) σ) : jg_CI w 0 mm_X0_isSameAsBegun [.ref G, .int (.ofInt x)] σ KI := by
  have hw := hok.1.1.1
  have hr := hok.1.1.2.1 x hx.1 hx.2
  have m1 := hG.2.2.2 x hx.1 (by omega)
  have m2 := hG.2.2.2 (g 0 2) (by omega) (by omega)
  unfold kt_sm at hk
  refine jb_X0_isSameAsBegun_0 h1 ?_
  rw [hG.1.2.2.1, jr_wr (show jr x by omega), jr_wr (show jr (g 0 2) by omega), m1.1, m1.2.1, m2.1, m2.2.1, jr_wr (show jr (g 3 x) by omega), jr_wr hkb, jr_wr (show jr (g 4 x) by omega), jr_wr (show jr (g 4 (g 0 2)) by omega)]
  refine ⟨by omega, by omega, jn_ite (fun e1 => ⟨by omega, by omega, jn_ite (fun e2 => ?_) (fun e2 => ?_)⟩) (fun e1 => ?_)⟩
  · have hloop : ∀ (m : Nat) (d : Int), d + m = g 4 (g 0 2) → 0 ≤ d → (∀ e, 0 ≤ e → e < d → g 5 (x * 4 + e) = g 5 (g 0 2 * 4 + e)) → jg_GI w 0 mm_X0_isSameAsBegun 40 [.ref G, .int (.ofInt x), .int (.ofInt d)] σ KI := by
      intro m
      induction m with
      | zero =>
        intro d hd d0 hz
        refine jb_X0_isSameAsBegun_40 h1 ?_
        rw [jr_wr (show jr x by omega), m1.2.1, jr_wr (show jr (g 4 x) by omega), jr_wr (show jr d by omega)]
        rw [jn_b_t ⟨e1, e2, fun e q1 q2 => hz e q1 (by omega)⟩] at hk
        exact ⟨by omega, jn_ite (fun _ => hk) (fun h => by omega)⟩
      | succ m ih =>
        intro d hd d0 hz
        have hs1 := hr.2.2 d d0 (by omega)
        have hs2 := hsb d d0 (by omega)
        refine jb_X0_isSameAsBegun_40 h1 ?_
        rw [jr_wr (show jr x by omega), m1.2.1, jr_wr (show jr (g 4 x) by omega), jr_wr (show jr d by omega), jr_wr (show jr (x * 4 + d) by omega), hG.1.2.2.1, jr_wr (show jr (g 0 2 * 4 + d) by omega), m1.2.2 d d0 (by omega), m2.2.2 d d0 (by omega), jr_wr (show jr (g 5 (x * 4 + d)) by omega), jr_wr hs2]
        refine ⟨by omega, jn_ite (fun h => by omega) (fun _ => jn_ite (fun h => by omega) (fun _ => ⟨by omega, by omega, jn_ite (fun he => ?_) (fun he => ?_)⟩))⟩
        · refine ih (d + 1) (by omega) (by omega) (fun e q1 q2 => ?_)
          by_cases hed : e = d
          · subst hed; exact he
          · exact hz e q1 (by omega)
        · rw [jn_b_f (fun q => he (q.2.2 d d0 (by omega)))] at hk
          exact hk
    exact hloop (g 4 (g 0 2)).toNat 0 (by omega) (by omega) (fun e q1 q2 => by omega)
  · rw [jn_b_f (fun q => e2 q.2.1)] at hk; exact hk
  · rw [jn_b_f (fun q => e1 q.1)] at hk; exact hk
theorem jc_addRule (h1 : jg_sh G = (0, 0)) (hG : kt_GC σ G g (g 0 2 + 1)) (hok : kt_ok g) (hnr : g 0 2 < 12) (hlen : 0 ≤ g 4 (g 0 2) ∧ g 4 (g 0 2) ≤ 4) (hkb : jr (g 3 (g 0 2))) (hsb : ∀ d, 0 ≤ d → d < g 4 (g 0 2) → jr (g 5 (g 0 2 * 4 + d))) (k0 : kt_dp g → KI 0 σ) (k1 : ¬ kt_dp g → ∀ τ, τ = jg_sI σ G 2 (g 0 2 + 1) → KI 1 τ) : jg_CI w 1 mm_X0_addRule [.ref G] σ KI := by
  have hw := hok.1.1.1
  have hloop : ∀ (m : Nat) (i : Int), i + m = g 0 2 → 0 ≤ i → (∀ j, 0 ≤ j → j < i → ¬ kt_sm g j) → jg_GI w 1 mm_X0_addRule 13 [.ref G, .int (.ofInt i)] σ KI := by
    intro m
    induction m with
    | zero =>
      intro i hi i0 hz
      refine jb_X0_addRule_13 h1 ?_
      rw [hG.1.2.2.1, jr_wr (show jr (g 0 2) by omega), jr_wr (show jr i by omega)]
      refine jn_ite (fun _ => fun τ hτ => k1 ?_ τ hτ) (fun h => by omega)
      rintro ⟨j, j0, j1, hj⟩
      exact hz j j0 (by omega) hj
    | succ m ih =>
      intro i hi i0 hz
      refine jb_X0_addRule_13 h1 ?_
      rw [hG.1.2.2.1, jr_wr (show jr (g 0 2) by omega), jr_wr (show jr i by omega)]
      refine jn_ite (fun h => by omega) (fun _ => jc_isSame h1 hG hok hnr hlen hkb hsb ⟨i0, by omega⟩ (jn_if (fun hno => ?_) (fun hyes => k0 ⟨i, i0, by omega, hyes⟩)))
      refine ih (i + 1) (by omega) (by omega) (fun j j0 j1 => ?_)
      by_cases hji : j = i
      · subst hji; exact hno
      · exact hz j j0 (by omega)
  refine jb_X0_addRule_0 h1 ?_
  rw [hG.1.2.2.1, jr_wr (show jr (g 0 2) by omega)]
  exact jn_ite (fun _ => hloop (g 0 2).toNat 0 (by omega) (by omega) (fun j j0 j1 => by omega)) (fun h => by omega)
/-- the rule that is begun -/
def kt_bg (g : gM) : Prop := g 0 2 < 12 ∧ (0 ≤ g 3 (g 0 2) ∧ g 3 (g 0 2) < g 0 1) ∧ (0 ≤ g 4 (g 0 2) ∧ g 4 (g 0 2) ≤ 4) ∧ ∀ d, 0 ≤ d → d < g 4 (g 0 2) → jn_isS g (g 5 (g 0 2 * 4 + d))
theorem kt_aS_e {i : Nat} {j : Int} (h : i ≠ 4 ∧ i ≠ 5) : kt_aS g x i j = g i j := by unfold kt_aS; rw [kt_up_ne (Or.inl h.1), kt_up_ne (Or.inl h.2)]
theorem kt_aB_e {i : Nat} {j : Int} (h : i ≠ 3 ∧ i ≠ 4) : kt_aB g x i j = g i j := by unfold kt_aB; rw [kt_up_ne (Or.inl h.2), kt_up_ne (Or.inl h.1)]
theorem kt_ok_cg (hok : kt_ok g) (h0 : ∀ j, g' 0 j = g 0 j) (h1 : ∀ j, g' 1 j = g 1 j) (h2 : ∀ j, g' 2 j = g 2 j) (h6 : ∀ j, g' 6 j = g 6 j) (hr : ∀ r, 0 ≤ r → r < g 0 2 → g' 3 r = g 3 r ∧ g' 4 r = g 4 r ∧ ∀ d, 0 ≤ d → d < g 4 r → g' 5 (r * 4 + d) = g 5 (r * 4 + d)) : kt_ok g' := by
  obtain ⟨⟨⟨w1, w2, w3⟩, a3, a4⟩, b, c, d⟩ := hok
  have hS : ∀ s, jn_isS g' s ↔ jn_isS g s := fun s => by unfold jn_isS; rw [h0, h0]
  refine ⟨⟨⟨by rw [h0, h0, h0, h0, h0]; exact w1, fun r r0 r1 => ?_, fun t t0 t1 => ?_⟩, by rw [h0]; exact a3, by rw [h0]; exact a4⟩, fun s hs => by rw [h6]; exact b s ((hS s).mp hs), fun s s' hs hs' he => c s s' ((hS s).mp hs) ((hS s').mp hs') (by rw [← h6, ← h6]; exact he), fun t t0 t1 => ?_⟩
  · rw [h0] at r1
    obtain ⟨q1, q2, q3⟩ := hr r r0 r1
    obtain ⟨p1, p2, p3⟩ := w2 r r0 r1
    refine ⟨by rw [q1, h0]; exact p1, by rw [q2]; exact p2, fun e e0 e1 => ?_⟩
    rw [q2] at e1
    rw [q3 e e0 e1, h0, h0]
    exact p3 e e0 e1
  · rw [h0] at t1
    rw [h1, h2]
    exact w3 t t0 t1
  · rw [h0] at t0
    rw [h1, h2]
    exact d t t0 t1
theorem kt_aS_ok (hok : kt_ok g) (hb : kt_bg g) (hl : g 4 (g 0 2) < 4) (hx : jn_isS g x) : kt_ok (kt_aS g x) ∧ kt_bg (kt_aS g x) := by
  have hw := hok.1.1.1
  have e4 : kt_aS g x 4 (g 0 2) = g 4 (g 0 2) + 1 := kt_up_at
  have e5 : ∀ j, j ≠ g 0 2 * 4 + g 4 (g 0 2) → kt_aS g x 5 j = g 5 j := fun j hj => by unfold kt_aS; rw [kt_up_ne (Or.inl (by decide)), kt_up_ne (Or.inr hj)]
  have e5x : kt_aS g x 5 (g 0 2 * 4 + g 4 (g 0 2)) = x := by unfold kt_aS; rw [kt_up_ne (Or.inl (by decide)), kt_up_at]
  have e0 := fun j => kt_aS_e (g := g) (x := x) (i := 0) (j := j) (by decide)
  refine ⟨kt_ok_cg hok e0 (fun j => kt_aS_e (by decide)) (fun j => kt_aS_e (by decide)) (fun j => kt_aS_e (by decide)) (fun r r0 r1 => ⟨kt_aS_e (by decide), ?_, fun d d0 d1 => ?_⟩), ?_⟩
  · unfold kt_aS
    rw [kt_up_ne (Or.inr (by omega)), kt_up_ne (Or.inl (by decide))]
  · have := (hok.1.1.2.1 r r0 r1).2.1
    exact e5 _ (by have := hb.2.2.1; omega)
  · obtain ⟨b1, b2, b3, b4⟩ := hb
    refine ⟨by rw [e0]; exact b1, by rw [e0, e0, kt_aS_e (by decide)]; exact b2, by rw [e0, e4]; omega, fun d d0 d1 => ?_⟩
    rw [e0] at d1 ⊢
    rw [e4] at d1
    have hS : ∀ s, jn_isS (kt_aS g x) s ↔ jn_isS g s := fun s => by unfold jn_isS; rw [e0, e0]
    rw [hS]
    by_cases hd : d = g 4 (g 0 2)
    · rw [hd, e5x]; exact hx
    · rw [e5 _ (by omega)]
      exact b4 d d0 (by omega)
end KTH
