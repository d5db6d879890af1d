/-! TEXT: its LINES, in the reference, 2 -/
section KTN
variable {w : Nat} {σ σ0 τ : jg_M} {a n0 n p k : Nat} {B : Nat → Int} {g g' : gM} {m c b lo hi : Int} {t : kt_T} {R : kt_R} {KV : jg_M → Prop} {KI : Int → jg_M → Prop} {x v e : Int}
theorem kt_Mt_fr (hM : kt_Mt σ t) (h : ∀ i, σ.1 92 i = τ.1 92 i) : kt_Mt τ t := by
  unfold kt_Mt at hM ⊢
  simpa only [h] using hM
theorem jm_wrongP {q : Nat} (hf : jF kW_mp σ0 σ) (hat : σ.1 92 10 = (q : Nat)) (hk : kt_PN B n σ0 (.inl (e, (q : Nat))) KI) : jg_CI w 0 mm_X12_wrong [.ref 92, .int (.ofInt e)] σ (fun z τ => (jg_wr z = 0 ∨ jg_wr z = 1) ∧ KI z τ) :=
  jm_wrong hf hat (fun τ3 hf3 g0 g1 => ⟨Or.inl rfl, hk.1 _ _ rfl τ3 hf3 g0 g1⟩)
theorem kt_GM_row (hG : kt_GM σ 1 g m) (r : Int) (r0 : 0 ≤ r) (r1 : r < m) : σ.1 (92 + 10) (13 + r) = g 3 r ∧ σ.1 (92 + 11) (13 + r) = g 4 r ∧ ∀ d, 0 ≤ d → d < g 4 r → σ.1 (92 + 12) (4 * (13 + r) + d) = g 5 (r * 4 + d) := by
  have h := hG.2.2.2 r r0 r1
  rw [show 13 * (1 : Int) + r = 13 + r by omega] at h
  exact h
theorem jm_isAlike (hG : kt_GM σ 1 g (g 0 2 + 1)) (hok : kt_ok g) (hb : kt_bg g) (hx : 0 ≤ x ∧ x < g 0 2) (hk : KI (jn_b (kt_sm g x)) σ) : jg_CI w 0 mm_X12_isAlike [.ref 92, .int (.ofInt (13 + x)), .int (.ofInt (13 + g 0 2))] σ KI := by
  have hw := hok.1.1.1
  have hr := hok.1.1.2.1 x hx.1 hx.2
  obtain ⟨b1, b2, b3, b4⟩ := hb
  have m1 := kt_GM_row hG x hx.1 (by omega)
  have m2 := kt_GM_row hG (g 0 2) (by omega) (by omega)
  unfold kt_sm at hk
  refine jb_X12_isAlike_0 rfl ?_
  rw [jr_wr (show jr (13 + x) by omega), jr_wr (show jr (13 + g 0 2) by omega), m1.1, m1.2.1, m2.1, m2.2.1, jr_wr (show jr (g 3 x) by omega), jr_wr (show jr (g 3 (g 0 2)) by omega), jr_wr (show jr (g 4 x) by omega), jr_wr (show jr (g 4 (g 0 2)) by omega)]
  refine ⟨by omega, by omega, jn_ite (fun e1 => ⟨by omega, by omega, jn_ite (fun e2 => ?_) (fun e2 => ?_)⟩) (fun e1 => ?_)⟩
  · have hloop : ∀ (m : Nat) (d : Int), d + m = g 4 (g 0 2) → 0 ≤ d → (∀ e, 0 ≤ e → e < d → g 5 (x * 4 + e) = g 5 (g 0 2 * 4 + e)) → jg_GI w 0 mm_X12_isAlike 34 [.ref 92, .int (.ofInt (13 + x)), .int (.ofInt (13 + g 0 2)), .int (.ofInt d)] σ KI := by
      intro m
      induction m with
      | zero =>
        intro d hd d0 hz
        refine jb_X12_isAlike_34 rfl ?_
        rw [jr_wr (show jr (13 + g 0 2) by omega), m2.2.1, jr_wr (show jr (g 4 (g 0 2)) by omega), jr_wr (show jr d by omega)]
        rw [jn_b_t ⟨e1, e2, fun e q1 q2 => hz e q1 (by omega)⟩] at hk
        exact ⟨by omega, jn_ite (fun _ => hk) (fun h => by omega)⟩
      | succ m ih =>
        intro d hd d0 hz
        have hs1 := hr.2.2 d d0 (by omega)
        have hs2 := kt_jrS hok.1.1 (b4 d d0 (by omega))
        refine jb_X12_isAlike_34 rfl ?_
        rw [jr_wr (show jr (13 + g 0 2) by omega), m2.2.1, jr_wr (show jr (g 4 (g 0 2)) by omega), jr_wr (show jr d by omega), jr_wr (show jr (4 * (13 + x) + d) by omega), jr_wr (show jr (4 * (13 + g 0 2) + d) by omega), m1.2.2 d d0 (by omega), m2.2.2 d d0 (by omega), jr_wr (show jr (g 5 (x * 4 + d)) by omega), jr_wr (show jr (g 5 (g 0 2 * 4 + d)) by omega)]
        refine ⟨by omega, jn_ite (fun h => by omega) (fun _ => ⟨by omega, by omega, jn_ite (fun he => ?_) (fun he => ?_)⟩)⟩
        · refine ih (d + 1) (by omega) (by omega) (fun e q1 q2 => ?_)
          by_cases hed : e = d
          · subst hed; exact he
          · exact hz e q1 (by omega)
        · rw [jn_b_f (fun q => he (q.2.2 d d0 (by omega)))] at hk
          exact hk
    exact hloop (g 4 (g 0 2)).toNat 0 (by omega) (by omega) (fun e q1 q2 => by omega)
  · rw [jn_b_f (fun q => e2 q.2.1)] at hk; exact hk
  · rw [jn_b_f (fun q => e1 q.1)] at hk; exact hk
theorem jm_dup {u2 : Value} (hG : kt_GM σ 1 g (g 0 2 + 1)) (hok : kt_ok g) (hb : kt_bg g) (hp : p ≤ n) (hM : kt_Mt σ (kt_tk B n p)) (h2 : (kt_tk B n p).1 = 2) (hf : jF kW_mp σ0 σ) (hk : kt_PN B n σ0 (@ite kt_R (kt_dp g) (Classical.propDecidable _) (.inl (5, ((kt_tk B n p).2.1 : Nat))) (.inr (kt_up g 0 2 (g 0 2 + 1), (kt_tk B n p).2.2.1))) KI) : jg_GI w 2 mm_X12_ruleLine 187 [.ref 92, .int (.ofInt (13 + g 0 2)), u2, .int (.ofInt 13)] σ KI := by
  have hw := hok.1.1.1
  have hloop : ∀ (m : Nat) (i : Int), i + m = g 0 2 → 0 ≤ i → (∀ j, 0 ≤ j → j < i → ¬ kt_sm g j) → jg_GI w 2 mm_X12_ruleLine 187 [.ref 92, .int (.ofInt (13 + g 0 2)), u2, .int (.ofInt (13 + i))] σ KI := by
    intro m
    induction m with
    | zero =>
      intro i hi i0 hz
      refine jb_X12_ruleLine_187 rfl ?_
      rw [jr_wr (show jr (13 + g 0 2) by omega), jr_wr (show jr (13 + i) by omega)]
      refine jn_ite (fun _ => ?_) (fun h => by omega)
      intro τ hτ
      have hnd : ¬ kt_dp g := by
        rintro ⟨j, j0, j1, hj⟩
        exact hz j j0 (by omega) hj
      rw [if_neg hnd] at hk
      rw [hG.1.2.2.2] at hτ
      have hf2 : jF (fun c i => c = 92 + 5 ∧ i = 1) σ τ := by rw [hτ]; exact jF_I ⟨rfl, rfl⟩
      have eo : ∀ (i : Nat) (j : Int), (i ≠ 0 ∨ j ≠ 2) → kt_up g 0 2 (g 0 2 + 1) i j = g i j := fun i j h => kt_up_ne h
      have e2 : kt_up g 0 2 (g 0 2 + 1) 0 2 = g 0 2 + 1 := kt_up_at
      refine hk.2 (kt_up g 0 2 (g 0 2 + 1)) p hp (by unfold kt_end; rw [if_pos h2]) τ (jF_tr hf (jF_mono hf2 (fun c i q => by unfold kW_mp; omega))) ?_ (kt_Mt_fr hM (fun i => (hf2.1 _ _ (by omega)).symm))
      obtain ⟨⟨a0, a1, a2, a3⟩, ⟨q1, q2⟩, c, d⟩ := hG
      rw [e2]
      refine ⟨⟨a0, ?_, ?_, ?_⟩, ⟨fun t t0 t1 => ?_, fun k k0 k1 => ?_⟩, fun t t0 t1 => ⟨?_, ?_⟩, fun r r0 r1 => ?_⟩
      · rw [hf2.1 _ _ (by omega), a1, eo 0 0 (by decide)]
      · rw [hf2.1 _ _ (by omega), a2, eo 0 1 (by decide)]
      · rw [hτ, js_Is, e2]
      · rw [eo 0 0 (by decide)] at t1
        rw [hf2.1 _ _ (by omega), eo 6 _ (Or.inl (by decide))]
        exact q1 t t0 t1
      · rw [eo 0 1 (by decide)] at k1
        rw [hf2.1 _ _ (by omega), eo 6 _ (Or.inl (by decide))]
        exact q2 k k0 k1
      · rw [hf2.1 _ _ (by omega), eo 1 t (Or.inl (by decide))]; exact (c t t0 t1).1
      · rw [hf2.1 _ _ (by omega), eo 2 t (Or.inl (by decide))]; exact (c t t0 t1).2
      · rw [hf2.1 _ _ (by omega), hf2.1 (92 + 11) _ (by omega), eo 3 r (Or.inl (by decide)), eo 4 r (Or.inl (by decide))]
        refine ⟨(d r r0 r1).1, (d r r0 r1).2.1, fun e e0 e1 => ?_⟩
        rw [hf2.1 _ _ (by omega), eo 5 _ (Or.inl (by decide))]
        exact (d r r0 r1).2.2 e e0 e1
    | succ m ih =>
      intro i hi i0 hz
      refine jb_X12_ruleLine_187 rfl ?_
      rw [jr_wr (show jr (13 + g 0 2) by omega), jr_wr (show jr (13 + i) by omega)]
      refine jn_ite (fun h => by omega) (fun _ => jm_isAlike hG hok hb ⟨i0, by omega⟩ (jn_if (fun hno => ?_) (fun hyes => ?_)))
      · rw [show 13 + i + 1 = 13 + (i + 1) by omega]
        refine ih (i + 1) (by omega) (by omega) (fun j j0 j1 => ?_)
        by_cases hji : j = i
        · subst hji; exact hno
        · exact hz j j0 (by omega)
      · rw [if_pos (show kt_dp g from ⟨i, i0, by omega, hyes⟩)] at hk
        exact jm_wrongP hf hM.1 hk
  have := hloop (g 0 2).toNat 0 (by omega) (by omega) (fun j j0 j1 => by omega)
  exact this
theorem jm_syms : ∀ (f : Nat) (g : gM) (p k : Nat) (σ : jg_M) (u2 u3 : Value), k + f = 5 → kt_Bm σ B n → kt_Wd σ → p ≤ n → kt_Mt σ (kt_tk B n p) → kt_GM σ 1 g (g 0 2 + 1) → kt_ok g → kt_bg g → g 4 (g 0 2) = (k : Nat) → jF kW_mp σ0 σ → kt_PN B n σ0 (kt_sy B n f g p) KI → jg_GI w 2 mm_X12_ruleLine 92 [.ref 92, .int (.ofInt (13 + g 0 2)), u2, u3] σ KI := by
  intro f
  induction f with
  | zero =>
    intro g p k σ u2 u3 hkf hB hWd hp hM hG hok hb hlen hf hk
    have := hb.2.2.1
    omega
  | succ f ih =>
    intro g p k σ u2 u3 hkf hB hWd hp hM hG hok hb hlen hf hk
    have hw := hok.1.1.1
    have hs := (kt_tk_le (B := B) hp)
    obtain ⟨q1, q2, _⟩ := kt_Mt_k hM hs.2.2.2.2
    have hrow := kt_GM_row hG (g 0 2) (by omega) (by omega)
    have hbn := hb.1
    refine jb_X12_ruleLine_92 rfl ?_
    unfold kt_sy at hk
    rw [jr_wr (show jr (σ.1 92 8) by omega), jr_wr (show jr (13 + g 0 2) by omega), hrow.2.1, hlen, jr_wr (show jr ((k : Nat) : Int) by omega)]
    refine jn_ite (fun h2 => ?_) (fun h2 => ?_)
    · have hnm := q2.mp h2
      rw [if_neg (show ¬ (kt_tk B n p).1 = 2 by have := hnm.1; omega), if_pos hnm] at hk
      have hwh := (hM.2.2.2.1 hnm.1).2 hnm.2
      have hv := kt_tk_v0 (B := B) hp hnm.1
      refine ⟨by omega, jn_ite (fun h4 => ?_) (fun h4 => ?_)⟩
      · rw [if_pos (by omega)] at hk
        exact jm_wrongP hf hM.1 hk
      · rw [if_neg (by omega)] at hk
        rw [hwh.2]
        refine jm_symbolBy hG hok (by omega) ?_
        have hfr := kt_fd_rng (c := (kt_tk B n p).2.2.2) hok.1.1
        have h7 := hM.2.1 (by have := hnm.1; omega)
        have hp3 := hs.2.2.1
        have hat := hM.1
        generalize (kt_tk B n p).2.2.2 = v at *
        generalize (kt_tk B n p).2.2.1 = p3 at *
        rw [jr_wr (show jr (kt_fd g v) by omega)]
        refine jn_ite (fun hpos => ?_) (fun hneg => ?_)
        · rw [if_neg (by omega)] at hk
          have hS := hfr.2.2 (by omega)
          rw [hrow.2.1, hlen, jr_wr (show jr (4 * (13 + g 0 2) + ((k : Nat) : Int)) by omega)]
          refine ⟨by omega, by omega, ?_⟩
          intro τ1 hτ1
          have e11 : τ1.1 (92 + 11) (13 + g 0 2) = (k : Nat) := by rw [hτ1, js_In (Or.inl (by omega)), hrow.2.1]; exact hlen
          rw [e11]
          refine ⟨by omega, by omega, ?_⟩
          intro τ2 hτ2
          have hf2 : jF (fun c i => (c = 92 + 12 ∧ i = 4 * (13 + g 0 2) + (k : Nat)) ∨ (c = 92 + 11 ∧ i = 13 + g 0 2)) σ τ2 := by rw [hτ2, hτ1]; exact jF_toI (jF_I (Or.inl ⟨rfl, rfl⟩)) (Or.inr ⟨rfl, rfl⟩)
          refine jm_nextToken (p := p3) (kt_Bm_fr hB hf2 (fun q => by omega) (fun i q => by omega)) (kt_Wd_fr hWd hf2 (fun i q => by omega)) hp3 (by rw [hf2.1 _ _ (by omega)]; exact h7) (fun τ3 hf3 hM3 => ?_)
          have hsok := kt_aS_ok (x := kt_fd g v) hok hb (by omega) hS
          have e0 := fun j => kt_aS_e (g := g) (x := kt_fd g v) (i := 0) (j := j) (by decide)
          have e4 : kt_aS g (kt_fd g v) 4 (g 0 2) = g 4 (g 0 2) + 1 := kt_up_at
          have := ih (kt_aS g (kt_fd g v)) p3 (k + 1) τ3 u2 (.int (.ofInt (kt_fd g v))) (by omega) (kt_Bm_fr (kt_Bm_fr hB hf2 (fun q => by omega) (fun i q => by omega)) hf3 (fun q => by unfold kW_nx at q; omega) (fun i q => by unfold kW_nx at q; omega)) (kt_Wd_fr (kt_Wd_fr hWd hf2 (fun i q => by omega)) hf3 (fun i q => by unfold kW_nx at q; omega)) hp3 hM3 ?_ hsok.1 hsok.2 (by rw [e0, e4]; omega) (kW_nx_mp (jF_tr hf (jF_mono hf2 (fun c i q => by unfold kW_mp; omega))) hf3) hk
          · rw [e0] at this
            exact this
          · refine kt_GM_fr ?_ hf3 (fun c i c1 c2 q => by unfold kW_nx at q; omega)
            obtain ⟨⟨a0, a1, a2, a3⟩, ⟨b1, b2⟩, c, d⟩ := hG
            rw [e0]
            refine ⟨⟨a0, ?_, ?_, ?_⟩, ⟨fun t t0 t1 => ?_, fun k k0 k1 => ?_⟩, fun t t0 t1 => ⟨?_, ?_⟩, fun r r0 r1 => ?_⟩
            · rw [hf2.1 _ _ (by omega), a1, e0]
            · rw [hf2.1 _ _ (by omega), a2, e0]
            · rw [hf2.1 _ _ (by omega), a3, e0]
            · rw [e0] at t1
              rw [hf2.1 _ _ (by omega), kt_aS_e (by decide)]
              exact b1 t t0 t1
            · rw [e0] at k1
              rw [hf2.1 _ _ (by omega), kt_aS_e (by decide)]
              exact b2 k k0 k1
            · rw [hf2.1 _ _ (by omega), kt_aS_e (by decide)]; exact (c t t0 t1).1
            · rw [hf2.1 _ _ (by omega), kt_aS_e (by decide)]; exact (c t t0 t1).2
            · rw [hf2.1 _ _ (by omega), kt_aS_e (by decide)]
              by_cases hrr : r = g 0 2
              · subst hrr
                refine ⟨(d (g 0 2) r0 r1).1, ?_, fun e e0' e1 => ?_⟩
                · rw [hτ2, show 13 * (1 : Int) + g 0 2 = 13 + g 0 2 by omega, js_Is, e4, hlen]
                · rw [e4] at e1
                  rw [hτ2, js_In (Or.inl (by omega)), hτ1]
                  by_cases hek : e = (k : Int)
                  · subst hek
                    rw [show 4 * (13 * (1 : Int) + g 0 2) + (k : Int) = 4 * (13 + g 0 2) + (k : Int) by omega, js_Is]
                    unfold kt_aS
                    rw [kt_up_ne (Or.inl (by decide)), ← hlen, kt_up_at]
                  · rw [js_In (Or.inr (by omega))]
                    unfold kt_aS
                    rw [kt_up_ne (Or.inl (by decide)), kt_up_ne (Or.inr (by omega))]
                    exact (d (g 0 2) r0 r1).2.2 e e0' (by omega)
              · have er4 : kt_aS g (kt_fd g v) 4 r = g 4 r := by unfold kt_aS; rw [kt_up_ne (Or.inr hrr), kt_up_ne (Or.inl (by decide))]
                rw [hf2.1 _ _ (by omega), er4]
                refine ⟨(d r r0 r1).1, (d r r0 r1).2.1, fun e e0' e1 => ?_⟩
                have hr4 := (hok.1.1.2.1 r r0 (by omega)).2.1
                rw [hf2.1 _ _ (by omega)]
                unfold kt_aS
                rw [kt_up_ne (Or.inl (by decide)), kt_up_ne (Or.inr (by omega))]
                exact (d r r0 r1).2.2 e e0' e1
        · rw [if_pos (by omega)] at hk
          exact jm_wrongP hf hat hk
    · have hnn : ¬ kt_nm (kt_tk B n p) := fun q => h2 (q2.mpr q)
      refine jm_isSign hM hs.2.2.2.2 (jn_if (fun hno => ?_) (fun hyes => ?_))
      · rw [if_neg hno, if_neg hnn] at hk
        exact jm_wrongP hf hM.1 hk
      · rw [if_pos hyes] at hk
        exact jm_dup hG hok hb hp hM hyes hf hk
end KTN
