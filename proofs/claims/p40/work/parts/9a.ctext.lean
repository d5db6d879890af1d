/-! TEXT: what is told stays in order; all LINES of a text, in the class -/
section KTK
variable {w : Nat} {σ σ0 τ : jg_M} {a G n p p' k : Nat} {B : Nat → Int} {g g' : gM} {m c l : Int} {t : kt_T} {R : kt_R} {KV : jg_M → Prop} {KI : Int → jg_M → Prop} {x v : Int}
theorem kt_end_ok (hp : p ≤ n) (h : kt_end B n g p = .inr (g', p')) : g' = g ∧ p ≤ p' ∧ p' ≤ n := by
  have hs := (kt_tk_le (B := B) hp)
  unfold kt_end at h
  split at h
  · cases h
    exact ⟨rfl, by omega, hs.2.2.1⟩
  · cases h
theorem kt_aT_ok (hok : kt_ok g) (h7 : g 0 0 < 7) (hn : ∀ s, jn_isS g s → g 6 s ≠ v) (hv : 0 ≤ v ∧ v < 1073741824) : kt_ok (kt_aT g v) := by
  have hS := fun s => kt_isS_T (x := v) (s := s) hok.1.1
  obtain ⟨⟨⟨w1, w2, w3⟩, a3, a4⟩, b, c, d⟩ := hok
  have eo : ∀ (i : Nat) (j : Int), i ≠ 6 → (i ≠ 0 ∨ j ≠ 0) → kt_aT g v i j = g i j := fun i j h1 h2 => by unfold kt_aT; rw [kt_up_ne h2, kt_up_ne (Or.inl h1)]
  have e0 : kt_aT g v 0 0 = g 0 0 + 1 := kt_up_at
  have e6 : ∀ s, s ≠ g 0 0 → kt_aT g v 6 s = g 6 s := fun s hs => by unfold kt_aT; rw [kt_up_ne (Or.inl (by decide)), kt_up_ne (Or.inr hs)]
  have e6n : kt_aT g v 6 (g 0 0) = v := by unfold kt_aT; rw [kt_up_ne (Or.inl (by decide)), kt_up_at]
  have e01 := eo 0 1 (by decide) (by decide)
  have e02 := eo 0 2 (by decide) (by decide)
  have e03 := eo 0 3 (by decide) (by decide)
  have e04 := eo 0 4 (by decide) (by decide)
  refine ⟨⟨⟨by rw [e0, e01, e02, e03, e04]; omega, fun r r0 r1 => ?_, fun t t0 t1 => ?_⟩, by rw [e03]; exact a3, by rw [e04]; exact a4⟩, fun s hs => ?_, fun s s' hs hs' he => ?_, fun t t0 t1 => ?_⟩
  · rw [e02] at r1
    obtain ⟨p1, p2, p3⟩ := w2 r r0 r1
    rw [eo 3 r (by decide) (Or.inl (by decide)), eo 4 r (by decide) (Or.inl (by decide)), e01, e0]
    refine ⟨p1, p2, fun e q0 q1 => ?_⟩
    rw [eo 5 _ (by decide) (Or.inl (by decide))]
    have := p3 e q0 q1
    omega
  · rw [e0] at t1
    rw [eo 1 t (by decide) (Or.inl (by decide)), eo 2 t (by decide) (Or.inl (by decide))]
    by_cases ht : t < g 0 0
    · exact w3 t t0 ht
    · have := d t (by omega) (by omega)
      omega
  · by_cases hsn : s = g 0 0
    · rw [hsn, e6n]; exact hv
    · rw [e6 s hsn]
      exact b s (((hS s).mp hs).resolve_right hsn)
  · by_cases h1 : s = g 0 0
    · by_cases h2 : s' = g 0 0
      · rw [h1, h2]
      · rw [h1, e6n, e6 s' h2] at he
        exact absurd he.symm (hn s' (((hS s').mp hs').resolve_right h2))
    · by_cases h2 : s' = g 0 0
      · rw [h2, e6n, e6 s h1] at he
        exact absurd he (hn s (((hS s).mp hs).resolve_right h1))
      · rw [e6 s h1, e6 s' h2] at he
        exact c s s' (((hS s).mp hs).resolve_right h1) (((hS s').mp hs').resolve_right h2) he
  · rw [e0] at t0
    rw [eo 1 t (by decide) (Or.inl (by decide)), eo 2 t (by decide) (Or.inl (by decide))]
    exact d t (by omega) t1
theorem kt_aK_ok (hok : kt_ok g) (h5 : g 0 1 < 5) (hn : ∀ s, jn_isS g s → g 6 s ≠ v) (hv : 0 ≤ v ∧ v < 1073741824) : kt_ok (kt_aK g v) := by
  have hS := fun s => kt_isS_K (x := v) (s := s) hok.1.1
  obtain ⟨⟨⟨w1, w2, w3⟩, a3, a4⟩, b, c, d⟩ := hok
  have eo : ∀ (i : Nat) (j : Int), i ≠ 6 → (i ≠ 0 ∨ j ≠ 1) → kt_aK g v i j = g i j := fun i j h1 h2 => by unfold kt_aK; rw [kt_up_ne h2, kt_up_ne (Or.inl h1)]
  have e1 : kt_aK g v 0 1 = g 0 1 + 1 := kt_up_at
  have e6 : ∀ s, s ≠ 10 + g 0 1 → kt_aK g v 6 s = g 6 s := fun s hs => by unfold kt_aK; rw [kt_up_ne (Or.inl (by decide)), kt_up_ne (Or.inr hs)]
  have e6n : kt_aK g v 6 (10 + g 0 1) = v := by unfold kt_aK; rw [kt_up_ne (Or.inl (by decide)), kt_up_at]
  have e00 := eo 0 0 (by decide) (by decide)
  have e02 := eo 0 2 (by decide) (by decide)
  have e03 := eo 0 3 (by decide) (by decide)
  have e04 := eo 0 4 (by decide) (by decide)
  refine ⟨⟨⟨by rw [e00, e1, e02, e03, e04]; omega, fun r r0 r1 => ?_, fun t t0 t1 => ?_⟩, by rw [e03]; exact a3, by rw [e04]; exact a4⟩, fun s hs => ?_, fun s s' hs hs' he => ?_, fun t t0 t1 => ?_⟩
  · rw [e02] at r1
    obtain ⟨p1, p2, p3⟩ := w2 r r0 r1
    rw [eo 3 r (by decide) (Or.inl (by decide)), eo 4 r (by decide) (Or.inl (by decide)), e00, e1]
    refine ⟨by omega, p2, fun e q0 q1 => ?_⟩
    rw [eo 5 _ (by decide) (Or.inl (by decide))]
    have := p3 e q0 q1
    omega
  · rw [e00] at t1
    rw [eo 1 t (by decide) (Or.inl (by decide)), eo 2 t (by decide) (Or.inl (by decide))]
    exact w3 t t0 t1
  · by_cases hsn : s = 10 + g 0 1
    · rw [hsn, e6n]; exact hv
    · rw [e6 s hsn]
      exact b s (((hS s).mp hs).resolve_right hsn)
  · by_cases h1 : s = 10 + g 0 1
    · by_cases h2 : s' = 10 + g 0 1
      · rw [h1, h2]
      · rw [h1, e6n, e6 s' h2] at he
        exact absurd he.symm (hn s' (((hS s').mp hs').resolve_right h2))
    · by_cases h2 : s' = 10 + g 0 1
      · rw [h2, e6n, e6 s h1] at he
        exact absurd he (hn s (((hS s).mp hs).resolve_right h1))
      · rw [e6 s h1, e6 s' h2] at he
        exact c s s' (((hS s).mp hs).resolve_right h1) (((hS s').mp hs').resolve_right h2) he
  · rw [e00] at t0
    rw [eo 1 t (by decide) (Or.inl (by decide)), eo 2 t (by decide) (Or.inl (by decide))]
    exact d t t0 t1
theorem kt_nm_ok {b : Bool} (hok : kt_ok g) (hp : p ≤ n) (h : kt_nmL B n b g k p = .inr (g', p')) : kt_ok g' ∧ p ≤ p' ∧ p' ≤ n := by
  have hs := (kt_tk_le (B := B) hp)
  unfold kt_nmL at h
  by_cases h7 : (if b = true then 7 ≤ g 0 0 else 5 ≤ g 0 1)
  · rw [if_pos h7] at h; cases h
  · rw [if_neg h7] at h
    by_cases hn : kt_nm (kt_tk B n p)
    · rw [if_pos hn] at h
      by_cases hf : 0 ≤ kt_fd g (kt_tk B n p).2.2.2
      · rw [if_pos hf] at h; cases h
      · rw [if_neg hf] at h
        have he := kt_end_ok hs.2.2.1 h
        have hv := kt_tk_v0 (B := B) hp hn.1
        have hno : ∀ s, jn_isS g s → g 6 s ≠ (kt_tk B n p).2.2.2 := by
          rcases kt_fd_sp (c := (kt_tk B n p).2.2.2) hok.1.1 with q | q
          · exact q.2
          · have := kt_jrS hok.1.1 q.1
            omega
        refine ⟨?_, by omega, he.2.2⟩
        rw [he.1]
        cases b with
        | true =>
          rw [if_pos rfl] at h7 ⊢
          exact kt_aT_ok hok (by omega) hno hv
        | false =>
          rw [if_neg (by decide)] at h7 ⊢
          exact kt_aK_ok hok (by omega) hno hv
    · rw [if_neg hn] at h; cases h
theorem kt_sy_ok : ∀ {f p : Nat} {g : gM}, kt_ok g → kt_bg g → p ≤ n → kt_sy B n f g p = .inr (g', p') → kt_ok g' ∧ p ≤ p' ∧ p' ≤ n
  | 0, p, g, _, _, _, h => by cases h
  | f + 1, p, g, hok, hb, hp, h => by
    have hs := (kt_tk_le (B := B) hp)
    unfold kt_sy at h
    by_cases h2 : (kt_tk B n p).1 = 2
    · rw [if_pos h2] at h
      by_cases hd : kt_dp g
      · rw [if_pos hd] at h; cases h
      · rw [if_neg hd] at h
        cases h
        refine ⟨?_, by omega, hs.2.2.1⟩
        obtain ⟨b1, b2, b3, b4⟩ := hb
        obtain ⟨⟨⟨w1, w2, w3⟩, a3, a4⟩, b, c, d⟩ := hok
        have eo : ∀ (i : Nat) (j : Int), (i ≠ 0 ∨ j ≠ 2) → kt_up g 0 2 (g 0 2 + 1) i j = g i j := fun i j h => kt_up_ne h
        have e2 : kt_up g 0 2 (g 0 2 + 1) 0 2 = g 0 2 + 1 := kt_up_at
        have e00 := eo 0 0 (by decide)
        have e01 := eo 0 1 (by decide)
        have e03 := eo 0 3 (by decide)
        have e04 := eo 0 4 (by decide)
        have hS : ∀ s, jn_isS (kt_up g 0 2 (g 0 2 + 1)) s ↔ jn_isS g s := fun s => by unfold jn_isS; rw [e00, e01]
        have e6 := fun s => eo 6 s (Or.inl (by decide))
        refine ⟨⟨⟨by rw [e00, e01, e2, e03, e04]; omega, fun r r0 r1 => ?_, fun t t0 t1 => ?_⟩, by rw [e03]; exact a3, by rw [e04]; exact a4⟩, fun s hs => by rw [e6]; exact b s ((hS s).mp hs), fun s s' hs hs' he => c s s' ((hS s).mp hs) ((hS s').mp hs') (by rw [← e6, ← e6]; exact he), fun t t0 t1 => ?_⟩
        · rw [e2] at r1
          rw [eo 3 r (Or.inl (by decide)), eo 4 r (Or.inl (by decide)), e00, e01]
          by_cases hr : r = g 0 2
          · subst hr
            refine ⟨b2, b3, fun e q0 q1 => ?_⟩
            rw [eo 5 _ (Or.inl (by decide))]
            exact b4 e q0 q1
          · obtain ⟨p1, p2, p3⟩ := w2 r r0 (by omega)
            refine ⟨p1, p2, fun e q0 q1 => ?_⟩
            rw [eo 5 _ (Or.inl (by decide))]
            exact p3 e q0 q1
        · rw [e00] at t1
          rw [eo 1 t (Or.inl (by decide)), eo 2 t (Or.inl (by decide))]
          exact w3 t t0 t1
        · rw [e00] at t0
          rw [eo 1 t (Or.inl (by decide)), eo 2 t (Or.inl (by decide))]
          exact d t t0 t1
    · rw [if_neg h2] at h
      by_cases hn : kt_nm (kt_tk B n p)
      · rw [if_pos hn] at h
        by_cases h4 : 4 ≤ g 4 (g 0 2)
        · rw [if_pos h4] at h; cases h
        · rw [if_neg h4] at h
          by_cases hf : kt_fd g (kt_tk B n p).2.2.2 < 0
          · rw [if_pos hf] at h; cases h
          · rw [if_neg hf] at h
            have hS := (kt_fd_rng (c := (kt_tk B n p).2.2.2) hok.1.1).2.2 (by omega)
            have ha := kt_aS_ok hok hb (by omega) hS
            have := kt_sy_ok ha.1 ha.2 hs.2.2.1 h
            exact ⟨this.1, by omega, this.2.2⟩
      · rw [if_neg hn] at h; cases h
theorem kt_ru_ok (hok : kt_ok g) (hp : p ≤ n) (h : kt_ruL B n g k p = .inr (g', p')) : kt_ok g' ∧ p ≤ p' ∧ p' ≤ n := by
  have hs := (kt_tk_le (B := B) hp)
  have hw := hok.1.1.1
  unfold kt_ruL at h
  by_cases h12 : 12 ≤ g 0 2
  · rw [if_pos h12] at h; cases h
  · rw [if_neg h12] at h
    by_cases hn : kt_nm (kt_tk B n p)
    · rw [if_pos hn] at h
      by_cases hf : kt_fd g (kt_tk B n p).2.2.2 < 10
      · rw [if_pos hf] at h; cases h
      · rw [if_neg hf] at h
        have hS := (kt_fd_rng (c := (kt_tk B n p).2.2.2) hok.1.1).2.2 (by omega)
        generalize kt_fd g (kt_tk B n p).2.2.2 = s at *
        have hkr : 0 ≤ s - 10 ∧ s - 10 < g 0 1 := by unfold jn_isS at hS; omega
        have e0 := fun j => kt_aB_e (g := g) (x := s - 10) (i := 0) (j := j) (by decide)
        have e4 : kt_aB g (s - 10) 4 (g 0 2) = 0 := kt_up_at
        have e3 : kt_aB g (s - 10) 3 (g 0 2) = s - 10 := by unfold kt_aB; rw [kt_up_ne (Or.inl (by decide)), kt_up_at]
        have er : ∀ r, r ≠ g 0 2 → kt_aB g (s - 10) 3 r = g 3 r ∧ kt_aB g (s - 10) 4 r = g 4 r := fun r hr => by
          unfold kt_aB
          rw [kt_up_ne (Or.inl (by decide)), kt_up_ne (Or.inr hr), kt_up_ne (Or.inr hr), kt_up_ne (Or.inl (by decide))]
          exact ⟨rfl, rfl⟩
        have hok2 : kt_ok (kt_aB g (s - 10)) := kt_ok_cg hok e0 (fun j => kt_aB_e (by decide)) (fun j => kt_aB_e (by decide)) (fun j => kt_aB_e (by decide)) (fun r r0 r1 => ⟨(er r (by omega)).1, (er r (by omega)).2, fun d d0 d1 => kt_aB_e (by decide)⟩)
        have := kt_sy_ok hok2 ⟨by rw [e0]; omega, by rw [e0, e0, e3]; omega, by rw [e0, e4]; omega, fun d d0 d1 => by rw [e0, e4] at d1; omega⟩ hs.2.2.1 h
        exact ⟨this.1, by omega, this.2.2⟩
    · rw [if_neg hn] at h; cases h
theorem kt_ra_ok (hok : kt_ok g) (hp : p ≤ n) (h : kt_raL B n g p = .inr (g', p')) : kt_ok g' ∧ p ≤ p' ∧ p' ≤ n := by
  have hs := (kt_tk_le (B := B) hp)
  unfold kt_raL at h
  by_cases hn : kt_nm (kt_tk B n p)
  · rw [if_pos hn] at h
    generalize kt_fd g (kt_tk B n p).2.2.2 = s at *
    by_cases ht : 0 ≤ s ∧ s < g 0 0
    · rw [if_pos ht] at h
      by_cases hz : g 1 s = 0
      · rw [if_pos hz] at h
        have hp2 := hs.2.2.1
        have hpp : p ≤ (kt_tk B n p).2.2.1 := by omega
        generalize (kt_tk B n p).2.2.1 = p2 at *
        unfold kt_no at h
        have hs2 := (kt_tk_le (B := B) hp2)
        by_cases h1 : (kt_tk B n p2).1 = 1
        · rw [if_pos h1] at h
          by_cases hv : 1 ≤ (kt_tk B n p2).2.2.2 ∧ (kt_tk B n p2).2.2.2 ≤ 9
          · rw [if_pos hv] at h
            dsimp only at h
            have hs3 := (kt_tk_le (B := B) hs2.2.2.1)
            by_cases h3 : (kt_tk B n (kt_tk B n p2).2.2.1).1 = 1
            · rw [if_pos h3] at h
              by_cases hv2 : 0 ≤ (kt_tk B n (kt_tk B n p2).2.2.1).2.2.2 ∧ (kt_tk B n (kt_tk B n p2).2.2.1).2.2.2 ≤ 2
              · rw [if_pos hv2] at h
                have he := kt_end_ok hs3.2.2.1 h
                refine ⟨?_, by omega, he.2.2⟩
                rw [he.1]
                generalize (kt_tk B n p2).2.2.2 = v1 at *
                generalize (kt_tk B n (kt_tk B n p2).2.2.1).2.2.2 = v2 at *
                obtain ⟨⟨⟨w1, w2, w3⟩, a3, a4⟩, b, c, d⟩ := hok
                have eo : ∀ (i : Nat) (j : Int), i ≠ 1 → i ≠ 2 → kt_up (kt_up g 1 s v1) 2 s v2 i j = g i j := fun i j q1 q2 => by rw [kt_up_ne (Or.inl q2), kt_up_ne (Or.inl q1)]
                have e1 : ∀ t, kt_up (kt_up g 1 s v1) 2 s v2 1 t = if t = s then v1 else g 1 t := fun t => by
                  rw [kt_up_ne (Or.inl (by decide))]
                  by_cases hts : t = s
                  · rw [if_pos hts, hts, kt_up_at]
                  · rw [if_neg hts, kt_up_ne (Or.inr hts)]
                have e2 : ∀ t, kt_up (kt_up g 1 s v1) 2 s v2 2 t = if t = s then v2 else g 2 t := fun t => by
                  by_cases hts : t = s
                  · rw [if_pos hts, hts, kt_up_at]
                  · rw [if_neg hts, kt_up_ne (Or.inr hts), kt_up_ne (Or.inl (by decide))]
                have e0 := fun j => eo 0 j (by decide) (by decide)
                have e6 := fun j => eo 6 j (by decide) (by decide)
                have hS : ∀ s', jn_isS (kt_up (kt_up g 1 s v1) 2 s v2) s' ↔ jn_isS g s' := fun s' => by unfold jn_isS; rw [e0, e0]
                refine ⟨⟨⟨by rw [e0, e0, e0, e0, e0]; exact w1, fun r r0 r1 => ?_, fun t t0 t1 => ?_⟩, by rw [e0]; exact a3, by rw [e0]; exact a4⟩, fun s hs => by rw [e6]; exact b s ((hS s).mp hs), fun s s' hs hs' he => c s s' ((hS s).mp hs) ((hS s').mp hs') (by rw [← e6, ← e6]; exact he), fun t t0 t1 => ?_⟩
                · rw [e0] at r1
                  rw [eo 3 r (by decide) (by decide), eo 4 r (by decide) (by decide), e0, e0]
                  obtain ⟨q1, q2, q3⟩ := w2 r r0 r1
                  refine ⟨q1, q2, fun e q0 q1 => ?_⟩
                  rw [eo 5 _ (by decide) (by decide)]
                  exact q3 e q0 q1
                · rw [e0] at t1
                  rw [e1, e2]
                  have := w3 t t0 t1
                  split <;> omega
                · rw [e0] at t0
                  rw [e1, e2, if_neg (by omega), if_neg (by omega)]
                  exact d t t0 t1
              · rw [if_neg hv2] at h; cases h
            · rw [if_neg h3] at h; cases h
          · rw [if_neg hv] at h; cases h
        · rw [if_neg h1] at h; cases h
      · rw [if_neg hz] at h; cases h
    · rw [if_neg ht] at h; cases h
  · rw [if_neg hn] at h; cases h
theorem kt_li_ok (hok : kt_ok g) (hp : p ≤ n) (h : kt_li B n g p = .inr (g', p')) : kt_ok g' ∧ p < p' ∧ p' ≤ n := by
  have hs := (kt_tk_le (B := B) hp)
  unfold kt_li at h
  by_cases h0 : (kt_tk B n p).1 = 0
  · rw [if_pos h0] at h
    have hlt := hs.2.2.2.1 (by omega)
    by_cases k0 : kt_key (kt_tk B n p).2.2.2 = 0
    · rw [if_pos k0] at h
      have := kt_nm_ok hok hs.2.2.1 h
      exact ⟨this.1, by omega, this.2.2⟩
    · rw [if_neg k0] at h
      by_cases k1 : kt_key (kt_tk B n p).2.2.2 = 1
      · rw [if_pos k1] at h
        have := kt_nm_ok hok hs.2.2.1 h
        exact ⟨this.1, by omega, this.2.2⟩
      · rw [if_neg k1] at h
        by_cases k2 : kt_key (kt_tk B n p).2.2.2 = 2
        · rw [if_pos k2] at h
          have := kt_ru_ok hok hs.2.2.1 h
          exact ⟨this.1, by omega, this.2.2⟩
        · rw [if_neg k2] at h
          by_cases k3 : kt_key (kt_tk B n p).2.2.2 = 3
          · rw [if_pos k3] at h
            have := kt_ra_ok hok hs.2.2.1 h
            exact ⟨this.1, by omega, this.2.2⟩
          · rw [if_neg k3] at h; cases h
  · rw [if_neg h0] at h; cases h
end KTK
