/-! What INCLUDES what, in the class, 3 -/
def jn_Ir (g : gM) (e : Nat) (S : jn_Q) (r : Int) (d m t : Nat) : Prop := (0 ≤ r ∧ r < g 0 2 ∧ g 3 r = ((t % 5 : Nat) : Int)) ∧ jn_mv S t = true ∧ (d : Int) < jn_len g r ∧ 10 ≤ jn_sym g r d ∧ jn_EF g e r ((d : Int) + 1) ∧ (m : Int) = 5 * jn_wy g S ((t / 5 : Nat) : Int) r d + (jn_sym g r d - 10)
def jn_Ib (g : gM) (e : Nat) (S : jn_Q) (t0 : Nat) (r0 : Int) (d0 : Nat) (m t : Nat) : Prop := ∃ r d, jn_Ir g e S r d m t ∧ (t < t0 ∨ (t = t0 ∧ (r < r0 ∨ (r = r0 ∧ d < d0))))
def jn_lk (g : gM) (S : jn_Q) (j : Nat) : Bool := jn_mv S (j / 12) && (decide (((j % 12 : Nat) : Int) < g 0 2) && decide (g 3 ((j % 12 : Nat) : Int) = ((j / 12 % 5 : Nat) : Int)))
def jn_rp (e : Nat) (S : jn_Q) (j : Nat) : Bool := jn_mv S (j / 5) && (e.testBit (j % 5) && decide (0 ≤ S.2.2.1 (S.2.2.1 ((j / 5 / 5 : Nat) : Int) (10 + ((j / 5 % 5 : Nat) : Int))) (10 + ((j % 5 : Nat) : Int))))
def jW_re (A : Nat) (a : Nat) (i : Int) : Prop := a = A + 5 ∨ (a = A ∧ 1 ≤ i ∧ i ≤ 3)
section JNR
variable {w : Nat} {σ : jg_M} {A T : Nat} {g : gM} {r s k : Int} {e t0 : Nat} {f fo : Int → Nat} {S : jn_Q} {L : Int → Int → Nat} {R : Nat → Nat → Prop} {K : jg_M → Prop} {KI : Int → jg_M → Prop}
theorem jn_lk_iff {j : Nat} : jn_lk g S j = true ↔ jn_mv S (j / 12) = true ∧ ((j % 12 : Nat) : Int) < g 0 2 ∧ g 3 ((j % 12 : Nat) : Int) = ((j / 12 % 5 : Nat) : Int) := by
  unfold jn_lk
  rw [Bool.and_eq_true, Bool.and_eq_true, decide_eq_true_iff, decide_eq_true_iff]
theorem jn_rp_iff {j : Nat} : jn_rp e S j = true ↔ jn_mv S (j / 5) = true ∧ e.testBit (j % 5) = true ∧ 0 ≤ S.2.2.1 (S.2.2.1 ((j / 5 / 5 : Nat) : Int) (10 + ((j / 5 % 5 : Nat) : Int))) (10 + ((j % 5 : Nat) : Int)) := by
  unfold jn_rp
  rw [Bool.and_eq_true, Bool.and_eq_true, decide_eq_true_iff]
theorem jn_Ib_on {r0 : Int} {d0 m0 : Nat} (h : jn_Ir g e S r0 d0 m0 t0) {m t : Nat} : jn_Ib g e S t0 r0 (d0 + 1) m t ↔ jn_Ib g e S t0 r0 d0 m t ∨ (m = m0 ∧ t = t0) := by
  constructor
  · rintro ⟨r, d, q1, q2⟩
    by_cases hh : t = t0 ∧ r = r0 ∧ d = d0
    · obtain ⟨h1, h2, h3⟩ := hh
      refine Or.inr ⟨?_, h1⟩
      have e1 := q1.2.2.2.2.2
      have e2 := h.2.2.2.2.2
      rw [h1, h2, h3] at e1
      omega
    · exact Or.inl ⟨r, d, q1, by omega⟩
  · rintro (⟨r, d, q1, q2⟩ | ⟨q1, q2⟩)
    · exact ⟨r, d, q1, by omega⟩
    · rw [q1, q2]
      exact ⟨r0, d0, h, by omega⟩
theorem jn_Ib_off {r0 : Int} {d0 : Nat} (h : ∀ m, ¬ jn_Ir g e S r0 d0 m t0) {m t : Nat} : jn_Ib g e S t0 r0 (d0 + 1) m t ↔ jn_Ib g e S t0 r0 d0 m t := by
  constructor
  · rintro ⟨r, d, q1, q2⟩
    by_cases hh : t = t0 ∧ r = r0 ∧ d = d0
    · obtain ⟨h1, h2, h3⟩ := hh
      rw [h1, h2, h3] at q1
      exact absurd q1 (h m)
    · exact ⟨r, d, q1, by omega⟩
  · rintro ⟨r, d, q1, q2⟩
    exact ⟨r, d, q1, by omega⟩
theorem jn_Ib_rule {r0 : Int} {d0 : Nat} (h : ∀ d m, d0 ≤ d → ¬ jn_Ir g e S r0 d m t0) {m t : Nat} : jn_Ib g e S t0 r0 d0 m t ↔ jn_Ib g e S t0 (r0 + 1) 0 m t := by
  constructor
  · rintro ⟨r, d, q1, q2⟩
    exact ⟨r, d, q1, by omega⟩
  · rintro ⟨r, d, q1, q2⟩
    by_cases hh : t = t0 ∧ r = r0
    · obtain ⟨h1, h2⟩ := hh
      refine ⟨r, d, q1, Or.inr ⟨h1, Or.inr ⟨h2, Classical.byContradiction (fun hd => ?_)⟩⟩⟩
      rw [h1, h2] at q1
      exact h d m (by omega) q1
    · exact ⟨r, d, q1, by omega⟩
theorem jn_Ib_move {r0 : Int} (h : ∀ r d m, r0 ≤ r → ¬ jn_Ir g e S r d m t0) {m t : Nat} : jn_Ib g e S t0 r0 0 m t ↔ jn_Ib g e S (t0 + 1) 0 0 m t := by
  constructor
  · rintro ⟨r, d, q1, q2⟩
    exact ⟨r, d, q1, by omega⟩
  · rintro ⟨r, d, q1, q2⟩
    refine ⟨r, d, q1, ?_⟩
    have hr := q1.1.1
    by_cases hh : t = t0
    · refine Or.inr ⟨hh, Or.inl (Classical.byContradiction (fun hd => ?_))⟩
      rw [hh] at q1
      exact h r d m (by omega) q1
    · omega
theorem jc_X4_walk {r0 : Nat} (h0 : jg_sh A = (4, 0)) (h1 : jg_sh T = (8, 0)) (h2 : jg_sh (T + 10) = (7, 0)) (h3 : jg_sh (T + 1) = (0, 0)) (hAT : T + 22 ≤ A) (hW : jn_GW g) (hn0 : 0 < g 0 1) (ho : g 0 4 = -1) (hB : jn_TB σ T g e f S L fo) (hF : jn_FP g S) (hN : jn_NM σ A S 240) (ht : t0 < 240) (hv : jn_mv S t0 = true) (hr : (r0 : Int) < g 0 2) (hkr : g 3 (r0 : Int) = ((t0 % 5 : Nat) : Int))
    (hR : jn_RI σ A S (jn_Ib g e S t0 r0 0)) (hk : ∀ τ, jF (jW_re A) σ τ → jn_RI τ A S (jn_Ib g e S t0 ((r0 : Int) + 1) 0) → τ.1 A 1 = σ.1 A 1 → τ.1 A 3 = σ.1 A 3 + 1 → K τ) : jg_CV w 3 mm_X4_walk [.ref A, .ref T, .int (.ofInt ((jn_nu S t0 : Nat) : Int)), .int (.ofInt (r0 : Int))] σ K := by
  have hw := hW.1
  have hI1 := hF.1.1
  have hnu := jn_nu_lt (S := S) ht
  have hl := jn_len_rng (r := (r0 : Int)) hW
  have hmv := jn_mv_iff.mp hv
  have hs : 0 ≤ ((t0 / 5 : Nat) : Int) ∧ ((t0 / 5 : Nat) : Int) < S.1 := ⟨by omega, hmv.1⟩
  have hru := (jn_mv_rule hW hn0 hF hs (k := ((t0 % 5 : Nat) : Int)) (by omega) hmv.2).2 (r0 : Int) (by omega) hr (by omega) hkr
  have hwy : ∀ {d : Nat}, (d : Int) ≤ jn_len g r0 → _ := fun {d} hd => jn_wy_ok hW hF hs ⟨by omega, hr, by omega⟩ hru (d := d) hd
  have hBt : ∀ τ, jF (fun a k => a = A + 5 ∨ (a = A ∧ k = 2)) σ τ → jn_TB τ T g e f S L fo ∧ jn_NM τ A S 240 := fun τ h => ⟨jn_TB_fr hB h (fun a i h => by omega), jn_NM_fr hN h (by omega) (fun a i h => by omega)⟩
  have hloop : ∀ (m d : Nat) (u6 : Value) (τ : jg_M), (d : Int) + m = jn_len g r0 → jF (fun a k => a = A + 5 ∨ (a = A ∧ k = 2)) σ τ → jn_RI τ A S (jn_Ib g e S t0 r0 d) → jg_GV w 3 mm_X4_walk 11 [.ref A, .ref T, .int (.ofInt ((jn_nu S t0 : Nat) : Int)), .int (.ofInt (r0 : Int)), .int (.ofInt (jn_wy g S ((t0 / 5 : Nat) : Int) r0 d)), .int (.ofInt (d : Int)), u6] τ K := by
    intro m
    induction m with
    | zero =>
      intro d u6 τ hd hFτ hRτ
      obtain ⟨hBτ, hNτ⟩ := hBt τ hFτ
      have hy := (hwy (d := d) (by omega)).1
      refine jb_X4_walk_11 h0 h1 (jc_X0_lengthOf h3 hBτ.1.1 hW (by omega) ?_)
      rw [jr_wr (by omega), jr_wr (by omega), jr_wr (by omega)]
      refine jn_ite (fun _ => jn_ite (fun h => by omega) (fun _ => ?_)) (fun h => by omega)
      rintro _ rfl
      refine hk _ (jF_tr (jF_mono hFτ (fun a i h => by unfold jW_re; omega)) (jF_I (Or.inr ⟨rfl, by omega, by omega⟩))) ?_ ?_ ?_
      · refine jn_RI_eq (jn_RI_fr (W := fun a i => a = A ∧ i = 3) hRτ (jF_I ⟨rfl, rfl⟩) (by omega) (fun i => by omega)) (fun m t _ _ => jn_Ib_rule (fun d' m' hd' q => ?_))
        have := q.2.2.1
        omega
      · rw [js_In (Or.inr (by omega))]
        exact hFτ.1 _ _ (by omega)
      · rw [js_Is, hFτ.1 _ _ (by omega)]
    | succ m ih =>
      intro d u6 τ hd hFτ hRτ
      obtain ⟨hBτ, hNτ⟩ := hBt τ hFτ
      have hy := (hwy (d := d) (by omega)).1
      have hy2 := (hwy (d := d + 1) (by omega)).1
      have hsr := jn_sym_rng (r := (r0 : Int)) (k := (d : Int)) hW ⟨by omega, by omega⟩
      have hmvv : ∀ υ, jn_TB υ T g e f S L fo → (if (0 ≤ jn_wy g S ((t0 / 5 : Nat) : Int) r0 d ∧ jn_wy g S ((t0 / 5 : Nat) : Int) r0 d < S.1) ∧ 0 ≤ jn_sym g r0 d ∧ jn_sym g r0 d < 15 then υ.1 (T + 10 + 4) (jn_wy g S ((t0 / 5 : Nat) : Int) r0 d * 15 + jn_sym g r0 d) else -2) = jn_wy g S ((t0 / 5 : Nat) : Int) r0 (d + 1) := fun υ hυ => by
        rw [if_pos ⟨hy, by omega, by omega⟩, hυ.2.1.2.1 _ _ hy.1 hy.2 (by omega) (by omega)]
        exact jn_m2_nn hy2.1
      have next : ∀ (u6 : Value) υ, jF (fun a k => a = A + 5 ∨ (a = A ∧ k = 2)) σ υ → jn_RI υ A S (jn_Ib g e S t0 r0 (d + 1)) → jg_CI w 1 mm_X7_moveBy [.ref (T + 10), .int (.ofInt (jn_wy g S ((t0 / 5 : Nat) : Int) r0 d)), .int (.ofInt (jn_sym g r0 d))] υ (fun z m => jg_GV w 3 mm_X4_walk 11 [.ref A, .ref T, .int (.ofInt ((jn_nu S t0 : Nat) : Int)), .int (.ofInt (r0 : Int)), .int (.ofInt z), .int (.ofInt ((d : Int) + 1)), u6] m K) := fun u6 υ q1 q2 => by
        refine jc_X7_moveBy h2 (hBt υ q1).1.2.1.1.1 (by omega) (by omega) (by omega) ?_
        rw [hmvv υ (hBt υ q1).1, show (d : Int) + 1 = ((d + 1 : Nat) : Int) by omega]
        exact ih (d + 1) u6 υ (by omega) q1 q2
      refine jb_X4_walk_11 h0 h1 (jc_X0_lengthOf h3 hBτ.1.1 hW (by omega) ?_)
      rw [jr_wr (by omega), jr_wr (by omega)]
      refine jn_ite (fun h => by omega) (fun _ => jc_X0_symbolAt h3 hBτ.1.1 hW (by omega) (by omega) ?_)
      rw [jr_wr (show jr (jn_sym g r0 d) by omega)]
      refine jn_ite (fun hlt => ?_) (fun hge => ?_)
      · exact next _ τ hFτ (jn_RI_eq hRτ (fun m t _ _ => (jn_Ib_off (fun m' q => by
          have := q.2.2.2.1
          omega)).symm))
      · refine jc_X0_isEmptyFrom h3 hBτ.1.1 hW hBτ.1.2.1 hBτ.1.2.2.2.1 (by omega) (by omega) (jn_if (fun hp => ?_) (fun hp => ?_))
        · exact next _ τ hFτ (jn_RI_eq hRτ (fun m t _ _ => (jn_Ib_off (fun m' q => hp q.2.2.2.2.1)).symm))
        · have hkk : 0 ≤ jn_sym g r0 d - 10 ∧ jn_sym g r0 d - 10 < 5 := by omega
          have hm0 : (((5 * jn_wy g S ((t0 / 5 : Nat) : Int) r0 d + (jn_sym g r0 d - 10)).toNat : Nat) : Int) = 5 * jn_wy g S ((t0 / 5 : Nat) : Int) r0 d + (jn_sym g r0 d - 10) := by omega
          have hmv0 : jn_mv S (5 * jn_wy g S ((t0 / 5 : Nat) : Int) r0 d + (jn_sym g r0 d - 10)).toNat = true := by
            rw [jn_mv_iff, show (((5 * jn_wy g S ((t0 / 5 : Nat) : Int) r0 d + (jn_sym g r0 d - 10)).toNat / 5 : Nat) : Int) = jn_wy g S ((t0 / 5 : Nat) : Int) r0 d by omega, show 10 + (((5 * jn_wy g S ((t0 / 5 : Nat) : Int) r0 d + (jn_sym g r0 d - 10)).toNat % 5 : Nat) : Int) = jn_sym g r0 d by omega]
            exact ⟨hy.2, hy2.1⟩
          have hIr : jn_Ir g e S r0 d (5 * jn_wy g S ((t0 / 5 : Nat) : Int) r0 d + (jn_sym g r0 d - 10)).toNat t0 := ⟨⟨by omega, hr, hkr⟩, hv, by omega, by omega, hp, hm0⟩
          refine jc_X4_numberOf h0 (by omega) (by omega) ?_
          have hnum := hNτ.2.1 (5 * jn_wy g S ((t0 / 5 : Nat) : Int) r0 d + (jn_sym g r0 d - 10)).toNat (by omega)
          rw [hm0, if_pos ⟨by omega, hmv0⟩] at hnum
          rw [show (if (0 ≤ jn_wy g S ((t0 / 5 : Nat) : Int) r0 d ∧ jn_wy g S ((t0 / 5 : Nat) : Int) r0 d < 48) ∧ 0 ≤ jn_sym g r0 d - 10 ∧ jn_sym g r0 d - 10 < 5 then τ.1 (A + 3) (jn_wy g S ((t0 / 5 : Nat) : Int) r0 d * 5 + (jn_sym g r0 d - 10)) else -1) = ((jn_nu S (5 * jn_wy g S ((t0 / 5 : Nat) : Int) r0 d + (jn_sym g r0 d - 10)).toNat : Nat) : Int) by
            rw [if_pos ⟨by omega, hkk⟩, ← hnum, show jn_wy g S ((t0 / 5 : Nat) : Int) r0 d * 5 = 5 * jn_wy g S ((t0 / 5 : Nat) : Int) r0 d by omega]]
          refine jc_inc h0 (by omega) ht hmv0 hv hRτ (fun υ q1 q2 => next _ υ (jF_tr hFτ q1) (jn_RI_eq q2 (fun m t _ _ => (jn_Ib_on hIr).symm)))
  refine jb_X4_walk_0 h0 h1 ?_
  rw [jr_wr (by omega), (hN.2.2 t0 ht hv).1]
  refine ⟨by omega, ?_⟩
  rintro _ rfl
  exact hloop (jn_len g r0).toNat 0 _ σ (by omega) jF_rf hR
end JNR
