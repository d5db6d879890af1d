/-! What INCLUDES what, in the class, 4 -/
theorem jn_ct_skip {p : Nat → Bool} {k : Nat} : ∀ {d : Nat}, (∀ j, k ≤ j → j < k + d → ¬ p j = true) → jn_ct p (k + d) = jn_ct p k
  | 0, _ => rfl
  | d + 1, h => by
    rw [show k + (d + 1) = (k + d) + 1 by omega, jn_ct_f (h (k + d) (by omega) (by omega))]
    exact jn_ct_skip (fun j h1 h2 => h j h1 (by omega))
section JNR2
variable {w : Nat} {σ : jg_M} {A T : Nat} {g : gM} {r s k : Int} {e t0 : Nat} {f fo : Int → Nat} {S : jn_Q} {L : Int → Int → Nat} {R : Nat → Nat → Prop} {K : jg_M → Prop} {KI : Int → jg_M → Prop}
def jn_RS (τ : jg_M) (A : Nat) (g : gM) (e : Nat) (S : jn_Q) (t : Nat) : Prop := jn_RI τ A S (jn_Ib g e S t 0 0) ∧ τ.1 A 1 = (jn_ct (jn_rp e S) (5 * t) : Nat) ∧ τ.1 A 3 = (jn_ct (jn_lk g S) (12 * t) : Nat)
theorem jc_X4_relate (h0 : jg_sh A = (4, 0)) (h1 : jg_sh T = (8, 0)) (h2 : jg_sh (T + 10) = (7, 0)) (h3 : jg_sh (T + 1) = (0, 0)) (hAT : T + 22 ≤ A) (hW : jn_GW g) (hn0 : 0 < g 0 1) (ho : g 0 4 = -1) (hB : jn_TB σ T g e f S L fo) (hF : jn_FP g S) (hN : jn_NM σ A S 240) (ht : t0 < 240) (hv : jn_mv S t0 = true)
    (hR : jn_RS σ A g e S t0) (hk : ∀ τ, jF (jW_re A) σ τ → jn_RS τ A g e S (t0 + 1) → K τ) : jg_CV w 4 mm_X4_relate [.ref A, .ref T, .int (.ofInt ((jn_nu S t0 : Nat) : Int))] σ K := by
  have hw := hW.1
  have hI1 := hF.1.1
  have hnu := jn_nu_lt (S := S) ht
  have hmv := jn_mv_iff.mp hv
  have hqr := hF.1.2.2.1 ((t0 / 5 : Nat) : Int) (10 + ((t0 % 5 : Nat) : Int))
  have hBt : ∀ τ, jF (jW_re A) σ τ → jn_TB τ T g e f S L fo ∧ jn_NM τ A S 240 := fun τ h => ⟨jn_TB_fr hB h (fun a i h => by unfold jW_re; omega), jn_NM_fr hN h (by unfold jW_re; omega) (fun a i h => by unfold jW_re; omega)⟩
  have hrules : ∀ (m r0 : Nat) (u3 : Value) (τ : jg_M), (r0 : Int) + m = g 0 2 → jF (jW_re A) σ τ → jn_RI τ A S (jn_Ib g e S t0 r0 0) → τ.1 A 1 = (jn_ct (jn_rp e S) (5 * (t0 + 1)) : Nat) → τ.1 A 3 = (jn_ct (jn_lk g S) (12 * t0 + r0) : Nat) → jg_GV w 4 mm_X4_relate 73 [.ref A, .ref T, .int (.ofInt ((jn_nu S t0 : Nat) : Int)), u3, .int (.ofInt (r0 : Int))] τ K := by
    intro m
    induction m with
    | zero =>
      intro r0 u3 τ hr hFτ hRτ h1c h3c
      obtain ⟨hBτ, hNτ⟩ := hBt τ hFτ
      refine jb_X4_relate_73 h0 h1 ?_
      rw [hBτ.1.1.1.2.2.1, jr_wr (by omega), jr_wr (by omega)]
      refine jn_ite (fun _ => hk τ hFτ ⟨jn_RI_eq hRτ (fun m t _ _ => jn_Ib_move (fun r d m' hr' q => by
        have := q.1.2.1
        omega)), h1c, ?_⟩) (fun h => by omega)
      rw [h3c]
      have := jn_ct_skip (p := jn_lk g S) (k := 12 * t0 + r0) (d := 12 - r0) (fun j j1 j2 q => by
        have := (jn_lk_iff.mp q).2.1
        omega)
      rw [show 12 * t0 + r0 + (12 - r0) = 12 * (t0 + 1) by omega] at this
      rw [this]
    | succ m ih =>
      intro r0 u3 τ hr hFτ hRτ h1c h3c
      obtain ⟨hBτ, hNτ⟩ := hBt τ hFτ
      have hlk : jn_lk g S (12 * t0 + r0) = true ↔ g 3 (r0 : Int) = ((t0 % 5 : Nat) : Int) := by
        rw [jn_lk_iff, show (12 * t0 + r0) / 12 = t0 by omega, show (12 * t0 + r0) % 12 = r0 by omega]
        exact ⟨fun q => q.2.2, fun q => ⟨hv, by omega, q⟩⟩
      have hg3 := (hW.2.1 (r0 : Int) (by omega) (by omega)).1
      refine jb_X4_relate_73 h0 h1 ?_
      rw [hBτ.1.1.1.2.2.1, jr_wr (by omega), jr_wr (by omega)]
      refine jn_ite (fun h => by omega) (fun _ => jc_X0_kindOf h3 hBτ.1.1 hW (by omega) ?_)
      rw [show (if 0 ≤ (r0 : Int) ∧ (r0 : Int) < g 0 2 then g 3 (r0 : Int) else -1) = g 3 (r0 : Int) from if_pos ⟨by omega, by omega⟩, jr_wr (show jr ((jn_nu S t0 : Nat) : Int) by omega), (hNτ.2.2 t0 ht hv).2, jr_wr (show jr (g 3 (r0 : Int)) by omega), jr_wr (show jr ((t0 % 5 : Nat) : Int) by omega), show (r0 : Int) + 1 = ((r0 + 1 : Nat) : Int) by omega]
      refine ⟨by omega, jn_ite (fun hq => ?_) (fun hq => ?_)⟩
      · refine jc_X4_walk h0 h1 h2 h3 hAT hW hn0 ho hBτ hF hNτ ht hv (by omega) hq hRτ (fun υ q1 q2 q3 q4 => ?_)
        refine ih (r0 + 1) _ υ (by omega) (jF_tr hFτ q1) (by rwa [show ((r0 + 1 : Nat) : Int) = (r0 : Int) + 1 by omega]) (by rw [q3]; exact h1c) ?_
        rw [q4, h3c, show 12 * t0 + (r0 + 1) = (12 * t0 + r0) + 1 by omega, jn_ct_t (hlk.mpr hq)]
        rfl
      · refine ih (r0 + 1) _ τ (by omega) hFτ (jn_RI_eq hRτ (fun m t _ _ => ?_)) h1c ?_
        · rw [show ((r0 + 1 : Nat) : Int) = (r0 : Int) + 1 by omega]
          exact jn_Ib_rule (fun d m' _ q => hq q.1.2.2)
        · rw [h3c, show 12 * t0 + (r0 + 1) = (12 * t0 + r0) + 1 by omega, jn_ct_f (fun q => hq (hlk.mp q))]
  have hkinds : ∀ (m k0 : Nat) (τ : jg_M), k0 + m = 5 → jF (jW_re A) σ τ → jn_RI τ A S (jn_Ib g e S t0 0 0) → τ.1 A 1 = (jn_ct (jn_rp e S) (5 * t0 + k0) : Nat) → τ.1 A 3 = (jn_ct (jn_lk g S) (12 * t0) : Nat) → jg_GV w 4 mm_X4_relate 26 [.ref A, .ref T, .int (.ofInt ((jn_nu S t0 : Nat) : Int)), .int (.ofInt (S.2.2.1 ((t0 / 5 : Nat) : Int) (10 + ((t0 % 5 : Nat) : Int)))), .int (.ofInt (k0 : Int))] τ K := by
    intro m
    induction m with
    | zero =>
      intro k0 τ hk0 hFτ hRτ h1c h3c
      refine jb_X4_relate_26 h0 h1 ?_
      rw [jr_wr (by omega)]
      refine jn_ite (fun _ => hrules (g 0 2).toNat 0 _ τ (by omega) hFτ hRτ ?_ h3c) (fun h => by omega)
      rw [h1c, show 5 * t0 + k0 = 5 * (t0 + 1) by omega]
    | succ m ih =>
      intro k0 τ hk0 hFτ hRτ h1c h3c
      obtain ⟨hBτ, hNτ⟩ := hBt τ hFτ
      have hrp : jn_rp e S (5 * t0 + k0) = true ↔ e.testBit k0 = true ∧ 0 ≤ S.2.2.1 (S.2.2.1 ((t0 / 5 : Nat) : Int) (10 + ((t0 % 5 : Nat) : Int))) (10 + (k0 : Int)) := by
        rw [jn_rp_iff, show (5 * t0 + k0) / 5 = t0 by omega, show (5 * t0 + k0) % 5 = k0 by omega]
        exact ⟨fun q => q.2, fun q => ⟨hv, q⟩⟩
      have no : ¬ jn_rp e S (5 * t0 + k0) = true → jg_GV w 4 mm_X4_relate 26 [.ref A, .ref T, .int (.ofInt ((jn_nu S t0 : Nat) : Int)), .int (.ofInt (S.2.2.1 ((t0 / 5 : Nat) : Int) (10 + ((t0 % 5 : Nat) : Int)))), .int (.ofInt ((k0 : Int) + 1))] τ K := fun hno => by
        rw [show (k0 : Int) + 1 = ((k0 + 1 : Nat) : Int) by omega]
        refine ih (k0 + 1) τ (by omega) hFτ hRτ ?_ h3c
        rw [h1c, show 5 * t0 + (k0 + 1) = (5 * t0 + k0) + 1 by omega, jn_ct_f hno]
      refine jb_X4_relate_26 h0 h1 ?_
      rw [jr_wr (by omega)]
      refine jn_ite (fun h => by omega) (fun _ => jc_X0_isEmpty h3 hBτ.1.2.1 hBτ.1.2.2.2.1 (by omega) (jn_if (fun hp => no (fun q => hp ⟨by omega, by omega, by rw [Int.toNat_natCast]; exact (hrp.mp q).1⟩)) (fun hp => ?_)))
      refine jc_X4_numberOf h0 (by omega) (by omega) ?_
      have hq0 : (((5 * S.2.2.1 ((t0 / 5 : Nat) : Int) (10 + ((t0 % 5 : Nat) : Int)) + k0).toNat : Nat) : Int) = 5 * S.2.2.1 ((t0 / 5 : Nat) : Int) (10 + ((t0 % 5 : Nat) : Int)) + k0 := by omega
      have hnum := hNτ.2.1 (5 * S.2.2.1 ((t0 / 5 : Nat) : Int) (10 + ((t0 % 5 : Nat) : Int)) + k0).toNat (by omega)
      have hnv : jn_mv S (5 * S.2.2.1 ((t0 / 5 : Nat) : Int) (10 + ((t0 % 5 : Nat) : Int)) + k0).toNat = true ↔ 0 ≤ S.2.2.1 (S.2.2.1 ((t0 / 5 : Nat) : Int) (10 + ((t0 % 5 : Nat) : Int))) (10 + (k0 : Int)) := by
        rw [jn_mv_iff, show (((5 * S.2.2.1 ((t0 / 5 : Nat) : Int) (10 + ((t0 % 5 : Nat) : Int)) + k0).toNat / 5 : Nat) : Int) = S.2.2.1 ((t0 / 5 : Nat) : Int) (10 + ((t0 % 5 : Nat) : Int)) by omega, show (((5 * S.2.2.1 ((t0 / 5 : Nat) : Int) (10 + ((t0 % 5 : Nat) : Int)) + k0).toNat % 5 : Nat) : Int) = k0 by omega]
        exact ⟨fun q => q.2, fun q => ⟨by omega, q⟩⟩
      have hnl := jn_nu_lt (S := S) (m := (5 * S.2.2.1 ((t0 / 5 : Nat) : Int) (10 + ((t0 % 5 : Nat) : Int)) + k0).toNat) (by omega)
      rw [hq0] at hnum
      rw [show (if (0 ≤ S.2.2.1 ((t0 / 5 : Nat) : Int) (10 + ((t0 % 5 : Nat) : Int)) ∧ S.2.2.1 ((t0 / 5 : Nat) : Int) (10 + ((t0 % 5 : Nat) : Int)) < 48) ∧ 0 ≤ (k0 : Int) ∧ (k0 : Int) < 5 then τ.1 (A + 3) (S.2.2.1 ((t0 / 5 : Nat) : Int) (10 + ((t0 % 5 : Nat) : Int)) * 5 + (k0 : Int)) else -1) = τ.1 (A + 3) (5 * S.2.2.1 ((t0 / 5 : Nat) : Int) (10 + ((t0 % 5 : Nat) : Int)) + k0) by
        rw [if_pos ⟨by omega, by omega, by omega⟩, show S.2.2.1 ((t0 / 5 : Nat) : Int) (10 + ((t0 % 5 : Nat) : Int)) * 5 = 5 * S.2.2.1 ((t0 / 5 : Nat) : Int) (10 + ((t0 % 5 : Nat) : Int)) by omega]]
      by_cases hyes : 0 ≤ S.2.2.1 (S.2.2.1 ((t0 / 5 : Nat) : Int) (10 + ((t0 % 5 : Nat) : Int))) (10 + (k0 : Int))
      · rw [if_pos ⟨by omega, hnv.mpr hyes⟩] at hnum
        rw [hnum, jr_wr (by omega)]
        refine jn_ite (fun h => by omega) (fun _ => ?_)
        rintro _ rfl
        have hrpt := hrp.mpr ⟨by have := hp.2.2; rwa [Int.toNat_natCast] at this, hyes⟩
        rw [show (k0 : Int) + 1 = ((k0 + 1 : Nat) : Int) by omega]
        refine ih (k0 + 1) _ (by omega) (jF_tr hFτ (jF_I (Or.inr ⟨rfl, by omega, by omega⟩))) (jn_RI_fr (W := fun a i => a = A ∧ i = 1) hRτ (jF_I ⟨rfl, rfl⟩) (by omega) (fun i => by omega)) ?_ ?_
        · rw [js_Is, h1c, show 5 * t0 + (k0 + 1) = (5 * t0 + k0) + 1 by omega, jn_ct_t hrpt]
          rfl
        · rw [js_In (Or.inr (by omega))]; exact h3c
      · rw [if_neg (fun q => hyes (hnv.mp q.2))] at hnum
        rw [hnum, show jg_wr (-1) = -1 from rfl]
        exact jn_ite (fun _ => no (fun q => hyes (hrp.mp q).2)) (fun h => by omega)
  refine jb_X4_relate_0 h0 h1 ?_
  rw [jr_wr (by omega), (hN.2.2 t0 ht hv).1, (hN.2.2 t0 ht hv).2]
  refine ⟨by omega, by omega, jc_X7_moveBy h2 hB.2.1.1.1 (by omega) (by omega) (by omega) ?_⟩
  rw [if_pos ⟨⟨by omega, hmv.1⟩, by omega, by omega⟩, hB.2.1.2.1 _ _ (by omega) hmv.1 (by omega) (by omega), jn_m2_nn hmv.2]
  exact hkinds 5 0 σ rfl jF_rf hR.1 hR.2.1 hR.2.2
theorem jc_X4_makeB (h0 : jg_sh A = (4, 0)) (h1 : jg_sh T = (8, 0)) (h2 : jg_sh (T + 10) = (7, 0)) (h3 : jg_sh (T + 1) = (0, 0)) (hAT : T + 22 ≤ A) (hW : jn_GW g) (hn0 : 0 < g 0 1) (ho : g 0 4 = -1) (hB : jn_TB σ T g e f S L fo) (hF : jn_FP g S) (hN : jn_NM σ A S 240) (hR : jn_RS σ A g e S 0)
    (hk : ∀ τ, jF (jW_re A) σ τ → jn_RS τ A g e S 240 → jg_CV w 3 mm_X4_settleAfters [.ref A, .ref T] τ K) : jg_GV w 5 mm_X4_make 43 [.ref A, .ref T, .int (.ofInt 0)] σ K := by
  have hBt : ∀ τ, jF (jW_re A) σ τ → jn_TB τ T g e f S L fo ∧ jn_NM τ A S 240 := fun τ h => ⟨jn_TB_fr hB h (fun a i h => by unfold jW_re; omega), jn_NM_fr hN h (by unfold jW_re; omega) (fun a i h => by unfold jW_re; omega)⟩
  have hloop : ∀ (m t0 : Nat) (τ : jg_M), t0 + m = 240 → jF (jW_re A) σ τ → jn_RS τ A g e S t0 → jg_GV w 5 mm_X4_make 43 [.ref A, .ref T, .int (.ofInt ((jn_nu S t0 : Nat) : Int))] τ K := by
    intro m
    induction m with
    | zero =>
      intro t0 τ ht hFτ hRτ
      have hle := jn_nu_le (S := S) (m := 240)
      refine jb_X4_make_43 h0 h1 ?_
      rw [(hBt τ hFτ).2.1, show t0 = 240 by omega, jr_wr (by omega)]
      rw [show t0 = 240 by omega] at hRτ
      exact jn_ite (fun _ => hk τ hFτ hRτ) (fun h => by omega)
    | succ m ih =>
      intro t0 τ ht hFτ hRτ
      by_cases hv : jn_mv S t0 = true
      · have hlt : jn_nu S t0 < jn_nu S 240 := jn_ct_lt hv (by omega)
        have hle := jn_nu_le (S := S) (m := 240)
        refine jb_X4_make_43 h0 h1 ?_
        rw [(hBt τ hFτ).2.1, jr_wr (by omega), jr_wr (by omega)]
        refine jn_ite (fun h => by omega) (fun _ => jc_X4_relate h0 h1 h2 h3 hAT hW hn0 ho (hBt τ hFτ).1 hF (hBt τ hFτ).2 (by omega) hv hRτ (fun υ q1 q2 => ?_))
        have hs : jn_nu S (t0 + 1) = jn_nu S t0 + 1 := jn_ct_t hv
        rw [show ((jn_nu S t0 : Nat) : Int) + 1 = ((jn_nu S (t0 + 1) : Nat) : Int) by omega]
        exact ih (t0 + 1) υ (by omega) (jF_tr hFτ q1) q2
      · have hs : jn_nu S (t0 + 1) = jn_nu S t0 := jn_ct_f hv
        rw [← hs]
        refine ih (t0 + 1) τ (by omega) hFτ ⟨jn_RI_eq hRτ.1 (fun m t _ _ => jn_Ib_move (fun r d m' _ q => hv q.2.1)), ?_, ?_⟩
        · rw [hRτ.2.1, show 5 * (t0 + 1) = 5 * t0 + 5 by omega, jn_ct_skip (fun j j1 j2 q => hv (by
            have := (jn_rp_iff.mp q).1
            rwa [show j / 5 = t0 by omega] at this))]
        · rw [hRτ.2.2, show 12 * (t0 + 1) = 12 * t0 + 12 by omega, jn_ct_skip (fun j j1 j2 q => hv (by
            have := (jn_lk_iff.mp q).1
            rwa [show j / 12 = t0 by omega] at this))]
  exact hloop 240 0 σ rfl jF_rf hR
end JNR2
