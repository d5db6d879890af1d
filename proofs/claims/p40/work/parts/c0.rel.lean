/-! ALL that the desk knows, and how it lasts -/
/-- grammar's place; grammar; what is READ; NOTES; what was READ; IMAGE; TAPE; FAULT, place, fed -/
abbrev kx_S : Type := (Nat × gM) × (kr_K × Int × Int) × kn_N × (Nat × kz_H) × ((kr_K × Int × Int) × Int) × (Nat → Int) × (Int × Int × Int)
def kx_wc (T : Nat) (c : Nat) (i : Int) : Prop := (c = 0 ∧ (i = 1 ∨ i = 3 ∨ i = 4 ∨ i = 11)) ∨ c = 1 ∨ (c = 2 ∧ (i = 0 ∨ i = 1)) ∨ (T + 1 ≤ c ∧ c ≤ T + 21) ∨ (48 ≤ c ∧ c ≤ 53) ∨ (55 ≤ c ∧ c ≤ 79)
def kx_lr (σ : jg_M) (g : gM) : Prop := σ.1 78 0 = 0 ∨ (σ.1 78 0 = 1 ∧ kp_LC σ g)
def kx_tp (σ : jg_M) (a b : Nat) (F : Int) (B : Nat → Int) : Prop := σ.1 a 1 = F ∧ ∀ i : Nat, (i : Int) < F → σ.1 b (i : Int) = B i
def kx_C (σ : jg_M) (S : kx_S) : Prop := ku_CG σ S.1.1 S.1.2 ∧ kz_C σ 65 S.2.1.1 S.2.1.2.1 S.2.1.2.2 ∧ kn_C kp_pl σ S.2.2.1 ∧ kz_RC σ S.2.2.2.1.1 S.2.2.2.1.2 ∧
  (σ.1 0 11 = S.2.2.2.2.1.2 ∧ (S.2.2.2.2.1.2 ≠ 0 → kz_C σ 67 S.2.2.2.2.1.1.1 S.2.2.2.2.1.1.2.1 S.2.2.2.2.1.1.2.2)) ∧ kx_tp σ 0 1 S.2.2.2.2.2.2.2.2 S.2.2.2.2.2.1 ∧ (σ.1 2 0 = S.2.2.2.2.2.2.1 ∧ σ.1 2 1 = S.2.2.2.2.2.2.2.1) ∧ kx_lr σ S.1.2
/-- what is so of a grammar that is known -/
def kx_G (g : gM) : Prop := kt_ok g ∧ (0 < ku_n g → 0 < g 0 1 ∧ jn_FP g (kg_S g))
def kx_P (S : kx_S) : Prop := kr_OK S.1.2 S.2.1.1 ∧ (kp_N S.1.2 S.2.2.1 ∧ kn_lt S.2.2.1 0) ∧ (∀ i : Nat, i < S.2.2.2.1.1 → kr_OK S.1.2 (S.2.2.2.1.2 i).1) ∧ ((S.2.2.2.2.1.2 = 0 ∨ S.2.2.2.2.1.2 = 1) ∧ (S.2.2.2.2.1.2 ≠ 0 → kr_OK S.1.2 S.2.2.2.2.1.1.1)) ∧ (∀ i, 0 ≤ S.2.2.2.2.2.1 i ∧ S.2.2.2.2.2.1 i ≤ 255) ∧ (0 ≤ S.2.2.2.2.2.2.2.2 ∧ S.2.2.2.2.2.2.2.2 ≤ 700) ∧ kx_G S.1.2 ∧ S.2.2.2.1.1 ≤ 20
def kW_c (c : Nat) (_ : Int) : Prop := c < 92
section KXA
variable {w : Nat} {σ τ : jg_M} {T n c R a b : Nat} {g : gM} {K : kr_K} {N : kn_N} {S : kx_S} {h : kz_H} {x o rd tk F : Int} {B : Nat → Int} {pl : Int → Int → Int} {W : Nat → Int → Prop}
theorem ku_CG_fr2 (h : ku_CG σ T g) (hf : jF W σ τ) (h3 : ¬ W 0 3) (h4 : ¬ W 0 4) (hn : ∀ c i, (T + 1 ≤ c ∧ c ≤ T + 21) ∨ (48 ≤ c ∧ c ≤ 53) ∨ (55 ≤ c ∧ c ≤ 64) → ¬ W c i) : ku_CG τ T g := by
  obtain ⟨⟨q1, q2, q3⟩, ⟨q4, q5⟩, q6, q7, q8, q9⟩ := h
  exact ⟨⟨q1, (hf.1 _ _ h3).trans q2, (hf.1 _ _ h4).trans q3⟩, ⟨q4, kt_GC_fr q5 hf (fun i => hn _ _ (by omega)) (fun c i c1 c2 => hn _ _ (by omega))⟩, kg_CT_fr q6 hf (fun c i c1 c2 => hn _ _ (by omega)), ku_RC_fr q7 hf (fun c i c1 c2 => hn _ _ (by omega)), ku_XS_fr q8 hf (fun c i c1 c2 => hn _ _ (by omega)), ku_CM_fr q9 hf (fun c i c1 c2 => hn _ _ (by omega))⟩
theorem kz_C_fr (h : kz_C σ R K rd tk) (hf : jF W σ τ) (h1 : ∀ i, ¬ W R i) (h2 : ∀ i, ¬ W (R + 1) i) : kz_C τ R K rd tk := ⟨kr_Ro_fr h.1 hf h1 h2, (hf.1 _ _ (h1 _)).trans h.2.1, (hf.1 _ _ (h1 _)).trans h.2.2⟩
theorem kz_RC_fr (hR : kz_RC σ c h) (hf : jF W σ τ) (hn : ∀ a i, 69 ≤ a → a ≤ 73 → ¬ W a i) : kz_RC τ c h := by
  obtain ⟨p, p1, p2, ⟨c1, c2⟩, hs⟩ := hR
  refine ⟨p, (hf.1 _ _ (hn _ _ (by decide) (by decide))).trans p1, p2, ⟨(hf.1 _ _ (hn _ _ (by decide) (by decide))).trans c1, c2⟩, fun i hi => ⟨(hs i hi).1, ?_⟩⟩
  have := (hs i hi).2
  exact ⟨fun j hj => (hf.1 _ _ (hn _ _ (by decide) (by decide))).trans (this.1 j hj), (hf.1 _ _ (hn _ _ (by decide) (by decide))).trans this.2.1, (hf.1 _ _ (hn _ _ (by decide) (by decide))).trans this.2.2.1, (hf.1 _ _ (hn _ _ (by decide) (by decide))).trans this.2.2.2⟩
theorem kn_C_fr (h : kn_C pl σ N) (hf : jF W σ τ) (hn : ∀ a i, 74 ≤ a → a ≤ 77 → ¬ W a i) : kn_C pl τ N := by
  obtain ⟨⟨a1, a2⟩, ⟨b1, b2, b3⟩, cc⟩ := h
  exact ⟨⟨(hf.1 _ _ (hn _ _ (by decide) (by decide))).trans a1, a2⟩, ⟨(hf.1 _ _ (hn _ _ (by decide) (by decide))).trans b1, b2, b3⟩, fun i hi => ⟨fun q => ⟨(hf.1 _ _ (hn _ _ (by decide) (by decide))).trans ((cc i hi).1 q).1, (hf.1 _ _ (hn _ _ (by decide) (by decide))).trans ((cc i hi).1 q).2⟩, fun q => ⟨(hf.1 _ _ (hn _ _ (by decide) (by decide))).trans ((cc i hi).2 q).1, (hf.1 _ _ (hn _ _ (by decide) (by decide))).trans ((cc i hi).2 q).2.1, (hf.1 _ _ (hn _ _ (by decide) (by decide))).trans ((cc i hi).2 q).2.2⟩⟩⟩
theorem kx_lr_fr (h : kx_lr σ g) (hf : jF W σ τ) (hn : ∀ a i, 78 ≤ a → a ≤ 79 → ¬ W a i) : kx_lr τ g := by
  rcases h with h | ⟨h, h1, h2⟩
  · exact Or.inl ((hf.1 _ _ (hn _ _ (by decide) (by decide))).trans h)
  · exact Or.inr ⟨(hf.1 _ _ (hn _ _ (by decide) (by decide))).trans h, (hf.1 _ _ (hn _ _ (by decide) (by decide))).trans h1, kp_MK_fr h2 hf (fun i => hn _ _ (by decide) (by decide))⟩
theorem kx_tp_fr (h : kx_tp σ a b F B) (hf : jF W σ τ) (h1 : ¬ W a 1) (h2 : ∀ i, ¬ W b i) : kx_tp τ a b F B := ⟨(hf.1 _ _ h1).trans h.1, fun i hi => (hf.1 _ _ (h2 _)).trans (h.2 i hi)⟩
theorem kx_C_fr (h : kx_C σ S) (hf : jF W σ τ) (hn : ∀ c i, kx_wc S.1.1 c i → ¬ W c i) : kx_C τ S := by
  obtain ⟨h1, h2, h3, h4, ⟨h5, h6⟩, h7, ⟨h8, h9⟩, h10⟩ := h
  have hT := h1.1.1
  refine ⟨ku_CG_fr2 h1 hf (hn _ _ (by unfold kx_wc; omega)) (hn _ _ (by unfold kx_wc; omega)) (fun c i q => hn _ _ (by unfold kx_wc; omega)), kz_C_fr h2 hf (fun i => hn _ _ (by unfold kx_wc; omega)) (fun i => hn _ _ (by unfold kx_wc; omega)), kn_C_fr h3 hf (fun a i a1 a2 => hn _ _ (by unfold kx_wc; omega)), kz_RC_fr h4 hf (fun a i a1 a2 => hn _ _ (by unfold kx_wc; omega)), ⟨(hf.1 _ _ (hn _ _ (by unfold kx_wc; omega))).trans h5, fun q => kz_C_fr (h6 q) hf (fun i => hn _ _ (by unfold kx_wc; omega)) (fun i => hn _ _ (by unfold kx_wc; omega))⟩, kx_tp_fr h7 hf (hn _ _ (by unfold kx_wc; omega)) (fun i => hn _ _ (by unfold kx_wc; omega)), ⟨(hf.1 _ _ (hn _ _ (by unfold kx_wc; omega))).trans h8, (hf.1 _ _ (hn _ _ (by unfold kx_wc; omega))).trans h9⟩, kx_lr_fr h10 hf (fun a i a1 a2 => hn _ _ (by unfold kx_wc; omega))⟩
variable {y s k t r : Int}
theorem kx_hc_90 : ∀ σ, kx_C σ S → ∀ c i, kW_ro 90 c i → c < 92 ∧ ¬ kx_wc S.1.1 c i := fun σ h c i q => by
  have hT := h.1.1.1
  exact ⟨by unfold kW_ro at q; omega, fun q1 => by unfold kx_wc at q1; unfold kW_ro at q; omega⟩
end KXA
section KXB
variable {σ τ : jg_M}
theorem kx_R0 {c : Nat} {h : kz_H} (hR : kz_RC σ c h) (h1 : τ.1 69 1 = σ.1 69 1) (h0 : τ.1 69 0 = 0) : kz_RC τ 0 h := by
  obtain ⟨p, p1, p2, _, _⟩ := hR
  exact ⟨p, h1.trans p1, p2, ⟨h0, Nat.zero_le _⟩, fun i q => absurd q (Nat.not_lt_zero i)⟩
def kx_fb (B : Nat → Int) (n : Nat) (x1 x2 x3 x4 x5 : Int) : Nat → Int := fun j => if j < n then B j else if j < n + 20 then ku_fb x1 x2 x3 x4 x5 (j - n) else 0
theorem kx_G_of {g : gM} (h : kt_ok g) (hq : g 0 1 = 0 ∨ (0 < g 0 1 ∧ ∃ S, jn_all g = some S)) : kx_G g ∧ kr_OK g (kr_I g) := by
  have hw := h.1.1.1
  have hF : 0 < g 0 1 → jn_FP g (kg_S g) := fun h0 => by
    rcases hq with q | ⟨_, S, q⟩
    · omega
    · have := jn_all_FP h.1.1 q
      rw [kg_S_eq q] at this
      exact this
  refine ⟨⟨h, fun hn => ?_⟩, ?_⟩
  · have h0 : 0 < g 0 1 := by
      unfold ku_n at hn
      by_cases e : g 0 1 = 0
      · rw [if_pos e] at hn; omega
      · omega
    exact ⟨h0, hF h0⟩
  · unfold kr_I
    by_cases e : g 0 1 = 0
    · rw [if_pos e]; exact Or.inl ⟨e, rfl⟩
    · rw [if_neg e]; exact Or.inr ⟨by omega, kr_K0_ok (hF (by omega))⟩
end KXB
/-! LIFTED METHODS, 9: from a method's entry, and from each loop's head, what must hold for its run to end with Q (printed by wip/whole/gen/gen18.py) -/
set_option maxRecDepth 100000 in
set_option maxHeartbeats 4000000 in
theorem jb_X11_kind_0 {w : Nat} {a0 : Nat} {x1 : Int} {x2 : Int} {σ : jg_M} {Q : Int → jg_M → Prop} (h0 : jg_sh a0 = (11, 0)) (h : ∀ r101 : Nat, r101 = (σ.1 a0 3).toNat → jg_sh r101 = (8, 0) ∧ jg_CI w 0 mm_X0_hasKind [.ref (r101 + 1), .int (.ofInt x1)] σ (fun (z103 : Int) (m102 : jg_M) => (if jg_wr z103 = 0 then False else (if jg_wr x2 = 0 then jg_CI w 0 mm_X0_isEmpty [.ref (r101 + 1), .int (.ofInt x1)] m102 (fun (z105 : Int) (m104 : jg_M) => (if jg_wr z105 = 0 then Q 0 m104 else Q 1 m104)) else (if jg_wr x2 = 1 then ((0 : Int) ≤ jg_wr x1 ∧ jg_wr x1 < (5 : Int)) ∧ Q (m102.1 ((r101 + 1) + 7) (jg_wr x1)) m102 else (if jg_wr x2 = 2 then ((0 : Int) ≤ jg_wr x1 ∧ jg_wr x1 < (5 : Int)) ∧ Q (m102.1 ((r101 + 1) + 8) (jg_wr x1)) m102 else (if jg_wr x2 = 3 then jg_CI w 2 mm_X0_rulesOf [.ref (r101 + 1), .int (.ofInt x1)] m102 (fun (z107 : Int) (m106 : jg_M) => Q z107 m106) else (if jg_wr x2 = 4 then ((0 : Int) ≤ jg_wr x1 ∧ jg_wr x1 < (5 : Int)) ∧ Q (m102.1 ((a0 + 55) + 1) (jg_wr x1)) m102 else False)))))))) : jg_CI w 3 mm_X11_kind [.ref a0, .int (.ofInt x1), .int (.ofInt x2)] σ Q := by
  show jg_G w 3 mm_X11_kind 0 [.ref a0, .int (.ofInt x1), .int (.ofInt x2), mj_U] [] σ (jg_QI Q)
  refine jg_A (pc' := 1) rfl rfl (fun _ _ _ => rfl) ?_
  refine jg_getR (pc' := 4) (bi := 3) rfl h0 (by decide) rfl rfl rfl (fun r101 er101 => ?_)
  obtain ⟨hr101, h⟩ := h r101 er101
  refine jg_getO (pc' := 7) (k := 1) rfl hr101 (by decide) rfl rfl ?_
  refine jg_A (pc' := 8) (ls' := [.ref a0, .int (.ofInt x1), .int (.ofInt x2), .ref (r101 + 1)]) rfl rfl (fun _ _ _ => rfl) ?_
  refine jg_A (pc' := 9) rfl rfl (fun _ _ _ => rfl) ?_
  refine jg_A (pc' := 10) rfl rfl (fun _ _ _ => rfl) ?_
  refine jg_calX (M1 := mm_X0_hasKind) (hy := 0) (pc' := 13) rfl jm_X0_hasKind (by decide) rfl (jg_sX8_0 hr101) (by decide) ⟨Nat.le_of_ble_eq_true rfl, rfl⟩ (Nat.le_of_ble_eq_true rfl) rfl h (jg_kI (fun z103 m102 h => ?_))
  refine jg_ifne (pc' := 16) rfl rfl (fun hc => ?_) (fun hc => ?_)
  · have h := jg_t h (show jg_wr z103 = 0 from hc)
    exact h.elim
  · have h := jg_f h (show ¬ (jg_wr z103 = 0) from hc)
    refine jg_A (pc' := 27) rfl rfl (fun _ _ _ => rfl) ?_
    refine jg_tsw rfl rfl ?_
    refine jg_swc (v := 0) (t := 60) (fun hc => ?_) (fun hc => ?_)
    · have h := jg_t h hc
      refine jg_A (pc' := 61) rfl rfl (fun _ _ _ => rfl) ?_
      refine jg_A (pc' := 62) rfl rfl (fun _ _ _ => rfl) ?_
      refine jg_calX (M1 := mm_X0_isEmpty) (hy := 0) (pc' := 65) rfl jm_X0_isEmpty (by decide) rfl (jg_sX8_0 hr101) (by decide) ⟨Nat.le_of_ble_eq_true rfl, rfl⟩ (Nat.le_of_ble_eq_true rfl) rfl h (jg_kI (fun z105 m104 h => ?_))
      refine jg_ifeq (pc' := 68) rfl rfl (fun hc => ?_) (fun hc => ?_)
      · have h := jg_t h (show jg_wr z105 = 0 from hc)
        refine jg_A (pc' := 73) rfl rfl (fun _ _ _ => rfl) ?_
        exact jg_iret rfl rfl h
      · have h := jg_f h (show ¬ (jg_wr z105 = 0) from hc)
        refine jg_A (pc' := 69) rfl rfl (fun _ _ _ => rfl) ?_
        refine jg_goto rfl ?_
        exact jg_iret rfl rfl h
    have h := jg_f h hc
    refine jg_swc (v := 1) (t := 74) (fun hc => ?_) (fun hc => ?_)
    · have h := jg_t h hc
      refine jg_A (pc' := 75) rfl rfl (fun _ _ _ => rfl) ?_
      refine jg_getO (pc' := 78) (k := 7) rfl (jg_sX8_0 hr101) (by decide) rfl rfl ?_
      refine jg_A (pc' := 79) rfl rfl (fun _ _ _ => rfl) ?_
      obtain ⟨hg, h⟩ := h
      refine jg_iald (pc' := 80) rfl (jg_sX0_12 (jg_sX8_0 hr101)) hg rfl ?_
      exact jg_iret rfl rfl h
    have h := jg_f h hc
    refine jg_swc (v := 2) (t := 81) (fun hc => ?_) (fun hc => ?_)
    · have h := jg_t h hc
      refine jg_A (pc' := 82) rfl rfl (fun _ _ _ => rfl) ?_
      refine jg_getO (pc' := 85) (k := 8) rfl (jg_sX8_0 hr101) (by decide) rfl rfl ?_
      refine jg_A (pc' := 86) rfl rfl (fun _ _ _ => rfl) ?_
      obtain ⟨hg, h⟩ := h
      refine jg_iald (pc' := 87) rfl (jg_sX0_13 (jg_sX8_0 hr101)) hg rfl ?_
      exact jg_iret rfl rfl h
    have h := jg_f h hc
    refine jg_swc (v := 3) (t := 88) (fun hc => ?_) (fun hc => ?_)
    · have h := jg_t h hc
      refine jg_A (pc' := 89) rfl rfl (fun _ _ _ => rfl) ?_
      refine jg_A (pc' := 90) rfl rfl (fun _ _ _ => rfl) ?_
      refine jg_calX (M1 := mm_X0_rulesOf) (hy := 2) (pc' := 93) rfl jm_X0_rulesOf (by decide) rfl (jg_sX8_0 hr101) (by decide) ⟨Nat.le_of_ble_eq_true rfl, rfl⟩ (Nat.le_of_ble_eq_true rfl) rfl h (jg_kI (fun z107 m106 h => ?_))
      exact jg_iret rfl rfl h
    have h := jg_f h hc
    refine jg_swc (v := 4) (t := 94) (fun hc => ?_) (fun hc => ?_)
    · have h := jg_t h hc
      refine jg_A (pc' := 95) rfl rfl (fun _ _ _ => rfl) ?_
      refine jg_getO (pc' := 98) (k := 55) rfl h0 (by decide) rfl rfl ?_
      refine jg_getO (pc' := 101) (k := 1) rfl (jg_sX11_6 h0) (by decide) rfl rfl ?_
      refine jg_A (pc' := 102) rfl rfl (fun _ _ _ => rfl) ?_
      obtain ⟨hg, h⟩ := h
      refine jg_iald (pc' := 103) rfl (jg_sX6_0 (jg_sX11_6 h0)) hg rfl ?_
      exact jg_iret rfl rfl h
    have h := jg_f h hc
    show jg_G w 3 mm_X11_kind 104 [.ref a0, .int (.ofInt x1), .int (.ofInt x2), .ref (r101 + 1)] [] m102 (jg_QI Q)
    exact h.elim
