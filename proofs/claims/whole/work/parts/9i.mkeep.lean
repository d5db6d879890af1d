/-! A TEXT taken, in the reference -/
def ku_RM (σ : jg_M) (g : gM) : Prop := (g 0 1 = 0 ∧ ∀ i, 0 ≤ i → i < 5 → σ.1 (92 + 28) i = 0) ∨ (0 < g 0 1 ∧ jn_all g = some (kg_S g) ∧ jn_FP g (kg_S g) ∧ (σ.1 (92 + 28) 0 = (jn_nu (kg_S g) 240 : Nat) ∧ σ.1 (92 + 28) 1 = (jn_ct (jn_rp (kg_e g) (kg_S g)) 1200 : Nat) ∧ σ.1 (92 + 28) 2 = (jn_pc (jn_Ib g (kg_e g) (kg_S g) 240 0 0) : Nat) ∧ σ.1 (92 + 28) 3 = (jn_ct (jn_lk g (kg_S g)) 2880 : Nat) ∧ σ.1 (92 + 28) 4 = (jn_ct (jn_ld (jn_wf (jn_Ib g (kg_e g) (kg_S g) 240 0 0) 240) 240) 240 : Nat)) ∧ ∃ a, jn_lA g (kg_e g) (kg_S g) a ∧ jn_AM σ (kg_S g) a)
def ku_MP (σ : jg_M) (g : gM) : Prop := kb_MM σ (fun j => 0 < g 0 1 ∧ 0 ≤ j ∧ j < (kg_S g).1) (ku_P g)
/-- what the model knows of its grammar -/
def ku_MG (σ : jg_M) (g : gM) : Prop := (kt_ok g ∧ kt_GM σ 0 g (g 0 2)) ∧ kg_MT σ 0 g 0 ∧ ku_RM σ g ∧ ka_XM σ g ∧ ku_MP σ g
def kW_m0 (c : Nat) (i : Int) : Prop := ((c = 92 + 13 ∨ c = 92 + 20 ∨ c = 92 + 22) ∧ i = 0) ∨ (c = 92 + 21 ∧ 0 ≤ i ∧ i < 5) ∨ ((c = 92 + 14 ∨ c = 92 + 15 ∨ c = 92 + 18) ∧ 0 ≤ i ∧ i < 3120) ∨ (c = 92 + 16 ∧ 0 ≤ i ∧ i < 576) ∨ (c = 92 + 17 ∧ 0 ≤ i ∧ i < 48) ∨ (c = 92 + 19 ∧ 0 ≤ i ∧ i < 384) ∨ c = 92 + 23
def kW_kt (c : Nat) (i : Int) : Prop := (92 + 3 ≤ c ∧ c ≤ 92 + 38) ∨ (c = 92 ∧ ((33 ≤ i ∧ i ≤ 38) ∨ i = 48 ∨ i = 52 ∨ (58 ≤ i ∧ i ≤ 60) ∨ i = 65 ∨ i = 66 ∨ i = 70 ∨ i = 72))
section KUC
variable {w : Nat} {σ σ0 τ : jg_M} {a n0 n p k : Nat} {B : Nat → Int} {g g' : gM} {y : Int} {KV : jg_M → Prop} {KI : Int → jg_M → Prop} {x v e : Int} {W : Nat → Int → Prop}
theorem kt_GM_Mb {b : Int} (h : kt_GM σ b g (g 0 2)) : jn_Mb σ b g := ⟨h.1, h.2.2.2⟩
theorem kg_MT_fr (h : kg_MT σ 0 g y) (hf : jF W σ τ) (hg : 0 ≤ g 0 0 ∧ g 0 0 ≤ 7) (hn : ∀ c i, kW_m0 c i → ¬ W c i) : kg_MT τ 0 g y := by
  obtain ⟨h1, h2, h3⟩ := h
  refine ⟨(hf.1 _ _ (hn _ _ (by unfold kW_m0; omega))).trans h1, fun k k0 k1 => (hf.1 _ _ (hn _ _ (by unfold kW_m0; omega))).trans (h2 k k0 k1), ?_⟩
  rcases h3 with ⟨q1, q2, q3⟩ | ⟨q1, q2, q3, q4, q5, q6⟩
  · exact Or.inl ⟨q1, (hf.1 _ _ (hn _ _ (by unfold kW_m0; omega))).trans q2, (hf.1 _ _ (hn _ _ (by unfold kW_m0; omega))).trans q3⟩
  · have hI := q3.1.1
    refine Or.inr ⟨q1, q2, q3, ⟨(hf.1 _ _ (hn _ _ (by unfold kW_m0; omega))).trans q4.1, fun j j0 j1 => ⟨fun i hi => (hf.1 _ _ (hn _ _ (by unfold kW_m0; omega))).trans ((q4.2.1 j j0 j1).1 i hi), fun i hi => (hf.1 _ _ (hn _ _ (by unfold kW_m0; omega))).trans ((q4.2.1 j j0 j1).2.1 i hi), (hf.1 _ _ (hn _ _ (by unfold kW_m0; omega))).trans (q4.2.1 j j0 j1).2.2⟩, fun s x s0 s1 x0 x1 => (hf.1 _ _ (hn _ _ (by unfold kW_m0; omega))).trans (q4.2.2 s x s0 s1 x0 x1)⟩, fun s i s0 s1 i0 i1 => (hf.1 _ _ (hn _ _ (by unfold kW_m0; omega))).trans (q5 s i s0 s1 i0 i1), fun s t s0 s1 t0 t1 => (hf.1 _ _ (hn _ _ (by unfold kW_m0; omega))).trans (q6.1 s t s0 s1 t0 t1), (hf.1 _ _ (hn _ _ (by unfold kW_m0; omega))).trans q6.2.1, fun c0 j hj hb => (hf.1 _ _ (hn _ _ (by unfold kW_m0; omega))).trans (q6.2.2 c0 j hj hb)⟩
theorem ku_RM_fr (h : ku_RM σ g) (hf : jF W σ τ) (hn : ∀ i, ¬ W (92 + 26) i ∧ ¬ W (92 + 28) i) : ku_RM τ g := by
  have e : ∀ i, τ.1 (92 + 28) i = σ.1 (92 + 28) i := fun i => hf.1 _ _ (hn i).2
  rcases h with ⟨q1, q2⟩ | ⟨q1, q2, q3, q4, a, q5, q6⟩
  · exact Or.inl ⟨q1, fun i i0 i1 => (e i).trans (q2 i i0 i1)⟩
  · exact Or.inr ⟨q1, q2, q3, by simpa only [e] using q4, a, q5, fun m hm => (hf.1 _ _ (hn _).1).trans (q6 m hm)⟩
theorem ku_XM_fr (h : ka_XM σ g) (hf : jF W σ τ) (hn : ∀ c i, 92 + 29 ≤ c → c ≤ 92 + 32 → ¬ W c i) : ka_XM τ g := by
  have e : ∀ c, 92 + 29 ≤ c → c ≤ 92 + 32 → τ.1 c = σ.1 c := fun c c1 c2 => funext fun i => hf.1 _ _ (hn c i c1 c2)
  unfold ka_XM at h ⊢
  rw [e (92 + 29) (by omega) (by omega), e (92 + 30) (by omega) (by omega), e (92 + 31) (by omega) (by omega), e (92 + 32) (by omega) (by omega)]
  exact h
theorem ku_MP_fr (h : ku_MP σ g) (hf : jF W σ τ) (h0 : ¬ W 92 52) (hn : ∀ c i, 92 + 34 ≤ c → c ≤ 92 + 36 → ¬ W c i) : ku_MP τ g := by
  have e : ∀ c, 92 + 34 ≤ c → c ≤ 92 + 36 → τ.1 c = σ.1 c := fun c c1 c2 => funext fun i => hf.1 _ _ (hn c i c1 c2)
  unfold ku_MP kb_MM at h ⊢
  rw [e (92 + 34) (by omega) (by omega), e (92 + 35) (by omega) (by omega), e (92 + 36) (by omega) (by omega), hf.1 _ _ h0]
  exact h
theorem kt_GM_fr0 (h : kt_GM σ 0 g (g 0 2)) (hok : kt_ok g) (hf : jF W σ τ) (hn : ∀ c i, ((92 + 3 ≤ c ∧ c ≤ 92 + 5 ∧ i = 0) ∨ ((c = 92 + 6 ∨ c = 92 + 8 ∨ c = 92 + 9) ∧ 0 ≤ i ∧ i < 7) ∨ (c = 92 + 7 ∧ 0 ≤ i ∧ i < 5) ∨ ((c = 92 + 10 ∨ c = 92 + 11) ∧ 0 ≤ i ∧ i < 13) ∨ (c = 92 + 12 ∧ 0 ≤ i ∧ i < 52)) → ¬ W c i) : kt_GM τ 0 g (g 0 2) := by
  have hw := hok.1.1.1
  obtain ⟨⟨a0, a1, a2, a3⟩, ⟨b1, b2⟩, c, d⟩ := h
  refine ⟨⟨a0, (hf.1 _ _ (hn _ _ (by omega))).trans a1, (hf.1 _ _ (hn _ _ (by omega))).trans a2, (hf.1 _ _ (hn _ _ (by omega))).trans a3⟩, ⟨fun t t0 t1 => (hf.1 _ _ (hn _ _ (by omega))).trans (b1 t t0 t1), fun t t0 t1 => (hf.1 _ _ (hn _ _ (by omega))).trans (b2 t t0 t1)⟩, fun t t0 t1 => ⟨(hf.1 _ _ (hn _ _ (by omega))).trans (c t t0 t1).1, (hf.1 _ _ (hn _ _ (by omega))).trans (c t t0 t1).2⟩, fun r r0 r1 => ⟨(hf.1 _ _ (hn _ _ (by omega))).trans (d r r0 r1).1, (hf.1 _ _ (hn _ _ (by omega))).trans (d r r0 r1).2.1, fun e e0 e1 => ?_⟩⟩
  have := (hok.1.1.2.1 r r0 r1).2.1
  exact (hf.1 _ _ (hn _ _ (by omega))).trans ((d r r0 r1).2.2 e e0 e1)
theorem jm_copies (hs : jg_sh a = (20, n0)) (hx : 0 ≤ x ∧ 2 * x ≤ n0 ∧ n0 ≤ 1000) (hk : ∀ τ, jF (fun c i => c = a ∧ 0 ≤ i ∧ i < x) σ τ → (∀ i, 0 ≤ i → i < x → τ.1 a i = σ.1 a (x + i)) → KV τ) : jg_CV w 0 mm_X12_copies [.ref a, .int (.ofInt x)] σ KV := by
  have hloop : ∀ (m : Nat) (k : Int) (τ : jg_M), k + m = x → 0 ≤ k → jF (fun c i => c = a ∧ 0 ≤ i ∧ i < k) σ τ → (∀ i, 0 ≤ i → i < k → τ.1 a i = σ.1 a (x + i)) → jg_GV w 0 mm_X12_copies 2 [.ref a, .int (.ofInt x), .int (.ofInt k)] τ KV := by
    intro m
    induction m with
    | zero =>
      intro k τ hkm k0 hf hz
      refine jb_X12_copies_2 hs ?_
      rw [jr_wr (show jr x by omega), jr_wr (show jr k by omega)]
      exact jn_ite (fun _ => hk τ (jF_mono hf (fun c i q => by omega)) (fun i i0 i1 => hz i i0 (by omega))) (fun h => by omega)
    | succ m ih =>
      intro k τ hkm k0 hf hz
      refine jb_X12_copies_2 hs ?_
      rw [jr_wr (show jr x by omega), jr_wr (show jr k by omega), jr_wr (show jr (x + k) by omega)]
      refine jn_ite (fun h => by omega) (fun _ => ⟨by omega, by omega, ?_⟩)
      intro τ2 e2
      refine ih (k + 1) τ2 (by omega) (by omega) ?_ (fun i i0 i1 => ?_)
      · rw [e2]
        exact jF_toI (jF_mono hf (fun c i q => by omega)) ⟨rfl, by omega, by omega⟩
      · by_cases hik : i = k
        · rw [hik, e2, js_Is, hf.1 _ _ (by omega)]
        · rw [e2, js_In (Or.inr hik)]
          exact hz i i0 (by omega)
  exact jb_X12_copies_0 hs (hloop x.toNat 0 σ (by omega) (by omega) jF_rf (fun i i0 i1 => by omega))
/-- no STATES: the model -/
theorem jm_layAfterZ (hG : jn_Mb σ 0 g) (ho : g 0 4 = -1) (hst : g 0 3 = 0) (hn : σ.1 (92 + 13) 0 = 0)
    (hk : ∀ τ, jF jW_lf σ τ → jn_Mg τ 0 g → (∀ i, 0 ≤ i → i < 5 → τ.1 (92 + 28) i = 0) → KV τ) : jg_CV w 4 mm_X12_layAfter [.ref 92] σ KV := by
  refine jm_layAfterE hG ho hst (fun τ1 a1 a2 a3 a4 => ?_)
  have hn1 : τ1.1 (92 + 13) 0 = 0 := (a1.1 _ _ (by unfold jW_lf; omega)).trans hn
  have hz0 : ∀ (n i : Nat) (τ : jg_M), i + n = 1920 → jF (fun a _ => a = 92 + 27) τ1 τ → (∀ j : Int, 0 ≤ j → j < i → τ.1 (92 + 27) j = 0) → jg_GV w 3 mm_X12_layIncludes 2 [.ref 92, .int (.ofInt (i : Int)), mj_U, mj_U, mj_U, mj_U, mj_U, mj_U] τ (fun υ => jg_GV w 4 mm_X12_layAfter 46 [.ref 92, .int (.ofInt 0), mj_U, mj_U] υ KV) := by
    intro n
    induction n with
    | zero =>
      intro i τ hi hFτ hj
      have hn2 : τ.1 (92 + 13) 0 = 0 := (hFτ.1 _ _ (by omega)).trans hn1
      refine jb_X12_layIncludes_2 rfl ?_
      rw [jr_wr (by omega)]
      refine jn_ite (fun _ => jb_X12_layIncludes_24 rfl ?_) (fun h => by omega)
      rw [hn2, show jg_wr 0 = 0 from rfl]
      refine jn_ite (fun _ => jb_X12_layAfter_46 rfl ?_) (fun h => by omega)
      rw [hn2, show jg_wr (5 * 0) = 0 from rfl, show jg_wr 0 = 0 from rfl]
      refine jn_ite (fun _ => jb_X12_layAfter_271 rfl ?_) (fun h => by omega)
      rw [show jg_wr 1 = 1 from rfl]
      refine jn_ite (fun h => by omega) (fun _ => jb_X12_layAfter_279 rfl ?_)
      rw [hn2, show jg_wr (5 * 0) = 0 from rfl, show jg_wr 0 = 0 from rfl]
      refine jn_ite (fun _ => jb_X12_layAfter_271 rfl ?_) (fun h => by omega)
      rw [show jg_wr 0 = 0 from rfl]
      refine jn_ite (fun _ => ?_) (fun h => absurd rfl h)
      refine jm_layRings (N := 0) (R := fun _ _ => False) (fun _ _ h => h.elim) hn2 (by omega) (fun m j hm hj8 => ⟨0, hj _ (by omega) (by omega), by omega, fun b hb => by rw [Nat.zero_testBit]; exact ⟨fun q => (by cases q), fun q => q.elim⟩⟩) ((hFτ.1 _ _ (by omega)).trans (a4 4 (by omega) (by omega))) (fun τ4 d1 d2 => ?_)
      refine hk τ4 (jF_tr a1 (jF_tr (jF_mono hFτ (fun a i h => by unfold jW_lf; omega)) (jF_mono d1 (fun a i h => by unfold jW_ri at h; unfold jW_lf; omega)))) (jn_Mg_fr (jn_Mg_fr a2 hFτ (by omega) (fun k i hk => by omega)) d1 (by unfold jW_ri; omega) (fun k i hk => by unfold jW_ri; omega)) (fun i i1 i2 => ?_)
      by_cases h4 : i = 4
      · rw [h4, d2]; rfl
      · rw [d1.1 _ _ (by unfold jW_ri; omega), hFτ.1 _ _ (by omega)]
        exact a4 i i1 i2
    | succ n ih =>
      intro i τ hi hFτ hj
      refine jb_X12_layIncludes_2 rfl ?_
      rw [jr_wr (by omega)]
      refine jn_ite (fun h => by omega) (fun _ => ⟨by omega, ?_⟩)
      rintro _ rfl
      rw [show (i : Int) + 1 = ((i + 1 : Nat) : Int) by omega]
      refine ih (i + 1) _ (by omega) (jF_tr hFτ (jF_I rfl)) (fun j j0 j1 => ?_)
      by_cases hji : j = i
      · rw [hji, js_Is]
      · rw [js_In (Or.inr (by omega))]
        exact hj j j0 (by omega)
  exact jb_X12_layIncludes_0 rfl (hz0 1920 0 τ1 rfl jF_rf (fun j j0 j1 => by omega))
theorem jm_copyAll (hG : kt_GM σ 1 g (g 0 2)) (hok : kt_ok g) (hk : ∀ τ, jF (fun c i => 92 + 3 ≤ c ∧ c ≤ 92 + 12) σ τ → kt_GM τ 0 g (g 0 2) → KV τ) : jg_CV w 0 mm_X12_copies [.ref (92 + 3), .int (.ofInt 1)] σ (fun (m1 : jg_M) => jg_CV w 0 mm_X12_copies [.ref (92 + 4), .int (.ofInt 1)] m1 (fun (m2 : jg_M) => jg_CV w 0 mm_X12_copies [.ref (92 + 5), .int (.ofInt 1)] m2 (fun (m3 : jg_M) => jg_CV w 0 mm_X12_copies [.ref (92 + 6), .int (.ofInt 7)] m3 (fun (m4 : jg_M) => jg_CV w 0 mm_X12_copies [.ref (92 + 7), .int (.ofInt 5)] m4 (fun (m5 : jg_M) => jg_CV w 0 mm_X12_copies [.ref (92 + 8), .int (.ofInt 7)] m5 (fun (m6 : jg_M) => jg_CV w 0 mm_X12_copies [.ref (92 + 9), .int (.ofInt 7)] m6 (fun (m7 : jg_M) => jg_CV w 0 mm_X12_copies [.ref (92 + 10), .int (.ofInt 13)] m7 (fun (m8 : jg_M) => jg_CV w 0 mm_X12_copies [.ref (92 + 11), .int (.ofInt 13)] m8 (fun (m9 : jg_M) => jg_CV w 0 mm_X12_copies [.ref (92 + 12), .int (.ofInt 52)] m9 (fun (m10 : jg_M) => KV m10)))))))))) := by
  have hw := hok.1.1.1
  refine jm_copies (x := 1) rfl ⟨by decide, by decide, by decide⟩ (fun m1 f1 z1 => ?_)
  refine jm_copies (x := 1) rfl ⟨by decide, by decide, by decide⟩ (fun m2 f2 z2 => ?_)
  refine jm_copies (x := 1) rfl ⟨by decide, by decide, by decide⟩ (fun m3 f3 z3 => ?_)
  refine jm_copies (x := 7) rfl ⟨by decide, by decide, by decide⟩ (fun m4 f4 z4 => ?_)
  refine jm_copies (x := 5) rfl ⟨by decide, by decide, by decide⟩ (fun m5 f5 z5 => ?_)
  refine jm_copies (x := 7) rfl ⟨by decide, by decide, by decide⟩ (fun m6 f6 z6 => ?_)
  refine jm_copies (x := 7) rfl ⟨by decide, by decide, by decide⟩ (fun m7 f7 z7 => ?_)
  refine jm_copies (x := 13) rfl ⟨by decide, by decide, by decide⟩ (fun m8 f8 z8 => ?_)
  refine jm_copies (x := 13) rfl ⟨by decide, by decide, by decide⟩ (fun m9 f9 z9 => ?_)
  refine jm_copies (x := 52) rfl ⟨by decide, by decide, by decide⟩ (fun m10 f10 z10 => ?_)
  have F1 : jF (fun c i => 92 + 3 ≤ c ∧ c ≤ 92 + 3) σ m1 := jF_tr jF_rf (jF_mono f1 (fun c i q => by omega))
  have F2 : jF (fun c i => 92 + 3 ≤ c ∧ c ≤ 92 + 4) σ m2 := jF_tr (jF_mono F1 (fun c i q => by omega)) (jF_mono f2 (fun c i q => by omega))
  have F3 : jF (fun c i => 92 + 3 ≤ c ∧ c ≤ 92 + 5) σ m3 := jF_tr (jF_mono F2 (fun c i q => by omega)) (jF_mono f3 (fun c i q => by omega))
  have F4 : jF (fun c i => 92 + 3 ≤ c ∧ c ≤ 92 + 6) σ m4 := jF_tr (jF_mono F3 (fun c i q => by omega)) (jF_mono f4 (fun c i q => by omega))
  have F5 : jF (fun c i => 92 + 3 ≤ c ∧ c ≤ 92 + 7) σ m5 := jF_tr (jF_mono F4 (fun c i q => by omega)) (jF_mono f5 (fun c i q => by omega))
  have F6 : jF (fun c i => 92 + 3 ≤ c ∧ c ≤ 92 + 8) σ m6 := jF_tr (jF_mono F5 (fun c i q => by omega)) (jF_mono f6 (fun c i q => by omega))
  have F7 : jF (fun c i => 92 + 3 ≤ c ∧ c ≤ 92 + 9) σ m7 := jF_tr (jF_mono F6 (fun c i q => by omega)) (jF_mono f7 (fun c i q => by omega))
  have F8 : jF (fun c i => 92 + 3 ≤ c ∧ c ≤ 92 + 10) σ m8 := jF_tr (jF_mono F7 (fun c i q => by omega)) (jF_mono f8 (fun c i q => by omega))
  have F9 : jF (fun c i => 92 + 3 ≤ c ∧ c ≤ 92 + 11) σ m9 := jF_tr (jF_mono F8 (fun c i q => by omega)) (jF_mono f9 (fun c i q => by omega))
  have F10 : jF (fun c i => 92 + 3 ≤ c ∧ c ≤ 92 + 12) σ m10 := jF_tr (jF_mono F9 (fun c i q => by omega)) (jF_mono f10 (fun c i q => by omega))
  have L10 : jF (fun c i => 92 + 12 < c) m10 m10 := jF_rf
  have L9 : jF (fun c i => 92 + 11 < c) m9 m10 := jF_tr (jF_mono f10 (fun c i q => by omega)) (jF_mono L10 (fun c i q => by omega))
  have L8 : jF (fun c i => 92 + 10 < c) m8 m10 := jF_tr (jF_mono f9 (fun c i q => by omega)) (jF_mono L9 (fun c i q => by omega))
  have L7 : jF (fun c i => 92 + 9 < c) m7 m10 := jF_tr (jF_mono f8 (fun c i q => by omega)) (jF_mono L8 (fun c i q => by omega))
  have L6 : jF (fun c i => 92 + 8 < c) m6 m10 := jF_tr (jF_mono f7 (fun c i q => by omega)) (jF_mono L7 (fun c i q => by omega))
  have L5 : jF (fun c i => 92 + 7 < c) m5 m10 := jF_tr (jF_mono f6 (fun c i q => by omega)) (jF_mono L6 (fun c i q => by omega))
  have L4 : jF (fun c i => 92 + 6 < c) m4 m10 := jF_tr (jF_mono f5 (fun c i q => by omega)) (jF_mono L5 (fun c i q => by omega))
  have L3 : jF (fun c i => 92 + 5 < c) m3 m10 := jF_tr (jF_mono f4 (fun c i q => by omega)) (jF_mono L4 (fun c i q => by omega))
  have L2 : jF (fun c i => 92 + 4 < c) m2 m10 := jF_tr (jF_mono f3 (fun c i q => by omega)) (jF_mono L3 (fun c i q => by omega))
  have L1 : jF (fun c i => 92 + 3 < c) m1 m10 := jF_tr (jF_mono f2 (fun c i q => by omega)) (jF_mono L2 (fun c i q => by omega))
  have e3 : ∀ i, 0 ≤ i → i < 1 → m10.1 (92 + 3) i = σ.1 (92 + 3) (1 + i) := fun i i0 i1 => by rw [L1.1 _ _ (by omega), z1 i i0 i1]
  have e4 : ∀ i, 0 ≤ i → i < 1 → m10.1 (92 + 4) i = σ.1 (92 + 4) (1 + i) := fun i i0 i1 => by rw [L2.1 _ _ (by omega), z2 i i0 i1, F1.1 _ _ (by omega)]
  have e5 : ∀ i, 0 ≤ i → i < 1 → m10.1 (92 + 5) i = σ.1 (92 + 5) (1 + i) := fun i i0 i1 => by rw [L3.1 _ _ (by omega), z3 i i0 i1, F2.1 _ _ (by omega)]
  have e6 : ∀ i, 0 ≤ i → i < 7 → m10.1 (92 + 6) i = σ.1 (92 + 6) (7 + i) := fun i i0 i1 => by rw [L4.1 _ _ (by omega), z4 i i0 i1, F3.1 _ _ (by omega)]
  have e7 : ∀ i, 0 ≤ i → i < 5 → m10.1 (92 + 7) i = σ.1 (92 + 7) (5 + i) := fun i i0 i1 => by rw [L5.1 _ _ (by omega), z5 i i0 i1, F4.1 _ _ (by omega)]
  have e8 : ∀ i, 0 ≤ i → i < 7 → m10.1 (92 + 8) i = σ.1 (92 + 8) (7 + i) := fun i i0 i1 => by rw [L6.1 _ _ (by omega), z6 i i0 i1, F5.1 _ _ (by omega)]
  have e9 : ∀ i, 0 ≤ i → i < 7 → m10.1 (92 + 9) i = σ.1 (92 + 9) (7 + i) := fun i i0 i1 => by rw [L7.1 _ _ (by omega), z7 i i0 i1, F6.1 _ _ (by omega)]
  have e10 : ∀ i, 0 ≤ i → i < 13 → m10.1 (92 + 10) i = σ.1 (92 + 10) (13 + i) := fun i i0 i1 => by rw [L8.1 _ _ (by omega), z8 i i0 i1, F7.1 _ _ (by omega)]
  have e11 : ∀ i, 0 ≤ i → i < 13 → m10.1 (92 + 11) i = σ.1 (92 + 11) (13 + i) := fun i i0 i1 => by rw [L9.1 _ _ (by omega), z9 i i0 i1, F8.1 _ _ (by omega)]
  have e12 : ∀ i, 0 ≤ i → i < 52 → m10.1 (92 + 12) i = σ.1 (92 + 12) (52 + i) := fun i i0 i1 => by rw [L10.1 _ _ (by omega), z10 i i0 i1, F9.1 _ _ (by omega)]
  obtain ⟨⟨a0, a1, a2, a3⟩, ⟨b1, b2⟩, c, d⟩ := hG
  refine hk m10 F10 ⟨⟨⟨by decide, by decide⟩, (e3 0 (by decide) (by decide)).trans a1, (e4 0 (by decide) (by decide)).trans a2, (e5 0 (by decide) (by decide)).trans a3⟩, ⟨fun t t0 t1 => ?_, fun t t0 t1 => ?_⟩, fun t t0 t1 => ⟨?_, ?_⟩, fun r r0 r1 => ⟨?_, ?_, fun j j0 j1 => ?_⟩⟩
  · rw [e6 _ (by omega) (by omega), show 7 + (7 * (0 : Int) + t) = 7 * 1 + t by omega]; exact b1 t t0 t1
  · rw [e7 _ (by omega) (by omega), show 5 + (5 * (0 : Int) + t) = 5 * 1 + t by omega]; exact b2 t t0 t1
  · rw [e8 _ (by omega) (by omega), show 7 + (7 * (0 : Int) + t) = 7 * 1 + t by omega]; exact (c t t0 t1).1
  · rw [e9 _ (by omega) (by omega), show 7 + (7 * (0 : Int) + t) = 7 * 1 + t by omega]; exact (c t t0 t1).2
  · rw [e10 _ (by omega) (by omega), show 13 + (13 * (0 : Int) + r) = 13 * 1 + r by omega]; exact (d r r0 r1).1
  · rw [e11 _ (by omega) (by omega), show 13 + (13 * (0 : Int) + r) = 13 * 1 + r by omega]; exact (d r r0 r1).2.1
  · have := (hok.1.1.2.1 r r0 r1).2.1
    rw [e12 _ (by omega) (by omega), show 52 + (4 * (13 * (0 : Int) + r) + j) = 4 * (13 * 1 + r) + j by omega]; exact (d r r0 r1).2.2 j j0 j1
end KUC
