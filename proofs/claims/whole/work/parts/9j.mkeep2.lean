/-! A TEXT taken, in the reference: all tables -/
section KUD
variable {w : Nat} {σ σ0 τ : jg_M} {a n0 n p k : Nat} {B : Nat → Int} {g g' : gM} {y : Int} {KV : jg_M → Prop} {KI : Int → jg_M → Prop} {x v e : Int} {W : Nat → Int → Prop}
theorem jm_layTablesN {a c : Int} (hG : kt_GM σ a g (g 0 2)) (hok : kt_ok g) (ha : 0 ≤ a ∧ a ≤ 1) (hc2 : 0 ≤ c ∧ c ≤ 1)
    (k0 : 0 < g 0 1 → jn_all g = none → ∀ τ, jF (jW_lt c) σ τ → KI 0 τ) (k1 : (g 0 1 = 0 ∨ (0 < g 0 1 ∧ ∃ S, jn_all g = some S)) → ∀ τ, jF (jW_lt c) σ τ → jn_MT τ a c g → KI 1 τ) : jg_CI w 5 mm_X12_layTables [.ref 92, .int (.ofInt c), .int (.ofInt a), .int (.ofInt (-1))] σ KI := by
  have hw := hok.1.1.1
  have := jm_layTables (w := w) (KI := KI) (kt_GM_Mb hG) hok.1.1 ha hc2 hok.1.2.1 (fun t t0 t1 => hG.2.2.1 t t0 (by omega)) k0 k1
  rw [hok.1.2.2] at this
  exact this
theorem jm_layFollowN {e : Nat} {f : Int → Nat} (hG : kt_GM σ 0 g (g 0 2)) (hok : kt_ok g) (he : σ.1 (92 + 20) 0 = (e : Int)) (he2 : e < 32) (hf : ∀ k, 0 ≤ k → k < 5 → σ.1 (92 + 21) (5 * 0 + k) = (f k : Int)) (hf2 : ∀ k, 0 ≤ k → k < 5 → f k < 256)
    (hk : ∀ τ, jF jW_fo σ τ → KV τ) : jg_CV w 3 mm_X12_layFollow [.ref 92, .int (.ofInt 0), .int (.ofInt 0), .int (.ofInt (-1)), .int (.ofInt 0)] σ KV := by
  have := jm_layFollow (w := w) (K := KV) (b := 0) (c := 0) (kt_GM_Mb hG) hok.1.1 ⟨by decide, by decide⟩ he he2 hf hf2 (fun τ q h _ _ _ _ _ _ => hk τ h)
  rw [hok.1.2.2, hok.1.2.1] at this
  exact this
theorem jm_keepText (hok : kt_ok g) (hG : kt_GM σ 1 g (g 0 2)) (hq : g 0 1 = 0 ∨ (0 < g 0 1 ∧ ∃ S, jn_all g = some S))
    (hk : ∀ τ, jF kW_kt σ τ → ku_MG τ g → kr_No τ (kr_I g) → (τ.1 92 59 = 0 ∧ τ.1 92 60 = 0) → (τ.1 92 65 = 0 ∧ τ.1 92 66 = -1 ∧ τ.1 92 70 = 0 ∧ τ.1 92 72 = 0) → KV τ) : jg_CV w 6 mm_X12_keepText [.ref 92] σ KV := by
  have hW := hok.1.1
  have hw := hW.1
  refine jb_X12_keepText_0 rfl (jm_copyAll hG hok (fun τ1 f1 hG1 => jm_layTablesN hG1 hok ⟨by decide, by decide⟩ ⟨by decide, by decide⟩ (fun p0 p1 => ?_) (fun _ τ2 f2 hMT => ?_)))
  · rcases hq with h | ⟨_, S, h⟩
    · omega
    · rw [p1] at h; cases h
  have hkg2 := kg_MT_of hW hMT
  have hG2 : kt_GM τ2 0 g (g 0 2) := kt_GM_fr hG1 f2 (fun c i c1 c2 q => by unfold jW_lt jW_ef jW_ls jW_ac at q; omega)
  obtain ⟨_, _, e, f, h1, _⟩ := hMT
  have hEF := (kg_EF_ok hW h1).1
  refine jm_layFollowN hG2 hok hkg2.1 hEF.1.2.2.1 hkg2.2.1 hEF.1.2.2.2.1 (fun τ3 f3 => ?_)
  have hkg3 := kg_MT_fr hkg2 f3 ⟨by omega, by omega⟩ (fun c i q1 q2 => by unfold kW_m0 at q1; unfold jW_fo at q2; omega)
  have hG3 : kt_GM τ3 0 g (g 0 2) := kt_GM_fr hG2 f3 (fun c i c1 c2 q => by unfold jW_fo at q; omega)
  have hA : ∀ K : jg_M → Prop, (∀ τ4, jF jW_lf τ3 τ4 → jn_Mg τ4 0 g → ku_RM τ4 g → K τ4) → jg_CV w 4 mm_X12_layAfter [.ref 92] τ3 K := by
    intro K hK
    rcases hkg3.2.2 with ⟨q1, q2, q3⟩ | ⟨q1, q2, q3, q4, q5, q6⟩
    · exact jm_layAfterZ (kt_GM_Mb hG3) hok.1.2.2 hok.1.2.1 q2 (fun τ4 f4 m4 z4 => hK τ4 f4 m4 (Or.inl ⟨q1, z4⟩))
    · exact jm_layAfter (kt_GM_Mb hG3) hW q1 hok.1.2.2 hok.1.2.1 hkg3.1 hEF.1.2.2.1 q4 q3 (fun τ4 a f4 m4 c4 a4 l4 => hK τ4 f4 m4.1 (Or.inr ⟨q1, q2, q3, c4, a, l4, a4⟩))
  refine hA _ (fun τ4 f4 hMg4 hRM4 => ?_)
  have hkg4 := kg_MT_fr hkg3 f4 ⟨by omega, by omega⟩ (fun c i q1 q2 => by unfold kW_m0 at q1; unfold jW_lf at q2; omega)
  have hG4 : kt_GM τ4 0 g (g 0 2) := kt_GM_fr hG3 f4 (fun c i c1 c2 q => by unfold jW_lf at q; omega)
  have hS4 : (g 0 1 = 0 ∧ τ4.1 (92 + 13) 0 = 0) ∨ (0 < g 0 1 ∧ ∃ S, jn_all g = some S ∧ jn_FP g S ∧ ka_MM τ4 S) := by
    rcases hkg4.2.2 with ⟨q1, q2, q3⟩ | ⟨q1, q2, q3, q4, q5, q6⟩
    · exact Or.inl ⟨q1, q2⟩
    · refine Or.inr ⟨q1, _, q2, q3, q4.1, fun s x s0 s1 x0 x1 => ?_⟩
      have := q4.2.2 s x s0 s1 x0 x1
      rw [show 12 * (48 * (0 : Int) + s) + x = 12 * s + x by omega] at this
      exact this
  refine jm_layShortest hMg4 hW hS4 (fun τ5 f5 hXM5 => ?_)
  have hkg5 := kg_MT_fr hkg4 f5 ⟨by omega, by omega⟩ (fun c i q1 q2 => by unfold kW_m0 at q1; unfold kW_xm at q2; omega)
  have hG5 : kt_GM τ5 0 g (g 0 2) := kt_GM_fr hG4 f5 (fun c i c1 c2 q => by unfold kW_xm at q; omega)
  have hP : ∀ K : jg_M → Prop, (∀ τ6, jF kW_pm τ5 τ6 → ku_MP τ6 g → K τ6) → jg_CV w 2 mm_X12_layPacked [.ref 92] τ5 K := by
    intro K hK
    unfold ku_MP ku_P at hK
    rcases hkg5.2.2 with ⟨q1, q2, q3⟩ | ⟨q1, q2, q3, q4, q5, q6⟩
    · rw [if_pos q1] at hK
      exact jm_layPacked0 q2 (fun τ6 f6 m6 => hK τ6 f6 ⟨m6.1, fun s hs => absurd hs.1 (by omega), m6.2.2⟩)
    · rw [if_neg (by omega)] at hK
      exact jm_layPacked hW hG5.1.2.1 q4.1 q3 q6 (fun τ6 f6 m6 => hK τ6 f6 ⟨m6.1, fun s hs => m6.2.1 s hs.2, m6.2.2⟩)
  refine hP _ (fun τ6 f6 hMP6 => ?_)
  have hkg6 := kg_MT_fr hkg5 f6 ⟨by omega, by omega⟩ (fun c i q1 q2 => by unfold kW_m0 at q1; unfold kW_pm at q2; omega)
  have hG6 : kt_GM τ6 0 g (g 0 2) := kt_GM_fr hG5 f6 (fun c i c1 c2 q => by unfold kW_pm at q; omega)
  have hRM6 : ku_RM τ6 g := ku_RM_fr (ku_RM_fr hRM4 f5 (fun i => by unfold kW_xm; omega)) f6 (fun i => by unfold kW_pm; omega)
  have hXM6 : ka_XM τ6 g := ku_XM_fr hXM5 f6 (fun c i c1 c2 q => by unfold kW_pm at q; omega)
  have F6 : jF kW_kt σ τ6 := jF_tr (jF_mono f1 (fun c i q => by unfold kW_kt; omega)) (jF_tr (jF_mono f2 (fun c i q => by unfold jW_lt jW_ef jW_ls jW_ac at q; unfold kW_kt; omega)) (jF_tr (jF_mono f3 (fun c i q => by unfold jW_fo at q; unfold kW_kt; omega)) (jF_tr (jF_mono f4 (fun c i q => by unfold jW_lf at q; unfold kW_kt; omega)) (jF_tr (jF_mono f5 (fun c i q => by unfold kW_xm at q; unfold kW_kt; omega)) (jF_mono f6 (fun c i q => by unfold kW_pm at q; unfold kW_kt; omega))))))
  have hfin : ∀ (b : Int) (m1 m2 m3 m4 m5 m6 m7 m8 : jg_M), b = ((kr_I g).1 : Nat) → m1 = jg_sI τ6 92 59 0 → m2 = jg_sI m1 92 60 0 → m3 = jg_sI m2 92 58 b → m4 = jg_sI m3 (92 + 38) 0 0 → m5 = jg_sI m4 92 65 0 → m6 = jg_sI m5 92 66 (-1) → m7 = jg_sI m6 92 70 0 → m8 = jg_sI m7 92 72 0 → KV m8 := by
    intro b m1 m2 m3 m4 m5 m6 m7 m8 hb e1 e2 e3 e4 e5 e6 e7 e8
    have ff : jF (fun c i => (c = 92 ∧ ((58 ≤ i ∧ i ≤ 60) ∨ i = 65 ∨ i = 66 ∨ i = 70 ∨ i = 72)) ∨ c = 92 + 38) τ6 m8 := by
      rw [e8, e7, e6, e5, e4, e3, e2, e1]
      exact jF_toI (jF_toI (jF_toI (jF_toI (jF_toI (jF_toI (jF_toI (jF_I (by omega)) (by omega)) (by omega)) (by omega)) (by omega)) (by omega)) (by omega)) (by omega)
    have hI : (kr_I g).1 ≤ 1 ∧ (kr_I g).2 = fun _ => 0 := by unfold kr_I; split <;> exact ⟨by decide, rfl⟩
    refine hk m8 (jF_tr F6 (jF_mono ff (fun c i q => by unfold kW_kt; omega))) ⟨⟨hok, kt_GM_fr hG6 ff (fun c i c1 c2 q => by omega)⟩, kg_MT_fr hkg6 ff ⟨by omega, by omega⟩ (fun c i q1 q2 => by unfold kW_m0 at q1; omega), ku_RM_fr hRM6 ff (fun i => by omega), ku_XM_fr hXM6 ff (fun c i c1 c2 q => by omega), ku_MP_fr hMP6 ff (by omega) (fun c i c1 c2 q => by omega)⟩ ⟨?_, fun i hi => ?_⟩ ⟨?_, ?_⟩ ⟨?_, ?_, ?_, ?_⟩
    · rw [e8, js_In (Or.inr (by decide)), e7, js_In (Or.inr (by decide)), e6, js_In (Or.inr (by decide)), e5, js_In (Or.inr (by decide)), e4, js_In (Or.inl (by decide)), e3, js_Is, hb]
    · rw [hI.2, show i = 0 by omega, e8, js_In (Or.inl (by decide)), e7, js_In (Or.inl (by decide)), e6, js_In (Or.inl (by decide)), e5, js_In (Or.inl (by decide)), e4]
      exact js_Is
    · rw [e8, js_In (Or.inr (by decide)), e7, js_In (Or.inr (by decide)), e6, js_In (Or.inr (by decide)), e5, js_In (Or.inr (by decide)), e4, js_In (Or.inl (by decide)), e3, js_In (Or.inr (by decide)), e2, js_In (Or.inr (by decide)), e1, js_Is]
    · rw [e8, js_In (Or.inr (by decide)), e7, js_In (Or.inr (by decide)), e6, js_In (Or.inr (by decide)), e5, js_In (Or.inr (by decide)), e4, js_In (Or.inl (by decide)), e3, js_In (Or.inr (by decide)), e2, js_Is]
    · rw [e8, js_In (Or.inr (by decide)), e7, js_In (Or.inr (by decide)), e6, js_In (Or.inr (by decide)), e5, js_Is]
    · rw [e8, js_In (Or.inr (by decide)), e7, js_In (Or.inr (by decide)), e6, js_Is]
    · rw [e8, js_In (Or.inr (by decide)), e7, js_Is]
    · rw [e8, js_Is]
  intro m1 e1 m2 e2
  have v13 : m2.1 (92 + 13) 0 = τ6.1 (92 + 13) 0 := by rw [e2, js_In (Or.inl (by decide)), e1, js_In (Or.inl (by decide))]
  rw [v13]
  rcases hkg6.2.2 with ⟨q1, q2, q3⟩ | ⟨q1, q2, q3, q4, q5, q6⟩
  · rw [q2]
    refine jn_ite (fun _ => ?_) (fun h => absurd (by decide) h)
    intro m3 e3 m4 e4 m5 e5 m6 e6 m7 e7 m8 e8
    exact hfin 0 m1 m2 m3 m4 m5 m6 m7 m8 (by unfold kr_I; rw [if_pos q1]; rfl) e1 e2 e3 e4 e5 e6 e7 e8
  · have hI := q3.1.1
    rw [q4.1, jr_wr (show jr (kg_S g).1 by omega)]
    refine jn_ite (fun h => by omega) (fun _ => ?_)
    intro m3 e3 m4 e4 m5 e5 m6 e6 m7 e7 m8 e8
    exact hfin 1 m1 m2 m3 m4 m5 m6 m7 m8 (by unfold kr_I; rw [if_neg (by omega)]; rfl) e1 e2 e3 e4 e5 e6 e7 e8
end KUD
