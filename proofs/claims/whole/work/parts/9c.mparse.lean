/-! TEXT: its LINES, in the reference -/
def kt_GM (σ : jg_M) (b : Int) (g : gM) (m : Int) : Prop := ((0 ≤ b ∧ b ≤ 1) ∧ σ.1 (92 + 3) b = g 0 0 ∧ σ.1 (92 + 4) b = g 0 1 ∧ σ.1 (92 + 5) b = g 0 2) ∧ ((∀ t, 0 ≤ t → t < g 0 0 → σ.1 (92 + 6) (7 * b + t) = g 6 t) ∧ ∀ k, 0 ≤ k → k < g 0 1 → σ.1 (92 + 7) (5 * b + k) = g 6 (10 + k)) ∧ (∀ t, 0 ≤ t → t < 7 → σ.1 (92 + 8) (7 * b + t) = g 1 t ∧ σ.1 (92 + 9) (7 * b + t) = g 2 t) ∧
  ∀ r, 0 ≤ r → r < m → σ.1 (92 + 10) (13 * b + r) = g 3 r ∧ σ.1 (92 + 11) (13 * b + r) = g 4 r ∧ ∀ d, 0 ≤ d → d < g 4 r → σ.1 (92 + 12) (4 * (13 * b + r) + d) = g 5 (r * 4 + d)
def kW_mp (c : Nat) (i : Int) : Prop := (c = 92 ∧ 7 ≤ i ∧ i ≤ 11) ∨ (92 + 3 ≤ c ∧ c ≤ 92 + 5 ∧ 1 ≤ i) ∨ ((c = 92 + 6 ∨ c = 92 + 8 ∨ c = 92 + 9) ∧ 7 ≤ i) ∨ (c = 92 + 7 ∧ 5 ≤ i) ∨ ((c = 92 + 10 ∨ c = 92 + 11) ∧ 13 ≤ i) ∨ (c = 92 + 12 ∧ 52 ≤ i)
def kW_mf (c : Nat) (i : Int) : Prop := (c = 92 ∧ (i = 4 ∨ i = 5)) ∨ kW_mp c i
/-- what a line's method owes ahead of the line's end -/
def kt_PN (B : Nat → Int) (n : Nat) (σ0 : jg_M) (R : kt_R) (KI : Int → jg_M → Prop) : Prop := (∀ e pl, R = .inl (e, pl) → ∀ τ, jF kW_mf σ0 τ → τ.1 92 4 = e → τ.1 92 5 = pl → KI 0 τ) ∧ ∀ g1 p1, p1 ≤ n → R = kt_end B n g1 p1 → ∀ τ, jF kW_mp σ0 τ → kt_GM τ 1 g1 (g1 0 2) → kt_Mt τ (kt_tk B n p1) → KI 1 τ
section KTM
variable {w : Nat} {σ σ0 τ : jg_M} {a n0 n p k : Nat} {B : Nat → Int} {g g' : gM} {m c b lo hi : Int} {t : kt_T} {R : kt_R} {KV : jg_M → Prop} {KI : Int → jg_M → Prop} {x v : Int}
theorem kt_GM_fr {W : Nat → Int → Prop} (h : kt_GM σ b g m) (hf : jF W σ τ) (h2 : ∀ c i, 92 + 3 ≤ c → c ≤ 92 + 12 → ¬ W c i) : kt_GM τ b g m := by
  obtain ⟨⟨a0, a1, a2, a3⟩, ⟨b1, b2⟩, c, d⟩ := h
  refine ⟨⟨a0, (hf.1 _ _ (h2 _ _ (by omega) (by omega))).trans a1, (hf.1 _ _ (h2 _ _ (by omega) (by omega))).trans a2, (hf.1 _ _ (h2 _ _ (by omega) (by omega))).trans a3⟩, ⟨fun t t0 t1 => (hf.1 _ _ (h2 _ _ (by omega) (by omega))).trans (b1 t t0 t1), fun t t0 t1 => (hf.1 _ _ (h2 _ _ (by omega) (by omega))).trans (b2 t t0 t1)⟩, fun t t0 t1 => ⟨(hf.1 _ _ (h2 _ _ (by omega) (by omega))).trans (c t t0 t1).1, (hf.1 _ _ (h2 _ _ (by omega) (by omega))).trans (c t t0 t1).2⟩, fun r r0 r1 => ⟨(hf.1 _ _ (h2 _ _ (by omega) (by omega))).trans (d r r0 r1).1, (hf.1 _ _ (h2 _ _ (by omega) (by omega))).trans (d r r0 r1).2.1, fun e e0 e1 => (hf.1 _ _ (h2 _ _ (by omega) (by omega))).trans ((d r r0 r1).2.2 e e0 e1)⟩⟩
theorem kW_nx_mp (hf : jF kW_mp σ0 σ) (h : jF kW_nx σ τ) : jF kW_mp σ0 τ := jF_tr hf (jF_mono h (fun c i q => by unfold kW_nx at q; unfold kW_mp; omega))
theorem kt_key_rng (v : Int) : -1 ≤ kt_key v ∧ kt_key v ≤ 3 := by
  unfold kt_key
  split
  · omega
  · split
    · omega
    · split
      · omega
      · split <;> omega
theorem kt_Mt_k (hM : kt_Mt σ t) (ht : 0 ≤ t.1 ∧ t.1 ≤ 4) : (0 ≤ σ.1 92 8 ∧ σ.1 92 8 ≤ 6) ∧ (σ.1 92 8 = 2 ↔ kt_nm t) ∧ (σ.1 92 8 = 1 ↔ (t.1 = 0 ∧ 0 ≤ kt_key t.2.2.2)) ∧ (σ.1 92 8 = 3 ↔ t.1 = 1) ∧ (σ.1 92 8 = 0 ↔ t.1 = 3) ∧ ((σ.1 92 8 = 4 ∧ σ.1 92 9 = 59) ↔ t.1 = 2) := by
  obtain ⟨_, _, h3, h0, h1, h2, h4⟩ := hM
  unfold kt_nm
  have hc : t.1 = 0 ∨ t.1 = 1 ∨ t.1 = 2 ∨ t.1 = 3 ∨ t.1 = 4 := by omega
  rcases hc with hc | hc | hc | hc | hc
  · obtain ⟨q1, q2⟩ := h0 hc
    by_cases hk : 0 ≤ kt_key t.2.2.2
    · have := (q1 hk).1
      omega
    · have := (q2 (by omega)).1
      omega
  · have := (h1 hc).1
    omega
  · have := h2 hc
    omega
  · have := h3 hc
    omega
  · have := h4 hc
    omega
theorem jm_wrong {pl : Int} (hf : jF kW_mp σ0 σ) (hat : σ.1 92 10 = pl) (hk : ∀ τ, jF kW_mf σ0 τ → τ.1 92 4 = c → τ.1 92 5 = pl → KI 0 τ) : jg_CI w 0 mm_X12_wrong [.ref 92, .int (.ofInt c)] σ KI := by
  refine jb_X12_wrong_0 rfl ?_
  rintro _ rfl _ rfl
  refine hk _ (jF_toI (jF_toI (jF_mono hf (fun c i q => Or.inr q)) (Or.inl ⟨rfl, by omega⟩)) (Or.inl ⟨rfl, by omega⟩)) (by rw [js_In (Or.inr (by omega)), js_Is]) ?_
  rw [js_Is, js_In (Or.inr (by omega)), hat]
theorem jm_isSign (hM : kt_Mt σ t) (ht : 0 ≤ t.1 ∧ t.1 ≤ 4) (hk : KI (jn_b (t.1 = 2)) σ) : jg_CI w 0 mm_X12_isSign [.ref 92, .int (.ofInt 59)] σ KI := by
  obtain ⟨k1, k2, k3, k4, k5, k6⟩ := kt_Mt_k hM ht
  refine jb_X12_isSign_0 rfl ?_
  rw [jr_wr (show jr (σ.1 92 8) by omega), show jg_wr 59 = 59 from rfl]
  refine jn_ite (fun h4 => ?_) (fun h4 => ?_)
  · have hj : jr (σ.1 92 9) := by
      have h4' := hM.2.2.2.2.2.2
      by_cases h2 : t.1 = 2
      · have := (k6.mpr h2).2
        omega
      · have hne : t.1 = 4 := by
          have a0 : ¬ t.1 = 0 := fun q => by
            have := hM.2.2.2.1 q
            by_cases hk : 0 ≤ kt_key t.2.2.2
            · have := (this.1 hk).1; omega
            · have := (this.2 (by omega)).1; omega
          omega
        have := h4' hne
        omega
    rw [jr_wr hj]
    refine jn_ite (fun h9 => ?_) (fun h9 => ?_)
    · rw [jn_b_t (k6.mp ⟨h4, h9⟩)] at hk; exact hk
    · rw [jn_b_f (fun q => h9 (k6.mpr q).2)] at hk; exact hk
  · rw [jn_b_f (fun q => h4 (k6.mpr q).1)] at hk; exact hk
theorem jm_find {nn from1 : Int} (hs : jg_sh a = (20, n0)) (hn0 : n0 ≤ 1000) (hr : 0 ≤ from1 ∧ 0 ≤ nn ∧ from1 + nn ≤ n0) (hv : jr v) (hj : ∀ k, 0 ≤ k → k < nn → jr (σ.1 a (from1 + k))) (k1 : ∀ k, 0 ≤ k → k < nn → σ.1 a (from1 + k) = v → KI k σ) (k0 : (∀ k, 0 ≤ k → k < nn → σ.1 a (from1 + k) ≠ v) → KI (-1) σ) : jg_CI w 0 mm_X12_find [.ref a, .int (.ofInt from1), .int (.ofInt nn), .int (.ofInt v)] σ KI := by
  have hloop : ∀ (m : Nat) (k : Int), k + m = nn → 0 ≤ k → (∀ j, 0 ≤ j → j < k → σ.1 a (from1 + j) ≠ v) → jg_GI w 0 mm_X12_find 3 [.ref a, .int (.ofInt from1), .int (.ofInt nn), .int (.ofInt v), .int (.ofInt k)] σ KI := by
    intro m
    induction m with
    | zero =>
      intro k hk k0' hz
      refine jb_X12_find_3 hs ?_
      rw [jr_wr (show jr nn by omega), jr_wr (show jr k by omega)]
      exact jn_ite (fun _ => k0 (fun j j0 j1 => hz j j0 (by omega))) (fun h => by omega)
    | succ m ih =>
      intro k hk k0' hz
      have := hj k k0' (by omega)
      refine jb_X12_find_3 hs ?_
      rw [jr_wr (show jr nn by omega), jr_wr (show jr k by omega), jr_wr (show jr (from1 + k) by omega), jr_wr (hj k k0' (by omega)), jr_wr hv]
      refine jn_ite (fun h => by omega) (fun _ => ⟨by omega, jn_ite (fun he => k1 k k0' (by omega) he) (fun he => ?_)⟩)
      refine ih (k + 1) (by omega) (by omega) (fun j j0 j1 => ?_)
      by_cases hjk : j = k
      · subst hjk; exact he
      · exact hz j j0 (by omega)
  exact jb_X12_find_0 hs (hloop nn.toNat 0 (by omega) (by omega) (fun j j0 j1 => by omega))
theorem jm_findT (hG : kt_GM σ b g m) (hok : kt_ok g) (hv : jr v) (k1 : ∀ k, 0 ≤ k → k < g 0 0 → kt_fd g v = k → KI k σ) (k0 : ¬ (0 ≤ kt_fd g v ∧ kt_fd g v < g 0 0) → KI (-1) σ) : jg_CI w 0 mm_X12_find [.ref (92 + 6), .int (.ofInt (7 * b)), .int (.ofInt (g 0 0)), .int (.ofInt v)] σ KI := by
  have hw := hok.1.1.1
  have hb := hG.1.1
  have hS : ∀ k, 0 ≤ k → k < g 0 0 → jn_isS g k := fun k k0 k1 => by unfold jn_isS; omega
  refine jm_find (n0 := 14) rfl (by decide) (by omega) hv (fun k q0 q1 => ?_) (fun k q0 q1 he => k1 k q0 q1 (kt_fd_of hok (hS k q0 q1) ?_)) (fun hz => k0 (fun q => ?_))
  · rw [hG.2.1.1 k q0 q1]
    have := hok.2.1 k (hS k q0 q1)
    omega
  · rw [← hG.2.1.1 k q0 q1]; exact he
  · refine hz (kt_fd g v) q.1 q.2 ?_
    rw [hG.2.1.1 _ q.1 q.2]
    rcases kt_fd_sp (c := v) hok.1.1 with ⟨p1, _⟩ | ⟨_, p2⟩
    · omega
    · exact p2
theorem jm_findK (hG : kt_GM σ b g m) (hok : kt_ok g) (hv : jr v) (k1 : ∀ k, 0 ≤ k → k < g 0 1 → kt_fd g v = 10 + k → KI k σ) (k0 : kt_fd g v < 10 → KI (-1) σ) : jg_CI w 0 mm_X12_find [.ref (92 + 7), .int (.ofInt (5 * b)), .int (.ofInt (g 0 1)), .int (.ofInt v)] σ KI := by
  have hw := hok.1.1.1
  have hb := hG.1.1
  have hS : ∀ k, 0 ≤ k → k < g 0 1 → jn_isS g (10 + k) := fun k k0 k1 => by unfold jn_isS; omega
  refine jm_find (n0 := 10) rfl (by decide) (by omega) hv (fun k q0 q1 => ?_) (fun k q0 q1 he => k1 k q0 q1 (kt_fd_of hok (hS k q0 q1) ?_)) (fun hz => k0 (Classical.byContradiction (fun q => ?_)))
  · rw [hG.2.1.2 k q0 q1]
    have := hok.2.1 (10 + k) (hS k q0 q1)
    omega
  · rw [← hG.2.1.2 k q0 q1]; exact he
  · rcases kt_fd_sp (c := v) hok.1.1 with ⟨p1, _⟩ | ⟨p0, p2⟩
    · omega
    · unfold jn_isS at p0
      refine hz (kt_fd g v - 10) (by omega) (by omega) ?_
      rw [hG.2.1.2 _ (by omega) (by omega), show 10 + (kt_fd g v - 10) = kt_fd g v by omega]
      exact p2
theorem jm_symbolBy (hG : kt_GM σ b g m) (hok : kt_ok g) (hv : jr v) (hk : KI (kt_fd g v) σ) : jg_CI w 1 mm_X12_symbolBy [.ref 92, .int (.ofInt b), .int (.ofInt v)] σ KI := by
  have hw := hok.1.1.1
  have hb := hG.1.1
  refine jb_X12_symbolBy_0 rfl ?_
  rw [jr_wr (show jr b by omega), hG.1.2.1]
  refine ⟨by omega, jm_findT hG hok hv (fun k q0 q1 he => ?_) (fun hno => ?_)⟩
  · rw [jr_wr (show jr k by omega)]
    refine jn_ite (fun h => by omega) (fun _ => ?_)
    rw [he] at hk; exact hk
  · rw [hG.1.2.2.1]
    refine jn_ite (fun _ => ⟨by omega, jm_findK hG hok hv (fun k q0 q1 he => ?_) (fun hlt => ?_)⟩) (fun h => absurd (by decide) h)
    · rw [jr_wr (show jr k by omega)]
      refine jn_ite (fun _ => ?_) (fun h => by omega)
      rw [he] at hk; exact hk
    · refine jn_ite (fun h => absurd h (by decide)) (fun _ => ?_)
      have hr := kt_fd_rng (c := v) hok.1.1
      have : kt_fd g v = -1 := by
        rcases Int.lt_or_le (kt_fd g v) 0 with h | h
        · omega
        · have := hr.2.2 h
          unfold jn_isS at this
          omega
      rw [this] at hk; exact hk
theorem jm_nameLine {tok : Bool} (hB : kt_Bm σ B n) (hWd : kt_Wd σ) (hp : p ≤ n) (hM : kt_Mt σ (kt_tk B n p)) (hG : kt_GM σ 1 g (g 0 2)) (hok : kt_ok g) (hf : jF kW_mp σ0 σ) (hkey : (kt_tk B n p).1 = 0) (hk : kt_PN B n σ0 (kt_nmL B n tok g (kt_tk B n p).2.1 (kt_tk B n p).2.2.1) KI) : jg_CI w 2 mm_X12_nameLine [.ref 92, .int (.ofInt (if tok = true then 1 else 0))] σ KI := by
  have hw := hok.1.1.1
  have hs := (kt_tk_le (B := B) hp)
  have h10 := hM.1
  have h7 := hM.2.1 (by omega)
  have hp2 := hs.2.2.1
  generalize hk0 : (kt_tk B n p).2.1 = kst at *
  generalize (kt_tk B n p).2.2.1 = p2 at *
  have hs2 := (kt_tk_le (B := B) hp2)
  unfold kt_nmL at hk
  -- behind the name
  have hgo : ∀ (τ : jg_M), jF kW_nx σ τ → kt_Mt τ (kt_tk B n p2) → ¬ (if tok = true then 7 ≤ g 0 0 else 5 ≤ g 0 1) → (if jg_wr (τ.1 92 8) = 2 then jg_CI w 1 mm_X12_symbolBy [.ref 92, .int (.ofInt 1), .int (.ofInt (τ.1 92 9))] τ (fun (z105 : Int) (m104 : jg_M) => (if jg_wr z105 < 0 then (if jg_wr (if tok = true then 1 else 0) = 0 then ((0 : Int) ≤ (jg_wr (5 + (m104.1 (92 + 4) (1)))) ∧ (jg_wr (5 + (m104.1 (92 + 4) (1)))) < (10 : Int)) ∧ ∀ m106 : jg_M, m106 = jg_sI m104 (92 + 7) (jg_wr (5 + (m104.1 (92 + 4) (1)))) (m104.1 92 9) → ∀ m107 : jg_M, m107 = jg_sI m106 (92 + 4) 1 ((m106.1 (92 + 4) (1)) + 1) → jg_CV w 1 mm_X12_nextToken [.ref 92] m107 (fun (m108 : jg_M) => KI 1 m108) else ((0 : Int) ≤ (jg_wr (7 + (m104.1 (92 + 3) (1)))) ∧ (jg_wr (7 + (m104.1 (92 + 3) (1)))) < (14 : Int)) ∧ ∀ m109 : jg_M, m109 = jg_sI m104 (92 + 6) (jg_wr (7 + (m104.1 (92 + 3) (1)))) (m104.1 92 9) → ∀ m110 : jg_M, m110 = jg_sI m109 (92 + 3) 1 ((m109.1 (92 + 3) (1)) + 1) → jg_CV w 1 mm_X12_nextToken [.ref 92] m110 (fun (m111 : jg_M) => KI 1 m111)) else jg_CI w 0 mm_X12_wrong [.ref 92, .int (.ofInt 3)] m104 (fun (z113 : Int) (m112 : jg_M) => ((jg_wr z113 = 0 ∨ jg_wr z113 = 1) ∧ KI z113 m112)))) else jg_CI w 0 mm_X12_wrong [.ref 92, .int (.ofInt 1)] τ (fun (z115 : Int) (m114 : jg_M) => ((jg_wr z115 = 0 ∨ jg_wr z115 = 1) ∧ KI z115 m114))) := by
    intro τ hfn hMτ hnf
    have hfτ := kW_nx_mp hf hfn
    have hGτ := kt_GM_fr hG hfn (fun c i c1 c2 q => by unfold kW_nx at q; omega)
    have hBτ := kt_Bm_fr hB hfn (fun q => by unfold kW_nx at q; omega) (fun i q => by unfold kW_nx at q; omega)
    have hWτ := kt_Wd_fr hWd hfn (fun i q => by unfold kW_nx at q; omega)
    obtain ⟨q1, q2, _⟩ := kt_Mt_k hMτ hs2.2.2.2.2
    rw [if_neg hnf] at hk
    rw [jr_wr (show jr (τ.1 92 8) by omega)]
    refine jn_ite (fun h2 => ?_) (fun h2 => ?_)
    · have hnm := q2.mp h2
      have hwh := (hMτ.2.2.2.1 hnm.1).2 hnm.2
      have hv := kt_tk_v0 (B := B) hp2 hnm.1
      rw [if_pos hnm] at hk
      rw [hwh.2]
      refine jm_symbolBy hGτ hok (by omega) ?_
      have hfr := kt_fd_rng (c := (kt_tk B n p2).2.2.2) hok.1.1
      rw [jr_wr (show jr (kt_fd g (kt_tk B n p2).2.2.2) by omega)]
      refine jn_ite (fun hneg => ?_) (fun hpos => ?_)
      · rw [if_neg (by omega)] at hk
        have h72 := hMτ.2.1 (by have := hnm.1; omega)
        have hp3 := hs2.2.2.1
        generalize hvv : (kt_tk B n p2).2.2.2 = v at *
        generalize (kt_tk B n p2).2.2.1 = p3 at *
        cases tok with
        | false =>
          rw [if_neg (show ¬ false = true by decide)] at hnf hk
          rw [if_neg (show ¬ false = true by decide)]
          refine jn_ite (fun _ => ?_) (fun h => absurd rfl h)
          rw [hGτ.1.2.2.1, jr_wr (show jr (5 + g 0 1) by omega), hwh.2]
          refine ⟨by omega, ?_⟩
          intro τ1 h1 τ2 h2'
          have hf2 : jF (fun c i => (c = 92 + 7 ∧ i = 5 + g 0 1) ∨ (c = 92 + 4 ∧ i = 1)) τ τ2 := by rw [h2', h1]; exact jF_toI (jF_I (Or.inl ⟨rfl, rfl⟩)) (Or.inr ⟨rfl, rfl⟩)
          refine jm_nextToken (p := p3) (kt_Bm_fr hBτ hf2 (fun q => by omega) (fun i q => by omega)) (kt_Wd_fr hWτ hf2 (fun i q => by omega)) hp3 (by rw [hf2.1 _ _ (by omega)]; exact h72) (fun τ3 hf3 hM3 => ?_)
          have hf03 : jF kW_mp σ0 τ3 := kW_nx_mp (jF_tr hfτ (jF_mono hf2 (fun c i q => by unfold kW_mp; omega))) hf3
          refine hk.2 (kt_aK g v) p3 hp3 rfl τ3 hf03 ?_ hM3
          refine kt_GM_fr ?_ hf3 (fun c i c1 c2 q => by unfold kW_nx at q; omega)
          have eo : ∀ (i : Nat) (j : Int), i ≠ 6 → (i ≠ 0 ∨ j ≠ 1) → kt_aK g v i j = g i j := fun i j h1 h2 => by unfold kt_aK; rw [kt_up_ne h2, kt_up_ne (Or.inl h1)]
          have e1 : kt_aK g v 0 1 = g 0 1 + 1 := kt_up_at
          have e00 := eo 0 0 (by decide) (by decide)
          have e02 := eo 0 2 (by decide) (by decide)
          have e6 : ∀ s, s ≠ 10 + g 0 1 → kt_aK g v 6 s = g 6 s := fun s hs => by unfold kt_aK; rw [kt_up_ne (Or.inl (by decide)), kt_up_ne (Or.inr hs)]
          have e6n : kt_aK g v 6 (10 + g 0 1) = v := by unfold kt_aK; rw [kt_up_ne (Or.inl (by decide)), kt_up_at]
          obtain ⟨⟨a0, a1, a2, a3⟩, ⟨b1, b2⟩, c, d⟩ := hGτ
          rw [e02]
          refine ⟨⟨a0, ?_, ?_, ?_⟩, ⟨fun t t0 t1 => ?_, fun k k0 k1 => ?_⟩, fun t t0 t1 => ⟨?_, ?_⟩, fun r r0 r1 => ?_⟩
          · rw [hf2.1 _ _ (by omega), a1, e00]
          · rw [h2', js_Is, h1, js_In (Or.inl (by omega)), a2, e1]
          · rw [hf2.1 _ _ (by omega), a3, e02]
          · rw [e00] at t1
            rw [hf2.1 _ _ (by omega), e6 t (by omega)]
            exact b1 t t0 t1
          · rw [e1] at k1
            rw [h2', js_In (Or.inl (by omega)), h1]
            by_cases hkk : k = g 0 1
            · rw [hkk, show 5 * 1 + g 0 1 = 5 + g 0 1 by omega, js_Is, e6n]
            · rw [js_In (Or.inr (by omega)), e6 _ (by omega)]
              exact b2 k k0 (by omega)
          · rw [hf2.1 _ _ (by omega), eo 1 t (by decide) (Or.inl (by decide))]; exact (c t t0 t1).1
          · rw [hf2.1 _ _ (by omega), eo 2 t (by decide) (Or.inl (by decide))]; exact (c t t0 t1).2
          · rw [hf2.1 _ _ (by omega), hf2.1 (92 + 11) _ (by omega), eo 3 r (by decide) (Or.inl (by decide)), eo 4 r (by decide) (Or.inl (by decide))]
            refine ⟨(d r r0 r1).1, (d r r0 r1).2.1, fun e e0 e1 => ?_⟩
            rw [hf2.1 _ _ (by omega), eo 5 _ (by decide) (Or.inl (by decide))]
            exact (d r r0 r1).2.2 e e0 e1
        | true =>
          rw [if_pos rfl] at hnf hk
          rw [if_pos rfl]
          refine jn_ite (fun h => absurd h (by decide)) (fun _ => ?_)
          rw [hGτ.1.2.1, jr_wr (show jr (7 + g 0 0) by omega), hwh.2]
          refine ⟨by omega, ?_⟩
          intro τ1 h1 τ2 h2'
          have hf2 : jF (fun c i => (c = 92 + 6 ∧ i = 7 + g 0 0) ∨ (c = 92 + 3 ∧ i = 1)) τ τ2 := by rw [h2', h1]; exact jF_toI (jF_I (Or.inl ⟨rfl, rfl⟩)) (Or.inr ⟨rfl, rfl⟩)
          refine jm_nextToken (p := p3) (kt_Bm_fr hBτ hf2 (fun q => by omega) (fun i q => by omega)) (kt_Wd_fr hWτ hf2 (fun i q => by omega)) hp3 (by rw [hf2.1 _ _ (by omega)]; exact h72) (fun τ3 hf3 hM3 => ?_)
          have hf03 : jF kW_mp σ0 τ3 := kW_nx_mp (jF_tr hfτ (jF_mono hf2 (fun c i q => by unfold kW_mp; omega))) hf3
          refine hk.2 (kt_aT g v) p3 hp3 rfl τ3 hf03 ?_ hM3
          refine kt_GM_fr ?_ hf3 (fun c i c1 c2 q => by unfold kW_nx at q; omega)
          have eo : ∀ (i : Nat) (j : Int), i ≠ 6 → (i ≠ 0 ∨ j ≠ 0) → kt_aT g v i j = g i j := fun i j h1 h2 => by unfold kt_aT; rw [kt_up_ne h2, kt_up_ne (Or.inl h1)]
          have e0 : kt_aT g v 0 0 = g 0 0 + 1 := kt_up_at
          have e01 := eo 0 1 (by decide) (by decide)
          have e02 := eo 0 2 (by decide) (by decide)
          have e6 : ∀ s, s ≠ g 0 0 → kt_aT g v 6 s = g 6 s := fun s hs => by unfold kt_aT; rw [kt_up_ne (Or.inl (by decide)), kt_up_ne (Or.inr hs)]
          have e6n : kt_aT g v 6 (g 0 0) = v := by unfold kt_aT; rw [kt_up_ne (Or.inl (by decide)), kt_up_at]
          obtain ⟨⟨a0, a1, a2, a3⟩, ⟨b1, b2⟩, c, d⟩ := hGτ
          rw [e02]
          refine ⟨⟨a0, ?_, ?_, ?_⟩, ⟨fun t t0 t1 => ?_, fun k k0 k1 => ?_⟩, fun t t0 t1 => ⟨?_, ?_⟩, fun r r0 r1 => ?_⟩
          · rw [h2', js_Is, h1, js_In (Or.inl (by omega)), a1, e0]
          · rw [hf2.1 _ _ (by omega), a2, e01]
          · rw [hf2.1 _ _ (by omega), a3, e02]
          · rw [e0] at t1
            rw [h2', js_In (Or.inl (by omega)), h1]
            by_cases htt : t = g 0 0
            · rw [htt, show 7 * 1 + g 0 0 = 7 + g 0 0 by omega, js_Is, e6n]
            · rw [js_In (Or.inr (by omega)), e6 _ htt]
              exact b1 t t0 (by omega)
          · rw [e01] at k1
            rw [hf2.1 _ _ (by omega), e6 _ (by omega)]
            exact b2 k k0 k1
          · rw [hf2.1 _ _ (by omega), eo 1 t (by decide) (Or.inl (by decide))]; exact (c t t0 t1).1
          · rw [hf2.1 _ _ (by omega), eo 2 t (by decide) (Or.inl (by decide))]; exact (c t t0 t1).2
          · rw [hf2.1 _ _ (by omega), hf2.1 (92 + 11) _ (by omega), eo 3 r (by decide) (Or.inl (by decide)), eo 4 r (by decide) (Or.inl (by decide))]
            refine ⟨(d r r0 r1).1, (d r r0 r1).2.1, fun e e0' e1 => ?_⟩
            rw [hf2.1 _ _ (by omega), eo 5 _ (by decide) (Or.inl (by decide))]
            exact (d r r0 r1).2.2 e e0' e1
      · rw [if_pos (by omega)] at hk
        exact jm_wrong hfτ hMτ.1 (fun τ3 hf3 g0 g1 => ⟨Or.inl rfl, hk.1 _ _ rfl τ3 hf3 g0 g1⟩)
    · rw [if_neg (fun q => h2 (q2.mpr q))] at hk
      exact jm_wrong hfτ hMτ.1 (fun τ3 hf3 g0 g1 => ⟨Or.inl rfl, hk.1 _ _ rfl τ3 hf3 g0 g1⟩)
  refine jb_X12_nameLine_0 rfl ?_
  rw [hG.1.2.1, hG.1.2.2.1]
  cases tok with
  | false =>
    rw [if_neg (show ¬ false = true by decide)]
    refine jn_ite (fun _ => ?_) (fun h => absurd rfl h)
    rw [jr_wr (show jr (g 0 1) by omega)]
    refine jn_ite (fun h5 => ?_) (fun h5 => jm_nextToken hB hWd hp2 h7 (fun τ hfn hMτ => ?_))
    · rw [if_pos (show (if false = true then 7 ≤ g 0 0 else 5 ≤ g 0 1) by rw [if_neg (by decide)]; omega)] at hk
      exact jm_wrong hf h10 (fun τ3 hf3 g0 g1 => ⟨Or.inl rfl, hk.1 _ _ rfl τ3 hf3 g0 g1⟩)
    · exact hgo τ hfn hMτ (by rw [if_neg (by decide)]; omega)
  | true =>
    rw [if_pos rfl]
    refine jn_ite (fun h => absurd h (by decide)) (fun _ => ?_)
    rw [jr_wr (show jr (g 0 0) by omega)]
    refine jn_ite (fun h5 => ?_) (fun h5 => jm_nextToken hB hWd hp2 h7 (fun τ hfn hMτ => ?_))
    · rw [if_pos (show (if true = true then 7 ≤ g 0 0 else 5 ≤ g 0 1) by rw [if_pos rfl]; omega)] at hk
      exact jm_wrong hf h10 (fun τ3 hf3 g0 g1 => ⟨Or.inl rfl, hk.1 _ _ rfl τ3 hf3 g0 g1⟩)
    · exact hgo τ hfn hMτ (by rw [if_pos rfl]; omega)
end KTM
