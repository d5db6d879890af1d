/-! ASK, in the model -/
def kW_ak (c : Nat) (i : Int) : Prop := kW_ms c i ∨ c = 92 + 45
section KQC
variable {w : Nat} {σ τ : jg_M} {T a n d : Nat} {g : gM} {N : kn_N} {K : kr_K} {x l i p : Int} {KV : jg_M → Prop} {KI : Int → jg_M → Prop}
theorem ku_MG_ak (h : ku_MG σ g) (hf : jF kW_ak σ τ) : ku_MG τ g := ku_MG_fr h hf (fun c i q1 q2 => by unfold kW_mg kW_m0 at q1; unfold kW_ak kW_ms kW_im jW_lt jW_ef jW_ls jW_ac kW_co at q2; omega)
theorem jm_worst {code many y : Nat} (hc : code < 343) (hy : σ.1 (92 + 45) (code : Int) = (y : Nat)) (hle : y ≤ many) (hm : many ≤ 12) (hk : KI ((if many - y < y then y else many - y : Nat) : Int) σ) : jg_CI w 0 mm_X12_worst [.ref 92, .int (.ofInt (code : Int)), .int (.ofInt (many : Int))] σ KI := by
  refine jb_X12_worst_0 rfl ?_
  rw [jr_wr (show jr (code : Int) by omega), hy, jr_wr (show jr (y : Int) by omega), jr_wr (show jr ((many : Int) - (y : Int)) by omega)]
  refine ⟨by omega, by omega, jn_ite (fun h => ⟨by omega, ?_⟩) (fun h => ⟨by omega, ?_⟩)⟩
  · rw [if_neg (by omega)] at hk
    rw [show (many : Int) - (y : Int) = ((many - y : Nat) : Int) by omega]; exact hk
  · rw [if_pos (by omega)] at hk; exact hk
theorem kq_up12 {p : Nat → Bool} {m : Nat} (hm : m ≤ 12) (h : ∀ i, m ≤ i → i < 12 → ¬ p i = true) : jn_ct p 12 = jn_ct p m := by
  have := jn_ct_skip (p := p) (k := m) (d := 12 - m) (fun j h1 h2 => h j h1 (by omega))
  rw [show m + (12 - m) = 12 by omega] at this
  exact this
theorem jm_ask {n : Int} (hG : ku_MG σ g) (hN : kn_M σ N) (hP : kp_N g N) (hl : kn_lt N 0) (hn : jr n) (hx : jr x) (hk : ∀ τ, jF kW_ak σ τ → KI (kv_ask g N n x) τ) : jg_CI w 7 mm_X12_ask [.ref 92, .int (.ofInt n), .int (.ofInt x)] σ KI := by
  have hW := hG.1.1.1.1
  have hw := hW.1
  refine jb_X12_ask_0 rfl ?_
  intro τ1 e1
  have f1 : jF (fun c i => c = 92 ∧ i = 2) σ τ1 := by rw [e1]; exact jF_I ⟨rfl, rfl⟩
  have f1a : jF kW_ak σ τ1 := jF_mono f1 (fun c i q => by unfold kW_ak kW_ms; omega)
  have hs := hk τ1 f1a
  have hno : ¬ ((1 ≤ n ∧ n ≤ 3) ∧ 0 ≤ x ∧ x ≤ 1) → KI (-1) τ1 := fun q => by
    unfold kv_ask at hs
    rw [if_neg q] at hs
    exact hs
  have hN1 := kn_M_fr hN f1 (fun i q => by omega) (by omega) (by omega)
  have hG1 := ku_MG_ak hG f1a
  refine jm_isIn hn (by decide) (by decide) (jn_if (fun q => hno (fun z => q z.1)) (fun hn3 => ?_))
  refine jm_isIn hx (by decide) (by decide) (jn_if (fun q => hno (fun z => q z.2)) (fun hx1 => ?_))
  rw [show τ1.1 (92 + 3) 0 = g 0 0 from hG1.1.2.1.2.1, jr_wr (show jr (g 0 0) by omega)]
  refine jn_ite (fun hz => ?_) (fun hnz => ?_)
  · unfold kv_ask at hs
    rw [if_pos ⟨hn3, hx1⟩, if_pos hz] at hs
    exact hs
  have ha : 0 < (g 0 0).toNat := by omega
  have hga : g 0 0 = (((g 0 0).toNat : Nat) : Int) := by omega
  have hnn : n = ((n.toNat : Nat) : Int) := by omega
  generalize hnd : n.toNat = nn at *
  subst hnn
  have hA : (g 0 0).toNat ^ nn ≤ 343 := kq_pow_lt (by omega) (by omega)
  have hApos : 0 < (g 0 0).toNat ^ nn := Nat.pow_pos ha
  refine jm_layCounts hN1 hP hl (fun τ2 f2 hc2 => ?_)
  have f02 : jF kW_ak σ τ2 := jF_tr f1a (jF_mono f2 (fun c i q => Or.inl (Or.inr (Or.inl q))))
  have hcF : ∀ τ, jF (fun c i => kW_im c i ∨ c = 92 + 45 ∨ c = 92 + 39) τ2 τ → (∀ i : Nat, i < kn_kb N → τ.1 (92 + 44) (i : Int) = if kn_gn N i = true then 0 else 1) := fun τ hf i hi => (hf.1 _ _ (fun q => by unfold kW_im jW_lt jW_ef jW_ls jW_ac kW_co at q; omega)).trans (hc2 i hi)
  have hGF : ∀ τ, jF (fun c i => kW_im c i ∨ c = 92 + 45 ∨ c = 92 + 39) τ2 τ → jF kW_ak σ τ ∧ ku_MG τ g ∧ kn_M τ N := fun τ hf => by
    have f0 : jF kW_ak σ τ := jF_tr f02 (jF_mono hf (fun c i q => q.elim (fun q => Or.inl (Or.inl q)) (fun q => q.elim Or.inr (fun q => Or.inl (Or.inl (Or.inr (Or.inr q)))))))
    exact ⟨f0, ku_MG_ak hG f0, kn_M_fr hN f0 (fun i q => by unfold kW_ak kW_ms kW_im jW_lt jW_ef jW_ls jW_ac kW_co at q; omega) (fun q => by unfold kW_ak kW_ms kW_im jW_lt jW_ef jW_ls jW_ac kW_co at q; omega) (fun q => by unfold kW_ak kW_ms kW_im jW_lt jW_ef jW_ls jW_ac kW_co at q; omega)⟩
  rw [show τ2.1 (92 + 3) 0 = (((g 0 0).toNat : Nat) : Int) from ((hGF τ2 jF_rf).2.1.1.2.1.2.1).trans hga]
  refine jm_power (x := (g 0 0).toNat) (y := nn) (by omega) ?_
  -- the end: the answer
  have hans : ∀ (τ : jg_M) (u7 : Value), jF (fun c i => kW_im c i ∨ c = 92 + 45 ∨ c = 92 + 39) τ2 τ → (∀ c : Nat, c < (g 0 0).toNat ^ nn → τ.1 (92 + 45) (c : Int) = (jn_ct (kq_y g N nn c) 12 : Nat)) → ∀ (m c : Nat), c + m = (g 0 0).toNat ^ nn → 1 ≤ c → jg_GI w 7 mm_X12_ask 175 [.ref 92, .int (.ofInt (nn : Int)), .int (.ofInt x), .int (.ofInt (((g 0 0).toNat ^ nn : Nat) : Int)), .int (.ofInt (jn_ct (kq_m g N) 12 : Nat)), .int (.ofInt (kq_b (kq_w g N nn) c : Nat)), .int (.ofInt (c : Int)), u7] τ KI := by
    intro τ u7 hf hy m
    obtain ⟨f0, hGτ, hNτ⟩ := hGF τ hf
    have hm12 := jn_ct_le (p := kq_m g N) (n := 12)
    induction m with
    | zero =>
      intro c hcm hc1
      have hce : c = (g 0 0).toNat ^ nn := by omega
      have hbest : kq_best g N nn < (g 0 0).toNat ^ nn := kq_b_lt hApos
      have hb343 : kq_best g N nn < 343 := by omega
      have hyle := kq_y_le (g := g) (N := N) (n := nn) (c := kq_best g N nn) (m := 12)
      refine jb_X12_ask_175 rfl ?_
      rw [jr_wr (show jr (((g 0 0).toNat ^ nn : Nat) : Int) by omega), jr_wr (show jr (c : Int) by omega), jr_wr hx, hce]
      refine jn_ite (fun _ => ?_) (fun h => by omega)
      have hend := hk τ f0
      unfold kv_ask at hend
      rw [if_pos ⟨hn3, hx1⟩, if_neg hnz, Int.toNat_natCast] at hend
      refine jn_ite (fun h1 => ?_) (fun h1 => ?_)
      · rw [if_pos h1] at hend
        exact jm_worst hb343 (hy _ hbest) hyle hm12 hend
      · rw [if_neg h1] at hend
        rw [show τ.1 (92 + 3) 0 = (((g 0 0).toNat : Nat) : Int) from (hGτ.1.2.1.2.1).trans hga]
        refine jm_gives (n := nn) (code := kq_best g N nn) (by' := (g 0 0).toNat) (by omega) (by omega) (by omega) (fun τ3 f3 hg3 => ?_)
        have hKτ3 : KI (kq_c (g 0 0).toNat 10 nn (kq_best g N nn) : Nat) τ3 := by
          have hend3 := hk τ3 (jF_tr f0 (jF_mono f3 (fun c i q => by unfold kW_ak kW_ms kW_im; omega)))
          unfold kv_ask at hend3
          rw [if_pos ⟨hn3, hx1⟩, if_neg hnz, Int.toNat_natCast, if_neg h1] at hend3
          exact hend3
        have hloop : ∀ (m k : Nat) (u2 u3 u4 u5 : Value), k + m = nn → jg_GI w 7 mm_X12_ask 248 [.ref 92, .int (.ofInt (nn : Int)), u2, u3, u4, u5, .int (.ofInt (kq_c (g 0 0).toNat 10 k (kq_best g N nn / (g 0 0).toNat ^ (nn - k)) : Nat)), .int (.ofInt (k : Int))] τ3 KI := by
          intro m
          induction m with
          | zero =>
            intro k u2 u3 u4 u5 hkm
            refine jb_X12_ask_248 rfl ?_
            rw [jr_wr (show jr (nn : Int) by omega), jr_wr (show jr (k : Int) by omega)]
            refine jn_ite (fun _ => ?_) (fun h => by omega)
            rw [show nn - k = 0 by omega, Nat.pow_zero, Nat.div_one, show k = nn by omega]
            exact hKτ3
          | succ m ih =>
            intro k u2 u3 u4 u5 hkm
            refine jb_X12_ask_248 rfl ?_
            rw [jr_wr (show jr (nn : Int) by omega), jr_wr (show jr (k : Int) by omega), hg3 k (by omega)]
            refine jn_ite (fun h => by omega) (fun _ => ⟨by omega, ?_⟩)
            rintro _ rfl
            have key := ih (k + 1) u2 u3 u4 u5 (by omega)
            have e : kq_c (g 0 0).toNat 10 (k + 1) (kq_best g N nn / (g 0 0).toNat ^ (nn - (k + 1))) = kr_dg (g 0 0).toNat nn (kq_best g N nn) k + 10 * kq_c (g 0 0).toNat 10 k (kq_best g N nn / (g 0 0).toNat ^ (nn - k)) := by
              show kq_best g N nn / (g 0 0).toNat ^ (nn - (k + 1)) % (g 0 0).toNat + 10 * kq_c (g 0 0).toNat 10 k (kq_best g N nn / (g 0 0).toNat ^ (nn - (k + 1)) / (g 0 0).toNat) = _
              rw [Nat.div_div_eq_div_mul, ← Nat.pow_succ, show (nn - (k + 1)).succ = nn - k by omega]
              unfold kr_dg
              rw [show nn - 1 - k = nn - (k + 1) by omega]
            rw [e] at key
            rw [show 10 * ((kq_c (g 0 0).toNat 10 k (kq_best g N nn / (g 0 0).toNat ^ (nn - k)) : Nat) : Int) + ((kr_dg (g 0 0).toNat nn (kq_best g N nn) k : Nat) : Int) = ((kr_dg (g 0 0).toNat nn (kq_best g N nn) k + 10 * kq_c (g 0 0).toNat 10 k (kq_best g N nn / (g 0 0).toNat ^ (nn - k)) : Nat) : Int) by omega, show (k : Int) + 1 = ((k + 1 : Nat) : Int) by omega]
            exact key
        exact hloop nn 0 _ _ _ _ (by omega)
    | succ m ih =>
      intro c hcm hc1
      have hbl : kq_b (kq_w g N nn) c < c := kq_b_lt (by omega)
      have y1 := kq_y_le (g := g) (N := N) (n := nn) (c := c) (m := 12)
      have y2 := kq_y_le (g := g) (N := N) (n := nn) (c := kq_b (kq_w g N nn) c) (m := 12)
      have hkb : kq_b (kq_w g N nn) (c + 1) = if kq_w g N nn c < kq_w g N nn (kq_b (kq_w g N nn) c) then c else kq_b (kq_w g N nn) c := rfl
      have hwl : ∀ z, kq_w g N nn z ≤ 12 := fun z => by
        have h2 := jn_ct_le (p := kq_y g N nn z) (n := 12)
        unfold kq_w
        split <;> omega
      have l1 := hwl c
      have l2 := hwl (kq_b (kq_w g N nn) c)
      refine jb_X12_ask_175 rfl ?_
      rw [jr_wr (show jr (((g 0 0).toNat ^ nn : Nat) : Int) by omega), jr_wr (show jr (c : Int) by omega)]
      refine jn_ite (fun h => by omega) (fun _ => jm_worst (by omega) (hy c (by omega)) y1 hm12 (jm_worst (by omega) (hy _ (by omega)) y2 hm12 ?_))
      have key := ih (c + 1) (by omega) (by omega)
      have ew1 : (if jn_ct (kq_m g N) 12 - jn_ct (kq_y g N nn c) 12 < jn_ct (kq_y g N nn c) 12 then jn_ct (kq_y g N nn c) 12 else jn_ct (kq_m g N) 12 - jn_ct (kq_y g N nn c) 12) = kq_w g N nn c := rfl
      have ew2 : (if jn_ct (kq_m g N) 12 - jn_ct (kq_y g N nn (kq_b (kq_w g N nn) c)) 12 < jn_ct (kq_y g N nn (kq_b (kq_w g N nn) c)) 12 then jn_ct (kq_y g N nn (kq_b (kq_w g N nn) c)) 12 else jn_ct (kq_m g N) 12 - jn_ct (kq_y g N nn (kq_b (kq_w g N nn) c)) 12) = kq_w g N nn (kq_b (kq_w g N nn) c) := rfl
      rw [ew1, ew2, jr_wr (show jr ((kq_w g N nn c : Nat) : Int) by omega), jr_wr (show jr ((kq_w g N nn (kq_b (kq_w g N nn) c) : Nat) : Int) by omega)]
      rw [show ((c + 1 : Nat) : Int) = (c : Int) + 1 by omega] at key
      refine jn_ite (fun hle => ?_) (fun hgt => ?_)
      · rw [hkb, if_neg (by omega)] at key
        exact key
      · rw [hkb, if_pos (by omega)] at key
        exact key
  -- over the RULES
  have hrules : ∀ (m r : Nat) (τ : jg_M) (u6 u7 : Value), (r : Int) + m = g 0 2 → jF (fun c i => kW_im c i ∨ c = 92 + 45 ∨ c = 92 + 39) τ2 τ → (∀ c : Nat, c < (g 0 0).toNat ^ nn → τ.1 (92 + 45) (c : Int) = (jn_ct (kq_y g N nn c) r : Nat)) → jg_GI w 7 mm_X12_ask 81 [.ref 92, .int (.ofInt (nn : Int)), .int (.ofInt x), .int (.ofInt (((g 0 0).toNat ^ nn : Nat) : Int)), .int (.ofInt (jn_ct (kq_m g N) r : Nat)), .int (.ofInt (r : Int)), u6, u7] τ KI := by
    intro m
    induction m with
    | zero =>
      intro r τ u6 u7 hrm hf hy
      obtain ⟨f0, hGτ, hNτ⟩ := hGF τ hf
      refine jb_X12_ask_81 rfl ?_
      rw [show τ.1 (92 + 5) 0 = g 0 2 from hGτ.1.2.1.2.2.2, jr_wr (show jr (g 0 2) by omega), jr_wr (show jr (r : Int) by omega)]
      refine jn_ite (fun _ => jm_byText2 (fun τ3 f3 => ?_)) (fun h => by omega)
      have em : jn_ct (kq_m g N) 12 = jn_ct (kq_m g N) r := kq_up12 (by omega) (fun i hi _ q => by have := (kq_m_iff.mp q).1.1; omega)
      have ey : ∀ c, jn_ct (kq_y g N nn c) 12 = jn_ct (kq_y g N nn c) r := fun c => kq_up12 (by omega) (fun i hi _ q => by have := (kq_y_iff.mp q).1.1.1; omega)
      rw [← em]
      have key := hans τ3 u7 (jF_tr hf (jF_mono f3 (fun c i q => by unfold kW_im jW_lt; omega))) (fun c hc => by rw [f3.1 _ _ (by omega), hy c hc, ey c]) ((g 0 0).toNat ^ nn - 1) 1 (by omega) (by omega)
      rw [show kq_b (kq_w g N nn) 1 = 0 from by unfold kq_b; split <;> rfl] at key
      exact key
    | succ m ih =>
      intro r τ u6 u7 hrm hf hy
      obtain ⟨f0, hGτ, hNτ⟩ := hGF τ hf
      refine jb_X12_ask_81 rfl ?_
      rw [show τ.1 (92 + 5) 0 = g 0 2 from hGτ.1.2.1.2.2.2, jr_wr (show jr (g 0 2) by omega), jr_wr (show jr (r : Int) by omega)]
      refine jn_ite (fun h => by omega) (fun _ => jm_isMissing hGτ hNτ hP hl (hcF τ hf) (by omega) (fun τ3 f3 hMW => jn_if (fun hno => ?_) (fun hyes => ?_)))
      · have f3' : jF (fun c i => kW_im c i ∨ c = 92 + 45 ∨ c = 92 + 39) τ2 τ3 := jF_tr hf (jF_mono f3 (fun c i q => Or.inl q))
        have key := ih (r + 1) τ3 u6 u7 (by omega) f3' (fun c hc => by
          rw [f3.1 _ _ (fun q => by unfold kW_im jW_lt jW_ef jW_ls jW_ac kW_co at q; omega), hy c hc, jn_ct_f (fun q => hno (kq_y_iff.mp q).1)])
        rw [jn_ct_f (p := kq_m g N) (fun q => hno (kq_m_iff.mp q))] at key
        rw [show ((r + 1 : Nat) : Int) = (r : Int) + 1 by omega] at key
        exact key
      · have hMW3 := hMW hyes
        have o0 : kp_o g (r : Int) 0 0 = g 0 0 := kp_o_0 (by decide)
        have hinner : ∀ (m2 c : Nat) (τ4 : jg_M), c + m2 = (g 0 0).toNat ^ nn → jF (fun c i => kW_co c i ∨ c = 92 + 45 ∨ c = 92 + 39) τ3 τ4 → (∀ c' : Nat, c' < c → τ4.1 (92 + 45) (c' : Int) = (jn_ct (kq_y g N nn c') (r + 1) : Nat)) → (∀ c' : Nat, c ≤ c' → c' < (g 0 0).toNat ^ nn → τ4.1 (92 + 45) (c' : Int) = (jn_ct (kq_y g N nn c') r : Nat)) → jg_GI w 7 mm_X12_ask 110 [.ref 92, .int (.ofInt (nn : Int)), .int (.ofInt x), .int (.ofInt (((g 0 0).toNat ^ nn : Nat) : Int)), .int (.ofInt (jn_ct (kq_m g N) (r + 1) : Nat)), .int (.ofInt (r : Int)), .int (.ofInt (c : Int)), u7] τ4 KI := by
          intro m2
          induction m2 with
          | zero =>
            intro c τ4 hcm hf4 hlo hhi
            refine jb_X12_ask_110 rfl ?_
            rw [jr_wr (show jr (((g 0 0).toNat ^ nn : Nat) : Int) by omega), jr_wr (show jr (c : Int) by omega)]
            refine jn_ite (fun _ => ?_) (fun h => by omega)
            have key := ih (r + 1) τ4 (.int (.ofInt (c : Int))) u7 (by omega) (jF_tr hf (jF_tr (jF_mono f3 (fun c i q => Or.inl q)) (jF_mono hf4 (fun c i q => q.elim (fun q => Or.inl (Or.inr (Or.inl q))) Or.inr)))) (fun c' hc' => hlo c' (by omega))
            rw [show ((r + 1 : Nat) : Int) = (r : Int) + 1 by omega] at key
            exact key
          | succ m2 ih2 =>
            intro c τ4 hcm hf4 hlo hhi
            refine jb_X12_ask_110 rfl ?_
            have f24 : jF (fun c i => kW_im c i ∨ c = 92 + 45 ∨ c = 92 + 39) τ2 τ4 := jF_tr hf (jF_tr (jF_mono f3 (fun c i q => Or.inl q)) (jF_mono hf4 (fun c i q => q.elim (fun q => Or.inl (Or.inr (Or.inl q))) Or.inr)))
            have hG4 := (hGF τ4 f24).2.1
            rw [jr_wr (show jr (((g 0 0).toNat ^ nn : Nat) : Int) by omega), jr_wr (show jr (c : Int) by omega), show τ4.1 (92 + 3) 0 = (((g 0 0).toNat : Nat) : Int) from (hG4.1.2.1.2.1).trans hga]
            refine jn_ite (fun h => by omega) (fun _ => jm_gives (n := nn) (code := c) (by' := (g 0 0).toNat) (by omega) (by omega) (by omega) (fun τ5 f5 hg5 => ⟨by omega, ?_⟩))
            have f35 : jF (fun c i => kW_co c i ∨ c = 92 + 45 ∨ c = 92 + 39) τ3 τ5 := jF_tr hf4 (jF_mono f5 (fun c i q => Or.inr (Or.inr q)))
            have hMW5 := kr_MW_fr hMW3 f35 (fun c i hc q => by unfold kW_co at q; omega)
            refine jm_isSentence (gv := fun j => ((kr_dg (g 0 0).toNat nn c j : Nat) : Int)) hMW5 (by omega) hg5 (fun i hi => ⟨by omega, by
              have := kr_dg_lt (a := (g 0 0).toNat) (n := nn) (code := c) (k := i) ha
              rw [o0]; omega⟩) (fun τ6 f6 => ?_)
            have f36 : jF (fun c i => kW_co c i ∨ c = 92 + 45 ∨ c = 92 + 39) τ3 τ6 := jF_tr f35 (jF_mono f6 (fun c i q => Or.inl q))
            have v5 : ∀ i : Int, τ5.1 (92 + 45) i = τ4.1 (92 + 45) i := fun i => f5.1 _ _ (by omega)
            have v6 : ∀ i : Int, τ6.1 (92 + 45) i = τ4.1 (92 + 45) i := fun i => (f6.1 _ _ (fun q => by unfold kW_co at q; omega)).trans (v5 i)
            have hstep : ∀ (v : Nat) (τ7 : jg_M), τ7 = jg_sI τ6 (92 + 45) (c : Int) ((jn_ct (kq_y g N nn c) r : Nat) + (v : Nat)) → jn_ct (kq_y g N nn c) (r + 1) = jn_ct (kq_y g N nn c) r + v → jg_GI w 7 mm_X12_ask 110 [.ref 92, .int (.ofInt (nn : Int)), .int (.ofInt x), .int (.ofInt (((g 0 0).toNat ^ nn : Nat) : Int)), .int (.ofInt (jn_ct (kq_m g N) (r + 1) : Nat)), .int (.ofInt (r : Int)), .int (.ofInt ((c : Int) + 1)), u7] τ7 KI := fun v τ7 h7 hv => by
              have f7 : jF (fun a i => a = 92 + 45 ∧ i = c) τ6 τ7 := by rw [h7]; exact jF_I ⟨rfl, rfl⟩
              have key := ih2 (c + 1) τ7 (by omega) (jF_tr f36 (jF_mono f7 (fun c i q => Or.inr (Or.inl q.1)))) (fun c' hc' => ?_) (fun c' h1 h2 => ?_)
              · rw [show ((c + 1 : Nat) : Int) = (c : Int) + 1 by omega] at key
                exact key
              · by_cases hcc : c' = c
                · subst hcc
                  rw [h7, js_Is, hv, Int.natCast_add]
                · rw [f7.1 _ _ (by omega), v6]
                  exact hlo c' (by omega)
              · rw [f7.1 _ _ (by omega), v6]
                exact hhi c' (by omega) h2
            rw [v5, hhi c (Nat.le_refl _) (by omega)]
            refine jn_if (fun hno => ⟨by omega, ?_⟩) (fun hys => ⟨by omega, ?_⟩)
            · intro τ7 h7
              exact hstep 0 τ7 h7 (jn_ct_f (fun q => hno (kq_y_iff.mp q).2))
            · intro τ7 h7
              exact hstep 1 τ7 h7 (jn_ct_t (kq_y_iff.mpr ⟨hyes, hys⟩))
        have key := hinner ((g 0 0).toNat ^ nn) 0 τ3 (by omega) jF_rf (fun c' h => absurd h (Nat.not_lt_zero c')) (fun c' _ hc' => by
          rw [f3.1 _ _ (fun q => by unfold kW_im jW_lt jW_ef jW_ls jW_ac kW_co at q; omega)]
          exact hy c' hc')
        rw [jn_ct_t (p := kq_m g N) (kq_m_iff.mpr hyes)] at key
        rw [show ((jn_ct (kq_m g N) r : Nat) : Int) + 1 = ((jn_ct (kq_m g N) r + 1 : Nat) : Int) by omega]
        exact key
  -- clearing
  have hclear : ∀ (m c : Nat) (τ : jg_M), c + m = (g 0 0).toNat ^ nn → jF (fun c i => c = 92 + 45) τ2 τ → (∀ c' : Nat, c' < c → τ.1 (92 + 45) (c' : Int) = 0) → jg_GI w 7 mm_X12_ask 55 [.ref 92, .int (.ofInt (nn : Int)), .int (.ofInt x), .int (.ofInt (((g 0 0).toNat ^ nn : Nat) : Int)), .int (.ofInt (c : Int)), mj_U, mj_U, mj_U] τ KI := by
    intro m
    induction m with
    | zero =>
      intro c τ hcm hf hz
      refine jb_X12_ask_55 rfl ?_
      rw [jr_wr (show jr (((g 0 0).toNat ^ nn : Nat) : Int) by omega), jr_wr (show jr (c : Int) by omega)]
      refine jn_ite (fun _ => ?_) (fun h => by omega)
      exact hrules (g 0 2).toNat 0 τ mj_U mj_U (by omega) (jF_mono hf (fun c i q => Or.inr (Or.inl q))) (fun c' hc' => hz c' (by omega))
    | succ m ih =>
      intro c τ hcm hf hz
      refine jb_X12_ask_55 rfl ?_
      rw [jr_wr (show jr (((g 0 0).toNat ^ nn : Nat) : Int) by omega), jr_wr (show jr (c : Int) by omega)]
      refine jn_ite (fun h => by omega) (fun _ => ⟨by omega, ?_⟩)
      intro τ3 h3
      have f3 : jF (fun a i => a = 92 + 45 ∧ i = c) τ τ3 := by rw [h3]; exact jF_I ⟨rfl, rfl⟩
      rw [show (c : Int) + 1 = ((c + 1 : Nat) : Int) by omega]
      refine ih (c + 1) τ3 (by omega) (jF_tr hf (jF_mono f3 (fun c i q => q.1))) (fun c' hc' => ?_)
      by_cases hcc : c' = c
      · rw [hcc, h3]; exact js_Is
      · rw [f3.1 _ _ (by omega)]; exact hz c' (by omega)
  exact hclear ((g 0 0).toNat ^ nn) 0 τ2 (by omega) jF_rf (fun c' h => absurd h (Nat.not_lt_zero c'))
end KQC
