/-! TEXT: its LINES, in the class: all of it -/
section KTJ
variable {w : Nat} {σ σ0 τ : jg_M} {a G n p k : Nat} {B : Nat → Int} {g g' : gM} {m c lo hi : Int} {t : kt_T} {R : kt_R} {KV : jg_M → Prop} {KI : Int → jg_M → Prop} {x : Int}
theorem jc_raL (h0 : jg_sh a = (9, 0)) (h1 : jg_sh G = (0, 0)) (haG : a + 1 < G) (hB : kt_By σ a B n) (hp : p ≤ n) (h4 : σ.1 a 4 = (p : Nat)) (hG : kt_GC σ G g (g 0 2)) (hok : kt_ok g) (hf : jF (kW_cp a G) σ0 σ) (hk : kt_PC σ0 a G (kt_raL B n g p) KI) : jg_CI w 4 mm_X9_takeRank [.ref a, .ref G] σ KI := by
  have hw := hok.1.1.1
  have hs := (kt_tk_le (B := B) hp)
  unfold kt_raL at hk
  refine jb_X9_takeRank_0 h0 h1 (jb_X9_takeName_0 h0 (jc_advance h0 hB hp h4 (fun τ hfa hC => ?_)))
  have hfτ := kW_ad_cp hf hfa
  have hGτ := kt_GC_fr hG hfa (fun i q => by unfold kW_ad at q; omega) (fun c i c1 c2 q => by unfold kW_ad at q; omega)
  have hBτ := kt_By_fr hB hfa (fun q => by unfold kW_ad at q; omega) (fun i q => by unfold kW_ad at q; omega)
  refine jc_isName h0 hC hp (jn_if (fun hno => ?_) (fun hyes => ?_))
  · rw [if_neg hno] at hk
    exact jc_refuse (k := (kt_tk B n p).2.1) h0 haG hfτ hC.2.1 rfl (kt_PC_in hk (fun τ h => (if_pos (show jg_wr 0 = 0 from rfl)).mpr ((if_pos (show jg_wr 0 = 0 from rfl)).mpr h)))
  · rw [if_pos hyes] at hk
    have hv := kt_tk_v0 (B := B) hp hyes.1
    have hfr := kt_fd_rng (c := (kt_tk B n p).2.2.2) hok.1.1
    refine jn_ite (fun h => absurd h (by decide)) (fun _ => ?_)
    rw [hC.2.2.2.1 hyes.1]
    refine jc_symbolNamed h1 hGτ (Int.le_refl _) hok (by omega) ?_
    generalize hvv : (kt_tk B n p).2.2.2 = v at *
    generalize hss : kt_fd g v = s at *
    have hGr := kt_GC_Gr hGτ (Int.le_refl _) hok.1.1
    refine jc_X0_hasToken h1 hGr hok.1.1 (by omega) (jn_if (fun hno => ?_) (fun hyt => ?_))
    · rw [if_neg (by omega)] at hk
      exact jc_refuse (k := (kt_tk B n p).2.1) h0 haG hfτ hC.2.1 rfl (kt_PC_01 hk)
    · rw [if_pos (by omega)] at hk
      have hrk := hok.1.1.2.2 s hyt.1 hyt.2
      refine jc_X0_rankOfToken h1 hGr hok.1.1 (by omega) ?_
      rw [show (if 0 ≤ s ∧ s < g 0 0 then g 1 s else 0) = g 1 s from if_pos hyt, jr_wr (show jr (g 1 s) by omega)]
      refine jn_ite (fun hz => ?_) (fun hnz => ?_)
      · rw [if_pos hz] at hk
        have hpc : ∀ (R : kt_R) (KI2 : Int → jg_M → Prop), (∀ τ, KI 0 τ → KI2 0 τ) → (∀ e pl, R = .inl (e, pl) → kt_PC σ0 a G R KI → kt_PC σ0 a G R KI2) := fun R KI2 hq e pl he hh => by
          rw [he] at hh ⊢
          exact kt_PC_in hh hq
        -- the first number
        have hfin : ∀ (τ2 : jg_M) (v1 : Int) (q1 : Nat), jF (kW_cp a G) σ0 τ2 → kt_By τ2 a B n → q1 ≤ n → τ2.1 a 4 = (q1 : Nat) → kt_GC τ2 G (kt_up g 1 s v1) (g 0 2) → kt_PC σ0 a G (kt_no B n 0 2 q1 (fun v2 q2 => kt_end B n (kt_up (kt_up g 1 s v1) 2 s v2) q2)) KI → jg_CI w 3 mm_X9_takeNumber [.ref a, .int (.ofInt 0), .int (.ofInt 2)] τ2 (fun (z115 : Int) (m114 : jg_M) => (if jg_wr z115 = 0 then KI 0 m114 else ((0 : Int) ≤ s ∧ s < (7 : Int)) ∧ ∀ m116 : jg_M, m116 = jg_sI m114 (G + 3) s (m114.1 a 8) → jg_CI w 3 mm_X9_takeLineEnd [.ref a] m116 (fun (z118 : Int) (m117 : jg_M) => ((jg_wr z118 = 0 ∨ jg_wr z118 = 1) ∧ KI z118 m117)))) := by
          intro τ2 v1 q1 hf2 hB2 hq1 h42 hG2 hk2
          have hs2 := (kt_tk_le (B := B) hq1)
          have hv1 := kt_tk_v1 (B := B) hq1
          refine jb_X9_takeNumber_0 h0 (jc_advance h0 hB2 hq1 h42 (fun τ3 hfa3 hC3 => ?_))
          have hf3 := kW_ad_cp hf2 hfa3
          unfold kt_no at hk2
          rw [hC3.1, jr_wr (show jr (kt_tk B n q1).1 by omega)]
          refine jn_ite (fun h1' => ?_) (fun h1' => ?_)
          · rw [if_pos h1'] at hk2
            have hvv1 := hv1 h1'
            rw [hC3.2.2.2.2 h1', jr_wr (show jr (kt_tk B n q1).2.2.2 by omega), show jg_wr 0 = 0 from rfl, show jg_wr 2 = 2 from rfl]
            refine jn_ite (fun hlt => by omega) (fun hge => jn_ite (fun hle => ?_) (fun hgt => ?_))
            · rw [if_pos ⟨by omega, hle⟩] at hk2
              refine jn_ite (fun h => absurd h (by decide)) (fun _ => ?_)
              refine ⟨by omega, ?_⟩
              intro τ4 hτ4
              have hf4 : jF (fun c i => c = G + 3) τ3 τ4 := by rw [hτ4]; exact jF_I rfl
              have hG3 := kt_GC_fr hG2 hfa3 (fun i q => by unfold kW_ad at q; omega) (fun c i c1 c2 q => by unfold kW_ad at q; omega)
              have hB3 := kt_By_fr hB2 hfa3 (fun q => by unfold kW_ad at q; omega) (fun i q => by unfold kW_ad at q; omega)
              have eu : ∀ (i : Nat) (j : Int), (i ≠ 2 ∨ j ≠ s) → kt_up (kt_up g 1 s v1) 2 s (kt_tk B n q1).2.2.2 i j = kt_up g 1 s v1 i j := fun i j h => kt_up_ne h
              have e1 : ∀ (i : Nat) (j : Int), i ≠ 1 → kt_up g 1 s v1 i j = g i j := fun i j h => kt_up_ne (Or.inl h)
              refine jc_lineEnd (g := kt_up (kt_up g 1 s v1) 2 s (kt_tk B n q1).2.2.2) h0 haG (kt_By_fr hB3 hf4 (fun q => by omega) (fun i q => by omega)) hs2.2.2.1 (by rw [hf4.1 _ _ (by omega)]; exact hC3.2.2.1) ?_ (jF_tr hf3 (jF_mono hf4 (fun c i q => by unfold kW_cp; omega))) (kt_PC_01 hk2)
              obtain ⟨⟨a0, a1, a2, a3, a4⟩, b, c, d⟩ := hG3
              have eu0 : ∀ j, kt_up (kt_up g 1 s v1) 2 s (kt_tk B n q1).2.2.2 0 j = kt_up g 1 s v1 0 j := fun j => eu 0 j (Or.inl (by decide))
              rw [eu0, e1 0 2 (by decide)]
              refine ⟨⟨?_, ?_, ?_, ?_, ?_⟩, fun s' hss' => ?_, fun t t0 t1 => ⟨?_, ?_⟩, fun r r0 r1 => ?_⟩
              · rw [hf4.1 _ _ (by omega), a0, eu0]
              · rw [hf4.1 _ _ (by omega), a1, eu0]
              · rw [hf4.1 _ _ (by omega), a2, eu0]
              · rw [hf4.1 _ _ (by omega), a3, eu0]
              · rw [hf4.1 _ _ (by omega), a4, eu0]
              · rw [hf4.1 _ _ (by omega), eu 6 s' (Or.inl (by decide))]
                exact b s' (by unfold jn_isS at hss' ⊢; rw [eu0, eu0] at hss'; exact hss')
              · rw [hf4.1 _ _ (by omega), eu 1 t (Or.inl (by decide))]
                exact (c t t0 t1).1
              · by_cases hts : t = s
                · rw [hts, hτ4, js_Is, kt_up_at]
                · rw [hτ4, js_In (Or.inr hts), eu 2 t (Or.inr hts)]
                  exact (c t t0 t1).2
              · rw [hf4.1 _ _ (by omega), hf4.1 (G + 5) _ (by omega), eu 3 r (Or.inl (by decide)), eu 4 r (Or.inl (by decide))]
                refine ⟨(d r r0 r1).1, (d r r0 r1).2.1, fun e e0 e1' => ?_⟩
                rw [hf4.1 _ _ (by omega), eu 5 _ (Or.inl (by decide))]
                exact (d r r0 r1).2.2 e e0 e1'
            · rw [if_neg (by omega)] at hk2
              exact jc_refuse (k := (kt_tk B n q1).2.1) h0 haG hf3 hC3.2.1 rfl (kt_PC_in hk2 (fun τ h => (if_pos (show jg_wr 0 = 0 from rfl)).mpr ((if_pos (show jg_wr 0 = 0 from rfl)).mpr h)))
          · rw [if_neg h1'] at hk2
            exact jc_refuse (k := (kt_tk B n q1).2.1) h0 haG hf3 hC3.2.1 rfl (kt_PC_01 (kt_PC_in hk2 (fun τ h => (if_pos (show jg_wr 0 = 0 from rfl)).mpr h)))
        have hp2 : (kt_tk B n p).2.2.1 ≤ n := hs.2.2.1
        have hC4 := hC.2.2.1
        generalize (kt_tk B n p).2.2.1 = p2 at *
        have hs2 := (kt_tk_le (B := B) hp2)
        have hv1 := kt_tk_v1 (B := B) hp2
        refine jb_X9_takeNumber_0 h0 (jc_advance h0 hBτ hp2 hC4 (fun τ3 hfa3 hC3 => ?_))
        have hf3 := kW_ad_cp hfτ hfa3
        unfold kt_no at hk
        rw [hC3.1, jr_wr (show jr (kt_tk B n p2).1 by omega)]
        refine jn_ite (fun h1' => ?_) (fun h1' => ?_)
        · rw [if_pos h1'] at hk
          have hvv1 := hv1 h1'
          rw [hC3.2.2.2.2 h1', jr_wr (show jr (kt_tk B n p2).2.2.2 by omega), show jg_wr 1 = 1 from rfl, show jg_wr 9 = 9 from rfl]
          refine jn_ite (fun hlt => ?_) (fun hge => jn_ite (fun hle => ?_) (fun hgt => ?_))
          · rw [if_neg (by omega)] at hk
            exact jc_refuse (k := (kt_tk B n p2).2.1) h0 haG hf3 hC3.2.1 rfl (kt_PC_in hk (fun τ h => (if_pos (show jg_wr 0 = 0 from rfl)).mpr ((if_pos (show jg_wr 0 = 0 from rfl)).mpr h)))
          · rw [if_pos ⟨by omega, hle⟩] at hk
            refine jn_ite (fun h => absurd h (by decide)) (fun _ => ?_)
            rw [jr_wr (show jr s by omega)]
            refine ⟨by omega, ?_⟩
            intro τ4 hτ4
            have hf4 : jF (fun c i => c = G + 2) τ3 τ4 := by rw [hτ4]; exact jF_I rfl
            have hG3 := kt_GC_fr hGτ hfa3 (fun i q => by unfold kW_ad at q; omega) (fun c i c1 c2 q => by unfold kW_ad at q; omega)
            have hB3 := kt_By_fr hBτ hfa3 (fun q => by unfold kW_ad at q; omega) (fun i q => by unfold kW_ad at q; omega)
            refine hfin τ4 (kt_tk B n p2).2.2.2 (kt_tk B n p2).2.2.1 (jF_tr hf3 (jF_mono hf4 (fun c i q => by unfold kW_cp; omega))) (kt_By_fr hB3 hf4 (fun q => by omega) (fun i q => by omega)) hs2.2.2.1 (by rw [hf4.1 _ _ (by omega)]; exact hC3.2.2.1) ?_ hk
            obtain ⟨⟨a0, a1, a2, a3, a4⟩, b, c, d⟩ := hG3
            have e1 : ∀ (i : Nat) (j : Int), (i ≠ 1 ∨ j ≠ s) → kt_up g 1 s (kt_tk B n p2).2.2.2 i j = g i j := fun i j h => kt_up_ne h
            have eu0 : ∀ j, kt_up g 1 s (kt_tk B n p2).2.2.2 0 j = g 0 j := fun j => e1 0 j (Or.inl (by decide))
            refine ⟨⟨?_, ?_, ?_, ?_, ?_⟩, fun s' hss' => ?_, fun t t0 t1 => ⟨?_, ?_⟩, fun r r0 r1 => ?_⟩
            · rw [hf4.1 _ _ (by omega), a0, eu0]
            · rw [hf4.1 _ _ (by omega), a1, eu0]
            · rw [hf4.1 _ _ (by omega), a2, eu0]
            · rw [hf4.1 _ _ (by omega), a3, eu0]
            · rw [hf4.1 _ _ (by omega), a4, eu0]
            · rw [hf4.1 _ _ (by omega), e1 6 s' (Or.inl (by decide))]
              exact b s' (by unfold jn_isS at hss' ⊢; rw [eu0, eu0] at hss'; exact hss')
            · by_cases hts : t = s
              · rw [hts, hτ4, js_Is, kt_up_at]
              · rw [hτ4, js_In (Or.inr hts), e1 1 t (Or.inr hts)]
                exact (c t t0 t1).1
            · rw [hf4.1 _ _ (by omega), e1 2 t (Or.inl (by decide))]
              exact (c t t0 t1).2
            · rw [hf4.1 _ _ (by omega), hf4.1 (G + 5) _ (by omega), e1 3 r (Or.inl (by decide)), e1 4 r (Or.inl (by decide))]
              refine ⟨(d r r0 r1).1, (d r r0 r1).2.1, fun e e0 e1' => ?_⟩
              rw [hf4.1 _ _ (by omega), e1 5 _ (Or.inl (by decide))]
              exact (d r r0 r1).2.2 e e0 e1'
          · rw [if_neg (by omega)] at hk
            exact jc_refuse (k := (kt_tk B n p2).2.1) h0 haG hf3 hC3.2.1 rfl (kt_PC_in hk (fun τ h => (if_pos (show jg_wr 0 = 0 from rfl)).mpr ((if_pos (show jg_wr 0 = 0 from rfl)).mpr h)))
        · rw [if_neg h1'] at hk
          exact jc_refuse (k := (kt_tk B n p2).2.1) h0 haG hf3 hC3.2.1 rfl (kt_PC_01 (kt_PC_in hk (fun τ h => (if_pos (show jg_wr 0 = 0 from rfl)).mpr h)))
      · rw [if_neg hnz] at hk
        exact jc_refuse (k := (kt_tk B n p).2.1) h0 haG hfτ hC.2.1 rfl (kt_PC_01 hk)
theorem jc_line (h0 : jg_sh a = (9, 0)) (h1 : jg_sh G = (0, 0)) (haG : a + 1 < G) (hB : kt_By σ a B n) (hp : p ≤ n) (hC : kt_Ca σ a (kt_tk B n p)) (hG : kt_GC σ G g (g 0 2)) (hok : kt_ok g) (hf : jF (kW_cp a G) σ0 σ) (hk : kt_PC σ0 a G (kt_li B n g p) KI) : jg_CI w 5 mm_X9_takeLine [.ref a, .ref G] σ KI := by
  have hs := (kt_tk_le (B := B) hp)
  have hv0 := kt_tk_v0 (B := B) hp
  unfold kt_li at hk
  refine jb_X9_takeLine_0 h0 h1 ?_
  rw [hC.1, jr_wr (show jr (kt_tk B n p).1 by omega)]
  refine jn_ite (fun hw0 => ?_) (fun hw0 => ?_)
  · rw [if_pos hw0] at hk
    have hv := hv0 hw0
    rw [hC.2.2.2.1 hw0, jr_wr (show jr (kt_tk B n p).2.2.2 by omega)]
    have hkey : kt_key (kt_tk B n p).2.2.2 = (if (kt_tk B n p).2.2.2 = 687183296 then 0 else if (kt_tk B n p).2.2.2 = 378998784 then 1 else if (kt_tk B n p).2.2.2 = 626398208 then 2 else if (kt_tk B n p).2.2.2 = 605498368 then 3 else -1) := rfl
    refine jn_ite (fun e => ?_) (fun e1 => jn_ite (fun e => ?_) (fun e2 => jn_ite (fun e => ?_) (fun e3 => jn_ite (fun e => ?_) (fun e4 => ?_))))
    · rw [if_neg (by omega), if_pos e] at hkey
      rw [hkey, if_neg (by decide), if_pos rfl] at hk
      exact jc_nmK (k := (kt_tk B n p).2.1) h0 h1 haG hB hs.2.2.1 hC.2.2.1 hC.2.1 hG hok hf (kt_PC_01 hk)
    · rw [if_neg (by omega), if_neg (by omega), if_neg (by omega), if_pos e] at hkey
      rw [hkey, if_neg (by decide), if_neg (by decide), if_neg (by decide), if_pos rfl] at hk
      exact jc_raL h0 h1 haG hB hs.2.2.1 hC.2.2.1 hG hok hf (kt_PC_01 hk)
    · rw [if_neg (by omega), if_neg (by omega), if_pos e] at hkey
      rw [hkey, if_neg (by decide), if_neg (by decide), if_pos rfl] at hk
      exact jc_ruL (k := (kt_tk B n p).2.1) h0 h1 haG hB hs.2.2.1 hC.2.2.1 hC.2.1 hG hok hf (kt_PC_01 hk)
    · rw [if_pos e] at hkey
      rw [hkey, if_pos rfl] at hk
      exact jc_nmT (k := (kt_tk B n p).2.1) h0 h1 haG hB hs.2.2.1 hC.2.2.1 hC.2.1 hG hok hf (kt_PC_01 hk)
    · rw [if_neg e4, if_neg e1, if_neg e3, if_neg e2] at hkey
      rw [hkey, if_neg (by decide), if_neg (by decide), if_neg (by decide), if_neg (by decide)] at hk
      exact jc_refuse (k := (kt_tk B n p).2.1) h0 haG hf hC.2.1 rfl (kt_PC_01 hk)
  · rw [if_neg hw0] at hk
    exact jc_refuse (k := (kt_tk B n p).2.1) h0 haG hf hC.2.1 rfl (kt_PC_01 hk)
end KTJ
