/-! TEXT: its LINES, in the class -/
def kt_GC (σ : jg_M) (G : Nat) (g : gM) (m : Int) : Prop := (σ.1 G 0 = g 0 0 ∧ σ.1 G 1 = g 0 1 ∧ σ.1 G 2 = g 0 2 ∧ σ.1 G 3 = g 0 3 ∧ σ.1 G 4 = g 0 4) ∧ (∀ s, jn_isS g s → σ.1 (G + 1) s = g 6 s) ∧ (∀ t, 0 ≤ t → t < 7 → σ.1 (G + 2) t = g 1 t ∧ σ.1 (G + 3) t = g 2 t) ∧
  ∀ r, 0 ≤ r → r < m → σ.1 (G + 4) r = g 3 r ∧ σ.1 (G + 5) r = g 4 r ∧ ∀ d, 0 ≤ d → d < g 4 r → σ.1 (G + 6) (r * 4 + d) = g 5 (r * 4 + d)
def kW_cp (a G : Nat) (c : Nat) (i : Int) : Prop := (c = a ∧ 4 ≤ i ∧ i ≤ 8) ∨ (c = G ∧ 0 ≤ i ∧ i ≤ 2) ∨ (G + 1 ≤ c ∧ c ≤ G + 6)
def kW_cf (a G : Nat) (c : Nat) (i : Int) : Prop := (c = a ∧ (i = 0 ∨ i = 1)) ∨ kW_cp a G c i
/-- what a line's method owes -/
def kt_PC (σ0 : jg_M) (a G : Nat) (R : kt_R) (KI : Int → jg_M → Prop) : Prop := (∀ e pl, R = .inl (e, pl) → ∀ τ, jF (kW_cf a G) σ0 τ → τ.1 a 0 = e → τ.1 a 1 = pl → KI 0 τ) ∧ ∀ g' p', R = .inr (g', p') → ∀ τ, jF (kW_cp a G) σ0 τ → kt_GC τ G g' (g' 0 2) → τ.1 a 4 = (p' : Nat) → KI 1 τ
section KTG
variable {w : Nat} {σ σ0 τ : jg_M} {a G n p k : Nat} {B : Nat → Int} {g g' : gM} {m c : Int} {t : kt_T} {R : kt_R} {KV : jg_M → Prop} {KI : Int → jg_M → Prop} {x : Int}
theorem kt_PC_01 (h : kt_PC σ0 a G R KI) : kt_PC σ0 a G R (fun z τ => (jg_wr z = 0 ∨ jg_wr z = 1) ∧ KI z τ) := ⟨fun e pl he τ hf h0 h1 => ⟨Or.inl rfl, h.1 e pl he τ hf h0 h1⟩, fun g' p' he τ hf hG h4 => ⟨Or.inr rfl, h.2 g' p' he τ hf hG h4⟩⟩
theorem kt_PC_if (h : kt_PC σ0 a G R KI) : kt_PC σ0 a G R (fun z τ => if jg_wr z = 0 then KI 0 τ else KI 1 τ) := ⟨fun e pl he τ hf h0 h1 => by show (if jg_wr 0 = 0 then _ else _); rw [if_pos (show jg_wr 0 = 0 from rfl)]; exact h.1 e pl he τ hf h0 h1, fun g' p' he τ hf hG h4 => by show (if jg_wr 1 = 0 then _ else _); rw [if_neg (show ¬ jg_wr 1 = 0 by decide)]; exact h.2 g' p' he τ hf hG h4⟩
theorem kt_PC_in {e pl : Int} {Q : Int → jg_M → Prop} (hk : kt_PC σ0 a G (.inl (e, pl)) KI) (hq : ∀ τ, KI 0 τ → Q 0 τ) : kt_PC σ0 a G (.inl (e, pl)) Q := ⟨fun e' pl' he τ hf h0 h1 => hq τ (hk.1 e' pl' he τ hf h0 h1), fun g' p' he => by cases he⟩
theorem kt_GC_Gr (h : kt_GC σ G g m) (hm : g 0 2 ≤ m) (hW : jn_GW g) : jn_Gr σ G g := by
  have hw := hW.1
  exact ⟨h.1, fun r r0 r1 => h.2.2.2 r r0 (by omega), fun t t0 t1 => h.2.2.1 t t0 (by omega)⟩
theorem kt_GC_fr {W : Nat → Int → Prop} (h : kt_GC σ G g m) (hf : jF W σ τ) (h1 : ∀ i, ¬ W G i) (h2 : ∀ c i, G + 1 ≤ c → c ≤ G + 6 → ¬ W c i) : kt_GC τ G g m := by
  obtain ⟨⟨a0, a1, a2, a3, a4⟩, b, c, d⟩ := h
  refine ⟨⟨(hf.1 _ _ (h1 _)).trans a0, (hf.1 _ _ (h1 _)).trans a1, (hf.1 _ _ (h1 _)).trans a2, (hf.1 _ _ (h1 _)).trans a3, (hf.1 _ _ (h1 _)).trans a4⟩, fun s hs => (hf.1 _ _ (h2 _ _ (by omega) (by omega))).trans (b s hs), fun t t0 t1 => ⟨(hf.1 _ _ (h2 _ _ (by omega) (by omega))).trans (c t t0 t1).1, (hf.1 _ _ (h2 _ _ (by omega) (by omega))).trans (c t t0 t1).2⟩, fun r r0 r1 => ⟨(hf.1 _ _ (h2 _ _ (by omega) (by omega))).trans (d r r0 r1).1, (hf.1 _ _ (h2 _ _ (by omega) (by omega))).trans (d r r0 r1).2.1, fun e e0 e1 => (hf.1 _ _ (h2 _ _ (by omega) (by omega))).trans ((d r r0 r1).2.2 e e0 e1)⟩⟩
theorem jc_symbolNamed (h0 : jg_sh G = (0, 0)) (hG : kt_GC σ G g m) (hm : g 0 2 ≤ m) (hok : kt_ok g) (hc : jr c) (hk : KI (kt_fd g c) σ) : jg_CI w 2 mm_X0_symbolNamed [.ref G, .int (.ofInt c)] σ KI := by
  have hGr := kt_GC_Gr hG hm hok.1.1
  have hloop : ∀ (f : Nat) (s : Int), s + f = 15 → 0 ≤ s → KI (kt_fs g c f s) σ → jg_GI w 2 mm_X0_symbolNamed 2 [.ref G, .int (.ofInt c), .int (.ofInt s)] σ KI := by
    intro f
    induction f with
    | zero =>
      intro s hs s0 hk
      refine jb_X0_symbolNamed_2 h0 ?_
      rw [jr_wr (by omega)]
      exact jn_ite (fun _ => hk) (fun h => by omega)
    | succ f ih =>
      intro s hs s0 hk
      refine jb_X0_symbolNamed_2 h0 ?_
      rw [jr_wr (show jr s by omega)]
      refine jn_ite (fun h => by omega) (fun _ => jc_X0_hasSymbol h0 hGr hok.1.1 (by omega) (jn_if (fun hno => ?_) (fun hyes => ⟨by omega, ?_⟩)))
      · have e : kt_fs g c (f + 1) s = kt_fs g c f (s + 1) := if_neg (fun q => hno q.1)
        rw [e] at hk
        exact ih (s + 1) (by omega) (by omega) hk
      · have hr := hok.2.1 s hyes
        rw [hG.2.1 s hyes, jr_wr (show jr (g 6 s) by omega), jr_wr hc]
        refine jn_ite (fun he => ?_) (fun he => ?_)
        · have e : kt_fs g c (f + 1) s = s := if_pos ⟨hyes, he⟩
          rw [e] at hk
          exact hk
        · have e : kt_fs g c (f + 1) s = kt_fs g c f (s + 1) := if_neg (fun q => he q.2)
          rw [e] at hk
          exact ih (s + 1) (by omega) (by omega) hk
  exact jb_X0_symbolNamed_0 h0 (hloop 15 0 (by omega) (by omega) hk)
theorem jc_isName (h0 : jg_sh a = (9, 0)) (hC : kt_Ca σ a (kt_tk B n p)) (hp : p ≤ n) (hk : KI (jn_b (kt_nm (kt_tk B n p))) σ) : jg_CI w 0 mm_X9_isName [.ref a] σ KI := by
  have hs := (kt_tk_le (B := B) hp).2.2.2.2
  have hv0 := kt_tk_v0 (B := B) hp
  unfold kt_nm kt_key at hk
  generalize kt_tk B n p = t at *
  refine jb_X9_isName_0 h0 ?_
  rw [hC.1, jr_wr (show jr t.1 by omega)]
  refine jn_ite (fun h => ?_) (fun h => ?_)
  · have hv := hv0 h
    rw [hC.2.2.2.1 h, jr_wr (show jr t.2.2.2 by omega)]
    refine jn_ite (fun h1 => ?_) (fun h1 => jn_ite (fun h2 => ?_) (fun h2 => jn_ite (fun h3 => ?_) (fun h3 => jn_ite (fun h4 => ?_) (fun h4 => ?_))))
    · rw [if_pos h1, jn_b_f (fun q => absurd q.2 (by decide))] at hk; exact hk
    · rw [if_neg h1, if_pos h2, jn_b_f (fun q => absurd q.2 (by decide))] at hk; exact hk
    · rw [if_neg h1, if_neg h2, if_pos h3, jn_b_f (fun q => absurd q.2 (by decide))] at hk; exact hk
    · rw [if_neg h1, if_neg h2, if_neg h3, if_pos h4, jn_b_f (fun q => absurd q.2 (by decide))] at hk; exact hk
    · rw [if_neg h1, if_neg h2, if_neg h3, if_neg h4, jn_b_t ⟨h, by decide⟩] at hk; exact hk
  · rw [jn_b_f (fun q => h q.1)] at hk; exact hk
theorem jc_refuse (h0 : jg_sh a = (9, 0)) (haG : a + 1 < G) (hf : jF (kW_cp a G) σ0 σ) (h6 : σ.1 a 6 = (k : Nat)) (he : R = .inl (c, (k : Nat))) (hk : kt_PC σ0 a G R KI) : jg_CI w 1 mm_X9_refuse [.ref a, .int (.ofInt c)] σ KI := by
  refine jb_X9_refuse_0 h0 (jb_X9_blame_0 h0 ?_)
  rintro _ rfl _ rfl
  refine hk.1 c (k : Nat) he _ (jF_toI (jF_toI (jF_mono hf (fun c i q => Or.inr q)) (Or.inl ⟨rfl, by omega⟩)) (Or.inl ⟨rfl, by omega⟩)) (by rw [js_In (Or.inr (by omega)), js_Is]) ?_
  rw [js_Is, h6]
theorem kW_ad_cp (hf : jF (kW_cp a G) σ0 σ) (h : jF (kW_ad a) σ τ) : jF (kW_cp a G) σ0 τ := jF_tr hf (jF_mono h (fun c i q => by unfold kW_ad at q; unfold kW_cp; omega))
theorem jc_lineEnd (h0 : jg_sh a = (9, 0)) (haG : a + 1 < G) (hB : kt_By σ a B n) (hp : p ≤ n) (h4 : σ.1 a 4 = (p : Nat)) (hG : kt_GC σ G g (g 0 2)) (hf : jF (kW_cp a G) σ0 σ) (hk : kt_PC σ0 a G (kt_end B n g p) KI) : jg_CI w 3 mm_X9_takeLineEnd [.ref a] σ KI := by
  have hs := (kt_tk_le (B := B) hp)
  refine jb_X9_takeLineEnd_0 h0 (jc_advance h0 hB hp h4 (fun τ hfa hC => ?_))
  have hfτ := kW_ad_cp hf hfa
  rw [hC.1, jr_wr (show jr (kt_tk B n p).1 by omega)]
  refine jn_ite (fun h => ?_) (fun h => ?_)
  · refine hk.2 g (kt_tk B n p).2.2.1 (by unfold kt_end; rw [if_pos h]) τ hfτ (kt_GC_fr hG hfa (fun i q => by unfold kW_ad at q; omega) (fun c i c1 c2 q => by unfold kW_ad at q; omega)) hC.2.2.1
  · exact jc_refuse (k := (kt_tk B n p).2.1) h0 haG hfτ hC.2.1 (by unfold kt_end; rw [if_neg h]) (kt_PC_if hk)
theorem kt_isS_T (hv : jn_GW g) {s : Int} : jn_isS (kt_aT g x) s ↔ jn_isS g s ∨ s = g 0 0 := by
  have hw := hv.1
  have e0 : kt_aT g x 0 0 = g 0 0 + 1 := kt_up_at
  have e1 : kt_aT g x 0 1 = g 0 1 := by unfold kt_aT; rw [kt_up_ne (Or.inr (by decide)), kt_up_ne (Or.inl (by decide))]
  unfold jn_isS
  rw [e0, e1]
  omega
theorem kt_isS_K (hv : jn_GW g) {s : Int} : jn_isS (kt_aK g x) s ↔ jn_isS g s ∨ s = 10 + g 0 1 := by
  have hw := hv.1
  have e0 : kt_aK g x 0 0 = g 0 0 := by unfold kt_aK; rw [kt_up_ne (Or.inr (by decide)), kt_up_ne (Or.inl (by decide))]
  have e1 : kt_aK g x 0 1 = g 0 1 + 1 := kt_up_at
  unfold jn_isS
  rw [e0, e1]
  omega
theorem jc_nmT (h0 : jg_sh a = (9, 0)) (h1 : jg_sh G = (0, 0)) (haG : a + 1 < G) (hB : kt_By σ a B n) (hp : p ≤ n) (h4 : σ.1 a 4 = (p : Nat)) (h6 : σ.1 a 6 = (k : Nat)) (hG : kt_GC σ G g (g 0 2)) (hok : kt_ok g) (hf : jF (kW_cp a G) σ0 σ) (hk : kt_PC σ0 a G (kt_nmL B n true g k p) KI) : jg_CI w 4 mm_X9_takeToken [.ref a, .ref G] σ KI := by
  have hw := hok.1.1.1
  have hs := (kt_tk_le (B := B) hp)
  refine jb_X9_takeToken_0 h0 h1 ?_
  rw [hG.1.1, jr_wr (show jr (g 0 0) by omega)]
  unfold kt_nmL at hk
  refine jn_ite (fun hlt => jc_advance h0 hB hp h4 (fun τ hfa hC => ?_)) (fun hge => jc_refuse h0 haG hf h6 (by rw [if_pos (show (if true = true then 7 ≤ g 0 0 else 5 ≤ g 0 1) by rw [if_pos rfl]; omega)]) (kt_PC_01 hk))
  rw [if_neg (show ¬ (if true = true then 7 ≤ g 0 0 else 5 ≤ g 0 1) by rw [if_pos rfl]; omega)] at hk
  have hfτ := kW_ad_cp hf hfa
  have hGτ := kt_GC_fr hG hfa (fun i q => by unfold kW_ad at q; omega) (fun c i c1 c2 q => by unfold kW_ad at q; omega)
  have hBτ := kt_By_fr hB hfa (fun q => by unfold kW_ad at q; omega) (fun i q => by unfold kW_ad at q; omega)
  refine jb_X9_isNewName_0 h0 h1 (jc_isName h0 hC hp (jn_if (fun hno => ?_) (fun hyes => ?_)))
  · rw [if_neg hno] at hk
    exact jc_refuse (k := (kt_tk B n p).2.1) h0 haG hfτ hC.2.1 rfl (kt_PC_01 (kt_PC_in hk (fun τ h => (if_pos (show jg_wr 0 = 0 from rfl)).mpr h)))
  · rw [if_pos hyes] at hk
    have hv := kt_tk_v0 (B := B) hp hyes.1
    have hfr := kt_fd_rng (c := (kt_tk B n p).2.2.2) hok.1.1
    rw [hC.2.2.2.1 hyes.1]
    refine jc_symbolNamed h1 hGτ (Int.le_refl _) hok (by omega) ?_
    rw [jr_wr (show jr (kt_fd g (kt_tk B n p).2.2.2) by omega)]
    refine jn_ite (fun hneg => ?_) (fun hpos => ?_)
    · rw [if_neg (by omega)] at hk
      refine jn_ite (fun h => absurd h (by decide)) (fun _ => jb_X0_addToken_0 h1 ?_)
      rw [hGτ.1.1, jr_wr (show jr (g 0 0) by omega)]
      refine jn_ite (fun h => by omega) (fun _ => ⟨by omega, ?_⟩)
      rw [hC.2.2.2.1 hyes.1]
      rintro _ rfl _ rfl
      generalize hvv : (kt_tk B n p).2.2.2 = v at *
      rw [js_In (Or.inl (by omega)), hGτ.1.1]
      rw [if_pos rfl] at hk
      have hf2 : jF (fun c i => (c = G + 1) ∨ (c = G ∧ i = 0)) τ (jg_sI (jg_sI τ (G + 1) (g 0 0) v) G 0 (g 0 0 + 1)) := jF_toI (jF_I (Or.inl rfl)) (Or.inr ⟨rfl, rfl⟩)
      have hf2' : jF (kW_cp a G) σ0 (jg_sI (jg_sI τ (G + 1) (g 0 0) v) G 0 (g 0 0 + 1)) := jF_tr hfτ (jF_mono hf2 (fun c i q => by unfold kW_cp; omega))
      have e2 : kt_aT g v 0 2 = g 0 2 := by unfold kt_aT; rw [kt_up_ne (Or.inr (by decide)), kt_up_ne (Or.inl (by decide))]
      refine jc_lineEnd (g := kt_aT g v) h0 haG (kt_By_fr hBτ hf2 (fun q => by omega) (fun i q => by omega)) hs.2.2.1 (by rw [hf2.1 _ _ (by omega)]; exact hC.2.2.1) ?_ hf2' (kt_PC_01 hk)
      obtain ⟨⟨a0, a1, a2, a3, a4⟩, b, c, d⟩ := hGτ
      have eo : ∀ (i : Nat) (j : Int), i ≠ 6 → (i ≠ 0 ∨ j ≠ 0) → kt_aT g v i j = g i j := fun i j h1 h2 => by unfold kt_aT; rw [kt_up_ne h2, kt_up_ne (Or.inl h1)]
      rw [e2]
      refine ⟨⟨?_, ?_, ?_, ?_, ?_⟩, fun s hss => ?_, fun t t0 t1 => ?_, fun r r0 r1 => ?_⟩
      · rw [js_Is]; exact kt_up_at.symm
      · rw [js_In (Or.inr (by decide)), js_In (Or.inl (by omega)), a1, eo 0 1 (by decide) (by decide)]
      · rw [js_In (Or.inr (by decide)), js_In (Or.inl (by omega)), a2, eo 0 2 (by decide) (by decide)]
      · rw [js_In (Or.inr (by decide)), js_In (Or.inl (by omega)), a3, eo 0 3 (by decide) (by decide)]
      · rw [js_In (Or.inr (by decide)), js_In (Or.inl (by omega)), a4, eo 0 4 (by decide) (by decide)]
      · rw [js_In (Or.inl (by omega))]
        unfold kt_aT
        rw [kt_up_ne (Or.inl (by decide))]
        by_cases hsn : s = g 0 0
        · rw [hsn, js_Is, kt_up_at]
        · rw [js_In (Or.inr hsn), kt_up_ne (Or.inr hsn)]
          exact b s (((kt_isS_T hok.1.1).mp hss).resolve_right hsn)
      · rw [js_In (Or.inl (by omega)), js_In (Or.inl (by omega)), js_In (Or.inl (by omega)), js_In (Or.inl (by omega)), eo 1 t (by decide) (Or.inl (by decide)), eo 2 t (by decide) (Or.inl (by decide))]
        exact c t t0 t1
      · rw [js_In (Or.inl (by omega)), js_In (Or.inl (by omega)), js_In (Or.inl (by omega)), js_In (Or.inl (by omega)), eo 3 r (by decide) (Or.inl (by decide)), eo 4 r (by decide) (Or.inl (by decide))]
        refine ⟨(d r r0 r1).1, (d r r0 r1).2.1, fun e e0 e1 => ?_⟩
        rw [js_In (Or.inl (by omega)), js_In (Or.inl (by omega)), eo 5 _ (by decide) (Or.inl (by decide))]
        exact (d r r0 r1).2.2 e e0 e1
    · rw [if_pos (by omega)] at hk
      exact jc_refuse (k := (kt_tk B n p).2.1) h0 haG hfτ hC.2.1 rfl (kt_PC_in hk (fun τ h => (if_pos (show jg_wr 0 = 0 from rfl)).mpr ((if_pos (show jg_wr 0 = 0 from rfl)).mpr h)))
end KTG
