/-! TEXT: all its LINES, in the reference -/
def kW_tp (c : Nat) (i : Int) : Prop := (c = 92 ∧ (i = 1 ∨ i = 2 ∨ (4 ≤ i ∧ i ≤ 6))) ∨ kW_mp c i
def kW_pl (c : Nat) (i : Int) : Prop := (92 + 3 ≤ c ∧ c ≤ 92 + 5 ∧ 1 ≤ i) ∨ ((c = 92 + 8 ∨ c = 92 + 9) ∧ 7 ≤ i)
section KTP
variable {w : Nat} {σ σ0 τ : jg_M} {a n0 n p k : Nat} {B : Nat → Int} {g g' : gM} {m c b lo hi : Int} {t : kt_T} {R : kt_R} {KV : jg_M → Prop} {KI : Int → jg_M → Prop} {x v e : Int}
theorem jm_tail (hB : kt_Bm σ0 B n) (hWd : kt_Wd σ0) (hk : kt_PL B n σ0 R KI) : kt_PN B n σ0 R (fun (z102 : Int) (m101 : jg_M) => (if jg_wr z102 = 0 then KI 0 m101 else jg_CI w 0 mm_X12_isSign [.ref 92, .int (.ofInt 59)] m101 (fun (z104 : Int) (m103 : jg_M) => (if jg_wr z104 = 0 then jg_CI w 0 mm_X12_wrong [.ref 92, .int (.ofInt 1)] m103 (fun (z106 : Int) (m105 : jg_M) => ((jg_wr z106 = 0 ∨ jg_wr z106 = 1) ∧ KI z106 m105)) else jg_CV w 1 mm_X12_nextToken [.ref 92] m103 (fun (m107 : jg_M) => KI 1 m107))))) := by
  refine ⟨fun e pl he τ hf h4 h5 => ?_, fun g1 p1 hp1 he τ hf hG hM => ?_⟩
  · show (if jg_wr 0 = 0 then _ else _)
    rw [if_pos (show jg_wr 0 = 0 from rfl)]
    exact hk.1 e pl he τ hf h4 h5
  · have hs := (kt_tk_le (B := B) hp1)
    show (if jg_wr 1 = 0 then _ else _)
    rw [if_neg (show ¬ jg_wr 1 = 0 by decide)]
    unfold kt_end at he
    refine jm_isSign hM hs.2.2.2.2 (jn_if (fun hno => ?_) (fun hyes => ?_))
    · rw [if_neg hno] at he
      exact jm_wrong hf hM.1 (fun τ3 hf3 g0 g1 => ⟨Or.inl rfl, hk.1 _ _ he τ3 hf3 g0 g1⟩)
    · rw [if_pos hyes] at he
      refine jm_nextToken (kt_Bm_fr hB hf (fun q => by unfold kW_mp at q; omega) (fun i q => by unfold kW_mp at q; omega)) (kt_Wd_fr hWd hf (fun i q => by unfold kW_mp at q; omega)) hs.2.2.1 (hM.2.1 (by omega)) (fun τ2 hf2 hM2 => ?_)
      exact hk.2 g1 _ he τ2 (kW_nx_mp hf hf2) (kt_GM_fr hG hf2 (fun c i c1 c2 q => by unfold kW_nx at q; omega)) hM2
theorem jm_lineRead (hB : kt_Bm σ B n) (hWd : kt_Wd σ) (hp : p ≤ n) (hM : kt_Mt σ (kt_tk B n p)) (hG : kt_GM σ 1 g (g 0 2)) (hok : kt_ok g) (hk : kt_PL B n σ (kt_li B n g p) KI) : jg_CI w 4 mm_X12_lineRead [.ref 92] σ KI := by
  have hs := (kt_tk_le (B := B) hp)
  have hkr := kt_key_rng (kt_tk B n p).2.2.2
  obtain ⟨q1, _, q3, _⟩ := kt_Mt_k hM hs.2.2.2.2
  unfold kt_li at hk
  refine jb_X12_lineRead_0 rfl ?_
  rw [jr_wr (show jr (σ.1 92 8) by omega)]
  refine jn_ite (fun h1 => ?_) (fun h1 => ?_)
  · have hc := q3.mp h1
    have h9 := ((hM.2.2.2.1 hc.1).1 hc.2).2
    have h7 := hM.2.1 (by omega)
    rw [if_pos hc.1] at hk
    rw [h9, jr_wr (show jr (kt_key (kt_tk B n p).2.2.2) by omega)]
    refine jn_ite (fun e => ?_) (fun e1 => jn_ite (fun e => ?_) (fun e2 => jn_ite (fun e => ?_) (fun e3 => ?_)))
    · rw [if_pos e] at hk
      have := jm_nameLine (w := w) (σ0 := σ) (g := g) (tok := true) hB hWd hp hM hG hok jF_rf hc.1 (jm_tail (w := w) hB hWd hk)
      exact this
    · rw [if_neg e1, if_pos e] at hk
      have := jm_nameLine (w := w) (σ0 := σ) (g := g) (tok := false) hB hWd hp hM hG hok jF_rf hc.1 (jm_tail (w := w) hB hWd hk)
      exact this
    · rw [if_neg e1, if_neg e2, if_pos e] at hk
      exact jm_ruleLine hB hWd hs.2.2.1 h7 hM.1 hG hok jF_rf (jm_tail hB hWd hk)
    · rw [if_neg e1, if_neg e2, if_neg e3, if_pos (by omega)] at hk
      exact jm_rankLine hB hWd hs.2.2.1 h7 hG hok jF_rf (jm_tail hB hWd hk)
  · have he : (if (kt_tk B n p).1 = 0 then (if kt_key (kt_tk B n p).2.2.2 = 0 then kt_nmL B n true g (kt_tk B n p).2.1 (kt_tk B n p).2.2.1
     else if kt_key (kt_tk B n p).2.2.2 = 1 then kt_nmL B n false g (kt_tk B n p).2.1 (kt_tk B n p).2.2.1
     else if kt_key (kt_tk B n p).2.2.2 = 2 then kt_ruL B n g (kt_tk B n p).2.1 (kt_tk B n p).2.2.1
     else if kt_key (kt_tk B n p).2.2.2 = 3 then kt_raL B n g (kt_tk B n p).2.2.1
     else .inl (1, ((kt_tk B n p).2.1 : Nat))) else .inl (1, ((kt_tk B n p).2.1 : Nat))) = (.inl (1, ((kt_tk B n p).2.1 : Nat)) : kt_R) := by
      by_cases h0 : (kt_tk B n p).1 = 0
      · have : kt_key (kt_tk B n p).2.2.2 < 0 := Classical.byContradiction (fun q => h1 (q3.mpr ⟨h0, by omega⟩))
        rw [if_pos h0, if_neg (by omega), if_neg (by omega), if_neg (by omega), if_neg (by omega)]
      · rw [if_neg h0]
    exact jm_wrong (σ0 := σ) jF_rf hM.1 (fun τ3 hf3 g0 g1 => ⟨Or.inl rfl, hk.1 _ _ he τ3 hf3 g0 g1⟩)
theorem jm_plain (hk : ∀ τ, jF kW_pl σ τ → kt_GM τ 1 kt_g0 0 → KV τ) : jg_CV w 0 mm_X12_plain [.ref 92] σ KV := by
  have e : ∀ (i : Nat) (j : Int), (i ≠ 0 ∨ j ≠ 4) → kt_g0 i j = 0 := fun i j h => if_neg (fun q => h.elim (fun h => h q.1) (fun h => h q.2))
  have hloop : ∀ (m : Nat) (i : Int) (τ : jg_M), i + m = 14 → 7 ≤ i → jF kW_pl σ τ → (τ.1 (92 + 3) 1 = 0 ∧ τ.1 (92 + 4) 1 = 0 ∧ τ.1 (92 + 5) 1 = 0) → (∀ j, 7 ≤ j → j < i → τ.1 (92 + 8) j = 0 ∧ τ.1 (92 + 9) j = 0) → jg_GV w 0 mm_X12_plain 24 [.ref 92, .int (.ofInt i)] τ KV := by
    intro m
    induction m with
    | zero =>
      intro i τ hi i7 hf h3 hz
      refine jb_X12_plain_24 rfl ?_
      rw [jr_wr (show jr i by omega)]
      refine jn_ite (fun _ => hk τ hf ⟨⟨⟨by decide, by decide⟩, ?_, ?_, ?_⟩, ⟨fun t t0 t1 => ?_, fun t t0 t1 => ?_⟩, fun t t0 t1 => ⟨?_, ?_⟩, fun r r0 r1 => by omega⟩) (fun h => by omega)
      · rw [h3.1, e 0 0 (by decide)]
      · rw [h3.2.1, e 0 1 (by decide)]
      · rw [h3.2.2, e 0 2 (by decide)]
      · rw [e 0 0 (by decide)] at t1; omega
      · rw [e 0 1 (by decide)] at t1; omega
      · rw [e 1 t (Or.inl (by decide))]; exact (hz _ (by omega) (by omega)).1
      · rw [e 2 t (Or.inl (by decide))]; exact (hz _ (by omega) (by omega)).2
    | succ m ih =>
      intro i τ hi i7 hf h3 hz
      refine jb_X12_plain_24 rfl ?_
      rw [jr_wr (show jr i by omega)]
      refine jn_ite (fun h => by omega) (fun _ => ⟨by omega, ?_⟩)
      intro τ1 h1
      refine ⟨by omega, ?_⟩
      intro τ2 h2
      have hf2 : jF (fun c j => (c = 92 + 8 ∨ c = 92 + 9) ∧ j = i) τ τ2 := by rw [h2, h1]; exact jF_toI (jF_I ⟨Or.inl rfl, rfl⟩) ⟨Or.inr rfl, rfl⟩
      refine ih (i + 1) τ2 (by omega) (by omega) (jF_tr hf (jF_mono hf2 (fun c i q => by unfold kW_pl; omega))) ⟨(hf2.1 _ _ (by omega)).trans h3.1, (hf2.1 _ _ (by omega)).trans h3.2.1, (hf2.1 _ _ (by omega)).trans h3.2.2⟩ (fun j j0 j1 => ?_)
      by_cases hji : j = i
      · rw [hji, h2, js_Is, js_In (Or.inl (by decide)), h1, js_Is]
        exact ⟨rfl, rfl⟩
      · rw [hf2.1 _ _ (by omega), hf2.1 _ _ (by omega)]
        exact hz j j0 (by omega)
  refine jb_X12_plain_0 rfl ?_
  intro τ1 h1 τ2 h2 τ3 h3
  have hf3 : jF kW_pl σ τ3 := by
    rw [h3, h2, h1]
    exact jF_toI (jF_toI (jF_I (Or.inl ⟨by decide, by decide, by decide⟩)) (Or.inl ⟨by decide, by decide, by decide⟩)) (Or.inl ⟨by decide, by decide, by decide⟩)
  refine hloop 7 7 τ3 rfl (by decide) hf3 ⟨?_, ?_, ?_⟩ (fun j j0 j1 => by omega)
  · rw [h3, js_In (Or.inl (by decide)), h2, js_In (Or.inl (by decide)), h1, js_Is]
  · rw [h3, js_In (Or.inl (by decide)), h2, js_Is]
  · rw [h3, js_Is]
theorem kW_mp_mf (h1 : jF kW_mp σ0 σ) (h2 : jF kW_mf σ τ) : jF kW_mf σ0 τ := jF_tr (jF_mono h1 (fun c i q => Or.inr q)) h2
theorem jm_textLoop {R : (Int × Int) ⊕ (gM × Int)}
    (k0 : ∀ e pl, R = .inl (e, pl) → ∀ τ, jF kW_mf σ τ → τ.1 92 4 = e → τ.1 92 5 = pl → KI (-1) τ)
    (k1 : ∀ g' l, R = .inr (g', l) → kt_ok g' → (0 ≤ l ∧ l ≤ 700) → ∀ τ, jF kW_mp σ τ → kt_GM τ 1 g' (g' 0 2) → jg_CI w 5 mm_X12_layTables [.ref 92, .int (.ofInt 1), .int (.ofInt 1), .int (.ofInt (-1))] τ (fun (z102 : Int) (m101 : jg_M) => (if jg_wr z102 = 0 then ∀ m103 : jg_M, m103 = jg_sI m101 92 4 2 → ∀ m104 : jg_M, m104 = jg_sI m103 92 5 (n : Int) → KI (-1) m104 else jg_CV w 6 mm_X12_keepText [.ref 92] m101 (fun (m105 : jg_M) => KI l m105)))) :
    ∀ (f p : Nat) (l : Int) (g : gM) (τ : jg_M), (f : Int) + l = 701 → 0 ≤ l → l ≤ (p : Int) → p ≤ n → kt_ok g → jF kW_mp σ τ → kt_Bm τ B n → kt_Wd τ → kt_Mt τ (kt_tk B n p) → kt_GM τ 1 g (g 0 2) → kt_tx B n f l g p = R → jg_GI w 7 mm_X12_text 55 [.ref 92, .int (.ofInt (n : Int)), .int (.ofInt l)] τ KI := by
  intro f
  induction f with
  | zero => intro p l g τ hfl l0 lp hp hok hf hB; have := hB.2.1; omega
  | succ f ih =>
    intro p l g τ hfl l0 lp hp hok hf hB hWd hM hG he
    have hs := (kt_tk_le (B := B) hp)
    have hn7 := hB.2.1
    obtain ⟨q1, _, _, _, q5, _⟩ := kt_Mt_k hM hs.2.2.2.2
    refine jb_X12_text_55 rfl ?_
    unfold kt_tx at he
    rw [jr_wr (show jr (τ.1 92 8) by omega)]
    refine jn_ite (fun h0 => ?_) (fun h0 => ?_)
    · rw [if_pos (q5.mp h0)] at he
      exact k1 g l he.symm hok ⟨l0, by omega⟩ τ hf hG
    · rw [if_neg (fun q => h0 (q5.mpr q))] at he
      refine jm_lineRead hB hWd hp hM hG hok ⟨fun e pl hR τ2 hf2 g0 g1 => ?_, fun g1 p1 hR τ2 hf2 hG2 hM2 => ?_⟩
      · rw [hR] at he
        exact jn_ite (fun _ => k0 e pl he.symm τ2 (kW_mp_mf hf hf2) g0 g1) (fun h => absurd rfl h)
      · have hr := kt_li_ok hok hp hR
        rw [hR] at he
        refine jn_ite (fun h => absurd h (by decide)) (fun _ => ?_)
        exact ih p1 (l + 1) g1 τ2 (by omega) (by omega) (by omega) hr.2.2 hr.1 (jF_tr hf hf2) (kt_Bm_fr hB hf2 (fun q => by unfold kW_mp at q; omega) (fun i q => by unfold kW_mp at q; omega)) (kt_Wd_fr hWd hf2 (fun i q => by unfold kW_mp at q; omega)) hM2 hG2 he
theorem jm_text (hx : jr x) (hfed : 0 ≤ σ.1 92 1 ∧ σ.1 92 1 ≤ 700) (hB : ∀ i : Nat, (i : Int) < σ.1 92 1 → σ.1 (92 + 1) (i : Int) = B i) (hB2 : ∀ i, 0 ≤ B i ∧ B i ≤ 255) (hWd : kt_Wd σ)
    (kout : ¬ (0 ≤ x ∧ x ≤ σ.1 92 1) → ∀ τ, τ = jg_sI σ 92 2 0 → KI (-2) τ)
    (k0 : (0 ≤ x ∧ x ≤ σ.1 92 1) → ∀ e pl, kt_tx B x.toNat 701 0 kt_g0 0 = .inl (e, pl) → ∀ τ, jF kW_tp σ τ → (τ.1 92 1 = 0 ∧ τ.1 92 2 = 0) → τ.1 92 4 = e → τ.1 92 5 = pl → KI (-1) τ)
    (k1 : (0 ≤ x ∧ x ≤ σ.1 92 1) → ∀ g' l, kt_tx B x.toNat 701 0 kt_g0 0 = .inr (g', l) → kt_ok g' → (0 ≤ l ∧ l ≤ 700) → ∀ τ, jF kW_tp σ τ → (τ.1 92 1 = 0 ∧ τ.1 92 2 = 0 ∧ τ.1 92 4 = 0 ∧ τ.1 92 5 = -1) → kt_GM τ 1 g' (g' 0 2) → jg_CI w 5 mm_X12_layTables [.ref 92, .int (.ofInt 1), .int (.ofInt 1), .int (.ofInt (-1))] τ (fun (z102 : Int) (m101 : jg_M) => (if jg_wr z102 = 0 then ∀ m103 : jg_M, m103 = jg_sI m101 92 4 2 → ∀ m104 : jg_M, m104 = jg_sI m103 92 5 x → KI (-1) m104 else jg_CV w 6 mm_X12_keepText [.ref 92] m101 (fun (m105 : jg_M) => KI l m105)))) : jg_CI w 7 mm_X12_text [.ref 92, .int (.ofInt x)] σ KI := by
  refine jb_X12_text_0 rfl ?_
  intro τ1 h1
  have e1 : τ1.1 92 1 = σ.1 92 1 := by rw [h1, js_In (Or.inr (by decide))]
  rw [jr_wr hx, e1, jr_wr (show jr (σ.1 92 1) by omega)]
  refine jn_ite (fun hneg => kout (by omega) τ1 h1) (fun hpos => jn_ite (fun hle => ?_) (fun hgt => kout (by omega) τ1 h1))
  intro τ2 h2 τ3 h3 τ4 h4 τ5 h5 τ6 h6
  have hf6 : jF (fun c i => c = 92 ∧ (i = 1 ∨ i = 2 ∨ (4 ≤ i ∧ i ≤ 7))) σ τ6 := by
    rw [h6, h5, h4, h3, h2, h1]
    exact jF_toI (jF_toI (jF_toI (jF_toI (jF_toI (jF_I ⟨rfl, by omega⟩) ⟨rfl, by omega⟩) ⟨rfl, by omega⟩) ⟨rfl, by omega⟩) ⟨rfl, by omega⟩) ⟨rfl, by omega⟩
  have v7 : τ6.1 92 7 = 0 := by rw [h6, js_Is]
  have v5 : τ6.1 92 5 = -1 := by rw [h6, js_In (Or.inr (by decide)), h5, js_Is]
  have v4 : τ6.1 92 4 = 0 := by rw [h6, js_In (Or.inr (by decide)), h5, js_In (Or.inr (by decide)), h4, js_Is]
  have v1 : τ6.1 92 1 = 0 := by rw [h6, js_In (Or.inr (by decide)), h5, js_In (Or.inr (by decide)), h4, js_In (Or.inr (by decide)), h3, js_Is]
  have v6 : τ6.1 92 6 = x := by rw [h6, js_In (Or.inr (by decide)), h5, js_In (Or.inr (by decide)), h4, js_In (Or.inr (by decide)), h3, js_In (Or.inr (by decide)), h2, js_Is]
  have v2 : τ6.1 92 2 = 0 := by rw [h6, js_In (Or.inr (by decide)), h5, js_In (Or.inr (by decide)), h4, js_In (Or.inr (by decide)), h3, js_In (Or.inr (by decide)), h2, js_In (Or.inr (by decide)), h1, js_Is]
  have hxn : ((x.toNat : Nat) : Int) = x := by omega
  have hB6 : kt_Bm τ6 B x.toNat := ⟨by rw [v6, hxn], by omega, fun i hi => (hf6.1 _ _ (by omega)).trans (hB i (by omega)), hB2⟩
  have hW6 : kt_Wd τ6 := kt_Wd_fr hWd hf6 (fun i q => by omega)
  refine jm_plain (fun τ7 hf7 hG7 => ?_)
  have hB7 := kt_Bm_fr hB6 hf7 (fun q => by unfold kW_pl at q; omega) (fun i q => by unfold kW_pl at q; omega)
  have hW7 := kt_Wd_fr hW6 hf7 (fun i q => by unfold kW_pl at q; omega)
  refine jm_nextToken (p := 0) hB7 hW7 (Nat.zero_le _) ?_ (fun τ8 hf8 hM8 => ?_)
  · rw [hf7.1 _ _ (fun q => by unfold kW_pl at q; omega)]; exact v7
  · have hf68 : jF kW_mp τ6 τ8 := kW_nx_mp (jF_mono hf7 (fun c i q => by unfold kW_pl at q; unfold kW_mp; omega)) hf8
    have hB8 := kt_Bm_fr hB7 hf8 (fun q => by unfold kW_nx at q; omega) (fun i q => by unfold kW_nx at q; omega)
    have hW8 := kt_Wd_fr hW7 hf8 (fun i q => by unfold kW_nx at q; omega)
    have := jm_textLoop (w := w) (σ := τ6) (n := x.toNat) (B := B) (KI := KI) (R := kt_tx B x.toNat 701 0 kt_g0 0)
      (fun e pl he τ hf g0 g1 => k0 ⟨by omega, hle⟩ e pl he τ (jF_tr (jF_mono hf6 (fun c i q => by unfold kW_tp kW_mp; omega)) (jF_mono hf (fun c i q => by unfold kW_mf kW_mp at q; unfold kW_tp kW_mp; omega))) ⟨(hf.1 _ _ (fun q => by unfold kW_mf kW_mp at q; omega)).trans v1, (hf.1 _ _ (fun q => by unfold kW_mf kW_mp at q; omega)).trans v2⟩ g0 g1)
      (fun g' l he hok hl τ hf hG => by
        have := k1 ⟨by omega, hle⟩ g' l he hok hl τ (jF_tr (jF_mono hf6 (fun c i q => by unfold kW_tp kW_mp; omega)) (jF_mono hf (fun c i q => Or.inr q))) ⟨(hf.1 _ _ (fun q => by unfold kW_mp at q; omega)).trans v1, (hf.1 _ _ (fun q => by unfold kW_mp at q; omega)).trans v2, (hf.1 _ _ (fun q => by unfold kW_mp at q; omega)).trans v4, (hf.1 _ _ (fun q => by unfold kW_mp at q; omega)).trans v5⟩ hG
        rw [hxn]
        exact this)
      701 0 0 kt_g0 τ8 rfl (by decide) (by decide) (Nat.zero_le _) kt_g0_ok hf68 hB8 hW8 hM8 (kt_GM_fr hG7 hf8 (fun c i c1 c2 q => by unfold kW_nx at q; omega)) rfl
    rw [hxn] at this
    exact this
end KTP
