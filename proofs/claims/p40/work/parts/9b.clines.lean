/-! TEXT: all LINES of a text, in the class -/
def kW_lp (a G : Nat) (c : Nat) (i : Int) : Prop := (c = a ∧ (i = 0 ∨ i = 1 ∨ (3 ≤ i ∧ i ≤ 8))) ∨ c = a + 1 ∨ (c = G ∧ 0 ≤ i ∧ i ≤ 4) ∨ (G + 1 ≤ c ∧ c ≤ G + 6)
section KTL
variable {w : Nat} {σ σ0 τ : jg_M} {a a1 G n p p' k : Nat} {B : Nat → Int} {g g' : gM} {m c l : Int} {t : kt_T} {R : kt_R} {KV : jg_M → Prop} {KI : Int → jg_M → Prop} {x v : Int}
theorem kt_g0_ok : kt_ok kt_g0 := by
  have e : ∀ (i : Nat) (j : Int), (i ≠ 0 ∨ j ≠ 4) → kt_g0 i j = 0 := fun i j h => if_neg (fun q => h.elim (fun h => h q.1) (fun h => h q.2))
  have e00 := e 0 0 (by decide)
  have e01 := e 0 1 (by decide)
  have e02 := e 0 2 (by decide)
  have e03 := e 0 3 (by decide)
  have e04 : kt_g0 0 4 = -1 := if_pos ⟨rfl, rfl⟩
  refine ⟨⟨⟨by rw [e00, e01, e02, e03, e04]; decide, fun r r0 r1 => by rw [e02] at r1; omega, fun t t0 t1 => by rw [e00] at t1; omega⟩, e03, e04⟩, fun s hs => ?_, fun s s' hs => ?_, fun t t0 t1 => ⟨e 1 t (Or.inl (by decide)), e 2 t (Or.inl (by decide))⟩⟩
  · unfold jn_isS at hs; rw [e00, e01] at hs; omega
  · unfold jn_isS at hs; rw [e00, e01] at hs; omega
theorem jc_X0_forget (h0 : jg_sh G = (0, 0)) (hk : ∀ τ, jF (fun c i => (c = G ∧ 0 ≤ i ∧ i ≤ 4) ∨ (G + 1 ≤ c ∧ c ≤ G + 3)) σ τ → kt_GC τ G kt_g0 0 → KV τ) : jg_CV w 1 mm_X0_forget [.ref G] σ KV := by
  have e : ∀ (i : Nat) (j : Int), (i ≠ 0 ∨ j ≠ 4) → kt_g0 i j = 0 := fun i j h => if_neg (fun q => h.elim (fun h => h q.1) (fun h => h q.2))
  refine jb_X0_forget_0 h0 ?_
  intro τ1 h1 τ2 h2 τ3 h3 τ4 h4 τ5 h5
  have hf5 : jF (fun c i => (c = G ∧ 0 ≤ i ∧ i ≤ 4) ∨ (G + 1 ≤ c ∧ c ≤ G + 3)) σ τ5 := by
    rw [h5, h4, h3, h2, h1]
    exact jF_toI (jF_toI (jF_toI (jF_toI (jF_I (Or.inl ⟨rfl, by omega⟩)) (Or.inl ⟨rfl, by omega⟩)) (Or.inl ⟨rfl, by omega⟩)) (Or.inl ⟨rfl, by omega⟩)) (Or.inl ⟨rfl, by omega⟩)
  have v0 : τ5.1 G 0 = 0 := by rw [h5, js_In (Or.inr (by decide)), h4, js_In (Or.inr (by decide)), h3, js_In (Or.inr (by decide)), h2, js_In (Or.inr (by decide)), h1, js_Is]
  have v1 : τ5.1 G 1 = 0 := by rw [h5, js_In (Or.inr (by decide)), h4, js_In (Or.inr (by decide)), h3, js_In (Or.inr (by decide)), h2, js_Is]
  have v2 : τ5.1 G 2 = 0 := by rw [h5, js_In (Or.inr (by decide)), h4, js_In (Or.inr (by decide)), h3, js_Is]
  have v3 : τ5.1 G 3 = 0 := by rw [h5, js_In (Or.inr (by decide)), h4, js_Is]
  have v4 : τ5.1 G 4 = -1 := by rw [h5, js_Is]
  refine jc_fill (jg_sX0_5 h0) (by decide) (fun τ6 f6 z6 => jc_fill (jg_sX0_6 h0) (by decide) (fun τ7 f7 z7 => jc_fill (jg_sX0_7 h0) (by decide) (fun τ8 f8 z8 => ?_)))
  have hf8 : jF (fun c i => c = G + 1 ∨ c = G + 2 ∨ c = G + 3) τ5 τ8 := jF_tr (jF_mono f6 (fun c i q => Or.inl q)) (jF_tr (jF_mono f7 (fun c i q => Or.inr (Or.inl q))) (jF_mono f8 (fun c i q => Or.inr (Or.inr q))))
  refine hk τ8 (jF_tr hf5 (jF_mono hf8 (fun c i q => by omega))) ⟨⟨?_, ?_, ?_, ?_, ?_⟩, fun s hs => ?_, fun t t0 t1 => ⟨?_, ?_⟩, fun r r0 r1 => by omega⟩
  · rw [hf8.1 _ _ (by omega), v0, e 0 0 (by decide)]
  · rw [hf8.1 _ _ (by omega), v1, e 0 1 (by decide)]
  · rw [hf8.1 _ _ (by omega), v2, e 0 2 (by decide)]
  · rw [hf8.1 _ _ (by omega), v3, e 0 3 (by decide)]
  · rw [hf8.1 _ _ (by omega), v4]; rfl
  · unfold jn_isS at hs; rw [e 0 0 (by decide), e 0 1 (by decide)] at hs; omega
  · rw [f8.1 _ _ (by omega), z7 t t0 t1, e 1 t (Or.inl (by decide))]
  · rw [z8 t t0 t1, e 2 t (Or.inl (by decide))]
theorem jc_linesOf (h0 : jg_sh a = (9, 0)) (h1 : jg_sh a1 = (20, 700)) (h3 : jg_sh G = (0, 0)) (haG : a + 1 < G) (ha1 : a1 ≠ a + 1 ∧ a1 ≠ a) (hn : n ≤ 700) (hB : ∀ i : Nat, i < n → σ.1 a1 (i : Int) = B i) (hB2 : ∀ i, 0 ≤ B i ∧ B i ≤ 255)
    (k0 : ∀ e pl, kt_tx B n 701 0 kt_g0 0 = .inl (e, pl) → ∀ τ, jF (kW_lp a G) σ τ → τ.1 a 0 = e → τ.1 a 1 = pl → KI (-1) τ)
    (k1 : ∀ g' l, kt_tx B n 701 0 kt_g0 0 = .inr (g', l) → kt_ok g' → (0 ≤ l ∧ l ≤ 700) → ∀ τ, jF (kW_lp a G) σ τ → kt_GC τ G g' (g' 0 2) → τ.1 a 0 = 0 → τ.1 a 1 = -1 → KI l τ) : jg_CI w 6 mm_X9_linesOf [.ref a, .ref a1, .int (.ofInt (n : Int)), .ref G] σ KI := by
  have hloop : ∀ (f p : Nat) (l : Int) (g : gM) (τ : jg_M) (u1 u2 : Value), (f : Int) + l = 701 → 0 ≤ l → l ≤ (p : Int) → p ≤ n → kt_ok g → jF (kW_lp a G) σ τ → kt_By τ a B n → τ.1 a 4 = (p : Nat) → kt_GC τ G g (g 0 2) → τ.1 a 0 = 0 → τ.1 a 1 = -1 → kt_tx B n f l g p = kt_tx B n 701 0 kt_g0 0 → jg_GI w 6 mm_X9_linesOf 52 [.ref a, u1, u2, .ref G, .int (.ofInt l)] τ KI := by
    intro f
    induction f with
    | zero => intro p l g τ u1 u2 hfl; omega
    | succ f ih =>
      intro p l g τ u1 u2 hfl hl0 hlp hpn hok hf hBτ h4 hG e0 e1 he
      have hs := (kt_tk_le (B := B) hpn)
      refine jb_X9_linesOf_52 h0 h3 ?_
      rw [jr_wr (show jr l by omega)]
      refine jn_ite (fun h => by omega) (fun _ => jc_advance h0 hBτ hpn h4 (fun τ2 hfa hC => ?_))
      have hf2 : jF (kW_lp a G) σ τ2 := jF_tr hf (jF_mono hfa (fun c i q => by unfold kW_ad at q; unfold kW_lp; omega))
      have hG2 := kt_GC_fr hG hfa (fun i q => by unfold kW_ad at q; omega) (fun c i c1 c2 q => by unfold kW_ad at q; omega)
      have hB2' := kt_By_fr hBτ hfa (fun q => by unfold kW_ad at q; omega) (fun i q => by unfold kW_ad at q; omega)
      have e02 : τ2.1 a 0 = 0 := (hfa.1 _ _ (fun q => by unfold kW_ad at q; omega)).trans e0
      have e12 : τ2.1 a 1 = -1 := (hfa.1 _ _ (fun q => by unfold kW_ad at q; omega)).trans e1
      unfold kt_tx at he
      rw [hC.1, jr_wr (show jr (kt_tk B n p).1 by omega)]
      refine jn_ite (fun h3' => ?_) (fun h3' => ?_)
      · rw [if_pos h3'] at he
        exact k1 g l he.symm hok ⟨hl0, by omega⟩ τ2 hf2 hG2 e02 e12
      · rw [if_neg h3'] at he
        refine jc_line (σ0 := τ2) h0 h3 haG hB2' hpn hC hG2 hok jF_rf ⟨fun e pl hR τ3 hf3 g0 g1 => ?_, fun g' p' hR τ3 hf3 hG3 h43 => ?_⟩
        · rw [hR] at he
          refine jn_ite (fun _ => k0 e pl he.symm τ3 (jF_tr hf2 (jF_mono hf3 (fun c i q => by unfold kW_cf kW_cp at q; unfold kW_lp; omega))) g0 g1) (fun h => absurd rfl h)
        · have hr := kt_li_ok hok hpn hR
          rw [hR] at he
          refine jn_ite (fun h => absurd h (by decide)) (fun _ => ?_)
          have hf3' : jF (kW_lp a G) σ τ3 := jF_tr hf2 (jF_mono hf3 (fun c i q => by unfold kW_cp at q; unfold kW_lp; omega))
          exact ih p' (l + 1) g' τ3 u1 u2 (by omega) (by omega) (by omega) hr.2.2 hr.1 hf3' (kt_By_fr hB2' hf3 (fun q => by unfold kW_cp at q; omega) (fun i q => by unfold kW_cp at q; omega)) h43 hG3 ((hf3.1 _ _ (fun q => by unfold kW_cp at q; omega)).trans e02) ((hf3.1 _ _ (fun q => by unfold kW_cp at q; omega)).trans e12) he
  refine jb_X9_linesOf_0 h0 h1 h3 ?_
  have w7 : jg_wr ((700 : Nat) : Int) = 700 := rfl
  have wn : jg_wr (n : Int) = (n : Int) := jr_wr (by omega)
  have w70 : jg_wr 700 = 700 := rfl
  rw [w7, if_neg (show ¬ (700 : Int) < 700 by decide), w7]
  intro τ1 h1'
  have hlen : τ1.1 a 3 = (n : Nat) := by
    rw [h1', js_Is, wn]
    by_cases h700 : (700 : Int) < (n : Int)
    · omega
    · rw [if_neg h700, wn]
      by_cases h00 : (0 : Int) < (n : Int)
      · rw [if_pos h00]
      · rw [if_neg h00]; omega
  have hf1 : jF (kW_lp a G) σ τ1 := by rw [h1']; exact jF_I (Or.inl ⟨rfl, by omega⟩)
  rw [hlen, wn]
  refine ⟨by omega, ?_⟩
  intro τ2 h2
  have hc2 : ∀ c i, c ≠ a + 1 → τ2.1 c i = τ1.1 c i := fun c i h => by
    rw [h2]
    show (if _ then _ else _) = _
    rw [if_neg (fun q => h q.1)]
  have hf2 : jF (kW_lp a G) τ1 τ2 := ⟨fun c i h => hc2 c i (fun q => h (Or.inr (Or.inl q))), fun c i _ => by rw [h2]; rfl⟩
  intro τ3 h3'
  have hf3 : jF (kW_lp a G) τ2 τ3 := by rw [h3']; exact jF_I (Or.inl ⟨rfl, by omega⟩)
  refine jb_X9_blame_0 h0 ?_
  intro τ4 h4 τ5 h5
  have hf5 : jF (kW_lp a G) τ3 τ5 := by rw [h5, h4]; exact jF_toI (jF_I (Or.inl ⟨rfl, by omega⟩)) (Or.inl ⟨rfl, by omega⟩)
  refine jc_X0_forget h3 (fun τ6 f6 hG6 => ?_)
  have hf6 : jF (kW_lp a G) σ τ6 := jF_tr hf1 (jF_tr hf2 (jF_tr hf3 (jF_tr hf5 (jF_mono f6 (fun c i q => by unfold kW_lp; omega)))))
  have hBy : kt_By τ6 a B n := by
    refine ⟨?_, hn, fun i hi => ?_, hB2⟩
    · rw [f6.1 _ _ (by omega), h5, js_In (Or.inr (by decide)), h4, js_In (Or.inr (by decide)), h3', js_In (Or.inr (by decide)), hc2 _ _ (by omega)]
      exact hlen
    · rw [f6.1 _ _ (by omega), h5, js_In (Or.inl (by omega)), h4, js_In (Or.inl (by omega)), h3', js_In (Or.inl (by omega)), h2]
      show (if _ then _ else _) = _
      rw [if_pos ⟨rfl, by omega, by omega⟩, show (0 : Int) + ((i : Int) - 0) = (i : Int) by omega, h1', js_In (Or.inl (by omega))]
      exact hB i hi
  refine hloop 701 0 0 kt_g0 τ6 _ _ (by omega) (Int.le_refl 0) (by omega) (Nat.zero_le n) kt_g0_ok hf6 hBy ?_ hG6 ?_ ?_ rfl
  · rw [f6.1 _ _ (by omega), h5, js_In (Or.inr (by decide)), h4, js_In (Or.inr (by decide)), h3', js_Is]; rfl
  · rw [f6.1 _ _ (by omega), h5, js_In (Or.inr (by decide)), h4, js_Is]
  · rw [f6.1 _ _ (by omega), h5, js_Is]
end KTL
