/-! What the desk LEARNS of the tables without each RULE -/
def kp_may (g : gM) (r : Nat) : Prop := (r : Int) < g 0 2 ∧ (g 0 1 = 0 ∨ ∃ S, jn_all (kp_o g (r : Int)) = some S)
def kp_B (g : gM) (p : Int) (r : Nat) : Prop := kp_may g r ∧ kp_S (kp_o g (r : Int)) 0 0 (kr_I (kp_o g (r : Int))) p
def kp_LC (σ : jg_M) (g : gM) : Prop := σ.1 78 1 = (jn_mk (kp_may g) 12 : Nat) ∧ kp_MK σ (kp_B g)
def kW_ln (T' : Nat) (c : Nat) (i : Int) : Prop := c = 78 ∨ c = 79 ∨ (80 ≤ c ∧ c < 92) ∨ (T' + 1 ≤ c ∧ c ≤ T' + 21)
section KPC
variable {w : Nat} {σ τ : jg_M} {G G' T T' n c a : Nat} {g : gM} {K K' : kr_K} {B : Int → Nat → Prop} {x i p r : Int} {KV : jg_M → Prop} {KI : Int → jg_M → Prop}
theorem kp_o_0 (h : i ≠ 4) : kp_o g r 0 i = g 0 i := if_neg (fun q => h q.2)
theorem kp_o_4 : kp_o g r 0 4 = r := if_pos ⟨rfl, rfl⟩
theorem kp_o_GW (hW : jn_GW g) (hr : -1 ≤ r ∧ r < g 0 2) : jn_GW (kp_o g r) := by
  have e0 : kp_o g r 0 0 = g 0 0 := kp_o_0 (by decide)
  have e1 : kp_o g r 0 1 = g 0 1 := kp_o_0 (by decide)
  have e2 : kp_o g r 0 2 = g 0 2 := kp_o_0 (by decide)
  have e3 : kp_o g r 0 3 = g 0 3 := kp_o_0 (by decide)
  have e4 : kp_o g r 0 4 = r := kp_o_4
  unfold jn_GW
  rw [e0, e1, e2, e3, e4]
  obtain ⟨⟨w1, w2, w3, w4, w5⟩, w6, w7⟩ := hW
  exact ⟨⟨w1, w2, w3, w4, hr⟩, w6, w7⟩
theorem kp_copy_Gr (hW : jn_GW g) (hG : jn_Gr σ G' g) (c1 : ∀ i, 0 ≤ i → i ≤ 4 → τ.1 G i = σ.1 G' i) (c2 : ∀ i, 0 ≤ i → i < 7 → τ.1 (G + 2) i = σ.1 (G' + 2) i ∧ τ.1 (G + 3) i = σ.1 (G' + 3) i) (c3 : ∀ i, 0 ≤ i → i < 12 → τ.1 (G + 4) i = σ.1 (G' + 4) i ∧ τ.1 (G + 5) i = σ.1 (G' + 5) i) (c4 : ∀ i, 0 ≤ i → i < 48 → τ.1 (G + 6) i = σ.1 (G' + 6) i) : jn_Gr τ G g := by
  have hw := hW.1
  obtain ⟨⟨a0, a1, a2, a3, a4⟩, b, d⟩ := hG
  refine ⟨⟨(c1 0 (by decide) (by decide)).trans a0, (c1 1 (by decide) (by decide)).trans a1, (c1 2 (by decide) (by decide)).trans a2, (c1 3 (by decide) (by decide)).trans a3, (c1 4 (by decide) (by decide)).trans a4⟩, fun r r0 r1 => ?_, fun t t0 t1 => ?_⟩
  · have hb := b r r0 r1
    have hr4 := (hW.2.1 r r0 r1).2.1
    exact ⟨(c3 r r0 (by omega)).1.trans hb.1, (c3 r r0 (by omega)).2.trans hb.2.1, fun k k0 k1 => (c4 _ (by omega) (by omega)).trans (hb.2.2 k k0 k1)⟩
  · exact ⟨(c2 t t0 (by omega)).1.trans (d t t0 t1).1, (c2 t t0 (by omega)).2.trans (d t t0 t1).2⟩
theorem kp_out_Gr (hG : jn_Gr σ G g) : jn_Gr (jg_sI σ G 4 r) G (kp_o g r) := by
  have e0 : kp_o g r 0 0 = g 0 0 := kp_o_0 (by decide)
  have e1 : kp_o g r 0 1 = g 0 1 := kp_o_0 (by decide)
  have e2 : kp_o g r 0 2 = g 0 2 := kp_o_0 (by decide)
  have e3 : kp_o g r 0 3 = g 0 3 := kp_o_0 (by decide)
  have e4 : kp_o g r 0 4 = r := kp_o_4
  unfold jn_Gr
  rw [e0, e1, e2, e3, e4]
  obtain ⟨⟨a0, a1, a2, a3, a4⟩, b, d⟩ := hG
  refine ⟨⟨?_, ?_, ?_, ?_, js_Is⟩, fun r r0 r1 => ⟨?_, ?_, fun k k0 k1 => ?_⟩, fun t t0 t1 => ⟨?_, ?_⟩⟩
  · rw [js_In (Or.inr (by decide))]; exact a0
  · rw [js_In (Or.inr (by decide))]; exact a1
  · rw [js_In (Or.inr (by decide))]; exact a2
  · rw [js_In (Or.inr (by decide))]; exact a3
  · rw [js_In (Or.inl (by omega))]; exact (b r r0 r1).1
  · rw [js_In (Or.inl (by omega))]; exact (b r r0 r1).2.1
  · rw [js_In (Or.inl (by omega))]; exact (b r r0 r1).2.2 k k0 k1
  · rw [js_In (Or.inl (by omega))]; exact (d t t0 t1).1
  · rw [js_In (Or.inl (by omega))]; exact (d t t0 t1).2
theorem kp_mk_lt {P : Nat → Prop} {n : Nat} (h : n < 12) (hP : P n) : jn_mk (fun r => r < n + 1 ∧ P r) 12 = jn_mk (fun r => r < n ∧ P r) 12 ||| 2 ^ n := by
  apply Nat.eq_of_testBit_eq
  intro j
  rw [Bool.eq_iff_iff, Nat.testBit_or, Bool.or_eq_true, jn_mk_bit, jn_mk_bit, Nat.testBit_two_pow, decide_eq_true_iff]
  constructor
  · rintro ⟨q1, q2, q3⟩
    by_cases hj : n = j
    · exact Or.inr hj
    · exact Or.inl ⟨q1, by omega, q3⟩
  · rintro (q | q)
    · exact ⟨q.1, by omega, q.2.2⟩
    · subst q
      exact ⟨h, by omega, hP⟩
theorem kp_mk_no {P : Nat → Prop} {n : Nat} (hP : ¬ P n) : jn_mk (fun r => r < n + 1 ∧ P r) 12 = jn_mk (fun r => r < n ∧ P r) 12 :=
  jn_mk_eq (fun j hj => ⟨fun q => ⟨by
    by_cases hjn : j = n
    · rw [hjn] at q; exact absurd q.2 hP
    · omega, q.2⟩, fun q => ⟨by omega, q.2⟩⟩)
theorem jc_learn (h : ku_CG σ T g) (hTT : T + T' = 30) (hL : σ.1 78 0 = 0 ∨ (σ.1 78 0 = 1 ∧ kp_LC σ g)) (hk : ∀ τ, jF (kW_ln T') σ τ → τ.1 78 0 = 1 → kp_LC τ g → KV τ) : jg_CV w 13 mm_X10_learn [.ref 78, .ref (T + 1), .ref T', .ref 90] σ KV := by
  have hT := h.1.1
  have hT' : T' = 4 ∨ T' = 26 := by omega
  have sh := ku_sh hT
  have sh' := ku_sh hT'
  have s4 : jg_sh (T' + 20) = (20, 384) := by rcases hT' with rfl | rfl <;> rfl
  have s5 : jg_sh (T' + 21) = (20, 384) := by rcases hT' with rfl | rfl <;> rfl
  have hW := h.2.1.1.1.1
  have hw := hW.1
  refine jb_X10_learn_0 rfl sh.2.2 sh'.1 rfl ?_
  rcases hL with h0 | ⟨h0, hLC⟩
  · rw [h0]
    refine jn_ite (fun _ => ?_) (fun q => absurd rfl q)
    intro τ1 e1 τ2 e2
    have f2 : jF (fun c i => c = 78) σ τ2 := by rw [e2, e1]; exact jF_toI (jF_I rfl) rfl
    refine jc_fill (A := 79) rfl (by decide) (fun τ3 f3 z3 => ?_)
    have g3 : jF (kW_ln T') σ τ3 := jF_tr (jF_mono f2 (fun c i q => Or.inl q)) (jF_mono f3 (fun c i q => Or.inr (Or.inl q)))
    have v0 : τ3.1 78 0 = 1 := by rw [f3.1 _ _ (by omega), e2, js_In (Or.inr (by decide)), e1, js_Is]
    have v1 : τ3.1 78 1 = 0 := by rw [f3.1 _ _ (by omega), e2, js_Is]
    have hz : jn_mk (fun r => r < 0 ∧ kp_may g r) 12 = 0 := by
      apply Nat.eq_of_testBit_eq
      intro j
      rw [Nat.zero_testBit, Bool.eq_false_iff]
      intro q
      have := (jn_mk_bit.mp q).2.1
      omega
    have hloop : ∀ (m r : Nat) (τ : jg_M), (r : Int) + m = g 0 2 → jF (kW_ln T') σ τ → τ.1 78 0 = 1 → τ.1 78 1 = (jn_mk (fun i => i < r ∧ kp_may g i) 12 : Nat) → kp_MK τ (fun p i => i < r ∧ kp_B g p i) → jg_GV w 13 mm_X10_learn 29 [.ref 78, .ref (T + 1), .ref T', .ref 90, .int (.ofInt (r : Int))] τ KV := by
      intro m
      induction m with
      | zero =>
        intro r τ hrm hf w0 w1 hM
        have h' : ku_CG τ T g := ku_CG_fr h hf (by unfold kW_ln; omega) (by unfold kW_ln; omega) (fun c i q => by unfold kW_ln; omega)
        refine jb_X10_learn_29 rfl sh.2.2 sh'.1 rfl ?_
        rw [show τ.1 (T + 1) 2 = g 0 2 from h'.2.1.2.1.2.2.1, jr_wr (show jr (g 0 2) by omega), jr_wr (show jr (r : Int) by omega)]
        refine jn_ite (fun _ => hk τ hf w0 ⟨?_, ?_⟩) (fun q => by omega)
        · rw [w1]
          exact jn_mk_ex (fun i hi => ⟨fun q => q.2, fun q => ⟨by have := q.1; omega, q⟩⟩)
        · exact kp_MK_cg hM (fun p i p0 p1 hi => ⟨fun q => q.2, fun q => ⟨by have := q.1.1; omega, q⟩⟩)
      | succ m ih =>
        intro r τ hrm hf w0 w1 hM
        have h' : ku_CG τ T g := ku_CG_fr h hf (by unfold kW_ln; omega) (by unfold kW_ln; omega) (fun c i q => by unfold kW_ln; omega)
        have hr12 : r < 12 := by omega
        have h2r : 2 ^ r < 2 ^ 12 := Nat.pow_lt_pow_right (by decide) hr12
        have h12 : (2 : Nat) ^ 12 = 4096 := rfl
        refine jb_X10_learn_29 rfl sh.2.2 sh'.1 rfl ?_
        rw [show τ.1 (T + 1) 2 = g 0 2 from h'.2.1.2.1.2.2.1, jr_wr (show jr (g 0 2) by omega), jr_wr (show jr (r : Int) by omega)]
        refine jn_ite (fun q => by omega) (fun _ => ?_)
        refine jc_X0_copy sh'.2.2 sh.2.2 (by omega) (fun τa fa c1 c2 c3 c4 => ?_)
        have hGr : jn_Gr τ (T + 1) g := kt_GC_Gr h'.2.1.2 (Int.le_refl _) hW
        have hGa := kp_copy_Gr hW hGr c1 c2 c3 c4
        intro τb eb
        have hGb : jn_Gr τb (T' + 1) (kp_o g (r : Int)) := by rw [eb]; exact kp_out_Gr hGa
        have hWr : jn_GW (kp_o g (r : Int)) := kp_o_GW hW ⟨by omega, by omega⟩
        have fb : jF (kW_ln T') τ τb := jF_tr (jF_mono fa (fun c i q => by unfold kW_gc at q; unfold kW_ln; omega)) (by rw [eb]; exact jF_I (by unfold kW_ln; omega))
        have fb8 : ∀ c i, 78 ≤ c → τb.1 c i = τ.1 c i := fun c i hc => by rw [eb, js_In (Or.inl (by omega)), fa.1 _ _ (by unfold kW_gc; omega)]
        have o1 : kp_o g (r : Int) 0 1 = g 0 1 := kp_o_0 (by decide)
        refine jc_X8_make sh'.1 sh'.2.2 sh'.2.1 s4 s5 hWr hGb (by decide) (fun q0 q1 τc fc => ?_) (fun q τc fc hR => ?_)
        · refine jn_ite (fun _ => ?_) (fun h => absurd rfl h)
          have hno : ¬ kp_may g r := fun q => by
            rcases q.2 with q | ⟨S, q⟩
            · rw [o1] at q0; omega
            · rw [q1] at q; cases q
          have fc8 : ∀ c i, 78 ≤ c → τc.1 c i = τ.1 c i := fun c i hc => (fc.1 _ _ (by unfold jW_tm; omega)).trans (fb8 c i hc)
          have := ih (r + 1) τc (by omega) (jF_tr hf (jF_tr fb (jF_mono fc (fun c i q => by unfold jW_tm at q; unfold kW_ln; omega)))) ((fc8 _ _ (by decide)).trans w0) ((fc8 _ _ (by decide)).trans (w1.trans (by rw [kp_mk_no hno]))) (fun p p0 p1 => by
            rw [fc8 _ _ (by decide), hM p p0 p1, kp_mk_no (P := kp_B g p) (fun q => hno q.1)])
          rw [show ((r + 1 : Nat) : Int) = (r : Int) + 1 by omega] at this
          exact this
        · refine jn_ite (fun h => absurd h (by decide)) (fun _ => ?_)
          have hyes : kp_may g r := ⟨by omega, by
            rcases q with q | q
            · rw [o1] at q; exact Or.inl q
            · exact Or.inr q.2⟩
          have fc8 : ∀ c i, 78 ≤ c → τc.1 c i = τ.1 c i := fun c i hc => (fc.1 _ _ (by unfold jW_tm; omega)).trans (fb8 c i hc)
          have hlt : jn_mk (fun i => i < r ∧ kp_may g i) 12 < 2 ^ 12 := jn_mk_lt
          have hsh : jg_shl 1 (r : Int) = ((2 ^ r : Nat) : Int) := by
            have := jb_shl (m := 1) (k := r) (by omega) (by omega)
            rw [Nat.one_mul] at this
            exact this
          rw [fc8 78 1 (by decide), w1, hsh, jb_or (by omega) (by omega), ← kp_mk_lt hr12 hyes]
          intro τd ed
          have fd : jF (fun c i => c = 78 ∧ i = 1) τc τd := by rw [ed]; exact jF_I ⟨rfl, rfl⟩
          have hCWc : kr_CW τc T' (kp_o g (r : Int)) := kr_CW_of hWr (kg_CT_of hWr hR)
          have hCWd := kr_CW_fr hCWc fd (fun c i c1 c2 q => by omega)
          refine jc_begin rfl sh'.1 (by omega) hCWd (fun τe fe hRe _ _ => ?_)
          have hCWe := kr_CW_fr hCWd fe (fun c i c1 c2 q => by unfold kW_ro at q; omega)
          have fe8 : ∀ c i, c = 78 ∧ i ≠ 1 ∨ c = 79 → τe.1 c i = τ.1 c i := fun c i hc => (fe.1 _ _ (by unfold kW_ro; omega)).trans ((fd.1 _ _ (by omega)).trans (fc8 c i (by omega)))
          have ve1 : τe.1 78 1 = (jn_mk (fun i => i < r + 1 ∧ kp_may g i) 12 : Nat) := by rw [fe.1 _ _ (by unfold kW_ro; omega), ed, js_Is]
          have hMe : kp_MK τe (fun p i => i < r ∧ kp_B g p i) := fun p p0 p1 => (fe8 79 p (Or.inr rfl)).trans (hM p p0 p1)
          have ftoe : jF (kW_ln T') σ τe := jF_tr hf (jF_tr fb (jF_tr (jF_mono fc (fun c i q => by unfold jW_tm at q; unfold kW_ln; omega)) (jF_tr (jF_mono fd (fun c i q => by unfold kW_ln; omega)) (jF_mono fe (fun c i q => by unfold kW_ro at q; unfold kW_ln; omega)))))
          have hmark := jc_mark (w := w) sh'.1 sh'.2.2 sh'.2.1 (by omega) (g := kp_o g (r : Int)) (r := r) kp_o_4 hr12 4 5 11 τe (kr_I (kp_o g (r : Int))) 0 0 (fun p i => i < r ∧ kp_B g p i) (fun (m107 : jg_M) => jg_GV w 13 mm_X10_learn 29 [.ref 78, .ref (T + 1), .ref T', .ref 90, .int (.ofInt ((r : Int) + 1))] m107 KV) (by decide) (by decide) (by decide) (by decide) (by decide) hCWe hRe (kr_I_OK hCWe) hMe (fun τf ff hMf => ?_)
          · exact hmark
          · have := ih (r + 1) τf (by omega) (jF_tr ftoe (jF_mono ff (fun c i q => by unfold kW_mk kW_lo at q; unfold kW_ln; omega))) ((ff.1 _ _ (by unfold kW_mk kW_lo; omega)).trans ((fe8 78 0 (Or.inl ⟨rfl, by decide⟩)).trans w0)) ((ff.1 _ _ (by unfold kW_mk kW_lo; omega)).trans ve1) (kp_MK_cg hMf (fun p i p0 p1 hi => ⟨fun z => ?_, fun z => ?_⟩))
            · rw [show ((r + 1 : Nat) : Int) = (r : Int) + 1 by omega] at this
              exact this
            · rcases z with z | z
              · exact ⟨by omega, z.2⟩
              · rw [z.1]
                exact ⟨by omega, hyes, z.2⟩
            · by_cases hir : i = r
              · subst hir
                exact Or.inr ⟨rfl, z.2.2⟩
              · exact Or.inl ⟨by omega, z.2⟩
    have := hloop (g 0 2).toNat 0 τ3 (by omega) g3 v0 (by rw [hz]; exact v1) (fun p p0 p1 => by
      rw [z3 p p0 p1]
      symm
      rw [show jn_mk (fun i => i < 0 ∧ kp_B g p i) 12 = 0 from by
        apply Nat.eq_of_testBit_eq
        intro j
        rw [Nat.zero_testBit, Bool.eq_false_iff]
        intro q
        have := (jn_mk_bit.mp q).2.1
        omega]
      rfl)
    exact this
  · rw [h0]
    exact jn_ite (fun q => absurd q (by decide)) (fun _ => hk σ jF_rf h0 hLC)
end KPC
