/-! PACKED, in the class: all of it -/
section KBD
variable {w : Nat} {σ τ : jg_M} {a T n m k c o t : Nat} {g : gM} {S : jn_Q} {L : Int → Int → Nat} {s x : Int} {P : kb_P} {KV : jg_M → Prop}
theorem jc_X2_lay (h0 : jg_sh a = (2, 0)) (hT : jg_sh T = (8, 0)) (h2 : jg_sh (T + 10) = (7, 0)) (hTa : T + 22 ≤ a) {fo : Int → Nat} (hn : σ.1 (T + 10) 0 = S.1) (hF : jn_FP g S) (hC : jn_TC σ T g S L fo 0) (hM : kb_CM σ a P) (hI : kb_In P c) (hc : c ≤ 47) (hs : 0 ≤ s ∧ s < S.1) (hk : ∀ τ, jF (kW_pk a) σ τ → kb_CM τ a (kb_lay (kb_ac g S L) s P) → KV τ) : jg_CV w 3 mm_X2_lay [.ref a, .ref T, .int (.ofInt s)] σ KV := by
  have hof := kb_of_sp (ac := kb_ac g S L) (s := s) hI hc
  have hIn := hI.1
  have hloop : ∀ (m o : Nat), o + m = kb_of (kb_ac g S L) s P → jg_GV w 3 mm_X2_lay 2 [.ref a, .ref T, .int (.ofInt s), .int (.ofInt (o : Int))] σ KV := by
    intro m
    induction m with
    | zero =>
      intro o ho
      refine jb_X2_lay_2 h0 hT ?_
      rw [jr_wr (show jr ((o : Int) + 8) by omega)]
      refine jn_ite (fun h => by omega) (fun _ => jc_X2_hasRoom h0 hT h2 hn hF hC hM hI hs (by omega) ?_)
      have ho' : o = kb_of (kb_ac g S L) s P := by omega
      subst ho'
      refine jn_if (fun h => absurd hof.2.1 h) (fun _ => ?_)
      exact jc_X2_layAt h0 hT h2 hTa hn hF hC hM hI hc hs hof.1 hk
    | succ m ih =>
      intro o ho
      refine jb_X2_lay_2 h0 hT ?_
      rw [jr_wr (show jr ((o : Int) + 8) by omega)]
      refine jn_ite (fun h => by omega) (fun _ => jc_X2_hasRoom h0 hT h2 hn hF hC hM hI hs (by omega) ?_)
      refine jn_if (fun _ => ?_) (fun h => absurd h (hof.2.2 o (by omega)))
      have := ih (o + 1) (by omega)
      rw [show ((o + 1 : Nat) : Int) = (o : Int) + 1 by omega] at this
      exact this
  exact jb_X2_lay_0 h0 hT (hloop (kb_of (kb_ac g S L) s P) 0 (by omega))
theorem jc_X2_fills (h0 : jg_sh a = (2, 0)) (hT : jg_sh T = (8, 0)) (kk : ∀ τ, jF (kW_pk a) σ τ → kb_CM τ a kb_P0 → jg_GV w 4 mm_X2_make 24 [.ref a, .ref T, .int (.ofInt 8), mj_U] τ KV) : jg_CV w 4 mm_X2_make [.ref a, .ref T] σ KV := by
  refine jb_X2_make_0 h0 hT ?_
  rintro _ rfl
  refine jc_fill (jg_sX2_1 h0) (by decide) (fun τ1 a1 a2 => jc_fill (jg_sX2_2 h0) (by decide) (fun τ2 b1 b2 => ?_))
  refine kk τ2 (jF_tr (jF_I (by unfold kW_pk; omega)) (jF_tr (jF_mono a1 (fun c i q => by unfold kW_pk; omega)) (jF_mono b1 (fun c i q => by unfold kW_pk; omega)))) ⟨?_, fun s s0 s1 => ?_, fun i i0 i1 => ⟨b2 i i0 i1, fun h => absurd rfl h⟩⟩
  · rw [b1.1 _ _ (by omega), a1.1 _ _ (by omega)]
    exact js_Is
  · rw [b1.1 _ _ (by omega)]
    exact a2 s s0 s1
/-- what the class' packing IS -/
theorem jc_X2_make0 (h0 : jg_sh a = (2, 0)) (hT : jg_sh T = (8, 0)) (hTa : T + 22 ≤ a) (hn : σ.1 (T + 10) 0 = 0) (hk : ∀ τ, jF (kW_pk a) σ τ → kb_CM τ a kb_P0 → KV τ) : jg_CV w 4 mm_X2_make [.ref a, .ref T] σ KV := by
  refine jc_X2_fills h0 hT (fun τ hf hM => ?_)
  have hloop : ∀ (m : Nat) (u : Value), m ≤ 8 → jg_GV w 4 mm_X2_make 24 [.ref a, .ref T, .int (.ofInt (m : Int)), u] τ KV := by
    intro m
    induction m with
    | zero =>
      intro u _
      refine jb_X2_make_24 h0 hT ?_
      exact jn_ite (fun _ => hk τ hf hM) (fun h => absurd (show jg_wr ((0 : Nat) : Int) ≤ 0 by decide) h)
    | succ m ih =>
      intro u hm
      refine jb_X2_make_24 h0 hT ?_
      rw [jr_wr (by omega)]
      refine jn_ite (fun h => by omega) (fun _ => jb_X2_make_30 h0 hT ?_)
      rw [hf.1 _ _ (fun q => by unfold kW_pk at q; omega), hn, show jg_wr 0 = 0 from rfl]
      refine jn_ite (fun _ => ?_) (fun h => absurd (Int.le_refl 0) h)
      have := ih (.int (.ofInt 0)) (by omega)
      rw [show ((m + 1 : Nat) : Int) + -1 = (m : Int) by omega]
      exact this
  exact hloop 8 _ (Nat.le_refl 8)
theorem jc_X2_make (h0 : jg_sh a = (2, 0)) (hT : jg_sh T = (8, 0)) (h2 : jg_sh (T + 10) = (7, 0)) (hTa : T + 22 ≤ a) (hW : jn_GW g) {fo : Int → Nat} (hn : σ.1 (T + 10) 0 = S.1) (hF : jn_FP g S) (hC : jn_TC σ T g S L fo 0) (hk : ∀ τ, jF (kW_pk a) σ τ → kb_CM τ a (kb_dn (kb_ac g S L) (kb_an g S L) S.1.toNat 8 kb_P0) → KV τ) : jg_CV w 4 mm_X2_make [.ref a, .ref T] σ KV := by
  have hI1 := hF.1.1
  have hfr : ∀ τ, jF (kW_pk a) σ τ → τ.1 (T + 10) 0 = S.1 ∧ jn_TC τ T g S L fo 0 := fun τ hf => by
    refine ⟨(hf.1 _ _ (fun q => by unfold kW_pk at q; omega)).trans hn, fun s t s0 s1 t0 t1 => ?_⟩
    rw [hf.1 _ _ (fun q => by unfold kW_pk at q; omega), hf.1 (T + 21) _ (fun q => by unfold kW_pk at q; omega)]
    exact hC s t s0 s1 t0 t1
  have hac := kb_ac_rng (L := L) hF
  have hdn := fun (k : Nat) (hk : k ≤ 8) => kb_dn_In (an := kb_an g S L) (n := S.1.toNat) hac (by omega) hk
  refine jc_X2_fills h0 hT (fun τ hf hM => ?_)
  have hin : ∀ (m s k : Nat) (τ : jg_M), (s : Int) + m = S.1 → k < 8 → jF (kW_pk a) σ τ → kb_CM τ a (kb_row (kb_ac g S L) (kb_an g S L) (8 - k) s (kb_dn (kb_ac g S L) (kb_an g S L) S.1.toNat k kb_P0)) → (∀ τ u, jF (kW_pk a) σ τ → kb_CM τ a (kb_dn (kb_ac g S L) (kb_an g S L) S.1.toNat (k + 1) kb_P0) → jg_GV w 4 mm_X2_make 24 [.ref a, .ref T, .int (.ofInt (((8 - k : Nat) : Int) + (-1))), u] τ KV) →
      jg_GV w 4 mm_X2_make 30 [.ref a, .ref T, .int (.ofInt ((8 - k : Nat) : Int)), .int (.ofInt (s : Int))] τ KV := by
    intro m
    induction m with
    | zero =>
      intro s k τ hs hk8 hf hM kk
      obtain ⟨f1, f2⟩ := hfr τ hf
      refine jb_X2_make_30 h0 hT ?_
      rw [f1, jr_wr (by omega), jr_wr (by omega)]
      refine jn_ite (fun _ => kk τ _ hf ?_) (fun h => by omega)
      rw [show s = S.1.toNat by omega] at hM
      exact hM
    | succ m ih =>
      intro s k τ hs hk8 hf hM kk
      obtain ⟨f1, f2⟩ := hfr τ hf
      have hrI := kb_row_In (an := kb_an g S L) hac (show S.1.toNat ≤ 48 by omega) hk8 (hdn k (by omega)) (m := s) (by omega)
      have hle := kb_an_le (g := g) (S := S) (L := L) (k := s)
      refine jb_X2_make_30 h0 hT ?_
      rw [f1, jr_wr (show jr S.1 by omega), jr_wr (show jr (s : Int) by omega)]
      refine jn_ite (fun h => by omega) (fun _ => jc_X8_actionsIn hT h2 hW f1 hF f2 ⟨by omega, by omega⟩ ?_)
      show (if jg_wr ((kb_an g S L s : Nat) : Int) = jg_wr ((8 - k : Nat) : Int) then _ else _)
      rw [jr_wr (show jr ((kb_an g S L s : Nat) : Int) by omega), jr_wr (show jr ((8 - k : Nat) : Int) by omega)]
      refine jn_ite (fun he => ?_) (fun he => ?_)
      · have hrm := kb_room (an := kb_an g S L) (n := S.1.toNat) (m := s) (by omega) hk8 (by omega) (by omega)
        refine jc_X2_lay h0 hT h2 hTa f1 hF f2 hM hrI hrm ⟨by omega, by omega⟩ (fun τ2 hf2 hM2 => ?_)
        have := ih (s + 1) k τ2 (by omega) hk8 (jF_tr hf hf2) (by
          unfold kb_row
          rw [if_pos (by omega)]
          exact hM2) kk
        rw [show ((s + 1 : Nat) : Int) = (s : Int) + 1 by omega] at this
        exact this
      · have := ih (s + 1) k τ (by omega) hk8 hf (by
          unfold kb_row
          rw [if_neg (by omega)]
          exact hM) kk
        rw [show ((s + 1 : Nat) : Int) = (s : Int) + 1 by omega] at this
        exact this
  have hout : ∀ (m k : Nat) (τ : jg_M) (u : Value), k + m = 8 → jF (kW_pk a) σ τ → kb_CM τ a (kb_dn (kb_ac g S L) (kb_an g S L) S.1.toNat k kb_P0) → jg_GV w 4 mm_X2_make 24 [.ref a, .ref T, .int (.ofInt ((8 - k : Nat) : Int)), u] τ KV := by
    intro m
    induction m with
    | zero =>
      intro k τ u hk8 hf hM
      refine jb_X2_make_24 h0 hT ?_
      rw [jr_wr (by omega)]
      refine jn_ite (fun _ => hk τ hf (by rw [show k = 8 by omega] at hM; exact hM)) (fun h => by omega)
    | succ m ih =>
      intro k τ u hk8 hf hM
      refine jb_X2_make_24 h0 hT ?_
      rw [jr_wr (by omega)]
      refine jn_ite (fun h => by omega) (fun _ => ?_)
      refine hin S.1.toNat 0 k τ (by omega) (by omega) hf hM (fun τ2 u2 hf2 hM2 => ?_)
      rw [show ((8 - k : Nat) : Int) + -1 = ((8 - (k + 1) : Nat) : Int) by omega]
      exact ih (k + 1) τ2 u2 (by omega) hf2 hM2
  exact hout 8 0 τ _ rfl hf hM
end KBD
