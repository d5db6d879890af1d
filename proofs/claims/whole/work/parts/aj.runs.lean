/-! Runs in pieces; heaps that are alike -/
def mi_part (al : Bool) (K : Nat) : Nat → Nat → mj_Inf → mj_Cfg → Option mj_Cfg
  | 0, _, _, c => some c
  | n + 1, d, M, (pc, ls, st, hp, sz, sl) => match mj_find M.2.2.2.2.2.2.2 pc with
    | none => none
    | some (i, a, b, _) => match Nat.beq b 99 with
      | true => none
      | false => match mj_one al (mj_cf al mj_ms K d) d M i a b pc ls st hp sz sl with
        | some (.inl c) => mi_part al K n d M c
        | _ => none
/-- two cells are alike -/
def mi_ok (x y : mj_E) : Prop := match x, y with
  | .inr o, .inr o' => o = o'
  | .inl (k, n, .inl f), .inl (k', n', .inl f') => k = k' ∧ n = n' ∧ ∀ i, i < n → f i = f' i
  | .inl (k, n, .inr (.inl f)), .inl (k', n', .inr (.inl f')) => k = k' ∧ n = n' ∧ ∀ i, i < n → f i = f' i
  | _, _ => False
def mi_b (x y : mj_E) : Bool := match x, y with
  | .inr o, .inr o' => decide (o = o')
  | .inl (k, n, .inl f), .inl (k', n', .inl f') => Nat.beq k k' && Nat.beq n n' && (List.range n).all (fun i => decide (f i = f' i))
  | .inl (k, n, .inr (.inl f)), .inl (k', n', .inr (.inl f')) => Nat.beq k k' && Nat.beq n n' && (List.range n).all (fun i => decide (f i = f' i))
  | _, _ => false
theorem mi_b_ok {x y : mj_E} (h : mi_b x y = true) : mi_ok x y := by
  unfold mi_b at h
  unfold mi_ok
  split at h
  · exact of_decide_eq_true h
  · rw [Bool.and_eq_true, Bool.and_eq_true, List.all_eq_true] at h
    exact ⟨Nat.eq_of_beq_eq_true h.1.1, Nat.eq_of_beq_eq_true h.1.2, fun i hi => of_decide_eq_true (h.2 i (List.mem_range.mpr hi))⟩
  · rw [Bool.and_eq_true, Bool.and_eq_true, List.all_eq_true] at h
    exact ⟨Nat.eq_of_beq_eq_true h.1.1, Nat.eq_of_beq_eq_true h.1.2, fun i hi => of_decide_eq_true (h.2 i (List.mem_range.mpr hi))⟩
  · cases h
theorem mi_arr {cA : ClassId} {n : Nat} {f f' : Nat → Value} (h : ∀ i, i < n → f i = f' i) : arrV cA n f = arrV cA n f' := by
  unfold arrV
  congr 1
  congr 1
  funext j
  exact h j.val j.isLt
theorem mi_at {B t a : Nat} {cA : Nat → ClassId} {D : va_G} {cl : List vw_C} {x y : mj_E} {H : Heap} (h : mi_ok x y) (hat : va_at D cl (a, mj_e B t cA x) H) : va_at D cl (a, mj_e B t cA y) H := by
  unfold mi_ok at h
  split at h
  · rw [← h]; exact hat
  · obtain ⟨rfl, rfl, h⟩ := h
    unfold va_at mj_e at hat ⊢
    dsimp only at hat ⊢
    unfold vp_cell at hat ⊢
    dsimp only at hat ⊢
    rw [hat]
    congr 1
    exact mi_arr (fun i hi => by rw [h i hi])
  · obtain ⟨rfl, rfl, h⟩ := h
    unfold va_at mj_e at hat ⊢
    dsimp only at hat ⊢
    unfold vp_cell at hat ⊢
    dsimp only at hat ⊢
    rw [hat]
    congr 1
    exact mi_arr (fun i hi => by rw [h i hi])
  · exact h.elim
/-- what the machine holds is the other heap, too -/
theorem mi_hd {B t sz : Nat} {cA : Nat → ClassId} {D : va_G} {hp hp' : mj_Hp} {H : Heap} (h : mj_hd B t cA D hp sz H) (hok : ∀ c, c < sz → mi_ok (hp c) (hp' c)) (hwf : mj_wf hp' sz) : mj_hd B t cA D hp' sz H := by
  refine ⟨fun k q hq => ?_, hwf⟩
  obtain ⟨hk, rfl⟩ := mj_ws_no hq
  exact mi_at (hok k hk) (h.1 k _ (mj_ws_get hk))
theorem mi_all {hp hp' : mj_Hp} {sz : Nat} (h : (List.range sz).all (fun c => mi_b (hp c) (hp' c)) = true) : ∀ c, c < sz → mi_ok (hp c) (hp' c) := fun c hc => mi_b_ok (List.all_eq_true.mp h c (List.mem_range.mpr hc))
section MIA
variable {p : Program} {l : Launch} {e : Env} {R : Room} {s : State} {m : MethodId} {args : Array Value} {below : List Frame} {meth : Method} {c : Code} {Q : State → Prop}
variable {al : Bool} {B t K : Nat} {cA : Nat → ClassId} {D : va_G}
theorem mi_simPart : ∀ (n : Nat) {d : Nat} {M : mj_Inf} {pc : Nat} {lst st : List Value} {hp : mj_Hp} {sz sl : Nat} {pc' : Nat} {lst' st' : List Value} {hp' : mj_Hp} {sz' sl' : Nat} {H : Heap} {locs : List Loc} {cells slots : Nat} {ls : Array Slot},
    mi_part al K n d M (pc, lst, st, hp, sz, sl) = some (pc', lst', st', hp', sz', sl') → (∀ row ∈ M.2.2.2.2.2.2.2, (Nat.beq row.2.2.2.1 99 || mj_rk M row) = true ∧ mj_dk M row = true) → mj_Fr p s m args c M → meth.name = M.2.1.name → mj_K B t cA D s → B ≤ s.heap.size → (al = true → B + sz = s.heap.size + cells) → mj_hd B t cA D hp sz H → va_S (mj_A B) s.heap H locs → mj_LV B t M ls lst →
    d ≤ R.frames → 40 * d ≤ R.locals → cells + (sz' - sz) ≤ R.cells → slots + (sl' - sl) ≤ R.slots →
    (sz ≤ sz' → sl ≤ sl' → ∀ H1 locs1 ls1, mj_hd B t cA D hp' sz' H1 → va_S (mj_A B) s.heap H1 locs1 → mj_LV B t M ls1 lst' → W p l e R s m args below meth c H1 locs1 (cells + (sz' - sz)) (slots + (sl' - sl)) Q (F0 m pc' ls1 (st'.map (mj_v B t)))) →
    W p l e R s m args below meth c H locs cells slots Q (F0 m pc ls (st.map (mj_v B t))) := by
  intro n
  induction n with
  | zero =>
    intro d M pc lst st hp sz sl pc' lst' st' hp' sz' sl' H locs cells slots ls h hMok F hin hK hB hal hH hS L hfr hlo hmc hms kk
    unfold mi_part at h
    cases h
    have := kk (Nat.le_refl _) (Nat.le_refl _) H locs ls hH hS L
    rwa [Nat.sub_self, Nat.sub_self] at this
  | succ n ih =>
    intro d M pc lst st hp sz sl pc' lst' st' hp' sz' sl' H locs cells slots ls h hMok F hin hK hB hal hH hS L hfr hlo hmc hms kk
    unfold mi_part at h
    split at h
    · cases h
    · rename_i i a b f hf
      have hrow := mj_find_mem hf
      obtain ⟨hrk, hdk⟩ := hMok _ hrow
      have hdg : decode M.2.2.1 pc = .ok (i, mj_len i b) := of_decide_eq_true hdk
      cases hb : Nat.beq b 99 with
      | true => rw [hb] at h; cases h
      | false =>
      have hrk : mj_rk M (pc, i, a, b, f) = true := by
        have h2 : (Nat.beq b 99 || mj_rk M (pc, i, a, b, f)) = true := hrk
        rw [hb] at h2
        exact h2
      rw [hb] at h
      dsimp only at h
      split at h
      · rename_i c1 hr
        obtain ⟨pc1, lst1, st1, hp1, sz1, sl1⟩ := c1
        have hmono : ∀ (n : Nat) (pc : Nat) (lst st : List Value) (hp : mj_Hp) (sz sl : Nat), mi_part al K n d M (pc, lst, st, hp, sz, sl) = some (pc', lst', st', hp', sz', sl') → sz ≤ sz' ∧ sl ≤ sl' := by
          intro n
          induction n with
          | zero =>
            intro pc lst st hp sz sl h
            unfold mi_part at h
            cases h
            exact ⟨Nat.le_refl _, Nat.le_refl _⟩
          | succ n ihn =>
            intro pc lst st hp sz sl h
            unfold mi_part at h
            split at h
            · cases h
            · rename_i i a b f hf
              cases hb : Nat.beq b 99 with
              | true => rw [hb] at h; cases h
              | false =>
              rw [hb] at h
              dsimp only at h
              split at h
              · rename_i c1 hr
                obtain ⟨pc1, lst1, st1, hp1, sz1, sl1⟩ := c1
                have h2 := ihn _ _ _ _ _ _ h
                have h1 : sz ≤ sz1 ∧ sl ≤ sl1 := by
                  unfold mj_one at hr
                  split at hr
                  · obtain ⟨-, e2, e3⟩ := mj_stA_same hr
                    exact ⟨by omega, by omega⟩
                  · obtain ⟨-, e2, e3, -⟩ := mj_stB_same hr
                    exact ⟨by omega, by omega⟩
                  · obtain ⟨-, e2, e3, -⟩ := mj_stC_same hr
                    exact ⟨by omega, by omega⟩
                  · exact mj_stD_mono hr
                  · exact mj_stE_mono (fun y As hp sz sl v hp' sz' sl' hq => by
                      obtain ⟨-, -, -, -, z1, z2, -⟩ := mj_Ca_run (l := l) _ _ _ _ _ _ _ _ _ hq
                      exact ⟨z1, z2⟩) hr
                exact ⟨by omega, by omega⟩
              · cases h
        have hm2 := hmono n pc1 lst1 st1 hp1 sz1 sl1 h
        have hm1 : sz ≤ sz1 ∧ sl ≤ sl1 := by
          unfold mj_one at hr
          split at hr
          · obtain ⟨-, e2, e3⟩ := mj_stA_same hr
            exact ⟨by omega, by omega⟩
          · obtain ⟨-, e2, e3, -⟩ := mj_stB_same hr
            exact ⟨by omega, by omega⟩
          · obtain ⟨-, e2, e3, -⟩ := mj_stC_same hr
            exact ⟨by omega, by omega⟩
          · exact mj_stD_mono hr
          · exact mj_stE_mono (fun y As hp sz sl v hp' sz' sl' hq => by
              obtain ⟨-, -, -, -, z1, z2, -⟩ := mj_Ca_run (l := l) _ _ _ _ _ _ _ _ _ hq
              exact ⟨z1, z2⟩) hr
        refine mj_sim1 F hin hK hB hal hH hS hdg hrk L mj_Ca_run hfr hlo ⟨by omega, by omega⟩ hr (fun m1 m2 H1 locs1 ls1 hd1 hS1 L1 => ?_)
        refine ih h hMok F hin hK hB (fun hh => by have := hal hh; omega) hd1 hS1 L1 hfr hlo (by omega) (by omega) (fun z1 z2 H2 locs2 ls2 hd2 hS2 L2 => ?_)
        have := kk (by omega) (by omega) H2 locs2 ls2 hd2 hS2 L2
        rw [show cells + (sz1 - sz) + (sz' - sz1) = cells + (sz' - sz) by omega, show slots + (sl1 - sl) + (sl' - sl1) = slots + (sl' - sl) by omega]
        exact this
      · cases h
end MIA
