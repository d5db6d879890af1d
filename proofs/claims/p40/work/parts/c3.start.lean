/-! THE CONSTRUCTOR, worked out; what the desk knows behind it -/
/-- two cells are alike -/
def mi_ok (x y : mj_E) : Prop := match x, y with
  | .inr o, .inr o' => o = o'
  | .inl (k, n, .inl f), .inl (k', n', .inl f') => k = k' ∧ n = n' ∧ ∀ i, i < n → f i = f' i
  | .inl (k, n, .inr (.inl f)), .inl (k', n', .inr (.inl f')) => k = k' ∧ n = n' ∧ ∀ i, i < n → f i = f' i
  | _, _ => False
def mi_b (x y : mj_E) : Bool := match x, y with
  | .inr o, .inr o' => decide (o = o')
  | .inl (k, n, .inl f), .inl (k', n', .inl f') => Nat.beq k k' && Nat.beq n n' && (List.range n).all (fun i => decide (f i = f' i))
  | .inl (k, n, .inr (.inl f)), .inl (k', n', .inr (.inl f')) => Nat.beq k k' && Nat.beq n n' && (List.range n).all (fun i => decide (f i = f' i))
  | _, _ => false
theorem mi_b_ok {x y : mj_E} (h : mi_b x y = true) : mi_ok x y := by
  unfold mi_b at h
  unfold mi_ok
  split at h
  · exact of_decide_eq_true h
  · rw [Bool.and_eq_true, Bool.and_eq_true, List.all_eq_true] at h
    exact ⟨Nat.eq_of_beq_eq_true h.1.1, Nat.eq_of_beq_eq_true h.1.2, fun i hi => of_decide_eq_true (h.2 i (List.mem_range.mpr hi))⟩
  · rw [Bool.and_eq_true, Bool.and_eq_true, List.all_eq_true] at h
    exact ⟨Nat.eq_of_beq_eq_true h.1.1, Nat.eq_of_beq_eq_true h.1.2, fun i hi => of_decide_eq_true (h.2 i (List.mem_range.mpr hi))⟩
  · cases h
theorem mi_arr {cA : ClassId} {n : Nat} {f f' : Nat → Value} (h : ∀ i, i < n → f i = f' i) : arrV cA n f = arrV cA n f' := by
  unfold arrV
  congr 1
  congr 1
  funext j
  exact h j.val j.isLt
theorem mi_at {B t a : Nat} {cA : Nat → ClassId} {D : va_G} {cl : List vw_C} {x y : mj_E} {H : Heap} (h : mi_ok x y) (hat : va_at D cl (a, mj_e B t cA x) H) : va_at D cl (a, mj_e B t cA y) H := by
  unfold mi_ok at h
  split at h
  · rw [← h]; exact hat
  · obtain ⟨rfl, rfl, h⟩ := h
    unfold va_at mj_e at hat ⊢
    dsimp only at hat ⊢
    unfold vp_cell at hat ⊢
    dsimp only at hat ⊢
    rw [hat]
    congr 1
    exact mi_arr (fun i hi => by rw [h i hi])
  · obtain ⟨rfl, rfl, h⟩ := h
    unfold va_at mj_e at hat ⊢
    dsimp only at hat ⊢
    unfold vp_cell at hat ⊢
    dsimp only at hat ⊢
    rw [hat]
    congr 1
    exact mi_arr (fun i hi => by rw [h i hi])
  · exact h.elim
/-- what the machine holds is the other heap, too -/
theorem mi_hd {B t sz : Nat} {cA : Nat → ClassId} {D : va_G} {hp hp' : mj_Hp} {H : Heap} (h : mj_hd B t cA D hp sz H) (hok : ∀ c, c < sz → mi_ok (hp c) (hp' c)) (hwf : mj_wf hp' sz) : mj_hd B t cA D hp' sz H := by
  refine ⟨fun k q hq => ?_, hwf⟩
  obtain ⟨hk, rfl⟩ := mj_ws_no hq
  exact mi_at (hok k hk) (h.1 k _ (mj_ws_get hk))
theorem mi_all {hp hp' : mj_Hp} {sz : Nat} (h : (List.range sz).all (fun c => mi_b (hp c) (hp' c)) = true) : ∀ c, c < sz → mi_ok (hp c) (hp' c) := fun c hc => mi_b_ok (List.all_eq_true.mp h c (List.mem_range.mpr hc))
def mi_hp0 : mj_Hp := fun c => if c = 999999 then .inl (3, 6, .inl mj_pl) else .inr (99, [])
/-- behind 'new LalrDesk' -/
def mi_h1 : mj_Hp := mj_set mi_hp0 0 (.inr (11, (List.range (mj_N 11)).map (fun k => defaultValue (mj_ty 11 k))))
def mi_C : Option mj_Res := mj_cf true mj_ms 5000 20 140 [.ref 0] mi_h1 1 15
/-- a new desk's cells -/
def mi_sh : jg_M := (fun a i => if a = 0 ∧ i = 3 then 4 else if a = 0 ∧ i = 4 then 26 else if a = 0 ∧ i = 9 then 90 else if (a = 5 ∨ a = 27) ∧ i = 4 then -1 else if a = 2 ∧ i = 1 then -1 else if a = 74 ∧ i = 1 then -1 else 0, fun _ _ => 0)
def mi_Cb : Bool := match mi_C with
  | some (v, hp, sz, sl) => decide (v = none) && Nat.beq sz 92 && Nat.beq sl 22258 && (List.range 92).all (fun c => mi_b (hp c) (jg_en 92 mi_sh c))
  | none => false
set_option maxRecDepth 100000 in
theorem mi_Cbt : mi_Cb = true := by decide +kernel
theorem mi_Cok : ∃ hp, mi_C = some (none, hp, 92, 22258) ∧ ∀ c, c < 92 → mi_ok (hp c) (jg_en 92 mi_sh c) := by
  have h := mi_Cbt
  unfold mi_Cb at h
  split at h
  · rename_i v hp sz sl hA
    rw [Bool.and_eq_true, Bool.and_eq_true, Bool.and_eq_true] at h
    obtain ⟨⟨⟨h1, h4⟩, h5⟩, h6⟩ := h
    refine ⟨hp, ?_, mi_all h6⟩
    rw [hA, of_decide_eq_true h1, Nat.eq_of_beq_eq_true h4, Nat.eq_of_beq_eq_true h5]
  · cases h
def mi_h7 : mj_Hp := fun c => if c < 92 then jg_en 92 mi_sh c else mi_hp0 c
theorem mi_wf7 : mj_wf mi_h7 92 := by
  refine ⟨by decide, fun k hk => ?_⟩
  unfold mi_h7 mi_hp0
  rw [if_neg (by omega)]
  by_cases h9 : k = 999999
  · rw [if_pos h9]; exact Or.inr ⟨h9, rfl⟩
  · rw [if_neg h9]; exact Or.inl rfl
theorem mi_wf0 : mj_wf mi_hp0 0 := by
  refine ⟨by decide, fun k hk => ?_⟩
  unfold mi_hp0
  by_cases h9 : k = 999999
  · rw [if_pos h9]; exact Or.inr ⟨h9, rfl⟩
  · rw [if_neg h9]; exact Or.inl rfl
theorem mi_g0 {i : Nat} {j : Int} (h : i ≠ 0 ∨ j ≠ 4) : kt_g0 i j = 0 := if_neg (fun q => h.elim (fun h => h q.1) (fun h => h q.2))
theorem mi_g02 : kt_g0 0 2 = 0 := rfl
theorem mi_g01 : kt_g0 0 1 = 0 := rfl
theorem mi_g00 : kt_g0 0 0 = 0 := rfl
theorem mi_sub0 {b : Nat} : jn_sub 0 b := by
  unfold jn_sub
  simp
theorem mi_lEF : jn_lEF kt_g0 0 (fun _ => 0) :=
  ⟨⟨fun r h1 h2 => absurd h2 (by rw [mi_g02]; omega), fun r h1 h2 => absurd h2 (by rw [mi_g02]; omega), by decide, fun _ _ _ => (show (0 : Nat) < 256 by decide), fun _ _ _ => rfl⟩, fun e' f' _ _ => ⟨mi_sub0, fun x h1 h2 => absurd h2 (by rw [mi_g01]; omega)⟩⟩
theorem mi_e0 : kg_e kt_g0 = 0 := ((kg_EF_ok kt_g0_ok.1.1 mi_lEF).2.1).symm
theorem mi_f0 {x : Int} (h1 : 0 ≤ x) (h2 : x < 5) : kg_f kt_g0 x = 0 := ((kg_EF_ok kt_g0_ok.1.1 mi_lEF).2.2 x h1 h2).symm
theorem mi_lW : jn_lW kt_g0 0 (fun _ => 0) (fun _ => 0) :=
  ⟨⟨fun h => absurd h (by rw [mi_g01]; omega), fun r h1 h2 => absurd h2 (by rw [mi_g02]; omega)⟩, fun _ _ _ => (show (0 : Nat) < 256 by decide), fun _ _ _ => rfl, fun w' _ x h1 h2 => absurd h2 (by rw [mi_g01]; omega)⟩
theorem mi_fo0 {x : Int} (h1 : 0 ≤ x) (h2 : x < 5) : kg_fo kt_g0 x = 0 := ((kg_fo_ok kt_g0_ok.1.1 mi_lEF mi_lW).2 x h1 h2).symm
theorem mi_c0 {a : Nat} {i : Int} (h : a < 92) (h0 : a ≠ 0) (h1 : ¬ ((a = 5 ∨ a = 27) ∧ i = 4)) (h2 : ¬ (a = 2 ∧ i = 1)) (h3 : ¬ (a = 74 ∧ i = 1)) : mi_sh.1 a i = 0 := by
  unfold mi_sh
  dsimp only
  rw [if_neg (by omega), if_neg (by omega), if_neg (by omega), if_neg h1, if_neg h2, if_neg h3]
/-- the start -/
def mi_S : kx_S := ((4, kt_g0), (kr_I kt_g0, 0, 0), ((0, -1), fun _ => (0, 0, 0)), (0, fun _ => ((0, fun _ => 0), 0, 0)), (((0, fun _ => 0), 0, 0), 0), (fun _ => 0), 0, -1, 0)
theorem mi_P : kx_P mi_S := by
  refine ⟨Or.inl ⟨rfl, rfl⟩, ⟨fun i q => absurd q (Nat.not_lt_zero i), by show (-1 : Int) ≤ ((0 : Nat) : Int); decide, fun i q => absurd q (Nat.not_lt_zero i)⟩, fun i q => absurd q (Nat.not_lt_zero i), ⟨Or.inl rfl, fun q => absurd rfl q⟩, fun i => ⟨Int.le_refl 0, by show (0 : Int) ≤ 255; decide⟩, ⟨Int.le_refl 0, by show (0 : Int) ≤ 700; decide⟩, ⟨kt_g0_ok, fun h => ?_⟩, Nat.zero_le _⟩
  have : ku_n kt_g0 = 0 := if_pos rfl
  have h : 0 < ku_n kt_g0 := h
  omega
theorem mi_isS {s : Int} : ¬ jn_isS kt_g0 s := by
  unfold jn_isS
  rw [mi_g00, mi_g01]
  omega
theorem mi_GC : kt_GC mi_sh 5 kt_g0 0 := by
  have hz := @mi_c0
  refine ⟨⟨hz (by decide) (by decide) (by decide) (by decide) (by decide), hz (by decide) (by decide) (by decide) (by decide) (by decide), hz (by decide) (by decide) (by decide) (by decide) (by decide), hz (by decide) (by decide) (by decide) (by decide) (by decide), rfl⟩, fun s h => absurd h mi_isS, fun t h1 h2 => ⟨?_, ?_⟩, fun r h1 h2 => absurd h2 (by omega)⟩
  · rw [hz (by decide) (by decide) (by omega) (by omega) (by omega), mi_g0 (by omega)]
  · rw [hz (by decide) (by decide) (by omega) (by omega) (by omega), mi_g0 (by omega)]
theorem mi_GE : jn_GE mi_sh 5 kt_g0 (kg_e kt_g0) (kg_f kt_g0) := by
  have hz := @mi_c0
  have hG := mi_GC
  refine ⟨⟨hG.1, fun r h1 h2 => absurd h2 (by rw [mi_g02]; omega), fun r h1 h2 => absurd h2 (by rw [mi_g00]; omega)⟩, ?_, fun k h1 h2 => ?_, by rw [mi_e0]; decide, fun k h1 h2 => by rw [mi_f0 h1 h2]; decide⟩
  · rw [mi_e0]
    exact hz (by decide) (by decide) (by decide) (by decide) (by decide)
  · rw [mi_f0 h1 h2]
    exact hz (by decide) (by decide) (by omega) (by omega) (by omega)
theorem mi_CG : ku_CG mi_sh 4 kt_g0 := by
  have hz := @mi_c0
  refine ⟨⟨Or.inl rfl, rfl, rfl⟩, ⟨kt_g0_ok, mi_GC⟩, ⟨mi_GE, fun k h1 h2 => ?_, Or.inl ⟨rfl, ?_, fun i h1 h2 => ⟨?_, ?_⟩⟩⟩, Or.inl ⟨rfl, fun i hi => ?_⟩, ⟨fun h => absurd h (by rw [mi_g01]; omega), Or.inl rfl⟩, ?_⟩
  · rw [mi_fo0 h1 h2]
    exact hz (by decide) (by decide) (by omega) (by omega) (by omega)
  · exact hz (by decide) (by decide) (by decide) (by decide) (by decide)
  · exact hz (by decide) (by decide) (by omega) (by omega) (by omega)
  · exact hz (by decide) (by decide) (by omega) (by omega) (by omega)
  · exact hz (by decide) (by decide) (by omega) (by omega) (by omega)
  · have : ku_P kt_g0 = kb_P0 := if_pos rfl
    rw [this]
    refine ⟨hz (by decide) (by decide) (by decide) (by decide) (by decide), fun s h1 h2 => hz (by decide) (by decide) (by omega) (by omega) (by omega), fun i h1 h2 => ⟨hz (by decide) (by decide) (by omega) (by omega) (by omega), fun h => absurd rfl h⟩⟩
theorem mi_Csm : kx_C mi_sh mi_S := by
  have hz := @mi_c0
  have hI : kr_I kt_g0 = (0, fun _ => 0) := if_pos rfl
  unfold mi_S
  rw [hI]
  refine ⟨mi_CG, ⟨⟨?_, fun i hi => absurd hi (Nat.not_lt_zero i)⟩, ?_, ?_⟩, ⟨⟨?_, Nat.zero_le _⟩, ⟨rfl, by decide, by decide⟩, fun i hi => absurd hi (Nat.not_lt_zero i)⟩, ⟨0, ?_, by decide, ⟨?_, Nat.zero_le _⟩, fun i hi => absurd hi (Nat.not_lt_zero i)⟩, ⟨rfl, fun q => absurd rfl q⟩, ⟨rfl, fun i hi => ?_⟩, ⟨?_, rfl⟩, Or.inl ?_⟩
  all_goals first | exact hz (by decide) (by decide) (by decide) (by decide) (by decide) | skip
  have hi : (i : Int) < 0 := hi
  omega
