/-! What both know behind the constructors -/
theorem mi_g0 {i : Nat} {j : Int} (h : i ≠ 0 ∨ j ≠ 4) : kt_g0 i j = 0 := if_neg (fun q => h.elim (fun h => h q.1) (fun h => h q.2))
theorem mi_g02 : kt_g0 0 2 = 0 := rfl
theorem mi_g01 : kt_g0 0 1 = 0 := rfl
theorem mi_g00 : kt_g0 0 0 = 0 := rfl
theorem mi_sub0 {b : Nat} : jn_sub 0 b := by
  unfold jn_sub
  simp
theorem mi_lEF : jn_lEF kt_g0 0 (fun _ => 0) :=
  ⟨⟨fun r h1 h2 => absurd h2 (by rw [mi_g02]; omega), fun r h1 h2 => absurd h2 (by rw [mi_g02]; omega), by decide, fun _ _ _ => (show (0 : Nat) < 256 by decide), fun _ _ _ => rfl⟩, fun e' f' _ _ => ⟨mi_sub0, fun x h1 h2 => absurd h2 (by rw [mi_g01]; omega)⟩⟩
theorem mi_e0 : kg_e kt_g0 = 0 := ((kg_EF_ok kt_g0_ok.1.1 mi_lEF).2.1).symm
theorem mi_f0 {x : Int} (h1 : 0 ≤ x) (h2 : x < 5) : kg_f kt_g0 x = 0 := ((kg_EF_ok kt_g0_ok.1.1 mi_lEF).2.2 x h1 h2).symm
theorem mi_lW : jn_lW kt_g0 0 (fun _ => 0) (fun _ => 0) :=
  ⟨⟨fun h => absurd h (by rw [mi_g01]; omega), fun r h1 h2 => absurd h2 (by rw [mi_g02]; omega)⟩, fun _ _ _ => (show (0 : Nat) < 256 by decide), fun _ _ _ => rfl, fun w' _ x h1 h2 => absurd h2 (by rw [mi_g01]; omega)⟩
theorem mi_fo0 {x : Int} (h1 : 0 ≤ x) (h2 : x < 5) : kg_fo kt_g0 x = 0 := ((kg_fo_ok kt_g0_ok.1.1 mi_lEF mi_lW).2 x h1 h2).symm
theorem mi_c0 {a : Nat} {i : Int} (h : a < 92) (h0 : a ≠ 0) (h1 : ¬ ((a = 5 ∨ a = 27) ∧ i = 4)) (h2 : ¬ (a = 2 ∧ i = 1)) (h3 : ¬ (a = 74 ∧ i = 1)) : mi_sm.1 a i = 0 := by
  unfold mi_sm
  dsimp only
  rw [if_pos h]
  unfold mi_sh
  dsimp only
  rw [if_neg (by omega), if_neg (by omega), if_neg (by omega), if_neg h1, if_neg h2, if_neg h3]
/-- the start -/
def mi_S : kx_S := ((4, kt_g0), (kr_I kt_g0, 0, 0), ((0, -1), fun _ => (0, 0, 0)), (0, fun _ => ((0, fun _ => 0), 0, 0)), (((0, fun _ => 0), 0, 0), 0), (fun _ => 0), 0, -1, 0)
theorem mi_P : kx_P mi_S := by
  refine ⟨Or.inl ⟨rfl, rfl⟩, ⟨fun i q => absurd q (Nat.not_lt_zero i), by show (-1 : Int) ≤ ((0 : Nat) : Int); decide, fun i q => absurd q (Nat.not_lt_zero i)⟩, fun i q => absurd q (Nat.not_lt_zero i), ⟨Or.inl rfl, fun q => absurd rfl q⟩, fun i => ⟨Int.le_refl 0, by show (0 : Int) ≤ 255; decide⟩, ⟨Int.le_refl 0, by show (0 : Int) ≤ 700; decide⟩, ⟨kt_g0_ok, fun h => ?_⟩, Nat.zero_le _⟩
  have : ku_n kt_g0 = 0 := if_pos rfl
  have h : 0 < ku_n kt_g0 := h
  omega
theorem mi_isS {s : Int} : ¬ jn_isS kt_g0 s := by
  unfold jn_isS
  rw [mi_g00, mi_g01]
  omega
theorem mi_GC : kt_GC mi_sm 5 kt_g0 0 := by
  have hz := @mi_c0
  refine ⟨⟨hz (by decide) (by decide) (by decide) (by decide) (by decide), hz (by decide) (by decide) (by decide) (by decide) (by decide), hz (by decide) (by decide) (by decide) (by decide) (by decide), hz (by decide) (by decide) (by decide) (by decide) (by decide), rfl⟩, fun s h => absurd h mi_isS, fun t h1 h2 => ⟨?_, ?_⟩, fun r h1 h2 => absurd h2 (by omega)⟩
  · rw [hz (by decide) (by decide) (by omega) (by omega) (by omega), mi_g0 (by omega)]
  · rw [hz (by decide) (by decide) (by omega) (by omega) (by omega), mi_g0 (by omega)]
theorem mi_GE : jn_GE mi_sm 5 kt_g0 (kg_e kt_g0) (kg_f kt_g0) := by
  have hz := @mi_c0
  have hG := mi_GC
  refine ⟨⟨hG.1, fun r h1 h2 => absurd h2 (by rw [mi_g02]; omega), fun r h1 h2 => absurd h2 (by rw [mi_g00]; omega)⟩, ?_, fun k h1 h2 => ?_, by rw [mi_e0]; decide, fun k h1 h2 => by rw [mi_f0 h1 h2]; decide⟩
  · rw [mi_e0]
    exact hz (by decide) (by decide) (by decide) (by decide) (by decide)
  · rw [mi_f0 h1 h2]
    exact hz (by decide) (by decide) (by omega) (by omega) (by omega)
theorem mi_CG : ku_CG mi_sm 4 kt_g0 := by
  have hz := @mi_c0
  refine ⟨⟨Or.inl rfl, rfl, rfl⟩, ⟨kt_g0_ok, mi_GC⟩, ⟨mi_GE, fun k h1 h2 => ?_, Or.inl ⟨rfl, ?_, fun i h1 h2 => ⟨?_, ?_⟩⟩⟩, Or.inl ⟨rfl, fun i hi => ?_⟩, ⟨fun h => absurd h (by rw [mi_g01]; omega), Or.inl rfl⟩, ?_⟩
  · rw [mi_fo0 h1 h2]
    exact hz (by decide) (by decide) (by omega) (by omega) (by omega)
  · exact hz (by decide) (by decide) (by decide) (by decide) (by decide)
  · exact hz (by decide) (by decide) (by omega) (by omega) (by omega)
  · exact hz (by decide) (by decide) (by omega) (by omega) (by omega)
  · exact hz (by decide) (by decide) (by omega) (by omega) (by omega)
  · have : ku_P kt_g0 = kb_P0 := if_pos rfl
    rw [this]
    refine ⟨hz (by decide) (by decide) (by decide) (by decide) (by decide), fun s h1 h2 => hz (by decide) (by decide) (by omega) (by omega) (by omega), fun i h1 h2 => ⟨hz (by decide) (by decide) (by omega) (by omega) (by omega), fun h => absurd rfl h⟩⟩
theorem mi_Csm : kx_C mi_sm mi_S := by
  have hz := @mi_c0
  have hI : kr_I kt_g0 = (0, fun _ => 0) := if_pos rfl
  unfold mi_S
  rw [hI]
  refine ⟨mi_CG, ⟨⟨?_, fun i hi => absurd hi (Nat.not_lt_zero i)⟩, ?_, ?_⟩, ⟨⟨?_, Nat.zero_le _⟩, ⟨rfl, by decide, by decide⟩, fun i hi => absurd hi (Nat.not_lt_zero i)⟩, ⟨0, ?_, by decide, ⟨?_, Nat.zero_le _⟩, fun i hi => absurd hi (Nat.not_lt_zero i)⟩, ⟨rfl, fun q => absurd rfl q⟩, ⟨rfl, fun i hi => ?_⟩, ⟨?_, rfl⟩, Or.inl ?_⟩
  all_goals first | exact hz (by decide) (by decide) (by decide) (by decide) (by decide) | skip
  have hi : (i : Int) < 0 := hi
  omega
theorem mi_CM {τ : jg_M} (h : mi_MF τ) : kx_C τ mi_S ∧ kx_M τ mi_S := by
  obtain ⟨hf, hMG, hNo, ⟨v1, v2⟩, ⟨v3, v4, v5, v6⟩⟩ := h
  have k0 : ∀ i, i ≠ 59 → i ≠ 60 → i ≠ 65 → i ≠ 66 → i ≠ 70 → i ≠ 72 → i ≠ 48 → i ≠ 52 → (i < 33 ∨ 38 < i) → i ≠ 58 → τ.1 92 i = mi_sm.1 92 i := fun i i1 i2 i3 i4 i5 i6 i7 i8 i9 ia => hf.1 _ _ (fun q => by unfold kW_kt at q; omega)
  refine ⟨kx_C_fr mi_Csm hf (fun c i q1 q2 => ?_), ⟨hMG, ⟨hNo, v2, v1⟩, ⟨⟨v3, Nat.zero_le _⟩, ⟨v4, by decide, by decide⟩, fun i hi => absurd hi (Nat.not_lt_zero i)⟩, ⟨⟨v5, Nat.zero_le _⟩, fun i hi => absurd hi (Nat.not_lt_zero i)⟩, ⟨v6, fun q => absurd rfl q⟩, ⟨?_, fun i hi => ?_⟩, ⟨?_, ?_⟩, fun i hi => ?_⟩⟩
  · unfold kx_wc at q1
    unfold kW_kt at q2
    have : mi_S.1.1 = 4 := rfl
    rw [this] at q1
    omega
  · rw [k0 1 (by decide) (by decide) (by decide) (by decide) (by decide) (by decide) (by decide) (by decide) (by decide) (by decide)]; rfl
  · have hi : (i : Int) < 0 := hi
    omega
  · rw [k0 4 (by decide) (by decide) (by decide) (by decide) (by decide) (by decide) (by decide) (by decide) (by decide) (by decide)]; rfl
  · rw [k0 5 (by decide) (by decide) (by decide) (by decide) (by decide) (by decide) (by decide) (by decide) (by decide) (by decide)]; rfl
  · rw [hf.1 _ _ (fun q => by unfold kW_kt at q; omega)]
    rfl
