/-! A TEXT that is told; the start -/
section KCB
variable {σ τ : jg_M} {S : kx_S} {rd tk F P fed im l : Int} {T c n : Nat} {g g' : gM} {K : kr_K} {N : kn_N} {hh : kz_H} {I : kr_K × Int × Int} {B : Nat → Int} {S' : jn_Q}
theorem kc_text (hP : kx_P ((T, g), (K, rd, tk), N, (c, hh), (I, im), B, F, P, fed)) (hn : (n : Int) ≤ fed) (ht : kt_tx B n 701 0 kt_g0 0 = .inr (g', l)) (h0 : 0 < g' 0 1) (hS : jn_all g' = some S') :
    kc_T ((T, g), (K, rd, tk), N, (c, hh), (I, im), B, F, P, fed) 7 mm_X11_text [.int (.ofInt (n : Nat))] l ((30 - T, g'), (kr_I g', 0, 0), ((0, -1), N.2), (0, hh), (I, 0), B, 0, -1, 0) := by
  obtain ⟨p1, ⟨p2, p3⟩, p4, ⟨p5, p6⟩, p7, p8, p9, p10⟩ := hP
  dsimp only at p1 p2 p3 p4 p5 p6 p7 p8 p9 p10
  have hx : jr (n : Int) := by omega
  have hok := kt_tx_ok kt_g0_ok (Nat.zero_le _) ht
  obtain ⟨hG', hI'⟩ := kx_G_of hok (Or.inr ⟨h0, _, hS⟩)
  refine ⟨⟨hI', ⟨fun i q => absurd q (Nat.not_lt_zero i), by show (-1 : Int) ≤ ((0 : Nat) : Int); decide, fun i q => absurd q (Nat.not_lt_zero i)⟩, fun i q => absurd q (Nat.not_lt_zero i), ⟨Or.inl rfl, fun q => absurd rfl q⟩, p7, ⟨Int.le_refl 0, by show (0 : Int) ≤ 700; decide⟩, hG', Nat.zero_le _⟩, fun σ h => ?_⟩
  obtain ⟨h1, h2, h3, h4, ⟨h5, h6⟩, h7, ⟨h8, h9⟩, h10⟩ := h
  dsimp only at h1 h2 h3 h4 h5 h6 h7 h8 h9 h10
  have hT := h1.1.1
  have e7 := h7.1
  refine jc_text (T := 30 - T) hx (by omega) (by rw [h1.1.2.1]; omega) (by rw [h1.1.2.2]; omega) (by omega) (fun i hi => h7.2 i (by omega)) p7 (fun q => absurd (by omega) q) (fun _ e' pl' q => ?_) (fun _ g2 l2 q q1 q2 => ?_) (fun _ g2 l2 q _ _ τ hf v hCG hRo v2 v3 => ?_)
  · rw [Int.toNat_natCast, ht] at q; cases q
  · rw [Int.toNat_natCast, ht] at q
    cases q
    rw [hS] at q2
    cases q2
  · rw [Int.toNat_natCast, ht] at q
    cases q
    exact ⟨rfl, jF_mono hf (fun c i q => by unfold kW_fl kW_ts at q; unfold kW_c; omega), hCG, ⟨hRo, v2.1, v2.2.1⟩, ⟨⟨v3.1, by show (0 : Nat) ≤ 24; decide⟩, ⟨v3.2.1, by show (-1 : Int) ≤ -1; decide, by show (-1 : Int) ≤ 24; decide⟩, fun i q => absurd q (Nat.not_lt_zero i)⟩, kx_R0 h4 (hf.1 _ _ (fun q => by unfold kW_fl kW_ts at q; omega)) v2.2.2.1, ⟨v2.2.2.2, fun q => absurd rfl q⟩, ⟨v.1, fun i q => by have q' : (i : Int) < 0 := q; omega⟩, ⟨v.2.1, v.2.2⟩, Or.inl v3.2.2⟩
end KCB
