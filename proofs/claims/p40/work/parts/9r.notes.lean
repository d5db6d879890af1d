/-! NOTES, in both: struck, known; what is READ, as a STACK; the FAULT -/
abbrev kn_N : Type := (Nat × Int) × (Nat → Int × Int × Int)
/-- notes in the class: (length or -1, number or note struck, said) -/
def kn_C (pl : Int → Int → Int) (σ : jg_M) (N : kn_N) : Prop := (σ.1 74 0 = (N.1.1 : Nat) ∧ N.1.1 ≤ 24) ∧ (σ.1 74 1 = N.1.2 ∧ -1 ≤ N.1.2 ∧ N.1.2 ≤ 24) ∧ ∀ i : Nat, i < N.1.1 → ((N.2 i).1 = -1 → σ.1 75 (i : Int) = -1 ∧ σ.1 77 (i : Int) = (N.2 i).2.1) ∧ ((N.2 i).1 ≠ -1 → σ.1 75 (i : Int) = pl (N.2 i).1 (N.2 i).2.1 ∧ σ.1 76 (i : Int) = (N.2 i).2.2 ∧ σ.1 77 (i : Int) = -1)
def kn_M (σ : jg_M) (N : kn_N) : Prop := (σ.1 92 65 = (N.1.1 : Nat) ∧ N.1.1 ≤ 24) ∧ (σ.1 92 66 = N.1.2 ∧ -1 ≤ N.1.2 ∧ N.1.2 ≤ 24) ∧ ∀ i : Nat, i < N.1.1 → σ.1 (92 + 43) (3 * (i : Int)) = (N.2 i).1 ∧ σ.1 (92 + 43) (3 * (i : Int) + 1) = (N.2 i).2.1 ∧ σ.1 (92 + 43) (3 * (i : Int) + 2) = (N.2 i).2.2
def kn_add (N : kn_N) (e : Int × Int × Int) : kn_N := ((N.1.1 + 1, N.1.2), fun i => if i = N.1.1 then e else N.2 i)
def kn_lim (N : kn_N) (x : Int) : kn_N := ((N.1.1, x), N.2)
def kW_no (c : Nat) (i : Int) : Prop := 74 ≤ c ∧ c ≤ 77
def kW_nm (c : Nat) (i : Int) : Prop := c = 92 + 43 ∨ (c = 92 ∧ (i = 2 ∨ i = 65 ∨ i = 66))
section KNA
variable {w : Nat} {σ τ : jg_M} {N : kn_N} {pl : Int → Int → Int} {x y k F P : Int} {e : Int × Int × Int} {KV : jg_M → Prop} {KI : Int → jg_M → Prop}
theorem jc_knownBy (hN : kn_C pl σ N) (hk : KI (if N.1.2 = -1 then (N.1.1 : Nat) else N.1.2) σ) : jg_CI w 0 mm_X1_knownBy [.ref 74] σ KI := by
  obtain ⟨⟨a1, a2⟩, ⟨b1, b2, b3⟩, _⟩ := hN
  refine jb_X1_knownBy_0 rfl ?_
  rw [a1, b1, jr_wr (show jr N.1.2 by omega)]
  refine jn_ite (fun h => ?_) (fun h => ?_)
  · rw [if_pos h] at hk; exact hk
  · rw [if_neg h] at hk; exact hk
theorem jc_known (hN : kn_C pl σ N) (hx : jr x) (k0 : ¬ (-1 ≤ x ∧ x ≤ (N.1.1 : Nat)) → KI 0 σ) (k1 : (-1 ≤ x ∧ x ≤ (N.1.1 : Nat)) → ∀ τ, jF kW_no σ τ → kn_C pl τ (kn_lim N x) → KI 1 τ) : jg_CI w 1 mm_X11_known [.ref 0, .int (.ofInt x)] σ KI := by
  obtain ⟨⟨a1, a2⟩, ⟨b1, b2, b3⟩, c⟩ := hN
  refine jb_X11_known_0 rfl (jb_X1_limit_0 rfl ?_)
  have a1' : σ.1 (0 + 74) 0 = (N.1.1 : Nat) := a1
  rw [a1', jr_wr hx, jr_wr (show jr ((N.1.1 : Nat) : Int) by omega)]
  refine jn_ite (fun h => ⟨Or.inl rfl, k0 (by omega)⟩) (fun h => jn_ite (fun h2 => ?_) (fun h2 => ⟨Or.inl rfl, k0 (by omega)⟩))
  intro τ hτ
  have hf : jF (fun c i => c = 74 ∧ i = 1) σ τ := by rw [hτ]; exact jF_I ⟨rfl, rfl⟩
  refine ⟨Or.inr rfl, k1 ⟨by omega, h2⟩ τ (jF_mono hf (fun c i q => by unfold kW_no; omega)) ⟨⟨(hf.1 _ _ (by omega)).trans a1, a2⟩, ⟨?_, by show -1 ≤ x; omega, by show x ≤ 24; omega⟩, fun i hi => ⟨fun q => ?_, fun q => ?_⟩⟩⟩
  · rw [hτ]; exact js_Is
  · have := (c i hi).1 q
    exact ⟨(hf.1 _ _ (by omega)).trans this.1, (hf.1 _ _ (by omega)).trans this.2⟩
  · have := (c i hi).2 q
    exact ⟨(hf.1 _ _ (by omega)).trans this.1, (hf.1 _ _ (by omega)).trans this.2.1, (hf.1 _ _ (by omega)).trans this.2.2⟩
theorem jc_strike (hN : kn_C pl σ N) (hx : jr x) (k0 : ¬ ((0 ≤ x ∧ x < (N.1.1 : Nat)) ∧ N.1.1 < 24) → KI (-1) σ) (k1 : ((0 ≤ x ∧ x < (N.1.1 : Nat)) ∧ N.1.1 < 24) → ∀ τ, jF kW_no σ τ → kn_C pl τ (kn_add N (-1, x, 0)) → KI (N.1.1 : Nat) τ) : jg_CI w 1 mm_X11_strike [.ref 0, .int (.ofInt x)] σ KI := by
  obtain ⟨⟨a1, a2⟩, ⟨b1, b2, b3⟩, c⟩ := hN
  refine jb_X11_strike_0 rfl (jb_X1_addStrike_0 rfl ?_)
  have a1' : σ.1 (0 + 74) 0 = (N.1.1 : Nat) := a1
  have wn := jr_wr (show jr ((N.1.1 : Nat) : Int) by omega)
  rw [a1', jr_wr hx, wn]
  refine jn_ite (fun h => k0 (by omega)) (fun h => jn_ite (fun h2 => k0 (by omega)) (fun h2 => jn_ite (fun h3 => ⟨by omega, ?_⟩) (fun h3 => k0 (by omega))))
  intro τ1 h1
  have e1 : τ1.1 (0 + 74) 0 = (N.1.1 : Nat) := by rw [h1, js_In (Or.inl (by decide))]; exact a1
  rw [e1, wn]
  refine ⟨by omega, ?_⟩
  intro τ2 h2'
  have e2 : τ2.1 (0 + 74) 0 = (N.1.1 : Nat) := by rw [h2', js_In (Or.inl (by decide))]; exact e1
  rw [e2]
  intro τ3 h3'
  have e3 : τ3.1 (0 + 74) 0 = (N.1.1 : Nat) + 1 := by rw [h3', js_Is]
  rw [e3, show ((N.1.1 : Nat) : Int) + 1 - 1 = (N.1.1 : Nat) by omega]
  have hf : jF (fun c i => (c = 75 ∧ i = (N.1.1 : Nat)) ∨ (c = 77 ∧ i = (N.1.1 : Nat)) ∨ (c = 74 ∧ i = 0)) σ τ3 := by
    rw [h3', h2', h1]
    exact jF_toI (jF_toI (jF_I (Or.inl ⟨rfl, rfl⟩)) (Or.inr (Or.inl ⟨rfl, rfl⟩))) (Or.inr (Or.inr ⟨rfl, rfl⟩))
  refine k1 ⟨by omega, by omega⟩ τ3 (jF_mono hf (fun c i q => by unfold kW_no; omega)) ⟨⟨by rw [show τ3.1 74 0 = (N.1.1 : Nat) + 1 from e3]; rfl, by show N.1.1 + 1 ≤ 24; omega⟩, ⟨(hf.1 _ _ (by omega)).trans b1, b2, b3⟩, fun i hi => ?_⟩
  have hi' : i < N.1.1 + 1 := hi
  by_cases hin : i = N.1.1
  · have e : (kn_add N (-1, x, 0)).2 i = (-1, x, 0) := if_pos hin
    rw [e, hin]
    refine ⟨fun _ => ⟨?_, ?_⟩, fun q => absurd rfl q⟩
    · rw [h3', js_In (Or.inl (by decide)), h2', js_In (Or.inl (by decide)), h1]
      exact js_Is
    · rw [h3', js_In (Or.inl (by decide)), h2']
      exact js_Is
  · have e : (kn_add N (-1, x, 0)).2 i = N.2 i := if_neg hin
    rw [e]
    refine ⟨fun q => ?_, fun q => ?_⟩
    · have := (c i (by omega)).1 q
      exact ⟨(hf.1 _ _ (by omega)).trans this.1, (hf.1 _ _ (by omega)).trans this.2⟩
    · have := (c i (by omega)).2 q
      exact ⟨(hf.1 _ _ (by omega)).trans this.1, (hf.1 _ _ (by omega)).trans this.2.1, (hf.1 _ _ (by omega)).trans this.2.2⟩
end KNA
