/-! NOTE, in both: rows of TOKENS by their numbers -/
/-- digits by ten, read by seven -/
def kp_7 : Nat → Nat → Nat
  | 0, _ => 0
  | n + 1, c => c % 10 + 7 * kp_7 n (c / 10)
/-- so many digits, each below a -/
def kp_ok (a : Nat) : Nat → Nat → Prop
  | 0, c => c = 0
  | n + 1, c => c % 10 < a ∧ kp_ok a n (c / 10)
def kp_pl (l x : Int) : Int := jg_pl l + (kp_7 l.toNat x.toNat : Nat)
def kp_row (g : gM) (l x : Int) : Prop := (0 ≤ l ∧ l ≤ 4) ∧ 0 ≤ x ∧ kp_ok (g 0 0).toNat l.toNat x.toNat
/-- what is in the NOTES -/
def kp_N (g : gM) (N : kn_N) : Prop := ∀ i : Nat, i < N.1.1 → ((N.2 i).1 = -1 ∧ 0 ≤ (N.2 i).2.1 ∧ (N.2 i).2.1 < (i : Int)) ∨ (kp_row g (N.2 i).1 (N.2 i).2.1 ∧ ((N.2 i).2.2 = 0 ∨ (N.2 i).2.2 = 1))
section KPA
variable {w : Nat} {σ τ : jg_M} {a n c m p wt T : Nat} {g : gM} {N : kn_N} {x l k : Int} {KV : jg_M → Prop} {KI : Int → jg_M → Prop}
theorem kp_7_lt (ha : a ≤ 7) : ∀ {n c : Nat}, kp_ok a n c → kp_7 n c < 7 ^ n
  | 0, _, _ => Nat.one_pos
  | n + 1, c, h => by
    have h1 := kp_7_lt ha (n := n) h.2
    have h0 := h.1
    show c % 10 + 7 * kp_7 n (c / 10) < 7 ^ (n + 1)
    rw [Nat.pow_succ]
    omega
theorem kp_dg_low : kr_dg 10 (n + 1) c n = c % 10 := by
  unfold kr_dg
  rw [show n + 1 - 1 - n = 0 by omega, Nat.pow_zero, Nat.div_one]
theorem kp_dg_up (hk : m < n) : kr_dg 10 (n + 1) c m = kr_dg 10 n (c / 10) m := by
  unfold kr_dg
  rw [show n + 1 - 1 - m = (n - 1 - m) + 1 by omega, Nat.pow_succ, Nat.mul_comm, ← Nat.div_div_eq_div_mul]
theorem kp_ok_iff : ∀ {n c : Nat}, kp_ok a n c ↔ c < 10 ^ n ∧ ∀ k, k < n → kr_dg 10 n c k < a
  | 0, c => by
    show c = 0 ↔ _
    constructor
    · intro h
      rw [h]
      exact ⟨Nat.one_pos, fun k hk => absurd hk (Nat.not_lt_zero k)⟩
    · intro h
      have := h.1
      rw [Nat.pow_zero] at this
      omega
  | n + 1, c => by
    have ih := kp_ok_iff (n := n) (c := c / 10)
    show c % 10 < a ∧ kp_ok a n (c / 10) ↔ _
    rw [ih, Nat.pow_succ]
    constructor
    · rintro ⟨h1, h2, h3⟩
      refine ⟨by omega, fun k hk => ?_⟩
      by_cases hkn : k = n
      · rw [hkn, kp_dg_low]; exact h1
      · rw [kp_dg_up (by omega)]; exact h3 k (by omega)
    · rintro ⟨h1, h2⟩
      refine ⟨?_, by omega, fun k hk => ?_⟩
      · have := h2 n (by omega)
        rw [kp_dg_low] at this; exact this
      · have := h2 k (by omega)
        rw [kp_dg_up hk] at this; exact this
theorem kp_pl_rng (ha : a ≤ 7) (hl : 0 ≤ l ∧ l ≤ 4) (h : kp_ok a l.toNat c) : 0 ≤ jg_pl l ∧ jg_pl l + (kp_7 l.toNat c : Nat) < 2801 := by
  have h1 := kp_7_lt ha h
  rcases (by omega : l = 0 ∨ l = 1 ∨ l = 2 ∨ l = 3 ∨ l = 4) with q | q | q | q | q <;> subst q
  · have h1' : kp_7 (0 : Int).toNat c < 1 := h1
    have : jg_pl 0 = 0 := rfl
    omega
  · have h1' : kp_7 (1 : Int).toNat c < 7 := h1
    have : jg_pl 1 = 1 := rfl
    omega
  · have h1' : kp_7 (2 : Int).toNat c < 49 := h1
    have : jg_pl 2 = 8 := rfl
    omega
  · have h1' : kp_7 (3 : Int).toNat c < 343 := h1
    have : jg_pl 3 = 57 := rfl
    omega
  · have h1' : kp_7 (4 : Int).toNat c < 2401 := h1
    have : jg_pl 4 = 400 := rfl
    omega
theorem jc_placeOf (ha : a ≤ 7) (hl : jr l) (hx : jr x) (hk0 : ¬ ((0 ≤ l ∧ l ≤ 4) ∧ 0 ≤ x ∧ kp_ok a l.toNat x.toNat) → KI (-1) σ) (hk1 : ((0 ≤ l ∧ l ≤ 4) ∧ 0 ≤ x ∧ kp_ok a l.toNat x.toNat) → KI (kp_pl l x) σ) : jg_CI w 0 mm_X10_placeOf [.int (.ofInt l), .int (.ofInt x), .int (.ofInt (a : Int))] σ KI := by
  refine jb_X10_placeOf_0 ?_
  rw [jr_wr hl, jr_wr hx]
  refine jn_ite (fun h => hk0 (by omega)) (fun h1 => jn_ite (fun h => hk0 (by omega)) (fun h2 => jn_ite (fun h3 => ⟨by omega, ?_⟩) (fun h => hk0 (by omega))))
  rintro _ rfl
  have hpl : 0 ≤ jg_pl l ∧ jg_pl l ≤ 400 := by
    rcases (by omega : l = 0 ∨ l = 1 ∨ l = 2 ∨ l = 3 ∨ l = 4) with q | q | q | q | q <;> subst q <;> decide
  have hloop : ∀ (m k p c wt : Nat) (u1 : Value), k + m = l.toNat → c < 2147483648 → wt ≤ 7 ^ k → (p : Int) ≤ 400 + 7 ^ k * 10 →
      (¬ kp_ok a m c → KI (-1) σ) → (kp_ok a m c → KI ((p + wt * kp_7 m c : Nat) : Int) σ) →
      jg_GI w 0 mm_X10_placeOf 30 [.int (.ofInt l), u1, .int (.ofInt (a : Int)), .int (.ofInt (p : Int)), .int (.ofInt (c : Int)), .int (.ofInt (wt : Int)), .int (.ofInt (k : Int))] σ KI := by
    intro m
    induction m with
    | zero =>
      intro k p c wt u1 hkm hc hwt hp f0 f1
      refine jb_X10_placeOf_30 ?_
      rw [jr_wr hl, jr_wr (show jr (k : Int) by omega), jr_wr (show jr (c : Int) by omega)]
      refine jn_ite (fun _ => jn_ite (fun h => ?_) (fun h => f0 (fun q => h (by have q' : c = 0 := q; omega)))) (fun h => by omega)
      have := f1 (show c = 0 by omega)
      rw [show p + wt * kp_7 0 c = p from rfl] at this
      exact this
    | succ m ih =>
      intro k p c wt u1 hkm hc hwt hp f0 f1
      refine jb_X10_placeOf_30 ?_
      have hd : jg_div (c : Int) 10 = ((c / 10 : Nat) : Int) := by rw [jb_div (by omega) (by decide)]; omega
      have hr : jg_rem (c : Int) 10 = ((c % 10 : Nat) : Int) := by rw [jb_rem (by omega) (by decide)]; omega
      have h7 : 7 ^ k ≤ 343 := Nat.le_trans (Nat.pow_le_pow_right (by decide) (show k ≤ 3 by omega)) (by decide)
      have h7' : 7 ^ (k + 1) = 7 ^ k * 7 := Nat.pow_succ 7 k
      rw [jr_wr hl, jr_wr (show jr (k : Int) by omega), hd, hr, jr_wr (show jr ((c % 10 : Nat) : Int) by omega), jr_wr (show jr (a : Int) by omega)]
      refine jn_ite (fun h => by omega) (fun _ => jn_ite (fun hlt => ?_) (fun hge => f0 (fun q => hge (by have := q.1; omega))))
      rintro _ rfl _ rfl _ rfl
      have hmul : c % 10 * wt ≤ 7 ^ k * 9 := by
        have : c % 10 * wt ≤ 9 * 7 ^ k := Nat.mul_le_mul (by omega) hwt
        omega
      have hpc : ((7 ^ k : Nat) : Int) = (7 : Int) ^ k := by rw [Int.natCast_pow]; rfl
      have hpc1 : (7 : Int) ^ (k + 1) = (7 : Int) ^ k * 7 := Int.pow_succ 7 k
      rw [← hpc] at hp
      have key := ih (k + 1) (p + c % 10 * wt) (c / 10) (wt * 7) u1 (by omega) (by omega) (by omega) (by rw [hpc1, ← hpc]; omega) (fun q => f0 (fun z => q z.2)) (fun q => by
        have := f1 ⟨by omega, q⟩
        rw [show p + wt * kp_7 (m + 1) c = p + c % 10 * wt + wt * 7 * kp_7 m (c / 10) by
          show p + wt * (c % 10 + 7 * kp_7 m (c / 10)) = _
          rw [Nat.mul_add, Nat.mul_comm wt (c % 10), ← Nat.mul_assoc, Nat.add_assoc]] at this
        exact this)
      rw [show ((p + c % 10 * wt : Nat) : Int) = (p : Int) + ((c % 10 : Nat) : Int) * (wt : Int) by rw [Int.natCast_add, Int.natCast_mul], show ((wt * 7 : Nat) : Int) = (wt : Int) * 7 by omega, show ((k + 1 : Nat) : Int) = (k : Int) + 1 by omega] at key
      exact key
  have key := hloop l.toNat 0 (jg_pl l).toNat x.toNat 1 (.int (.ofInt x)) (by omega) (by omega) (Nat.le_refl _) (by omega) (fun q => hk0 (fun z => q z.2.2)) (fun q => by
    have := hk1 ⟨by omega, h3, q⟩
    unfold kp_pl at this
    rw [show (((jg_pl l).toNat + 1 * kp_7 l.toNat x.toNat : Nat) : Int) = jg_pl l + (kp_7 l.toNat x.toNat : Nat) by omega]
    exact this)
  rw [show (((jg_pl l).toNat : Nat) : Int) = jg_pl l by omega, show ((x.toNat : Nat) : Int) = x by omega] at key
  exact key
def kp_new (g : gM) (N : kn_N) (l x : Int) : Prop := kp_row g l x ∧ N.1.1 < 24
theorem jc_note (h : ku_CG σ T g) (hN : kn_C kp_pl σ N) (hl : jr l) (hx : jr x) (hk : k = 0 ∨ k = 1) (k0 : ¬ kp_new g N l x → KI (-1) σ) (k1 : kp_new g N l x → ∀ τ, jF kW_no σ τ → kn_C kp_pl τ (kn_add N (l, x, k)) → KI (N.1.1 : Nat) τ) : jg_CI w 1 mm_X11_note [.ref 0, .int (.ofInt l), .int (.ofInt x), .int (.ofInt k)] σ KI := by
  have sh := ku_sh h.1.1
  have hW := h.2.1.1.1.1
  have hw := hW.1
  obtain ⟨⟨a1, a2⟩, ⟨b1, b2, b3⟩, cc⟩ := hN
  refine jb_X11_note_0 rfl ?_
  rw [h.1.2.1]
  intro r er
  rw [show r = T by omega]
  refine ⟨sh.1, ?_⟩
  rw [show σ.1 (T + 1) 0 = (((g 0 0).toNat : Nat) : Int) by rw [h.2.1.2.1.1]; omega]
  refine jc_placeOf (by omega) hl hx (fun hno => ?_) (fun hyes => ?_)
  · exact jn_ite (fun q => absurd q (by decide)) (fun _ => k0 (fun q => hno q.1))
  have hrow : kp_row g l x := hyes
  have hpl := kp_pl_rng (by omega) hyes.1 hyes.2.2
  have hpe : kp_pl l x = jg_pl l + (kp_7 l.toNat x.toNat : Nat) := rfl
  rw [jr_wr (show jr (kp_pl l x) by omega)]
  refine jn_ite (fun _ => ?_) (fun q => by omega)
  refine jb_X1_addNote_0 rfl ?_
  have wn := jr_wr (show jr ((N.1.1 : Nat) : Int) by omega)
  have a1' : σ.1 (0 + 74) 0 = (N.1.1 : Nat) := a1
  rw [a1', wn]
  refine jn_ite (fun hlt => ⟨by omega, ?_⟩) (fun hge => k0 (fun q => by have := q.2; omega))
  intro τ1 h1
  have e1 : τ1.1 (0 + 74) 0 = (N.1.1 : Nat) := by rw [h1, js_In (Or.inl (by decide))]; exact a1
  rw [e1, wn]
  refine ⟨by omega, ?_⟩
  have hnar : jg_nar k = k := by rcases hk with q | q <;> subst q <;> rfl
  rw [hnar]
  intro τ2 h2
  have e2 : τ2.1 (0 + 74) 0 = (N.1.1 : Nat) := by rw [h2, js_In (Or.inl (by decide))]; exact e1
  rw [e2, wn]
  refine ⟨by omega, ?_⟩
  intro τ3 h3
  have e3 : τ3.1 (0 + 74) 0 = (N.1.1 : Nat) := by rw [h3, js_In (Or.inl (by decide))]; exact e2
  rw [e3]
  intro τ4 h4
  have e4 : τ4.1 (0 + 74) 0 = (N.1.1 : Nat) + 1 := by rw [h4, js_Is]
  rw [e4, show ((N.1.1 : Nat) : Int) + 1 - 1 = (N.1.1 : Nat) by omega]
  have hf : jF (fun c i => ((c = 75 ∨ c = 76 ∨ c = 77) ∧ i = (N.1.1 : Nat)) ∨ (c = 74 ∧ i = 0)) σ τ4 := by
    rw [h4, h3, h2, h1]
    exact jF_toI (jF_toI (jF_toI (jF_I (Or.inl ⟨Or.inl rfl, rfl⟩)) (Or.inl ⟨Or.inr (Or.inl rfl), rfl⟩)) (Or.inl ⟨Or.inr (Or.inr rfl), rfl⟩)) (Or.inr ⟨rfl, rfl⟩)
  refine k1 ⟨hrow, by omega⟩ τ4 (jF_mono hf (fun c i q => by unfold kW_no; omega)) ⟨⟨by rw [show τ4.1 74 0 = (N.1.1 : Nat) + 1 from e4]; rfl, by show N.1.1 + 1 ≤ 24; omega⟩, ⟨(hf.1 _ _ (by omega)).trans b1, b2, b3⟩, fun i hi => ?_⟩
  have hi' : i < N.1.1 + 1 := hi
  by_cases hin : i = N.1.1
  · have e : (kn_add N (l, x, k)).2 i = (l, x, k) := if_pos hin
    rw [e, hin]
    refine ⟨fun q => ?_, fun _ => ⟨?_, ?_, ?_⟩⟩
    · have q' : l = -1 := q
      omega
    · rw [h4, js_In (Or.inl (by decide)), h3, js_In (Or.inl (by decide)), h2, js_In (Or.inl (by decide)), h1]
      exact js_Is
    · rw [h4, js_In (Or.inl (by decide)), h3, js_In (Or.inl (by decide)), h2]
      exact js_Is
    · rw [h4, js_In (Or.inl (by decide)), h3]
      exact js_Is
  · have e : (kn_add N (l, x, k)).2 i = N.2 i := if_neg hin
    rw [e]
    refine ⟨fun q => ?_, fun q => ?_⟩
    · have := (cc i (by omega)).1 q
      exact ⟨(hf.1 _ _ (by omega)).trans this.1, (hf.1 _ _ (by omega)).trans this.2⟩
    · have := (cc i (by omega)).2 q
      exact ⟨(hf.1 _ _ (by omega)).trans this.1, (hf.1 _ _ (by omega)).trans this.2.1, (hf.1 _ _ (by omega)).trans this.2.2⟩
def kW_ng (c : Nat) (i : Int) : Prop := kW_nm c i ∨ c = 92 + 39
theorem kp_N_add (hN : kp_N g N) (h : kp_row g l x) (hk : k = 0 ∨ k = 1) : kp_N g (kn_add N (l, x, k)) := fun i hi => by
  have hi' : i < N.1.1 + 1 := hi
  by_cases hin : i = N.1.1
  · have e : (kn_add N (l, x, k)).2 i = (l, x, k) := if_pos hin
    rw [e]
    exact Or.inr ⟨h, hk⟩
  · have e : (kn_add N (l, x, k)).2 i = N.2 i := if_neg hin
    rw [e]
    exact hN i (by omega)
theorem kp_N_strike (hN : kp_N g N) (h : 0 ≤ x ∧ x < (N.1.1 : Nat)) : kp_N g (kn_add N (-1, x, 0)) := fun i hi => by
  have hi' : i < N.1.1 + 1 := hi
  by_cases hin : i = N.1.1
  · have e : (kn_add N (-1, x, 0)).2 i = (-1, x, 0) := if_pos hin
    rw [e]
    exact Or.inl ⟨rfl, h.1, by show x < (i : Int); omega⟩
  · have e : (kn_add N (-1, x, 0)).2 i = N.2 i := if_neg hin
    rw [e]
    exact hN i (by omega)
theorem kp_N_lim (hN : kp_N g N) : kp_N g (kn_lim N x) := hN
end KPA
