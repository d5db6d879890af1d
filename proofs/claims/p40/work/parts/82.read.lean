/-! READING as a pure function of the tables; what is READ always has the STATES that a REDUCE takes -/
abbrev kr_K : Type := Nat × (Int → Int)
noncomputable def kr_ac (g : gM) (s t : Int) : Int := (kg_ap g 0 s t).1
noncomputable def kr_mv (g : gM) (s x : Int) : Int := (kg_S g).2.2.1 s x
def kr_ps (n : Nat) (st : Int → Int) (v : Int) : kr_K := (n + 1, jn_u1 st (n : Int) v)
/-- so many steps at most; ACCEPTED or not, how many REDUCES, the row -/
noncomputable def kr_tk (g : gM) (t : Int) : Nat → Nat → kr_K → Option (Bool × Nat × kr_K)
  | 0, _, _ => none
  | f + 1, d, K =>
    if kr_ac g (K.2 ((K.1 : Int) - 1)) t = 3000 then some (true, d, K)
    else if kr_ac g (K.2 ((K.1 : Int) - 1)) t < 1000 then none
    else if kr_ac g (K.2 ((K.1 : Int) - 1)) t < 2000 then (if K.1 < 40 then some (false, d, kr_ps K.1 K.2 (kr_ac g (K.2 ((K.1 : Int) - 1)) t - 1000)) else none)
    else if K.1 - (g 4 (kr_ac g (K.2 ((K.1 : Int) - 1)) t - 2000)).toNat < 40 then
      kr_tk g t f (d + 1) (kr_ps (K.1 - (g 4 (kr_ac g (K.2 ((K.1 : Int) - 1)) t - 2000)).toNat) K.2 (kr_mv g (K.2 (((K.1 - (g 4 (kr_ac g (K.2 ((K.1 : Int) - 1)) t - 2000)).toNat : Nat) : Int) - 1)) (10 + g 3 (kr_ac g (K.2 ((K.1 : Int) - 1)) t - 2000))))
    else none
noncomputable def kr_take (g : gM) (t : Int) (K : kr_K) : Option (Bool × Nat × kr_K) := kr_tk g t 61 0 K
def kr_K0 : kr_K := (1, fun _ => 0)
def kr_ok (g : gM) (K : kr_K) : Prop := (1 ≤ K.1 ∧ K.1 ≤ 40) ∧ K.2 0 = 0 ∧ (∀ i : Nat, i < K.1 → 0 ≤ K.2 i ∧ K.2 i < (kg_S g).1) ∧ ∀ i : Nat, i + 1 < K.1 → ∃ x, 0 ≤ x ∧ x < 15 ∧ kr_mv g (K.2 i) x = K.2 ((i : Int) + 1)
section KRA
variable {g : gM} {S : jn_Q} {c i j m n r : Nat} {s t x : Int} {K : kr_K}
/-- an item that closing brought -/
theorem kr_clo_new (hb : (jn_clo g c).testBit j = true) (hn : ¬ c.testBit j = true) : ∃ x, 0 ≤ x ∧ x < 5 ∧ (jn_O g x).testBit j = true ∧ jn_clo g c &&& jn_A g (10 + x) ≠ 0 := by
  have h := jn_clo_min (g := g) (c := c) (c' := jn_mk (fun i => c.testBit i = true ∨ ∃ x, 0 ≤ x ∧ x < 5 ∧ (jn_O g x).testBit i = true ∧ jn_clo g c &&& jn_A g (10 + x) ≠ 0) (c + 62)) (fun x x0 x5 hx i hi => ?_) (fun i hi => ?_)
  · have h2 := (jn_mk_bit.mp (h j hb)).2
    rcases h2 with h2 | h2
    · exact absurd h2 hn
    · exact h2
  · have hi62 : i < 62 := (jn_mk_bit.mp hi).1
    refine jn_mk_bit.mpr ⟨by omega, Or.inr ⟨x, x0, x5, hi, fun hz => hx ?_⟩⟩
    apply Nat.eq_of_testBit_eq
    intro k
    rw [Nat.zero_testBit, Nat.testBit_and]
    cases hA : (jn_A g (10 + x)).testBit k with
    | false => rw [Bool.and_false]
    | true =>
      rw [Bool.and_true]
      have hk0 : (jn_clo g c).testBit k = false := by
        have := congrArg (fun v => Nat.testBit v k) hz
        simp only [Nat.testBit_and, hA, Bool.and_true, Nat.zero_testBit] at this
        exact this
      cases hm : (jn_mk (fun i => c.testBit i = true ∨ ∃ x, 0 ≤ x ∧ x < 5 ∧ (jn_O g x).testBit i = true ∧ jn_clo g c &&& jn_A g (10 + x) ≠ 0) (c + 62)).testBit k with
      | false => rfl
      | true =>
        have h3 := (jn_mk_bit.mp hm).2
        rcases h3 with h3 | ⟨y, y0, y5, h3, h4⟩
        · rw [jn_clo_sub k h3] at hk0; cases hk0
        · have := jn_clo_cC (g := g) (c := c) y y0 y5 h4 k h3
          rw [this] at hk0; cases hk0
  · refine jn_mk_bit.mpr ⟨?_, Or.inl hi⟩
    have : i < c := Nat.lt_of_not_le (fun q => by
      have h5 : c < 2 ^ i := Nat.lt_of_le_of_lt q Nat.lt_two_pow_self
      rw [Nat.testBit_lt_two_pow h5] at hi
      cases hi)
    omega
theorem kr_clo_dot (hb : (jn_clo g c).testBit j = true) (hd : j % 5 ≠ 0) : c.testBit j = true := by
  refine Classical.byContradiction (fun hn => ?_)
  obtain ⟨x, x0, x5, h1, h2⟩ := kr_clo_new hb hn
  exact hd (jn_mk_bit.mp h1).2.1
theorem kr_kern0 (hW : jn_GW g) (hF : jn_FP g S) (hb : (S.2.1 0).testBit j = true) : j = 5 * (g 0 2).toNat := by
  rw [hF.2.2.2, Nat.testBit_two_pow] at hb
  exact (of_decide_eq_true hb).symm
/-- where an item of a moved-to state came from -/
theorem kr_back (hW : jn_GW g) (hF : jn_FP g S) (hs : 0 ≤ s ∧ s < S.1) (hx : 0 ≤ x ∧ x < 15) (hm : 0 ≤ S.2.2.1 s x) (hb : (S.2.1 (S.2.2.1 s x)).testBit j = true) : ∃ i, j = i + 1 ∧ (jn_clo g (S.2.1 s)).testBit i = true ∧ jn_it g i ∧ jn_is g i = x := by
  rcases hF.2.1 s x hs.1 hs.2 hx.1 hx.2 with h | ⟨h1, h2, h3, h4⟩
  · omega
  · rw [h4] at hb
    match j, hb with
    | 0, hb => rw [jn_nx_bit0] at hb; cases hb
    | i + 1, hb =>
      have := (jn_nx_bit hW).mp hb
      exact ⟨i, rfl, this.1, this.2.1, this.2.2⟩
/-- a KIND's first item is there: so one moves by that KIND -/
theorem kr_kind (hW : jn_GW g) (hF : jn_FP g S) (hs : 0 ≤ s ∧ s < S.1) (hr : (r : Int) < g 0 2) (h0 : s = 0 ∨ ∃ s' x, (0 ≤ s' ∧ s' < S.1) ∧ (0 ≤ x ∧ x < 15) ∧ 0 ≤ S.2.2.1 s' x ∧ S.2.2.1 s' x = s) (hb : (jn_clo g (S.2.1 s)).testBit (5 * r) = true) : 0 ≤ S.2.2.1 s (10 + g 3 r) ∧ S.2.2.1 s (10 + g 3 r) < S.1 := by
  have hw := hW.1
  have hn : ¬ (S.2.1 s).testBit (5 * r) = true := by
    intro hk
    rcases h0 with h0 | ⟨s', x, h1, h2, h3, h4⟩
    · subst h0
      have := kr_kern0 hW hF hk
      omega
    · rw [← h4] at hk
      obtain ⟨i, e1, e2, e3, e4⟩ := kr_back hW hF h1 h2 h3 hk
      have h5 := e3.2.2
      have h6 := jn_len_rng (r := jn_r i) hW
      unfold jn_d at h5
      omega
  obtain ⟨x, x0, x5, h1, h2⟩ := kr_clo_new hb hn
  have h3 := (jn_mk_bit.mp h1).2
  have h4 : g 3 r = x := by
    have := h3.2.2.2
    unfold jn_r at this
    rw [show 5 * r / 5 = r by omega] at this
    exact this
  rw [h4]
  rcases hF.2.1 s (10 + x) hs.1 hs.2 (by omega) (by omega) with h | h
  · have h5 := h.1
    unfold jn_nx at h5
    omega
  · exact ⟨h.2.1, h.2.2.1⟩
theorem kr_chain (hW : jn_GW g) (hF : jn_FP g (kg_S g)) (hK : kr_ok g K) (hr : (r : Int) < g 0 2) : ∀ (d m : Nat), 1 ≤ m → m ≤ K.1 → (d : Int) ≤ jn_len g r → (jn_clo g ((kg_S g).2.1 (K.2 ((m : Int) - 1)))).testBit (5 * r + d) = true → d < m ∧ (jn_clo g ((kg_S g).2.1 (K.2 ((m : Int) - 1 - d)))).testBit (5 * r) = true := by
  intro d
  have hl := jn_len_rng (r := (r : Int)) hW
  induction d with
  | zero =>
    intro m h1 h2 hd hb
    refine ⟨h1, ?_⟩
    rw [show ((m : Int) - 1 - ((0 : Nat) : Int)) = (m : Int) - 1 by omega]
    exact hb
  | succ d ih =>
    intro m h1 h2 hd hb
    have hk := kr_clo_dot hb (by omega)
    by_cases hm : m = 1
    · subst hm
      rw [show ((1 : Nat) : Int) - 1 = 0 by omega, hK.2.1] at hk
      have := kr_kern0 hW hF hk
      omega
    · obtain ⟨x, x0, x1, hx⟩ := hK.2.2.2 (m - 2) (by omega)
      have hs := hK.2.2.1 (m - 2) (by omega)
      have hs2 := hK.2.2.1 (m - 1) (by omega)
      rw [show ((m - 1 : Nat) : Int) = (m : Int) - 1 by omega] at hs2
      rw [show ((m - 2 : Nat) : Int) + 1 = (m : Int) - 1 by omega] at hx
      rw [← hx] at hk
      obtain ⟨i, e1, e2, e3, e4⟩ := kr_back hW hF hs ⟨x0, x1⟩ (by unfold kr_mv at hx; omega) hk
      rw [show ((m - 2 : Nat) : Int) = ((m - 1 : Nat) : Int) - 1 by omega, show i = 5 * r + d by omega] at e2
      have h := ih (m - 1) (by omega) (by omega) (by omega) e2
      refine ⟨by omega, ?_⟩
      rw [show (m : Int) - 1 - ((d + 1 : Nat) : Int) = ((m - 1 : Nat) : Int) - 1 - d by omega]
      exact h.2
theorem kr_red (hW : jn_GW g) (hF : jn_FP g (kg_S g)) (hK : kr_ok g K) (hr : (r : Int) < g 0 2) (hb : (jn_clo g ((kg_S g).2.1 (K.2 ((K.1 : Int) - 1)))).testBit (((r : Int) * 5 + jn_len g r).toNat) = true) : (g 4 r).toNat < K.1 ∧ 0 ≤ kr_mv g (K.2 ((((K.1 - (g 4 r).toNat : Nat)) : Int) - 1)) (10 + g 3 r) ∧ kr_mv g (K.2 ((((K.1 - (g 4 r).toNat : Nat)) : Int) - 1)) (10 + g 3 r) < (kg_S g).1 := by
  have hw := hW.1
  have hl := jn_len_rng (r := (r : Int)) hW
  have hlen : jn_len g r = g 4 r := by unfold jn_len; rw [if_neg (by omega), if_pos (by omega)]
  have h1 := hK.1
  rw [show ((r : Int) * 5 + jn_len g r).toNat = 5 * r + (g 4 r).toNat by omega] at hb
  have h := kr_chain hW hF hK hr (g 4 r).toNat K.1 h1.1 (Nat.le_refl _) (by omega) hb
  refine ⟨h.1, ?_⟩
  have e : (K.1 : Int) - 1 - ((g 4 r).toNat : Nat) = ((K.1 - (g 4 r).toNat : Nat) : Int) - 1 := by omega
  rw [e] at h
  have hst := hK.2.2.1 (K.1 - (g 4 r).toNat - 1) (by omega)
  rw [show ((K.1 - (g 4 r).toNat - 1 : Nat) : Int) = ((K.1 - (g 4 r).toNat : Nat) : Int) - 1 by omega] at hst
  refine kr_kind hW hF hst hr ?_ h.2
  by_cases hz : K.1 - (g 4 r).toNat = 1
  · rw [hz]
    exact Or.inl hK.2.1
  · obtain ⟨x, x0, x1, hx⟩ := hK.2.2.2 (K.1 - (g 4 r).toNat - 2) (by omega)
    have hs' := hK.2.2.1 (K.1 - (g 4 r).toNat - 2) (by omega)
    rw [show ((K.1 - (g 4 r).toNat - 2 : Nat) : Int) + 1 = ((K.1 - (g 4 r).toNat : Nat) : Int) - 1 by omega] at hx
    exact Or.inr ⟨_, x, hs', ⟨x0, x1⟩, by unfold kr_mv at hx; omega, hx⟩
/-- what an ACTION says of the STATE -/
theorem kr_ac_cases (hW : jn_GW g) (hF : jn_FP g (kg_S g)) (hs : 0 ≤ s ∧ s < (kg_S g).1) (ht : 0 ≤ t ∧ t ≤ g 0 0) : kr_ac g s t = 0 ∨ kr_ac g s t = 3000 ∨ (1000 ≤ kr_ac g s t ∧ kr_ac g s t < 1048 ∧ t < g 0 0 ∧ kr_mv g s t = kr_ac g s t - 1000 ∧ kr_ac g s t - 1000 < (kg_S g).1) ∨ ∃ r : Nat, kr_ac g s t = 2000 + r ∧ (r : Int) < g 0 2 ∧ (jn_clo g ((kg_S g).2.1 s)).testBit (((r : Int) * 5 + jn_len g r).toNat) = true := by
  have hw := hW.1
  have hI := hF.1.1
  have hmv := hF.1.2.2.1 s t
  unfold kr_ac kg_ap jn_AP
  generalize hm : jn_rm g (kg_S g) (kg_L g) (kg_fo g) 0 s t = m
  by_cases ha : t = g 0 0 ∧ (jn_clo g ((kg_S g).2.1 s)).testBit (g 0 2 * 5 + 1).toNat = true
  · rw [jn_acs_acc ha]
    exact Or.inr (Or.inl rfl)
  · rw [jn_acs_not ha]
    have hgo : jn_go g (kg_S g) s t < 0 ∨ (0 ≤ jn_go g (kg_S g) s t ∧ t < g 0 0 ∧ kr_mv g s t = jn_go g (kg_S g) s t ∧ jn_go g (kg_S g) s t < (kg_S g).1) := by
      unfold jn_go kr_mv
      by_cases hte : t = g 0 0
      · rw [if_pos hte]; exact Or.inl (by decide)
      · rw [if_neg hte]; omega
    have hlt : m < 4096 := by rw [← hm]; exact jn_rm_lt
    have hred : m ≠ 0 → (((jn_lo m : Nat) : Int) < g 0 2 ∧ (jn_clo g ((kg_S g).2.1 s)).testBit ((((jn_lo m : Nat) : Int) * 5 + jn_len g ((jn_lo m : Nat) : Int)).toNat) = true) := fun h0 => by
      have hl := (jn_lo_all hlt h0).2.2.2
      have hl2 : (jn_rm g (kg_S g) (kg_L g) (kg_fo g) 0 s t).testBit (jn_lo m) = true := by rw [hm]; exact hl
      have h3 := (jn_mk_bit.mp hl2).2
      exact ⟨h3.1, h3.2.2.1⟩
    generalize jn_go g (kg_S g) s t = go at *
    unfold jn_ac1
    by_cases h0 : m = 0
    · rw [if_pos h0]
      by_cases h1 : go < 0
      · dsimp only; rw [if_pos h1]; exact Or.inl rfl
      · dsimp only; rw [if_neg h1]
        exact Or.inr (Or.inr (Or.inl ⟨by omega, by omega, by omega, by omega, by omega⟩))
    · have hr := hred h0
      rw [if_neg h0]
      by_cases h2 : 0 ≤ go ∧ (jn_rr g ((jn_lo m : Nat) : Int) = 0 ∨ jn_tr g t = 0)
      · rw [if_pos h2]
        exact Or.inr (Or.inr (Or.inl ⟨by dsimp only; omega, by dsimp only; omega, by omega, by dsimp only; omega, by dsimp only; omega⟩))
      · rw [if_neg h2]
        dsimp only
        have hR : ∀ v : Int, v = 2000 + ((jn_lo m : Nat) : Int) → v = 0 ∨ v = 3000 ∨ (1000 ≤ v ∧ v < 1048 ∧ t < g 0 0 ∧ kr_mv g s t = v - 1000 ∧ v - 1000 < (kg_S g).1) ∨ ∃ r : Nat, v = 2000 + r ∧ (r : Int) < g 0 2 ∧ (jn_clo g ((kg_S g).2.1 s)).testBit (((r : Int) * 5 + jn_len g r).toNat) = true := fun v hv => Or.inr (Or.inr (Or.inr ⟨jn_lo m, hv, hr.1, hr.2⟩))
        have hSh : ¬ go < 0 → ∀ v : Int, v = 1000 + go → v = 0 ∨ v = 3000 ∨ (1000 ≤ v ∧ v < 1048 ∧ t < g 0 0 ∧ kr_mv g s t = v - 1000 ∧ v - 1000 < (kg_S g).1) ∨ ∃ r : Nat, v = 2000 + r ∧ (r : Int) < g 0 2 ∧ (jn_clo g ((kg_S g).2.1 s)).testBit (((r : Int) * 5 + jn_len g r).toNat) = true := fun hg v hv => Or.inr (Or.inr (Or.inl ⟨by omega, by omega, by omega, by omega, by omega⟩))
        split
        · exact hR _ rfl
        · rename_i h3
          split
          · exact hSh (fun q => h3 (Or.inl q)) _ rfl
          · split
            · exact hR _ rfl
            · split
              · exact hSh (fun q => h3 (Or.inl q)) _ rfl
              · exact Or.inl rfl
theorem kr_ps_ok (hK : kr_ok g K) (hn : 1 ≤ n ∧ n ≤ K.1 ∧ n < 40) {v : Int} (hv : 0 ≤ v ∧ v < (kg_S g).1) (hx : 0 ≤ x ∧ x < 15) (hm : kr_mv g (K.2 ((n : Int) - 1)) x = v) : kr_ok g (kr_ps n K.2 v) := by
  refine ⟨by show 1 ≤ n + 1 ∧ n + 1 ≤ 40; omega, ?_, fun i hi => ?_, fun i hi => ?_⟩
  · show jn_u1 K.2 (n : Int) v 0 = 0
    unfold jn_u1
    rw [if_neg (by omega)]
    exact hK.2.1
  · have hi' : i < n + 1 := hi
    show 0 ≤ jn_u1 K.2 (n : Int) v i ∧ jn_u1 K.2 (n : Int) v i < (kg_S g).1
    unfold jn_u1
    split
    · exact hv
    · exact hK.2.2.1 i (by omega)
  · have hi' : i + 1 < n + 1 := hi
    show ∃ x, 0 ≤ x ∧ x < 15 ∧ kr_mv g (jn_u1 K.2 (n : Int) v i) x = jn_u1 K.2 (n : Int) v ((i : Int) + 1)
    have e1 : jn_u1 K.2 (n : Int) v i = K.2 i := by unfold jn_u1; rw [if_neg (by omega)]
    rw [e1]
    by_cases hin : i + 1 = n
    · refine ⟨x, hx.1, hx.2, ?_⟩
      have e2 : jn_u1 K.2 (n : Int) v ((i : Int) + 1) = v := by unfold jn_u1; rw [if_pos (by omega)]
      rw [e2, show (i : Int) = (n : Int) - 1 by omega]
      exact hm
    · have e2 : jn_u1 K.2 (n : Int) v ((i : Int) + 1) = K.2 ((i : Int) + 1) := by unfold jn_u1; rw [if_neg (by omega)]
      rw [e2]
      exact hK.2.2.2 i (by omega)
theorem kr_tk_ok (hW : jn_GW g) (hF : jn_FP g (kg_S g)) (ht : 0 ≤ t ∧ t ≤ g 0 0) : ∀ {f d : Nat} {K K' : kr_K} {b : Bool} {d' : Nat}, kr_ok g K → kr_tk g t f d K = some (b, d', K') → kr_ok g K' ∧ d ≤ d' ∧ d' < d + f
  | 0, _, _, _, _, _, _, h => by cases h
  | f + 1, d, K, K', b, d', hK, h => by
    have hw := hW.1
    have h1 := hK.1
    have hs := hK.2.2.1 (K.1 - 1) (by omega)
    rw [show ((K.1 - 1 : Nat) : Int) = (K.1 : Int) - 1 by omega] at hs
    have hc := kr_ac_cases hW hF hs ht
    unfold kr_tk at h
    by_cases ha : kr_ac g (K.2 ((K.1 : Int) - 1)) t = 3000
    · rw [if_pos ha] at h
      cases h
      exact ⟨hK, Nat.le_refl _, by omega⟩
    · rw [if_neg ha] at h
      by_cases hb : kr_ac g (K.2 ((K.1 : Int) - 1)) t < 1000
      · rw [if_pos hb] at h; cases h
      · rw [if_neg hb] at h
        by_cases hsh : kr_ac g (K.2 ((K.1 : Int) - 1)) t < 2000
        · rw [if_pos hsh] at h
          by_cases h40 : K.1 < 40
          · rw [if_pos h40] at h
            cases h
            rcases hc with q | q | q | ⟨r, q, _⟩
            · omega
            · omega
            · exact ⟨kr_ps_ok hK ⟨by omega, by omega, h40⟩ ⟨by omega, q.2.2.2.2⟩ (x := t) ⟨by omega, by omega⟩ q.2.2.2.1, Nat.le_refl _, by omega⟩
            · omega
          · rw [if_neg h40] at h; cases h
        · rw [if_neg hsh] at h
          rcases hc with q | q | q | ⟨r, q, hr, hbit⟩
          · omega
          · omega
          · omega
          · rw [q, show (2000 : Int) + (r : Int) - 2000 = (r : Int) by omega] at h
            have hred := kr_red hW hF hK hr hbit
            have h3 := (hW.2.1 (r : Int) (by omega) hr).1
            by_cases h40 : K.1 - (g 4 r).toNat < 40
            · rw [if_pos h40] at h
              have hk2 := kr_ps_ok hK (n := K.1 - (g 4 r).toNat) ⟨by omega, by omega, h40⟩ ⟨hred.2.1, hred.2.2⟩ (x := 10 + g 3 r) ⟨by omega, by omega⟩ rfl
              have := kr_tk_ok hW hF ht hk2 h
              exact ⟨this.1, by omega, by omega⟩
            · rw [if_neg h40] at h; cases h
theorem kr_K0_ok (hF : jn_FP g (kg_S g)) : kr_ok g kr_K0 := ⟨(by decide : 1 ≤ 1 ∧ 1 ≤ 40), rfl, fun i hi => ⟨Int.le_refl 0, by have := hF.1.1; show (0 : Int) < _; omega⟩, fun i hi => by
  have : i + 1 < 1 := hi
  omega⟩
end KRA
