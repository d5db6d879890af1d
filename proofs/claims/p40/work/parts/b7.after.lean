/-! AFTER, INCLUDES and its rings, by data -/
def zi_wy (d : zz_d) (ml : List (Nat × Nat × Nat)) (s r : Nat) : Nat → Int
  | 0 => (s : Int)
  | k + 1 => zz_lm ml (zi_wy d ml s r k) ((zz_sym d r k : Nat) : Int)
def zi_c (d : zz_d) (e : Nat) (r k : Nat) : Bool := Nat.ble 10 (zz_sym d r k) && zz_EF d e r (k + 1)
def zi_m (d : zz_d) (ml : List (Nat × Nat × Nat)) (t r k : Nat) : Int := 5 * zi_wy d ml (t / 5) r k + (((zz_sym d r k : Nat) : Int) - 10)
def zi_I (d : zz_d) (e : Nat) (q : zz_q) (m t : Nat) : Bool := jn_mv (zz_S (zz_k0 d) q) t && (List.range (zz_n d)).any (fun r => Nat.beq (zz_r d r).1 (t % 5) && (List.range (zz_len d r)).any (fun k => zi_c d e r k && decide ((m : Int) = zi_m d q.2.2.1 t r k)))
def zi_a : List (Nat × Nat) → Nat → Nat
  | [], _ => 0
  | p :: r, m => if m = p.1 then p.2 else zi_a r m
def zi_tk (d : zz_d) (ml : List (Nat × Nat × Nat)) (s : Int) : Nat := zz_mk (fun t => decide (t < d.1) && decide (0 ≤ zz_lm ml s (t : Int))) 8
def zi_ab (d : zz_d) (q : zz_q) (m : Nat) : Nat := zi_tk d q.2.2.1 (jn_qm (zz_S (zz_k0 d) q) m) ||| (if m = 0 then 2 ^ d.1 else 0)
def zi_as (d : zz_d) (e : Nat) (q : zz_q) (l : List (Nat × Nat)) (m : Nat) : Nat := jn_orf (fun k => if e.testBit k = true ∧ jn_mv (zz_S (zz_k0 d) q) (5 * jn_qm (zz_S (zz_k0 d) q) m + k).toNat = true then zi_a l (5 * jn_qm (zz_S (zz_k0 d) q) m + k).toNat else 0) 5 ||| jn_orf (fun t => if zi_I d e q m t = true then zi_a l t else 0) 240
/-- each step of the list comes out of those behind it -/
def zi_ch (d : zz_d) (e : Nat) (q : zz_q) : List (Nat × Nat) → Bool
  | [] => true
  | p :: r => zi_ch d e q r && zz_sub p.2 (zi_a r p.1 ||| (zi_ab d q p.1 ||| zi_as d e q r p.1))
def zi_cl (d : zz_d) (e : Nat) (q : zz_q) (l : List (Nat × Nat)) : Bool := (List.range 240).all (fun m => !jn_mv (zz_S (zz_k0 d) q) m || (zz_sub (zi_ab d q m) (zi_a l m) && zz_sub (zi_as d e q l m) (zi_a l m)))
section ZZF
variable {g : gM} {d : zz_d} {e : Nat} {fl wl al ol : List Nat} {q : zz_q} {LL : zz_ll} {m t : Nat} {l : List (Nat × Nat)} {a : Nat → Nat}
theorem zi_wyE (hI : zz_I g d) {s r : Nat} : ∀ {k : Nat}, k ≤ zz_len d r → jn_wy g (zz_S (zz_k0 d) q) (s : Int) (r : Int) k = zi_wy d q.2.2.1 s r k
  | 0, _ => rfl
  | k + 1, hk => by
    unfold jn_wy zi_wy
    rw [zi_wyE hI (by omega), zz_s hI (by omega)]
    rfl
theorem zi_IP (hI : zz_I g d) (ht : t < 240) : jn_mv (zz_S (zz_k0 d) q) t = true ∧ jn_Ib g e (zz_S (zz_k0 d) q) 240 0 0 m t ↔ zi_I d e q m t = true := by
  unfold zi_I
  rw [Bool.and_eq_true, List.any_eq_true]
  constructor
  · rintro ⟨h1, r, k, ⟨⟨a1, a2, a3⟩, a4, a5, a6, a7, a8⟩, -⟩
    have hn : r.toNat < zz_n d := by rw [hI.1.2.2.1] at a2; omega
    have er : r = (r.toNat : Int) := by omega
    rw [er] at a3 a5 a6 a7 a8
    have hl : k < zz_len d r.toNat := by rw [zz_l hI] at a5; omega
    refine ⟨h1, r.toNat, List.mem_range.mpr hn, ?_⟩
    rw [Bool.and_eq_true, List.any_eq_true, Nat.beq_eq]
    rw [(hI.2 _ hn).1] at a3
    refine ⟨by omega, k, List.mem_range.mpr hl, ?_⟩
    rw [zz_s hI hl] at a6 a8
    unfold zi_c zi_m
    rw [Bool.and_eq_true, Bool.and_eq_true, Nat.ble_eq, decide_eq_true_iff]
    refine ⟨⟨by omega, (zz_EFP hI _ _).mp a7⟩, ?_⟩
    rw [a8, zi_wyE hI (by omega)]
  · rintro ⟨h1, r, hr, h2⟩
    have hn := List.mem_range.mp hr
    rw [Bool.and_eq_true, List.any_eq_true, Nat.beq_eq] at h2
    obtain ⟨h2, k, hk, h3⟩ := h2
    have hl := List.mem_range.mp hk
    unfold zi_c zi_m at h3
    rw [Bool.and_eq_true, Bool.and_eq_true, Nat.ble_eq, decide_eq_true_iff] at h3
    obtain ⟨⟨h3, h4⟩, h5⟩ := h3
    refine ⟨h1, (r : Int), k, ⟨⟨by omega, by rw [hI.1.2.2.1]; omega, by rw [(hI.2 _ hn).1, h2]⟩, h1, by rw [zz_l hI]; omega, by rw [zz_s hI hl]; omega, (zz_EFP hI _ _).mpr h4, ?_⟩, Or.inl ht⟩
    rw [zz_s hI hl, zi_wyE hI (by omega), h5]
theorem zi_abE (hI : zz_I g d) : jn_ab g (zz_S (zz_k0 d) q) m = zi_ab d q m := by
  unfold jn_ab zi_ab
  have e1 : jn_tk g (zz_S (zz_k0 d) q) (jn_qm (zz_S (zz_k0 d) q) m) = zi_tk d q.2.2.1 (jn_qm (zz_S (zz_k0 d) q) m) := zz_mkE (fun t _ => by
    rw [Bool.and_eq_true, decide_eq_true_iff, decide_eq_true_iff, hI.1.1]
    exact ⟨fun z => ⟨by omega, z.2⟩, fun z => ⟨by omega, z.2⟩⟩)
  rw [e1, hI.1.2.2.2.1, hI.1.1, Int.toNat_natCast]
  congr 1
  by_cases c : m = 0
  · rw [if_pos (by omega), if_pos c]
  · rw [if_neg (by omega), if_neg c]
theorem zi_orf {h h' : Nat → Nat} : ∀ {n : Nat}, (∀ k, k < n → h k = h' k) → jn_orf h n = jn_orf h' n
  | 0, _ => rfl
  | n + 1, hh => by
    unfold jn_orf
    rw [zi_orf (fun k hk => hh k (by omega)), hh n (by omega)]
theorem zi_asE (hI : zz_I g d) : jn_as g e (zz_S (zz_k0 d) q) (zi_a l) m = zi_as d e q l m := by
  have e1 : jn_orf (jn_ih g e (zz_S (zz_k0 d) q) (zi_a l) m) 240 = jn_orf (fun t => if zi_I d e q m t = true then zi_a l t else 0) 240 := zi_orf (fun t ht => by
    unfold jn_ih
    by_cases c : zi_I d e q m t = true
    · rw [if_pos ((zi_IP hI ht).mpr c), if_pos c]
    · rw [if_neg (fun z => c ((zi_IP hI ht).mp z)), if_neg c])
  exact congrArg (fun z => jn_orf (jn_rh e (zz_S (zz_k0 d) q) (zi_a l) m) 5 ||| z) e1
theorem zi_below (h : zz_K g d e fl wl al ol q LL) (hn : q.1 ≤ 48) (hc : jn_cA g e (zz_S (zz_k0 d) q) a) : ∀ (l : List (Nat × Nat)), (∀ p ∈ l, jn_mv (zz_S (zz_k0 d) q) p.1 = true) → zi_ch d e q l = true → ∀ m, m < 240 → jn_mv (zz_S (zz_k0 d) q) m = true → jn_sub (zi_a l m) (a m)
  | [], _, _, _, _, _ => jn_sub_0
  | p :: r, hp, hl, m, hm, hv => by
    unfold zi_ch at hl
    rw [Bool.and_eq_true] at hl
    have ih := zi_below h hn hc r (fun p hp' => hp p (List.mem_cons_of_mem _ hp')) hl.1
    unfold zi_a
    by_cases c : m = p.1
    · rw [if_pos c]
      subst c
      refine jn_sub_tr (zz_subE hl.2) (jn_sub_or (ih _ hm hv) (jn_sub_or ?_ ?_))
      · rw [← zi_abE h.1.2.1]; exact (hc _ hm hv).1
      · rw [← zi_asE h.1.2.1]
        exact jn_sub_tr (jn_as_mono (jn_all_FP h.1.1 h.2.1) hm hv ih) (hc _ hm hv).2
    · rw [if_neg c]; exact ih m hm hv
def zi_ok (d : zz_d) (q : zz_q) (l : List (Nat × Nat)) : Bool := l.all (fun p => jn_mv (zz_S (zz_k0 d) q) p.1 && Nat.ble p.2 255)
theorem zi_a_lt (h : zi_ok d q l = true) (m : Nat) : zi_a l m < 256 := by
  induction l with
  | nil => exact (by decide : (0 : Nat) < 256)
  | cons p r ih =>
    have h1 := List.all_eq_true.mp h
    unfold zi_a
    split
    · have := h1 p List.mem_cons_self
      rw [Bool.and_eq_true, Nat.ble_eq] at this
      omega
    · exact ih (List.all_eq_true.mpr (fun x hx => h1 x (List.mem_cons_of_mem _ hx)))
theorem zi_lA (h : zz_K g d e fl wl al ol q LL) (hn : q.1 ≤ 48) (h1 : zi_ok d q l = true) (h2 : zi_ch d e q l = true) (h3 : zi_cl d e q l = true) : jn_lA g e (zz_S (zz_k0 d) q) (zi_a l) := by
  have hc : jn_cA g e (zz_S (zz_k0 d) q) (zi_a l) := fun m hm hv => by
    have c := List.all_eq_true.mp h3 m (List.mem_range.mpr hm)
    rw [hv, Bool.not_true, Bool.false_or, Bool.and_eq_true] at c
    rw [zi_abE h.1.2.1, zi_asE h.1.2.1]
    exact ⟨zz_subE c.1, zz_subE c.2⟩
  refine ⟨hc, zi_a_lt h1, fun m hm hv => (hc m hm hv).1, fun a' hc' m hm hv => zi_below h hn hc' l (fun p hp => ?_) h2 m hm hv⟩
  have := List.all_eq_true.mp h1 p hp
  rw [Bool.and_eq_true] at this
  exact this.1
theorem zi_after (h : zz_K g d e fl wl al ol q LL) (hn : q.1 ≤ 48) (h1 : zi_ok d q l = true) (h2 : zi_ch d e q l = true) (h3 : zi_cl d e q l = true) {s k : Nat} (hs : s < q.1) (hk : k < d.2.1) (hk5 : k < 5) (hv : jn_mv (zz_S (zz_k0 d) q) (5 * s + k) = true) : kv_after g (s : Int) (k : Int) = ((zi_a l (5 * s + k) : Nat) : Int) := by
  have hA := zi_lA h hn h1 h2 h3
  unfold kv_after
  rw [zz_Kn h, h.1.2.1.1.2.1, if_pos ⟨⟨by omega, by omega⟩, by omega, by omega⟩, zz_KS h, show (5 * (s : Int) + (k : Int)).toNat = 5 * s + k by omega, if_pos hv]
  rw [← zz_Ke h, ← zz_KS h] at hA
  have hv' : jn_mv (kg_S g) (5 * s + k) = true := by rw [zz_KS h]; exact hv
  rw [(kg_A_ok hA).2 _ (by omega) hv']
/-- rings: one pair of moves that lead to each other, by a list that holds all that is reached -/
def zi_sb (d : zz_d) (e : Nat) (q : zz_q) (C : List (Nat × Nat)) : Bool := (List.range 240).all (fun t => !jn_mv (zz_S (zz_k0 d) q) t || (List.range (zz_n d)).all (fun r => !Nat.beq (zz_r d r).1 (t % 5) || (List.range (zz_len d r)).all (fun k => !zi_c d e r k || C.any (fun p => decide ((p.1 : Int) = zi_m d q.2.2.1 t r k) && Nat.beq p.2 t))))
def zi_tr (C : List (Nat × Nat)) : Bool := C.all (fun p => C.all (fun r => !Nat.beq p.2 r.1 || C.contains (p.1, r.2)))
def zi_mu (C : List (Nat × Nat)) (x y : Nat) : Bool := C.all (fun p => Nat.beq p.1 p.2 || (!C.contains (p.2, p.1) || ((Nat.beq p.1 x && Nat.beq p.2 y) || (Nat.beq p.1 y && Nat.beq p.2 x))))
theorem zi_sbE (hI : zz_I g d) {C : List (Nat × Nat)} (h : zi_sb d e q C = true) (hR : jn_Ib g e (zz_S (zz_k0 d) q) 240 0 0 m t) : (m, t) ∈ C := by
  obtain ⟨r, k, ⟨⟨a1, a2, a3⟩, a4, a5, a6, a7, a8⟩, ht⟩ := hR
  have ht : t < 240 := by omega
  have hn : r.toNat < zz_n d := by rw [hI.1.2.2.1] at a2; omega
  have er : r = (r.toNat : Int) := by omega
  rw [er] at a3 a5 a6 a7 a8
  have hl : k < zz_len d r.toNat := by rw [zz_l hI] at a5; omega
  rw [(hI.2 _ hn).1] at a3
  rw [zz_s hI hl] at a6 a8
  have c := List.all_eq_true.mp h t (List.mem_range.mpr ht)
  rw [a4, Bool.not_true, Bool.false_or] at c
  have c := List.all_eq_true.mp c _ (List.mem_range.mpr hn)
  have hb : Nat.beq (zz_r d r.toNat).1 (t % 5) = true := by rw [Nat.beq_eq]; omega
  rw [hb, Bool.not_true, Bool.false_or] at c
  have c := List.all_eq_true.mp c _ (List.mem_range.mpr hl)
  have hc : zi_c d e r.toNat k = true := by
    unfold zi_c
    rw [Bool.and_eq_true, Nat.ble_eq]
    exact ⟨by omega, (zz_EFP hI _ _).mp a7⟩
  rw [hc, Bool.not_true, Bool.false_or, List.any_eq_true] at c
  obtain ⟨p, hp, c⟩ := c
  rw [Bool.and_eq_true, decide_eq_true_iff, Nat.beq_eq] at c
  have hm : (m : Int) = zi_m d q.2.2.1 t r.toNat k := by
    unfold zi_m
    rw [a8, zi_wyE hI (by omega)]
  have e1 : p = (m, t) := Prod.ext (by have := c.1; show p.1 = m; omega) c.2
  rw [← e1]
  exact hp
theorem zi_wf {R : Nat → Nat → Prop} {C : List (Nat × Nat)} (h : ∀ m t, R m t → (m, t) ∈ C) (ht : zi_tr C = true) : ∀ (k m t : Nat), jn_wf R k m t → (m, t) ∈ C
  | 0, m, t, hq => h m t hq
  | k + 1, m, t, hq => by
    rcases hq with hq | ⟨h1, h2⟩
    · exact zi_wf h ht k m t hq
    · have a1 := zi_wf h ht k m k h1
      have a2 := zi_wf h ht k k t h2
      have c := List.all_eq_true.mp (List.all_eq_true.mp ht _ a1) _ a2
      have hb : Nat.beq (m, k).2 (k, t).1 = true := Nat.beq_refl k
      rw [hb, Bool.not_true, Bool.false_or] at c
      exact List.contains_iff_mem.mp c
theorem zi_wfR {R : Nat → Nat → Prop} {m t : Nat} (h : R m t) : ∀ k : Nat, jn_wf R k m t
  | 0 => h
  | k + 1 => Or.inl (zi_wfR h k)
theorem zi_ring1 (h : zz_K g d e fl wl al ol q LL) {C : List (Nat × Nat)} {x y : Nat} (hxy : x < y) (hy : y < 240) (h1 : zi_sb d e q C = true) (h2 : zi_tr C = true) (h3 : zi_mu C x y = true) (h4 : zi_I d e q x y = true) (h5 : zi_I d e q y x = true) : kv_rel g 4 = 1 := by
  have hI := h.1.2.1
  unfold kv_rel kv_rv
  rw [if_pos ⟨by decide, by decide⟩, if_neg (zz_K01 h), if_neg (by decide), if_neg (by decide), if_neg (by decide), if_neg (by decide), zz_Ke h, zz_KS h]
  have hR : ∀ m t, jn_Ib g e (zz_S (zz_k0 d) q) 240 0 0 m t → (m, t) ∈ C := fun m t hq => zi_sbE hI h1 hq
  generalize hRd : jn_Ib g e (zz_S (zz_k0 d) q) 240 0 0 = R at hR ⊢
  have hx : R x y := by rw [← hRd]; exact ((zi_IP hI hy).mpr h4).2
  have hyx : R y x := by rw [← hRd]; exact ((zi_IP hI (by omega)).mpr h5).2
  have hmu : ∀ m t, jn_mu (jn_wf R 240) m t → (m = x ∧ t = y) ∨ (m = y ∧ t = x) := fun m t ⟨n1, n2, n3⟩ => by
    have a1 := zi_wf hR h2 240 m t n2
    have a2 := zi_wf hR h2 240 t m n3
    have c := List.all_eq_true.mp h3 _ a1
    rw [Bool.or_eq_true, Bool.or_eq_true, Bool.or_eq_true, Bool.and_eq_true, Bool.and_eq_true, Nat.beq_eq, Nat.beq_eq, Nat.beq_eq, Nat.beq_eq, Nat.beq_eq] at c
    rcases c with c | c | c | c
    · exact absurd c.symm n1
    · have : C.contains (t, m) = true := List.contains_iff_mem.mpr a2
      rw [this] at c
      cases c
    · exact Or.inl c
    · exact Or.inr c
  have hld : ∀ m : Nat, jn_ld (jn_wf R 240) 240 m = decide (m = x) := fun m => by
    have h9 : jn_ld (jn_wf R 240) 240 m = true ↔ m = x := by
      rw [jn_ld_iff]
      constructor
      · rintro ⟨⟨t, t1, t2⟩, t3⟩
        rcases hmu m t t2 with z | z
        · exact z.1
        · have := t3 t t1 t2
          omega
      · rintro rfl
        refine ⟨⟨y, hy, by omega, zi_wfR hx 240, zi_wfR hyx 240⟩, fun t t1 t2 => ?_⟩
        rcases hmu m t t2 with z | z
        · omega
        · omega
    by_cases c : m = x
    · rw [decide_eq_true c]; exact h9.mpr c
    · rw [decide_eq_false c, Bool.eq_false_iff]; exact fun z => c (h9.mp z)
  have hct : ∀ n : Nat, jn_ct (jn_ld (jn_wf R 240) 240) n = if x < n then 1 else 0 := by
    intro n
    induction n with
    | zero => rw [if_neg (by omega)]; rfl
    | succ n ih =>
      unfold jn_ct
      rw [ih, hld]
      by_cases c : n = x
      · rw [decide_eq_true c, if_neg (by omega), if_pos rfl, if_pos (by omega)]
      · rw [decide_eq_false c, if_neg (by decide : ¬ (false = true))]
        by_cases c2 : x < n
        · rw [if_pos c2, if_pos (by omega)]
        · rw [if_neg c2, if_neg (by omega)]
  rw [hct, if_pos (by omega)]
  rfl
end ZZF
