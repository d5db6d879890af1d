/-! ASK: rows by one base read by another -/
def kq_c (b b' : Nat) : Nat → Nat → Nat
  | 0, _ => 0
  | n + 1, c => c % b + b' * kq_c b b' n (c / b)
def kq_ok (b a : Nat) : Nat → Nat → Prop
  | 0, c => c = 0
  | n + 1, c => c % b < a ∧ kq_ok b a n (c / b)
/-- the first of the least -/
def kq_b (f : Nat → Nat) : Nat → Nat
  | 0 => 0
  | m + 1 => if f m < f (kq_b f m) then m else kq_b f m
noncomputable def kq_y (g : gM) (N : kn_N) (n code r : Nat) : Bool := @decide (kp_mi g N r ∧ kr_se (kp_o g (r : Int)) (fun k => ((kr_dg (g 0 0).toNat n code k : Nat) : Int)) n = true) (Classical.propDecidable _)
noncomputable def kq_m (g : gM) (N : kn_N) (r : Nat) : Bool := @decide (kp_mi g N r) (Classical.propDecidable _)
/-- how many are left at worst -/
noncomputable def kq_w (g : gM) (N : kn_N) (n code : Nat) : Nat := if jn_ct (kq_m g N) 12 - jn_ct (kq_y g N n code) 12 < jn_ct (kq_y g N n code) 12 then jn_ct (kq_y g N n code) 12 else jn_ct (kq_m g N) 12 - jn_ct (kq_y g N n code) 12
noncomputable def kq_best (g : gM) (N : kn_N) (n : Nat) : Nat := kq_b (kq_w g N n) ((g 0 0).toNat ^ n)
noncomputable def kv_ask (g : gM) (N : kn_N) (n x : Int) : Int := if (1 ≤ n ∧ n ≤ 3) ∧ 0 ≤ x ∧ x ≤ 1 then (if g 0 0 = 0 then -2 else if x = 1 then (kq_w g N n.toNat (kq_best g N n.toNat) : Nat) else (kq_c (g 0 0).toNat 10 n.toNat (kq_best g N n.toNat) : Nat)) else -1
section KQA
variable {a b b' n c c' d m : Nat} {g : gM} {N : kn_N} {f : Nat → Nat}
theorem kq_dg_low : kr_dg b (n + 1) c n = c % b := by
  unfold kr_dg
  rw [show n + 1 - 1 - n = 0 by omega, Nat.pow_zero, Nat.div_one]
theorem kq_dg_up (hk : m < n) : kr_dg b (n + 1) c m = kr_dg b n (c / b) m := by
  unfold kr_dg
  rw [show n + 1 - 1 - m = (n - 1 - m) + 1 by omega, Nat.pow_succ, Nat.mul_comm, ← Nat.div_div_eq_div_mul]
theorem kq_mod {x y : Nat} (h : x < b) : (x + b * y) % b = x := by
  rw [Nat.add_mul_mod_self_left, Nat.mod_eq_of_lt h]
theorem kq_div {x y : Nat} (h : x < b) : (x + b * y) / b = y := by
  rw [Nat.add_mul_div_left _ _ (by omega), Nat.div_eq_of_lt h, Nat.zero_add]
theorem kq_inv (ha : a ≤ b') : ∀ {n c : Nat}, kq_ok b a n c → kq_c b' b n (kq_c b b' n c) = c
  | 0, c, h => (show c = 0 from h).symm
  | n + 1, c, h => by
    have h1 := kq_inv ha (n := n) h.2
    have h0 := h.1
    show (c % b + b' * kq_c b b' n (c / b)) % b' + b * kq_c b' b n ((c % b + b' * kq_c b b' n (c / b)) / b') = c
    rw [kq_mod (by omega), kq_div (by omega), h1]
    exact Nat.mod_add_div c b
theorem kq_okc (ha : a ≤ b') : ∀ {n c : Nat}, kq_ok b a n c → kq_ok b' a n (kq_c b b' n c)
  | 0, _, _ => rfl
  | n + 1, c, h => by
    have h0 := h.1
    show (c % b + b' * kq_c b b' n (c / b)) % b' < a ∧ kq_ok b' a n ((c % b + b' * kq_c b b' n (c / b)) / b')
    rw [kq_mod (by omega), kq_div (by omega)]
    exact ⟨h0, kq_okc ha h.2⟩
theorem kq_ok_lt (ha : a ≤ b) : ∀ {n c : Nat}, kq_ok b a n c → c < b ^ n
  | 0, c, h => by
    have h' : c = 0 := h
    rw [h']; exact Nat.one_pos
  | n + 1, c, h => by
    have h1 := kq_ok_lt ha (n := n) h.2
    have h0 := h.1
    rw [Nat.pow_succ]
    have hb : 0 < b := by omega
    exact Nat.lt_mul_of_div_lt h1 hb |> fun q => by rw [Nat.mul_comm] at q; rw [Nat.mul_comm]; exact q
theorem kq_ok_of (hb : 0 < b) : ∀ {n c : Nat}, c < b ^ n → kq_ok b b n c
  | 0, c, h => by
    rw [Nat.pow_zero] at h
    show c = 0
    omega
  | n + 1, c, h => by
    refine ⟨Nat.mod_lt _ hb, kq_ok_of hb (n := n) ?_⟩
    rw [Nat.pow_succ, Nat.mul_comm] at h
    exact Nat.div_lt_of_lt_mul h
theorem kq_mono (ha : a ≤ b') (hb : 0 < b) : ∀ {n c c' : Nat}, kq_ok b a n c → kq_ok b a n c' → c < c' → kq_c b b' n c < kq_c b b' n c'
  | 0, c, c', h, h', hlt => by
    have e : c' = 0 := h'
    omega
  | n + 1, c, c', h, h', hlt => by
    have h0 := h.1
    have h0' := h'.1
    show c % b + b' * kq_c b b' n (c / b) < c' % b + b' * kq_c b b' n (c' / b)
    have hle : c / b ≤ c' / b := Nat.div_le_div_right (by omega)
    rcases Nat.lt_or_ge (c / b) (c' / b) with q | q
    · have h1 := kq_mono ha hb (n := n) h.2 h'.2 q
      have h2 : b' * (kq_c b b' n (c / b) + 1) ≤ b' * kq_c b b' n (c' / b) := Nat.mul_le_mul_left _ h1
      rw [Nat.mul_add, Nat.mul_one] at h2
      omega
    · have e : c / b = c' / b := by omega
      have e1 := Nat.mod_add_div c b
      have e2 := Nat.mod_add_div c' b
      rw [e] at e1 ⊢
      omega
theorem kq_dg_c (ha : a ≤ b') : ∀ {n c : Nat}, kq_ok b a n c → ∀ k, k < n → kr_dg b' n (kq_c b b' n c) k = kr_dg b n c k
  | 0, _, _, k, hk => absurd hk (Nat.not_lt_zero k)
  | n + 1, c, h, k, hk => by
    have h0 := h.1
    by_cases hkn : k = n
    · subst hkn
      rw [kq_dg_low, kq_dg_low]
      exact kq_mod (by omega)
    · rw [kq_dg_up (by omega), kq_dg_up (by omega)]
      rw [show kq_c b b' (n + 1) c / b' = kq_c b b' n (c / b) from kq_div (by omega)]
      exact kq_dg_c ha h.2 k (by omega)
theorem kq_cc {b2 : Nat} (ha : a ≤ b') : ∀ {n c : Nat}, kq_ok b a n c → kq_c b' b2 n (kq_c b b' n c) = kq_c b b2 n c
  | 0, _, _ => rfl
  | n + 1, c, h => by
    have h0 := h.1
    show (c % b + b' * kq_c b b' n (c / b)) % b' + b2 * kq_c b' b2 n ((c % b + b' * kq_c b b' n (c / b)) / b') = c % b + b2 * kq_c b b2 n (c / b)
    rw [kq_mod (by omega), kq_div (by omega), kq_cc ha h.2]
theorem kq_ok10 : ∀ {n c : Nat}, kp_ok a n c ↔ kq_ok 10 a n c
  | 0, c => Iff.rfl
  | n + 1, c => by
    show c % 10 < a ∧ kp_ok a n (c / 10) ↔ c % 10 < a ∧ kq_ok 10 a n (c / 10)
    rw [kq_ok10 (n := n)]
theorem kq_7c : ∀ {n c : Nat}, kp_7 n c = kq_c 10 7 n c
  | 0, c => rfl
  | n + 1, c => by
    show c % 10 + 7 * kp_7 n (c / 10) = c % 10 + 7 * kq_c 10 7 n (c / 10)
    rw [kq_7c (n := n)]
/-- the digits below a are the same ones -/
theorem kq_ok_c (hb : b ≤ b') (hb0 : 0 < b) : ∀ {n c : Nat}, c < b ^ n → (kq_ok b' a n (kq_c b b' n c) ↔ kq_ok b a n c)
  | 0, c, h => by
    rw [Nat.pow_zero] at h
    exact ⟨fun _ => (show c = 0 by omega), fun _ => rfl⟩
  | n + 1, c, h => by
    have hm := Nat.mod_lt c hb0
    show (c % b + b' * kq_c b b' n (c / b)) % b' < a ∧ kq_ok b' a n ((c % b + b' * kq_c b b' n (c / b)) / b') ↔ c % b < a ∧ kq_ok b a n (c / b)
    rw [kq_mod (by omega), kq_div (by omega), kq_ok_c hb hb0 (n := n) (by rw [Nat.pow_succ, Nat.mul_comm] at h; exact Nat.div_lt_of_lt_mul h)]
theorem kq_c_lt (ha : a ≤ b') (h : kq_ok b a n c) : kq_c b b' n c < b' ^ n := kq_ok_lt ha (kq_okc ha h)
theorem kq_b_lt : ∀ {m : Nat}, 0 < m → kq_b f m < m
  | 0, h => absurd h (Nat.lt_irrefl 0)
  | m + 1, _ => by
    unfold kq_b
    split
    · omega
    · rcases Nat.eq_zero_or_pos m with q | q
      · subst q
        show (0 : Nat) < 1
        omega
      · have := kq_b_lt q
        omega
theorem kq_pow_lt (ha : a ≤ 7) (hn : n ≤ 3) : a ^ n ≤ 343 := Nat.le_trans (Nat.pow_le_pow_left ha n) (Nat.le_trans (Nat.pow_le_pow_right (by decide) hn) (by decide))
theorem kq_m_iff {r : Nat} : kq_m g N r = true ↔ kp_mi g N r := by
  unfold kq_m
  exact @decide_eq_true_iff _ (Classical.propDecidable _)
theorem kq_y_iff {r : Nat} : kq_y g N n c r = true ↔ kp_mi g N r ∧ kr_se (kp_o g (r : Int)) (fun k => ((kr_dg (g 0 0).toNat n c k : Nat) : Int)) n = true := by
  unfold kq_y
  exact @decide_eq_true_iff _ (Classical.propDecidable _)
theorem kq_y_le : ∀ {m : Nat}, jn_ct (kq_y g N n c) m ≤ jn_ct (kq_m g N) m
  | 0 => Nat.le_refl _
  | m + 1 => by
    have h : jn_ct (kq_y g N n c) m ≤ jn_ct (kq_m g N) m := kq_y_le
    by_cases hy : kq_y g N n c m = true
    · have hm : kq_m g N m = true := kq_m_iff.mpr (kq_y_iff.mp hy).1
      rw [jn_ct_t hy, jn_ct_t hm]
      omega
    · rw [jn_ct_f hy]
      exact Nat.le_trans h (jn_ct_mono (d := 1))
end KQA
