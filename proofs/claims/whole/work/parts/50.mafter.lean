/-! AFTER in the reference -/
theorem jn_ct_plus {p : Nat → Bool} {n : Nat} : ∀ {m : Nat}, jn_ct p (n + m) = jn_ct p n + jn_ct (fun i => p (n + i)) m
  | 0 => rfl
  | m + 1 => by
    have h := jn_ct_plus (p := p) (n := n) (m := m)
    show jn_ct p (n + m) + (if p (n + m) = true then 1 else 0) = jn_ct p n + (jn_ct (fun i => p (n + i)) m + (if p (n + m) = true then 1 else 0))
    omega
theorem jn_orf_skip {h : Nat → Nat} {k : Nat} : ∀ {d : Nat}, (∀ j, k ≤ j → j < k + d → h j = 0) → jn_orf h (k + d) = jn_orf h k
  | 0, _ => rfl
  | d + 1, hh => by
    show jn_orf h (k + d) ||| h (k + d) = _
    rw [hh (k + d) (by omega) (by omega), Nat.or_zero]
    exact jn_orf_skip (fun j h1 h2 => hh j h1 (by omega))
def jn_AM (τ : jg_M) (S : jn_Q) (a : Nat → Nat) : Prop := ∀ m : Nat, ((m / 5 : Nat) : Int) < S.1 → τ.1 (92 + 26) (m : Int) = (a m : Nat)
section JMA
variable {w : Nat} {σ : jg_M} {g : gM} {r s k x : Int} {e t0 m : Nat} {f fo : Int → Nat} {S : jn_Q} {a a' : Nat → Nat} {K : jg_M → Prop} {KI : Int → jg_M → Prop}
/-- looked back from: the two orders count alike -/
theorem jn_lk_ll (hW : jn_GW g) : ∀ s : Nat, jn_ct (jn_lk g S) (60 * s) = jn_ct (jn_ll g S) (12 * s)
  | 0 => rfl
  | s + 1 => by
    have ih := jn_lk_ll hW s
    have hblk : ∀ R : Nat, R ≤ 12 → jn_ct (fun i => jn_lk g S (60 * s + i)) R + (jn_ct (fun i => jn_lk g S (60 * s + 12 + i)) R + (jn_ct (fun i => jn_lk g S (60 * s + 24 + i)) R + (jn_ct (fun i => jn_lk g S (60 * s + 36 + i)) R + jn_ct (fun i => jn_lk g S (60 * s + 48 + i)) R))) = jn_ct (fun i => jn_ll g S (12 * s + i)) R := by
      intro R
      induction R with
      | zero => intro _; rfl
      | succ R ihR =>
        intro hR
        have h1 := ihR (by omega)
        have hlk : ∀ k, k < 5 → (jn_lk g S (60 * s + 12 * k + R) = true ↔ (R : Int) < g 0 2 ∧ g 3 (R : Int) = (k : Int) ∧ jn_ll g S (12 * s + R) = true) := fun k hk => by
          rw [jn_lk_iff, jn_ll_iff, show (60 * s + 12 * k + R) / 12 = 5 * s + k by omega, show (60 * s + 12 * k + R) % 12 = R by omega, show (12 * s + R) / 12 = s by omega, show (12 * s + R) % 12 = R by omega, show (5 * s + k) % 5 = k by omega]
          exact ⟨fun q => ⟨q.2.1, q.2.2, q.2.1, by rw [q.2.2]; exact q.1⟩, fun q => ⟨by
            have := q.2.2.2
            rw [q.2.1] at this
            exact this, q.1, q.2.1⟩⟩
        have hv : ∀ k, k < 5 → (if jn_lk g S (60 * s + 12 * k + R) = true then 1 else 0) = (if (R : Int) < g 0 2 ∧ g 3 (R : Int) = (k : Int) ∧ jn_ll g S (12 * s + R) = true then 1 else 0) := fun k hk => by
          by_cases h : jn_lk g S (60 * s + 12 * k + R) = true
          · rw [if_pos h, if_pos ((hlk k hk).mp h)]
          · rw [if_neg h, if_neg (fun q => h ((hlk k hk).mpr q))]
        have v0 := hv 0 (by omega)
        have v1 := hv 1 (by omega)
        have v2 := hv 2 (by omega)
        have v3 := hv 3 (by omega)
        have v4 := hv 4 (by omega)
        rw [show 60 * s + 12 * 0 + R = 60 * s + R by omega] at v0
        show (jn_ct _ R + (if jn_lk g S (60 * s + R) = true then 1 else 0)) + ((jn_ct _ R + (if jn_lk g S (60 * s + 12 * 1 + R) = true then 1 else 0)) + ((jn_ct _ R + (if jn_lk g S (60 * s + 12 * 2 + R) = true then 1 else 0)) + ((jn_ct _ R + (if jn_lk g S (60 * s + 12 * 3 + R) = true then 1 else 0)) + (jn_ct _ R + (if jn_lk g S (60 * s + 12 * 4 + R) = true then 1 else 0))))) = jn_ct _ R + (if jn_ll g S (12 * s + R) = true then 1 else 0)
        rw [v0, v1, v2, v3, v4]
        by_cases hll : jn_ll g S (12 * s + R) = true
        · have hq := jn_ll_iff.mp hll
          rw [show (12 * s + R) % 12 = R by omega] at hq
          have hg := (hW.2.1 (R : Int) (by omega) hq.1).1
          have hw := hW.1
          rw [if_pos hll]
          have hc : ∀ k : Nat, (if (R : Int) < g 0 2 ∧ g 3 (R : Int) = (k : Int) ∧ jn_ll g S (12 * s + R) = true then 1 else 0) = if g 3 (R : Int) = (k : Int) then 1 else 0 := fun k => by
            by_cases h : g 3 (R : Int) = (k : Int)
            · rw [if_pos h, if_pos ⟨hq.1, h, hll⟩]
            · rw [if_neg h, if_neg (fun q => h q.2.1)]
          rw [hc, hc, hc, hc, hc]
          generalize g 3 (R : Int) = c at *
          rcases (show c = 0 ∨ c = 1 ∨ c = 2 ∨ c = 3 ∨ c = 4 by omega) with rfl | rfl | rfl | rfl | rfl <;> simp <;> omega
        · have hc : ∀ k : Nat, (if (R : Int) < g 0 2 ∧ g 3 (R : Int) = (k : Int) ∧ jn_ll g S (12 * s + R) = true then 1 else 0) = 0 := fun k => if_neg (fun q => hll q.2.2)
          rw [hc, hc, hc, hc, hc, if_neg hll]
          omega
    have hb := hblk 12 (by omega)
    have p5 := jn_ct_plus (p := jn_lk g S) (n := 60 * s + 48) (m := 12)
    have p4 := jn_ct_plus (p := jn_lk g S) (n := 60 * s + 36) (m := 12)
    have p3 := jn_ct_plus (p := jn_lk g S) (n := 60 * s + 24) (m := 12)
    have p2 := jn_ct_plus (p := jn_lk g S) (n := 60 * s + 12) (m := 12)
    have p1 := jn_ct_plus (p := jn_lk g S) (n := 60 * s) (m := 12)
    have q1 := jn_ct_plus (p := jn_ll g S) (n := 12 * s) (m := 12)
    rw [show 60 * s + 48 + 12 = 60 * (s + 1) by omega] at p5
    rw [show 60 * s + 36 + 12 = 60 * s + 48 by omega] at p4
    rw [show 60 * s + 24 + 12 = 60 * s + 36 by omega] at p3
    rw [show 60 * s + 12 + 12 = 60 * s + 24 by omega] at p2
    rw [show 12 * s + 12 = 12 * (s + 1) by omega] at q1
    omega
theorem jn_Ib_mv (hW : jn_GW g) (hn0 : 0 < g 0 1) (ho : g 0 4 = -1) (hF : jn_FP g S) {t : Nat} (h : jn_Ib g e S 240 0 0 m t) : jn_mv S m = true ∧ m < 240 ∧ jn_mv S t = true ∧ t < 240 := by
  obtain ⟨r, d, ⟨h1, h2, h3, h4, h5, h6⟩, -⟩ := h
  have hI1 := hF.1.1
  have hw := hW.1
  have hl := jn_len_rng (r := r) hW
  have hmv := jn_mv_iff.mp h2
  have hs : 0 ≤ ((t / 5 : Nat) : Int) ∧ ((t / 5 : Nat) : Int) < S.1 := ⟨by omega, hmv.1⟩
  have hru := (jn_mv_rule hW hn0 hF hs (k := ((t % 5 : Nat) : Int)) (by omega) hmv.2).2 r h1.1 h1.2.1 (by omega) h1.2.2
  have hy := (jn_wy_ok hW hF hs ⟨h1.1, h1.2.1, by omega⟩ hru (d := d) (by omega)).1
  have hy2 := (jn_wy_ok hW hF hs ⟨h1.1, h1.2.1, by omega⟩ hru (d := d + 1) (by omega)).1
  have hsr := jn_sym_rng (r := r) (k := (d : Int)) hW ⟨by omega, by omega⟩
  refine ⟨?_, by omega, h2, by omega⟩
  rw [jn_mv_iff, show ((m / 5 : Nat) : Int) = jn_wy g S ((t / 5 : Nat) : Int) r d by omega, show 10 + ((m % 5 : Nat) : Int) = jn_sym g r d by omega]
  exact ⟨hy.2, hy2.1⟩
theorem jn_rh_nk (hW : jn_GW g) (hn0 : 0 < g 0 1) (hF : jn_FP g S) (hv : jn_mv S m = true) {j : Nat} (hj : g 0 1 ≤ (j : Int)) (hj5 : j < 5) : jn_rh e S a m j = 0 := by
  unfold jn_rh
  refine if_neg (fun q => ?_)
  have hI1 := hF.1.1
  have hmv := jn_mv_iff.mp hv
  have hq : 0 ≤ jn_qm S m ∧ jn_qm S m < S.1 := ⟨hmv.2, (hF.1.2.2.1 _ _).2⟩
  have h1 := jn_mv_iff.mp q.2
  rw [show (((5 * jn_qm S m + (j : Int)).toNat / 5 : Nat) : Int) = jn_qm S m by omega, show (((5 * jn_qm S m + (j : Int)).toNat % 5 : Nat) : Int) = j by omega] at h1
  have := (jn_mv_rule hW hn0 hF hq (k := (j : Int)) (by omega) h1.2).1
  omega
theorem jm_moreAfter (hM : jn_M0 σ g e S) (hW : jn_GW g) (hn0 : 0 < g 0 1) (hF : jn_FP g S) (hI : jn_IM σ (jn_Ib g e S 240 0 0)) (hA : jn_AM σ S a) (ha : ∀ m, a m < 256) (hm : m < 240) (hv : jn_mv S m = true)
    (hk : ∀ τ, jF (fun b i => b = 92 + 26 ∧ i = (m : Int)) σ τ → τ.1 (92 + 26) (m : Int) = ((a m ||| jn_as g e S a m : Nat) : Int) → KI (jn_b (a m ≠ a m ||| jn_as g e S a m)) τ) : jg_CI w 2 mm_X12_moreAfter [.ref 92, .int (.ofInt (m : Int))] σ KI := by
  have hw := hW.1
  have hI1 := hF.1.1
  have hmv := jn_mv_iff.mp hv
  have hq : 0 ≤ jn_qm S m ∧ jn_qm S m < S.1 := ⟨hmv.2, (hF.1.2.2.1 _ _).2⟩
  have ham := ha m
  have hr5 : jn_orf (jn_rh e S a m) 5 < 256 := jn_orf_lt (fun _ => jn_rh_lt ha)
  have hMt : ∀ τ, jF (fun b i => b = 92 + 26 ∧ i = (m : Int)) σ τ → jn_M0 τ g e S ∧ jn_IM τ (jn_Ib g e S 240 0 0) ∧ ∀ j : Nat, ((j / 5 : Nat) : Int) < S.1 → j ≠ m → τ.1 (92 + 26) (j : Int) = (a j : Nat) := fun τ h => ⟨jn_M0_fr hM h (fun i => by omega) (fun k i hk => by omega), jn_IM_fr hI h (fun i => by omega), fun j hj hjm => (h.1 _ _ (by omega)).trans (hA j hj)⟩
  have hor0 : ∀ v : Nat, v < 256 → jg_or (v : Int) 0 = (v : Nat) := fun v hv => by
    have := jb_or (m := v) (n := 0) (by omega) (by omega)
    rw [Nat.or_zero] at this
    exact this
  have h89 : ∀ (n t : Nat) (u3 : Value) (τ : jg_M), (t : Int) + n = 5 * S.1 → jF (fun b i => b = 92 + 26 ∧ i = (m : Int)) σ τ → τ.1 (92 + 26) (m : Int) = ((a m ||| jn_orf (jn_rh e S a m) 5 ||| jn_orf (jn_ih g e S a m) t : Nat) : Int) → jg_GI w 2 mm_X12_moreAfter 89 [.ref 92, .int (.ofInt (m : Int)), .int (.ofInt ((a m : Nat) : Int)), u3, .int (.ofInt (t : Int))] τ KI := by
    intro n
    induction n with
    | zero =>
      intro t u3 τ ht hFτ hc
      obtain ⟨hMτ, hIτ, hAτ⟩ := hMt τ hFτ
      have hsk := jn_orf_skip (h := jn_ih g e S a m) (k := t) (d := 240 - t) (fun j j1 j2 => if_neg (fun q => by
        have := (jn_mv_iff.mp q.1).1
        omega))
      rw [show t + (240 - t) = 240 by omega] at hsk
      rw [← hsk, Nat.or_assoc] at hc
      have hlt : a m ||| jn_as g e S a m < 256 := Nat.or_lt_two_pow (n := 8) ham (jn_as_lt ha)
      have hk9 := hk τ hFτ hc
      refine jb_X12_moreAfter_89 rfl ?_
      rw [hMτ.2.2.2.1, jr_wr (show jr (5 * S.1) by omega), jr_wr (show jr (t : Int) by omega), jr_wr (show jr (m : Int) by omega), hc, jr_wr (show jr ((a m : Nat) : Int) by omega)]
      rw [show ((a m ||| (jn_orf (jn_rh e S a m) 5 ||| jn_orf (jn_ih g e S a m) 240) : Nat) : Int) = ((a m ||| jn_as g e S a m : Nat) : Int) from rfl, jr_wr (show jr ((a m ||| jn_as g e S a m : Nat) : Int) by omega)]
      refine jn_ite (fun _ => ⟨by omega, jn_ite (fun heq => ?_) (fun hne => ?_)⟩) (fun h => by omega)
      · rw [jn_b_f (fun q => q (by omega))] at hk9; exact hk9
      · rw [jn_b_t (fun q => hne (by omega))] at hk9; exact hk9
    | succ n ih =>
      intro t u3 τ ht hFτ hc
      obtain ⟨hMτ, hIτ, hAτ⟩ := hMt τ hFτ
      have hcl : a m ||| jn_orf (jn_rh e S a m) 5 ||| jn_orf (jn_ih g e S a m) t < 256 := Nat.or_lt_two_pow (n := 8) (Nat.or_lt_two_pow (n := 8) ham hr5) (jn_orf_lt (fun _ => jn_ih_lt ha))
      have hs : jn_orf (jn_ih g e S a m) (t + 1) = jn_orf (jn_ih g e S a m) t ||| jn_ih g e S a m t := rfl
      refine jb_X12_moreAfter_89 rfl ?_
      rw [hMτ.2.2.2.1, jr_wr (show jr (5 * S.1) by omega), jr_wr (show jr (t : Int) by omega), jr_wr (show jr (m : Int) by omega), hc]
      refine jn_ite (fun h => by omega) (fun _ => ⟨by omega, jm_isIncluded hIτ hm (by omega) (jn_if (fun hp => ⟨by omega, ?_⟩) (fun hp => ⟨by omega, by omega, ?_⟩))⟩) <;> rintro _ rfl <;> rw [show (t : Int) + 1 = ((t + 1 : Nat) : Int) by omega]
      · refine ih (t + 1) u3 _ (by omega) (jF_tr hFτ (jF_I ⟨rfl, rfl⟩)) ?_
        rw [js_Is, hor0 _ hcl, hs, show jn_ih g e S a m t = 0 from if_neg (fun q => hp q.2), Nat.or_zero]
      · have hmt : jn_mv S t = true := by
          obtain ⟨r, d, q1, -⟩ := hp
          exact q1.2.1
        refine ih (t + 1) u3 _ (by omega) (jF_tr hFτ (jF_I ⟨rfl, rfl⟩)) ?_
        rw [js_Is, hs, show jn_ih g e S a m t = a t from if_pos ⟨hmt, hp⟩]
        by_cases htm : t = m
        · have hat : a t = a m := by rw [htm]
          rw [show (t : Int) = (m : Int) by omega, hc, jb_or (by omega) (by omega), Nat.or_self, hat, ← Nat.or_assoc (a m ||| jn_orf (jn_rh e S a m) 5) (jn_orf (jn_ih g e S a m) t) (a m)]
          rw [jn_sub_eq (show jn_sub (a m) (a m ||| jn_orf (jn_rh e S a m) 5 ||| jn_orf (jn_ih g e S a m) t) from jn_sub_tr jn_sub_l jn_sub_l)]
        · have hat := ha t
          rw [hAτ t (jn_mv_iff.mp hmt).1 htm, jb_or (by omega) (by omega), Nat.or_assoc]
  have h21 : ∀ (n k : Nat) (τ : jg_M), (k : Int) + n = g 0 1 → jF (fun b i => b = 92 + 26 ∧ i = (m : Int)) σ τ → τ.1 (92 + 26) (m : Int) = ((a m ||| jn_orf (jn_rh e S a m) k : Nat) : Int) → jg_GI w 2 mm_X12_moreAfter 21 [.ref 92, .int (.ofInt (m : Int)), .int (.ofInt ((a m : Nat) : Int)), .int (.ofInt (jn_qm S m)), .int (.ofInt (k : Int))] τ KI := by
    intro n
    induction n with
    | zero =>
      intro k τ hkn hFτ hc
      obtain ⟨hMτ, hIτ, hAτ⟩ := hMt τ hFτ
      have hsk := jn_orf_skip (h := jn_rh e S a m) (k := k) (d := 5 - k) (fun j j1 j2 => jn_rh_nk hW hn0 hF hv (by omega) (by omega))
      rw [show k + (5 - k) = 5 by omega] at hsk
      refine jb_X12_moreAfter_21 rfl ?_
      rw [hMτ.1.1.2.2.2.2.2.1, jr_wr (by omega), jr_wr (by omega)]
      refine jn_ite (fun _ => h89 (5 * S.1).toNat 0 _ τ (by omega) hFτ ?_) (fun h => by omega)
      rw [hc, hsk]
      show _ = ((a m ||| jn_orf (jn_rh e S a m) k ||| 0 : Nat) : Int)
      rw [Nat.or_zero]
    | succ n ih =>
      intro k τ hkn hFτ hc
      obtain ⟨hMτ, hIτ, hAτ⟩ := hMt τ hFτ
      have hcl : a m ||| jn_orf (jn_rh e S a m) k < 256 := Nat.or_lt_two_pow (n := 8) ham (jn_orf_lt (fun _ => jn_rh_lt ha))
      have hs : jn_orf (jn_rh e S a m) (k + 1) = jn_orf (jn_rh e S a m) k ||| jn_rh e S a m k := rfl
      have hmk : jn_mv S (5 * jn_qm S m + (k : Int)).toNat = true ↔ 0 ≤ S.2.2.1 (jn_qm S m) (10 + (k : Int)) := by
        rw [jn_mv_iff, show (((5 * jn_qm S m + (k : Int)).toNat / 5 : Nat) : Int) = jn_qm S m by omega, show (((5 * jn_qm S m + (k : Int)).toNat % 5 : Nat) : Int) = k by omega]
        exact ⟨fun q => q.2, fun q => ⟨hq.2, q⟩⟩
      have hb := hF.1.2.2.1 (jn_qm S m) (10 + (k : Int))
      have no : ¬ (e.testBit k = true ∧ jn_mv S (5 * jn_qm S m + (k : Int)).toNat = true) → ∀ υ, υ = jg_sI τ (92 + 26) (m : Int) (jg_or ((a m ||| jn_orf (jn_rh e S a m) k : Nat) : Int) 0) → jg_GI w 2 mm_X12_moreAfter 21 [.ref 92, .int (.ofInt (m : Int)), .int (.ofInt ((a m : Nat) : Int)), .int (.ofInt (jn_qm S m)), .int (.ofInt ((k : Int) + 1))] υ KI := by
        rintro hno _ rfl
        rw [show (k : Int) + 1 = ((k + 1 : Nat) : Int) by omega]
        refine ih (k + 1) _ (by omega) (jF_tr hFτ (jF_I ⟨rfl, rfl⟩)) ?_
        rw [js_Is, hor0 _ hcl, hs, show jn_rh e S a m k = 0 from if_neg hno, Nat.or_zero]
      have he := hMτ.2.2.1
      refine jb_X12_moreAfter_21 rfl ?_
      rw [hMτ.1.1.2.2.2.2.2.1, jr_wr (show jr (g 0 1) by omega), jr_wr (show jr (k : Int) by omega), jr_wr (show jr (m : Int) by omega), he.1, hc]
      refine jn_ite (fun h => by omega) (fun _ => ⟨by omega, jm_isOf (by omega) (by omega) (jn_if (fun hp => ⟨by omega, no (fun q => hp (by rw [Int.toNat_natCast]; exact q.1))⟩) (fun hp => jm_kindMove hMτ hF hq (by omega) ?_))⟩)
      rw [Int.toNat_natCast] at hp
      rw [jr_wr (show jr (S.2.2.1 (jn_qm S m) (10 + (k : Int))) by omega)]
      refine jn_ite (fun hneg => ⟨by omega, no (fun q => by have := hmk.mp q.2; omega)⟩) (fun hpos => ?_)
      rw [jr_wr (show jr (5 * jn_qm S m + (k : Int)) by omega)]
      refine ⟨by omega, by omega, ?_⟩
      rintro _ rfl
      have hyes := hmk.mpr (by omega)
      rw [show (k : Int) + 1 = ((k + 1 : Nat) : Int) by omega]
      refine ih (k + 1) _ (by omega) (jF_tr hFτ (jF_I ⟨rfl, rfl⟩)) ?_
      have hx : (((5 * jn_qm S m + (k : Int)).toNat : Nat) : Int) = 5 * jn_qm S m + (k : Int) := by omega
      rw [js_Is, hs, show jn_rh e S a m k = a (5 * jn_qm S m + (k : Int)).toNat from if_pos ⟨hp, hyes⟩]
      by_cases htm : (5 * jn_qm S m + (k : Int)).toNat = m
      · rw [show 5 * jn_qm S m + (k : Int) = (m : Int) by omega, hc, jb_or (by omega) (by omega), Int.toNat_natCast, Nat.or_self, ← Nat.or_assoc (a m) (jn_orf (jn_rh e S a m) k) (a m)]
        rw [jn_sub_eq (show jn_sub (a m) (a m ||| jn_orf (jn_rh e S a m) k) from jn_sub_l)]
      · have hat := ha (5 * jn_qm S m + (k : Int)).toNat
        have h9 := hAτ _ (jn_mv_iff.mp hyes).1 htm
        rw [hx] at h9
        rw [h9, jb_or (by omega) (by omega), Nat.or_assoc]
  refine jb_X12_moreAfter_0 rfl ?_
  rw [jr_wr (show jr (m : Int) by omega), hA m hmv.1]
  refine ⟨by omega, ?_⟩
  rintro _ rfl
  rw [jb_div (by omega) (by omega), jb_rem (by omega) (by omega), show (m : Int) / 5 = ((m / 5 : Nat) : Int) by omega, show (m : Int) % 5 = ((m % 5 : Nat) : Int) by omega]
  refine jm_kindMove hM hF ⟨by omega, hmv.1⟩ (by omega) (h21 (g 0 1).toNat 0 σ (by omega) jF_rf ?_)
  rw [hA m hmv.1]
  show _ = ((a m ||| 0 : Nat) : Int)
  rw [Nat.or_zero]
end JMA
