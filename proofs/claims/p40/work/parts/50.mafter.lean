/-! AFTER in the reference -/
theorem jn_ct_plus {p : Nat → Bool} {n : Nat} : ∀ {m : Nat}, jn_ct p (n + m) = jn_ct p n + jn_ct (fun i => p (n + i)) m
  | 0 => rfl
  | m + 1 => by
    have h := jn_ct_plus (p := p) (n := n) (m := m)
    show jn_ct p (n + m) + (if p (n + m) = true then 1 else 0) = jn_ct p n + (jn_ct (fun i => p (n + i)) m + (if p (n + m) = true then 1 else 0))
    omega
def jn_AM (τ : jg_M) (S : jn_Q) (a : Nat → Nat) : Prop := ∀ m : Nat, ((m / 5 : Nat) : Int) < S.1 → τ.1 (92 + 26) (m : Int) = (a m : Nat)
section JMA
variable {w : Nat} {σ : jg_M} {g : gM} {r s k x : Int} {e t0 m : Nat} {f fo : Int → Nat} {S : jn_Q} {a a' : Nat → Nat} {K : jg_M → Prop} {KI : Int → jg_M → Prop}
theorem jn_Ib_mv (hW : jn_GW g) (hn0 : 0 < g 0 1) (ho : g 0 4 = -1) (hF : jn_FP g S) {t : Nat} (h : jn_Ib g e S 240 0 0 m t) : jn_mv S m = true ∧ m < 240 ∧ jn_mv S t = true ∧ t < 240 := by
  obtain ⟨r, d, ⟨h1, h2, h3, h4, h5, h6⟩, -⟩ := h
  have hI1 := hF.1.1
  have hw := hW.1
  have hl := jn_len_rng (r := r) hW
  have hmv := jn_mv_iff.mp h2
  have hs : 0 ≤ ((t / 5 : Nat) : Int) ∧ ((t / 5 : Nat) : Int) < S.1 := ⟨by omega, hmv.1⟩
  have hru := (jn_mv_rule hW hn0 hF hs (k := ((t % 5 : Nat) : Int)) (by omega) hmv.2).2 r h1.1 h1.2.1 (by omega) h1.2.2
  have hy := (jn_wy_ok hW hF hs ⟨h1.1, h1.2.1, by omega⟩ hru (d := d) (by omega)).1
  have hy2 := (jn_wy_ok hW hF hs ⟨h1.1, h1.2.1, by omega⟩ hru (d := d + 1) (by omega)).1
  have hsr := jn_sym_rng (r := r) (k := (d : Int)) hW ⟨by omega, by omega⟩
  refine ⟨?_, by omega, h2, by omega⟩
  rw [jn_mv_iff, show ((m / 5 : Nat) : Int) = jn_wy g S ((t / 5 : Nat) : Int) r d by omega, show 10 + ((m % 5 : Nat) : Int) = jn_sym g r d by omega]
  exact ⟨hy.2, hy2.1⟩
end JMA
