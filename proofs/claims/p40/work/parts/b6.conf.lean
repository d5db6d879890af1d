/-! CONFLICTS, TRIED by tables that are given as data -/
def zz_cf (T : zz_t) (n nt : Nat) : Nat → Nat := fun cell => if cell / 8 < n ∧ cell % 8 ≤ nt then (zz_tg T (cell / 8) (cell % 8)).2 else 0
def zz_z (T : zz_t) : Bool := T.all (fun r => r.all (fun p => Nat.beq p.2 0))
section ZZE
variable {g : gM} {d : zz_d} {e : Nat} {fl wl al ol rl sl : List Nat} {q : zz_q} {LL : zz_ll} {y : Int} {T : zz_t} {n nt : Nat}
theorem zz_ltE (h : zz_K g d e fl wl al ol q LL) (hR : zz_R g d.1 rl sl) (hk : zz_kk d = true) {fo : Bool} (hy : y = 0 ↔ fo = false) (hT : zz_tab d wl al ol rl sl q LL fo = T) : kt_lm g y = zz_cf T q.1 d.1 := by
  unfold kt_lm
  rw [if_neg (zz_K01 h)]
  funext cell
  unfold jn_lm zz_cf
  rw [zz_KS h, h.1.2.1.1.1]
  by_cases c : cell / 8 < q.1 ∧ cell % 8 ≤ d.1
  · rw [if_pos ⟨by show ((cell / 8 : Nat) : Int) < ((q.1 : Nat) : Int); omega, by omega⟩, if_pos c]
    have := zz_tabE h hR hk hy c.1 c.2
    unfold kg_ap at this
    rw [zz_KS h, hT] at this
    rw [this]
  · rw [if_neg (fun z => c ⟨by have : ((cell / 8 : Nat) : Int) < ((q.1 : Nat) : Int) := z.1; omega, by omega⟩), if_neg c]
theorem zz_lvE : kv_lm g = kt_lm g 0 := rfl
theorem zz_cfz {c : Nat} (h : 8 * n ≤ c) : zz_cf T n nt c = 0 := if_neg (fun z => by omega)
theorem zz_lsz (hn : n ≤ 48) : jn_ls (zz_cf T n nt) 6144 = jn_ls (zz_cf T n nt) (128 * n) := by
  have := jn_ls_skip (lm := zz_cf T n nt) (k := 128 * n) (d := 6144 - 128 * n) (fun j h1 h2 => by
    rw [zz_cfz (by omega), Nat.zero_testBit]
    decide)
  rw [show 128 * n + (6144 - 128 * n) = 6144 by omega] at this
  exact this
theorem zz_zE (h : zz_z T = true) (s t : Nat) : (zz_tg T s t).2 = 0 := by
  unfold zz_tg
  rw [List.getD_eq_getElem?_getD, List.getD_eq_getElem?_getD]
  cases h1 : T[s]? with
  | none => rfl
  | some r =>
    have h2 := List.all_eq_true.mp h r (List.mem_of_getElem? h1)
    show ((r[t]?).getD (0, 0)).2 = 0
    cases h3 : r[t]? with
    | none => rfl
    | some x => exact Nat.eq_of_beq_eq_true (List.all_eq_true.mp h2 x (List.mem_of_getElem? h3))
theorem zz_ls0 (h : zz_z T = true) : ∀ k : Nat, jn_ls (zz_cf T n nt) k = 0 := fun k => by
  have := jn_ls_skip (lm := zz_cf T n nt) (k := 0) (d := k) (fun j h1 h2 => by
    have : zz_cf T n nt (j / 16) = 0 := by
      unfold zz_cf
      rw [zz_zE h]
      split <;> rfl
    rw [this, Nat.zero_testBit]
    decide)
  rw [Nat.zero_add] at this
  exact this
theorem zz_pos (h : zz_K g d e fl wl al ol q LL) : kt_pos g := Or.inr ⟨by rw [h.1.2.1.1.2.1]; have := h.1.2.2.2; omega, _, h.2.1⟩
theorem zz_tend (h : zz_K g d e fl wl al ol q LL) : kt_tend g y = (jn_ls (kt_lm g y) 6144 : Nat) := if_pos (zz_pos h)
/-- ACTION and what reading wants -/
theorem zz_H (h : zz_K g d e fl wl al ol q LL) (hR : zz_R g d.1 rl sl) (hk : zz_kk d = true) (hT : zz_tab d wl al ol rl sl q LL false = T) : zt_H g d q T := by
  refine ⟨fun s t hs ht => ?_, zz_KS h, h.1.2.1, zz_K01 h⟩
  unfold kr_ac
  rw [zz_tabE h hR hk (y := 0) (fo := false) (by simp) hs ht, hT]
theorem zz_act (hH : zt_H g d q T) {s t : Nat} (hs : s < q.1) (ht : t ≤ d.1) : kv_action g (s : Int) (t : Int) = ((zz_tg T s t).1 : Nat) := by
  unfold kv_action
  have : ku_n g = (q.1 : Nat) := by
    unfold ku_n
    rw [if_neg hH.2.2.2, hH.2.1]
    rfl
  rw [this, hH.2.2.1.1.1, if_pos ⟨⟨by omega, by omega⟩, by omega, by omega⟩, hH.1 s t hs ht]
/-- one CONFLICT -/
theorem zz_conf (hH : zt_H g d q T) (hl : kv_lm g = zz_cf T q.1 d.1) {i j : Nat} (hn : q.1 ≤ 48) (hb : (zz_cf T q.1 d.1 (j / 16)).testBit (j % 16) = true) (hj : jn_ls (zz_cf T q.1 d.1) j = i) (hi : i < jn_ls (zz_cf T q.1 d.1) (128 * q.1)) :
    kv_conf g (i : Int) 0 = ((j / 128 : Nat) : Int) ∧ kv_conf g (i : Int) 1 = ((j / 16 % 8 : Nat) : Int) ∧ kv_conf g (i : Int) 2 = kr_ac g ((j / 128 : Nat) : Int) ((j / 16 % 8 : Nat) : Int) ∧ kv_conf g (i : Int) 3 = ((j % 16 : Nat) : Int) := by
  have hi2 : (0 : Int) ≤ (i : Int) ∧ (i : Int) < kv_confs g := by
    unfold kv_confs
    rw [hl, zz_lsz hn]
    omega
  have hc : kv_cf g (i : Int) = j := kv_cf_eq hi2 (by rw [hl]; exact hb) (by rw [hl, hj])
  unfold kv_conf
  rw [hc]
  refine ⟨?_, ?_, ?_, ?_⟩
  · rw [if_pos ⟨hi2, by decide, by decide⟩, if_pos rfl]
  · rw [if_pos ⟨hi2, by decide, by decide⟩, if_neg (by decide), if_pos rfl]
  · rw [if_pos ⟨hi2, by decide, by decide⟩, if_neg (by decide), if_neg (by decide), if_pos rfl]
  · rw [if_pos ⟨hi2, by decide, by decide⟩, if_neg (by decide), if_neg (by decide), if_neg (by decide)]
/-- variants know the same RULES -/
theorem zz_I_v0 (h : zz_I g d) : zz_I (kt_v g 0 0) d := h
theorem zz_I_v1 (h : zz_I g d) : zz_I (kt_v g 1 0) d := h
theorem zz_I_o (h : zz_I g d) {r : Nat} : zz_I (kp_o g (r : Int)) (d.1, d.2.1, d.2.2.1, (r : Int)) := ⟨⟨h.1.1, h.1.2.1, h.1.2.2.1, h.1.2.2.2.1, rfl⟩, h.2⟩
theorem zz_R_o (h : zz_R g n rl sl) {r : Nat} : zz_R (kp_o g (r : Int)) n rl sl := h
end ZZE
