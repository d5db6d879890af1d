/-! ALL TABLES of a grammar that is given as data: ACTION -/
/-- all that is known of one grammar's tables -/
def zz_K (g : gM) (d : zz_d) (e : Nat) (fl wl al ol : List Nat) (q : zz_q) (LL : zz_ll) : Prop :=
  (jn_GW g ∧ zz_I g d ∧ zz_T g al ol ∧ 0 < d.2.1) ∧ jn_all g = some (zz_S (zz_k0 d) q) ∧ jn_lEF g e (zz_fn fl) ∧ jn_lW g e (zz_fn fl) (zz_fn wl) ∧ jn_lL g e (zz_fn fl) (zz_S (zz_k0 d) q) (zz_L LL)
def zz_eqq (o : Option zz_q) (q : zz_q) : Bool := match o with
  | some p => Nat.beq p.1 q.1 && (decide (p.2.1 = q.2.1) && (decide (p.2.2.1 = q.2.2.1) && decide (p.2.2.2 = q.2.2.2)))
  | none => false
theorem zz_eqqE {o : Option zz_q} {q : zz_q} (h : zz_eqq o q = true) : o = some q := by
  unfold zz_eqq at h
  split at h
  · rename_i p
    rw [Bool.and_eq_true, Bool.and_eq_true, Bool.and_eq_true, Nat.beq_eq, decide_eq_true_iff, decide_eq_true_iff, decide_eq_true_iff] at h
    obtain ⟨h1, h2, h3, h4⟩ := h
    exact congrArg some (Prod.ext h1 (Prod.ext h2 (Prod.ext h3 h4)))
  · cases h
def zz_ck (d : zz_d) (e : Nat) (fl wl al ol : List Nat) (q : zz_q) (LL : zz_ll) : Bool :=
  decide (zz_al d = al) && (decide (zz_ol d = ol) && (zz_eqq (zz_all d al ol) q && (Nat.beq (zz_e d) e && (decide (zz_f d e = fl) && (zz_cE d e && (zz_cF d e fl && (zz_rw d.2.1 fl && (Nat.ble e 31 &&
  (zz_kk d && (decide (zz_w d e fl = wl) && (zz_cW d e fl wl && (zz_rw d.2.1 wl && (Nat.ble (zz_n d) 12 && (decide (zz_LL d e fl al ol q = LL) && (zz_cL d e fl al ol q LL && zz_25 LL)))))))))))))))
section ZZD
variable {g g' : gM} {d : zz_d} {e : Nat} {fl wl al ol rl sl : List Nat} {q : zz_q} {LL : zz_ll} {y : Int}
theorem zz_K_of (hW : jn_GW g) (h : zz_I g d) (hc : zz_ck d e fl wl al ol q LL = true) : zz_K g d e fl wl al ol q LL := by
  unfold zz_ck at hc
  simp only [Bool.and_eq_true, decide_eq_true_iff, Nat.beq_eq, Nat.ble_eq] at hc
  obtain ⟨c1, c2, c3, c4, c5, c6, c7, c8, c9, c10, c11, c12, c13, c14, c15, c16, c17⟩ := hc
  have hT : zz_T g al ol := by rw [← c1, ← c2]; exact zz_T_of h
  have hE := zz_lEF hW h c4 c5 c6 c7 c8 (by omega)
  refine ⟨⟨hW, h, hT, (zz_kkE c10).1⟩, ?_, hE, zz_lW h c10 c11 c12 c13, zz_lL h hT c14 c15 c16 c17⟩
  rw [zz_allE h hT, zz_eqqE c3]
  rfl
theorem zz_Ke (h : zz_K g d e fl wl al ol q LL) : kg_e g = e := ((kg_EF_ok h.1.1 h.2.2.1).2.1).symm
theorem zz_Kf (h : zz_K g d e fl wl al ol q LL) {x : Nat} (hx : x < 5) : kg_f g (x : Int) = fl.getD x 0 := ((kg_EF_ok h.1.1 h.2.2.1).2.2 x (by omega) (by omega)).symm
theorem zz_Kw (h : zz_K g d e fl wl al ol q LL) {x : Nat} (hx : x < 5) : kg_fo g (x : Int) = wl.getD x 0 := ((kg_fo_ok h.1.1 h.2.2.1 h.2.2.2.1).2 x (by omega) (by omega)).symm
theorem zz_KS (h : zz_K g d e fl wl al ol q LL) : kg_S g = zz_S (zz_k0 d) q := (kg_S_eq h.2.1).symm
theorem zz_KL (h : zz_K g d e fl wl al ol q LL) {s i : Nat} (hs : s < q.1) (hi : i < 62) : kg_L g (s : Int) (i : Int) = zz_g2 LL s i := by
  rw [← (kg_L_ok h.1.1 h.2.2.1 h.2.1 h.2.2.2.2).2 (s : Int) (i : Int) (by omega) (by show (s : Int) < ((q.1 : Nat) : Int); omega) (by omega) (by omega), zz_Lnn]
theorem zz_Kn (h : zz_K g d e fl wl al ol q LL) : ku_n g = (q.1 : Nat) := by
  unfold ku_n
  rw [if_neg (by rw [h.1.2.1.1.2.1]; have := h.1.2.2.2; omega), zz_KS h]
  rfl
theorem zz_K01 (h : zz_K g d e fl wl al ol q LL) : ¬ g 0 1 = 0 := by
  rw [h.1.2.1.1.2.1]
  have := h.1.2.2.2
  omega
/-- which RULES REDUCE -/
def zz_rm (d : zz_d) (wl al ol : List Nat) (q : zz_q) (LL : zz_ll) (fo : Bool) (s t c : Nat) : Nat :=
  zz_mk (fun r => decide (r < zz_n d) && (!zz_out d r && (c.testBit (r * 5 + zz_len d r) && (if fo = true then wl.getD (zz_r d r).1 0 else zz_g2 LL s (r * 5 + zz_len d r)).testBit t))) 12
theorem zz_rmE (h : zz_K g d e fl wl al ol q LL) (hk : zz_kk d = true) {fo : Bool} (hy : y = 0 ↔ fo = false) (s t : Nat) : jn_rm g (zz_S (zz_k0 d) q) (zz_L LL) (zz_fn wl) y (s : Int) (t : Int) = zz_rm d wl al ol q LL fo s t (zz_clo al ol (zz_la q.2.1 (zz_k0 d) (s : Int))) := by
  obtain ⟨⟨hW, hI, hT, h0⟩, -⟩ := h
  refine zz_mkE (fun r _ => ?_)
  unfold jn_rd
  rw [Bool.and_eq_true, Bool.and_eq_true, Bool.and_eq_true, Bool.not_eq_true', decide_eq_true_iff, zz_outP hI, hI.1.2.2.1, zz_l hI, zz_cloE hT, Int.toNat_natCast]
  rw [show ((r : Int) * 5 + ((zz_len d r : Nat) : Int)) = ((r * 5 + zz_len d r : Nat) : Int) by omega, Int.toNat_natCast]
  have e2 : zz_L LL (s : Int) ((r * 5 + zz_len d r : Nat) : Int) = zz_g2 LL s (r * 5 + zz_len d r) := zz_Lnn
  rw [e2]
  have e3 : ((r : Int) < ((zz_n d : Nat) : Int)) ↔ r < zz_n d := by omega
  rw [e3]
  by_cases hr : r < zz_n d
  · rw [(hI.2 r hr).1]
    have e4 : zz_fn wl (((zz_r d r).1 : Nat) : Int) = wl.getD (zz_r d r).1 0 := rfl
    rw [e4]
    cases fo with
    | true =>
      rw [if_neg (fun z => by cases hy.mp z), if_pos rfl]
      exact Iff.rfl
    | false =>
      rw [if_pos (hy.mpr rfl), if_neg (by decide)]
      exact Iff.rfl
  · exact ⟨fun z => absurd z.1 hr, fun z => absurd z.1 hr⟩
/-- RANKS and SIDES -/
def zz_R (g : gM) (nt : Nat) (rl sl : List Nat) : Prop := ∀ t : Nat, t < nt → g 1 (t : Int) = ((rl.getD t 0 : Nat) : Int) ∧ g 2 (t : Int) = ((sl.getD t 0 : Nat) : Int)
def zz_rkn (d : zz_d) (rl : List Nat) (r : Nat) : Nat → Nat
  | 0 => 0
  | n + 1 => if zz_sym d r n < d.1 then rl.getD (zz_sym d r n) 0 else zz_rkn d rl r n
def zz_rr (d : zz_d) (rl : List Nat) (r : Nat) : Nat := zz_rkn d rl r (zz_len d r)
theorem zz_rrE (hI : zz_I g d) (hR : zz_R g d.1 rl sl) (r : Nat) : jn_rr g (r : Int) = (zz_rr d rl r : Nat) := by
  unfold jn_rr zz_rr
  rw [zz_l hI, Int.toNat_natCast]
  have go : ∀ n : Nat, n ≤ zz_len d r → jn_rk g (r : Int) n = (zz_rkn d rl r n : Nat) := by
    intro n
    induction n with
    | zero => intro _; rfl
    | succ n ih =>
      intro hn
      unfold jn_rk zz_rkn
      rw [zz_s hI (by omega), hI.1.1]
      by_cases c : zz_sym d r n < d.1
      · rw [if_pos (by omega), if_pos c, (hR _ c).1]
      · rw [if_neg (by omega), if_neg c, ih (by omega)]
  exact go _ (Nat.le_refl _)
def zz_ac (d : zz_d) (rl sl : List Nat) (go : Int) (t m : Nat) : Int × Nat :=
  if m = 0 then (if go < 0 then 0 else 1000 + go, 0)
  else if 0 ≤ go ∧ (zz_rr d rl (jn_lo m) = 0 ∨ (if t < d.1 then rl.getD t 0 else 0) = 0) then (1000 + go, m)
  else (if go < 0 ∨ (if t < d.1 then rl.getD t 0 else 0) < zz_rr d rl (jn_lo m) then 2000 + ((jn_lo m : Nat) : Int) else if zz_rr d rl (jn_lo m) < (if t < d.1 then rl.getD t 0 else 0) then 1000 + go else if (if t < d.1 then sl.getD t 0 else 0) = 0 then 2000 + ((jn_lo m : Nat) : Int) else if (if t < d.1 then sl.getD t 0 else 0) = 1 then 1000 + go else 0, m ^^^ 2 ^ jn_lo m)
theorem zz_acE (hI : zz_I g d) (hR : zz_R g d.1 rl sl) {go : Int} {t m : Nat} : jn_ac1 g go (t : Int) m = zz_ac d rl sl go t m := by
  unfold jn_ac1 zz_ac
  have e1 : jn_tr g (t : Int) = (((if t < d.1 then rl.getD t 0 else 0) : Nat) : Int) := by
    unfold jn_tr
    rw [hI.1.1]
    by_cases c : t < d.1
    · rw [if_pos (by omega), if_pos c, (hR t c).1]
    · rw [if_neg (by omega), if_neg c]; rfl
  have e2 : jn_ts g (t : Int) = (((if t < d.1 then sl.getD t 0 else 0) : Nat) : Int) := by
    unfold jn_ts
    rw [hI.1.1]
    by_cases c : t < d.1
    · rw [if_pos (by omega), if_pos c, (hR t c).2]
    · rw [if_neg (by omega), if_neg c]; rfl
  rw [e1, e2, zz_rrE hI hR]
  generalize (if t < d.1 then rl.getD t 0 else 0) = a
  generalize (if t < d.1 then sl.getD t 0 else 0) = b
  generalize zz_rr d rl (jn_lo m) = r
  by_cases c1 : m = 0
  · rw [if_pos c1, if_pos c1]
  · rw [if_neg c1, if_neg c1]
    by_cases c2 : 0 ≤ go ∧ (r = 0 ∨ a = 0)
    · rw [if_pos (by omega), if_pos c2]
    · rw [if_neg (by omega), if_neg c2]
      congr 1
      by_cases c3 : go < 0 ∨ a < r
      · rw [if_pos (by omega), if_pos c3]
      · rw [if_neg (by omega), if_neg c3]
        by_cases c4 : r < a
        · rw [if_pos (by omega), if_pos c4]
        · rw [if_neg (by omega), if_neg c4]
          by_cases c5 : b = 0
          · rw [if_pos (by omega), if_pos c5]
          · rw [if_neg (by omega), if_neg c5]
            by_cases c6 : b = 1
            · rw [if_pos (by omega), if_pos c6]
            · rw [if_neg (by omega), if_neg c6]
def zz_ap (d : zz_d) (wl al ol rl sl : List Nat) (q : zz_q) (LL : zz_ll) (fo : Bool) (s t c : Nat) : Int × Nat :=
  if (Nat.beq t d.1 && c.testBit (zz_n d * 5 + 1)) = true then (3000, zz_rm d wl al ol q LL fo s t c)
  else zz_ac d rl sl (if t = d.1 then -1 else zz_lm q.2.2.1 (s : Int) (t : Int)) t (zz_rm d wl al ol q LL fo s t c)
theorem zz_apE (h : zz_K g d e fl wl al ol q LL) (hR : zz_R g d.1 rl sl) (hk : zz_kk d = true) {fo : Bool} (hy : y = 0 ↔ fo = false) {s t : Nat} (hs : s < q.1) : kg_ap g y (s : Int) (t : Int) = zz_ap d wl al ol rl sl q LL fo s t (zz_clo al ol (zz_la q.2.1 (zz_k0 d) (s : Int))) := by
  unfold kg_ap
  rw [zz_KS h]
  have e1 : jn_AP g (zz_S (zz_k0 d) q) (kg_L g) (kg_fo g) y (s : Int) (t : Int) = jn_AP g (zz_S (zz_k0 d) q) (zz_L LL) (zz_fn wl) y (s : Int) (t : Int) := by
    refine kg_AP h.1.1 (fun x x0 x1 => ?_) (fun x x0 x1 => ?_)
    · have := zz_KL h hs (i := x.toNat) (by omega)
      rw [show ((x.toNat : Nat) : Int) = x by omega] at this
      rw [this]
      have e9 := zz_Lnn (LL := LL) (s := s) (i := x.toNat)
      rw [show ((x.toNat : Nat) : Int) = x by omega] at e9
      exact e9.symm
    · have := zz_Kw h (x := x.toNat) (by omega)
      rw [show ((x.toNat : Nat) : Int) = x by omega] at this
      exact this
  rw [e1]
  unfold jn_AP jn_acs zz_ap
  rw [zz_rmE h hk hy]
  obtain ⟨⟨hW, hI, hT, h0⟩, -⟩ := h
  have e2 : ((t : Int) = g 0 0 ∧ (jn_clo g ((zz_S (zz_k0 d) q).2.1 (s : Int))).testBit (g 0 2 * 5 + 1).toNat = true) ↔ (Nat.beq t d.1 && (zz_clo al ol (zz_la q.2.1 (zz_k0 d) (s : Int))).testBit (zz_n d * 5 + 1)) = true := by
    rw [Bool.and_eq_true, Nat.beq_eq, zz_cloE hT, hI.1.1, hI.1.2.2.1, show (((zz_n d : Nat) : Int) * 5 + 1).toNat = zz_n d * 5 + 1 by omega]
    constructor
    · rintro ⟨a, b⟩; exact ⟨by omega, b⟩
    · rintro ⟨a, b⟩; exact ⟨by omega, b⟩
  have e3 : jn_go g (zz_S (zz_k0 d) q) (s : Int) (t : Int) = (if t = d.1 then -1 else zz_lm q.2.2.1 (s : Int) (t : Int)) := by
    unfold jn_go
    rw [hI.1.1]
    by_cases c : t = d.1
    · rw [if_pos (by omega), if_pos c]
    · rw [if_neg (by omega), if_neg c]; rfl
  by_cases c : (Nat.beq t d.1 && (zz_clo al ol (zz_la q.2.1 (zz_k0 d) (s : Int))).testBit (zz_n d * 5 + 1)) = true
  · rw [if_pos (e2.mpr c), if_pos c]
  · rw [if_neg (fun z => c (e2.mp z)), if_neg c, e3, zz_acE hI hR]
/-- the table of ACTIONS, with the RULES left out -/
abbrev zz_t : Type := List (List (Nat × Nat))
def zz_tab (d : zz_d) (wl al ol rl sl : List Nat) (q : zz_q) (LL : zz_ll) (fo : Bool) : zz_t :=
  (List.range q.1).map (fun s => (List.range (d.1 + 1)).map (fun t => ((zz_ap d wl al ol rl sl q LL fo s t (zz_clo al ol (zz_la q.2.1 (zz_k0 d) (s : Int)))).1.toNat, (zz_ap d wl al ol rl sl q LL fo s t (zz_clo al ol (zz_la q.2.1 (zz_k0 d) (s : Int)))).2)))
def zz_tg (T : zz_t) (s t : Nat) : Nat × Nat := (T.getD s []).getD t (0, 0)
theorem zz_ac_nn {go : Int} {t m : Nat} (hg : -1 ≤ go) : 0 ≤ (zz_ac d rl sl go t m).1 := by
  unfold zz_ac
  generalize (if t < d.1 then rl.getD t 0 else 0) = a
  generalize (if t < d.1 then sl.getD t 0 else 0) = b
  by_cases c1 : m = 0
  · rw [if_pos c1]; dsimp only; split <;> omega
  · rw [if_neg c1]
    split
    · dsimp only; omega
    · dsimp only
      split
      · omega
      · rename_i c3
        split
        · omega
        · split
          · omega
          · split <;> omega
theorem zz_lm_ge {a b : Int} : ∀ {l : List (Nat × Nat × Nat)}, -1 ≤ zz_lm l a b
  | [] => Int.le_refl _
  | p :: r => by
    unfold zz_lm
    split
    · omega
    · exact zz_lm_ge
theorem zz_tabE (h : zz_K g d e fl wl al ol q LL) (hR : zz_R g d.1 rl sl) (hk : zz_kk d = true) {fo : Bool} (hy : y = 0 ↔ fo = false) {s t : Nat} (hs : s < q.1) (ht : t ≤ d.1) : kg_ap g y (s : Int) (t : Int) = (((zz_tg (zz_tab d wl al ol rl sl q LL fo) s t).1 : Int), (zz_tg (zz_tab d wl al ol rl sl q LL fo) s t).2) := by
  have e1 : zz_tg (zz_tab d wl al ol rl sl q LL fo) s t = ((zz_ap d wl al ol rl sl q LL fo s t (zz_clo al ol (zz_la q.2.1 (zz_k0 d) (s : Int)))).1.toNat, (zz_ap d wl al ol rl sl q LL fo s t (zz_clo al ol (zz_la q.2.1 (zz_k0 d) (s : Int)))).2) := by
    unfold zz_tg zz_tab
    rw [List.getD_eq_getElem?_getD (i := s), List.getElem?_map, List.getElem?_range hs]
    show ((List.range (d.1 + 1)).map _).getD t (0, 0) = _
    rw [List.getD_eq_getElem?_getD, List.getElem?_map, List.getElem?_range (by omega)]
    rfl
  rw [e1, zz_apE h hR hk hy hs]
  have nn : 0 ≤ (zz_ap d wl al ol rl sl q LL fo s t (zz_clo al ol (zz_la q.2.1 (zz_k0 d) (s : Int)))).1 := by
    unfold zz_ap
    split
    · exact (by decide : (0 : Int) ≤ 3000)
    · refine zz_ac_nn ?_
      split
      · exact Int.le_refl _
      · exact zz_lm_ge
  refine Prod.ext ?_ rfl
  show _ = (((zz_ap d wl al ol rl sl q LL fo s t (zz_clo al ol (zz_la q.2.1 (zz_k0 d) (s : Int)))).1.toNat : Nat) : Int)
  omega
end ZZD
