/-! READING with tables that are given as data: the states that are READ as a row of numbers, the last first -/
def zt_ok (f : Int → Int) : List Nat → Prop
  | [] => True
  | s :: r => f (r.length : Int) = (s : Int) ∧ zt_ok f r
def zt_K (K : kr_K) (st : List Nat) : Prop := K.1 = st.length ∧ zt_ok K.2 st
def zt_tk (d : zz_d) (q : zz_q) (T : zz_t) (t : Nat) : Nat → Nat → List Nat → Option (Option (Bool × Nat × List Nat))
  | 0, _, _ => some none
  | _ + 1, _, [] => none
  | f + 1, n, s :: r =>
    if q.1 ≤ s then none
    else if (zz_tg T s t).1 = 3000 then some (some (true, n, s :: r))
    else if (zz_tg T s t).1 < 1000 then some none
    else if (zz_tg T s t).1 < 2000 then (if r.length + 1 < 40 then some (some (false, n, ((zz_tg T s t).1 - 1000) :: s :: r)) else some none)
    else if zz_n d ≤ (zz_tg T s t).1 - 2000 then none
    else if r.length + 1 - (zz_r d ((zz_tg T s t).1 - 2000)).2.length < 40 then
      (match (s :: r).drop (zz_r d ((zz_tg T s t).1 - 2000)).2.length with
      | [] => none
      | u :: w => if 0 ≤ zz_lm q.2.2.1 (u : Int) ((10 + (zz_r d ((zz_tg T s t).1 - 2000)).1 : Nat) : Int) then zt_tk d q T t f (n + 1) ((zz_lm q.2.2.1 (u : Int) ((10 + (zz_r d ((zz_tg T s t).1 - 2000)).1 : Nat) : Int)).toNat :: u :: w) else none)
    else some none
/-- the tables are the grammar's -/
def zt_H (g : gM) (d : zz_d) (q : zz_q) (T : zz_t) : Prop := (∀ s t : Nat, s < q.1 → t ≤ d.1 → kr_ac g (s : Int) (t : Int) = ((zz_tg T s t).1 : Nat)) ∧ kg_S g = zz_S (zz_k0 d) q ∧ zz_I g d ∧ ¬ g 0 1 = 0
section ZTA
variable {g : gM} {d : zz_d} {q : zz_q} {T : zz_t} {t : Nat} {K : kr_K} {st : List Nat} {f : Int → Int}
theorem zt_ok_drop : ∀ {st : List Nat} {n : Nat}, zt_ok f st → zt_ok f (st.drop n)
  | st, 0, h => h
  | [], n + 1, _ => trivial
  | s :: r, n + 1, h => zt_ok_drop (st := r) (n := n) h.2
theorem zt_ok_u {n : Nat} {v : Int} : ∀ {st : List Nat}, st.length ≤ n → zt_ok f st → zt_ok (jn_u1 f (n : Int) v) st
  | [], _, _ => trivial
  | s :: r, hl, h => by
    have hl : r.length + 1 ≤ n := hl
    refine ⟨?_, zt_ok_u (by omega) h.2⟩
    unfold jn_u1
    rw [if_neg (by omega)]
    exact h.1
theorem zt_push {v : Nat} (h : zt_ok f st) : zt_K (kr_ps st.length f (v : Int)) (v :: st) := by
  refine ⟨rfl, ?_, zt_ok_u (Nat.le_refl _) h⟩
  show jn_u1 f ((st.length : Nat) : Int) (v : Int) ((st.length : Nat) : Int) = (v : Int)
  unfold jn_u1
  rw [if_pos rfl]
theorem zt_tkE (hH : zt_H g d q T) (ht : t ≤ d.1) : ∀ (f n : Nat) (K : kr_K) (st : List Nat), zt_K K st → ∀ o, zt_tk d q T t f n st = some o →
    (o = none → kr_tk g (t : Int) f n K = none) ∧ ∀ b m st', o = some (b, m, st') → ∃ K', kr_tk g (t : Int) f n K = some (b, m, K') ∧ zt_K K' st'
  | 0, n, K, st, hK, o, h => by
    unfold zt_tk at h
    cases h
    exact ⟨fun _ => rfl, fun b m st' h => by cases h⟩
  | f + 1, n, K, [], hK, o, h => by
    unfold zt_tk at h
    cases h
  | f + 1, n, K, s :: r, hK, o, h => by
    obtain ⟨h1, h2, h3⟩ := hK
    have h1 : K.1 = r.length + 1 := h1
    unfold zt_tk at h
    by_cases c0 : q.1 ≤ s
    · rw [if_pos c0] at h; cases h
    rw [if_neg c0] at h
    have etop : K.2 ((K.1 : Int) - 1) = (s : Int) := by
      rw [show ((K.1 : Int) - 1) = (r.length : Int) by omega]
      exact h2
    have eac := hH.1 s t (by omega) ht
    rw [← etop] at eac
    unfold kr_tk
    generalize hav : kr_ac g (K.2 ((K.1 : Int) - 1)) (t : Int) = av at eac ⊢
    generalize hA : (zz_tg T s t).1 = A at h eac
    by_cases c1 : A = 3000
    · rw [if_pos c1] at h
      cases h
      rw [if_pos (show av = 3000 by omega)]
      refine ⟨fun h => by (cases h), fun b m st' h => ?_⟩
      cases h
      exact ⟨K, rfl, h1, h2, h3⟩
    rw [if_neg c1] at h
    rw [if_neg (show ¬ av = 3000 by omega)]
    by_cases c2 : A < 1000
    · rw [if_pos c2] at h
      cases h
      rw [if_pos (show av < 1000 by omega)]
      exact ⟨fun _ => rfl, fun b m st' h => by cases h⟩
    rw [if_neg c2] at h
    rw [if_neg (show ¬ av < 1000 by omega)]
    by_cases c3 : A < 2000
    · rw [if_pos c3] at h
      rw [if_pos (show av < 2000 by omega)]
      by_cases c4 : r.length + 1 < 40
      · rw [if_pos c4] at h
        cases h
        rw [if_pos (show K.1 < 40 by omega)]
        refine ⟨fun h => by (cases h), fun b m st' h => ?_⟩
        cases h
        refine ⟨_, rfl, ?_⟩
        have := zt_push (f := K.2) (st := s :: r) (v := A - 1000) ⟨h2, h3⟩
        rw [show K.1 = (s :: r).length from h1, show av - 1000 = ((A - 1000 : Nat) : Int) by omega]
        exact this
      · rw [if_neg c4] at h
        cases h
        rw [if_neg (show ¬ K.1 < 40 by omega)]
        exact ⟨fun _ => rfl, fun b m st' h => by cases h⟩
    rw [if_neg c3] at h
    rw [if_neg (show ¬ av < 2000 by omega)]
    by_cases c5 : zz_n d ≤ A - 2000
    · rw [if_pos c5] at h; cases h
    rw [if_neg c5] at h
    obtain ⟨g3, g4, -⟩ := hH.2.2.1.2 (A - 2000) (by omega)
    rw [show av - 2000 = ((A - 2000 : Nat) : Int) by omega, g3, g4, Int.toNat_natCast]
    generalize hL : (zz_r d (A - 2000)).2.length = l at h ⊢
    generalize (zz_r d (A - 2000)).1 = kd at h ⊢
    by_cases c6 : r.length + 1 - l < 40
    · rw [if_pos c6] at h
      rw [if_pos (show K.1 - l < 40 by omega)]
      have hd := zt_ok_drop (f := K.2) (st := s :: r) (n := l) ⟨h2, h3⟩
      have hdl : ((s :: r).drop l).length = r.length + 1 - l := by rw [List.length_drop]; rfl
      split at h
      · cases h
      · rename_i u w hw
        rw [hw] at hd hdl
        have hdl : w.length + 1 = r.length + 1 - l := hdl
        have emv : K.2 (((K.1 - l : Nat) : Int) - 1) = (u : Int) := by
          rw [show (((K.1 - l : Nat) : Int) - 1) = (w.length : Int) by omega]
          exact hd.1
        rw [emv]
        by_cases c7 : 0 ≤ zz_lm q.2.2.1 (u : Int) ((10 + kd : Nat) : Int)
        · rw [if_pos c7] at h
          have e8 : kr_mv g (u : Int) (10 + ((kd : Nat) : Int)) = (((zz_lm q.2.2.1 (u : Int) ((10 + kd : Nat) : Int)).toNat : Nat) : Int) := by
            unfold kr_mv
            rw [hH.2.1, show (10 + ((kd : Nat) : Int)) = ((10 + kd : Nat) : Int) by omega]
            show zz_lm q.2.2.1 (u : Int) ((10 + kd : Nat) : Int) = _
            omega
          rw [e8]
          have hp := zt_push (f := K.2) (st := u :: w) (v := (zz_lm q.2.2.1 (u : Int) ((10 + kd : Nat) : Int)).toNat) hd
          rw [show K.1 - l = (u :: w).length by show K.1 - l = w.length + 1; omega]
          exact zt_tkE hH ht f (n + 1) _ _ hp o h
        · rw [if_neg c7] at h; cases h
    · rw [if_neg c6] at h
      cases h
      rw [if_neg (show ¬ K.1 - l < 40 by omega)]
      exact ⟨fun _ => rfl, fun b m st' h => by cases h⟩
def zt_take (d : zz_d) (q : zz_q) (T : zz_t) (t : Nat) (st : List Nat) : Option (Option (Bool × Nat × List Nat)) := zt_tk d q T t 61 0 st
theorem zt_none (hH : zt_H g d q T) (ht : t ≤ d.1) (hK : zt_K K st) (h : zt_take d q T t st = some none) : kr_take g (t : Int) K = none := (zt_tkE hH ht 61 0 K st hK _ h).1 rfl
theorem zt_some (hH : zt_H g d q T) (ht : t ≤ d.1) (hK : zt_K K st) {b : Bool} {m : Nat} {st' : List Nat} (h : zt_take d q T t st = some (some (b, m, st'))) : ∃ K', kr_take g (t : Int) K = some (b, m, K') ∧ zt_K K' st' := (zt_tkE hH ht 61 0 K st hK _ h).2 b m st' rfl
theorem zt_T (hH : zt_H g d q T) {x : Int} : kr_T g x K = kr_take g x K := by
  unfold kr_T
  rw [if_neg hH.2.2.2]
theorem zt_I (hH : zt_H g d q T) : zt_K (kr_I g) [0] := by
  unfold kr_I
  rw [if_neg hH.2.2.2]
  exact ⟨rfl, rfl, trivial⟩
/-- is it the end -/
def zt_en (d : zz_d) (q : zz_q) (T : zz_t) (t : Nat) (st : List Nat) : Option Bool := (zt_take d q T t st).map Option.isSome
theorem zt_enE (hH : zt_H g d q T) (ht : t ≤ d.1) (hK : zt_K K st) {b : Bool} (h : zt_en d q T t st = some b) : (kr_take g (t : Int) K).isSome = b := by
  unfold zt_en at h
  cases e : zt_take d q T t st with
  | none => rw [e] at h; cases h
  | some o =>
    rw [e] at h
    cases o with
    | none =>
      cases h
      rw [zt_none hH ht hK e]
      rfl
    | some r =>
      obtain ⟨b', m, st'⟩ := r
      cases h
      obtain ⟨K', h1, -⟩ := zt_some hH ht hK e
      rw [h1]
      rfl
def zt_sum (f : Nat → Option Nat) : Nat → Option Nat
  | 0 => some 0
  | n + 1 => match zt_sum f n, f n with
    | some a, some b => some (a + b)
    | _, _ => none
theorem zt_sumE {f : Nat → Option Nat} {F : Nat → Nat} : ∀ {n c : Nat}, (∀ i c, i < n → f i = some c → F i = c) → zt_sum f n = some c → jn_sum F n = c
  | 0, c, _, h => by cases h; rfl
  | n + 1, c, hf, h => by
    unfold zt_sum at h
    split at h
    · rename_i a b h1 h2
      cases h
      unfold jn_sum
      rw [zt_sumE (fun i c hi => hf i c (by omega)) h1, hf n b (by omega) h2]
    · cases h
/-- how many rows are sentences -/
def zt_cn (d : zz_d) (q : zz_q) (T : zz_t) : Nat → List Nat → Option Nat
  | 0, st => (zt_en d q T d.1 st).map (fun b => if b = true then 1 else 0)
  | n + 1, st => zt_sum (fun t => match zt_take d q T t st with
    | none => none
    | some none => some 0
    | some (some r) => zt_cn d q T n r.2.2) d.1
theorem zt_cnE (hH : zt_H g d q T) : ∀ (n : Nat) (K : kr_K) (st : List Nat) (c : Nat), zt_K K st → zt_cn d q T n st = some c → kr_cn g n K = c
  | 0, K, st, c, hK, h => by
    unfold zt_cn at h
    unfold kr_cn kr_en
    rw [zt_T hH, hH.2.2.1.1.1]
    cases e : zt_en d q T d.1 st with
    | none => rw [e] at h; cases h
    | some b =>
      rw [e] at h
      cases h
      rw [zt_enE hH (Nat.le_refl _) hK e]
  | n + 1, K, st, c, hK, h => by
    unfold zt_cn at h
    unfold kr_cn
    rw [hH.2.2.1.1.1, Int.toNat_natCast]
    refine zt_sumE (fun t c ht h => ?_) h
    unfold kr_nx
    rw [zt_T hH]
    split at h
    · cases h
    · rename_i e
      cases h
      rw [zt_none hH (by omega) hK e]
      rfl
    · rename_i r e
      obtain ⟨b, m, st'⟩ := r
      obtain ⟨K', h1, h2⟩ := zt_some hH (by omega) hK e
      rw [h1]
      exact zt_cnE hH n K' st' c h2 h
/-- the game -/
def zt_ff (p : Nat → Option Bool) : Nat → Nat → Option Int
  | 0, _ => some (-2)
  | m + 1, i => match p i with
    | none => none
    | some true => some (i : Int)
    | some false => zt_ff p m (i + 1)
theorem zt_ffE {p : Nat → Option Bool} {P : Nat → Bool} : ∀ {m i n : Nat} {z : Int}, i + m ≤ n → (∀ j b, j < n → p j = some b → P j = b) → zt_ff p m i = some z → kr_ff P m i = z
  | 0, _, _, _, _, _, h => by cases h; rfl
  | m + 1, i, n, z, hn, hp, h => by
    unfold zt_ff at h
    unfold kr_ff
    split at h
    · cases h
    · rename_i e
      cases h
      rw [hp i true (by omega) e, if_pos rfl]
    · rename_i e
      rw [hp i false (by omega) e, if_neg (by decide)]
      exact zt_ffE (n := n) (by omega) hp h
def zt_wn (d : zz_d) (q : zz_q) (T : zz_t) : Nat → List Nat → Option Int
  | 0, _ => some (-2)
  | n + 1, st => zt_ff (fun t => match zt_take d q T t st with
    | none => none
    | some none => some false
    | some (some r) => (zt_wn d q T n r.2.2).map (fun z => decide (z < 0))) d.1 0
theorem zt_wnE (hH : zt_H g d q T) : ∀ (n : Nat) (K : kr_K) (st : List Nat) (z : Int), zt_K K st → zt_wn d q T n st = some z → kr_wn g n K = z
  | 0, K, st, z, hK, h => by
    unfold zt_wn at h
    cases h
    rfl
  | n + 1, K, st, z, hK, h => by
    unfold zt_wn at h
    unfold kr_wn
    rw [hH.2.2.1.1.1, Int.toNat_natCast]
    refine zt_ffE (n := d.1) (by omega) (fun t b ht h => ?_) h
    unfold kr_nx
    rw [zt_T hH]
    split at h
    · cases h
    · rename_i e
      cases h
      rw [zt_none hH (by omega) hK e]
      rfl
    · rename_i r e
      obtain ⟨b', m, st'⟩ := r
      obtain ⟨K', h1, h2⟩ := zt_some hH (by omega) hK e
      rw [h1]
      dsimp only at h
      cases e2 : zt_wn d q T n st' with
      | none => rw [e2] at h; cases h
      | some z' =>
        rw [e2] at h
        cases h
        show decide (kr_wn g n K' < 0) = _
        rw [zt_wnE hH n K' st' z' h2 e2]
/-- rows of TOKENS -/
def zt_rn (d : zz_d) (q : zz_q) (T : zz_t) (gv : Nat → Nat) : Nat → List Nat → Option (Option (List Nat))
  | 0, st => some (some st)
  | n + 1, st => match zt_rn d q T gv n st with
    | none => none
    | some none => some none
    | some (some st') => if d.1 < gv n then none else (zt_take d q T (gv n) st').map (Option.map (fun r => r.2.2))
theorem zt_rnE (hH : zt_H g d q T) {gv : Nat → Nat} (hK : zt_K K st) : ∀ (n : Nat) (o : Option (List Nat)), zt_rn d q T gv n st = some o → (o = none → kr_rn g (fun k => ((gv k : Nat) : Int)) n K = none) ∧ ∀ st', o = some st' → ∃ K', kr_rn g (fun k => ((gv k : Nat) : Int)) n K = some K' ∧ zt_K K' st'
  | 0, o, h => by
    unfold zt_rn at h
    cases h
    exact ⟨fun h => by (cases h), fun st' h => by cases h; exact ⟨K, rfl, hK⟩⟩
  | n + 1, o, h => by
    unfold zt_rn at h
    unfold kr_rn
    split at h
    · cases h
    · rename_i e
      cases h
      rw [(zt_rnE hH hK n _ e).1 rfl]
      exact ⟨fun _ => rfl, fun st' h => by cases h⟩
    · rename_i st1 e
      obtain ⟨K1, h1, h2⟩ := (zt_rnE hH hK n _ e).2 st1 rfl
      rw [h1]
      show (o = none → kr_nx g ((gv n : Nat) : Int) K1 = none) ∧ ∀ st', o = some st' → ∃ K', kr_nx g ((gv n : Nat) : Int) K1 = some K' ∧ zt_K K' st'
      unfold kr_nx
      rw [zt_T hH]
      by_cases c : d.1 < gv n
      · rw [if_pos c] at h; cases h
      · rw [if_neg c] at h
        cases e2 : zt_take d q T (gv n) st1 with
        | none => rw [e2] at h; cases h
        | some o2 =>
          rw [e2] at h
          cases o2 with
          | none =>
            cases h
            rw [zt_none hH (by omega) h2 e2]
            exact ⟨fun _ => rfl, fun st' h => by cases h⟩
          | some r =>
            obtain ⟨b, m, st2⟩ := r
            cases h
            obtain ⟨K2, h3, h4⟩ := zt_some hH (by omega) h2 e2
            rw [h3]
            exact ⟨fun h => by (cases h), fun st' h => by cases h; exact ⟨K2, rfl, h4⟩⟩
def zt_se (d : zz_d) (q : zz_q) (T : zz_t) (gv : Nat → Nat) (n : Nat) : Option Bool := match zt_rn d q T gv n [0] with
  | none => none
  | some none => some false
  | some (some st) => zt_en d q T d.1 st
theorem zt_seE (hH : zt_H g d q T) {gv : Nat → Nat} {n : Nat} {b : Bool} (h : zt_se d q T gv n = some b) : kr_se g (fun k => ((gv k : Nat) : Int)) n = b := by
  unfold zt_se at h
  unfold kr_se kr_sK
  split at h
  · cases h
  · rename_i e
    cases h
    rw [(zt_rnE hH (zt_I hH) n _ e).1 rfl]
  · rename_i st e
    obtain ⟨K1, h1, h2⟩ := (zt_rnE hH (zt_I hH) n _ e).2 st rfl
    rw [h1]
    show kr_en g K1 = b
    unfold kr_en
    rw [zt_T hH, hH.2.2.1.1.1]
    exact zt_enE hH (Nat.le_refl _) h2 h
/-- what may come next -/
def zt_ex (d : zz_d) (q : zz_q) (T : zz_t) (st : List Nat) : Nat → Option Nat
  | 0 => some 0
  | n + 1 => match zt_ex d q T st n, zt_en d q T n st with
    | some a, some b => some (a ||| (if b = true then 2 ^ n else 0))
    | _, _ => none
theorem zt_exE (hH : zt_H g d q T) (hK : zt_K K st) : ∀ (n c : Nat), n ≤ d.1 → zt_ex d q T st n = some c → kv_ex g K n = c
  | 0, c, _, h => by
    unfold zt_ex at h
    cases h
    rfl
  | n + 1, c, hn, h => by
    unfold zt_ex at h
    split at h
    · rename_i a b e1 e2
      cases h
      unfold kv_ex
      rw [zt_exE hH hK n a (by omega) e1, zt_T hH, zt_enE hH (by omega) hK e2]
    · cases h
end ZTA
