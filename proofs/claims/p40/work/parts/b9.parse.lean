/-! TEXTS told: the reading of LINES, computed -/
theorem zp_ite {α : Sort _} {P : Prop} {c : Bool} (h : P ↔ c = true) (a b : α) : @ite α P (Classical.propDecidable P) a b = if c = true then a else b := by
  by_cases q : P
  · rw [if_pos q, if_pos (h.mp q)]
  · rw [if_neg q, if_neg (fun z => q (h.mpr z))]
def zp_fs (g : gM) (c : Int) : Nat → Int → Int
  | 0, _ => -1
  | f + 1, s => if (decide ((0 ≤ s ∧ s < g 0 0) ∨ (10 ≤ s ∧ s < 10 + g 0 1)) && decide (g 6 s = c)) = true then s else zp_fs g c f (s + 1)
theorem zp_fsE {g : gM} {c : Int} : ∀ {f : Nat} {s : Int}, kt_fs g c f s = zp_fs g c f s
  | 0, _ => rfl
  | f + 1, s => by
    unfold kt_fs zp_fs
    rw [zp_fsE]
    exact zp_ite (by unfold jn_isS; rw [Bool.and_eq_true, decide_eq_true_iff, decide_eq_true_iff]) _ _
def zp_nm (t : kt_T) : Bool := decide (t.1 = 0) && decide (kt_key t.2.2.2 < 0)
theorem zp_nmP {t : kt_T} : kt_nm t ↔ zp_nm t = true := by
  unfold kt_nm zp_nm
  rw [Bool.and_eq_true, decide_eq_true_iff, decide_eq_true_iff]
def zp_sm (g : gM) (i : Nat) : Bool := decide (g 3 (i : Int) = g 3 (g 0 2)) && (decide (g 4 (i : Int) = g 4 (g 0 2)) && (List.range (g 4 (g 0 2)).toNat).all (fun d => decide (g 5 ((i : Int) * 4 + (d : Int)) = g 5 (g 0 2 * 4 + (d : Int)))))
def zp_dp (g : gM) : Bool := (List.range (g 0 2).toNat).any (zp_sm g)
theorem zp_dpP {g : gM} : kt_dp g ↔ zp_dp g = true := by
  unfold kt_dp zp_dp
  rw [List.any_eq_true]
  constructor
  · rintro ⟨i, i0, i1, a, b, c⟩
    refine ⟨i.toNat, List.mem_range.mpr (by omega), ?_⟩
    unfold zp_sm
    rw [Bool.and_eq_true, Bool.and_eq_true, decide_eq_true_iff, decide_eq_true_iff, List.all_eq_true, show ((i.toNat : Nat) : Int) = i by omega]
    exact ⟨a, b, fun d hd => decide_eq_true (c d (by omega) (by have := List.mem_range.mp hd; omega))⟩
  · rintro ⟨i, hi, h⟩
    have hi := List.mem_range.mp hi
    unfold zp_sm at h
    rw [Bool.and_eq_true, Bool.and_eq_true, decide_eq_true_iff, decide_eq_true_iff, List.all_eq_true] at h
    refine ⟨(i : Int), by omega, by omega, h.1, h.2.1, fun d d0 d1 => ?_⟩
    have := of_decide_eq_true (h.2.2 d.toNat (List.mem_range.mpr (by omega)))
    rw [show ((d.toNat : Nat) : Int) = d by omega] at this
    exact this
def zp_end (B : Nat → Int) (n : Nat) (g : gM) (p : Nat) : kt_R := if (kt_tk B n p).1 = 2 then .inr (g, (kt_tk B n p).2.2.1) else .inl (1, ((kt_tk B n p).2.1 : Nat))
def zp_nmL (B : Nat → Int) (n : Nat) (tok : Bool) (g : gM) (k p : Nat) : kt_R :=
  if (if tok = true then 7 ≤ g 0 0 else 5 ≤ g 0 1) then .inl (2, (k : Nat))
  else if zp_nm (kt_tk B n p) = true then
    (if 0 ≤ zp_fs g (kt_tk B n p).2.2.2 15 0 then .inl (3, ((kt_tk B n p).2.1 : Nat)) else zp_end B n (if tok = true then kt_aT g (kt_tk B n p).2.2.2 else kt_aK g (kt_tk B n p).2.2.2) (kt_tk B n p).2.2.1)
    else (.inl (1, ((kt_tk B n p).2.1 : Nat)))
def zp_sy (B : Nat → Int) (n : Nat) : Nat → gM → Nat → kt_R
  | 0, _, p => .inl (2, ((kt_tk B n p).2.1 : Nat))
  | f + 1, g, p =>
    if (kt_tk B n p).1 = 2 then (if zp_dp g = true then (.inl (5, ((kt_tk B n p).2.1 : Nat))) else (.inr (kt_up g 0 2 (g 0 2 + 1), (kt_tk B n p).2.2.1)))
    else if zp_nm (kt_tk B n p) = true then
      (if 4 ≤ g 4 (g 0 2) then .inl (2, ((kt_tk B n p).2.1 : Nat))
       else if zp_fs g (kt_tk B n p).2.2.2 15 0 < 0 then .inl (4, ((kt_tk B n p).2.1 : Nat))
       else zp_sy B n f (kt_aS g (zp_fs g (kt_tk B n p).2.2.2 15 0)) (kt_tk B n p).2.2.1)
      else (.inl (1, ((kt_tk B n p).2.1 : Nat)))
def zp_ruL (B : Nat → Int) (n : Nat) (g : gM) (k p : Nat) : kt_R :=
  if 12 ≤ g 0 2 then .inl (2, (k : Nat))
  else if zp_nm (kt_tk B n p) = true then
    (if zp_fs g (kt_tk B n p).2.2.2 15 0 < 10 then .inl (4, ((kt_tk B n p).2.1 : Nat)) else zp_sy B n 5 (kt_aB g (zp_fs g (kt_tk B n p).2.2.2 15 0 - 10)) (kt_tk B n p).2.2.1)
    else (.inl (1, ((kt_tk B n p).2.1 : Nat)))
def zp_no (B : Nat → Int) (n : Nat) (lo hi : Int) (p : Nat) (k : Int → Nat → kt_R) : kt_R :=
  if (kt_tk B n p).1 = 1 then (if lo ≤ (kt_tk B n p).2.2.2 ∧ (kt_tk B n p).2.2.2 ≤ hi then k (kt_tk B n p).2.2.2 (kt_tk B n p).2.2.1 else .inl (2, ((kt_tk B n p).2.1 : Nat)))
  else .inl (1, ((kt_tk B n p).2.1 : Nat))
def zp_raL (B : Nat → Int) (n : Nat) (g : gM) (p : Nat) : kt_R :=
  if zp_nm (kt_tk B n p) = true then
    (if 0 ≤ zp_fs g (kt_tk B n p).2.2.2 15 0 ∧ zp_fs g (kt_tk B n p).2.2.2 15 0 < g 0 0 then
      (if g 1 (zp_fs g (kt_tk B n p).2.2.2 15 0) = 0 then zp_no B n 1 9 (kt_tk B n p).2.2.1 (fun v q => zp_no B n 0 2 q (fun v2 q2 => zp_end B n (kt_up (kt_up g 1 (zp_fs g (kt_tk B n p).2.2.2 15 0) v) 2 (zp_fs g (kt_tk B n p).2.2.2 15 0) v2) q2))
       else .inl (3, ((kt_tk B n p).2.1 : Nat)))
     else .inl (4, ((kt_tk B n p).2.1 : Nat)))
    else (.inl (1, ((kt_tk B n p).2.1 : Nat)))
def zp_li (B : Nat → Int) (n : Nat) (g : gM) (p : Nat) : kt_R :=
  if (kt_tk B n p).1 = 0 then
    (if kt_key (kt_tk B n p).2.2.2 = 0 then zp_nmL B n true g (kt_tk B n p).2.1 (kt_tk B n p).2.2.1
     else if kt_key (kt_tk B n p).2.2.2 = 1 then zp_nmL B n false g (kt_tk B n p).2.1 (kt_tk B n p).2.2.1
     else if kt_key (kt_tk B n p).2.2.2 = 2 then zp_ruL B n g (kt_tk B n p).2.1 (kt_tk B n p).2.2.1
     else if kt_key (kt_tk B n p).2.2.2 = 3 then zp_raL B n g (kt_tk B n p).2.2.1
     else .inl (1, ((kt_tk B n p).2.1 : Nat)))
  else .inl (1, ((kt_tk B n p).2.1 : Nat))
def zp_tx (B : Nat → Int) (n : Nat) : Nat → Int → gM → Nat → (Int × Int) ⊕ (gM × Int)
  | 0, _, _, _ => .inl (0, 0)
  | f + 1, l, g, p => if (kt_tk B n p).1 = 3 then .inr (g, l) else match zp_li B n g p with
    | .inl e => .inl e
    | .inr (g', p') => zp_tx B n f (l + 1) g' p'
section ZPA
variable {B : Nat → Int} {n : Nat} {g : gM} {k p : Nat}
theorem zp_endE : kt_end B n g p = zp_end B n g p := rfl
theorem zp_fdE {c : Int} : kt_fd g c = zp_fs g c 15 0 := zp_fsE
theorem zp_nmLE {tok : Bool} : kt_nmL B n tok g k p = zp_nmL B n tok g k p := by
  unfold kt_nmL zp_nmL
  rw [zp_ite zp_nmP, zp_fdE]
  rfl
theorem zp_syE : ∀ {f : Nat} {g : gM} {p : Nat}, kt_sy B n f g p = zp_sy B n f g p
  | 0, _, _ => rfl
  | f + 1, g, p => by
    unfold kt_sy zp_sy
    rw [zp_ite zp_nmP, zp_ite zp_dpP, zp_fdE, zp_syE]
theorem zp_ruLE : kt_ruL B n g k p = zp_ruL B n g k p := by
  unfold kt_ruL zp_ruL
  rw [zp_ite zp_nmP, zp_fdE, zp_syE]
theorem zp_raLE : kt_raL B n g p = zp_raL B n g p := by
  unfold kt_raL zp_raL
  rw [zp_ite zp_nmP, zp_fdE]
  rfl
theorem zp_liE : kt_li B n g p = zp_li B n g p := by
  unfold kt_li zp_li
  rw [zp_nmLE, zp_nmLE, zp_ruLE, zp_raLE]
theorem zp_txE : ∀ {f : Nat} {l : Int} {g : gM} {p : Nat}, kt_tx B n f l g p = zp_tx B n f l g p
  | 0, _, _, _ => rfl
  | f + 1, l, g, p => by
    unfold kt_tx zp_tx
    rw [zp_liE]
    cases hl : zp_li B n g p with
    | inl e => rfl
    | inr r =>
      obtain ⟨g', p'⟩ := r
      dsimp only
      rw [zp_txE]
end ZPA
theorem kt_tx_ok {B : Nat → Int} {n : Nat} : ∀ {f : Nat} {l : Int} {g : gM} {p : Nat} {g' : gM} {l' : Int}, kt_ok g → p ≤ n → kt_tx B n f l g p = .inr (g', l') → kt_ok g'
  | 0, _, _, _, _, _, _, _, h => by cases h
  | f + 1, l, g, p, g', l', hok, hp, h => by
    unfold kt_tx at h
    split at h
    · cases h; exact hok
    · split at h
      · cases h
      · rename_i g2 p2 h2
        have q := kt_li_ok hok hp h2
        exact kt_tx_ok q.1 q.2.2 h
/-- is the grammar what the data say -/
def zp_I (g : gM) (d : zz_d) : Bool := decide (g 0 0 = (d.1 : Nat)) && (decide (g 0 1 = (d.2.1 : Nat)) && (decide (g 0 2 = (zz_n d : Nat)) && (decide (g 0 3 = 0) && (decide (g 0 4 = d.2.2.2) &&
  (List.range (zz_n d)).all (fun r => decide (g 3 (r : Int) = ((zz_r d r).1 : Nat)) && (decide (g 4 (r : Int) = ((zz_r d r).2.length : Nat)) && (List.range (zz_r d r).2.length).all (fun k => decide (g 5 ((r : Int) * 4 + (k : Int)) = (((zz_r d r).2.getD k 0 : Nat) : Int)))))))))
def zp_R (g : gM) (nt : Nat) (rl sl : List Nat) : Bool := (List.range nt).all (fun t => decide (g 1 (t : Int) = ((rl.getD t 0 : Nat) : Int)) && decide (g 2 (t : Int) = ((sl.getD t 0 : Nat) : Int)))
theorem zp_IE {g : gM} {d : zz_d} (h : zp_I g d = true) : zz_I g d := by
  unfold zp_I at h
  simp only [Bool.and_eq_true, decide_eq_true_iff, List.all_eq_true, List.mem_range] at h
  obtain ⟨h1, h2, h3, h4, h5, h6⟩ := h
  exact ⟨⟨h1, h2, h3, h4, h5⟩, fun r hr => h6 r hr⟩
theorem zp_RE {g : gM} {nt : Nat} {rl sl : List Nat} (h : zp_R g nt rl sl = true) : zz_R g nt rl sl := by
  unfold zp_R at h
  simp only [Bool.and_eq_true, decide_eq_true_iff, List.all_eq_true, List.mem_range] at h
  exact fun t ht => h t ht
/-- a text of these bytes (one number, eight bits each), fed in twenties, nothing behind it -/
def zp_b (N j : Nat) : Nat := (N >>> (8 * j)) % 256
def zp_B (N m : Nat) : Nat → Int := fun j => if j < m then ((zp_b N j : Nat) : Int) else 0
def zp_ck (N n m : Nat) (d : zz_d) (rl sl : List Nat) (z : Int) : Bool := match zp_tx (zp_B N m) n 701 0 kt_g0 0 with
  | .inr (g, z') => decide (z' = z) && (zp_I g d && zp_R g d.1 rl sl)
  | .inl _ => false
theorem zp_ckE {N n m : Nat} {d : zz_d} {rl sl : List Nat} {z : Int} (h : zp_ck N n m d rl sl z = true) : ∃ g, kt_tx (zp_B N m) n 701 0 kt_g0 0 = .inr (g, z) ∧ zz_I g d ∧ zz_R g d.1 rl sl ∧ kt_ok g := by
  unfold zp_ck at h
  split at h
  · rename_i g z' e
    rw [Bool.and_eq_true, Bool.and_eq_true, decide_eq_true_iff] at h
    obtain ⟨rfl, h2, h3⟩ := h
    rw [← zp_txE] at e
    exact ⟨g, e, zp_IE h2, zp_RE h3, kt_tx_ok kt_g0_ok (Nat.zero_le _) e⟩
  · cases h
