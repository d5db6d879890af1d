/-! THE MEMORY: all cells behind both constructors as two functions into Int; what an instruction does to it (printed by wip/whole/gen/gen17.py) -/
abbrev jg_M : Type := (Nat → Int → Int) × (Nat → Int → Int)
def jg_T : List (Nat × Nat) := [(11, 0), (20, 700), (9, 0), (20, 700), (8, 0), (0, 0), (20, 15), (20, 7), (20, 7), (20, 12), (20, 12), (20, 48), (20, 5), (20, 5), (7, 0), (21, 48), (21, 48), (20, 48), (20, 720), (20, 2976), (21, 15), (21, 5), (20, 62), (20, 62), (20, 384), (20, 384), (8, 0), (0, 0), (20, 15), (20, 7), (20, 7), (20, 12), (20, 12), (20, 48), (20, 5), (20, 5), (7, 0), (21, 48), (21, 48), (20, 48), (20, 720), (20, 2976), (21, 15), (21, 5), (20, 62), (20, 62), (20, 384), (20, 384), (4, 0), (20, 240), (20, 240), (20, 240), (20, 240), (21, 960), (21, 960), (6, 0), (20, 5), (20, 48), (20, 200), (20, 2880), (20, 60), (2, 0), (20, 48), (20, 400), (20, 400), (5, 0), (20, 40), (5, 0), (20, 40), (3, 0), (20, 800), (20, 20), (20, 20), (20, 20), (1, 0), (20, 24), (22, 24), (20, 24), (10, 0), (20, 2801), (5, 0), (20, 40), (5, 0), (20, 40), (5, 0), (20, 40), (5, 0), (20, 40), (5, 0), (20, 40), (5, 0), (20, 40)]
def jg_sh (a : Nat) : Nat × Nat := jg_T.getD a (99, 0)
def jg_fk (ci : Nat) : List Nat := ([[0, 0, 0, 0, 0, 11, 12, 13, 14, 15, 16, 0, 17, 18], [0, 0, 11, 12, 13], [0, 11, 12, 13], [0, 0, 11, 12, 13, 14], [0, 0, 0, 0, 11, 12, 13, 14, 15, 16], [3, 11, 0, 0, 0], [11, 12, 13, 14, 15, 0], [0, 11, 12, 13, 14, 15, 0, 16, 17, 18, 19, 4], [11, 20, 30, 31], [0, 0, 11, 0, 0, 0, 0, 0, 0], [1, 0, 11], [11, 0, 12, 2, 2, 58, 65, 71, 75, 100, 77, 1, 79, 84, 88]] : List (List Nat)).getD ci []
def jg_bot (a : Nat) : Bool := Nat.beq a 65 || Nat.beq a 67 || Nat.beq a 80
def jg_fv (σ : jg_M) (a : Nat) (q : Nat × Nat) : Value := match q.1 with
  | 0 => .int (Int32.ofInt (σ.1 a q.2))
  | 1 => .int (Int32.ofInt (σ.1 a q.2))
  | 2 => .ref (σ.1 a q.2).toNat
  | 3 => (match jg_bot a with | true => .null | false => .ref (a - 2))
  | 4 => .long (Int64.ofInt (σ.2 a q.2))
  | k => .ref (a + (k - 10))
def jg_fs (σ : jg_M) (a ci : Nat) : List Value := (jg_fk ci).zipIdx.map (jg_fv σ a)
def jg_en (w : Nat) (σ : jg_M) : mj_Hp := fun a =>
  if (jg_sh a).1 < 12 then .inr ((jg_sh a).1, jg_fs σ a (jg_sh a).1)
  else if (jg_sh a).1 = 20 then .inl (0, (jg_sh a).2, .inl fun i => Int32.ofInt (σ.1 a i))
  else if (jg_sh a).1 = 21 then .inl (1, (jg_sh a).2, .inr (.inl fun i => Int64.ofInt (σ.2 a i)))
  else if (jg_sh a).1 = 22 then .inl (2, (jg_sh a).2, .inl fun i => Int32.ofInt (σ.1 a i))
  else if a = 92 ∧ w = 93 then .inl (1, 1, .inr (.inl fun i => Int64.ofInt (σ.2 a i)))
  else if a = 999999 then .inl (3, 6, .inl mj_pl)
  else .inr (99, [])
def jg_sI (σ : jg_M) (a : Nat) (i v : Int) : jg_M := (fun a' i' => if a' = a ∧ i' = i then v else σ.1 a' i', σ.2)
def jg_sL (σ : jg_M) (a : Nat) (i v : Int) : jg_M := (σ.1, fun a' i' => if a' = a ∧ i' = i then v else σ.2 a' i')
def jg_cI (σ : jg_M) (r0 : Nat) (sp : Int) (r1 : Nat) (dp n : Int) : jg_M := (fun a i => if a = r1 ∧ dp ≤ i ∧ i < dp + n then σ.1 r0 (sp + (i - dp)) else σ.1 a i, σ.2)
def jg_cL (σ : jg_M) (r0 : Nat) (sp : Int) (r1 : Nat) (dp n : Int) : jg_M := (σ.1, fun a i => if a = r1 ∧ dp ≤ i ∧ i < dp + n then σ.2 r0 (sp + (i - dp)) else σ.2 a i)
section JGA
variable {w a ci n b : Nat} {σ : jg_M}
theorem jg_en_obj (h : jg_sh a = (ci, 0)) (hc : ci < 12) : jg_en w σ a = .inr (ci, jg_fs σ a ci) := by
  unfold jg_en
  rw [h, if_pos hc]
theorem jg_en_20 (h : jg_sh a = (20, n)) : jg_en w σ a = .inl (0, n, .inl fun i => Int32.ofInt (σ.1 a i)) := by
  unfold jg_en
  rw [h]
  dsimp only
  rw [if_neg (by decide), if_pos rfl]
theorem jg_en_21 (h : jg_sh a = (21, n)) : jg_en w σ a = .inl (1, n, .inr (.inl fun i => Int64.ofInt (σ.2 a i))) := by
  unfold jg_en
  rw [h]
  dsimp only
  rw [if_neg (by decide), if_neg (by decide), if_pos rfl]
theorem jg_en_22 (h : jg_sh a = (22, n)) : jg_en w σ a = .inl (2, n, .inl fun i => Int32.ofInt (σ.1 a i)) := by
  unfold jg_en
  rw [h]
  dsimp only
  rw [if_neg (by decide), if_neg (by decide), if_neg (by decide), if_pos rfl]
theorem jg_en_tab : jg_en w σ 999999 = .inl (3, 6, .inl mj_pl) := by
  have h : jg_sh 999999 = (99, 0) := rfl
  unfold jg_en
  rw [h]
  dsimp only
  rw [if_neg (by decide), if_neg (by decide), if_neg (by decide), if_neg (by decide), if_neg (fun q => absurd q.1 (by decide)), if_pos rfl]
theorem jg_sh_lt {k : Nat} (h : jg_sh a = (k, n)) (hk : k ≠ 99) : a < 92 := by
  rcases Nat.lt_or_ge a 92 with h1 | h1
  · exact h1
  · unfold jg_sh at h
    rw [List.getD_eq_getElem?_getD, List.getElem?_eq_none (by exact h1)] at h
    cases h
    exact absurd rfl hk
theorem jg_en_same {τ : jg_M} (k : Nat) (h1 : ∀ i, τ.1 k i = σ.1 k i) (h2 : ∀ i, τ.2 k i = σ.2 k i) : jg_en w τ k = jg_en w σ k := by
  have e1 : τ.1 k = σ.1 k := funext h1
  have e2 : τ.2 k = σ.2 k := funext h2
  have e3 : jg_fs τ k (jg_sh k).1 = jg_fs σ k (jg_sh k).1 := by
    unfold jg_fs
    congr 1
    funext q
    unfold jg_fv
    rw [e1, e2]
  unfold jg_en
  rw [e1, e2, e3]
theorem jg_fs_get {k : Nat} (h : (jg_fk ci)[b]? = some k) : (jg_fs σ a ci)[b]? = some (jg_fv σ a (k, b)) := by
  unfold jg_fs
  rw [List.getElem?_map, List.getElem?_zipIdx, h]
  simp
theorem jg_fs_len : (jg_fs σ a ci).length = (jg_fk ci).length := by
  unfold jg_fs
  simp
/-- a field that is written -/
theorem jg_fs_set {τ : jg_M} {k : Nat} {v : Value} (h : (jg_fk ci)[b]? = some k) (h1 : ∀ i : Int, i ≠ b → τ.1 a i = σ.1 a i) (h2 : ∀ i : Int, i ≠ b → τ.2 a i = σ.2 a i) (hv : jg_fv τ a (k, b) = v) : (jg_fs σ a ci).set b v = jg_fs τ a ci := by
  apply List.ext_getElem?
  intro i
  have hb : b < (jg_fk ci).length := (List.getElem?_eq_some_iff.mp h).1
  rw [List.getElem?_set]
  by_cases hi : b = i
  · subst hi
    rw [if_pos rfl, if_pos (by rw [jg_fs_len]; exact hb), jg_fs_get h, hv]
  · rw [if_neg hi]
    cases hk : (jg_fk ci)[i]? with
    | none =>
      rw [List.getElem?_eq_none (by rw [jg_fs_len]; exact List.getElem?_eq_none_iff.mp hk), List.getElem?_eq_none (by rw [jg_fs_len]; exact List.getElem?_eq_none_iff.mp hk)]
    | some k2 =>
      rw [jg_fs_get hk, jg_fs_get hk]
      have hi2 : (i : Int) ≠ b := by omega
      unfold jg_fv
      dsimp only
      rw [h1 _ hi2, h2 _ hi2]
theorem jg_set_obj {τ : jg_M} {k : Nat} {v : Value} (hs : jg_sh a = (ci, 0)) (hc : ci < 12) (h : (jg_fk ci)[b]? = some k) (h1 : ∀ i : Int, i ≠ b → τ.1 a i = σ.1 a i) (h2 : ∀ i : Int, i ≠ b → τ.2 a i = σ.2 a i) (hv : jg_fv τ a (k, b) = v) (g1 : ∀ (c : Nat) (i : Int), c ≠ a → τ.1 c i = σ.1 c i) (g2 : ∀ (c : Nat) (i : Int), c ≠ a → τ.2 c i = σ.2 c i) :
    mj_set (jg_en w σ) a (.inr (ci, (jg_fs σ a ci).set b v)) = jg_en w τ := by
  funext c
  unfold mj_set
  by_cases hca : c = a
  · subst hca
    rw [if_pos rfl, jg_en_obj hs hc, jg_fs_set h h1 h2 hv]
  · rw [if_neg hca]
    exact (jg_en_same c (fun i => g1 c i hca) (fun i => g2 c i hca)).symm
theorem jg_set_cell {τ : jg_M} {x : mj_E} (hx : jg_en w τ a = x) (g1 : ∀ (c : Nat) (i : Int), c ≠ a → τ.1 c i = σ.1 c i) (g2 : ∀ (c : Nat) (i : Int), c ≠ a → τ.2 c i = σ.2 c i) : mj_set (jg_en w σ) a x = jg_en w τ := by
  funext c
  unfold mj_set
  by_cases hca : c = a
  · subst hca
    rw [if_pos rfl, hx]
  · rw [if_neg hca]
    exact (jg_en_same c (fun i => g1 c i hca) (fun i => g2 c i hca)).symm
end JGA
/-- what an int, a long is -/
def jg_wr (z : Int) : Int := (Int32.ofInt z).toInt
def jg_wl (z : Int) : Int := (Int64.ofInt z).toInt
theorem jg_wr_id {z : Int} (h : -2147483648 ≤ z ∧ z < 2147483648) : jg_wr z = z := Int32.toInt_ofInt_of_le (by omega) (by omega)
theorem jg_wl_id {z : Int} (h : -9223372036854775808 ≤ z ∧ z < 9223372036854775808) : jg_wl z = z := Int64.toInt_ofInt_of_le (by omega) (by omega)
theorem jg_wr_of {z : Int} : Int32.ofInt (jg_wr z) = Int32.ofInt z := Int32.ofInt_toInt _
theorem jg_wl_of {z : Int} : Int64.ofInt (jg_wl z) = Int64.ofInt z := Int64.ofInt_toInt _
theorem jg_wr_rng (z : Int) : -2147483648 ≤ jg_wr z ∧ jg_wr z < 2147483648 := ⟨Int32.le_toInt _, Int32.toInt_lt _⟩
theorem jg_wr_wr (z : Int) : jg_wr (jg_wr z) = jg_wr z := jg_wr_id (jg_wr_rng z)
def jg_div (x y : Int) : Int := (Int32.ofInt x / Int32.ofInt y).toInt
def jg_rem (x y : Int) : Int := (Int32.ofInt x - Int32.ofInt x / Int32.ofInt y * Int32.ofInt y).toInt
def jg_and (x y : Int) : Int := (Int32.ofInt x &&& Int32.ofInt y).toInt
def jg_or (x y : Int) : Int := (Int32.ofInt x ||| Int32.ofInt y).toInt
def jg_xor (x y : Int) : Int := (Int32.ofInt x ^^^ Int32.ofInt y).toInt
def jg_shl (x y : Int) : Int := (Int32.ofInt x <<< (Int32.ofInt y &&& 31)).toInt
def jg_shr (x y : Int) : Int := (Int32.ofInt x >>> (Int32.ofInt y &&& 31)).toInt
def jg_ushr (x y : Int) : Int := ((Int32.ofInt x).toUInt32 >>> ((Int32.ofInt y).toUInt32 &&& Int32.toUInt32 31)).toInt32.toInt
def jg_qdiv (x y : Int) : Int := (Int64.ofInt x / Int64.ofInt y).toInt
def jg_qrem (x y : Int) : Int := (Int64.ofInt x - Int64.ofInt x / Int64.ofInt y * Int64.ofInt y).toInt
def jg_qand (x y : Int) : Int := (Int64.ofInt x &&& Int64.ofInt y).toInt
def jg_qor (x y : Int) : Int := (Int64.ofInt x ||| Int64.ofInt y).toInt
def jg_qshl (x y : Int) : Int := (Int64.ofInt x <<< ((Int32.ofInt y).toInt64 &&& 63)).toInt
def jg_qushr (x y : Int) : Int := ((Int64.ofInt x).toUInt64 >>> ((Int32.ofInt y).toInt64.toUInt64 &&& Int64.toUInt64 63)).toInt64.toInt
def jg_lc (x y : Int) : Int := (lg_cmp (Int64.ofInt x) (Int64.ofInt y)).toInt
def jg_nar (x : Int) : Int := (vp_nar .boolean (Int32.ofInt x)).toInt
def jg_pl (i : Int) : Int := ([0, 1, 8, 57, 400, 2801] : List Int).getD i.toNat 0
/-- runs with more steps, more frames, and leave to make -/
theorem mj_one_le {al al' : Bool} {call call' : Nat → List Value → mj_Hp → Nat → Nat → Option mj_Res} {d d' : Nat} {M : mj_Inf} {i : Instr} {a b pc : Nat} {ls st : List Value} {hp : mj_Hp} {sz sl : Nat} {x : mj_Cfg ⊕ mj_Res} (ha : al = true → al' = true) (hd : d ≤ d') (hc : ∀ y As hp sz sl r, call y As hp sz sl = some r → call' y As hp sz sl = some r)
    (h : mj_one al call d M i a b pc ls st hp sz sl = some x) : mj_one al' call' d' M i a b pc ls st hp sz sl = some x := by
  unfold mj_one at h ⊢
  split
  · rename_i hg; rw [hg] at h; exact h
  · rename_i hg; rw [hg] at h; exact h
  · rename_i hg; rw [hg] at h; exact h
  · rename_i hg
    rw [hg] at h
    have h : mj_stD al i a b pc ls st hp sz sl = some x := h
    cases al with
    | true => rw [ha rfl]; exact h
    | false =>
      cases al' with
      | false => exact h
      | true =>
        unfold mj_stD at h ⊢
        split at h <;> first | exact h | (cases h; done)
  · rename_i g0 g1 g2 g3
    have h : mj_stE call d (mj_Cof a) (mj_nof a) a b pc ls st hp sz sl = some x := by
      split at h
      · rename_i hg; exact absurd hg g0
      · rename_i hg; exact absurd hg g1
      · rename_i hg; exact absurd hg g2
      · rename_i hg; exact absurd hg g3
      · exact h
    have hd0 : ∀ k, d = k + 1 → ∃ k', d' = k' + 1 := fun k hk => ⟨d' - 1, by omega⟩
    match b, h with
    | 0, h =>
      rw [mj_stE0] at h ⊢
      split at h
      · split at h
        · split at h
          · rename_i hq
            split at h
            · rename_i hr
              rw [if_pos hq, hc _ _ _ _ _ _ hr]
              exact h
            · cases h
          · cases h
        · cases h
      · cases h
    | 1, h =>
      rw [mj_stE1] at h ⊢
      split at h
      · split at h
        · rename_i hq
          split at h
          · rename_i hr
            rw [if_pos hq, hc _ _ _ _ _ _ hr]
            exact h
          · cases h
        · cases h
      · cases h
    | 2, h =>
      rw [mj_stE2] at h ⊢
      split at h
      · split at h
        · rename_i hq
          split at h
          · rename_i hr
            rw [if_pos hq, hc _ _ _ _ _ _ hr]
            exact h
          · cases h
        · cases h
      · cases h
    | 3, h =>
      rw [mj_stE3] at h ⊢
      split at h
      · split at h
        · rename_i hq
          split at h
          · rename_i hr
            rw [if_pos hq, hc _ _ _ _ _ _ hr]
            exact h
          · cases h
        · cases h
      · cases h
    | 4, h =>
      rw [mj_stE4] at h ⊢
      split at h
      · split at h
        · rename_i hq
          split at h
          · rename_i hr
            rw [if_pos hq, hc _ _ _ _ _ _ hr]
            exact h
          · cases h
        · cases h
      · cases h
    | 5, h =>
      rw [mj_stE5] at h ⊢
      split at h
      · obtain ⟨k', rfl⟩ := hd0 _ rfl
        exact h
      · cases h
    | 6, h =>
      rw [mj_stE6] at h ⊢
      split at h
      · obtain ⟨k', rfl⟩ := hd0 _ rfl
        exact h
      · cases h
    | 7, h =>
      rw [mj_stE7] at h ⊢
      split at h
      · obtain ⟨k', rfl⟩ := hd0 _ rfl
        exact h
      · cases h
    | 8, h =>
      rw [mj_stE8] at h ⊢
      split at h
      · obtain ⟨k', rfl⟩ := hd0 _ rfl
        exact h
      · cases h
    | 9, h =>
      rw [mj_stE9] at h ⊢
      split at h
      · obtain ⟨k', rfl⟩ := hd0 _ rfl
        exact h
      · cases h
    | b + 10, h => cases h
theorem mj_run_le {al al' : Bool} (ha : al = true → al' = true) : ∀ (k k' d d' : Nat) (M : mj_Inf) (c : mj_Cfg) (r : mj_Res), k ≤ k' → d ≤ d' → mj_run al mj_ms k d M c = some r → mj_run al' mj_ms k' d' M c = some r := by
  intro k
  induction k with
  | zero => intro k' d d' M c r _ _ h; cases h
  | succ k ih =>
    intro k' d d' M c r hk hd h
    obtain ⟨k', rfl⟩ : ∃ j, k' = j + 1 := ⟨k' - 1, by omega⟩
    obtain ⟨pc, ls, st, hp, sz, sl⟩ := c
    rw [mj_run_eq] at h ⊢
    have hcf : ∀ y As hp sz sl r, mj_cf al mj_ms k d y As hp sz sl = some r → mj_cf al' mj_ms k' d' y As hp sz sl = some r := by
      intro y As hp sz sl r h
      unfold mj_cf at h ⊢
      split at h
      · cases h
      · rename_i d0
        obtain ⟨d1, rfl⟩ : ∃ j, d' = j + 1 := ⟨d' - 1, by omega⟩
        dsimp only
        split at h
        · cases h
        · rename_i M1 hM1
          split at h
          · rename_i hq
            rw [if_pos hq]
            exact ih _ _ _ _ _ _ (by omega) (by omega) h
          · cases h
    split at h
    · cases h
    · rename_i i a b f hf
      split at h
      · cases h
      · rename_i r1 hr
        rw [mj_one_le ha hd hcf hr]
        exact h
      · rename_i c1 hr
        rw [mj_one_le ha hd hcf hr]
        exact ih _ _ _ _ _ _ (by omega) hd h
/-- from here the run comes to its end, with Q of what it answers and leaves -/
def jg_G (w d : Nat) (M : mj_Inf) (pc : Nat) (ls st : List Value) (σ : jg_M) (Q : Option Value → jg_M → Prop) : Prop := ∃ k v τ, (∀ sz sl, mj_run false mj_ms k d M (pc, ls, st, jg_en w σ, sz, sl) = some (v, jg_en w τ, sz, sl)) ∧ Q v τ
abbrev jg_QI (Q : Int → jg_M → Prop) : Option Value → jg_M → Prop := fun v τ => ∃ z, v = some (.int (.ofInt z)) ∧ Q z τ
abbrev jg_QL (Q : Int → jg_M → Prop) : Option Value → jg_M → Prop := fun v τ => ∃ z, v = some (.long (.ofInt z)) ∧ Q z τ
abbrev jg_QV (Q : jg_M → Prop) : Option Value → jg_M → Prop := fun v τ => v = none ∧ Q τ
def jg_GI (w d : Nat) (M : mj_Inf) (pc : Nat) (ls : List Value) (σ : jg_M) (Q : Int → jg_M → Prop) : Prop := jg_G w d M pc ls [] σ (jg_QI Q)
def jg_GL (w d : Nat) (M : mj_Inf) (pc : Nat) (ls : List Value) (σ : jg_M) (Q : Int → jg_M → Prop) : Prop := jg_G w d M pc ls [] σ (jg_QL Q)
def jg_GV (w d : Nat) (M : mj_Inf) (pc : Nat) (ls : List Value) (σ : jg_M) (Q : jg_M → Prop) : Prop := jg_G w d M pc ls [] σ (jg_QV Q)
def jg_CI (w d : Nat) (M : mj_Inf) (As : List Value) (σ : jg_M) (Q : Int → jg_M → Prop) : Prop := jg_GI w d M 0 (mj_lc As M.2.2.2.1) σ Q
def jg_CL (w d : Nat) (M : mj_Inf) (As : List Value) (σ : jg_M) (Q : Int → jg_M → Prop) : Prop := jg_GL w d M 0 (mj_lc As M.2.2.2.1) σ Q
def jg_CV (w d : Nat) (M : mj_Inf) (As : List Value) (σ : jg_M) (Q : jg_M → Prop) : Prop := jg_GV w d M 0 (mj_lc As M.2.2.2.1) σ Q
section JGB
variable {w d d' a b f ci n : Nat} {M M1 : mj_Inf} {pc pc' : Nat} {ls ls' st st' As : List Value} {σ τ : jg_M} {Q Q' : Option Value → jg_M → Prop} {i : Instr} {x y z : Int}
theorem jg_G.mono (h : jg_G w d M pc ls st σ Q) (hd : d ≤ d') (hQ : ∀ v τ, Q v τ → Q' v τ) : jg_G w d' M pc ls st σ Q' := by
  obtain ⟨k, v, τ, h1, h2⟩ := h
  exact ⟨k, v, τ, fun sz sl => mj_run_le (fun h => h) k k d d' _ _ _ (Nat.le_refl _) hd (h1 sz sl), hQ v τ h2⟩
theorem jg_CI.mono {K K' : Int → jg_M → Prop} (h : jg_CI w d M As σ K) (hd : d ≤ d') (hQ : ∀ z τ, K z τ → K' z τ) : jg_CI w d' M As σ K' := jg_G.mono (Q' := jg_QI K') h hd (fun v τ ⟨z, h1, h2⟩ => ⟨z, h1, hQ z τ h2⟩)
theorem jg_CL.mono {K K' : Int → jg_M → Prop} (h : jg_CL w d M As σ K) (hd : d ≤ d') (hQ : ∀ z τ, K z τ → K' z τ) : jg_CL w d' M As σ K' := jg_G.mono (Q' := jg_QL K') h hd (fun v τ ⟨z, h1, h2⟩ => ⟨z, h1, hQ z τ h2⟩)
theorem jg_CV.mono {K K' : jg_M → Prop} (h : jg_CV w d M As σ K) (hd : d ≤ d') (hQ : ∀ τ, K τ → K' τ) : jg_CV w d' M As σ K' := jg_G.mono (Q' := jg_QV K') h hd (fun v τ ⟨h1, h2⟩ => ⟨h1, hQ τ h2⟩)
theorem jg_GI.mono {K K' : Int → jg_M → Prop} (h : jg_GI w d M pc ls σ K) (hd : d ≤ d') (hQ : ∀ z τ, K z τ → K' z τ) : jg_GI w d' M pc ls σ K' := jg_G.mono (Q' := jg_QI K') h hd (fun v τ ⟨z, h1, h2⟩ => ⟨z, h1, hQ z τ h2⟩)
theorem jg_GL.mono {K K' : Int → jg_M → Prop} (h : jg_GL w d M pc ls σ K) (hd : d ≤ d') (hQ : ∀ z τ, K z τ → K' z τ) : jg_GL w d' M pc ls σ K' := jg_G.mono (Q' := jg_QL K') h hd (fun v τ ⟨z, h1, h2⟩ => ⟨z, h1, hQ z τ h2⟩)
theorem jg_GV.mono {K K' : jg_M → Prop} (h : jg_GV w d M pc ls σ K) (hd : d ≤ d') (hQ : ∀ τ, K τ → K' τ) : jg_GV w d' M pc ls σ K' := jg_G.mono (Q' := jg_QV K') h hd (fun v τ ⟨h1, h2⟩ => ⟨h1, hQ τ h2⟩)
/-- one instruction -/
theorem jg_step (hf : mj_find M.2.2.2.2.2.2.2 pc = some (i, a, b, f)) (h1 : ∀ call sz sl, mj_one false call d M i a b pc ls st (jg_en w σ) sz sl = some (.inl (pc', ls', st', jg_en w τ, sz, sl))) (kk : jg_G w d M pc' ls' st' τ Q) : jg_G w d M pc ls st σ Q := by
  obtain ⟨k, v, υ, h2, h3⟩ := kk
  refine ⟨k + 1, v, υ, fun sz sl => ?_, h3⟩
  rw [mj_run_eq, hf]
  dsimp only
  rw [h1]
  exact h2 sz sl
theorem jg_A (hf : mj_find M.2.2.2.2.2.2.2 pc = some (i, a, b, f)) (hg : mj_grp i = 0) (h1 : ∀ hp sz sl, mj_stA i a pc ls st hp sz sl = some (.inl (pc', ls', st', hp, sz, sl))) (kk : jg_G w d M pc' ls' st' σ Q) : jg_G w d M pc ls st σ Q :=
  jg_step hf (fun _ sz sl => by unfold mj_one; rw [hg]; exact h1 _ sz sl) kk
theorem jg_B (hf : mj_find M.2.2.2.2.2.2.2 pc = some (i, a, b, f)) (hg : mj_grp i = 1) (h1 : ∀ hp sz sl, mj_stB i pc ls st hp sz sl = some (.inl (pc', ls', st', hp, sz, sl))) (kk : jg_G w d M pc' ls' st' σ Q) : jg_G w d M pc ls st σ Q :=
  jg_step hf (fun _ sz sl => by unfold mj_one; rw [hg]; exact h1 _ sz sl) kk
theorem jg_C (hf : mj_find M.2.2.2.2.2.2.2 pc = some (i, a, b, f)) (hg : mj_grp i = 2) (h1 : ∀ hp sz sl, mj_stC i M.2.2.2.2.1 a pc ls st hp sz sl = some (.inl (pc', ls', st', hp, sz, sl))) (kk : jg_G w d M pc' ls' st' σ Q) : jg_G w d M pc ls st σ Q :=
  jg_step hf (fun _ sz sl => by unfold mj_one; rw [hg]; exact h1 _ sz sl) kk
theorem jg_D (hf : mj_find M.2.2.2.2.2.2.2 pc = some (i, a, b, f)) (hg : mj_grp i = 3) (h1 : ∀ sz sl, mj_stD false i a b pc ls st (jg_en w σ) sz sl = some (.inl (pc', ls', st', jg_en w τ, sz, sl))) (kk : jg_G w d M pc' ls' st' τ Q) : jg_G w d M pc ls st σ Q :=
  jg_step hf (fun _ sz sl => by unfold mj_one; rw [hg]; exact h1 sz sl) kk
/-- a number that is kept gets a name -/
theorem jg_nm {F : Int → Prop} (e : Int) (h : ∀ t, t = e → F t) : F e := h e rfl

theorem jg_iadd (hf : mj_find M.2.2.2.2.2.2.2 pc = some (.iadd, a, b, f)) (hp : pc + 1 = pc') (kk : jg_G w d M pc' ls (.int (.ofInt (x + y)) :: st) σ Q) : jg_G w d M pc ls (.int (.ofInt y) :: .int (.ofInt x) :: st) σ Q :=
  jg_B hf rfl (fun _ _ _ => by subst hp; simp only [mj_stB, Int32.ofInt_toInt, Int64.ofInt_toInt, Int32.ofInt_add, Int32.ofInt_sub, Int32.ofInt_mul, Int32.ofInt_neg, Int64.ofInt_add, Int64.ofInt_sub, Int64.ofInt_mul, Int64.toInt32_ofInt, mj_nx, jg_div, jg_rem, jg_and, jg_or, jg_xor, jg_shl, jg_shr, jg_ushr, jg_qdiv, jg_qrem, jg_qand, jg_qor, jg_qshl, jg_qushr, jg_lc, jg_wr, Int64.ofInt_int32ToInt]) kk
theorem jg_isub (hf : mj_find M.2.2.2.2.2.2.2 pc = some (.isub, a, b, f)) (hp : pc + 1 = pc') (kk : jg_G w d M pc' ls (.int (.ofInt (x - y)) :: st) σ Q) : jg_G w d M pc ls (.int (.ofInt y) :: .int (.ofInt x) :: st) σ Q :=
  jg_B hf rfl (fun _ _ _ => by subst hp; simp only [mj_stB, Int32.ofInt_toInt, Int64.ofInt_toInt, Int32.ofInt_add, Int32.ofInt_sub, Int32.ofInt_mul, Int32.ofInt_neg, Int64.ofInt_add, Int64.ofInt_sub, Int64.ofInt_mul, Int64.toInt32_ofInt, mj_nx, jg_div, jg_rem, jg_and, jg_or, jg_xor, jg_shl, jg_shr, jg_ushr, jg_qdiv, jg_qrem, jg_qand, jg_qor, jg_qshl, jg_qushr, jg_lc, jg_wr, Int64.ofInt_int32ToInt]) kk
theorem jg_imul (hf : mj_find M.2.2.2.2.2.2.2 pc = some (.imul, a, b, f)) (hp : pc + 1 = pc') (kk : jg_G w d M pc' ls (.int (.ofInt (x * y)) :: st) σ Q) : jg_G w d M pc ls (.int (.ofInt y) :: .int (.ofInt x) :: st) σ Q :=
  jg_B hf rfl (fun _ _ _ => by subst hp; simp only [mj_stB, Int32.ofInt_toInt, Int64.ofInt_toInt, Int32.ofInt_add, Int32.ofInt_sub, Int32.ofInt_mul, Int32.ofInt_neg, Int64.ofInt_add, Int64.ofInt_sub, Int64.ofInt_mul, Int64.toInt32_ofInt, mj_nx, jg_div, jg_rem, jg_and, jg_or, jg_xor, jg_shl, jg_shr, jg_ushr, jg_qdiv, jg_qrem, jg_qand, jg_qor, jg_qshl, jg_qushr, jg_lc, jg_wr, Int64.ofInt_int32ToInt]) kk
theorem jg_iand (hf : mj_find M.2.2.2.2.2.2.2 pc = some (.iand, a, b, f)) (hp : pc + 1 = pc') (kk : jg_G w d M pc' ls (.int (.ofInt (jg_and x y)) :: st) σ Q) : jg_G w d M pc ls (.int (.ofInt y) :: .int (.ofInt x) :: st) σ Q :=
  jg_B hf rfl (fun _ _ _ => by subst hp; simp only [mj_stB, Int32.ofInt_toInt, Int64.ofInt_toInt, Int32.ofInt_add, Int32.ofInt_sub, Int32.ofInt_mul, Int32.ofInt_neg, Int64.ofInt_add, Int64.ofInt_sub, Int64.ofInt_mul, Int64.toInt32_ofInt, mj_nx, jg_div, jg_rem, jg_and, jg_or, jg_xor, jg_shl, jg_shr, jg_ushr, jg_qdiv, jg_qrem, jg_qand, jg_qor, jg_qshl, jg_qushr, jg_lc, jg_wr, Int64.ofInt_int32ToInt]) kk
theorem jg_ior (hf : mj_find M.2.2.2.2.2.2.2 pc = some (.ior, a, b, f)) (hp : pc + 1 = pc') (kk : jg_G w d M pc' ls (.int (.ofInt (jg_or x y)) :: st) σ Q) : jg_G w d M pc ls (.int (.ofInt y) :: .int (.ofInt x) :: st) σ Q :=
  jg_B hf rfl (fun _ _ _ => by subst hp; simp only [mj_stB, Int32.ofInt_toInt, Int64.ofInt_toInt, Int32.ofInt_add, Int32.ofInt_sub, Int32.ofInt_mul, Int32.ofInt_neg, Int64.ofInt_add, Int64.ofInt_sub, Int64.ofInt_mul, Int64.toInt32_ofInt, mj_nx, jg_div, jg_rem, jg_and, jg_or, jg_xor, jg_shl, jg_shr, jg_ushr, jg_qdiv, jg_qrem, jg_qand, jg_qor, jg_qshl, jg_qushr, jg_lc, jg_wr, Int64.ofInt_int32ToInt]) kk
theorem jg_ixor (hf : mj_find M.2.2.2.2.2.2.2 pc = some (.ixor, a, b, f)) (hp : pc + 1 = pc') (kk : jg_G w d M pc' ls (.int (.ofInt (jg_xor x y)) :: st) σ Q) : jg_G w d M pc ls (.int (.ofInt y) :: .int (.ofInt x) :: st) σ Q :=
  jg_B hf rfl (fun _ _ _ => by subst hp; simp only [mj_stB, Int32.ofInt_toInt, Int64.ofInt_toInt, Int32.ofInt_add, Int32.ofInt_sub, Int32.ofInt_mul, Int32.ofInt_neg, Int64.ofInt_add, Int64.ofInt_sub, Int64.ofInt_mul, Int64.toInt32_ofInt, mj_nx, jg_div, jg_rem, jg_and, jg_or, jg_xor, jg_shl, jg_shr, jg_ushr, jg_qdiv, jg_qrem, jg_qand, jg_qor, jg_qshl, jg_qushr, jg_lc, jg_wr, Int64.ofInt_int32ToInt]) kk
theorem jg_ishl (hf : mj_find M.2.2.2.2.2.2.2 pc = some (.ishl, a, b, f)) (hp : pc + 1 = pc') (kk : jg_G w d M pc' ls (.int (.ofInt (jg_shl x y)) :: st) σ Q) : jg_G w d M pc ls (.int (.ofInt y) :: .int (.ofInt x) :: st) σ Q :=
  jg_B hf rfl (fun _ _ _ => by subst hp; simp only [mj_stB, Int32.ofInt_toInt, Int64.ofInt_toInt, Int32.ofInt_add, Int32.ofInt_sub, Int32.ofInt_mul, Int32.ofInt_neg, Int64.ofInt_add, Int64.ofInt_sub, Int64.ofInt_mul, Int64.toInt32_ofInt, mj_nx, jg_div, jg_rem, jg_and, jg_or, jg_xor, jg_shl, jg_shr, jg_ushr, jg_qdiv, jg_qrem, jg_qand, jg_qor, jg_qshl, jg_qushr, jg_lc, jg_wr, Int64.ofInt_int32ToInt]) kk
theorem jg_ishr (hf : mj_find M.2.2.2.2.2.2.2 pc = some (.ishr, a, b, f)) (hp : pc + 1 = pc') (kk : jg_G w d M pc' ls (.int (.ofInt (jg_shr x y)) :: st) σ Q) : jg_G w d M pc ls (.int (.ofInt y) :: .int (.ofInt x) :: st) σ Q :=
  jg_B hf rfl (fun _ _ _ => by subst hp; simp only [mj_stB, Int32.ofInt_toInt, Int64.ofInt_toInt, Int32.ofInt_add, Int32.ofInt_sub, Int32.ofInt_mul, Int32.ofInt_neg, Int64.ofInt_add, Int64.ofInt_sub, Int64.ofInt_mul, Int64.toInt32_ofInt, mj_nx, jg_div, jg_rem, jg_and, jg_or, jg_xor, jg_shl, jg_shr, jg_ushr, jg_qdiv, jg_qrem, jg_qand, jg_qor, jg_qshl, jg_qushr, jg_lc, jg_wr, Int64.ofInt_int32ToInt]) kk
theorem jg_iushr (hf : mj_find M.2.2.2.2.2.2.2 pc = some (.iushr, a, b, f)) (hp : pc + 1 = pc') (kk : jg_G w d M pc' ls (.int (.ofInt (jg_ushr x y)) :: st) σ Q) : jg_G w d M pc ls (.int (.ofInt y) :: .int (.ofInt x) :: st) σ Q :=
  jg_B hf rfl (fun _ _ _ => by subst hp; simp only [mj_stB, Int32.ofInt_toInt, Int64.ofInt_toInt, Int32.ofInt_add, Int32.ofInt_sub, Int32.ofInt_mul, Int32.ofInt_neg, Int64.ofInt_add, Int64.ofInt_sub, Int64.ofInt_mul, Int64.toInt32_ofInt, mj_nx, jg_div, jg_rem, jg_and, jg_or, jg_xor, jg_shl, jg_shr, jg_ushr, jg_qdiv, jg_qrem, jg_qand, jg_qor, jg_qshl, jg_qushr, jg_lc, jg_wr, Int64.ofInt_int32ToInt]) kk
theorem jg_ineg (hf : mj_find M.2.2.2.2.2.2.2 pc = some (.ineg, a, b, f)) (hp : pc + 1 = pc') (kk : jg_G w d M pc' ls (.int (.ofInt (-x)) :: st) σ Q) : jg_G w d M pc ls (.int (.ofInt x) :: st) σ Q :=
  jg_B hf rfl (fun _ _ _ => by subst hp; simp only [mj_stB, Int32.ofInt_toInt, Int64.ofInt_toInt, Int32.ofInt_add, Int32.ofInt_sub, Int32.ofInt_mul, Int32.ofInt_neg, Int64.ofInt_add, Int64.ofInt_sub, Int64.ofInt_mul, Int64.toInt32_ofInt, mj_nx, jg_div, jg_rem, jg_and, jg_or, jg_xor, jg_shl, jg_shr, jg_ushr, jg_qdiv, jg_qrem, jg_qand, jg_qor, jg_qshl, jg_qushr, jg_lc, jg_wr, Int64.ofInt_int32ToInt]) kk
theorem jg_ladd (hf : mj_find M.2.2.2.2.2.2.2 pc = some (.ladd, a, b, f)) (hp : pc + 1 = pc') (kk : jg_G w d M pc' ls (.long (.ofInt (x + y)) :: st) σ Q) : jg_G w d M pc ls (.long (.ofInt y) :: .long (.ofInt x) :: st) σ Q :=
  jg_B hf rfl (fun _ _ _ => by subst hp; simp only [mj_stB, Int32.ofInt_toInt, Int64.ofInt_toInt, Int32.ofInt_add, Int32.ofInt_sub, Int32.ofInt_mul, Int32.ofInt_neg, Int64.ofInt_add, Int64.ofInt_sub, Int64.ofInt_mul, Int64.toInt32_ofInt, mj_nx, jg_div, jg_rem, jg_and, jg_or, jg_xor, jg_shl, jg_shr, jg_ushr, jg_qdiv, jg_qrem, jg_qand, jg_qor, jg_qshl, jg_qushr, jg_lc, jg_wr, Int64.ofInt_int32ToInt]) kk
theorem jg_lsub (hf : mj_find M.2.2.2.2.2.2.2 pc = some (.lsub, a, b, f)) (hp : pc + 1 = pc') (kk : jg_G w d M pc' ls (.long (.ofInt (x - y)) :: st) σ Q) : jg_G w d M pc ls (.long (.ofInt y) :: .long (.ofInt x) :: st) σ Q :=
  jg_B hf rfl (fun _ _ _ => by subst hp; simp only [mj_stB, Int32.ofInt_toInt, Int64.ofInt_toInt, Int32.ofInt_add, Int32.ofInt_sub, Int32.ofInt_mul, Int32.ofInt_neg, Int64.ofInt_add, Int64.ofInt_sub, Int64.ofInt_mul, Int64.toInt32_ofInt, mj_nx, jg_div, jg_rem, jg_and, jg_or, jg_xor, jg_shl, jg_shr, jg_ushr, jg_qdiv, jg_qrem, jg_qand, jg_qor, jg_qshl, jg_qushr, jg_lc, jg_wr, Int64.ofInt_int32ToInt]) kk
theorem jg_lmul (hf : mj_find M.2.2.2.2.2.2.2 pc = some (.lmul, a, b, f)) (hp : pc + 1 = pc') (kk : jg_G w d M pc' ls (.long (.ofInt (x * y)) :: st) σ Q) : jg_G w d M pc ls (.long (.ofInt y) :: .long (.ofInt x) :: st) σ Q :=
  jg_B hf rfl (fun _ _ _ => by subst hp; simp only [mj_stB, Int32.ofInt_toInt, Int64.ofInt_toInt, Int32.ofInt_add, Int32.ofInt_sub, Int32.ofInt_mul, Int32.ofInt_neg, Int64.ofInt_add, Int64.ofInt_sub, Int64.ofInt_mul, Int64.toInt32_ofInt, mj_nx, jg_div, jg_rem, jg_and, jg_or, jg_xor, jg_shl, jg_shr, jg_ushr, jg_qdiv, jg_qrem, jg_qand, jg_qor, jg_qshl, jg_qushr, jg_lc, jg_wr, Int64.ofInt_int32ToInt]) kk
theorem jg_land (hf : mj_find M.2.2.2.2.2.2.2 pc = some (.land, a, b, f)) (hp : pc + 1 = pc') (kk : jg_G w d M pc' ls (.long (.ofInt (jg_qand x y)) :: st) σ Q) : jg_G w d M pc ls (.long (.ofInt y) :: .long (.ofInt x) :: st) σ Q :=
  jg_B hf rfl (fun _ _ _ => by subst hp; simp only [mj_stB, Int32.ofInt_toInt, Int64.ofInt_toInt, Int32.ofInt_add, Int32.ofInt_sub, Int32.ofInt_mul, Int32.ofInt_neg, Int64.ofInt_add, Int64.ofInt_sub, Int64.ofInt_mul, Int64.toInt32_ofInt, mj_nx, jg_div, jg_rem, jg_and, jg_or, jg_xor, jg_shl, jg_shr, jg_ushr, jg_qdiv, jg_qrem, jg_qand, jg_qor, jg_qshl, jg_qushr, jg_lc, jg_wr, Int64.ofInt_int32ToInt]) kk
theorem jg_lor (hf : mj_find M.2.2.2.2.2.2.2 pc = some (.lor, a, b, f)) (hp : pc + 1 = pc') (kk : jg_G w d M pc' ls (.long (.ofInt (jg_qor x y)) :: st) σ Q) : jg_G w d M pc ls (.long (.ofInt y) :: .long (.ofInt x) :: st) σ Q :=
  jg_B hf rfl (fun _ _ _ => by subst hp; simp only [mj_stB, Int32.ofInt_toInt, Int64.ofInt_toInt, Int32.ofInt_add, Int32.ofInt_sub, Int32.ofInt_mul, Int32.ofInt_neg, Int64.ofInt_add, Int64.ofInt_sub, Int64.ofInt_mul, Int64.toInt32_ofInt, mj_nx, jg_div, jg_rem, jg_and, jg_or, jg_xor, jg_shl, jg_shr, jg_ushr, jg_qdiv, jg_qrem, jg_qand, jg_qor, jg_qshl, jg_qushr, jg_lc, jg_wr, Int64.ofInt_int32ToInt]) kk
theorem jg_lshl (hf : mj_find M.2.2.2.2.2.2.2 pc = some (.lshl, a, b, f)) (hp : pc + 1 = pc') (kk : jg_G w d M pc' ls (.long (.ofInt (jg_qshl x y)) :: st) σ Q) : jg_G w d M pc ls (.int (.ofInt y) :: .long (.ofInt x) :: st) σ Q :=
  jg_B hf rfl (fun _ _ _ => by subst hp; simp only [mj_stB, Int32.ofInt_toInt, Int64.ofInt_toInt, Int32.ofInt_add, Int32.ofInt_sub, Int32.ofInt_mul, Int32.ofInt_neg, Int64.ofInt_add, Int64.ofInt_sub, Int64.ofInt_mul, Int64.toInt32_ofInt, mj_nx, jg_div, jg_rem, jg_and, jg_or, jg_xor, jg_shl, jg_shr, jg_ushr, jg_qdiv, jg_qrem, jg_qand, jg_qor, jg_qshl, jg_qushr, jg_lc, jg_wr, Int64.ofInt_int32ToInt]) kk
theorem jg_lushr (hf : mj_find M.2.2.2.2.2.2.2 pc = some (.lushr, a, b, f)) (hp : pc + 1 = pc') (kk : jg_G w d M pc' ls (.long (.ofInt (jg_qushr x y)) :: st) σ Q) : jg_G w d M pc ls (.int (.ofInt y) :: .long (.ofInt x) :: st) σ Q :=
  jg_B hf rfl (fun _ _ _ => by subst hp; simp only [mj_stB, Int32.ofInt_toInt, Int64.ofInt_toInt, Int32.ofInt_add, Int32.ofInt_sub, Int32.ofInt_mul, Int32.ofInt_neg, Int64.ofInt_add, Int64.ofInt_sub, Int64.ofInt_mul, Int64.toInt32_ofInt, mj_nx, jg_div, jg_rem, jg_and, jg_or, jg_xor, jg_shl, jg_shr, jg_ushr, jg_qdiv, jg_qrem, jg_qand, jg_qor, jg_qshl, jg_qushr, jg_lc, jg_wr, Int64.ofInt_int32ToInt]) kk
theorem jg_lcmp (hf : mj_find M.2.2.2.2.2.2.2 pc = some (.lcmp, a, b, f)) (hp : pc + 1 = pc') (kk : jg_G w d M pc' ls (.int (.ofInt (jg_lc x y)) :: st) σ Q) : jg_G w d M pc ls (.long (.ofInt y) :: .long (.ofInt x) :: st) σ Q :=
  jg_B hf rfl (fun _ _ _ => by subst hp; simp only [mj_stB, Int32.ofInt_toInt, Int64.ofInt_toInt, Int32.ofInt_add, Int32.ofInt_sub, Int32.ofInt_mul, Int32.ofInt_neg, Int64.ofInt_add, Int64.ofInt_sub, Int64.ofInt_mul, Int64.toInt32_ofInt, mj_nx, jg_div, jg_rem, jg_and, jg_or, jg_xor, jg_shl, jg_shr, jg_ushr, jg_qdiv, jg_qrem, jg_qand, jg_qor, jg_qshl, jg_qushr, jg_lc, jg_wr, Int64.ofInt_int32ToInt]) kk
theorem jg_i2l (hf : mj_find M.2.2.2.2.2.2.2 pc = some (.i2l, a, b, f)) (hp : pc + 1 = pc') (kk : jg_G w d M pc' ls (.long (.ofInt (jg_wr x)) :: st) σ Q) : jg_G w d M pc ls (.int (.ofInt x) :: st) σ Q :=
  jg_B hf rfl (fun _ _ _ => by subst hp; simp only [mj_stB, Int32.ofInt_toInt, Int64.ofInt_toInt, Int32.ofInt_add, Int32.ofInt_sub, Int32.ofInt_mul, Int32.ofInt_neg, Int64.ofInt_add, Int64.ofInt_sub, Int64.ofInt_mul, Int64.toInt32_ofInt, mj_nx, jg_div, jg_rem, jg_and, jg_or, jg_xor, jg_shl, jg_shr, jg_ushr, jg_qdiv, jg_qrem, jg_qand, jg_qor, jg_qshl, jg_qushr, jg_lc, jg_wr, Int64.ofInt_int32ToInt]) kk
theorem jg_l2i (hf : mj_find M.2.2.2.2.2.2.2 pc = some (.l2i, a, b, f)) (hp : pc + 1 = pc') (kk : jg_G w d M pc' ls (.int (.ofInt x) :: st) σ Q) : jg_G w d M pc ls (.long (.ofInt x) :: st) σ Q :=
  jg_B hf rfl (fun _ _ _ => by subst hp; simp only [mj_stB, Int32.ofInt_toInt, Int64.ofInt_toInt, Int32.ofInt_add, Int32.ofInt_sub, Int32.ofInt_mul, Int32.ofInt_neg, Int64.ofInt_add, Int64.ofInt_sub, Int64.ofInt_mul, Int64.toInt32_ofInt, mj_nx, jg_div, jg_rem, jg_and, jg_or, jg_xor, jg_shl, jg_shr, jg_ushr, jg_qdiv, jg_qrem, jg_qand, jg_qor, jg_qshl, jg_qushr, jg_lc, jg_wr, Int64.ofInt_int32ToInt]) kk
theorem jg_z32 {z : Int} : Int32.ofInt z = 0 ↔ jg_wr z = 0 := by
  unfold jg_wr
  rw [← Int32.toInt_inj]
  exact Iff.rfl
theorem jg_z64 {z : Int} : Int64.ofInt z = 0 ↔ jg_wl z = 0 := by
  unfold jg_wl
  rw [← Int64.toInt_inj]
  exact Iff.rfl
theorem jg_eq32 : Int32.ofInt x = Int32.ofInt y ↔ jg_wr x = jg_wr y := by
  unfold jg_wr
  rw [Int32.toInt_inj]
theorem jg_lt32 : Int32.ofInt x < Int32.ofInt y ↔ jg_wr x < jg_wr y := Int32.lt_iff_toInt_lt
theorem jg_le32 : Int32.ofInt x ≤ Int32.ofInt y ↔ jg_wr x ≤ jg_wr y := Int32.le_iff_toInt_le
theorem jg_lt0 : Int32.ofInt x < 0 ↔ jg_wr x < 0 := Int32.lt_iff_toInt_lt
theorem jg_ge0 : 0 ≤ Int32.ofInt x ↔ 0 ≤ jg_wr x := Int32.le_iff_toInt_le
theorem jg_gt0 : 0 < Int32.ofInt x ↔ 0 < jg_wr x := Int32.lt_iff_toInt_lt
theorem jg_le0 : Int32.ofInt x ≤ 0 ↔ jg_wr x ≤ 0 := Int32.le_iff_toInt_le
theorem jg_idiv (hf : mj_find M.2.2.2.2.2.2.2 pc = some (.idiv, a, b, f)) (hp : pc + 1 = pc') (hy : jg_wr y ≠ 0) (kk : jg_G w d M pc' ls (.int (.ofInt (jg_div x y)) :: st) σ Q) : jg_G w d M pc ls (.int (.ofInt y) :: .int (.ofInt x) :: st) σ Q :=
  jg_B hf rfl (fun _ _ _ => by subst hp; simp only [mj_stB, jg_z32, if_neg hy, jg_div, Int32.ofInt_toInt]) kk
theorem jg_irem (hf : mj_find M.2.2.2.2.2.2.2 pc = some (.irem, a, b, f)) (hp : pc + 1 = pc') (hy : jg_wr y ≠ 0) (kk : jg_G w d M pc' ls (.int (.ofInt (jg_rem x y)) :: st) σ Q) : jg_G w d M pc ls (.int (.ofInt y) :: .int (.ofInt x) :: st) σ Q :=
  jg_B hf rfl (fun _ _ _ => by subst hp; simp only [mj_stB, jg_z32, if_neg hy, jg_rem, Int32.ofInt_toInt]) kk
theorem jg_ldiv (hf : mj_find M.2.2.2.2.2.2.2 pc = some (.ldiv, a, b, f)) (hp : pc + 1 = pc') (hy : jg_wl y ≠ 0) (kk : jg_G w d M pc' ls (.long (.ofInt (jg_qdiv x y)) :: st) σ Q) : jg_G w d M pc ls (.long (.ofInt y) :: .long (.ofInt x) :: st) σ Q :=
  jg_B hf rfl (fun _ _ _ => by subst hp; simp only [mj_stB, jg_z64, if_neg hy, jg_qdiv, Int64.ofInt_toInt]) kk
theorem jg_lrem (hf : mj_find M.2.2.2.2.2.2.2 pc = some (.lrem, a, b, f)) (hp : pc + 1 = pc') (hy : jg_wl y ≠ 0) (kk : jg_G w d M pc' ls (.long (.ofInt (jg_qrem x y)) :: st) σ Q) : jg_G w d M pc ls (.long (.ofInt y) :: .long (.ofInt x) :: st) σ Q :=
  jg_B hf rfl (fun _ _ _ => by subst hp; simp only [mj_stB, jg_z64, if_neg hy, jg_qrem, Int64.ofInt_toInt]) kk
theorem jg_iinc {k : Nat} {m : Int} (hf : mj_find M.2.2.2.2.2.2.2 pc = some (.iinc k m, a, b, f)) (hl : ls[k]? = some (.int (.ofInt x))) (hp : pc + 3 = pc') (hs : ls.set k (.int (.ofInt (x + m))) = ls') (kk : jg_G w d M pc' ls' st σ Q) : jg_G w d M pc ls st σ Q :=
  jg_A hf rfl (fun _ _ _ => by subst hp; subst hs; simp only [mj_stA, hl, Int32.ofInt_add]) kk
theorem jg_t {c A B : Prop} [Decidable c] (h : if c then A else B) (hc : c) : A := by rwa [if_pos hc] at h
theorem jg_f {c A B : Prop} [Decidable c] (h : if c then A else B) (hc : ¬ c) : B := by rwa [if_neg hc] at h
theorem jg_ifeq {o : Int} (hf : mj_find M.2.2.2.2.2.2.2 pc = some (.ifCond .eq o, a, b, f)) (hp : pc + 3 = pc') (kt : (jg_wr x = 0) → jg_G w d M a ls st σ Q) (ke : ¬ (jg_wr x = 0) → jg_G w d M pc' ls st σ Q) : jg_G w d M pc ls (.int (.ofInt x) :: st) σ Q := by
  subst hp
  by_cases hc : (jg_wr x = 0)
  · exact jg_C hf rfl (fun _ _ _ => by simp only [mj_stC, jg_z32, hc]; rfl) (kt hc)
  · exact jg_C hf rfl (fun _ _ _ => by simp only [mj_stC, jg_z32, hc]; rfl) (ke hc)
theorem jg_iflt {o : Int} (hf : mj_find M.2.2.2.2.2.2.2 pc = some (.ifCond .lt o, a, b, f)) (hp : pc + 3 = pc') (kt : (jg_wr x < 0) → jg_G w d M a ls st σ Q) (ke : ¬ (jg_wr x < 0) → jg_G w d M pc' ls st σ Q) : jg_G w d M pc ls (.int (.ofInt x) :: st) σ Q := by
  subst hp
  by_cases hc : (jg_wr x < 0)
  · exact jg_C hf rfl (fun _ _ _ => by simp only [mj_stC, jg_lt0, hc]; rfl) (kt hc)
  · exact jg_C hf rfl (fun _ _ _ => by simp only [mj_stC, jg_lt0, hc]; rfl) (ke hc)
theorem jg_ifge {o : Int} (hf : mj_find M.2.2.2.2.2.2.2 pc = some (.ifCond .ge o, a, b, f)) (hp : pc + 3 = pc') (kt : (0 ≤ jg_wr x) → jg_G w d M a ls st σ Q) (ke : ¬ (0 ≤ jg_wr x) → jg_G w d M pc' ls st σ Q) : jg_G w d M pc ls (.int (.ofInt x) :: st) σ Q := by
  subst hp
  by_cases hc : (0 ≤ jg_wr x)
  · exact jg_C hf rfl (fun _ _ _ => by simp only [mj_stC, jg_ge0, hc]; rfl) (kt hc)
  · exact jg_C hf rfl (fun _ _ _ => by simp only [mj_stC, jg_ge0, hc]; rfl) (ke hc)
theorem jg_ifgt {o : Int} (hf : mj_find M.2.2.2.2.2.2.2 pc = some (.ifCond .gt o, a, b, f)) (hp : pc + 3 = pc') (kt : (0 < jg_wr x) → jg_G w d M a ls st σ Q) (ke : ¬ (0 < jg_wr x) → jg_G w d M pc' ls st σ Q) : jg_G w d M pc ls (.int (.ofInt x) :: st) σ Q := by
  subst hp
  by_cases hc : (0 < jg_wr x)
  · exact jg_C hf rfl (fun _ _ _ => by simp only [mj_stC, jg_gt0, hc]; rfl) (kt hc)
  · exact jg_C hf rfl (fun _ _ _ => by simp only [mj_stC, jg_gt0, hc]; rfl) (ke hc)
theorem jg_ifle {o : Int} (hf : mj_find M.2.2.2.2.2.2.2 pc = some (.ifCond .le o, a, b, f)) (hp : pc + 3 = pc') (kt : (jg_wr x ≤ 0) → jg_G w d M a ls st σ Q) (ke : ¬ (jg_wr x ≤ 0) → jg_G w d M pc' ls st σ Q) : jg_G w d M pc ls (.int (.ofInt x) :: st) σ Q := by
  subst hp
  by_cases hc : (jg_wr x ≤ 0)
  · exact jg_C hf rfl (fun _ _ _ => by simp only [mj_stC, jg_le0, hc]; rfl) (kt hc)
  · exact jg_C hf rfl (fun _ _ _ => by simp only [mj_stC, jg_le0, hc]; rfl) (ke hc)
theorem jg_ceq {o : Int} (hf : mj_find M.2.2.2.2.2.2.2 pc = some (.if_icmp .eq o, a, b, f)) (hp : pc + 3 = pc') (kt : (jg_wr x = jg_wr y) → jg_G w d M a ls st σ Q) (ke : ¬ (jg_wr x = jg_wr y) → jg_G w d M pc' ls st σ Q) : jg_G w d M pc ls (.int (.ofInt y) :: .int (.ofInt x) :: st) σ Q := by
  subst hp
  by_cases hc : (jg_wr x = jg_wr y)
  · exact jg_C hf rfl (fun _ _ _ => by simp only [mj_stC, jg_eq32, hc]; rfl) (kt hc)
  · exact jg_C hf rfl (fun _ _ _ => by simp only [mj_stC, jg_eq32, hc]; rfl) (ke hc)
theorem jg_clt {o : Int} (hf : mj_find M.2.2.2.2.2.2.2 pc = some (.if_icmp .lt o, a, b, f)) (hp : pc + 3 = pc') (kt : (jg_wr x < jg_wr y) → jg_G w d M a ls st σ Q) (ke : ¬ (jg_wr x < jg_wr y) → jg_G w d M pc' ls st σ Q) : jg_G w d M pc ls (.int (.ofInt y) :: .int (.ofInt x) :: st) σ Q := by
  subst hp
  by_cases hc : (jg_wr x < jg_wr y)
  · exact jg_C hf rfl (fun _ _ _ => by simp only [mj_stC, jg_lt32, hc]; rfl) (kt hc)
  · exact jg_C hf rfl (fun _ _ _ => by simp only [mj_stC, jg_lt32, hc]; rfl) (ke hc)
theorem jg_cge {o : Int} (hf : mj_find M.2.2.2.2.2.2.2 pc = some (.if_icmp .ge o, a, b, f)) (hp : pc + 3 = pc') (kt : (jg_wr y ≤ jg_wr x) → jg_G w d M a ls st σ Q) (ke : ¬ (jg_wr y ≤ jg_wr x) → jg_G w d M pc' ls st σ Q) : jg_G w d M pc ls (.int (.ofInt y) :: .int (.ofInt x) :: st) σ Q := by
  subst hp
  by_cases hc : (jg_wr y ≤ jg_wr x)
  · exact jg_C hf rfl (fun _ _ _ => by simp only [mj_stC, jg_le32, hc]; rfl) (kt hc)
  · exact jg_C hf rfl (fun _ _ _ => by simp only [mj_stC, jg_le32, hc]; rfl) (ke hc)
theorem jg_cgt {o : Int} (hf : mj_find M.2.2.2.2.2.2.2 pc = some (.if_icmp .gt o, a, b, f)) (hp : pc + 3 = pc') (kt : (jg_wr y < jg_wr x) → jg_G w d M a ls st σ Q) (ke : ¬ (jg_wr y < jg_wr x) → jg_G w d M pc' ls st σ Q) : jg_G w d M pc ls (.int (.ofInt y) :: .int (.ofInt x) :: st) σ Q := by
  subst hp
  by_cases hc : (jg_wr y < jg_wr x)
  · exact jg_C hf rfl (fun _ _ _ => by simp only [mj_stC, jg_lt32, hc]; rfl) (kt hc)
  · exact jg_C hf rfl (fun _ _ _ => by simp only [mj_stC, jg_lt32, hc]; rfl) (ke hc)
theorem jg_cle {o : Int} (hf : mj_find M.2.2.2.2.2.2.2 pc = some (.if_icmp .le o, a, b, f)) (hp : pc + 3 = pc') (kt : (jg_wr x ≤ jg_wr y) → jg_G w d M a ls st σ Q) (ke : ¬ (jg_wr x ≤ jg_wr y) → jg_G w d M pc' ls st σ Q) : jg_G w d M pc ls (.int (.ofInt y) :: .int (.ofInt x) :: st) σ Q := by
  subst hp
  by_cases hc : (jg_wr x ≤ jg_wr y)
  · exact jg_C hf rfl (fun _ _ _ => by simp only [mj_stC, jg_le32, hc]; rfl) (kt hc)
  · exact jg_C hf rfl (fun _ _ _ => by simp only [mj_stC, jg_le32, hc]; rfl) (ke hc)
theorem jg_ifne {o : Int} (hf : mj_find M.2.2.2.2.2.2.2 pc = some (.ifCond .ne o, a, b, f)) (hp : pc + 3 = pc') (kt : (jg_wr x = 0) → jg_G w d M pc' ls st σ Q) (ke : ¬ (jg_wr x = 0) → jg_G w d M a ls st σ Q) : jg_G w d M pc ls (.int (.ofInt x) :: st) σ Q := by
  subst hp
  by_cases hc : (jg_wr x = 0)
  · exact jg_C hf rfl (fun _ _ _ => by simp only [mj_stC, jg_z32, hc]; rfl) (kt hc)
  · exact jg_C hf rfl (fun _ _ _ => by simp only [mj_stC, jg_z32, hc]; rfl) (ke hc)
theorem jg_cne {o : Int} (hf : mj_find M.2.2.2.2.2.2.2 pc = some (.if_icmp .ne o, a, b, f)) (hp : pc + 3 = pc') (kt : (jg_wr x = jg_wr y) → jg_G w d M pc' ls st σ Q) (ke : ¬ (jg_wr x = jg_wr y) → jg_G w d M a ls st σ Q) : jg_G w d M pc ls (.int (.ofInt y) :: .int (.ofInt x) :: st) σ Q := by
  subst hp
  by_cases hc : (jg_wr x = jg_wr y)
  · exact jg_C hf rfl (fun _ _ _ => by simp only [mj_stC, jg_eq32, hc]; rfl) (kt hc)
  · exact jg_C hf rfl (fun _ _ _ => by simp only [mj_stC, jg_eq32, hc]; rfl) (ke hc)
theorem jg_goto {o : Int} (hf : mj_find M.2.2.2.2.2.2.2 pc = some (.goto o, a, b, f)) (kk : jg_G w d M a ls st σ Q) : jg_G w d M pc ls st σ Q := jg_C hf rfl (fun _ _ _ => by simp only [mj_stC]) kk
theorem jg_nullT {o : Int} (hf : mj_find M.2.2.2.2.2.2.2 pc = some (.ifnull o, a, b, f)) (kk : jg_G w d M a ls st σ Q) : jg_G w d M pc ls (.null :: st) σ Q := jg_C hf rfl (fun _ _ _ => by simp only [mj_stC]) kk
theorem jg_nullF {o : Int} {r : Nat} (hf : mj_find M.2.2.2.2.2.2.2 pc = some (.ifnull o, a, b, f)) (hp : pc + 3 = pc') (kk : jg_G w d M pc' ls st σ Q) : jg_G w d M pc ls (.ref r :: st) σ Q := jg_C hf rfl (fun _ _ _ => by subst hp; simp only [mj_stC]) kk
theorem jg_nonnullT {o : Int} {r : Nat} (hf : mj_find M.2.2.2.2.2.2.2 pc = some (.ifnonnull o, a, b, f)) (kk : jg_G w d M a ls st σ Q) : jg_G w d M pc ls (.ref r :: st) σ Q := jg_C hf rfl (fun _ _ _ => by simp only [mj_stC]) kk
theorem jg_nonnullF {o : Int} (hf : mj_find M.2.2.2.2.2.2.2 pc = some (.ifnonnull o, a, b, f)) (hp : pc + 3 = pc') (kk : jg_G w d M pc' ls st σ Q) : jg_G w d M pc ls (.null :: st) σ Q := jg_C hf rfl (fun _ _ _ => by subst hp; simp only [mj_stC]) kk
/-- switches: the cases one behind another -/
def jg_sw (x : Int) : List (Int × Nat) → Nat → (Nat → Prop) → Prop
  | [], e, F => F e
  | (v, t) :: r, e, F => (jg_wr x = v → F t) ∧ (¬ jg_wr x = v → jg_sw x r e F)
def jg_tsg (x : Int) : List (Int × Nat) → Nat → Nat
  | [], e => e
  | (v, t) :: r, e => if jg_wr x = v then t else jg_tsg x r e
theorem jg_sw_get {F : Nat → Prop} : ∀ {l : List (Int × Nat)} {e : Nat}, jg_sw x l e F → F (jg_tsg x l e)
  | [], _, h => h
  | (v, t) :: r, e, h => by
    unfold jg_tsg
    split
    · rename_i hc; exact h.1 hc
    · rename_i hc; exact jg_sw_get (h.2 hc)
theorem jg_switch {l : List (Int × Nat)} {e : Nat} (hf : mj_find M.2.2.2.2.2.2.2 pc = some (i, a, b, f)) (hg : mj_grp i = 2) (h1 : ∀ hp sz sl, mj_stC i M.2.2.2.2.1 a pc ls (.int (.ofInt x) :: st) hp sz sl = some (.inl (jg_tsg x l e, ls, st, hp, sz, sl))) (kk : jg_sw x l e (fun t => jg_G w d M t ls st σ Q)) : jg_G w d M pc ls (.int (.ofInt x) :: st) σ Q :=
  jg_C hf hg h1 (jg_sw_get (F := fun t => jg_G w d M t ls st σ Q) kk)
/-- a table of places: lo, lo + 1 .. -/
def jg_ta (pc : Nat) : List Int → Int → List (Int × Nat)
  | [], _ => []
  | o :: r, lo => (lo, ((pc : Int) + o).toNat) :: jg_ta pc r (lo + 1)
theorem jg_ta_out : ∀ (l : List Int) (lo : Int) (e : Nat), (jg_wr x < lo ∨ lo + l.length ≤ jg_wr x) → jg_tsg x (jg_ta pc l lo) e = e
  | [], _, _, _ => rfl
  | o :: l, lo, e, h => by
    rw [List.length_cons] at h
    unfold jg_ta jg_tsg
    rw [if_neg (by omega)]
    exact jg_ta_out l (lo + 1) e (by omega)
theorem jg_ta_in : ∀ (l : List Int) (lo : Int) (e : Nat) (o : Int), lo ≤ jg_wr x → l[(jg_wr x - lo).toNat]? = some o → jg_tsg x (jg_ta pc l lo) e = ((pc : Int) + o).toNat
  | [], _, _, _, _, h => by simp at h
  | q :: l, lo, e, o, hlo, h => by
    unfold jg_ta jg_tsg
    by_cases hc : jg_wr x = lo
    · rw [if_pos hc]
      rw [show (jg_wr x - lo).toNat = 0 by omega] at h
      cases h
      rfl
    · rw [if_neg hc]
      rw [show (jg_wr x - lo).toNat = (jg_wr x - (lo + 1)).toNat + 1 by omega, List.getElem?_cons_succ] at h
      exact jg_ta_in l (lo + 1) e o (by omega) h
theorem jg_tsw {dd lo hi : Int} {offs : Array Int} (hf : mj_find M.2.2.2.2.2.2.2 pc = some (.tableswitch dd lo hi offs, a, b, f)) (hlen : lo + offs.toList.length = hi + 1) (kk : jg_sw x (jg_ta pc offs.toList lo) ((pc : Int) + dd).toNat (fun t => jg_G w d M t ls st σ Q)) : jg_G w d M pc ls (.int (.ofInt x) :: st) σ Q := by
  refine jg_switch hf rfl (fun hp sz sl => ?_) kk
  unfold mj_stC
  dsimp only
  split
  · rename_i hc
    rw [jg_ta_out _ _ _ (by unfold jg_wr; omega)]
  · rename_i hc
    have hlt : ((Int32.ofInt x).toInt - lo).toNat < offs.toList.length := by omega
    rw [← Array.getElem?_toList]
    cases ho : offs.toList[((Int32.ofInt x).toInt - lo).toNat]? with
    | none => rw [List.getElem?_eq_none_iff] at ho; omega
    | some o => rw [jg_ta_in _ _ _ o (by unfold jg_wr; omega) ho]
def jg_la (pc : Nat) (l : List (Int × Int)) : List (Int × Nat) := l.map fun q => (q.1, ((pc : Int) + q.2).toNat)
/-- ends -/
theorem jg_R {v : Option Value} (hf : mj_find M.2.2.2.2.2.2.2 pc = some (i, a, b, f)) (hg : mj_grp i = 2) (h1 : ∀ hp sz sl, mj_stC i M.2.2.2.2.1 a pc ls st hp sz sl = some (.inr (v, hp, sz, sl))) (h : Q v σ) : jg_G w d M pc ls st σ Q := by
  refine ⟨1, v, σ, fun sz sl => ?_, h⟩
  rw [mj_run_eq, hf]
  dsimp only
  have e : mj_one false (mj_cf false mj_ms 0 d) d M i a b pc ls st (jg_en w σ) sz sl = some (.inr (v, jg_en w σ, sz, sl)) := by
    unfold mj_one
    rw [hg]
    exact h1 _ sz sl
  rw [e]
theorem jg_iret {K : Int → jg_M → Prop} (hf : mj_find M.2.2.2.2.2.2.2 pc = some (.ireturn, a, b, f)) (hr : M.2.2.2.2.1 = some .int) (h : K x σ) : jg_G w d M pc ls [.int (.ofInt x)] σ (jg_QI K) :=
  jg_R hf rfl (fun _ _ _ => by rw [hr]; rfl) ⟨x, rfl, h⟩
theorem jg_zret {K : Int → jg_M → Prop} (hf : mj_find M.2.2.2.2.2.2.2 pc = some (.ireturn, a, b, f)) (hr : M.2.2.2.2.1 = some .boolean) (hz : jg_wr x = 0 ∨ jg_wr x = 1) (h : K x σ) : jg_G w d M pc ls [.int (.ofInt x)] σ (jg_QI K) := by
  refine jg_R hf rfl (fun _ _ _ => ?_) ⟨x, rfl, h⟩
  rw [hr]
  have hq : Int32.ofInt x = 0 ∨ Int32.ofInt x = 1 := by
    rcases hz with hz | hz
    · exact Or.inl (jg_z32.mpr hz)
    · exact Or.inr (Int32.toInt_inj.mp (show (Int32.ofInt x).toInt = 1 from hz))
  unfold mj_stC
  dsimp only
  rw [if_pos hq]
theorem jg_lret {K : Int → jg_M → Prop} (hf : mj_find M.2.2.2.2.2.2.2 pc = some (.lreturn, a, b, f)) (hr : M.2.2.2.2.1 = some .long) (h : K x σ) : jg_G w d M pc ls [.long (.ofInt x)] σ (jg_QL K) :=
  jg_R hf rfl (fun _ _ _ => by rw [hr]; rfl) ⟨x, rfl, h⟩
theorem jg_vret {K : jg_M → Prop} (hf : mj_find M.2.2.2.2.2.2.2 pc = some (.return_, a, b, f)) (hr : M.2.2.2.2.1 = none) (h : K σ) : jg_G w d M pc ls [] σ (jg_QV K) :=
  jg_R hf rfl (fun _ _ _ => by rw [hr]; rfl) ⟨rfl, h⟩
/-- fields -/
theorem jg_getI {ix r : Nat} {bi : Int} (hf : mj_find M.2.2.2.2.2.2.2 pc = some (.getfield ix, a, b, f)) (hs : jg_sh r = (a, 0)) (ha : a < 12) (hk : (jg_fk a)[b]? = some 0 ∨ (jg_fk a)[b]? = some 1) (hp : pc + 3 = pc') (hb : bi = b) (kk : jg_G w d M pc' ls (.int (.ofInt (σ.1 r bi)) :: st) σ Q) : jg_G w d M pc ls (.ref r :: st) σ Q := by
  subst hb; subst hp
  refine jg_D hf rfl (fun sz sl => ?_) kk
  unfold mj_stD
  dsimp only
  rw [jg_en_obj hs ha]
  dsimp only
  rw [Nat.beq_refl]
  rcases hk with hk | hk <;> (rw [jg_fs_get hk]; rfl)
theorem jg_getL {ix r : Nat} {bi : Int} (hf : mj_find M.2.2.2.2.2.2.2 pc = some (.getfield ix, a, b, f)) (hs : jg_sh r = (a, 0)) (ha : a < 12) (hk : (jg_fk a)[b]? = some 4) (hp : pc + 3 = pc') (hb : bi = b) (kk : jg_G w d M pc' ls (.long (.ofInt (σ.2 r bi)) :: st) σ Q) : jg_G w d M pc ls (.ref r :: st) σ Q := by
  subst hb; subst hp
  refine jg_D hf rfl (fun sz sl => ?_) kk
  unfold mj_stD
  dsimp only
  rw [jg_en_obj hs ha]
  dsimp only
  rw [Nat.beq_refl, jg_fs_get hk]
  rfl
theorem jg_getO {ix r k : Nat} (hf : mj_find M.2.2.2.2.2.2.2 pc = some (.getfield ix, a, b, f)) (hs : jg_sh r = (a, 0)) (ha : a < 12) (hk : (jg_fk a)[b]? = some (k + 10)) (hp : pc + 3 = pc') (kk : jg_G w d M pc' ls (.ref (r + k) :: st) σ Q) : jg_G w d M pc ls (.ref r :: st) σ Q := by
  subst hp
  refine jg_D hf rfl (fun sz sl => ?_) kk
  unfold mj_stD
  dsimp only
  rw [jg_en_obj hs ha]
  dsimp only
  rw [Nat.beq_refl, jg_fs_get hk]
  rfl
theorem jg_getR {ix r : Nat} {bi : Int} (hf : mj_find M.2.2.2.2.2.2.2 pc = some (.getfield ix, a, b, f)) (hs : jg_sh r = (a, 0)) (ha : a < 12) (hk : (jg_fk a)[b]? = some 2) (hp : pc + 3 = pc') (hb : bi = b) (kk : ∀ q : Nat, q = (σ.1 r bi).toNat → jg_G w d M pc' ls (.ref q :: st) σ Q) : jg_G w d M pc ls (.ref r :: st) σ Q := by
  subst hb; subst hp
  refine jg_D hf rfl (fun sz sl => ?_) (kk _ rfl)
  unfold mj_stD
  dsimp only
  rw [jg_en_obj hs ha]
  dsimp only
  rw [Nat.beq_refl, jg_fs_get hk]
  rfl
theorem jg_getN {ix r : Nat} (hf : mj_find M.2.2.2.2.2.2.2 pc = some (.getfield ix, a, b, f)) (hs : jg_sh r = (a, 0)) (ha : a < 12) (hk : (jg_fk a)[b]? = some 3) (hp : pc + 3 = pc') (k1 : jg_bot r = true → jg_G w d M pc' ls (.null :: st) σ Q) (k2 : ¬ jg_bot r = true → jg_G w d M pc' ls (.ref (r - 2) :: st) σ Q) : jg_G w d M pc ls (.ref r :: st) σ Q := by
  subst hp
  cases hbt : jg_bot r with
  | true =>
    refine jg_D hf rfl (fun sz sl => ?_) (k1 hbt)
    unfold mj_stD
    dsimp only
    rw [jg_en_obj hs ha]
    dsimp only
    rw [Nat.beq_refl, jg_fs_get hk]
    unfold jg_fv
    dsimp only
    rw [hbt]
    rfl
  | false =>
    refine jg_D hf rfl (fun sz sl => ?_) (k2 (by rw [hbt]; decide))
    unfold mj_stD
    dsimp only
    rw [jg_en_obj hs ha]
    dsimp only
    rw [Nat.beq_refl, jg_fs_get hk]
    unfold jg_fv
    dsimp only
    rw [hbt]
    rfl
theorem jg_ne_pair {c r : Nat} {k bi : Int} {t : Int} {o : Int} (h : c ≠ r ∨ k ≠ bi) : (if c = r ∧ k = bi then t else o) = o := if_neg (fun q => h.elim (fun h => h q.1) (fun h => h q.2))
theorem jg_putX {ix r k : Nat} {v : Value} (hf : mj_find M.2.2.2.2.2.2.2 pc = some (.putfield ix, a, b, f)) (hs : jg_sh r = (a, 0)) (ha : a < 12) (hk : (jg_fk a)[b]? = some k) (hp : pc + 3 = pc') (hv : fits (mj_ty a b) v = true) (he : mj_set (jg_en w σ) r (.inr (a, (jg_fs σ r a).set b v)) = jg_en w τ) (kk : jg_G w d M pc' ls st τ Q) : jg_G w d M pc ls (v :: .ref r :: st) σ Q := by
  subst hp
  refine jg_D hf rfl (fun sz sl => ?_) kk
  unfold mj_stD
  dsimp only
  rw [jg_en_obj hs ha]
  dsimp only
  have h1 : Nat.ble (b + 1) (jg_fs σ r a).length = true := by rw [jg_fs_len]; exact Nat.ble_eq_true_of_le (List.getElem?_eq_some_iff.mp hk).1
  rw [Nat.beq_refl, h1, hv, he]
  rfl
theorem jg_putI {ix r : Nat} {bi : Int} (hf : mj_find M.2.2.2.2.2.2.2 pc = some (.putfield ix, a, b, f)) (hs : jg_sh r = (a, 0)) (ha : a < 12) (hk : (jg_fk a)[b]? = some 0) (ht : mj_ty a b = .int) (hp : pc + 3 = pc') (hb : bi = b) (kk : ∀ τ, τ = jg_sI σ r bi x → jg_G w d M pc' ls st τ Q) : jg_G w d M pc ls (.int (.ofInt x) :: .ref r :: st) σ Q := by
  subst hb
  refine jg_putX hf hs ha hk hp (by rw [ht]; rfl) (jg_set_obj (σ := σ) (τ := jg_sI σ r b x) hs ha hk (fun i h => ?_) (fun i h => rfl) ?_ (fun c i h => ?_) (fun c i h => rfl)) (kk _ rfl)
  · exact jg_ne_pair (Or.inr h)
  · unfold jg_fv jg_sI; simp
  · exact jg_ne_pair (Or.inl h)
theorem jg_putZ {ix r : Nat} {bi : Int} (hf : mj_find M.2.2.2.2.2.2.2 pc = some (.putfield ix, a, b, f)) (hs : jg_sh r = (a, 0)) (ha : a < 12) (hk : (jg_fk a)[b]? = some 1) (ht : mj_ty a b = .boolean) (hz : jg_wr x = 0 ∨ jg_wr x = 1) (hp : pc + 3 = pc') (hb : bi = b) (kk : ∀ τ, τ = jg_sI σ r bi x → jg_G w d M pc' ls st τ Q) : jg_G w d M pc ls (.int (.ofInt x) :: .ref r :: st) σ Q := by
  subst hb
  refine jg_putX hf hs ha hk hp ?_ (jg_set_obj (σ := σ) (τ := jg_sI σ r b x) hs ha hk (fun i h => ?_) (fun i h => rfl) ?_ (fun c i h => ?_) (fun c i h => rfl)) (kk _ rfl)
  · rw [ht]
    rcases hz with hz | hz
    · rw [jg_z32.mpr hz]; rfl
    · rw [show Int32.ofInt x = 1 from Int32.toInt_inj.mp hz]; rfl
  · exact jg_ne_pair (Or.inr h)
  · unfold jg_fv jg_sI; simp
  · exact jg_ne_pair (Or.inl h)
theorem jg_putL {ix r : Nat} {bi : Int} (hf : mj_find M.2.2.2.2.2.2.2 pc = some (.putfield ix, a, b, f)) (hs : jg_sh r = (a, 0)) (ha : a < 12) (hk : (jg_fk a)[b]? = some 4) (ht : mj_ty a b = .long) (hp : pc + 3 = pc') (hb : bi = b) (kk : ∀ τ, τ = jg_sL σ r bi x → jg_G w d M pc' ls st τ Q) : jg_G w d M pc ls (.long (.ofInt x) :: .ref r :: st) σ Q := by
  subst hb
  refine jg_putX hf hs ha hk hp (by rw [ht]; rfl) (jg_set_obj (σ := σ) (τ := jg_sL σ r b x) hs ha hk (fun i h => rfl) (fun i h => ?_) ?_ (fun c i h => rfl) (fun c i h => ?_)) (kk _ rfl)
  · exact jg_ne_pair (Or.inr h)
  · unfold jg_fv jg_sL; simp
  · exact jg_ne_pair (Or.inl h)
theorem jg_putR {ix r q : Nat} {bi : Int} (hf : mj_find M.2.2.2.2.2.2.2 pc = some (.putfield ix, a, b, f)) (hs : jg_sh r = (a, 0)) (ha : a < 12) (hk : (jg_fk a)[b]? = some 2) (ht : fits (mj_ty a b) (.ref q) = true) (hp : pc + 3 = pc') (hb : bi = b) (kk : ∀ τ, τ = jg_sI σ r bi (q : Int) → jg_G w d M pc' ls st τ Q) : jg_G w d M pc ls (.ref q :: .ref r :: st) σ Q := by
  subst hb
  refine jg_putX hf hs ha hk hp ht (jg_set_obj (σ := σ) (τ := jg_sI σ r b (q : Int)) hs ha hk (fun i h => ?_) (fun i h => rfl) ?_ (fun c i h => ?_) (fun c i h => rfl)) (kk _ rfl)
  · exact jg_ne_pair (Or.inr h)
  · unfold jg_fv jg_sI; simp
  · exact jg_ne_pair (Or.inl h)
/-- arrays -/
theorem jg_ix (h : 0 ≤ jg_wr x ∧ jg_wr x < (n : Int)) : ¬ (Int32.ofInt x < 0 ∨ n ≤ (Int32.ofInt x).toNatClampNeg) ∧ (((Int32.ofInt x).toNatClampNeg : Nat) : Int) = jg_wr x := by
  have h1 : (Int32.ofInt x).toNatClampNeg = (jg_wr x).toNat := rfl
  rw [h1, jg_lt0]
  omega
theorem jg_iald {r : Nat} (hf : mj_find M.2.2.2.2.2.2.2 pc = some (.iaload, a, b, f)) (hs : jg_sh r = (20, n)) (hi : 0 ≤ jg_wr x ∧ jg_wr x < (n : Int)) (hp : pc + 1 = pc') (kk : jg_G w d M pc' ls (.int (.ofInt (σ.1 r (jg_wr x))) :: st) σ Q) : jg_G w d M pc ls (.int (.ofInt x) :: .ref r :: st) σ Q := by
  subst hp
  refine jg_D hf rfl (fun sz sl => ?_) kk
  unfold mj_stD
  dsimp only
  rw [jg_en_20 hs]
  dsimp only
  rw [if_pos ⟨Or.inl rfl, (jg_ix hi).1⟩, (jg_ix hi).2]
theorem jg_zald {r : Nat} (hf : mj_find M.2.2.2.2.2.2.2 pc = some (.baload, a, b, f)) (hs : jg_sh r = (22, n)) (hi : 0 ≤ jg_wr x ∧ jg_wr x < (n : Int)) (hp : pc + 1 = pc') (kk : jg_G w d M pc' ls (.int (.ofInt (σ.1 r (jg_wr x))) :: st) σ Q) : jg_G w d M pc ls (.int (.ofInt x) :: .ref r :: st) σ Q := by
  subst hp
  refine jg_D hf rfl (fun sz sl => ?_) kk
  unfold mj_stD
  dsimp only
  rw [jg_en_22 hs]
  dsimp only
  rw [if_pos ⟨rfl, (jg_ix hi).1⟩, (jg_ix hi).2]
theorem jg_lald {r : Nat} (hf : mj_find M.2.2.2.2.2.2.2 pc = some (.laload, a, b, f)) (hs : jg_sh r = (21, n)) (hi : 0 ≤ jg_wr x ∧ jg_wr x < (n : Int)) (hp : pc + 1 = pc') (kk : jg_G w d M pc' ls (.long (.ofInt (σ.2 r (jg_wr x))) :: st) σ Q) : jg_G w d M pc ls (.int (.ofInt x) :: .ref r :: st) σ Q := by
  subst hp
  refine jg_D hf rfl (fun sz sl => ?_) kk
  unfold mj_stD
  dsimp only
  rw [jg_en_21 hs]
  dsimp only
  rw [if_pos ⟨rfl, (jg_ix hi).1⟩, (jg_ix hi).2]
theorem jg_pl_of {j : Nat} : mj_pl j = Int32.ofInt (jg_pl j) := by
  unfold mj_pl jg_pl
  rw [Int.toNat_natCast]
  match j with
  | 0 => rfl
  | 1 => rfl
  | 2 => rfl
  | 3 => rfl
  | 4 => rfl
  | 5 => rfl
  | j + 6 => rfl
theorem jg_tald (hf : mj_find M.2.2.2.2.2.2.2 pc = some (.iaload, a, b, f)) (hi : 0 ≤ jg_wr x ∧ jg_wr x < ((6 : Nat) : Int)) (hp : pc + 1 = pc') (kk : jg_G w d M pc' ls (.int (.ofInt (jg_pl (jg_wr x))) :: st) σ Q) : jg_G w d M pc ls (.int (.ofInt x) :: .ref 999999 :: st) σ Q := by
  subst hp
  refine jg_D hf rfl (fun sz sl => ?_) kk
  unfold mj_stD
  dsimp only
  rw [jg_en_tab]
  dsimp only
  rw [if_pos ⟨Or.inr ⟨rfl, rfl⟩, (jg_ix hi).1⟩, jg_pl_of, (jg_ix hi).2]
theorem jg_gets {ix : Nat} (hf : mj_find M.2.2.2.2.2.2.2 pc = some (.getstatic ix, a, b, f)) (hp : pc + 3 = pc') (kk : jg_G w d M pc' ls (.ref 999999 :: st) σ Q) : jg_G w d M pc ls st σ Q := by
  subst hp
  exact jg_D hf rfl (fun sz sl => by unfold mj_stD; rfl) kk
theorem jg_alen {r k : Nat} {ni : Int} (hf : mj_find M.2.2.2.2.2.2.2 pc = some (.arraylength, a, b, f)) (hs : jg_sh r = (k, n)) (hk : k = 20 ∨ k = 21 ∨ k = 22) (hp : pc + 1 = pc') (hn : ni = n) (kk : jg_G w d M pc' ls (.int (.ofInt ni) :: st) σ Q) : jg_G w d M pc ls (.ref r :: st) σ Q := by
  subst hp; subst hn
  refine jg_D hf rfl (fun sz sl => ?_) kk
  unfold mj_stD
  dsimp only
  rcases hk with rfl | rfl | rfl
  · rw [jg_en_20 hs, Int32.ofInt_eq_ofNat]; rfl
  · rw [jg_en_21 hs, Int32.ofInt_eq_ofNat]; rfl
  · rw [jg_en_22 hs, Int32.ofInt_eq_ofNat]; rfl
theorem jg_upd_eq {F : Int → Int} {j : Nat} {v : Int} : upd (fun i : Nat => Int32.ofInt (F i)) j (Int32.ofInt v) = fun i : Nat => Int32.ofInt (if (i : Int) = (j : Int) then v else F i) := by
  funext i
  unfold upd
  by_cases h : i = j
  · subst h; simp
  · rw [if_neg h, if_neg (by omega)]
theorem jg_iast {r : Nat} (hf : mj_find M.2.2.2.2.2.2.2 pc = some (.iastore, a, b, f)) (hs : jg_sh r = (20, n)) (hi : 0 ≤ jg_wr x ∧ jg_wr x < (n : Int)) (hp : pc + 1 = pc') (kk : ∀ τ, τ = jg_sI σ r (jg_wr x) y → jg_G w d M pc' ls st τ Q) : jg_G w d M pc ls (.int (.ofInt y) :: .int (.ofInt x) :: .ref r :: st) σ Q := by
  subst hp
  refine jg_D hf rfl (fun sz sl => ?_) (kk _ rfl)
  unfold mj_stD
  dsimp only
  rw [jg_en_20 hs]
  dsimp only
  rw [if_pos ⟨rfl, (jg_ix hi).1⟩, jg_upd_eq, (jg_ix hi).2, jg_set_cell (σ := σ) (τ := jg_sI σ r (jg_wr x) y) (by rw [jg_en_20 hs]; simp [jg_sI]) (fun c i h => jg_ne_pair (Or.inl h)) (fun _ _ _ => rfl)]
theorem jg_zast {r : Nat} (hf : mj_find M.2.2.2.2.2.2.2 pc = some (.bastore, a, b, f)) (hs : jg_sh r = (22, n)) (hi : 0 ≤ jg_wr x ∧ jg_wr x < (n : Int)) (hp : pc + 1 = pc') (kk : ∀ τ, τ = jg_sI σ r (jg_wr x) (jg_nar y) → jg_G w d M pc' ls st τ Q) : jg_G w d M pc ls (.int (.ofInt y) :: .int (.ofInt x) :: .ref r :: st) σ Q := by
  subst hp
  refine jg_D hf rfl (fun sz sl => ?_) (kk _ rfl)
  unfold mj_stD
  dsimp only
  rw [jg_en_22 hs]
  dsimp only
  rw [if_pos ⟨rfl, (jg_ix hi).1⟩, show vp_nar .boolean (Int32.ofInt y) = Int32.ofInt (jg_nar y) from (Int32.ofInt_toInt _).symm, jg_upd_eq, (jg_ix hi).2, jg_set_cell (σ := σ) (τ := jg_sI σ r (jg_wr x) (jg_nar y)) (by rw [jg_en_22 hs]; simp [jg_sI]) (fun c i h => jg_ne_pair (Or.inl h)) (fun _ _ _ => rfl)]
theorem jg_last {r : Nat} (hf : mj_find M.2.2.2.2.2.2.2 pc = some (.lastore, a, b, f)) (hs : jg_sh r = (21, n)) (hi : 0 ≤ jg_wr x ∧ jg_wr x < (n : Int)) (hp : pc + 1 = pc') (kk : ∀ τ, τ = jg_sL σ r (jg_wr x) y → jg_G w d M pc' ls st τ Q) : jg_G w d M pc ls (.long (.ofInt y) :: .int (.ofInt x) :: .ref r :: st) σ Q := by
  subst hp
  refine jg_D hf rfl (fun sz sl => ?_) (kk _ rfl)
  unfold mj_stD
  dsimp only
  rw [jg_en_21 hs]
  dsimp only
  have e : vp_updL (fun i : Nat => Int64.ofInt (σ.2 r i)) (Int32.ofInt x).toNatClampNeg (Int64.ofInt y) = fun i : Nat => Int64.ofInt (if (i : Int) = jg_wr x then y else σ.2 r i) := by
    funext i
    unfold vp_updL
    rw [← (jg_ix hi).2]
    by_cases h : i = (Int32.ofInt x).toNatClampNeg
    · subst h; simp
    · rw [if_neg h, if_neg (by omega)]
  rw [if_pos ⟨rfl, (jg_ix hi).1⟩, e, jg_set_cell (σ := σ) (τ := jg_sL σ r (jg_wr x) y) (by rw [jg_en_21 hs]; simp [jg_sL]) (fun _ _ _ => rfl) (fun c i h => jg_ne_pair (Or.inl h))]
/-- calls -/
theorem jg_E (hf : mj_find M.2.2.2.2.2.2.2 pc = some (i, a, b, f)) (hg : mj_grp i = 4) (h1 : ∀ call sz sl, mj_stE call d (mj_Cof a) (mj_nof a) a b pc ls st (jg_en w σ) sz sl = some (.inl (pc', ls', st', jg_en w τ, sz, sl))) (kk : jg_G w d M pc' ls' st' τ Q) : jg_G w d M pc ls st σ Q :=
  jg_step hf (fun call sz sl => by unfold mj_one; rw [hg]; exact h1 call sz sl) kk
theorem jg_max {ix : Nat} (hf : mj_find M.2.2.2.2.2.2.2 pc = some (.invokestatic ix, a, 8, f)) (hd : 1 ≤ d) (hc : (st.map Value.category).sum ≤ 8) (hp : pc + 3 = pc') (kk : jg_G w d M pc' ls (.int (.ofInt (if jg_wr x < jg_wr y then y else x)) :: st) σ Q) : jg_G w d M pc ls (.int (.ofInt y) :: .int (.ofInt x) :: st) σ Q := by
  subst hp
  obtain ⟨d, rfl⟩ : ∃ j, d = j + 1 := ⟨d - 1, by omega⟩
  refine jg_E hf rfl (fun call sz sl => ?_) kk
  rw [mj_stE8]
  dsimp only
  rw [if_pos hc]
  simp only [jg_lt32]
  split <;> rfl
theorem jg_min {ix : Nat} (hf : mj_find M.2.2.2.2.2.2.2 pc = some (.invokestatic ix, a, 9, f)) (hd : 1 ≤ d) (hc : (st.map Value.category).sum ≤ 8) (hp : pc + 3 = pc') (kk : jg_G w d M pc' ls (.int (.ofInt (if jg_wr y < jg_wr x then y else x)) :: st) σ Q) : jg_G w d M pc ls (.int (.ofInt y) :: .int (.ofInt x) :: st) σ Q := by
  subst hp
  obtain ⟨d, rfl⟩ : ∃ j, d = j + 1 := ⟨d - 1, by omega⟩
  refine jg_E hf rfl (fun call sz sl => ?_) kk
  rw [mj_stE9]
  dsimp only
  rw [if_pos hc]
  simp only [jg_lt32]
  split <;> rfl
theorem jg_cpI {ix r0 r1 n0 n1 : Nat} {m dp sp : Int} (hf : mj_find M.2.2.2.2.2.2.2 pc = some (.invokestatic ix, a, 6, f)) (hd : 1 ≤ d) (hc : (st.map Value.category).sum ≤ 8) (hs0 : jg_sh r0 = (20, n0)) (hs1 : jg_sh r1 = (20, n1)) (hi : 0 ≤ jg_wr sp ∧ 0 ≤ jg_wr dp ∧ 0 ≤ jg_wr m ∧ jg_wr sp + jg_wr m ≤ (n0 : Int) ∧ jg_wr dp + jg_wr m ≤ (n1 : Int)) (hp : pc + 3 = pc')
    (kk : ∀ τ, τ = jg_cI σ r0 (jg_wr sp) r1 (jg_wr dp) (jg_wr m) → jg_G w d M pc' ls st τ Q) : jg_G w d M pc ls (.int (.ofInt m) :: .int (.ofInt dp) :: .ref r1 :: .int (.ofInt sp) :: .ref r0 :: st) σ Q := by
  subst hp
  obtain ⟨d, rfl⟩ : ∃ j, d = j + 1 := ⟨d - 1, by omega⟩
  refine jg_E hf rfl (fun call sz sl => ?_) (kk _ rfl)
  rw [mj_stE6]
  dsimp only
  rw [jg_en_20 hs0, jg_en_20 hs1]
  dsimp only
  obtain ⟨i1, i2, i3, i4, i5⟩ := hi
  have e1 : (Int32.ofInt sp).toNatClampNeg = (jg_wr sp).toNat := rfl
  have e2 : (Int32.ofInt dp).toNatClampNeg = (jg_wr dp).toNat := rfl
  have e3 : (Int32.ofInt m).toNatClampNeg = (jg_wr m).toNat := rfl
  rw [if_pos ⟨rfl, rfl, by rw [jg_lt0]; omega, by rw [jg_lt0]; omega, by rw [jg_lt0]; omega, by omega, by omega, hc⟩]
  have e : va_cpy (fun i : Nat => Int32.ofInt (σ.1 r0 i)) (fun i : Nat => Int32.ofInt (σ.1 r1 i)) (Int32.ofInt sp).toNatClampNeg (Int32.ofInt dp).toNatClampNeg (Int32.ofInt m).toNatClampNeg = fun i : Nat => Int32.ofInt ((jg_cI σ r0 (jg_wr sp) r1 (jg_wr dp) (jg_wr m)).1 r1 i) := by
    funext i
    unfold va_cpy jg_cI
    dsimp only
    rw [e1, e2, e3]
    by_cases h : (jg_wr dp).toNat ≤ i ∧ i < (jg_wr dp).toNat + (jg_wr m).toNat
    · rw [if_pos h, if_pos ⟨rfl, by omega, by omega⟩]
      rw [show (((jg_wr sp).toNat + (i - (jg_wr dp).toNat) : Nat) : Int) = jg_wr sp + ((i : Int) - jg_wr dp) by omega]
    · rw [if_neg h, if_neg (by omega)]
  rw [e, jg_set_cell (σ := σ) (τ := jg_cI σ r0 (jg_wr sp) r1 (jg_wr dp) (jg_wr m)) (by rw [jg_en_20 hs1]) (fun c i h => if_neg (fun q => h q.1)) (fun _ _ _ => rfl)]
theorem jg_cpL {ix r0 r1 n0 n1 : Nat} {m dp sp : Int} (hf : mj_find M.2.2.2.2.2.2.2 pc = some (.invokestatic ix, a, 7, f)) (hd : 1 ≤ d) (hc : (st.map Value.category).sum ≤ 8) (hs0 : jg_sh r0 = (21, n0)) (hs1 : jg_sh r1 = (21, n1)) (hi : 0 ≤ jg_wr sp ∧ 0 ≤ jg_wr dp ∧ 0 ≤ jg_wr m ∧ jg_wr sp + jg_wr m ≤ (n0 : Int) ∧ jg_wr dp + jg_wr m ≤ (n1 : Int)) (hp : pc + 3 = pc')
    (kk : ∀ τ, τ = jg_cL σ r0 (jg_wr sp) r1 (jg_wr dp) (jg_wr m) → jg_G w d M pc' ls st τ Q) : jg_G w d M pc ls (.int (.ofInt m) :: .int (.ofInt dp) :: .ref r1 :: .int (.ofInt sp) :: .ref r0 :: st) σ Q := by
  subst hp
  obtain ⟨d, rfl⟩ : ∃ j, d = j + 1 := ⟨d - 1, by omega⟩
  refine jg_E hf rfl (fun call sz sl => ?_) (kk _ rfl)
  rw [mj_stE7]
  dsimp only
  rw [jg_en_21 hs0, jg_en_21 hs1]
  dsimp only
  obtain ⟨i1, i2, i3, i4, i5⟩ := hi
  have e1 : (Int32.ofInt sp).toNatClampNeg = (jg_wr sp).toNat := rfl
  have e2 : (Int32.ofInt dp).toNatClampNeg = (jg_wr dp).toNat := rfl
  have e3 : (Int32.ofInt m).toNatClampNeg = (jg_wr m).toNat := rfl
  rw [if_pos ⟨rfl, rfl, by rw [jg_lt0]; omega, by rw [jg_lt0]; omega, by rw [jg_lt0]; omega, by omega, by omega, hc⟩]
  have e : va_cpy (fun i : Nat => Int64.ofInt (σ.2 r0 i)) (fun i : Nat => Int64.ofInt (σ.2 r1 i)) (Int32.ofInt sp).toNatClampNeg (Int32.ofInt dp).toNatClampNeg (Int32.ofInt m).toNatClampNeg = fun i : Nat => Int64.ofInt ((jg_cL σ r0 (jg_wr sp) r1 (jg_wr dp) (jg_wr m)).2 r1 i) := by
    funext i
    unfold va_cpy jg_cL
    dsimp only
    rw [e1, e2, e3]
    by_cases h : (jg_wr dp).toNat ≤ i ∧ i < (jg_wr dp).toNat + (jg_wr m).toNat
    · rw [if_pos h, if_pos ⟨rfl, by omega, by omega⟩]
      rw [show (((jg_wr sp).toNat + (i - (jg_wr dp).toNat) : Nat) : Int) = jg_wr sp + ((i : Int) - jg_wr dp) by omega]
    · rw [if_neg h, if_neg (by omega)]
  rw [e, jg_set_cell (σ := σ) (τ := jg_cL σ r0 (jg_wr sp) r1 (jg_wr dp) (jg_wr m)) (by rw [jg_en_21 hs1]) (fun _ _ _ => rfl) (fun c i h => if_neg (fun q => h q.1))]
/-- a call, with the callee's run given -/
theorem jg_call {hy : Nat} {K : Option Value → jg_M → Prop} (hf : mj_find M.2.2.2.2.2.2.2 pc = some (i, a, b, f)) (hg : mj_grp i = 4) (hM : mj_ms[a]? = some M1) (hd : hy + 1 ≤ d) (hl : (mj_flat As).length ≤ M1.2.2.2.1 ∧ mj_lok M1.2.2.2.2.2.1 0 (mj_flat As) = true)
    (h1 : ∀ call sz sl v τ, call a As (jg_en w σ) sz sl = some (v, jg_en w τ, sz, sl) → mj_stE call d (mj_Cof a) (mj_nof a) a b pc ls st (jg_en w σ) sz sl = some (.inl (pc', ls, v.toList ++ st', jg_en w τ, sz, sl)))
    (h : jg_G w hy M1 0 (mj_lc As M1.2.2.2.1) [] σ K) (kk : ∀ v τ, K v τ → jg_G w d M pc' ls (v.toList ++ st') τ Q) : jg_G w d M pc ls st σ Q := by
  obtain ⟨k, v, τ, h2, h3⟩ := h
  obtain ⟨k', v', τ', h4, h5⟩ := kk v τ h3
  obtain ⟨d, rfl⟩ : ∃ j, d = j + 1 := ⟨d - 1, by omega⟩
  refine ⟨(k + k') + 1, v', τ', fun sz sl => ?_, h5⟩
  rw [mj_run_eq, hf]
  dsimp only
  have hcall : mj_cf false mj_ms (k + k') (d + 1) a As (jg_en w σ) sz sl = some (v, jg_en w τ, sz, sl) := by
    unfold mj_cf
    dsimp only
    rw [hM]
    dsimp only
    rw [if_pos hl]
    exact mj_run_le (fun h => h) k _ hy _ _ _ _ (by omega) (by omega) (h2 sz sl)
  have e : mj_one false (mj_cf false mj_ms (k + k') (d + 1)) (d + 1) M i a b pc ls st (jg_en w σ) sz sl = some (.inl (pc', ls, v.toList ++ st', jg_en w τ, sz, sl)) := by
    unfold mj_one
    rw [hg]
    exact h1 _ sz sl v τ hcall
  rw [e]
  exact mj_run_le (fun h => h) k' _ (d + 1) _ _ _ _ (by omega) (Nat.le_refl _) (h4 sz sl)
theorem jg_calX {hy ix r : Nat} {K : Option Value → jg_M → Prop} (hf : mj_find M.2.2.2.2.2.2.2 pc = some (.invokevirtual ix, a, 0, f)) (hM : mj_ms[a]? = some M1) (hd : hy + 1 ≤ d) (hn : mj_pop M1.2.2.2.2.2.2.1 [] st = some (As, .ref r :: st')) (hs : jg_sh r = (M1.1, 0)) (hc : M1.1 < 12) (hl : (mj_flat (.ref r :: As)).length ≤ M1.2.2.2.1 ∧ mj_lok M1.2.2.2.2.2.1 0 (mj_flat (.ref r :: As)) = true) (hct : (st'.map Value.category).sum ≤ 8) (hp : pc + 3 = pc')
    (h : jg_G w hy M1 0 (mj_lc (.ref r :: As) M1.2.2.2.1) [] σ K) (kk : ∀ v τ, K v τ → jg_G w d M pc' ls (v.toList ++ st') τ Q) : jg_G w d M pc ls st σ Q := by
  subst hp
  refine jg_call hf rfl hM hd hl (fun call sz sl v τ hcall => ?_) h kk
  rw [mj_stE0]
  have e1 : mj_nof a = M1.2.2.2.2.2.2.1 := by unfold mj_nof; rw [hM]
  have e2 : mj_Cof a = M1.1 := by unfold mj_Cof; rw [hM]
  rw [e1, e2, hn]
  dsimp only
  rw [jg_en_obj hs hc]
  dsimp only
  rw [if_pos ⟨rfl, hct⟩, hcall]
theorem jg_calS {hy ix : Nat} {K : Option Value → jg_M → Prop} (hf : mj_find M.2.2.2.2.2.2.2 pc = some (.invokestatic ix, a, b, f)) (hb : b = 1 ∨ b = 2) (hM : mj_ms[a]? = some M1) (hd : hy + 1 ≤ d) (hn : mj_pop M1.2.2.2.2.2.2.1 [] st = some (As, st')) (hl : (mj_flat As).length ≤ M1.2.2.2.1 ∧ mj_lok M1.2.2.2.2.2.1 0 (mj_flat As) = true) (hct : (st'.map Value.category).sum ≤ 8) (hp : pc + 3 = pc')
    (h : jg_G w hy M1 0 (mj_lc As M1.2.2.2.1) [] σ K) (kk : ∀ v τ, K v τ → jg_G w d M pc' ls (v.toList ++ st') τ Q) : jg_G w d M pc ls st σ Q := by
  subst hp
  refine jg_call hf rfl hM hd hl (fun call sz sl v τ hcall => ?_) h kk
  have e1 : mj_nof a = M1.2.2.2.2.2.2.1 := by unfold mj_nof; rw [hM]
  rcases hb with rfl | rfl
  · rw [mj_stE1, e1, hn]
    dsimp only
    rw [if_pos hct, hcall]
  · rw [mj_stE2, e1, hn]
    dsimp only
    rw [if_pos hct, hcall]
theorem jg_kI {F : Int → jg_M → Prop} {s0 : List Value} (h : ∀ z τ, F z τ → jg_G w d M pc ls (.int (.ofInt z) :: s0) τ Q) : ∀ v τ, jg_QI F v τ → jg_G w d M pc ls (v.toList ++ s0) τ Q := by
  rintro v τ ⟨z, rfl, hz⟩
  exact h z τ hz
theorem jg_kL {F : Int → jg_M → Prop} {s0 : List Value} (h : ∀ z τ, F z τ → jg_G w d M pc ls (.long (.ofInt z) :: s0) τ Q) : ∀ v τ, jg_QL F v τ → jg_G w d M pc ls (v.toList ++ s0) τ Q := by
  rintro v τ ⟨z, rfl, hz⟩
  exact h z τ hz
theorem jg_kV {F : jg_M → Prop} {s0 : List Value} (h : ∀ τ, F τ → jg_G w d M pc ls s0 τ Q) : ∀ v τ, jg_QV F v τ → jg_G w d M pc ls (v.toList ++ s0) τ Q := by
  rintro v τ ⟨rfl, hz⟩
  exact h τ hz
end JGB
theorem jg_sX0_5 {a : Nat} (h : jg_sh a = (0, 0)) : jg_sh (a + 1) = (20, 15) := by
  have hl := jg_sh_lt h (by decide)
  have hb : ∀ a : Fin 92, jg_sh a.val = (0, 0) → jg_sh (a.val + 1) = (20, 15) := by decide +kernel
  exact hb ⟨a, hl⟩ h
theorem jg_sX0_6 {a : Nat} (h : jg_sh a = (0, 0)) : jg_sh (a + 2) = (20, 7) := by
  have hl := jg_sh_lt h (by decide)
  have hb : ∀ a : Fin 92, jg_sh a.val = (0, 0) → jg_sh (a.val + 2) = (20, 7) := by decide +kernel
  exact hb ⟨a, hl⟩ h
theorem jg_sX0_7 {a : Nat} (h : jg_sh a = (0, 0)) : jg_sh (a + 3) = (20, 7) := by
  have hl := jg_sh_lt h (by decide)
  have hb : ∀ a : Fin 92, jg_sh a.val = (0, 0) → jg_sh (a.val + 3) = (20, 7) := by decide +kernel
  exact hb ⟨a, hl⟩ h
theorem jg_sX0_8 {a : Nat} (h : jg_sh a = (0, 0)) : jg_sh (a + 4) = (20, 12) := by
  have hl := jg_sh_lt h (by decide)
  have hb : ∀ a : Fin 92, jg_sh a.val = (0, 0) → jg_sh (a.val + 4) = (20, 12) := by decide +kernel
  exact hb ⟨a, hl⟩ h
theorem jg_sX0_9 {a : Nat} (h : jg_sh a = (0, 0)) : jg_sh (a + 5) = (20, 12) := by
  have hl := jg_sh_lt h (by decide)
  have hb : ∀ a : Fin 92, jg_sh a.val = (0, 0) → jg_sh (a.val + 5) = (20, 12) := by decide +kernel
  exact hb ⟨a, hl⟩ h
theorem jg_sX0_10 {a : Nat} (h : jg_sh a = (0, 0)) : jg_sh (a + 6) = (20, 48) := by
  have hl := jg_sh_lt h (by decide)
  have hb : ∀ a : Fin 92, jg_sh a.val = (0, 0) → jg_sh (a.val + 6) = (20, 48) := by decide +kernel
  exact hb ⟨a, hl⟩ h
theorem jg_sX0_12 {a : Nat} (h : jg_sh a = (0, 0)) : jg_sh (a + 7) = (20, 5) := by
  have hl := jg_sh_lt h (by decide)
  have hb : ∀ a : Fin 92, jg_sh a.val = (0, 0) → jg_sh (a.val + 7) = (20, 5) := by decide +kernel
  exact hb ⟨a, hl⟩ h
theorem jg_sX0_13 {a : Nat} (h : jg_sh a = (0, 0)) : jg_sh (a + 8) = (20, 5) := by
  have hl := jg_sh_lt h (by decide)
  have hb : ∀ a : Fin 92, jg_sh a.val = (0, 0) → jg_sh (a.val + 8) = (20, 5) := by decide +kernel
  exact hb ⟨a, hl⟩ h
theorem jg_sX1_2 {a : Nat} (h : jg_sh a = (1, 0)) : jg_sh (a + 1) = (20, 24) := by
  have hl := jg_sh_lt h (by decide)
  have hb : ∀ a : Fin 92, jg_sh a.val = (1, 0) → jg_sh (a.val + 1) = (20, 24) := by decide +kernel
  exact hb ⟨a, hl⟩ h
theorem jg_sX1_3 {a : Nat} (h : jg_sh a = (1, 0)) : jg_sh (a + 2) = (22, 24) := by
  have hl := jg_sh_lt h (by decide)
  have hb : ∀ a : Fin 92, jg_sh a.val = (1, 0) → jg_sh (a.val + 2) = (22, 24) := by decide +kernel
  exact hb ⟨a, hl⟩ h
theorem jg_sX1_4 {a : Nat} (h : jg_sh a = (1, 0)) : jg_sh (a + 3) = (20, 24) := by
  have hl := jg_sh_lt h (by decide)
  have hb : ∀ a : Fin 92, jg_sh a.val = (1, 0) → jg_sh (a.val + 3) = (20, 24) := by decide +kernel
  exact hb ⟨a, hl⟩ h
theorem jg_sX2_1 {a : Nat} (h : jg_sh a = (2, 0)) : jg_sh (a + 1) = (20, 48) := by
  have hl := jg_sh_lt h (by decide)
  have hb : ∀ a : Fin 92, jg_sh a.val = (2, 0) → jg_sh (a.val + 1) = (20, 48) := by decide +kernel
  exact hb ⟨a, hl⟩ h
theorem jg_sX2_2 {a : Nat} (h : jg_sh a = (2, 0)) : jg_sh (a + 2) = (20, 400) := by
  have hl := jg_sh_lt h (by decide)
  have hb : ∀ a : Fin 92, jg_sh a.val = (2, 0) → jg_sh (a.val + 2) = (20, 400) := by decide +kernel
  exact hb ⟨a, hl⟩ h
theorem jg_sX2_3 {a : Nat} (h : jg_sh a = (2, 0)) : jg_sh (a + 3) = (20, 400) := by
  have hl := jg_sh_lt h (by decide)
  have hb : ∀ a : Fin 92, jg_sh a.val = (2, 0) → jg_sh (a.val + 3) = (20, 400) := by decide +kernel
  exact hb ⟨a, hl⟩ h
theorem jg_sX3_2 {a : Nat} (h : jg_sh a = (3, 0)) : jg_sh (a + 1) = (20, 800) := by
  have hl := jg_sh_lt h (by decide)
  have hb : ∀ a : Fin 92, jg_sh a.val = (3, 0) → jg_sh (a.val + 1) = (20, 800) := by decide +kernel
  exact hb ⟨a, hl⟩ h
theorem jg_sX3_3 {a : Nat} (h : jg_sh a = (3, 0)) : jg_sh (a + 2) = (20, 20) := by
  have hl := jg_sh_lt h (by decide)
  have hb : ∀ a : Fin 92, jg_sh a.val = (3, 0) → jg_sh (a.val + 2) = (20, 20) := by decide +kernel
  exact hb ⟨a, hl⟩ h
theorem jg_sX3_4 {a : Nat} (h : jg_sh a = (3, 0)) : jg_sh (a + 3) = (20, 20) := by
  have hl := jg_sh_lt h (by decide)
  have hb : ∀ a : Fin 92, jg_sh a.val = (3, 0) → jg_sh (a.val + 3) = (20, 20) := by decide +kernel
  exact hb ⟨a, hl⟩ h
theorem jg_sX3_5 {a : Nat} (h : jg_sh a = (3, 0)) : jg_sh (a + 4) = (20, 20) := by
  have hl := jg_sh_lt h (by decide)
  have hb : ∀ a : Fin 92, jg_sh a.val = (3, 0) → jg_sh (a.val + 4) = (20, 20) := by decide +kernel
  exact hb ⟨a, hl⟩ h
theorem jg_sX4_4 {a : Nat} (h : jg_sh a = (4, 0)) : jg_sh (a + 1) = (20, 240) := by
  have hl := jg_sh_lt h (by decide)
  have hb : ∀ a : Fin 92, jg_sh a.val = (4, 0) → jg_sh (a.val + 1) = (20, 240) := by decide +kernel
  exact hb ⟨a, hl⟩ h
theorem jg_sX4_5 {a : Nat} (h : jg_sh a = (4, 0)) : jg_sh (a + 2) = (20, 240) := by
  have hl := jg_sh_lt h (by decide)
  have hb : ∀ a : Fin 92, jg_sh a.val = (4, 0) → jg_sh (a.val + 2) = (20, 240) := by decide +kernel
  exact hb ⟨a, hl⟩ h
theorem jg_sX4_6 {a : Nat} (h : jg_sh a = (4, 0)) : jg_sh (a + 3) = (20, 240) := by
  have hl := jg_sh_lt h (by decide)
  have hb : ∀ a : Fin 92, jg_sh a.val = (4, 0) → jg_sh (a.val + 3) = (20, 240) := by decide +kernel
  exact hb ⟨a, hl⟩ h
theorem jg_sX4_7 {a : Nat} (h : jg_sh a = (4, 0)) : jg_sh (a + 4) = (20, 240) := by
  have hl := jg_sh_lt h (by decide)
  have hb : ∀ a : Fin 92, jg_sh a.val = (4, 0) → jg_sh (a.val + 4) = (20, 240) := by decide +kernel
  exact hb ⟨a, hl⟩ h
theorem jg_sX4_8 {a : Nat} (h : jg_sh a = (4, 0)) : jg_sh (a + 5) = (21, 960) := by
  have hl := jg_sh_lt h (by decide)
  have hb : ∀ a : Fin 92, jg_sh a.val = (4, 0) → jg_sh (a.val + 5) = (21, 960) := by decide +kernel
  exact hb ⟨a, hl⟩ h
theorem jg_sX4_9 {a : Nat} (h : jg_sh a = (4, 0)) : jg_sh (a + 6) = (21, 960) := by
  have hl := jg_sh_lt h (by decide)
  have hb : ∀ a : Fin 92, jg_sh a.val = (4, 0) → jg_sh (a.val + 6) = (21, 960) := by decide +kernel
  exact hb ⟨a, hl⟩ h
theorem jg_sX5_1 {a : Nat} (h : jg_sh a = (5, 0)) : jg_sh (a + 1) = (20, 40) := by
  have hl := jg_sh_lt h (by decide)
  have hb : ∀ a : Fin 92, jg_sh a.val = (5, 0) → jg_sh (a.val + 1) = (20, 40) := by decide +kernel
  exact hb ⟨a, hl⟩ h
theorem jg_sX6_0 {a : Nat} (h : jg_sh a = (6, 0)) : jg_sh (a + 1) = (20, 5) := by
  have hl := jg_sh_lt h (by decide)
  have hb : ∀ a : Fin 92, jg_sh a.val = (6, 0) → jg_sh (a.val + 1) = (20, 5) := by decide +kernel
  exact hb ⟨a, hl⟩ h
theorem jg_sX6_1 {a : Nat} (h : jg_sh a = (6, 0)) : jg_sh (a + 2) = (20, 48) := by
  have hl := jg_sh_lt h (by decide)
  have hb : ∀ a : Fin 92, jg_sh a.val = (6, 0) → jg_sh (a.val + 2) = (20, 48) := by decide +kernel
  exact hb ⟨a, hl⟩ h
theorem jg_sX6_2 {a : Nat} (h : jg_sh a = (6, 0)) : jg_sh (a + 3) = (20, 200) := by
  have hl := jg_sh_lt h (by decide)
  have hb : ∀ a : Fin 92, jg_sh a.val = (6, 0) → jg_sh (a.val + 3) = (20, 200) := by decide +kernel
  exact hb ⟨a, hl⟩ h
theorem jg_sX6_3 {a : Nat} (h : jg_sh a = (6, 0)) : jg_sh (a + 4) = (20, 2880) := by
  have hl := jg_sh_lt h (by decide)
  have hb : ∀ a : Fin 92, jg_sh a.val = (6, 0) → jg_sh (a.val + 4) = (20, 2880) := by decide +kernel
  exact hb ⟨a, hl⟩ h
theorem jg_sX6_4 {a : Nat} (h : jg_sh a = (6, 0)) : jg_sh (a + 5) = (20, 60) := by
  have hl := jg_sh_lt h (by decide)
  have hb : ∀ a : Fin 92, jg_sh a.val = (6, 0) → jg_sh (a.val + 5) = (20, 60) := by decide +kernel
  exact hb ⟨a, hl⟩ h
theorem jg_sX7_1 {a : Nat} (h : jg_sh a = (7, 0)) : jg_sh (a + 1) = (21, 48) := by
  have hl := jg_sh_lt h (by decide)
  have hb : ∀ a : Fin 92, jg_sh a.val = (7, 0) → jg_sh (a.val + 1) = (21, 48) := by decide +kernel
  exact hb ⟨a, hl⟩ h
theorem jg_sX7_2 {a : Nat} (h : jg_sh a = (7, 0)) : jg_sh (a + 2) = (21, 48) := by
  have hl := jg_sh_lt h (by decide)
  have hb : ∀ a : Fin 92, jg_sh a.val = (7, 0) → jg_sh (a.val + 2) = (21, 48) := by decide +kernel
  exact hb ⟨a, hl⟩ h
theorem jg_sX7_3 {a : Nat} (h : jg_sh a = (7, 0)) : jg_sh (a + 3) = (20, 48) := by
  have hl := jg_sh_lt h (by decide)
  have hb : ∀ a : Fin 92, jg_sh a.val = (7, 0) → jg_sh (a.val + 3) = (20, 48) := by decide +kernel
  exact hb ⟨a, hl⟩ h
theorem jg_sX7_4 {a : Nat} (h : jg_sh a = (7, 0)) : jg_sh (a + 4) = (20, 720) := by
  have hl := jg_sh_lt h (by decide)
  have hb : ∀ a : Fin 92, jg_sh a.val = (7, 0) → jg_sh (a.val + 4) = (20, 720) := by decide +kernel
  exact hb ⟨a, hl⟩ h
theorem jg_sX7_5 {a : Nat} (h : jg_sh a = (7, 0)) : jg_sh (a + 5) = (20, 2976) := by
  have hl := jg_sh_lt h (by decide)
  have hb : ∀ a : Fin 92, jg_sh a.val = (7, 0) → jg_sh (a.val + 5) = (20, 2976) := by decide +kernel
  exact hb ⟨a, hl⟩ h
theorem jg_sX7_7 {a : Nat} (h : jg_sh a = (7, 0)) : jg_sh (a + 6) = (21, 15) := by
  have hl := jg_sh_lt h (by decide)
  have hb : ∀ a : Fin 92, jg_sh a.val = (7, 0) → jg_sh (a.val + 6) = (21, 15) := by decide +kernel
  exact hb ⟨a, hl⟩ h
theorem jg_sX7_8 {a : Nat} (h : jg_sh a = (7, 0)) : jg_sh (a + 7) = (21, 5) := by
  have hl := jg_sh_lt h (by decide)
  have hb : ∀ a : Fin 92, jg_sh a.val = (7, 0) → jg_sh (a.val + 7) = (21, 5) := by decide +kernel
  exact hb ⟨a, hl⟩ h
theorem jg_sX7_9 {a : Nat} (h : jg_sh a = (7, 0)) : jg_sh (a + 8) = (20, 62) := by
  have hl := jg_sh_lt h (by decide)
  have hb : ∀ a : Fin 92, jg_sh a.val = (7, 0) → jg_sh (a.val + 8) = (20, 62) := by decide +kernel
  exact hb ⟨a, hl⟩ h
theorem jg_sX7_10 {a : Nat} (h : jg_sh a = (7, 0)) : jg_sh (a + 9) = (20, 62) := by
  have hl := jg_sh_lt h (by decide)
  have hb : ∀ a : Fin 92, jg_sh a.val = (7, 0) → jg_sh (a.val + 9) = (20, 62) := by decide +kernel
  exact hb ⟨a, hl⟩ h
theorem jg_sX8_0 {a : Nat} (h : jg_sh a = (8, 0)) : jg_sh (a + 1) = (0, 0) := by
  have hl := jg_sh_lt h (by decide)
  have hb : ∀ a : Fin 92, jg_sh a.val = (8, 0) → jg_sh (a.val + 1) = (0, 0) := by decide +kernel
  exact hb ⟨a, hl⟩ h
theorem jg_sX8_1 {a : Nat} (h : jg_sh a = (8, 0)) : jg_sh (a + 10) = (7, 0) := by
  have hl := jg_sh_lt h (by decide)
  have hb : ∀ a : Fin 92, jg_sh a.val = (8, 0) → jg_sh (a.val + 10) = (7, 0) := by decide +kernel
  exact hb ⟨a, hl⟩ h
theorem jg_sX8_2 {a : Nat} (h : jg_sh a = (8, 0)) : jg_sh (a + 20) = (20, 384) := by
  have hl := jg_sh_lt h (by decide)
  have hb : ∀ a : Fin 92, jg_sh a.val = (8, 0) → jg_sh (a.val + 20) = (20, 384) := by decide +kernel
  exact hb ⟨a, hl⟩ h
theorem jg_sX8_3 {a : Nat} (h : jg_sh a = (8, 0)) : jg_sh (a + 21) = (20, 384) := by
  have hl := jg_sh_lt h (by decide)
  have hb : ∀ a : Fin 92, jg_sh a.val = (8, 0) → jg_sh (a.val + 21) = (20, 384) := by decide +kernel
  exact hb ⟨a, hl⟩ h
theorem jg_sX9_2 {a : Nat} (h : jg_sh a = (9, 0)) : jg_sh (a + 1) = (20, 700) := by
  have hl := jg_sh_lt h (by decide)
  have hb : ∀ a : Fin 92, jg_sh a.val = (9, 0) → jg_sh (a.val + 1) = (20, 700) := by decide +kernel
  exact hb ⟨a, hl⟩ h
theorem jg_sX10_2 {a : Nat} (h : jg_sh a = (10, 0)) : jg_sh (a + 1) = (20, 2801) := by
  have hl := jg_sh_lt h (by decide)
  have hb : ∀ a : Fin 92, jg_sh a.val = (10, 0) → jg_sh (a.val + 1) = (20, 2801) := by decide +kernel
  exact hb ⟨a, hl⟩ h
theorem jg_sX11_0 {a : Nat} (h : jg_sh a = (11, 0)) : jg_sh (a + 1) = (20, 700) := by
  have hl := jg_sh_lt h (by decide)
  have hb : ∀ a : Fin 92, jg_sh a.val = (11, 0) → jg_sh (a.val + 1) = (20, 700) := by decide +kernel
  exact hb ⟨a, hl⟩ h
theorem jg_sX11_2 {a : Nat} (h : jg_sh a = (11, 0)) : jg_sh (a + 2) = (9, 0) := by
  have hl := jg_sh_lt h (by decide)
  have hb : ∀ a : Fin 92, jg_sh a.val = (11, 0) → jg_sh (a.val + 2) = (9, 0) := by decide +kernel
  exact hb ⟨a, hl⟩ h
theorem jg_sX11_5 {a : Nat} (h : jg_sh a = (11, 0)) : jg_sh (a + 48) = (4, 0) := by
  have hl := jg_sh_lt h (by decide)
  have hb : ∀ a : Fin 92, jg_sh a.val = (11, 0) → jg_sh (a.val + 48) = (4, 0) := by decide +kernel
  exact hb ⟨a, hl⟩ h
theorem jg_sX11_6 {a : Nat} (h : jg_sh a = (11, 0)) : jg_sh (a + 55) = (6, 0) := by
  have hl := jg_sh_lt h (by decide)
  have hb : ∀ a : Fin 92, jg_sh a.val = (11, 0) → jg_sh (a.val + 55) = (6, 0) := by decide +kernel
  exact hb ⟨a, hl⟩ h
theorem jg_sX11_7 {a : Nat} (h : jg_sh a = (11, 0)) : jg_sh (a + 61) = (2, 0) := by
  have hl := jg_sh_lt h (by decide)
  have hb : ∀ a : Fin 92, jg_sh a.val = (11, 0) → jg_sh (a.val + 61) = (2, 0) := by decide +kernel
  exact hb ⟨a, hl⟩ h
theorem jg_sX11_8 {a : Nat} (h : jg_sh a = (11, 0)) : jg_sh (a + 65) = (5, 0) := by
  have hl := jg_sh_lt h (by decide)
  have hb : ∀ a : Fin 92, jg_sh a.val = (11, 0) → jg_sh (a.val + 65) = (5, 0) := by decide +kernel
  exact hb ⟨a, hl⟩ h
theorem jg_sX11_9 {a : Nat} (h : jg_sh a = (11, 0)) : jg_sh (a + 90) = (5, 0) := by
  have hl := jg_sh_lt h (by decide)
  have hb : ∀ a : Fin 92, jg_sh a.val = (11, 0) → jg_sh (a.val + 90) = (5, 0) := by decide +kernel
  exact hb ⟨a, hl⟩ h
theorem jg_sX11_10 {a : Nat} (h : jg_sh a = (11, 0)) : jg_sh (a + 67) = (5, 0) := by
  have hl := jg_sh_lt h (by decide)
  have hb : ∀ a : Fin 92, jg_sh a.val = (11, 0) → jg_sh (a.val + 67) = (5, 0) := by decide +kernel
  exact hb ⟨a, hl⟩ h
theorem jg_sX11_12 {a : Nat} (h : jg_sh a = (11, 0)) : jg_sh (a + 69) = (3, 0) := by
  have hl := jg_sh_lt h (by decide)
  have hb : ∀ a : Fin 92, jg_sh a.val = (11, 0) → jg_sh (a.val + 69) = (3, 0) := by decide +kernel
  exact hb ⟨a, hl⟩ h
theorem jg_sX11_13 {a : Nat} (h : jg_sh a = (11, 0)) : jg_sh (a + 74) = (1, 0) := by
  have hl := jg_sh_lt h (by decide)
  have hb : ∀ a : Fin 92, jg_sh a.val = (11, 0) → jg_sh (a.val + 74) = (1, 0) := by decide +kernel
  exact hb ⟨a, hl⟩ h
theorem jg_sX11_14 {a : Nat} (h : jg_sh a = (11, 0)) : jg_sh (a + 78) = (10, 0) := by
  have hl := jg_sh_lt h (by decide)
  have hb : ∀ a : Fin 92, jg_sh a.val = (11, 0) → jg_sh (a.val + 78) = (10, 0) := by decide +kernel
  exact hb ⟨a, hl⟩ h
theorem jg_sX5_0 {a : Nat} (h : jg_sh a = (5, 0)) (hb : ¬ jg_bot a = true) : jg_sh (a - 2) = (5, 0) := by
  have hl := jg_sh_lt h (by decide)
  have hq : ∀ a : Fin 92, jg_sh a.val = (5, 0) → ¬ jg_bot a.val = true → jg_sh (a.val - 2) = (5, 0) := by decide +kernel
  exact hq ⟨a, hl⟩ h hb
