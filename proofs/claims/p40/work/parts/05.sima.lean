/-! THE SIMULATION, 1: what a pure heap, pure locals and a pure stack are in the machine. B: where the claim's own cells begin; t: the static table; cA: the classes of the arrays -/
def mj_b (B t k : Nat) : Nat := if k = 999999 then t else B + k
def mj_v (B t : Nat) (v : Value) : Value := match v with
  | .ref k => .ref (mj_b B t k)
  | v => v
def mj_e (B t : Nat) (cA : Nat → ClassId) (x : mj_E) : va_E := match x with
  | .inl a => .inl (cA a.1, a.2)
  | .inr o => .inr (o.1, o.2.map (mj_v B t))
def mj_ws (B t : Nat) (cA : Nat → ClassId) (hp : mj_Hp) (sz : Nat) : va_W := (List.range sz).map fun k => (B + k, mj_e B t cA (hp k))
def mj_pl (j : Nat) : Int32 := ([0, 1, 8, 57, 400, 2801] : List Int32).getD j 0
def mj_wf (hp : mj_Hp) (sz : Nat) : Prop := sz ≤ 92 ∧ ∀ k, sz ≤ k → hp k = .inr (99, []) ∨ (k = 999999 ∧ hp k = .inl (3, 6, .inl mj_pl))
def mj_A (B : Nat) : Nat → Prop := fun q => B ≤ q ∧ q < B + 92
theorem mj_ws_get {B t : Nat} {cA : Nat → ClassId} {hp : mj_Hp} {sz k : Nat} (h : k < sz) : (mj_ws B t cA hp sz)[k]? = some (B + k, mj_e B t cA (hp k)) := by
  unfold mj_ws
  rw [List.getElem?_map, List.getElem?_range h]
  rfl
theorem mj_ws_no {B t : Nat} {cA : Nat → ClassId} {hp : mj_Hp} {sz k : Nat} {q : Nat × va_E} (h : (mj_ws B t cA hp sz)[k]? = some q) : k < sz ∧ q = (B + k, mj_e B t cA (hp k)) := by
  have h0 : k < sz := by
    rcases Nat.lt_or_ge k sz with h1 | h1
    · exact h1
    · unfold mj_ws at h
      rw [List.getElem?_map, List.getElem?_eq_none (by simpa using h1)] at h
      cases h
  rw [mj_ws_get h0] at h
  exact ⟨h0, (Option.some.inj h).symm⟩
theorem mj_ws_len {B t : Nat} {cA : Nat → ClassId} {hp : mj_Hp} {sz : Nat} : (mj_ws B t cA hp sz).length = sz := by
  unfold mj_ws; simp
theorem mj_ws_set {B t : Nat} {cA : Nat → ClassId} {hp : mj_Hp} {sz r : Nat} (x : mj_E) (h : r < sz) : (mj_ws B t cA hp sz).set r (B + r, mj_e B t cA x) = mj_ws B t cA (mj_set hp r x) sz := by
  apply List.ext_getElem?
  intro k
  rw [List.getElem?_set]
  by_cases hk : r = k
  · subst hk
    rw [if_pos rfl, if_pos (by rw [mj_ws_len]; exact h), mj_ws_get h]
    simp [mj_set]
  · rw [if_neg hk]
    by_cases h2 : k < sz
    · rw [mj_ws_get h2, mj_ws_get h2]
      simp [mj_set, Ne.symm hk]
    · rw [List.getElem?_eq_none (by rw [mj_ws_len]; omega), List.getElem?_eq_none (by rw [mj_ws_len]; omega)]
theorem mj_ws_push {B t : Nat} {cA : Nat → ClassId} {hp : mj_Hp} {sz : Nat} (x : mj_E) : mj_ws B t cA hp sz ++ [(B + sz, mj_e B t cA x)] = mj_ws B t cA (mj_set hp sz x) (sz + 1) := by
  unfold mj_ws
  rw [List.range_succ, List.map_append]
  congr 1
  · apply List.map_congr_left
    intro k hk
    have := List.mem_range.mp hk
    simp [mj_set, Nat.ne_of_lt this]
  · simp [mj_set]
theorem mj_D {B t : Nat} {cA : Nat → ClassId} {hp : mj_Hp} {sz : Nat} (hz : sz ≤ 92) : va_D (mj_A B) (mj_ws B t cA hp sz) := by
  refine ⟨fun i j p q hp hq he => ?_, fun k q hq => ?_⟩
  · obtain ⟨-, rfl⟩ := mj_ws_no hp
    obtain ⟨-, rfl⟩ := mj_ws_no hq
    dsimp only at he
    omega
  · obtain ⟨hk, rfl⟩ := mj_ws_no hq
    exact ⟨Nat.le_add_right _ _, by dsimp only; omega⟩
theorem mj_wf_set {hp : mj_Hp} {sz r : Nat} {x : mj_E} (h : mj_wf hp sz) (hr : r < sz) : mj_wf (mj_set hp r x) sz := by
  refine ⟨h.1, fun k hk => ?_⟩
  have : k ≠ r := by omega
  simp only [mj_set, if_neg this]
  exact h.2 k hk
theorem mj_wf_push {hp : mj_Hp} {sz : Nat} {x : mj_E} (h : mj_wf hp sz) (hs : sz ≤ 91) : mj_wf (mj_set hp sz x) (sz + 1) := by
  refine ⟨by omega, fun k hk => ?_⟩
  have : k ≠ sz := by omega
  simp only [mj_set, if_neg this]
  exact h.2 k (by omega)
/-- a cell that is no table and no blank is one of the claim's own -/
theorem mj_wf_obj {hp : mj_Hp} {sz r ci : Nat} {fs : List Value} (h : mj_wf hp sz) (hr : hp r = .inr (ci, fs)) (hc : ci < 99) : r < sz := by
  rcases Nat.lt_or_ge r sz with h1 | h1
  · exact h1
  · rcases h.2 r h1 with h2 | ⟨-, h2⟩
    · rw [h2] at hr; cases hr; omega
    · rw [h2] at hr; cases hr
theorem mj_wf_arr {hp : mj_Hp} {sz r k : Nat} {a : vp_A} (h : mj_wf hp sz) (hr : hp r = .inl (k, a)) (hc : k ≠ 3) : r < sz := by
  rcases Nat.lt_or_ge r sz with h1 | h1
  · exact h1
  · rcases h.2 r h1 with h2 | ⟨-, h2⟩
    · rw [h2] at hr; cases hr
    · rw [h2] at hr; cases hr; exact absurd rfl hc
theorem mj_b_lt {B t k sz : Nat} (h : k < sz) (hs : sz ≤ 92) : mj_b B t k = B + k := by
  unfold mj_b
  rw [if_neg (by omega)]
def mj_tys (cA : Nat → ClassId) : List (ClassId × FieldType) := [(cA 0, .int), (cA 1, .long), (cA 2, .boolean)]
def mj_nw : List Jvm.Cond := lw_tbl.filter (fun w => match w with | .methodLinkNest _ _ _ _ => true | _ => false)
def mj_gw : List Jvm.Cond := lw_tbl.filter goodWord
/-- what stays true along the whole run, of the tables and of the static table -/
def mj_K (B t : Nat) (cA : Nat → ClassId) (D : va_G) (U : State) : Prop := va_K D mj_Cl (mj_tys cA) U ∧ (∀ w ∈ mj_nw, va_Nw w U) ∧ va_T .int t 6 (fun j => .int (mj_pl j)) (mj_A B) U U.heap ∧ va_Z RX10 "PLACES_OF_LENGTHS" "[I" (.ref t) (mj_A B) U U.heap
/-- the heap is the pure heap -/
def mj_hd (B t : Nat) (cA : Nat → ClassId) (D : va_G) (hp : mj_Hp) (sz : Nat) (H : Heap) : Prop := va_P D mj_Cl (mj_ws B t cA hp sz) H ∧ mj_wf hp sz
theorem mj_nw_is {w : Jvm.Cond} (h : w ∈ mj_nw) : ∃ a i x k, w = .methodLinkNest a i x k := by
  unfold mj_nw at h
  have h2 := (List.mem_filter.mp h).2
  cases w <;> first | exact ⟨_, _, _, _, rfl⟩ | (exact absurd h2 (by simp))
theorem mj_K_blind {B t : Nat} {cA : Nat → ClassId} {D : va_G} {U : State} {g : JFrame} {mk : MethodId} {a : Array Value} (h : mj_K B t cA D U) : mj_K B t cA D (U.calling g mk a) := by
  obtain ⟨h1, h2, h3, h4⟩ := h
  have hv : U.vm.Alike (U.calling g mk a).vm := Vm.Alike.refl U.vm
  refine ⟨h1.moved hv, fun w hw => ?_, h3.moved hv, h4.moved hv⟩
  obtain ⟨a1, i1, x1, k1, rfl⟩ := mj_nw_is hw
  exact va_Nw.same rfl rfl (h2 _ hw)
theorem mj_K_warm {B t : Nat} {cA : Nat → ClassId} {D : va_G} {s U : State} {locs : List Loc} (h : mj_K B t cA D s) (hW : s.WarmedH U.vm) (hS : va_S (mj_A B) s.heap U.heap locs) : mj_K B t cA D U := by
  obtain ⟨h1, h2, h3, h4⟩ := h
  refine ⟨h1.moved hW.alike, fun w hw => ?_, (h3.kept hS.2.1).moved hW.alike, (h4.kept hS.2.1).moved hW.alike⟩
  obtain ⟨a1, i1, x1, k1, rfl⟩ := mj_nw_is hw
  exact va_Nw.warmM hW (h2 _ hw)
/-- locals -/
def mj_pr (B t : Nat) (lst : List Value) : List (Nat × Value) := lst.zipIdx.filterMap fun q => if mj_isU q.1 = true then none else some (q.2, mj_v B t q.1)
theorem mj_pr_mem {B t : Nat} {lst : List Value} {j : Nat} {w : Value} : (j, w) ∈ mj_pr B t lst ↔ ∃ v, lst[j]? = some v ∧ mj_isU v = false ∧ w = mj_v B t v := by
  unfold mj_pr
  rw [List.mem_filterMap]
  constructor
  · rintro ⟨⟨v, i⟩, h1, h2⟩
    have h1 := List.mem_zipIdx_iff_getElem?.mp h1
    dsimp only at h1 h2
    split at h2
    · cases h2
    · rename_i hu
      cases h2
      exact ⟨v, h1, by simpa using hu, rfl⟩
  · rintro ⟨v, h1, h2, rfl⟩
    exact ⟨(v, j), List.mem_zipIdx_iff_getElem?.mpr h1, by simp [h2]⟩
def mj_LV (B t : Nat) (M : mj_Inf) (ls : Array Slot) (lst : List Value) : Prop := lv_has ls M.2.2.2.1 (mj_pr B t lst) ∧ lst.length = M.2.2.2.1 ∧ (∀ (j : Nat) (v : Value), lst[j]? = some v → v.category = 2 → M.2.2.2.2.2.1.contains j = true) ∧ ∀ (j : Nat) (v : Value), M.2.2.2.2.2.1.contains j = true → lst[j + 1]? = some v → mj_isU v = true
theorem mj_LV_get {B t : Nat} {M : mj_Inf} {ls : Array Slot} {lst : List Value} (h : mj_LV B t M ls lst) {k : Nat} {v : Value} (hk : lst[k]? = some v) (hv : mj_isU v = false) : ls[k]? = some (.val (mj_v B t v)) :=
  h.1.2.2 (k, mj_v B t v) (mj_pr_mem.mpr ⟨v, hk, hv, rfl⟩)
theorem mj_cat {B t : Nat} (v : Value) : (mj_v B t v).category = v.category := by cases v <;> rfl
theorem mj_stk_of {M : mj_Inf} {k : Nat} (h : mj_stk M k = true) : k < M.2.2.2.1 ∧ M.2.2.2.2.2.1.contains k = false ∧ ∀ j : Nat, j + 1 = k → M.2.2.2.2.2.1.contains j = false := by
  unfold mj_stk at h
  simp only [Bool.and_eq_true, Bool.not_eq_true'] at h
  refine ⟨Nat.le_of_ble_eq_true h.1.1, h.1.2, fun j hj => ?_⟩
  cases hc : M.2.2.2.2.2.1.contains j with
  | false => rfl
  | true =>
    have h3 := h.2
    rw [List.any_eq_false] at h3
    have := h3 j (by simpa using hc)
    exact absurd (by subst hj; exact Nat.beq_refl _) this
theorem mj_ltk_of {M : mj_Inf} {k : Nat} (h : mj_ltk M k = true) : k + 1 < M.2.2.2.1 ∧ M.2.2.2.2.2.1.contains k = true ∧ ∀ j : Nat, j + 1 = k → M.2.2.2.2.2.1.contains j = false := by
  unfold mj_ltk at h
  simp only [Bool.and_eq_true, Bool.not_eq_true'] at h
  refine ⟨Nat.le_of_ble_eq_true h.1.1, h.1.2, fun j hj => ?_⟩
  cases hc : M.2.2.2.2.2.1.contains j with
  | false => rfl
  | true =>
    have h3 := h.2
    rw [List.any_eq_false] at h3
    have := h3 j (by simpa using hc)
    exact absurd (by subst hj; exact Nat.beq_refl _) this
theorem mj_LV_set1 {B t : Nat} {M : mj_Inf} {ls ls' : Array Slot} {lst : List Value} {i : Nat} {v : Value} (h : mj_LV B t M ls lst) (hi : mj_stk M i = true) (hc : v.category = 1)
    (h' : lv_has ls' M.2.2.2.1 ((i, mj_v B t v) :: (mj_pr B t lst).filter (fun q => !(q.1 == i) && !(q.1 + 1 == i && q.2.category == 2)))) : mj_LV B t M ls' (lst.set i v) := by
  obtain ⟨i1, i2, i3⟩ := mj_stk_of hi
  obtain ⟨h1, h2, h3, h4⟩ := h
  refine ⟨⟨h'.1, h'.2.1, fun q hq => ?_⟩, by simpa using h2, fun j w hj hw => ?_, fun j w hj hw => ?_⟩
  · obtain ⟨j, w⟩ := q
    obtain ⟨x, hx, hu, rfl⟩ := mj_pr_mem.mp hq
    apply h'.2.2
    rw [List.getElem?_set] at hx
    by_cases hij : i = j
    · subst hij
      rw [if_pos rfl, if_pos (by omega)] at hx
      cases hx
      exact List.mem_cons_self
    · rw [if_neg hij] at hx
      refine List.mem_cons_of_mem _ (List.mem_filter.mpr ⟨mj_pr_mem.mpr ⟨x, hx, hu, rfl⟩, ?_⟩)
      have e1 : (j == i) = false := by simpa using Ne.symm hij
      by_cases e2 : j + 1 = i
      · have := i3 j e2
        have e3 : ¬ x.category = 2 := fun hc2 => by
          rw [h3 j x hx hc2] at this
          cases this
        simp [e1, mj_cat, e3]
      · simp [e1, e2]
  · rw [List.getElem?_set] at hj
    by_cases hij : i = j
    · subst hij
      rw [if_pos rfl, if_pos (by omega)] at hj
      cases hj
      omega
    · rw [if_neg hij] at hj
      exact h3 j w hj hw
  · rw [List.getElem?_set] at hw
    by_cases hij : i = j + 1
    · have := i3 j hij.symm
      rw [hj] at this
      cases this
    · rw [if_neg hij] at hw
      exact h4 j w hj hw
theorem mj_LV_set2 {B t : Nat} {M : mj_Inf} {ls ls' : Array Slot} {lst : List Value} {i : Nat} {v : Value} (h : mj_LV B t M ls lst) (hi : mj_ltk M i = true)
    (h' : lv_has ls' M.2.2.2.1 ((i, mj_v B t v) :: (mj_pr B t lst).filter (fun q => !(q.1 == i) && (!(q.1 == i + 1) && !(q.1 + 1 == i && q.2.category == 2))))) : mj_LV B t M ls' (lst.set i v) := by
  obtain ⟨i1, i2, i3⟩ := mj_ltk_of hi
  obtain ⟨h1, h2, h3, h4⟩ := h
  refine ⟨⟨h'.1, h'.2.1, fun q hq => ?_⟩, by simpa using h2, fun j w hj hw => ?_, fun j w hj hw => ?_⟩
  · obtain ⟨j, w⟩ := q
    obtain ⟨x, hx, hu, rfl⟩ := mj_pr_mem.mp hq
    apply h'.2.2
    rw [List.getElem?_set] at hx
    by_cases hij : i = j
    · subst hij
      rw [if_pos rfl, if_pos (by omega)] at hx
      cases hx
      exact List.mem_cons_self
    · rw [if_neg hij] at hx
      refine List.mem_cons_of_mem _ (List.mem_filter.mpr ⟨mj_pr_mem.mpr ⟨x, hx, hu, rfl⟩, ?_⟩)
      have e1 : (j == i) = false := by simpa using Ne.symm hij
      have e0 : (j == i + 1) = false := by
        by_cases e4 : j = i + 1
        · subst e4
          rw [h4 i x i2 hx] at hu
          cases hu
        · simpa using e4
      by_cases e2 : j + 1 = i
      · have := i3 j e2
        have e3 : ¬ x.category = 2 := fun hc2 => by
          rw [h3 j x hx hc2] at this
          cases this
        simp [e1, e0, mj_cat, e3]
      · simp [e1, e0, e2]
  · rw [List.getElem?_set] at hj
    by_cases hij : i = j
    · subst hij
      exact i2
    · rw [if_neg hij] at hj
      exact h3 j w hj hw
  · rw [List.getElem?_set] at hw
    by_cases hij : i = j + 1
    · have := i3 j hij.symm
      rw [hj] at this
      cases this
    · rw [if_neg hij] at hw
      exact h4 j w hj hw
