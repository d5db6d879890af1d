/-! THE SIMULATION, 6: methods, calls, runs -/
section MJG
theorem mj_zip_ex {α β : Type} {f : α → β → Bool} : ∀ {L1 : List α} {L2 : List β}, (L1.zip L2).all (fun q => f q.1 q.2) = true → L1.length = L2.length → ∀ x ∈ L1, ∃ y ∈ L2, f x y = true
  | [], _, _, _, x, hx => absurd hx List.not_mem_nil
  | a :: L1, [], _, hl, _, _ => by cases hl
  | a :: L1, b :: L2, h, hl, x, hx => by
    rw [List.zip_cons_cons, List.all_cons, Bool.and_eq_true] at h
    rcases List.mem_cons.mp hx with rfl | hx
    · exact ⟨b, List.mem_cons_self, h.1⟩
    · obtain ⟨y, hy, hf⟩ := mj_zip_ex h.2 (Nat.succ.inj hl) x hx
      exact ⟨y, List.mem_cons_of_mem _ hy, hf⟩
/-- what holds of every method of the table -/
def mj_MOK (M : mj_Inf) : Prop := Jvm.Cond.code M.2.1 M.2.2.1 M.2.2.2.1 M.2.2.2.2.1 ∈ mj_gw ∧ Jvm.Cond.initialized M.2.1.cls ∈ mj_gw ∧ plainName M.2.1.cls = true ∧ mj_cn M.1 = M.2.1.cls ∧ M.2.2.2.1 ≤ 20 ∧ M.2.1.cls ≠ "java/lang/invoke/MethodHandle" ∧ M.2.1.cls ≠ "java/lang/invoke/VarHandle" ∧
  (parseMethodDescriptor M.2.1.desc).map (fun d => d.parameters.length) = some M.2.2.2.2.2.2.1 ∧ (M.2.2.2.2.1 = none ∨ M.2.2.2.2.1 = some .int ∨ M.2.2.2.2.1 = some .boolean ∨ M.2.2.2.2.1 = some .long) ∧
  ∀ r ∈ M.2.2.2.2.2.2.2, mj_rk M r = true ∧ mj_dk M r = true
theorem mj_MOK_of {L : List mj_Inf} {P : List (Nat × Nat × Nat × Nat)} (hl : L.length = P.length) (h1 : (L.zip P).all (fun q => mj_mk q.1 q.2) = true) (h2 : P.map (fun q => (mj_tb (q.1 / 1000))[q.1 % 1000]?) = L.map (fun M => some (Jvm.Cond.code M.2.1 M.2.2.1 M.2.2.2.1 M.2.2.2.2.1)))
    (h3 : L.all (fun M => M.2.2.2.2.2.2.2.all (mj_rk M)) = true) (h4 : ∀ M ∈ L, M.2.2.2.2.2.2.2.all (mj_dk M) = true) : ∀ M ∈ L, mj_MOK M := by
  intro M hM
  obtain ⟨q, -, hq⟩ := mj_zip_ex h1 hl M hM
  unfold mj_mk at hq
  simp only [Bool.and_eq_true, decide_eq_true_eq, Bool.or_eq_true] at hq
  obtain ⟨⟨⟨⟨⟨⟨⟨q1, q2⟩, q3⟩, q4⟩, q5⟩, q6⟩, q7⟩, q8⟩ := hq
  have hc : some (Jvm.Cond.code M.2.1 M.2.2.1 M.2.2.2.1 M.2.2.2.2.1) ∈ P.map (fun q => (mj_tb (q.1 / 1000))[q.1 % 1000]?) := by
    rw [h2]
    exact List.mem_map.mpr ⟨M, hM, rfl⟩
  obtain ⟨q0, -, hq0⟩ := List.mem_map.mp hc
  refine ⟨mj_gw_of (q := q0.1) (decide_eq_true hq0) rfl, mj_gw_of q1 rfl, q2, q3, Nat.le_of_ble_eq_true q4, q5, q6, q7, by rcases q8 with ((q8 | q8) | q8) | q8 <;> simp [q8], fun r hr => ⟨List.all_eq_true.mp (List.all_eq_true.mp h3 M hM) r hr, List.all_eq_true.mp (h4 M hM) r hr⟩⟩
theorem mj_all_ok : ∀ M ∈ mj_ms, mj_MOK M := by
  have app : ∀ {A B : List mj_Inf}, (∀ M ∈ A, mj_MOK M) → (∀ M ∈ B, mj_MOK M) → ∀ M ∈ A ++ B, mj_MOK M := fun ha hb M hM => (List.mem_append.mp hM).elim (ha M) (hb M)
  unfold mj_ms
  exact (app (mj_MOK_of rfl mj_mk_X0g0 mj_cd_X0g0 mj_rk_X0g0 mj_dk_X0g0) (app (mj_MOK_of rfl mj_mk_X1g1 mj_cd_X1g1 mj_rk_X1g1 mj_dk_X1g1) (app (mj_MOK_of rfl mj_mk_X2g2 mj_cd_X2g2 mj_rk_X2g2 mj_dk_X2g2) (app (mj_MOK_of rfl mj_mk_X3g3 mj_cd_X3g3 mj_rk_X3g3 mj_dk_X3g3) (app (mj_MOK_of rfl mj_mk_X4g4 mj_cd_X4g4 mj_rk_X4g4 mj_dk_X4g4) (app (mj_MOK_of rfl mj_mk_X5g5 mj_cd_X5g5 mj_rk_X5g5 mj_dk_X5g5) (app (mj_MOK_of rfl mj_mk_X6g6 mj_cd_X6g6 mj_rk_X6g6 mj_dk_X6g6) (app (mj_MOK_of rfl mj_mk_X7g7 mj_cd_X7g7 mj_rk_X7g7 mj_dk_X7g7) (app (mj_MOK_of rfl mj_mk_X8g8 mj_cd_X8g8 mj_rk_X8g8 mj_dk_X8g8) (app (mj_MOK_of rfl mj_mk_X9g9 mj_cd_X9g9 mj_rk_X9g9 mj_dk_X9g9) (app (mj_MOK_of rfl mj_mk_X10g10 mj_cd_X10g10 mj_rk_X10g10 mj_dk_X10g10) (app (mj_MOK_of rfl mj_mk_X11g11 mj_cd_X11g11 mj_rk_X11g11 mj_dk_X11g11) (app (mj_MOK_of rfl mj_mk_Jg12 mj_cd_Jg12 mj_rk_Jg12 mj_dk_Jg12) (mj_MOK_of rfl mj_mk_X11g13 mj_cd_X11g13 mj_rk_X11g13 mj_dk_X11g13))))))))))))))
theorem mj_good {ws : List Jvm.Cond} (h : ∀ w ∈ ws, w ∈ mj_gw) : GoodIn mj_gw ws := fun w hw => ⟨h w hw, good_of_word (List.mem_filter.mp (h w hw)).2⟩
/-- how a call's words stand, by its kind -/
def mj_CK (own ix a kd : Nat) : Prop := match kd with
  | 5 => Jvm.Cond.methodLink (mj_cn own) ix objectInit ∈ mj_gw
  | 6 => Jvm.Cond.methodLink (mj_cn own) ix arraycopyName ∈ mj_gw
  | 8 => Jvm.Cond.methodLink (mj_cn own) ix Lib.Math.max.name ∈ mj_gw
  | 9 => Jvm.Cond.methodLink (mj_cn own) ix Lib.Math.min.name ∈ mj_gw
  | kd => ∃ M, mj_ms[a]? = some M ∧ (match kd with
    | 0 => Jvm.Cond.methodLink (mj_cn own) ix M.2.1 ∈ mj_gw ∧ Jvm.Cond.instanceMethod M.2.1 ∈ mj_gw ∧ Jvm.Cond.selects M.2.1.cls M.2.1 M.2.1 ∈ mj_gw ∧ M.1 < 12
    | 1 => Jvm.Cond.methodLink (mj_cn own) ix M.2.1 ∈ mj_gw ∧ Jvm.Cond.static M.2.1 ∈ mj_gw
    | 2 => Jvm.Cond.methodLinkNest (mj_cn own) ix M.2.1 RX11 ∈ mj_nw ∧ Jvm.Cond.static M.2.1 ∈ mj_gw
    | 3 => Jvm.Cond.methodLink (mj_cn own) ix M.2.1 ∈ mj_gw ∧ Jvm.Cond.instanceMethod M.2.1 ∈ mj_gw ∧ M.2.1.name = "<init>" ∧ M.2.2.2.2.1 = none
    | 4 => Jvm.Cond.methodLinkNest (mj_cn own) ix M.2.1 RX11 ∈ mj_nw ∧ Jvm.Cond.instanceMethod M.2.1 ∈ mj_gw ∧ M.2.1.name = "<init>" ∧ M.2.2.2.2.1 = none
    | _ => False)
theorem mj_tbl_of {w : Jvm.Cond} {q : Nat} (h : mj_w q w = true) : w ∈ lw_tbl := by
  have h1 := of_decide_eq_true h
  have h2 : w ∈ mj_tb (q / 1000) := List.mem_of_getElem? h1
  unfold mj_tb at h2
  rw [List.getD_eq_getElem?_getD] at h2
  cases hq : ([k2_sels lw_privs, tables_1_1, tables_1_2, tables_1_3, tables_1_4, tables_1_5, tables_1_6, tables_1_7] : List (List Jvm.Cond))[q / 1000]? with
  | none => rw [hq] at h2; cases h2
  | some x =>
    rw [hq] at h2
    have hx := List.mem_of_getElem? hq
    unfold lw_tbl tables_1
    simp only [List.mem_cons, List.not_mem_nil, or_false] at hx
    simp only [List.mem_append]
    have h2 : w ∈ x := h2
    rcases hx with rfl | rfl | rfl | rfl | rfl | rfl | rfl | rfl <;> simp [h2]
theorem mj_nw_of {a : String} {i : Nat} {x : MethodName} {k : String} {q : Nat} (h : mj_w q (.methodLinkNest a i x k) = true) : Jvm.Cond.methodLinkNest a i x k ∈ mj_nw := List.mem_filter.mpr ⟨mj_tbl_of h, rfl⟩
theorem mj_kk_use {own ix a k ps : Nat} (h5 : k ≠ 5) (h6 : k ≠ 6) (h8 : k ≠ 8) (h9 : k ≠ 9) (h : mj_kk (own, ix, a, k, ps) = true) : ∃ (M : mj_Inf) (p : Nat × Nat × Nat × Nat), mj_ms[a]? = some M ∧ (if k = 1 ∨ k = 2 then mj_w p.2.2.1 (.static M.2.1) else if k = 0 then mj_w p.2.2.1 (.instanceMethod M.2.1) && mj_w p.2.2.2 (.selects M.2.1.cls M.2.1 M.2.1) && Nat.ble (M.1 + 1) 12 else mj_w p.2.2.1 (.instanceMethod M.2.1) && decide (M.2.1.name = "<init>") && decide (M.2.2.2.2.1 = none)) = true := by
  unfold mj_kk at h
  dsimp only at h
  split at h
  · exact (h5 rfl).elim
  · exact (h6 rfl).elim
  · exact (h8 rfl).elim
  · exact (h9 rfl).elim
  · cases e1 : mj_ms[a]? with
    | none => rw [e1] at h; cases h
    | some M =>
      cases e2 : mj_mp[a]? with
      | none => rw [e1, e2] at h; cases h
      | some p => rw [e1, e2] at h; exact ⟨M, p, rfl, h⟩
theorem mj_CK_of {q : Nat × Nat × Nat × Nat × Nat} (h1 : mj_mlk q = true) (h2 : mj_kk q = true) : mj_CK q.1 q.2.1 q.2.2.1 q.2.2.2.1 := by
  obtain ⟨own, ix, a, kd, ps⟩ := q
  have hm : ∀ {M : mj_Inf}, mj_ms[a]? = some M → mj_y a = M.2.1 := fun {M} h => by unfold mj_y; rw [h]
  match kd, h1, h2 with
  | 0, h1, h2 =>
    obtain ⟨M, p, e1, h2⟩ := mj_kk_use (by decide) (by decide) (by decide) (by decide) h2
    rw [if_neg (by decide), if_pos rfl] at h2
    simp only [Bool.and_eq_true] at h2
    have h1 : mj_w ps (.methodLink (mj_cn own) ix (mj_y a)) = true := h1
    rw [hm e1] at h1
    exact ⟨M, e1, mj_gw_of h1 rfl, mj_gw_of h2.1.1 rfl, mj_gw_of h2.1.2 rfl, Nat.le_of_ble_eq_true h2.2⟩
  | 1, h1, h2 =>
    obtain ⟨M, p, e1, h2⟩ := mj_kk_use (by decide) (by decide) (by decide) (by decide) h2
    rw [if_pos (by decide)] at h2
    have h1 : mj_w ps (.methodLink (mj_cn own) ix (mj_y a)) = true := h1
    rw [hm e1] at h1
    exact ⟨M, e1, mj_gw_of h1 rfl, mj_gw_of h2 rfl⟩
  | 2, h1, h2 =>
    obtain ⟨M, p, e1, h2⟩ := mj_kk_use (by decide) (by decide) (by decide) (by decide) h2
    rw [if_pos (by decide)] at h2
    have h1 : mj_w ps (.methodLinkNest (mj_cn own) ix (mj_y a) RX11) = true := h1
    rw [hm e1] at h1
    exact ⟨M, e1, mj_nw_of h1, mj_gw_of h2 rfl⟩
  | 3, h1, h2 =>
    obtain ⟨M, p, e1, h2⟩ := mj_kk_use (by decide) (by decide) (by decide) (by decide) h2
    rw [if_neg (by decide), if_neg (by decide)] at h2
    simp only [Bool.and_eq_true, decide_eq_true_eq] at h2
    have h1 : mj_w ps (.methodLink (mj_cn own) ix (mj_y a)) = true := h1
    rw [hm e1] at h1
    exact ⟨M, e1, mj_gw_of h1 rfl, mj_gw_of h2.1.1 rfl, h2.1.2, h2.2⟩
  | 4, h1, h2 =>
    obtain ⟨M, p, e1, h2⟩ := mj_kk_use (by decide) (by decide) (by decide) (by decide) h2
    rw [if_neg (by decide), if_neg (by decide)] at h2
    simp only [Bool.and_eq_true, decide_eq_true_eq] at h2
    have h1 : mj_w ps (.methodLinkNest (mj_cn own) ix (mj_y a) RX11) = true := h1
    rw [hm e1] at h1
    exact ⟨M, e1, mj_nw_of h1, mj_gw_of h2.1.1 rfl, h2.1.2, h2.2⟩
  | 5, h1, h2 => exact mj_gw_of (w := .methodLink (mj_cn own) ix objectInit) h1 rfl
  | 6, h1, h2 => exact mj_gw_of (w := .methodLink (mj_cn own) ix arraycopyName) h1 rfl
  | 7, h1, h2 => cases h1
  | 8, h1, h2 => exact mj_gw_of (w := .methodLink (mj_cn own) ix Lib.Math.max.name) h1 rfl
  | 9, h1, h2 => exact mj_gw_of (w := .methodLink (mj_cn own) ix Lib.Math.min.name) h1 rfl
  | k + 10, h1, h2 => cases h1
theorem mj_ml_all : ∀ q ∈ mj_ml, mj_mlk q = true ∧ mj_kk q = true := by
  have app : ∀ {A B : List (Nat × Nat × Nat × Nat × Nat)}, (∀ M ∈ A, mj_mlk M = true ∧ mj_kk M = true) → (∀ M ∈ B, mj_mlk M = true ∧ mj_kk M = true) → ∀ M ∈ A ++ B, mj_mlk M = true ∧ mj_kk M = true := fun ha hb M hM => (List.mem_append.mp hM).elim (ha M) (hb M)
  unfold mj_ml
  exact (app (fun q h => ⟨List.all_eq_true.mp mj_ml_ok0 q h, List.all_eq_true.mp mj_kk_ok0 q h⟩) (app (fun q h => ⟨List.all_eq_true.mp mj_ml_ok1 q h, List.all_eq_true.mp mj_kk_ok1 q h⟩) (app (fun q h => ⟨List.all_eq_true.mp mj_ml_ok2 q h, List.all_eq_true.mp mj_kk_ok2 q h⟩) (app (fun q h => ⟨List.all_eq_true.mp mj_ml_ok3 q h, List.all_eq_true.mp mj_kk_ok3 q h⟩) (app (fun q h => ⟨List.all_eq_true.mp mj_ml_ok4 q h, List.all_eq_true.mp mj_kk_ok4 q h⟩) (app (fun q h => ⟨List.all_eq_true.mp mj_ml_ok5 q h, List.all_eq_true.mp mj_kk_ok5 q h⟩) (app (fun q h => ⟨List.all_eq_true.mp mj_ml_ok6 q h, List.all_eq_true.mp mj_kk_ok6 q h⟩) (app (fun q h => ⟨List.all_eq_true.mp mj_ml_ok7 q h, List.all_eq_true.mp mj_kk_ok7 q h⟩) (fun q h => ⟨List.all_eq_true.mp mj_ml_ok8 q h, List.all_eq_true.mp mj_kk_ok8 q h⟩)))))))))
end MJG
