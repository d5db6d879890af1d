/-! LIFTED METHODS, 8: from a method's entry, and from each loop's head, what must hold for its run to end with Q (printed by wip/whole/gen/gen18.py) -/
set_option maxRecDepth 100000 in
set_option maxHeartbeats 4000000 in
theorem jb_J7_fill_53178_0 {w : Nat} {a0 : Nat} {n0 : Nat} {x1 : Int} {σ : jg_M} {Q : jg_M → Prop} (h0 : jg_sh a0 = (20, n0)) (h : ∀ t101 : Int, t101 = (n0 : Int) → jg_GV w 0 mm_J7_fill_53178 5 [.ref a0, .int (.ofInt x1), .int (.ofInt 0), .int (.ofInt t101)] σ Q) : jg_CV w 0 mm_J7_fill_53178 [.ref a0, .int (.ofInt x1)] σ Q := by
  show jg_G w 0 mm_J7_fill_53178 0 [.ref a0, .int (.ofInt x1), mj_U, mj_U] [] σ (jg_QV Q)
  refine jg_A (pc' := 1) rfl rfl (fun _ _ _ => rfl) ?_
  refine jg_A (pc' := 2) (ls' := [.ref a0, .int (.ofInt x1), .int (.ofInt 0), mj_U]) rfl rfl (fun _ _ _ => rfl) ?_
  refine jg_A (pc' := 3) rfl rfl (fun _ _ _ => rfl) ?_
  refine jg_alen (pc' := 4) (ni := (n0 : Int)) rfl h0 (by decide) rfl rfl ?_
  refine jg_nm (F := fun t101 => jg_G w 0 mm_J7_fill_53178 4 [.ref a0, .int (.ofInt x1), .int (.ofInt 0), mj_U] [.int (.ofInt t101)] σ (jg_QV Q)) (n0 : Int) (fun t101 ht101 => ?_)
  have h := h t101 ht101
  refine jg_A (pc' := 5) (ls' := [.ref a0, .int (.ofInt x1), .int (.ofInt 0), .int (.ofInt t101)]) rfl rfl (fun _ _ _ => rfl) ?_
  exact h
set_option maxRecDepth 100000 in
set_option maxHeartbeats 4000000 in
theorem jb_J7_fill_53178_5 {w : Nat} {n0 : Nat} {a0 : Nat} {x1 : Int} {x2 : Int} {x3 : Int} {σ : jg_M} {Q : jg_M → Prop} (h0 : jg_sh a0 = (20, n0)) (h : (if jg_wr x3 ≤ jg_wr x2 then Q σ else ((0 : Int) ≤ (jg_wr x2) ∧ (jg_wr x2) < (n0 : Int)) ∧ ∀ m101 : jg_M, m101 = jg_sI σ a0 (jg_wr x2) x1 → jg_GV w 0 mm_J7_fill_53178 5 [.ref a0, .int (.ofInt x1), .int (.ofInt (x2 + 1)), .int (.ofInt x3)] m101 Q)) : jg_GV w 0 mm_J7_fill_53178 5 [.ref a0, .int (.ofInt x1), .int (.ofInt x2), .int (.ofInt x3)] σ Q := by
  show jg_G w 0 mm_J7_fill_53178 5 [.ref a0, .int (.ofInt x1), .int (.ofInt x2), .int (.ofInt x3)] [] σ (jg_QV Q)
  refine jg_A (pc' := 6) rfl rfl (fun _ _ _ => rfl) ?_
  refine jg_A (pc' := 7) rfl rfl (fun _ _ _ => rfl) ?_
  refine jg_cge (pc' := 10) rfl rfl (fun hc => ?_) (fun hc => ?_)
  · have h := jg_t h (show jg_wr x3 ≤ jg_wr x2 from hc)
    exact jg_vret rfl rfl h
  · have h := jg_f h (show ¬ (jg_wr x3 ≤ jg_wr x2) from hc)
    refine jg_A (pc' := 11) rfl rfl (fun _ _ _ => rfl) ?_
    refine jg_A (pc' := 12) rfl rfl (fun _ _ _ => rfl) ?_
    refine jg_A (pc' := 13) rfl rfl (fun _ _ _ => rfl) ?_
    obtain ⟨hg, h⟩ := h
    refine jg_iast (pc' := 14) rfl h0 hg rfl (fun m101 hm101 => ?_)
    have h := h m101 hm101
    refine jg_iinc (pc' := 17) (ls' := [.ref a0, .int (.ofInt x1), .int (.ofInt (x2 + 1)), .int (.ofInt x3)]) rfl rfl rfl rfl ?_
    refine jg_goto rfl ?_
    exact h
