/-! THE JDK's METHODS, 1: their words, their classes, what a text is -/
def zj_nn : Nat → Prop := fun _ => False
def TJ4 : u_T := fun k => match k with
  | 0 => ("java/lang/AbstractStringBuilder", "value", "[B", false)
  | 1 => ("java/lang/AbstractStringBuilder", "coder", "B", false)
  | 2 => ("java/lang/AbstractStringBuilder", "maybeLatin1", "Z", false)
  | _ => ("java/lang/AbstractStringBuilder", "count", "I", false)
def tyJ4 : Nat → FieldType := fun k => match k with
  | 0 => .array .byte
  | 1 => .byte
  | 2 => .boolean
  | _ => .int
theorem nmJ4 : ∀ a, a < 4 → ∀ b, b < 4 → a ≠ b → (TJ4 a).2.1 ≠ (TJ4 b).2.1 := by decide +kernel
theorem tyJ4_ok : ∀ k, k < 4 → parseFieldDescriptor (TJ4 k).2.2.1 = some (tyJ4 k) := by decide +kernel
def TJ0 : u_T := fun k => match k with
  | 0 => ("java/lang/String", "value", "[B", true)
  | 1 => ("java/lang/String", "coder", "B", true)
  | 2 => ("java/lang/String", "hash", "I", false)
  | _ => ("java/lang/String", "hashIsZero", "Z", false)
def tyJ0 : Nat → FieldType := fun k => match k with
  | 0 => .array .byte
  | 1 => .byte
  | 2 => .int
  | _ => .boolean
theorem nmJ0 : ∀ a, a < 4 → ∀ b, b < 4 → a ≠ b → (TJ0 a).2.1 ≠ (TJ0 b).2.1 := by decide +kernel
theorem tyJ0_ok : ∀ k, k < 4 → parseFieldDescriptor (TJ0 k).2.2.1 = some (tyJ0 k) := by decide +kernel
abbrev zj_cl : List vw_C := [(RJ4, TJ4, 4), (RJ0, TJ0, 4)]
def zj_ex : List Jvm.Cond := [.selects RJ4 yJ5_ensureCapacityInternal_d00df yJ5_ensureCapacityInternal_d00df, .selects RJ4 yJ5_newCapacity_0f7a4 yJ5_newCapacity_0f7a4, .selects RJ4 yJ5_putStringAt_47b60 yJ5_putStringAt_47b60, .selects RJ4 yJ5_inflateIfNeededFor_a7421 yJ5_inflateIfNeededFor_a7421]
def zj_gw : List Jvm.Cond := zj_ex ++ mj_gw
theorem zj_m {w : Jvm.Cond} {q : Nat} (h : mj_w q w = true) (hg : goodWord w = true) : w ∈ zj_gw := List.mem_append_right _ (mj_gw_of h hg)
theorem zj_t {x w : Jvm.Cond} {q : Nat} (h : mj_w q w = true) (hg : goodWord w = true) : w ∈ x :: zj_gw := List.mem_cons_of_mem _ (zj_m h hg)
theorem zj_goodW : ∀ w ∈ zj_gw, goodWord w = true := by
  intro w hw
  rcases List.mem_append.mp hw with hw | hw
  · exact (show ∀ w ∈ zj_ex, goodWord w = true by decide +kernel) w hw
  · exact (List.mem_filter.mp hw).2
theorem zj_good {x : Jvm.Cond} {ws : List Jvm.Cond} (h : ∀ w ∈ ws, w ∈ zj_gw) : GoodIn (x :: zj_gw) ws := fun w hw => ⟨List.mem_cons_of_mem _ (h w hw), good_of_word (zj_goodW w (h w hw))⟩
theorem zj_goodL {ws : List Jvm.Cond} (h : ∀ w ∈ ws, w ∈ zj_gw) : GoodIn zj_gw ws := fun w hw => ⟨h w hw, good_of_word (zj_goodW w (h w hw))⟩
theorem zj_sel {C : String} {y : MethodName} {s : State} {args : Array Value} {n : Nat} (hy : y.cls ≠ "java/lang/invoke/MethodHandle" ∧ y.cls ≠ "java/lang/invoke/VarHandle")
    (hins : (Jvm.Cond.instantiable C n).before args s = true) (hsm : (Jvm.Cond.sameMethod y.cls y.cls y.name y.desc).before args s = true) (hpriv : (Jvm.Cond.privateMethod y).before args s = true) (hinst : (Jvm.Cond.instanceMethod y).before args s = true) :
    (Jvm.Cond.selects C y y).before args s = true := by
  obtain ⟨c, k, hc, hk, -⟩ := Cond.instantiable_spec hins
  obtain ⟨mk, methM, hnamed, hmethM, -, -⟩ := Cond.instanceMethod_spec hinst
  have hfound : s.methodFound? y.cls y.name y.desc = some mk := State.methodFound?_of_named hnamed hy
  have hsel : selectMethod {} s.vm c mk = .method mk := selectMethod_private hmethM (Cond.privateMethod_at hpriv mk methM hnamed hmethM)
  have hcl : s.vm.findClass y.cls = some mk.cls := findClass_of_methodNamed hnamed
  have hn2 : s.methodNamed? ⟨y.cls, y.name, y.desc⟩ = some mk := hnamed
  have hni : (s.vm.classes[mk.cls]?).any (fun k => !k.isInterface) = true := by
    simp only [Cond.before, Cond.holds, Cond.value, hcl, hfound, hn2] at hsm
    simpa using hsm
  cases hk2 : s.vm.classes[mk.cls]? with
  | none => rw [hk2] at hni; simp at hni
  | some k2 =>
    rw [hk2] at hni
    simp at hni
    simp only [Cond.before, Cond.holds, Cond.value, hc, hfound, hnamed, hsel, hk2]
    simp [hni]
theorem zj_all {args : Array Value} {s : State} (hts : ∀ w ∈ lw_tbl, w.before args s = true) : ∀ w ∈ zj_gw, w.before args s = true := by
  intro w hw
  rcases List.mem_append.mp hw with hw | hw
  · have hi := hts (.instantiable RJ4 4) (mj_tbl_of (q := 6159) (by decide +kernel))
    have hx : (fun n => n ≠ "java/lang/invoke/MethodHandle" ∧ n ≠ "java/lang/invoke/VarHandle") RJ5 := by decide +kernel
    simp only [zj_ex, List.mem_cons, List.not_mem_nil, or_false] at hw
    rcases hw with rfl | rfl | rfl | rfl
    · exact zj_sel (y := yJ5_ensureCapacityInternal_d00df) hx hi (hts _ (mj_tbl_of (q := 7135) (by decide +kernel))) (hts _ (mj_tbl_of (q := 6200) (by decide +kernel))) (hts _ (mj_tbl_of (q := 6201) (by decide +kernel)))
    · exact zj_sel (y := yJ5_newCapacity_0f7a4) hx hi (hts _ (mj_tbl_of (q := 7136) (by decide +kernel))) (hts _ (mj_tbl_of (q := 6204) (by decide +kernel))) (hts _ (mj_tbl_of (q := 6205) (by decide +kernel)))
    · exact zj_sel (y := yJ5_putStringAt_47b60) hx hi (hts _ (mj_tbl_of (q := 7137) (by decide +kernel))) (hts _ (mj_tbl_of (q := 7010) (by decide +kernel))) (hts _ (mj_tbl_of (q := 7011) (by decide +kernel)))
    · exact zj_sel (y := yJ5_inflateIfNeededFor_a7421) hx hi (hts _ (mj_tbl_of (q := 7138) (by decide +kernel))) (hts _ (mj_tbl_of (q := 7014) (by decide +kernel))) (hts _ (mj_tbl_of (q := 7015) (by decide +kernel)))
  · exact hts w (List.mem_filter.mp hw).1
/-- a Latin-1 text at q, its bytes at v -/
def zs_F (A : Nat → Prop) (q v n : Nat) (g : Nat → Int32) (U : State) (h : Heap) : Prop := va_O "java/lang/String" q A U h ∧ va_OF "java/lang/String" "coder" "B" (.int 0) q A U h ∧ va_OF "java/lang/String" "value" "[B" (.ref v) q A U h ∧ va_T .byte v n (fun j => .int (g j)) A U h
def zs_C (A : Nat → Prop) (U : State) (h : Heap) : Prop := va_Z "java/lang/String" "COMPACT_STRINGS" "Z" (.int 1) A U h
theorem zs_F.moved {A : Nat → Prop} {q v n : Nat} {g : Nat → Int32} {u U : State} {h : Heap} (hv : u.vm.Alike U.vm) (H : zs_F A q v n g u h) : zs_F A q v n g U h := ⟨H.1.moved hv, H.2.1.moved hv, H.2.2.1.moved hv, H.2.2.2.moved hv⟩
theorem zs_F.kept {A : Nat → Prop} {q v n : Nat} {g : Nat → Int32} {U : State} {h h1 : Heap} (H : zs_F A q v n g U h) (hq : ∀ a : Nat, a < h.size → ¬ A a → h1[a]? = h[a]?) : zs_F A q v n g U h1 := ⟨H.1.kept hq, H.2.1.kept hq, H.2.2.1.kept hq, H.2.2.2.kept hq⟩
theorem zs_F.narrow {A B : Nat → Prop} {q v n : Nat} {g : Nat → Int32} {U : State} {h : Heap} (H : zs_F A q v n g U h) (hAB : ∀ q, B q → A q) : zs_F B q v n g U h := ⟨H.1.narrow hAB, H.2.1.narrow hAB, H.2.2.1.narrow hAB, H.2.2.2.narrow hAB⟩
theorem zs_C.moved {A : Nat → Prop} {u U : State} {h : Heap} (hv : u.vm.Alike U.vm) (H : zs_C A u h) : zs_C A U h := va_Z.moved hv H
theorem zs_C.kept {A : Nat → Prop} {U : State} {h h1 : Heap} (H : zs_C A U h) (hq : ∀ a : Nat, a < h.size → ¬ A a → h1[a]? = h[a]?) : zs_C A U h1 := va_Z.kept H hq
theorem zs_C.narrow {A B : Nat → Prop} {U : State} {h : Heap} (H : zs_C A U h) (hAB : ∀ q, B q → A q) : zs_C B U h := va_Z.narrow H hAB
section ZJW
variable {p : Program} {l : Launch} {e : Env} {R : Room} {s : State} {m : MethodId} {args : Array Value} {below : List Frame} {meth : Method} {c : Code} {H : Heap} {locs : List Loc} {cells slots : Nat} {Q : State → Prop} {pc : Nat} {ls : Array Slot} {rest : List Value}
theorem zj_top {x y : Int32} (h : x = y) (k : W p l e R s m args below meth c H locs cells slots Q (F0 m pc ls (.int y :: rest))) : W p l e R s m args below meth c H locs cells slots Q (F0 m pc ls (.int x :: rest)) := by
  subst h
  exact k
end ZJW
section ZJG
variable {x : Jvm.Cond} {own C : String} {ix n : Nat} {y : MethodName} {b : ByteArray} {ret : Option FieldType}
theorem zj_V (h1 : Jvm.Cond.methodLink own ix y ∈ zj_gw) (h2 : Jvm.Cond.instanceMethod y ∈ zj_gw) (h3 : Jvm.Cond.selects C y y ∈ zj_gw) (h4 : Jvm.Cond.initialized C ∈ zj_gw) (h5 : Jvm.Cond.code y b n ret ∈ zj_gw) : ∀ w ∈ wsV own ix C y (Jvm.Cond.code y b n ret :: zj_gw), w ∈ zj_gw := by
  intro w hw
  unfold wsV at hw
  simp only [List.mem_append, List.mem_cons, List.not_mem_nil, or_false] at hw
  rcases hw with (rfl | rfl | rfl | rfl) | rfl | hw
  · exact h1
  · exact h2
  · exact h3
  · exact h4
  · exact h5
  · exact hw
theorem zj_S (h1 : Jvm.Cond.methodLink own ix y ∈ zj_gw) (h2 : Jvm.Cond.static y ∈ zj_gw) (h4 : Jvm.Cond.initialized y.cls ∈ zj_gw) (h5 : Jvm.Cond.code y b n ret ∈ zj_gw) : ∀ w ∈ va_wsS own ix y (Jvm.Cond.code y b n ret :: zj_gw), w ∈ zj_gw := by
  intro w hw
  unfold va_wsS at hw
  simp only [List.mem_append, List.mem_cons, List.not_mem_nil, or_false] at hw
  rcases hw with (rfl | rfl | rfl) | rfl | hw
  · exact h1
  · exact h2
  · exact h4
  · exact h5
  · exact hw
theorem zj_U {owner : String} {x' : MethodName} (h1 : Jvm.Cond.methodLink own ix x' ∈ zj_gw) (h2 : Jvm.Cond.sameMethod x'.cls owner x'.name x'.desc ∈ zj_gw) (h3 : Jvm.Cond.selects C x' y ∈ zj_gw) (h4 : Jvm.Cond.instanceMethod y ∈ zj_gw) (h6 : Jvm.Cond.initialized y.cls ∈ zj_gw) (h5 : Jvm.Cond.code y b n ret ∈ zj_gw) : ∀ w ∈ va_wsU own ix C owner x' y (Jvm.Cond.code y b n ret :: zj_gw), w ∈ zj_gw := by
  intro w hw
  unfold va_wsU at hw
  simp only [List.mem_append, List.mem_cons, List.not_mem_nil, or_false] at hw
  rcases hw with (rfl | rfl | rfl | rfl | rfl) | rfl | hw
  · exact h1
  · exact h2
  · exact h3
  · exact h4
  · exact h6
  · exact h5
  · exact hw
theorem zj_SU (h1 : Jvm.Cond.methodLink own ix y ∈ zj_gw) (h2 : Jvm.Cond.sameMethod y.cls y.cls y.name y.desc ∈ zj_gw) (h3 : Jvm.Cond.superclass own y.cls ∈ zj_gw) (h4 : Jvm.Cond.instanceMethod y ∈ zj_gw) (h6 : Jvm.Cond.initialized y.cls ∈ zj_gw) (h5 : Jvm.Cond.code y b n ret ∈ zj_gw) : ∀ w ∈ va_wsSU own ix y (Jvm.Cond.code y b n ret :: zj_gw), w ∈ zj_gw := by
  intro w hw
  unfold va_wsSU at hw
  simp only [List.mem_append, List.mem_cons, List.not_mem_nil, or_false] at hw
  rcases hw with (rfl | rfl | rfl | rfl | rfl) | rfl | hw
  · exact h1
  · exact h2
  · exact h3
  · exact h4
  · exact h6
  · exact h5
  · exact hw
theorem zj_C (h5 : Jvm.Cond.code y b n ret ∈ zj_gw) : ∀ w ∈ (Jvm.Cond.code y b n ret :: zj_gw), w ∈ zj_gw := fun w hw => (List.mem_cons.mp hw).elim (fun e => e ▸ h5) id
end ZJG
