/-! THE SIMULATION, 3: the heap -/
section MJD
variable {p : Program} {l : Launch} {e : Env} {R : Room} {s : State} {m : MethodId} {args : Array Value} {below : List Frame} {meth : Method} {c : Code} {H : Heap} {locs : List Loc} {cells slots : Nat} {Q : State → Prop}
variable {al : Bool} {B t : Nat} {cA : Nat → ClassId} {D : va_G} {M : mj_Inf} {i : Instr} {a b f pc pc' : Nat} {ls : Array Slot} {lst lst' st st' : List Value} {hp hp' : mj_Hp} {sz sl sz' sl' : Nat}
theorem mj_stD_mono (h : mj_stD al i a b pc lst st hp sz sl = some (.inl (pc', lst', st', hp', sz', sl'))) : sz ≤ sz' ∧ sl ≤ sl' := by
  unfold mj_stD at h
  split at h
  all_goals (try (cases h; done))
  all_goals (try (split at h))
  all_goals (try (cases h; done))
  all_goals (try (split at h))
  all_goals (try (cases h; done))
  all_goals (first | (cases h; omega) | (split at h <;> (try (cases h; done)) <;> (cases h; omega)) | (cases h; simp) | skip)
theorem mj_cls_T {ci : Nat} (h : ci < 12) : mj_Cl[ci]? = some (mj_cn ci, mj_T ci, mj_N ci) := by
  match ci, h with
  | 0, _ => rfl
  | 1, _ => rfl
  | 2, _ => rfl
  | 3, _ => rfl
  | 4, _ => rfl
  | 5, _ => rfl
  | 6, _ => rfl
  | 7, _ => rfl
  | 8, _ => rfl
  | 9, _ => rfl
  | 10, _ => rfl
  | 11, _ => rfl
theorem mj_cls_ty {ci : Nat} (h : ci < 12) : ∀ k, k < mj_N ci → parseFieldDescriptor (mj_T ci k).2.2.1 = some (mj_ty ci k) := by
  match ci, h with
  | 0, _ => exact tyX0_ok
  | 1, _ => exact tyX1_ok
  | 2, _ => exact tyX2_ok
  | 3, _ => exact tyX3_ok
  | 4, _ => exact tyX4_ok
  | 5, _ => exact tyX5_ok
  | 6, _ => exact tyX6_ok
  | 7, _ => exact tyX7_ok
  | 8, _ => exact tyX8_ok
  | 9, _ => exact tyX9_ok
  | 10, _ => exact tyX10_ok
  | 11, _ => exact tyX11_ok
theorem mj_cls_nm {ci : Nat} (h : ci < 12) : ∀ a, a < mj_N ci → ∀ b, b < mj_N ci → a ≠ b → (mj_T ci a).2.1 ≠ (mj_T ci b).2.1 := by
  match ci, h with
  | 0, _ => exact nmX0
  | 1, _ => exact nmX1
  | 2, _ => exact nmX2
  | 3, _ => exact nmX3
  | 4, _ => exact nmX4
  | 5, _ => exact nmX5
  | 6, _ => exact nmX6
  | 7, _ => exact nmX7
  | 8, _ => exact nmX8
  | 9, _ => exact nmX9
  | 10, _ => exact nmX10
  | 11, _ => exact nmX11
def mj_inl (ws : List Jvm.Cond) (ps : List Nat) : Bool := decide (ps.length = ws.length) && (ws.zip ps).all (fun q => mj_w q.2 q.1 && goodWord q.1)
theorem mj_inl_of {ws : List Jvm.Cond} {ps : List Nat} (h : mj_inl ws ps = true) : ∀ w ∈ ws, w ∈ mj_gw := by
  intro w hw
  have h := Bool.and_eq_true_iff.mp h
  have hl := of_decide_eq_true h.1
  obtain ⟨k, hk⟩ := List.getElem?_of_mem hw
  have hk1 : k < ws.length := (List.getElem?_eq_some_iff.mp hk).1
  have hp : ps[k]? = some (ps[k]'(by omega)) := List.getElem?_eq_getElem (by omega)
  have hz : (w, ps[k]'(by omega)) ∈ ws.zip ps := by
    refine List.mem_of_getElem? (i := k) ?_
    rw [List.getElem?_zip_eq_some]
    exact ⟨hk, hp⟩
  have h2 := Bool.and_eq_true_iff.mp (List.all_eq_true.mp h.2 _ hz)
  exact mj_gw_of h2.1 h2.2
theorem mj_lay0 : mj_inl (u_ws RX0 TX0 14) [1125, 1127, 1129, 1131, 1133, 1135, 1137, 1139, 1141, 1143, 1145, 1147, 1149, 1151] = true := by decide +kernel
theorem mj_lay1 : mj_inl (u_ws RX1 TX1 5) [2149, 2151, 2153, 2155, 2157] = true := by decide +kernel
theorem mj_lay2 : mj_inl (u_ws RX2 TX2 4) [2069, 2071, 2073, 2075] = true := by decide +kernel
theorem mj_lay3 : mj_inl (u_ws RX3 TX3 6) [2122, 2124, 2126, 2128, 2130, 2132] = true := by decide +kernel
theorem mj_lay4 : mj_inl (u_ws RX4 TX4 10) [2010, 2012, 2014, 2016, 2018, 2020, 2022, 2024, 2026, 2028] = true := by decide +kernel
theorem mj_lay5 : mj_inl (u_ws RX5 TX5 5) [2098, 2100, 2102, 2104, 2106] = true := by decide +kernel
theorem mj_lay6 : mj_inl (u_ws RX6 TX6 6) [2045, 2047, 2049, 2051, 2053, 2055] = true := by decide +kernel
theorem mj_lay7 : mj_inl (u_ws RX7 TX7 12) [1181, 1183, 1185, 1187, 1189, 1191, 1193, 1195, 1197, 1199, 1201, 1203] = true := by decide +kernel
theorem mj_lay8 : mj_inl (u_ws RX8 TX8 4) [1221, 1223, 1225, 1227] = true := by decide +kernel
theorem mj_lay9 : mj_inl (u_ws RX9 TX9 9) [1054, 1056, 1058, 1060, 1062, 1064, 1066, 1068, 1070] = true := by decide +kernel
theorem mj_lay10 : mj_inl (u_ws RX10 TX10 3) [2170, 2172, 2174] = true := by decide +kernel
theorem mj_lay11 : mj_inl (u_ws RX11 TX11 15) [2192, 2194, 2196, 2198, 2200, 2202, 2204, 2206, 2208, 2210, 2212, 2214, 2216, 2218, 2220] = true := by decide +kernel
theorem mj_cls_lay {ci : Nat} (h : ci < 12) : ∀ w ∈ u_ws (mj_cn ci) (mj_T ci) (mj_N ci), w ∈ mj_gw := by
  match ci, h with
  | 0, _ => exact mj_inl_of mj_lay0
  | 1, _ => exact mj_inl_of mj_lay1
  | 2, _ => exact mj_inl_of mj_lay2
  | 3, _ => exact mj_inl_of mj_lay3
  | 4, _ => exact mj_inl_of mj_lay4
  | 5, _ => exact mj_inl_of mj_lay5
  | 6, _ => exact mj_inl_of mj_lay6
  | 7, _ => exact mj_inl_of mj_lay7
  | 8, _ => exact mj_inl_of mj_lay8
  | 9, _ => exact mj_inl_of mj_lay9
  | 10, _ => exact mj_inl_of mj_lay10
  | 11, _ => exact mj_inl_of mj_lay11
theorem mj_in0 : mj_w 1081 (.instantiable RX0 14) = true := by decide +kernel
theorem mj_in1 : mj_w 2136 (.instantiable RX1 5) = true := by decide +kernel
theorem mj_in2 : mj_w 2059 (.instantiable RX2 4) = true := by decide +kernel
theorem mj_in3 : mj_w 2110 (.instantiable RX3 6) = true := by decide +kernel
theorem mj_in4 : mj_w 1231 (.instantiable RX4 10) = true := by decide +kernel
theorem mj_in5 : mj_w 2079 (.instantiable RX5 5) = true := by decide +kernel
theorem mj_in6 : mj_w 2032 (.instantiable RX6 6) = true := by decide +kernel
theorem mj_in7 : mj_w 1155 (.instantiable RX7 12) = true := by decide +kernel
theorem mj_in8 : mj_w 1075 (.instantiable RX8 4) = true := by decide +kernel
theorem mj_in9 : mj_w 1040 (.instantiable RX9 9) = true := by decide +kernel
theorem mj_in10 : mj_w 2162 (.instantiable RX10 3) = true := by decide +kernel
theorem mj_in11 : mj_w 1032 (.instantiable RX11 15) = true := by decide +kernel
theorem mj_cls_in {ci : Nat} (h : ci < 12) : Jvm.Cond.instantiable (mj_cn ci) (mj_N ci) ∈ mj_gw := by
  match ci, h with
  | 0, _ => exact mj_gw_of mj_in0 rfl
  | 1, _ => exact mj_gw_of mj_in1 rfl
  | 2, _ => exact mj_gw_of mj_in2 rfl
  | 3, _ => exact mj_gw_of mj_in3 rfl
  | 4, _ => exact mj_gw_of mj_in4 rfl
  | 5, _ => exact mj_gw_of mj_in5 rfl
  | 6, _ => exact mj_gw_of mj_in6 rfl
  | 7, _ => exact mj_gw_of mj_in7 rfl
  | 8, _ => exact mj_gw_of mj_in8 rfl
  | 9, _ => exact mj_gw_of mj_in9 rfl
  | 10, _ => exact mj_gw_of mj_in10 rfl
  | 11, _ => exact mj_gw_of mj_in11 rfl
theorem mj_ini0 : mj_w 1004 (.initialized RX0) = true := by decide +kernel
theorem mj_ini1 : mj_w 1011 (.initialized RX1) = true := by decide +kernel
theorem mj_ini2 : mj_w 1008 (.initialized RX2) = true := by decide +kernel
theorem mj_ini3 : mj_w 1010 (.initialized RX3) = true := by decide +kernel
theorem mj_ini4 : mj_w 1006 (.initialized RX4) = true := by decide +kernel
theorem mj_ini5 : mj_w 1009 (.initialized RX5) = true := by decide +kernel
theorem mj_ini6 : mj_w 1007 (.initialized RX6) = true := by decide +kernel
theorem mj_ini7 : mj_w 1005 (.initialized RX7) = true := by decide +kernel
theorem mj_ini8 : mj_w 1003 (.initialized RX8) = true := by decide +kernel
theorem mj_ini9 : mj_w 1002 (.initialized RX9) = true := by decide +kernel
theorem mj_ini10 : mj_w 1012 (.initialized RX10) = true := by decide +kernel
theorem mj_ini11 : mj_w 1001 (.initialized RX11) = true := by decide +kernel
theorem mj_cls_ini {ci : Nat} (h : ci < 12) : Jvm.Cond.initialized (mj_cn ci) ∈ mj_gw := by
  match ci, h with
  | 0, _ => exact mj_gw_of mj_ini0 rfl
  | 1, _ => exact mj_gw_of mj_ini1 rfl
  | 2, _ => exact mj_gw_of mj_ini2 rfl
  | 3, _ => exact mj_gw_of mj_ini3 rfl
  | 4, _ => exact mj_gw_of mj_ini4 rfl
  | 5, _ => exact mj_gw_of mj_ini5 rfl
  | 6, _ => exact mj_gw_of mj_ini6 rfl
  | 7, _ => exact mj_gw_of mj_ini7 rfl
  | 8, _ => exact mj_gw_of mj_ini8 rfl
  | 9, _ => exact mj_gw_of mj_ini9 rfl
  | 10, _ => exact mj_gw_of mj_ini10 rfl
  | 11, _ => exact mj_gw_of mj_ini11 rfl
theorem mj_ar_int : mj_w 1073 (.arrayClass .int) = true := by decide +kernel
theorem mj_ar_long : mj_w 1206 (.arrayClass .long) = true := by decide +kernel
theorem mj_ar_boolean : mj_w 2160 (.arrayClass .boolean) = true := by decide +kernel
def mj_tyk (ty : FieldType) : Bool := match ty with | .int => true | .boolean => true | .long => true | .object _ => true | .array _ => true | _ => false
theorem mj_tyk_ok : ∀ ci, ci < 12 → ∀ k, k < mj_N ci → mj_tyk (mj_ty ci k) = true := by decide +kernel
theorem mj_tykinds {ci k : Nat} (hc : ci < 12) (hk : k < mj_N ci) : mj_ty ci k = .int ∨ mj_ty ci k = .boolean ∨ mj_ty ci k = .long ∨ (∃ C, mj_ty ci k = .object C) ∨ ∃ C, mj_ty ci k = .array C := by
  have h := mj_tyk_ok ci hc k hk
  cases he : mj_ty ci k <;> rw [he] at h <;> first | (cases h; done) | simp
theorem mj_x_nat : mj_w 3192 (.native arraycopyName) = true := by decide +kernel
theorem mj_x_stat : mj_w 3191 (.static arraycopyName) = true := by decide +kernel
theorem mj_x_sys : mj_w 1018 (.initialized "java/lang/System") = true := by decide +kernel
theorem mj_x_math : mj_w 1017 (.initialized "java/lang/Math") = true := by decide +kernel
theorem mj_x_smax : mj_w 5153 (.static Lib.Math.max.name) = true := by decide +kernel
theorem mj_x_cmax : mj_w 5154 (.code Lib.Math.max.name Lib.Math.max.code 2 (some .int)) = true := by decide +kernel
theorem mj_x_smin : mj_w 4049 (.static Lib.Math.min.name) = true := by decide +kernel
theorem mj_x_cmin : mj_w 4050 (.code Lib.Math.min.name Lib.Math.min.code 2 (some .int)) = true := by decide +kernel
theorem mj_x_oi : mj_w 1037 (.instanceMethod objectInit) = true := by decide +kernel
theorem mj_x_oc : mj_w 1038 (.code objectInit ⟨#[0xb1]⟩ 1 none) = true := by decide +kernel
theorem mj_wl_of (hf : ∃ q, mj_fl[f]? = some q ∧ q.1 = M.1 ∧ q.2.1 = pc ∧ q.2.2.1 = a ∧ q.2.2.2.1 = b) : a < 12 ∧ b < mj_N a ∧ Jvm.Cond.fieldLink (mj_cn M.1) pc (mj_T a b).1 (mj_T a b).2.1 (mj_T a b).2.2.1 ∈ mj_gw := by
  obtain ⟨q, h1, h2, h3, h4, h5⟩ := hf
  have hk := List.all_eq_true.mp mj_fl_ok q (List.mem_of_getElem? h1)
  unfold mj_flk at hk
  rw [h2, h3, h4, h5] at hk
  simp only [Bool.and_eq_true] at hk
  exact ⟨Nat.le_of_ble_eq_true hk.2, Nat.le_of_ble_eq_true hk.1.2, mj_gw_of hk.1.1 rfl⟩
theorem mj_fits_narrow {ci k : Nat} (hc : ci < 12) (hk : k < mj_N ci) {v : Value} (h : fits (mj_ty ci k) v = true) : narrow (mj_ty ci k) v = v := by
  have hty : mj_ty ci k = .int ∨ mj_ty ci k = .boolean ∨ mj_ty ci k = .long ∨ (∃ C, mj_ty ci k = .object C) ∨ ∃ C, mj_ty ci k = .array C := mj_tykinds hc hk
  rcases hty with e | e | e | ⟨C, e⟩ | ⟨C, e⟩ <;> rw [e] at h ⊢ <;> cases v <;> first | rfl | (simp [fits] at h; done) | skip
  rename_i x
  simp only [fits, Bool.or_eq_true, beq_iff_eq] at h
  rcases h with rfl | rfl <;> decide
theorem mj_fits_cv {ty : FieldType} {v : Value} (h : fits ty v = true) : fits ty (mj_v B t v) = true := by
  cases v <;> first | exact h | (cases ty <;> first | rfl | (simp [fits] at h; done))
end MJD
