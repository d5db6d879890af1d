/-! MISSING behind the third and fourth text; rows read -/
def zo_A (g : gM) (r : Nat) : Prop := kr_se (kp_o g (r : Int)) (fun k => ((kr_dg 10 3 202 k : Nat) : Int)) 3 = true
def zo_B (g : gM) (r : Nat) : Prop := kr_se (kp_o g (r : Int)) (fun k => ((kr_dg 10 1 2 k : Nat) : Int)) 1 = true
section ZVD
variable {g : gM}
theorem zo_of {e : Nat} {d : zz_d} {fl wl al ol : List Nat} {q : zz_q} {LL : zz_ll} {T : zz_t} {r : Nat} {a b : Bool} (hK : zo_K g r d e fl wl al ol q LL) (hR : zz_R g d.1 [0, 0, 0] [0, 0, 0]) (hk : zz_kk d = true) (hT : zz_tab d wl al ol [0, 0, 0] [0, 0, 0] q LL false = T) (hr : (r : Int) < g 0 2) (ha : zt_se d q T (kr_dg 10 3 202) 3 = some a) (hb : zt_se d q T (kr_dg 10 1 2) 1 = some b) :
    kp_may g r ∧ (zo_A g r ↔ a = true) ∧ (zo_B g r ↔ b = true) := by
  have hH : zt_H (kp_o g (r : Int)) d q T := zz_H hK (zz_R_o hR) hk hT
  refine ⟨⟨hr, Or.inr ⟨_, hK.2.1⟩⟩, ?_, ?_⟩
  · unfold zo_A
    rw [zt_seE hH ha]
  · unfold zo_B
    rw [zt_seE hH hb]
theorem zo_3 (hW : jn_GW g) (hI : zz_I g zg_3_d) (hR : zz_R g 3 [0, 0, 0] [0, 0, 0]) : ∀ r : Nat, r < 5 → kp_may g r ∧ (zo_A g r ↔ (r = 1 ∨ r = 2)) ∧ (zo_B g r ↔ (r = 0 ∨ r = 2)) := by
  have hn : g 0 2 = 5 := hI.1.2.2.1
  intro r hr
  match r, hr with
  | 0, _ =>
    obtain ⟨h1, h2, h3⟩ := zo_of (a := false) (b := true) (zo_3a hW hI) hR (by decide +kernel) zg_3a_tab (by omega) (by decide +kernel) (by decide +kernel)
    exact ⟨h1, ⟨fun h => absurd (h2.mp h) (by decide), fun h => by omega⟩, ⟨fun _ => Or.inl rfl, fun _ => h3.mpr rfl⟩⟩
  | 1, _ =>
    obtain ⟨h1, h2, h3⟩ := zo_of (a := true) (b := false) (zo_3b hW hI) hR (by decide +kernel) zg_3b_tab (by omega) (by decide +kernel) (by decide +kernel)
    exact ⟨h1, ⟨fun _ => Or.inl rfl, fun _ => h2.mpr rfl⟩, ⟨fun h => absurd (h3.mp h) (by decide), fun h => by omega⟩⟩
  | 2, _ =>
    obtain ⟨h1, h2, h3⟩ := zo_of (a := true) (b := true) (zo_3c hW hI) hR (by decide +kernel) zg_3c_tab (by omega) (by decide +kernel) (by decide +kernel)
    exact ⟨h1, ⟨fun _ => Or.inr rfl, fun _ => h2.mpr rfl⟩, ⟨fun _ => Or.inr rfl, fun _ => h3.mpr rfl⟩⟩
  | 3, _ =>
    obtain ⟨h1, h2, h3⟩ := zo_of (a := false) (b := false) (zo_3d hW hI) hR (by decide +kernel) zg_3d_tab (by omega) (by decide +kernel) (by decide +kernel)
    exact ⟨h1, ⟨fun h => absurd (h2.mp h) (by decide), fun h => by omega⟩, ⟨fun h => absurd (h3.mp h) (by decide), fun h => by omega⟩⟩
  | 4, _ =>
    obtain ⟨h1, h2, h3⟩ := zo_of (a := false) (b := false) (zo_3e hW hI) hR (by decide +kernel) zg_3e_tab (by omega) (by decide +kernel) (by decide +kernel)
    exact ⟨h1, ⟨fun h => absurd (h2.mp h) (by decide), fun h => by omega⟩, ⟨fun h => absurd (h3.mp h) (by decide), fun h => by omega⟩⟩
/-- the NOTES -/
def zn_1 (f : Nat → Int × Int × Int) : kn_N := kn_add ((0, -1), f) (3, 202, 1)
def zn_2 (f : Nat → Int × Int × Int) : kn_N := kn_add (zn_1 f) (1, 2, 0)
def zn_3 (f : Nat → Int × Int × Int) : kn_N := kn_add (zn_2 f) (-1, 0, 0)
variable {f : Nat → Int × Int × Int}
theorem zn_mk (hW : jn_GW g) (hI : zz_I g zg_3_d) (hR : zz_R g 3 [0, 0, 0] [0, 0, 0]) {N : kn_N} {p : Nat → Bool} {c : Nat} (h : ∀ r, r < 5 → (kp_may g r ∧ (zo_A g r ↔ (r = 1 ∨ r = 2)) ∧ (zo_B g r ↔ (r = 0 ∨ r = 2))) → (kp_mi g N r ↔ p r = true)) (hc : zz_mk (fun r => decide (r < 5) && p r) 12 = c) : jn_mk (kp_mi g N) 12 = c := by
  rw [← hc]
  refine zz_mkE (fun r _ => ?_)
  rw [Bool.and_eq_true, decide_eq_true_iff]
  have hn : g 0 2 = 5 := hI.1.2.2.1
  constructor
  · intro hm
    have h5 : r < 5 := by
      have := hm.1.1
      omega
    exact ⟨h5, (h r h5 (zo_3 hW hI hR r h5)).mp hm⟩
  · rintro ⟨h5, h6⟩
    exact (h r h5 (zo_3 hW hI hR r h5)).mpr h6
theorem zn_none {N : kn_N} (h : kn_kb N = 0) {r : Nat} (hm : kp_may g r) : kp_mi g N r := ⟨hm, fun i hi => absurd hi.1 (by omega)⟩
theorem zn_m0 (hW : jn_GW g) (hI : zz_I g zg_3_d) (hR : zz_R g 3 [0, 0, 0] [0, 0, 0]) : jn_mk (kp_mi g ((0, -1), f)) 12 = 31 := zn_mk hW hI hR (p := fun _ => true) (fun r _ h => ⟨fun _ => rfl, fun _ => zn_none rfl h.1⟩) (by decide +kernel)
theorem zn_m5 (hW : jn_GW g) (hI : zz_I g zg_3_d) (hR : zz_R g 3 [0, 0, 0] [0, 0, 0]) : jn_mk (kp_mi g (kn_lim (kn_lim (zn_3 f) 1) 0)) 12 = 31 := zn_mk hW hI hR (p := fun _ => true) (fun r _ h => ⟨fun _ => rfl, fun _ => zn_none rfl h.1⟩) (by decide +kernel)
theorem zn_A {N : kn_N} (h0 : N.2 0 = (3, 202, 1)) {r : Nat} : (kr_se (kp_o g (r : Int)) (fun k => ((kr_dg 10 (N.2 0).1.toNat (N.2 0).2.1.toNat k : Nat) : Int)) (N.2 0).1.toNat = true ↔ (N.2 0).2.2 = 1) ↔ zo_A g r := by
  rw [h0]
  exact ⟨fun h => h.mpr rfl, fun h => ⟨fun _ => rfl, fun _ => h⟩⟩
theorem zn_B {N : kn_N} (h1 : N.2 1 = (1, 2, 0)) {r : Nat} : (kr_se (kp_o g (r : Int)) (fun k => ((kr_dg 10 (N.2 1).1.toNat (N.2 1).2.1.toNat k : Nat) : Int)) (N.2 1).1.toNat = true ↔ (N.2 1).2.2 = 1) ↔ ¬ zo_B g r := by
  rw [h1]
  exact ⟨fun h z => absurd (h.mp z) (by decide), fun h => ⟨fun z => absurd z h, fun z => absurd z (by decide)⟩⟩
theorem zn_m1 (hW : jn_GW g) (hI : zz_I g zg_3_d) (hR : zz_R g 3 [0, 0, 0] [0, 0, 0]) : jn_mk (kp_mi g (zn_1 f)) 12 = 6 := zn_mk hW hI hR (p := fun r => Nat.beq r 1 || Nat.beq r 2) (fun r _ h => by
  rw [Bool.or_eq_true, Nat.beq_eq, Nat.beq_eq]
  constructor
  · intro hm
    exact h.2.1.mp ((zn_A (N := zn_1 f) rfl).mp (hm.2 0 ⟨(show 0 < 1 by decide), rfl, by show (0 : Int) ≤ 3; decide⟩))
  · intro hr
    refine ⟨h.1, fun i hi => ?_⟩
    have hi1 : i < 1 := hi.1
    obtain rfl : i = 0 := by omega
    exact (zn_A (N := zn_1 f) rfl).mpr (h.2.1.mpr hr)) (by decide +kernel)
theorem zn_m2 (hW : jn_GW g) (hI : zz_I g zg_3_d) (hR : zz_R g 3 [0, 0, 0] [0, 0, 0]) : jn_mk (kp_mi g (zn_2 f)) 12 = 2 := zn_mk hW hI hR (p := fun r => Nat.beq r 1) (fun r _ h => by
  rw [Nat.beq_eq]
  constructor
  · intro hm
    have a := h.2.1.mp ((zn_A (N := zn_2 f) rfl).mp (hm.2 0 ⟨(show 0 < 2 by decide), rfl, by show (0 : Int) ≤ 3; decide⟩))
    have b := (zn_B (N := zn_2 f) rfl).mp (hm.2 1 ⟨(show 1 < 2 by decide), rfl, by show (0 : Int) ≤ 1; decide⟩)
    have b2 : ¬ (r = 0 ∨ r = 2) := fun z => b (h.2.2.mpr z)
    omega
  · intro hr
    refine ⟨h.1, fun i hi => ?_⟩
    have hi1 : i < 2 := hi.1
    rcases (show i = 0 ∨ i = 1 by omega) with rfl | rfl
    · exact (zn_A (N := zn_2 f) rfl).mpr (h.2.1.mpr (Or.inl hr))
    · exact (zn_B (N := zn_2 f) rfl).mpr (fun z => by have := h.2.2.mp z; omega)) (by decide +kernel)
theorem zn_m3 (hW : jn_GW g) (hI : zz_I g zg_3_d) (hR : zz_R g 3 [0, 0, 0] [0, 0, 0]) : jn_mk (kp_mi g (zn_3 f)) 12 = 26 := zn_mk hW hI hR (p := fun r => Nat.beq r 1 || (Nat.beq r 3 || Nat.beq r 4)) (fun r h5 h => by
  rw [Bool.or_eq_true, Bool.or_eq_true, Nat.beq_eq, Nat.beq_eq, Nat.beq_eq]
  constructor
  · intro hm
    have b := (zn_B (N := zn_3 f) rfl).mp (hm.2 1 ⟨(show 1 < 3 by decide), rfl, by show (0 : Int) ≤ 1; decide⟩)
    have b2 : ¬ (r = 0 ∨ r = 2) := fun z => b (h.2.2.mpr z)
    omega
  · intro hr
    refine ⟨h.1, fun i hi => ?_⟩
    have hi1 : i < 3 := hi.1
    rcases (show i = 0 ∨ i = 1 ∨ i = 2 by omega) with rfl | rfl | rfl
    · have : kn_gn (zn_3 f) 0 = true := rfl
      rw [hi.2.1] at this
      cases this
    · exact (zn_B (N := zn_3 f) rfl).mpr (fun z => by have := h.2.2.mp z; omega)
    · have : (0 : Int) ≤ -1 := hi.2.2
      omega) (by decide +kernel)
theorem zn_m4 (hW : jn_GW g) (hI : zz_I g zg_3_d) (hR : zz_R g 3 [0, 0, 0] [0, 0, 0]) : jn_mk (kp_mi g (kn_lim (zn_3 f) 1)) 12 = 6 := zn_mk hW hI hR (p := fun r => Nat.beq r 1 || Nat.beq r 2) (fun r _ h => by
  rw [Bool.or_eq_true, Nat.beq_eq, Nat.beq_eq]
  constructor
  · intro hm
    exact h.2.1.mp ((zn_A (N := kn_lim (zn_3 f) 1) rfl).mp (hm.2 0 ⟨(show 0 < 1 by decide), rfl, by show (0 : Int) ≤ 3; decide⟩))
  · intro hr
    refine ⟨h.1, fun i hi => ?_⟩
    have hi1 : i < 1 := hi.1
    obtain rfl : i = 0 := by omega
    exact (zn_A (N := kn_lim (zn_3 f) 1) rfl).mpr (h.2.1.mpr hr)) (by decide +kernel)
/-- without a RULE of the fourth text there are STATES, too -/
theorem zg_4o : (zz_all (1, 2, [(0, [11, 0]), (1, [])], 0) (zz_al (1, 2, [(0, [11, 0]), (1, [])], 0)) (zz_ol (1, 2, [(0, [11, 0]), (1, [])], 0))).isSome = true ∧ (zz_all (1, 2, [(0, [11, 0]), (1, [])], 1) (zz_al (1, 2, [(0, [11, 0]), (1, [])], 1)) (zz_ol (1, 2, [(0, [11, 0]), (1, [])], 1))).isSome = true := by decide +kernel
theorem zn_may {d : zz_d} {r : Nat} (hI : zz_I (kp_o g (r : Int)) d) (hr : (r : Int) < g 0 2) (h : (zz_all d (zz_al d) (zz_ol d)).isSome = true) : kp_may g r := by
  refine ⟨hr, Or.inr ?_⟩
  obtain ⟨q, hq⟩ := Option.isSome_iff_exists.mp h
  rw [zz_allE hI (zz_T_of hI), hq]
  exact ⟨_, rfl⟩
theorem zn_m6 (hI : zz_I g zg_4_d) : jn_mk (kp_mi g ((0, -1), f)) 12 = 3 := by
  have hn : g 0 2 = 2 := hI.1.2.2.1
  have h0 : kp_may g 0 := zn_may (d := (1, 2, [(0, [11, 0]), (1, [])], 0)) (zz_I_o hI) (by omega) zg_4o.1
  have h1 : kp_may g 1 := zn_may (d := (1, 2, [(0, [11, 0]), (1, [])], 1)) (zz_I_o hI) (by omega) zg_4o.2
  have : jn_mk (kp_mi g ((0, -1), f)) 12 = zz_mk (fun r => decide (r < 2)) 12 := zz_mkE (fun r _ => by
    rw [decide_eq_true_iff]
    refine ⟨fun h => by have := h.1.1; omega, fun h => ?_⟩
    rcases (show r = 0 ∨ r = 1 by omega) with rfl | rfl
    · exact zn_none rfl h0
    · exact zn_none rfl h1)
  rw [this]
  decide +kernel
end ZVD
