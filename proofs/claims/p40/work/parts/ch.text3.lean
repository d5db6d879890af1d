/-! LalrDeskLaw.text, 3: its contract -/
theorem dL_text_0 : decode cL_text 0 = .ok (.iconst 0, 1) := by decide +kernel
theorem dL_text_1 : decode cL_text 1 = .ok (.istore_n 2, 1) := by decide +kernel
theorem dL_text_105 : decode cL_text 105 = .ok (.aload_n 0, 1) := by decide +kernel
theorem dL_text_106 : decode cL_text 106 = .ok (.aload_n 1, 1) := by decide +kernel
theorem dL_text_107 : decode cL_text 107 = .ok (.invokevirtual 8, 3) := by decide +kernel
theorem dL_text_110 : decode cL_text 110 = .ok (.invokevirtual 24, 3) := by decide +kernel
theorem dL_text_113 : decode cL_text 113 = .ok (.ireturn, 1) := by decide +kernel
section ZTZ
variable {p : Program} {l : Launch} {e : Env} {R : Room} {s : State} {m : MethodId} {args : Array Value} {below : List Frame} {meth : Method} {c : Code} {H : Heap} {locs : List Loc} {cells slots : Nat} {Q : State → Prop}
variable {x : Jvm.Cond} {B t k n q v w cI N mt : Nat} {cA : Nat → ClassId} {D : va_G} {ls : Array Slot} {g : Nat → Int32}
variable {T cn rn : Nat} {gg : gM} {K : kr_K} {rd tk im F P : Int} {Nn : kn_N} {hh : kz_H} {I : kr_K × Int × Int}
set_option maxHeartbeats 2000000 in
set_option maxRecDepth 100000 in
/-- a text is fed and told -/
theorem zs_text (l : Launch) {sz : Nat} {B0 : Nat → Int} {g' : gM} {z : Int} {S' : jn_Q} (hn : n < 1000) (hg : ∀ j, j < n → g j = sb_b (zp_b N j)) (hsp : ∀ j, n ≤ j → j < 20 * rn → zp_b N j = 32) (hrn : n ≤ 20 * rn ∧ 20 * rn < n + 20) (h1 : 1 ≤ rn) (hmt : 20 * rn ≤ 700) (ht9 : kt_tx (zp_B N (20 * rn)) n 701 0 kt_g0 0 = .inr (g', z)) (h0 : 0 < g' 0 1) (hS9 : jn_all g' = some S') :
    Met l yL_text (.code yL_text cL_text 5 (some .int) :: zj_gw) (mj_rm 8 rn (5 * rn)) (va_Pc [.ref B, .ref q] (fun U => U.heap.size = sz ∧ (∃ σ, kx_C σ ((T, gg), (K, rd, tk), Nn, (cn, hh), (I, im), B0, F, P, 0) ∧ kx_P ((T, gg), (K, rd, tk), Nn, (cn, hh), (I, im), B0, F, P, 0) ∧ mj_hd B t cA D (jg_en 92 σ) 92 U.heap) ∧ mj_K B t cA D U ∧ B ≤ U.heap.size ∧ zs_C (mj_A B) U U.heap ∧ zs_Q (mj_A B) U U.heap ∧ zs_F (mj_A B) q v n g U U.heap))
      (va_Qi (fun (r : Int32) (_ : Unit) => r = Int32.ofInt z) (fun _ t9 => ∃ σ, kx_C σ ((30 - T, g'), (kr_I g', 0, 0), ((0, -1), Nn.2), (0, hh), (I, 0), zp_B N (20 * rn), 0, -1, 0) ∧ kx_P ((30 - T, g'), (kr_I g', 0, 0), ((0, -1), Nn.2), (0, hh), (I, 0), zp_B N (20 * rn), 0, -1, 0) ∧ mj_hd B t cA D (jg_en 92 σ) 92 t9.heap) (mj_A B)) rn (5 * rn) (fun q => mj_A B q ∨ sz ≤ q) := by
  refine Met.ofW (cc := cL_text) (maxL := 5) (ret := some .int) (by decide) rfl ?_
  intro p e s m args below meth c s₁ Bd hml hv
  obtain ⟨rfl, hsz, ⟨σ, hC1, hP1, hH⟩, hK, hBB, hC, hQ, hF⟩ := hv
  have hx := Bd.exec
  have hb := Bd.bytes
  have hr := Bd.returns
  have hts := atoms_spec (ws := .code yL_text cL_text 5 (some .int) :: zj_gw) Bd.pre
  have hown : s.vm.findClass RL = some m.cls := findClass_of_methodNamed Bd.named
  have hlocks := Bd.notSynchronized
  subst hsz
  have hC : zs_C (zl_A B s) s s.heap := hC.wide
  have hQ : zs_Q (zl_A B s) s s.heap := hQ.wide
  have hF : zs_F (zl_A B s) q v n g s s.heap := hF.wide
  have hS : va_S (zl_A B s) s.heap s.heap [] := va_S.rf
  have hl := lv_entry ([.ref B, .ref q]) (n := 5) (Nat.le_of_ble_eq_true rfl)
  rw [lg_entry_eq]
  generalize (lg_sl ([.ref B, .ref q]) ++ List.replicate (5 - (lg_sl ([.ref B, .ref q])).length) Slot.unset).toArray = ls at hl ⊢
  have hl : lv_has ls 5 [(0, .ref B), (1, .ref q)] := hl
  refine lv_iconst (v := 0) hx hb dL_text_0 (by decide) ?_
  refine lv_istore_n (lv' := [(2, .int (Int32.ofNat (20 * 0))), (0, .ref B), (1, .ref q)]) hx hb dL_text_1 rfl hl (by decide) rfl (fun ls hl => ?_)
  refine zs_tout (B := B) (rn := rn) (Nn := Nn) (I := I) (P := P) (N := N) hx hb hml hown hts hC hQ hF hK hBB hn hg hsp hrn hmt (Nat.le_refl _) (Nat.le_refl _) (Nat.le_refl _) (Nat.le_refl _) ?_ rn 0 σ B0 s.heap [] ls (Nat.zero_add _) hC1 hP1 hH (Or.inl rfl) hS hl
  intro σ Br H locs ls hC1 hP1 hH hBr hS hl
  obtain rfl : zp_B N (20 * rn) = Br := by
    rcases hBr with rfl | rfl
    · omega
    · rfl
  refine lv_aload_n hx hb dL_text_105 rfl (lv_at hl 1 rfl) ?_
  refine lv_aload_n hx hb dL_text_106 rfl (lv_at hl 2 rfl) ?_
  refine va_calli (va_runV (As := []) (rest := [.ref B]) ⟨hx, hb, hml, hown, hts⟩ (zs_length l) (cwV (own := RL) (C := RJ0) 0 hts (zj_good (zj_V (zj_m (q := 5087) (by decide +kernel) rfl) (zj_m (q := 5088) (by decide +kernel) rfl) (zj_m (q := 5089) (by decide +kernel) rfl) (zj_m (q := 1013) (by decide +kernel) rfl) (zj_m (q := 5090) (by decide +kernel) rfl))) rfl rfl rfl (by decide +kernel) ⟨Nat.le_of_ble_eq_true rfl, Nat.le_of_ble_eq_true rfl⟩) ⟨fun a U g mk q => ⟨q.1, q.2.1, zs_C.moved (u := U) (U := U.calling g mk a) (Vm.Alike.refl U.vm) q.2.2.1, zs_F.moved (u := U) (U := U.calling g mk a) (Vm.Alike.refl U.vm) q.2.2.2⟩, va_Orecv hF.1 hS, fun U hU hW => ⟨rfl, hU, by (try rw [hU]); exact zs_C.moved hW.alike ((hC.kept hS.2.1).narrow (fun _ h => h.elim)), by (try rw [hU]); exact zs_F.moved hW.alike ((hF.kept hS.2.1).narrow (fun _ h => h.elim))⟩⟩ rfl rfl hl.1 rfl (lv_room (Nat.le_of_ble_eq_true rfl)) dL_text_107 ⟨Nat.le_refl _, Nat.le_refl _⟩) hS (fun _ _ h => h.elim) (fun _ h => h.elim) (fun r_ u_ t_ H1 locs1 ht hvm hw hB hz1 hk1 hS => ?_)
  obtain rfl : H = H1 := (ht.symm.trans hB).symm
  rw [hw]
  have hT : kc_T ((T, gg), (K, rd, tk), Nn, (cn, hh), (I, im), (zp_B N (20 * rn)), F, P, ((20 * rn : Nat) : Int)) 7 mm_X11_text [.int (Int32.ofNat n)] z ((30 - T, g'), (kr_I g', 0, 0), ((0, -1), Nn.2), (0, hh), (I, 0), zp_B N (20 * rn), 0, -1, 0) := kc_text hP1 (by omega) ht9 h0 hS9
  refine zl_call (As := [.int (Int32.ofNat n)]) (rest := []) hx hb (hml.trans hl.1.symm) hown hts hK hBB hS hH hC1 hT zl_text rfl rfl ⟨Nat.le_of_ble_eq_true rfl, rfl⟩ (by decide) (Nat.le_of_ble_eq_true rfl) (Nat.le_of_ble_eq_true rfl) (Nat.le_refl _) (Nat.le_refl _) dL_text_110 (fun τ H3 locs3 hC3 hH3 hS3 hz3 hk3 => ?_)
  exact W.iret (v := Int32.ofInt z) hx hb hr (fun t9 ht hW => ⟨⟨Int32.ofInt z, (), rfl, rfl, τ, hC3, hT.1, by rw [ht]; exact hH3⟩, (zl_S hS3).F ht⟩) hS3.2.2 dL_text_113
end ZTZ
