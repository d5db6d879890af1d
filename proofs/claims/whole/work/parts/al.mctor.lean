/-! The model's constructor goes on to its end -/
/-- what the model knows behind its constructor -/
def mi_MF (τ : jg_M) : Prop := jF kW_kt mi_sm τ ∧ ku_MG τ kt_g0 ∧ kr_No τ (kr_I kt_g0) ∧ (τ.1 92 59 = 0 ∧ τ.1 92 60 = 0) ∧ (τ.1 92 65 = 0 ∧ τ.1 92 66 = -1 ∧ τ.1 92 70 = 0 ∧ τ.1 92 72 = 0)
theorem mi_sm0 {a : Nat} {i : Int} (h : 92 < a) (h1 : a ≠ 94) : mi_sm.1 a i = 0 := by
  unfold mi_sm
  dsimp only
  rw [if_neg (by omega), if_neg (by omega), if_neg (by omega), if_neg h1]
theorem mi_gm : kt_GM mi_sm 1 kt_g0 (kt_g0 0 2) := by
  refine ⟨⟨⟨by decide, by decide⟩, mi_sm0 (by decide) (by decide), mi_sm0 (by decide) (by decide), mi_sm0 (by decide) (by decide)⟩, ⟨fun t h1 h2 => ?_, fun t h1 h2 => ?_⟩, fun t h1 h2 => ⟨mi_sm0 (by decide) (by decide), mi_sm0 (by decide) (by decide)⟩, ?_⟩
  · have : kt_g0 0 0 = 0 := rfl
    omega
  · have : kt_g0 0 1 = 0 := rfl
    omega
  · intro r h1 h2
    have : kt_g0 0 2 = 0 := rfl
    omega
set_option maxRecDepth 20000 in
theorem mi_rest : jg_GV 140 7 mm_X12_init 524 [.ref 92] mi_sm mi_MF := by
  show jg_G 140 7 mm_X12_init 524 [.ref 92] [] mi_sm (jg_QV mi_MF)
  refine jg_A (pc' := 525) rfl rfl (fun _ _ _ => rfl) ?_
  refine jg_calX (hy := 6) (pc' := 528) rfl jm_X12_keepText (by decide) rfl rfl (by decide) (by decide) (by decide) rfl (jm_keepText (KV := mi_MF) kt_g0_ok mi_gm (Or.inl rfl) (fun τ h1 h2 h3 h4 h5 => ⟨h1, h2, h3, h4, h5⟩)) ?_
  rintro v τ ⟨rfl, hK⟩
  exact jg_vret rfl rfl hK
theorem mi_run : ∃ n τ, (∀ sz sl, mj_run true mj_ms n 19 mm_X12_init (524, [.ref 92], [], jg_en 140 mi_sm, sz, sl) = some (none, jg_en 140 τ, sz, sl)) ∧ mi_MF τ := by
  obtain ⟨k, v, τ, h1, rfl, h2⟩ := mi_rest
  exact ⟨k, τ, fun sz sl => mj_run_le (fun h => rfl) _ _ _ _ _ _ _ (Nat.le_refl _) (by decide) (h1 sz sl), h2⟩
/-- the model's constructor as a call -/
noncomputable def mi_cl (τ : jg_M) : Nat → List Value → mj_Hp → Nat → Nat → Option mj_Res := fun y As hp sz sl => @ite (Option mj_Res) (y = 190 ∧ As = [.ref 92] ∧ hp = mi_h8 ∧ sz = 93 ∧ sl = 22332) (Classical.propDecidable _) (some (none, jg_en 140 τ, 140, 62825)) none
theorem mi_Ca {l : Launch} {n : Nat} {τ : jg_M} (hrun : ∀ sz sl, mj_run true mj_ms n 19 mm_X12_init (524, [.ref 92], [], jg_en 140 mi_sm, sz, sl) = some (none, jg_en 140 τ, sz, sl)) : mj_Ca l true (mi_cl τ) 20 := by
  intro y As hp sz sl v hp' sz' sl' hq
  unfold mi_cl at hq
  split at hq
  · rename_i hc
    obtain ⟨rfl, rfl, rfl, rfl, rfl⟩ := hc
    cases hq
    refine ⟨19, mm_X12_init, rfl, jm_X12_init, by decide, by decide, fun B t cA D => ?_⟩
    have hok := mj_all_ok mm_X12_init (List.mem_of_getElem? jm_X12_init)
    refine Met.ofW (cc := mm_X12_init.2.2.1) (maxL := mm_X12_init.2.2.2.1) (ret := mm_X12_init.2.2.2.2.1) hok.2.2.1 rfl ?_
    intro p e s m args below meth c s1 Bd hml hv
    obtain ⟨rfl, hHd, hKs, hBs, hsz⟩ := hv
    have hts := atoms_spec (ws := Jvm.Cond.code mm_X12_init.2.1 mm_X12_init.2.2.1 mm_X12_init.2.2.2.1 mm_X12_init.2.2.2.2.1 :: mj_gw) Bd.pre
    have hown : s.vm.findClass mm_X12_init.2.1.cls = some m.cls := findClass_of_methodNamed Bd.named
    have hF : mj_Fr p s m _ c mm_X12_init := ⟨Bd.exec, Bd.bytes, hml, by rw [hok.2.2.2.1]; exact hown, fun w hw => hts w (List.mem_cons_of_mem _ hw)⟩
    rw [lg_entry_eq]
    have hLV := mj_LV_entry (B := B) (t := t) (As := [.ref 92]) (M := mm_X12_init) (by decide) (by decide)
    obtain ⟨hpB, hB, hBok⟩ := mi_Bok
    have hnm := (name_of_methodNamed Bd.named Bd.method).1
    refine mi_simPart (R := (headSpec (Jvm.Cond.code mm_X12_init.2.1 mm_X12_init.2.2.1 mm_X12_init.2.2.2.1 mm_X12_init.2.2.2.2.1 :: mj_gw) (mj_rm 19 (140 - 93) (62825 - 22332))).room) (st := []) (lst := mj_lc [.ref 92] mm_X12_init.2.2.2.1) (sz := 93) (sl := 22332) 282 hB (fun row hr => ?_) hF hnm hKs hBs (fun h => (hsz h).symm) hHd va_S.rf hLV (Nat.le_refl _) (Nat.le_refl _) (show 0 + (140 - 93) ≤ 140 - 93 by decide) (show 0 + (62825 - 22332) ≤ 62825 - 22332 by decide) (fun z1 z2 H1 locs1 ls1 hd1 hS1 L1 => ?_)
    · have := hok.2.2.2.2.2.2.2.2.2 row hr
      rw [this.1, this.2, Bool.or_true]
      exact ⟨rfl, rfl⟩
    · have hd2 := mi_hd hd1 hBok mi_wf140
      exact mj_simRun n (R := (headSpec (Jvm.Cond.code mm_X12_init.2.1 mm_X12_init.2.2.1 mm_X12_init.2.2.2.1 mm_X12_init.2.2.2.2.1 :: mj_gw) (mj_rm 19 (140 - 93) (62825 - 22332))).room) 19 mm_X12_init 524 [.ref 92] [] (jg_en 140 mi_sm) 140 62825 none (jg_en 140 τ) 140 62825 (140 - 93) (62825 - 22332) (hrun _ _) hok hF hnm Bd.returns Bd.notSynchronized hKs hBs (fun h => by have := hsz h; omega) hd2 hS1 L1 (Nat.le_refl _) (Nat.le_refl _) (Nat.le_refl _) (Nat.le_refl _) (by omega) (by omega)
  · cases hq
