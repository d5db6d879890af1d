/-! THE SIMULATION, 5: the heap's instructions together -/
section MJF
variable {p : Program} {l : Launch} {e : Env} {R : Room} {s : State} {m : MethodId} {args : Array Value} {below : List Frame} {meth : Method} {c : Code} {H : Heap} {locs : List Loc} {cells slots : Nat} {Q : State → Prop}
variable {al : Bool} {B t : Nat} {cA : Nat → ClassId} {D : va_G} {M : mj_Inf} {i : Instr} {a b f pc pc' : Nat} {ls : Array Slot} {lst lst' st st' : List Value} {hp hp' : mj_Hp} {sz sl sz' sl' : Nat}
set_option maxHeartbeats 4000000 in
set_option maxRecDepth 100000 in
theorem mj_simD (F : mj_Fr p s m args c M) (hin : meth.name = M.2.1.name) (hK : mj_K B t cA D s) (hB : B ≤ s.heap.size) (hal : al = true → B + sz = s.heap.size + cells) (hdg : decode M.2.2.1 pc = .ok (i, mj_len i b)) (hrk : mj_rk M (pc, i, a, b, f) = true)
    (hH : mj_hd B t cA D hp sz H) (hS : va_S (mj_A B) s.heap H locs) (hroom : cells + (sz' - sz) ≤ R.cells ∧ slots + (sl' - sl) ≤ R.slots)
    (h : mj_stD al i a b pc lst st hp sz sl = some (.inl (pc', lst', st', hp', sz', sl')))
    (kk : ∀ (H' : Heap) (locs' : List Loc), mj_hd B t cA D hp' sz' H' → va_S (mj_A B) s.heap H' locs' → lst' = lst → W p l e R s m args below meth c H' locs' (cells + (sz' - sz)) (slots + (sl' - sl)) Q (F0 m pc' ls (st'.map (mj_v B t)))) :
    W p l e R s m args below meth c H locs cells slots Q (F0 m pc ls (st.map (mj_v B t))) := by
  obtain ⟨hx, hb, -, hown, hts⟩ := F
  have hwf := hH.2
  unfold mj_stD at h
  split at h
  · -- getfield
    rename_i ix r st0
    split at h
    · rename_i ci fs hr
      split at h
      · rename_i v hc hv
        cases h
        have hk := mj_wl_of (M := M) (pc := ix) (a := a) (b := b) (f := f) (by
          unfold mj_rk at hrk
          dsimp only at hrk
          split at hrk
          · rename_i q hq
            simp only [Bool.and_eq_true, Nat.beq_eq] at hrk
            exact ⟨q, hq, hrk.1.1.1, hrk.1.1.2, hrk.1.2, hrk.2⟩
          · cases hrk)
        obtain ⟨ha, hbN, hl⟩ := hk
        have hca : ci = a := Nat.eq_of_beq_eq_true hc
        subst hca
        have hr1 := mj_wf_obj hwf hr (by omega)
        have he : (mj_ws B t cA hp sz)[r]? = some (B + r, .inr (ci, fs.map (mj_v B t))) := by rw [mj_ws_get hr1, hr]; rfl
        have k1 := kk H locs hH hS rfl
        rw [Nat.sub_self, Nat.sub_self] at k1
        have hv2 : (fs.map (mj_v B t))[b]? = some (mj_v B t v) := by rw [List.getElem?_map, hv]; rfl
        show W p l e R s m args below meth c H locs cells slots Q (F0 m pc ls (.ref (mj_b B t r) :: st0.map (mj_v B t)))
        rw [mj_b_lt hr1 hwf.1]
        exact va_get hx hb hts (mj_cls_lay ha) hown hK.1 hH.1 r he (mj_cls_T ha) b hbN (hts _ hl) (fun _ h9 => h9) hv2 hdg k1
      · cases h
    · cases h
  · -- putfield
    rename_i ix v r st0
    split at h
    · rename_i ci fs hr
      split at h
      · rename_i hc
        cases h
        simp only [Bool.and_eq_true] at hc
        obtain ⟨⟨hc1, hc2⟩, hc3⟩ := hc
        have hca : ci = a := Nat.eq_of_beq_eq_true hc1
        subst hca
        have hrk2 : (∃ q, mj_fl[f]? = some q ∧ q.1 = M.1 ∧ q.2.1 = ix ∧ q.2.2.1 = ci ∧ q.2.2.2.1 = b) ∧ ((mj_T ci b).2.2.2 = false ∨ (M.2.1.name = "<init>" ∧ (mj_T ci b).1 = mj_cn M.1)) := by
          unfold mj_rk at hrk
          dsimp only at hrk
          split at hrk
          · rename_i q hq
            simp only [Bool.and_eq_true, Nat.beq_eq, Bool.or_eq_true, Bool.not_eq_true', decide_eq_true_eq] at hrk
            exact ⟨⟨q, hq, hrk.1.1.1.1, hrk.1.1.1.2, hrk.1.1.2, hrk.1.2⟩, hrk.2⟩
          · cases hrk
        obtain ⟨hk, hfin⟩ := hrk2
        obtain ⟨ha, hbN, hl⟩ := mj_wl_of hk
        have hr1 := mj_wf_obj hwf hr (by omega)
        have he : (mj_ws B t cA hp sz)[r]? = some (B + r, .inr (ci, fs.map (mj_v B t))) := by rw [mj_ws_get hr1, hr]; rfl
        have hlen : b < (fs.map (mj_v B t)).length := by rw [List.length_map]; exact Nat.le_of_ble_eq_true hc2
        have hn : narrow (mj_ty ci b) (mj_v B t v) = mj_v B t v := mj_fits_narrow ha hbN (mj_fits_cv hc3)
        have k1 : ∀ (H1 : Heap) (locs1 : List Loc), va_P D mj_Cl ((mj_ws B t cA hp sz).set r (B + r, .inr (ci, (fs.map (mj_v B t)).set b (mj_v B t v)))) H1 → va_D (mj_A B) ((mj_ws B t cA hp sz).set r (B + r, .inr (ci, (fs.map (mj_v B t)).set b (mj_v B t v)))) → va_S (mj_A B) s.heap H1 locs1 → W p l e R s m args below meth c H1 locs1 cells slots Q (F0 m (pc + 3) ls (st'.map (mj_v B t))) := by
          intro H1 locs1 hP1 _ hS1
          have e1 : ((B + r, Sum.inr (ci, (fs.map (mj_v B t)).set b (mj_v B t v))) : Nat × va_E) = (B + r, mj_e B t cA (.inr (ci, fs.set b v))) := by simp [mj_e, List.map_set]
          rw [e1, mj_ws_set _ hr1] at hP1
          have k2 := kk H1 locs1 ⟨hP1, mj_wf_set hwf hr1⟩ hS1 rfl
          rwa [Nat.sub_self, Nat.sub_self] at k2
        show W p l e R s m args below meth c H locs cells slots Q (F0 m pc ls (mj_v B t v :: .ref (mj_b B t r) :: st'.map (mj_v B t)))
        rw [mj_b_lt hr1 hwf.1]
        rcases hfin with hfin | ⟨hi1, hi2⟩
        · exact va_put hx hb hts (mj_cls_lay ha) (mj_ty ci) (mj_cls_ty ha) (mj_cls_nm ha) hown hK.1 hH.1 (mj_D hH.2.1) hS r he (mj_cls_T ha) b hbN (hts _ hl) (fun _ h9 => h9) hfin (mj_cls_ty ha b hbN) hn (mj_fits_cv hc3) hlen hdg k1
        · cases hfin2 : (mj_T ci b).2.2.2 with
          | false => exact va_put hx hb hts (mj_cls_lay ha) (mj_ty ci) (mj_cls_ty ha) (mj_cls_nm ha) hown hK.1 hH.1 (mj_D hH.2.1) hS r he (mj_cls_T ha) b hbN (hts _ hl) (fun _ h9 => h9) hfin2 (mj_cls_ty ha b hbN) hn (mj_fits_cv hc3) hlen hdg k1
          | true => exact va_putF hx hb hts (mj_cls_lay ha) (mj_ty ci) (mj_cls_ty ha) (mj_cls_nm ha) hown hK.1 hH.1 (mj_D hH.2.1) hS r he (mj_cls_T ha) b hbN (hts _ hl) (fun _ h9 => h9) hfin2 (hin.trans hi1) hi2 (mj_cls_ty ha b hbN) hn (mj_fits_cv hc3) hlen hdg k1
      · cases h
    · cases h
  · -- getstatic
    cases h
    have k1 := kk H locs hH hS rfl
    rw [Nat.sub_self, Nat.sub_self] at k1
    exact va_gets hx hb hK.2.2.2 hS hown (hts _ (mj_gw_of hrk rfl)) (fun _ h9 => h9) hdg k1
  · -- iaload
    rename_i j r st0
    split at h
    · rename_i k n g hr
      split at h
      · rename_i hc
        cases h
        have k1 := kk H locs hH hS rfl
        rw [Nat.sub_self, Nat.sub_self] at k1
        rcases hc.1 with h0 | ⟨h3, h9⟩
        · subst h0
          have hr1 := mj_wf_arr hwf hr (by omega)
          have he : (mj_ws B t cA hp sz)[r]? = some (B + r, .inl (cA 0, n, .inl g)) := by rw [mj_ws_get hr1, hr]; rfl
          show W p l e R s m args below meth c H locs cells slots Q (F0 m pc ls (.int j :: .ref (mj_b B t r) :: st0.map (mj_v B t)))
          rw [mj_b_lt hr1 hwf.1]
          exact va_iald hx hb hK.1 hH.1 r 0 he rfl hc.2 hdg k1
        · subst h3; subst h9
          rcases hwf.2 999999 (by have := hwf.1; omega) with h2 | ⟨-, h2⟩
          · rw [h2] at hr; cases hr
          · rw [h2] at hr
            cases hr
            exact va_ti hx hb hK.2.2.1 hS hc.2 rfl hdg k1
      · cases h
    · cases h
  · -- baload
    rename_i j r st0
    split at h
    · rename_i k n g hr
      split at h
      · rename_i hc
        cases h
        have k1 := kk H locs hH hS rfl
        rw [Nat.sub_self, Nat.sub_self] at k1
        obtain ⟨h0, hc⟩ := hc
        subst h0
        have hr1 := mj_wf_arr hwf hr (by omega)
        have he : (mj_ws B t cA hp sz)[r]? = some (B + r, .inl (cA 2, n, .inl g)) := by rw [mj_ws_get hr1, hr]; rfl
        show W p l e R s m args below meth c H locs cells slots Q (F0 m pc ls (.int j :: .ref (mj_b B t r) :: st0.map (mj_v B t)))
        rw [mj_b_lt hr1 hwf.1]
        exact va_zald hx hb hK.1 hH.1 r 2 he rfl hc hdg k1
      · cases h
    · cases h
  · -- laload
    rename_i j r st0
    split at h
    · rename_i k n g hr
      split at h
      · rename_i hc
        cases h
        have k1 := kk H locs hH hS rfl
        rw [Nat.sub_self, Nat.sub_self] at k1
        obtain ⟨h0, hc⟩ := hc
        subst h0
        have hr1 := mj_wf_arr hwf hr (by omega)
        have he : (mj_ws B t cA hp sz)[r]? = some (B + r, .inl (cA 1, n, .inr (.inl g))) := by rw [mj_ws_get hr1, hr]; rfl
        show W p l e R s m args below meth c H locs cells slots Q (F0 m pc ls (.int j :: .ref (mj_b B t r) :: st0.map (mj_v B t)))
        rw [mj_b_lt hr1 hwf.1]
        exact va_lald hx hb hK.1 hH.1 r 1 he rfl hc hdg k1
      · cases h
    · cases h
  · -- iastore
    rename_i x j r st0
    split at h
    · rename_i k n g hr
      split at h
      · rename_i hc
        cases h
        obtain ⟨h0, hc⟩ := hc
        subst h0
        have hr1 := mj_wf_arr hwf hr (by omega)
        have he : (mj_ws B t cA hp sz)[r]? = some (B + r, .inl (cA 0, n, .inl g)) := by rw [mj_ws_get hr1, hr]; rfl
        show W p l e R s m args below meth c H locs cells slots Q (F0 m pc ls (.int x :: .int j :: .ref (mj_b B t r) :: st'.map (mj_v B t)))
        rw [mj_b_lt hr1 hwf.1]
        refine va_iast hx hb hK.1 hH.1 (mj_D hH.2.1) hS r 0 he rfl hc hdg (fun H1 locs1 hP1 _ hS1 => ?_)
        have e1 : ((B + r, Sum.inl (cA 0, n, Sum.inl (upd g j.toNatClampNeg x))) : Nat × va_E) = (B + r, mj_e B t cA (.inl (0, n, .inl (upd g j.toNatClampNeg x)))) := rfl
        rw [e1, mj_ws_set _ hr1] at hP1
        have k2 := kk H1 locs1 ⟨hP1, mj_wf_set hwf hr1⟩ hS1 rfl
        rwa [Nat.sub_self, Nat.sub_self] at k2
      · cases h
    · cases h
  · -- bastore
    rename_i x j r st0
    split at h
    · rename_i k n g hr
      split at h
      · rename_i hc
        cases h
        obtain ⟨h0, hc⟩ := hc
        subst h0
        have hr1 := mj_wf_arr hwf hr (by omega)
        have he : (mj_ws B t cA hp sz)[r]? = some (B + r, .inl (cA 2, n, .inl g)) := by rw [mj_ws_get hr1, hr]; rfl
        show W p l e R s m args below meth c H locs cells slots Q (F0 m pc ls (.int x :: .int j :: .ref (mj_b B t r) :: st'.map (mj_v B t)))
        rw [mj_b_lt hr1 hwf.1]
        refine va_zast hx hb hK.1 hH.1 (mj_D hH.2.1) hS r 2 he rfl hc hdg (fun H1 locs1 hP1 _ hS1 => ?_)
        have e1 : ((B + r, Sum.inl (cA 2, n, Sum.inl (upd g j.toNatClampNeg (vp_nar .boolean x)))) : Nat × va_E) = (B + r, mj_e B t cA (.inl (2, n, .inl (upd g j.toNatClampNeg (vp_nar .boolean x))))) := rfl
        rw [e1, mj_ws_set _ hr1] at hP1
        have k2 := kk H1 locs1 ⟨hP1, mj_wf_set hwf hr1⟩ hS1 rfl
        rwa [Nat.sub_self, Nat.sub_self] at k2
      · cases h
    · cases h
  · -- lastore
    rename_i x j r st0
    split at h
    · rename_i k n g hr
      split at h
      · rename_i hc
        cases h
        obtain ⟨h0, hc⟩ := hc
        subst h0
        have hr1 := mj_wf_arr hwf hr (by omega)
        have he : (mj_ws B t cA hp sz)[r]? = some (B + r, .inl (cA 1, n, .inr (.inl g))) := by rw [mj_ws_get hr1, hr]; rfl
        show W p l e R s m args below meth c H locs cells slots Q (F0 m pc ls (.long x :: .int j :: .ref (mj_b B t r) :: st'.map (mj_v B t)))
        rw [mj_b_lt hr1 hwf.1]
        refine va_last hx hb hK.1 hH.1 (mj_D hH.2.1) hS r 1 he rfl hc hdg (fun H1 locs1 hP1 _ hS1 => ?_)
        have e1 : ((B + r, Sum.inl (cA 1, n, Sum.inr (Sum.inl (vp_updL g j.toNatClampNeg x)))) : Nat × va_E) = (B + r, mj_e B t cA (.inl (1, n, .inr (.inl (vp_updL g j.toNatClampNeg x))))) := rfl
        rw [e1, mj_ws_set _ hr1] at hP1
        have k2 := kk H1 locs1 ⟨hP1, mj_wf_set hwf hr1⟩ hS1 rfl
        rwa [Nat.sub_self, Nat.sub_self] at k2
      · cases h
    · cases h
  · -- arraylength
    rename_i r st0
    split at h
    · rename_i k x hr
      split at h
      · rename_i hc
        cases h
        have k1 := kk H locs hH hS rfl
        rw [Nat.sub_self, Nat.sub_self] at k1
        have hr1 := mj_wf_arr hwf hr (by omega)
        have he : (mj_ws B t cA hp sz)[r]? = some (B + r, .inl (cA k, x)) := by rw [mj_ws_get hr1, hr]; rfl
        show W p l e R s m args below meth c H locs cells slots Q (F0 m pc ls (.ref (mj_b B t r) :: st0.map (mj_v B t)))
        rw [mj_b_lt hr1 hwf.1]
        match k, hc with
        | 0, _ => exact va_alen hx hb hK.1 hH.1 r 0 he rfl rfl hdg k1
        | 1, _ => exact va_alen hx hb hK.1 hH.1 r 1 he rfl rfl hdg k1
        | 2, _ => exact va_alen hx hb hK.1 hH.1 r 2 he rfl rfl hdg k1
      · cases h
    · cases h
  · -- new
    rename_i ix st0
    split at h
    · rename_i hc
      cases h
      have hc := Bool.and_eq_true_iff.mp hc
      have hrk := Bool.and_eq_true_iff.mp hrk
      have ha : a < 12 := Nat.le_of_ble_eq_true hrk.2
      have hs9 : sz ≤ 91 := Nat.le_of_ble_eq_true hc.2
      have e3 : cells + (sz + 1 - sz) = cells + 1 := by omega
      have e4 : slots + (sl + mj_N a - sl) = slots + mj_N a := by omega
      rw [e3, e4] at hroom kk
      exact mj_simNew hx hb hown hts hK hB (hal hc.1) hH hS ha hs9 (hts _ (mj_gw_of hrk.1 rfl)) hdg hroom.1 hroom.2 (fun H1 hd1 hS1 => kk H1 locs hd1 hS1 rfl)
    · cases h
  · -- newarray
    rename_i ty x st0
    split at h
    · rename_i hc
      split at h
      · cases h
      · rename_i hx9
        cases h
        have hc := Bool.and_eq_true_iff.mp hc
        have hs9 : sz ≤ 91 := Nat.le_of_ble_eq_true hc.2
        have e3 : cells + (sz + 1 - sz) = cells + 1 := by omega
        have e4 : slots + (sl + x.toNatClampNeg - sl) = slots + x.toNatClampNeg := by omega
        rw [e3, e4] at hroom kk
        have hx0 : ¬ x < 0 := fun q => hx9 (Or.inl q)
        have hx1 : x.toNatClampNeg ≤ 100000 := Nat.not_lt.mp (fun q => hx9 (Or.inr q))
        rcases of_decide_eq_true hrk with ⟨h1, h2⟩ | ⟨h1, h2⟩ | ⟨h1, h2⟩
        · subst h1; subst h2
          exact mj_simNewA (ft := .int) (tg := 0) hx hb hts hK hB (hal hc.1) hH hS hs9 rfl rfl (fun _ => rfl) (by decide) (fun _ => rfl) (mj_gw_of mj_ar_int rfl) hx0 hx1 hdg hroom.1 hroom.2 (fun H1 hd1 hS1 => kk H1 locs hd1 hS1 rfl)
        · subst h1; subst h2
          exact mj_simNewA (ft := .long) (tg := 1) hx hb hts hK hB (hal hc.1) hH hS hs9 rfl rfl (fun _ => rfl) (by decide) (fun _ => rfl) (mj_gw_of mj_ar_long rfl) hx0 hx1 hdg hroom.1 hroom.2 (fun H1 hd1 hS1 => kk H1 locs hd1 hS1 rfl)
        · subst h1; subst h2
          exact mj_simNewA (ft := .boolean) (tg := 2) hx hb hts hK hB (hal hc.1) hH hS hs9 rfl rfl (fun _ => rfl) (by decide) (fun _ => rfl) (mj_gw_of mj_ar_boolean rfl) hx0 hx1 hdg hroom.1 hroom.2 (fun H1 hd1 hS1 => kk H1 locs hd1 hS1 rfl)
    · cases h
  · cases h
end MJF
