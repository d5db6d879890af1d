/-! CHANCE, in both -/
def kd_nx (s : Nat) : Nat := (s * 1103515245 + 12345) % 2147483648
def kd_it (s : Nat) : Nat → Nat
  | 0 => s
  | k + 1 => kd_nx (kd_it s k)
/-- the k-th TOKEN of a row drawn from s on -/
def kd_gv (a s : Nat) (k : Nat) : Int := ((kd_it s (k + 1) / 65536 % a : Nat) : Int)
noncomputable def kd_sum (g : gM) (n : Nat) : Nat → Nat → Nat
  | 0, _ => 0
  | m + 1, s => (if kr_se g (kd_gv (g 0 0).toNat s) n = true then 1 else 0) + kd_sum g n m (kd_it s n)
noncomputable def kv_chance (g : gM) (s n : Int) : Int := if s < 0 ∨ n < 1 ∨ 9 < n then -1 else if g 0 0 = 0 then -2 else (kd_sum g n.toNat 10 s.toNat : Nat)
section KDA
variable {w : Nat} {σ τ : jg_M} {T a : Nat} {g : gM} {x n : Int} {KV : jg_M → Prop} {KI : Int → jg_M → Prop}
theorem kd_lt {s : Nat} (hs : s < 2147483648) : ∀ {k : Nat}, kd_it s k < 2147483648
  | 0 => hs
  | k + 1 => Nat.mod_lt _ (by decide)
theorem jb_nIm {m : Nat} : (Int32.ofInt (m : Int)).toBitVec.toNat = m % 4294967296 := by
  rw [Int32.ofInt_eq_ofNat]
  show (BitVec.ofNat 32 m).toNat = _
  rw [BitVec.toNat_ofNat]
theorem kd_and {m : Nat} : jg_and (m : Int) ((2147483647 : Nat) : Int) = ((m % 2147483648 : Nat) : Int) := by
  refine jb_toI ?_ (Nat.mod_lt _ (by decide))
  show ((Int32.ofInt (m : Int)).toBitVec &&& (Int32.ofInt ((2147483647 : Nat) : Int)).toBitVec).toNat = _
  rw [BitVec.toNat_and, jb_nIm, jb_nIm]
  have h := Nat.and_two_pow_sub_one_eq_mod (m % 4294967296) 31
  rw [show (2147483647 : Nat) % 4294967296 = 2 ^ 31 - 1 from rfl, h]
  show m % 4294967296 % 2147483648 = m % 2147483648
  omega
theorem kd_qand {m : Nat} (hm : m < 9223372036854775808) : jg_qand (m : Int) ((2147483647 : Nat) : Int) = ((m % 2147483648 : Nat) : Int) := by
  rw [jb_qand hm (by decide), show (2147483647 : Nat) = 2 ^ 31 - 1 from rfl, Nat.and_two_pow_sub_one_eq_mod]
theorem jb_qdiv {x y : Int} (hx : 0 ≤ x ∧ x < 9223372036854775808) (hy : 0 < y ∧ y < 9223372036854775808) : jg_qdiv x y = x / y := by
  unfold jg_qdiv
  rw [Int64.toInt_div_of_ne_right _ _ (by intro h; have := congrArg Int64.toInt h; rw [Int64.toInt_ofInt_of_le (by omega) (by omega)] at this; have e : (-1 : Int64).toInt = -1 := rfl; rw [e] at this; omega)]
  rw [Int64.toInt_ofInt_of_le (by omega) (by omega), Int64.toInt_ofInt_of_le (by omega) (by omega)]
  exact Int.tdiv_eq_ediv_of_nonneg hx.1
theorem jb_qrem {x y : Int} (hx : 0 ≤ x ∧ x < 9223372036854775808) (hy : 0 < y ∧ y < 9223372036854775808) : jg_qrem x y = x % y := by
  have hd := jb_qdiv hx hy
  unfold jg_qdiv at hd
  have h1 : 0 ≤ x / y := Int.ediv_nonneg hx.1 (by omega)
  have h2 := Int.emod_add_mul_ediv x y
  have h3 := Int.emod_nonneg x (show y ≠ 0 by omega)
  have h4 := Int.emod_lt_of_pos x hy.1
  unfold jg_qrem
  rw [← Int64.ofInt_toInt (Int64.ofInt x / Int64.ofInt y), hd, ← Int64.ofInt_mul, ← Int64.ofInt_sub]
  have e : x - x / y * y = x % y := by rw [Int.mul_comm]; omega
  rw [e]
  exact Int64.toInt_ofInt_of_le (by omega) (by omega)
theorem kd_tok {s : Nat} (ha : 0 < a) {k : Nat} : 0 ≤ kd_gv a s k ∧ kd_gv a s k < (a : Int) := by
  unfold kd_gv
  have := Nat.mod_lt (kd_it s (k + 1) / 65536) ha
  omega
theorem jc_chance (h : ku_CG σ T g) (hx : jr x) (hn : jr n) (hk : ∀ τ, jF (kW_ro 90) σ τ → KI (kv_chance g x n) τ) : jg_CI w 4 mm_X11_chance [.ref 0, .int (.ofInt x), .int (.ofInt n)] σ KI := by
  have sh := ku_sh h.1.1
  have hT := h.1.1
  have hW := h.2.1.1.1.1
  have hw := hW.1
  have hs := hk σ jF_rf
  refine jb_X11_chance_0 rfl ?_
  rw [jr_wr hx, jr_wr hn]
  have hout : (x < 0 ∨ n < 1 ∨ 9 < n) → KI (-1) σ := fun q => by
    unfold kv_chance at hs
    rw [if_pos q] at hs
    exact hs
  refine jn_ite (fun q => hout (Or.inl q)) (fun x0 => jn_ite (fun q => hout (Or.inr (Or.inl q))) (fun n1 => jn_ite (fun n9 => ?_) (fun q => hout (Or.inr (Or.inr (by omega))))))
  have hin : ¬ (x < 0 ∨ n < 1 ∨ 9 < n) := by omega
  rw [h.1.2.1]
  intro r er
  rw [show r = T by omega]
  refine ⟨sh.1, ?_⟩
  rw [show σ.1 (T + 1) 0 = g 0 0 from h.2.1.2.1.1]
  rintro _ rfl
  rw [jr_wr (show jr (g 0 0) by omega)]
  refine jn_ite (fun hpos => ?_) (fun hz => ?_)
  · have ha : 0 < (g 0 0).toNat := by omega
    have hga : g 0 0 = (((g 0 0).toNat : Nat) : Int) := by omega
    have hnn : ((n.toNat : Nat) : Int) = n := by omega
    have hCG : ∀ τ, jF (kW_ro 90) σ τ → ku_CG τ T g := fun τ hf => ku_CG_fr h hf (by unfold kW_ro; omega) (by unfold kW_ro; omega) (fun c i q => by unfold kW_ro; omega)
    have hout2 : ∀ (m dr s sum : Nat) (τ : jg_M) (u1 u7 u8 : Value), dr + m = 10 → s < 2147483648 → sum ≤ dr → jF (kW_ro 90) σ τ → sum + kd_sum g n.toNat m s = kd_sum g n.toNat 10 x.toNat → jg_GI w 4 mm_X11_chance 44 [.ref 0, u1, .int (.ofInt n), .int (.ofInt (g 0 0)), .int (.ofInt (s : Int)), .int (.ofInt (sum : Int)), .int (.ofInt (dr : Int)), u7, u8] τ KI := by
      intro m
      induction m with
      | zero =>
        intro dr s sum τ u1 u7 u8 hd hsl hsum hf he
        refine jb_X11_chance_44 rfl ?_
        rw [jr_wr (show jr (dr : Int) by omega)]
        refine jn_ite (fun _ => ?_) (fun q => by omega)
        have := hk τ hf
        unfold kv_chance at this
        rw [if_neg hin, if_neg (by omega), ← he] at this
        exact this
      | succ m ih =>
        intro dr s sum τ u1 u7 u8 hd hsl hsum hf he
        refine jb_X11_chance_44 rfl ?_
        rw [jr_wr (show jr (dr : Int) by omega)]
        refine jn_ite (fun q => by omega) (fun _ => ?_)
        have h' := hCG τ hf
        rw [h'.1.2.1]
        intro r er
        rw [show r = T by omega]
        refine ⟨sh.1, jc_begin rfl sh.1 (by omega) (kr_CW_of hW h'.2.2.1) (fun τ2 f2 hRo _ _ => ?_)⟩
        have f02 : jF (kW_ro 90) σ τ2 := jF_tr hf f2
        have hin2 : ∀ (m2 k : Nat) (τ3 : jg_M) (rt : Int), k + m2 = n.toNat → jF (kW_ro 90) σ τ3 → ((rt = 1 ∧ ∃ K, kr_rn g (kd_gv (g 0 0).toNat s) k (kr_I g) = some K ∧ kr_Ro τ3 90 K ∧ kr_OK g K) ∨ (rt = 0 ∧ ∀ j, k ≤ j → kr_rn g (kd_gv (g 0 0).toNat s) j (kr_I g) = none)) → jg_GI w 4 mm_X11_chance 68 [.ref 0, u1, .int (.ofInt n), .int (.ofInt (g 0 0)), .int (.ofInt (kd_it s k : Nat)), .int (.ofInt (sum : Int)), .int (.ofInt (dr : Int)), .int (.ofInt rt), .int (.ofInt (k : Int))] τ3 KI := by
          intro m2
          induction m2 with
          | zero =>
            intro k τ3 rt hkm hf3 hrt
            have hkn : k = n.toNat := by omega
            refine jb_X11_chance_68 rfl ?_
            rw [jr_wr hn, jr_wr (show jr (k : Int) by omega), jr_wr (show jr rt by omega)]
            refine jn_ite (fun _ => ?_) (fun q => by omega)
            have hnext : ∀ (b : Nat) (τ4 : jg_M) (u7 u8 : Value), b ≤ 1 → jF (kW_ro 90) σ τ4 → (if kr_se g (kd_gv (g 0 0).toNat s) n.toNat = true then 1 else 0) = b → jg_GI w 4 mm_X11_chance 44 [.ref 0, u1, .int (.ofInt n), .int (.ofInt (g 0 0)), .int (.ofInt (kd_it s k : Nat)), .int (.ofInt ((sum + b : Nat) : Int)), .int (.ofInt ((dr : Int) + 1)), u7, u8] τ4 KI := fun b τ4 u7 u8 hb hf4 hbe => by
              have key := ih (dr + 1) (kd_it s k) (sum + b) τ4 u1 u7 u8 (by omega) (kd_lt hsl) (by omega) hf4 (by
                rw [← he, hkn]
                show sum + b + kd_sum g n.toNat m (kd_it s n.toNat) = sum + ((if kr_se g (kd_gv (g 0 0).toNat s) n.toNat = true then 1 else 0) + kd_sum g n.toNat m (kd_it s n.toNat))
                rw [hbe, Nat.add_assoc])
              rw [show ((dr + 1 : Nat) : Int) = (dr : Int) + 1 by omega] at key
              exact key
            rcases hrt with ⟨r1, K, r2, r3, r4⟩ | ⟨r1, r2⟩
            · refine jn_ite (fun q => by omega) (fun _ => ?_)
              have h3 := hCG τ3 hf3
              rw [h3.1.2.1]
              intro r er
              rw [show r = T by omega]
              have hse : kr_se g (kd_gv (g 0 0).toNat s) n.toNat = kr_en g K := by
                unfold kr_se kr_sK
                rw [← hkn, r2]
              refine ⟨sh.1, jc_take rfl sh.1 sh.2.2 sh.2.1 (by omega) (kr_CW_of hW h3.2.2.1) r3 r4 ⟨by omega, by omega⟩ (fun hz τ4 f4 => ?_) (fun b d K' hz τ4 f4 _ _ _ => ?_)⟩
              · refine jn_ite (fun _ => ?_) (fun q => absurd (show jg_wr (-2) < 0 by decide) q)
                refine hnext 0 τ4 _ _ (by decide) (jF_tr hf3 f4) ?_
                rw [hse]
                unfold kr_en
                rw [hz]
                rfl
              · have hok := kr_T_ok (kr_CW_of hW h3.2.2.1) r4 (t := g 0 0) ⟨by omega, by omega⟩ hz
                rw [jr_wr (show jr ((d : Nat) : Int) by omega)]
                refine jn_ite (fun q => by omega) (fun _ => ?_)
                refine hnext 1 τ4 _ _ (by decide) (jF_tr hf3 f4) ?_
                rw [hse]
                unfold kr_en
                rw [hz]
                rfl
            · refine jn_ite (fun _ => ?_) (fun q => by omega)
              refine hnext 0 τ3 _ _ (by decide) hf3 ?_
              have hse : kr_se g (kd_gv (g 0 0).toNat s) n.toNat = false := by
                unfold kr_se kr_sK
                rw [r2 _ (by omega)]
              rw [hse]
              rfl
          | succ m2 ih2 =>
            intro k τ3 rt hkm hf3 hrt
            have hkl := kd_lt (s := s) hsl (k := k)
            refine jb_X11_chance_68 rfl ?_
            rw [jr_wr hn, jr_wr (show jr (k : Int) by omega), jr_wr (show jr rt by omega)]
            refine jn_ite (fun q => by omega) (fun _ => ?_)
            have e1 : ((kd_it s k : Nat) : Int) * ((1103515245 : Nat) : Int) + 12345 = ((kd_it s k * 1103515245 + 12345 : Nat) : Int) := by omega
            rw [e1, kd_and]
            rintro _ rfl
            have hkl1 := kd_lt (s := s) hsl (k := k + 1)
            have e2 : kd_it s (k + 1) = (kd_it s k * 1103515245 + 12345) % 2147483648 := rfl
            rw [← e2]
            rcases hrt with ⟨r1, K, r2, r3, r4⟩ | ⟨r1, r2⟩
            · refine jn_ite (fun q => by omega) (fun _ => ?_)
              have h3 := hCG τ3 hf3
              rw [h3.1.2.1]
              intro r er
              rw [show r = T by omega]
              have hdv : jg_div ((kd_it s (k + 1) : Nat) : Int) ((65536 : Nat) : Int) = ((kd_it s (k + 1) / 65536 : Nat) : Int) := by rw [jb_div (by omega) (by decide)]; rfl
              have hrm : jg_rem ((kd_it s (k + 1) / 65536 : Nat) : Int) (g 0 0) = kd_gv (g 0 0).toNat s k := by
                rw [jb_rem (by omega) (by omega)]
                unfold kd_gv
                rw [Int.natCast_emod, ← hga]
              have htk := kd_tok (s := s) ha (k := k)
              rw [hdv, hrm, jr_wr (show jr (g 0 0) by omega)]
              have estep : kr_rn g (kd_gv (g 0 0).toNat s) (k + 1) (kr_I g) = kr_nx g (kd_gv (g 0 0).toNat s k) K := by
                show (kr_rn g (kd_gv (g 0 0).toNat s) k (kr_I g)).bind (fun K' => kr_nx g (kd_gv (g 0 0).toNat s k) K') = _
                rw [r2]
                rfl
              refine ⟨sh.1, by omega, jc_take rfl sh.1 sh.2.2 sh.2.1 (by omega) (kr_CW_of hW h3.2.2.1) r3 r4 ⟨htk.1, by omega⟩ (fun hz τ4 f4 => ?_) (fun b d K' hz τ4 f4 hR4 _ _ => ?_)⟩
              · refine jn_ite (fun _ => ?_) (fun q => absurd (show jg_wr (-2) < 0 by decide) q)
                have hno : ∀ j, k + 1 ≤ j → kr_rn g (kd_gv (g 0 0).toNat s) j (kr_I g) = none := fun j hj => by
                  induction j with
                  | zero => omega
                  | succ j ihj =>
                    by_cases hjk : j = k
                    · subst hjk
                      rw [estep]
                      unfold kr_nx
                      rw [hz]
                      rfl
                    · show (kr_rn g (kd_gv (g 0 0).toNat s) j (kr_I g)).bind _ = none
                      rw [ihj (by omega)]
                      rfl
                have key := ih2 (k + 1) τ4 0 (by omega) (jF_tr hf3 f4) (Or.inr ⟨rfl, hno⟩)
                rw [show ((k + 1 : Nat) : Int) = (k : Int) + 1 by omega] at key
                exact key
              · have hok := kr_T_ok (kr_CW_of hW h3.2.2.1) r4 (t := kd_gv (g 0 0).toNat s k) ⟨htk.1, by omega⟩ hz
                rw [jr_wr (show jr ((d : Nat) : Int) by omega)]
                refine jn_ite (fun q => by omega) (fun _ => ?_)
                have key := ih2 (k + 1) τ4 1 (by omega) (jF_tr hf3 f4) (Or.inl ⟨rfl, K', by rw [estep]; unfold kr_nx; rw [hz]; rfl, hR4, hok.1⟩)
                rw [show ((k + 1 : Nat) : Int) = (k : Int) + 1 by omega] at key
                exact key
            · refine jn_ite (fun _ => ?_) (fun q => by omega)
              have key := ih2 (k + 1) τ3 0 (by omega) hf3 (Or.inr ⟨rfl, fun j hj => r2 j (by omega)⟩)
              rw [show ((k + 1 : Nat) : Int) = (k : Int) + 1 by omega] at key
              exact key
        have hCW2 := kr_CW_of hW (hCG τ2 f02).2.2.1
        exact hin2 n.toNat 0 τ2 1 (by omega) f02 (Or.inl ⟨rfl, kr_I g, rfl, hRo, kr_I_OK hCW2⟩)
    have key := hout2 10 0 x.toNat 0 σ (.int (.ofInt x)) mj_U mj_U rfl (by omega) (Nat.le_refl _) jF_rf (Nat.zero_add _)
    rw [show ((x.toNat : Nat) : Int) = x by omega] at key
    exact key
  · unfold kv_chance at hs
    rw [if_neg hin, if_pos (by omega)] at hs
    exact hs
theorem jm_chance (h : ku_MG σ g) (hx : jr x) (hn : jr n) (hk : ∀ τ, jF kW_ss σ τ → KI (kv_chance g x n) τ) : jg_CI w 2 mm_X12_chance [.ref 92, .int (.ofInt x), .int (.ofInt n)] σ KI := by
  have hW := h.1.1.1.1
  have hw := hW.1
  refine jb_X12_chance_0 rfl ?_
  intro τ1 hτ
  have h2 := ku_ge2 hτ
  have f1 : jF kW_ss σ τ1 := jF_mono h2.1 (fun c i q => Or.inl q)
  have hs := hk τ1 f1
  have hM1 := ku_MG_ge h h2.1
  have hMW : kr_MW τ1 0 g := ku_MW hM1
  have hout : (x < 0 ∨ n < 1 ∨ 9 < n) → KI (-1) τ1 := fun q => by
    unfold kv_chance at hs
    rw [if_pos q] at hs
    exact hs
  rw [jr_wr hx]
  refine jn_ite (fun q => hout (Or.inl q)) (fun x0 => jm_isIn hn (by decide) (by decide) (jn_if (fun q => hout (by omega)) (fun hn9 => ?_)))
  have hin : ¬ (x < 0 ∨ n < 1 ∨ 9 < n) := by omega
  rw [hMW.1.2.2, jr_wr (show jr (g 0 0) by omega)]
  refine jn_ite (fun hz => ?_) (fun hnz => ?_)
  · unfold kv_chance at hs
    rw [if_neg hin, if_pos hz] at hs
    exact hs
  have ha : 0 < (g 0 0).toNat := by omega
  have hga : g 0 0 = (((g 0 0).toNat : Nat) : Int) := by omega
  have hnn : ((n.toNat : Nat) : Int) = n := by omega
  intro t104 ht104
  rw [ht104]
  clear ht104 t104
  have hout2 : ∀ (m dr s sum : Nat) (τ : jg_M) (u1 u4 u7 : Value), dr + m = 10 → s < 2147483648 → sum ≤ dr → jF (fun c i => kW_co c i ∨ c = 92 + 39) τ1 τ → sum + kd_sum g n.toNat m s = kd_sum g n.toNat 10 x.toNat → jg_GI w 2 mm_X12_chance 42 [.ref 92, u1, .int (.ofInt n), .long (.ofInt (s : Int)), u4, .int (.ofInt (sum : Int)), .int (.ofInt (dr : Int)), u7] τ KI := by
    intro m
    induction m with
    | zero =>
      intro dr s sum τ u1 u4 u7 hd hsl hsum hf he
      refine jb_X12_chance_42 rfl ?_
      rw [jr_wr (show jr (dr : Int) by omega)]
      refine jn_ite (fun _ => ?_) (fun q => by omega)
      have := hk τ (jF_tr f1 (jF_mono hf (fun c i q => Or.inr q)))
      unfold kv_chance at this
      rw [if_neg hin, if_neg (by omega), ← he] at this
      exact this
    | succ m ih =>
      intro dr s sum τ u1 u4 u7 hd hsl hsum hf he
      refine jb_X12_chance_42 rfl ?_
      rw [jr_wr (show jr (dr : Int) by omega)]
      refine jn_ite (fun q => by omega) (fun _ => ?_)
      have hin2 : ∀ (m2 k : Nat) (τ3 : jg_M) (u4 : Value), k + m2 = n.toNat → jF (fun c i => kW_co c i ∨ c = 92 + 39) τ1 τ3 → (∀ j : Nat, j < k → τ3.1 (92 + 39) (j : Int) = kd_gv (g 0 0).toNat s j) → jg_GI w 2 mm_X12_chance 52 [.ref 92, u1, .int (.ofInt n), .long (.ofInt (kd_it s k : Nat)), u4, .int (.ofInt (sum : Int)), .int (.ofInt (dr : Int)), .int (.ofInt (k : Int))] τ3 KI := by
        intro m2
        induction m2 with
        | zero =>
          intro k τ3 u4 hkm hf3 hz
          have hkn : k = n.toNat := by omega
          have hM3 := kr_MW_fr hMW hf3 (fun c i hc q => by unfold kW_co at q; omega)
          refine jb_X12_chance_52 rfl ?_
          rw [jr_wr hn, jr_wr (show jr (k : Int) by omega)]
          refine jn_ite (fun _ => ?_) (fun q => by omega)
          have hnext : ∀ (b : Nat) (τ4 : jg_M) (u4 u7 : Value), b ≤ 1 → jF (fun c i => kW_co c i ∨ c = 92 + 39) τ1 τ4 → (if kr_se g (kd_gv (g 0 0).toNat s) n.toNat = true then 1 else 0) = b → ∀ t : Int, t = (sum : Int) + (b : Int) → jg_GI w 2 mm_X12_chance 42 [.ref 92, u1, .int (.ofInt n), .long (.ofInt (kd_it s k : Nat)), u4, .int (.ofInt t), .int (.ofInt ((dr : Int) + 1)), u7] τ4 KI := fun b τ4 u4 u7 hb hf4 hbe t ht => by
            have key := ih (dr + 1) (kd_it s k) (sum + b) τ4 u1 u4 u7 (by omega) (kd_lt hsl) (by omega) hf4 (by
              rw [← he, hkn]
              show sum + b + kd_sum g n.toNat m (kd_it s n.toNat) = sum + ((if kr_se g (kd_gv (g 0 0).toNat s) n.toNat = true then 1 else 0) + kd_sum g n.toNat m (kd_it s n.toNat))
              rw [hbe, Nat.add_assoc])
            rw [show ((dr + 1 : Nat) : Int) = (dr : Int) + 1 by omega, show ((sum + b : Nat) : Int) = t by omega] at key
            exact key
          have hsen := jm_isSentence (w := w) (σ := τ3) (b := 0) (g := g) (n := n.toNat) (gv := kd_gv (g 0 0).toNat s) (KI := fun (z102 : Int) (m101 : jg_M) => (if jg_wr z102 = 0 then ∀ t103 : Int, t103 = ((sum : Int) + 0) → jg_GI w 2 mm_X12_chance 42 [.ref 92, u1, .int (.ofInt n), .long (.ofInt (kd_it s k : Nat)), u4, .int (.ofInt t103), .int (.ofInt ((dr : Int) + 1)), .int (.ofInt (k : Int))] m101 KI else ∀ t104 : Int, t104 = ((sum : Int) + 1) → jg_GI w 2 mm_X12_chance 42 [.ref 92, u1, .int (.ofInt n), .long (.ofInt (kd_it s k : Nat)), u4, .int (.ofInt t104), .int (.ofInt ((dr : Int) + 1)), .int (.ofInt (k : Int))] m101 KI)) hM3 (by omega) (fun i hi => hz i (by omega)) (fun i hi => by
            have := kd_tok (s := s) ha (k := i)
            omega) (fun τ4 f4 => ?_)
          · rw [hnn] at hsen
            exact hsen
          · have f14 : jF (fun c i => kW_co c i ∨ c = 92 + 39) τ1 τ4 := jF_tr hf3 (jF_mono f4 (fun c i q => Or.inl q))
            exact jn_if (fun hno => hnext 0 τ4 u4 _ (by decide) f14 (if_neg hno)) (fun hys => hnext 1 τ4 u4 _ (by decide) f14 (if_pos hys))
        | succ m2 ih2 =>
          intro k τ3 u4 hkm hf3 hz
          have hkl := kd_lt (s := s) hsl (k := k)
          have hkl1 := kd_lt (s := s) hsl (k := k + 1)
          have hM3 := kr_MW_fr hMW hf3 (fun c i hc q => by unfold kW_co at q; omega)
          refine jb_X12_chance_52 rfl ?_
          rw [jr_wr hn, jr_wr (show jr (k : Int) by omega)]
          refine jn_ite (fun q => by omega) (fun _ => ?_)
          have e1 : ((kd_it s k : Nat) : Int) * ((1103515245 : Nat) : Int) + ((12345 : Nat) : Int) = ((kd_it s k * 1103515245 + 12345 : Nat) : Int) := by omega
          rw [e1, kd_qand (by omega)]
          rintro _ rfl
          have e2 : kd_it s (k + 1) = (kd_it s k * 1103515245 + 12345) % 2147483648 := rfl
          rw [← e2, hM3.1.2.2, jr_wr (show jr (g 0 0) by omega)]
          have hdv : jg_qdiv ((kd_it s (k + 1) : Nat) : Int) ((65536 : Nat) : Int) = ((kd_it s (k + 1) / 65536 : Nat) : Int) := by rw [jb_qdiv (by omega) (by decide)]; rfl
          have hrm : jg_qrem ((kd_it s (k + 1) / 65536 : Nat) : Int) (g 0 0) = kd_gv (g 0 0).toNat s k := by
            rw [jb_qrem (by omega) (by omega)]
            unfold kd_gv
            rw [Int.natCast_emod, ← hga]
          have hwl : jg_wl (g 0 0) = g 0 0 := by
            unfold jg_wl
            exact Int64.toInt_ofInt_of_le (by omega) (by omega)
          rw [hdv, hrm, hwl]
          refine ⟨by omega, by omega, ?_⟩
          intro τ4 h4
          have f4 : jF (fun c i => c = 92 + 39 ∧ i = k) τ3 τ4 := by rw [h4]; exact jF_I ⟨rfl, rfl⟩
          have key := ih2 (k + 1) τ4 u4 (by omega) (jF_tr hf3 (jF_mono f4 (fun c i q => Or.inr q.1))) (fun j hj => by
            by_cases hjk : j = k
            · rw [hjk, h4]; exact js_Is
            · rw [f4.1 _ _ (by omega)]; exact hz j (by omega))
          rw [show ((k + 1 : Nat) : Int) = (k : Int) + 1 by omega] at key
          exact key
      exact hin2 n.toNat 0 τ u4 (by omega) hf (fun j hj => absurd hj (Nat.not_lt_zero j))
  have key := hout2 10 0 x.toNat 0 τ1 (.int (.ofInt x)) mj_U mj_U rfl (by omega) (Nat.le_refl _) jF_rf (Nat.zero_add _)
  rw [show ((x.toNat : Nat) : Int) = x by omega] at key
  exact key
end KDA
