/-! TEXT is fed, in both -/
def ku_by (x : Int) (k : Nat) : Int := (((Int32.ofInt x).toBitVec.toNat / 2 ^ k % 256 : Nat) : Int)
def ku_xs (x1 x2 x3 x4 x5 : Int) (q : Nat) : Int := if q = 0 then x1 else if q = 1 then x2 else if q = 2 then x3 else if q = 3 then x4 else x5
/-- the bytes of one feeding -/
def ku_fb (x1 x2 x3 x4 x5 : Int) (j : Nat) : Int := ku_by (ku_xs x1 x2 x3 x4 x5 (j / 4)) (24 - 8 * (j % 4))
section KUF
variable {w : Nat} {σ τ : jg_M} {k : Nat} {x x1 x2 x3 x4 x5 F : Int} {KV : jg_M → Prop} {KI : Int → jg_M → Prop}
theorem ku_by_rng : 0 ≤ ku_by x k ∧ ku_by x k ≤ 255 := by
  unfold ku_by
  have := Nat.mod_lt ((Int32.ofInt x).toBitVec.toNat / 2 ^ k) (show 0 < 256 by decide)
  omega
theorem ku_bu (hk : k < 32) : jg_and (jg_ushr x k) 255 = ku_by x k := by
  unfold ku_by
  refine jb_toI ?_ (by have := Nat.mod_lt ((Int32.ofInt x).toBitVec.toNat / 2 ^ k) (show 0 < 256 by decide); omega)
  have h : Int32.ofInt (jg_ushr x k) = ((Int32.ofInt x).toUInt32 >>> ((Int32.ofInt (k : Int)).toUInt32 &&& Int32.toUInt32 31)).toInt32 := Int32.ofInt_toInt _
  show ((Int32.ofInt (jg_ushr x k)).toBitVec &&& (Int32.ofInt 255).toBitVec).toNat = _
  rw [h, BitVec.toNat_and]
  show (((Int32.ofInt x).toBitVec >>> (((Int32.ofInt (k : Int)).toUInt32 &&& Int32.toUInt32 31).toBitVec % 32#32)).toNat &&& 255) = _
  rw [jb_su hk, BitVec.ushiftRight_eq', BitVec.toNat_ushiftRight, BitVec.toNat_ofNat, Nat.mod_eq_of_lt (show k < 2 ^ 32 by omega), Nat.shiftRight_eq_div_pow]
  exact Nat.and_two_pow_sub_one_eq_mod _ 8
theorem jc_putBytes (hF : σ.1 0 1 = F) (h7 : 0 ≤ F ∧ F + 4 ≤ 700) (hk : ∀ τ, jF (fun c i => (c = 1 ∧ F ≤ i ∧ i < F + 4) ∨ (c = 0 ∧ i = 1)) σ τ → τ.1 0 1 = F + 4 → (∀ j : Nat, j < 4 → τ.1 1 (F + j) = ku_by x (24 - 8 * j)) → KV τ) : jg_CV w 0 mm_X11_putBytes [.ref 0, .int (.ofInt x)] σ KV := by
  have hloop : ∀ (m k : Nat) (τ : jg_M), k + m = 4 → jF (fun c i => (c = 1 ∧ F ≤ i ∧ i < F + 4) ∨ (c = 0 ∧ i = 1)) σ τ → τ.1 0 1 = F + k → (∀ j : Nat, j < k → τ.1 1 (F + j) = ku_by x (24 - 8 * j)) → jg_GV w 0 mm_X11_putBytes 3 [.ref 0, .int (.ofInt x), .int (.ofInt (24 - 8 * (k : Int)))] τ KV := by
    intro m
    induction m with
    | zero =>
      intro k τ hkm hf e1 hz
      refine jb_X11_putBytes_3 rfl ?_
      rw [jr_wr (show jr (24 - 8 * (k : Int)) by omega)]
      exact jn_ite (fun _ => hk τ hf (by rw [e1]; omega) (fun j hj => hz j (by omega))) (fun h => by omega)
    | succ m ih =>
      intro k τ hkm hf e1 hz
      refine jb_X11_putBytes_3 rfl ?_
      rw [jr_wr (show jr (24 - 8 * (k : Int)) by omega), e1, jr_wr (show jr (F + (k : Int)) by omega)]
      refine jn_ite (fun h => by omega) (fun _ => jn_ite (fun h => by omega) (fun _ => ⟨by omega, ?_⟩))
      rw [show 24 - 8 * (k : Int) = ((24 - 8 * k : Nat) : Int) by omega, ku_bu (by omega)]
      intro τ1 h1 τ2 h2
      have e11 : τ1.1 0 1 = F + k := by rw [h1, js_In (Or.inl (by decide))]; exact e1
      rw [e11] at h2
      have hf2 : jF (fun c i => (c = 1 ∧ i = F + k) ∨ (c = 0 ∧ i = 1)) τ τ2 := by rw [h2, h1]; exact jF_toI (jF_I (Or.inl ⟨rfl, rfl⟩)) (Or.inr ⟨rfl, rfl⟩)
      have := ih (k + 1) τ2 (by omega) (jF_tr hf (jF_mono hf2 (fun c i q => by omega))) (by rw [h2, js_Is]; omega) (fun j hj => ?_)
      · rw [show 24 - 8 * ((k + 1 : Nat) : Int) = ((24 - 8 * k : Nat) : Int) + -8 by omega] at this
        exact this
      · by_cases hjk : j = k
        · rw [hjk, h2, js_In (Or.inl (by decide)), h1]
          exact js_Is
        · rw [hf2.1 _ _ (by omega)]
          exact hz j (by omega)
  refine jb_X11_putBytes_0 rfl ?_
  exact hloop 4 0 σ rfl jF_rf (by rw [hF]; omega) (fun j hj => by omega)
theorem jc_feed (h7 : 0 ≤ σ.1 0 1 ∧ σ.1 0 1 ≤ 700) (k0 : 700 < σ.1 0 1 + 20 → KI (-1) σ) (k1 : σ.1 0 1 + 20 ≤ 700 → ∀ τ, jF (fun c i => (c = 1 ∧ σ.1 0 1 ≤ i) ∨ (c = 0 ∧ i = 1)) σ τ → τ.1 0 1 = σ.1 0 1 + 20 → (∀ j : Nat, j < 20 → τ.1 1 (σ.1 0 1 + j) = ku_fb x1 x2 x3 x4 x5 j) → KI (σ.1 0 1 + 20) τ) : jg_CI w 1 mm_X11_feed [.ref 0, .int (.ofInt x1), .int (.ofInt x2), .int (.ofInt x3), .int (.ofInt x4), .int (.ofInt x5)] σ KI := by
  refine jb_X11_feed_0 rfl ?_
  rw [jr_wr (show jr (σ.1 0 1 + 20) by omega)]
  refine jn_ite (fun hle => ?_) (fun h => k0 (by omega))
  generalize hF : σ.1 0 1 = F at *
  refine jc_putBytes (F := F) hF ⟨by omega, by omega⟩ (fun m1 f1 e1 z1 => jc_putBytes (F := F + 4) e1 ⟨by omega, by omega⟩ (fun m2 f2 e2 z2 => jc_putBytes (F := F + 4 + 4) e2 ⟨by omega, by omega⟩ (fun m3 f3 e3 z3 => jc_putBytes (F := F + 4 + 4 + 4) e3 ⟨by omega, by omega⟩ (fun m4 f4 e4 z4 => jc_putBytes (F := F + 4 + 4 + 4 + 4) e4 ⟨by omega, by omega⟩ (fun m5 f5 e5 z5 => ?_)))))
  rw [e5, show F + 4 + 4 + 4 + 4 + 4 = F + 20 by omega]
  have W : ∀ (y : Int) (m m' : jg_M), F ≤ y → jF (fun c i => (c = 1 ∧ y ≤ i ∧ i < y + 4) ∨ (c = 0 ∧ i = 1)) m m' → jF (fun c i => (c = 1 ∧ F ≤ i) ∨ (c = 0 ∧ i = 1)) m m' := fun y m m' hy h => jF_mono h (fun c i q => by omega)
  refine k1 hle m5 (jF_tr (W _ _ _ (by omega) f1) (jF_tr (W _ _ _ (by omega) f2) (jF_tr (W _ _ _ (by omega) f3) (jF_tr (W _ _ _ (by omega) f4) (W _ _ _ (by omega) f5))))) (by rw [e5]; omega) (fun j hj => ?_)
  have hd : j = 4 * (j / 4) + j % 4 := (Nat.div_add_mod j 4).symm
  have hm := Nat.mod_lt j (show 0 < 4 by decide)
  unfold ku_fb ku_xs
  generalize j / 4 = q at *
  generalize j % 4 = r at *
  have hq : q = 0 ∨ q = 1 ∨ q = 2 ∨ q = 3 ∨ q = 4 := by omega
  rcases hq with rfl | rfl | rfl | rfl | rfl
  · rw [if_pos rfl, f5.1 _ _ (by omega), f4.1 _ _ (by omega), f3.1 _ _ (by omega), f2.1 _ _ (by omega), ← z1 r hm]; exact congrArg (m1.1 1) (by omega)
  · rw [if_neg (by decide), if_pos rfl, f5.1 _ _ (by omega), f4.1 _ _ (by omega), f3.1 _ _ (by omega), ← z2 r hm]; exact congrArg (m2.1 1) (by omega)
  · rw [if_neg (by decide), if_neg (by decide), if_pos rfl, f5.1 _ _ (by omega), f4.1 _ _ (by omega), ← z3 r hm]; exact congrArg (m3.1 1) (by omega)
  · rw [if_neg (by decide), if_neg (by decide), if_neg (by decide), if_pos rfl, f5.1 _ _ (by omega), ← z4 r hm]; exact congrArg (m4.1 1) (by omega)
  · rw [if_neg (by decide), if_neg (by decide), if_neg (by decide), if_neg (by decide), ← z5 r hm]; exact congrArg (m5.1 1) (by omega)
end KUF
