/-! FIRST in the class; EMPTY and FIRST in the reference -/
def jn_S (f : Int → Nat) : Nat := f 0 + f 1 + f 2 + f 3 + f 4
def jn_up (f : Int → Nat) (k : Int) (v : Nat) : Int → Nat := fun x => if x = k then v else f x
section JLG
variable {w : Nat} {σ : jg_M} {G : Nat} {g : gM} {x r k b c : Int} {e e' v : Nat} {f f' : Int → Nat} {K : jg_M → Prop} {KI : Int → jg_M → Prop}
theorem jn_S_up (h : 0 ≤ k ∧ k < 5) : jn_S (jn_up f k v) + f k = jn_S f + v := by
  have : k = 0 ∨ k = 1 ∨ k = 2 ∨ k = 3 ∨ k = 4 := by omega
  unfold jn_S jn_up
  rcases this with rfl | rfl | rfl | rfl | rfl <;> simp <;> omega
theorem jn_S_le (h : ∀ x, 0 ≤ x → x < 5 → f x < 256) : jn_S f ≤ 1275 := by
  have h0 := h 0 (by omega) (by omega)
  have h1 := h 1 (by omega) (by omega)
  have h2 := h 2 (by omega) (by omega)
  have h3 := h 3 (by omega) (by omega)
  have h4 := h 4 (by omega) (by omega)
  unfold jn_S
  omega
theorem jn_up_s : jn_up f k v k = v := if_pos rfl
theorem jn_up_n (h : x ≠ k) : jn_up f k v x = f x := if_neg h
theorem jc_X0_settleFirsts (h0 : jg_sh G = (0, 0)) (hG : jn_Gr σ G g) (hW : jn_GW g) (he : σ.1 G 11 = (e : Int)) (he2 : e < 32) (hk : ∀ τ f, jF (fun a _ => a = G + 7) σ τ → (∀ x, 0 ≤ x → x < 5 → τ.1 (G + 7) x = ((f x : Nat) : Int)) → (∀ x, 0 ≤ x → x < 5 → f x < 256) → (∀ x, g 0 1 ≤ x → x < 5 → f x = 0) → jn_cF g e f → (∀ f', jn_cF g e f' → ∀ x, 0 ≤ x → x < g 0 1 → jn_sub (f x) (f' x)) → K τ) : jg_CV w 3 mm_X0_settleFirsts [.ref G] σ K := by
  refine jb_X0_settleFirsts_0 h0 (jc_fill (jg_sX0_12 h0) (by omega) (fun τ0 hF0 hz => ?_))
  have hw := hW.1
  have hGt : ∀ τ, jF (fun a _ => a = G + 7) σ τ → jn_Gr τ G g ∧ τ.1 G 11 = (e : Int) := fun τ h => ⟨jn_Gr_fr hG h (by omega) (by omega), (h.1 _ _ (by omega)).trans he⟩
  have hin : ∀ (m : Nat) (r b n : Int) (S0 : Nat) (f : Int → Nat) (τ : jg_M), (∀ (b : Int) (τ : jg_M) (f : Int → Nat), jF (fun a _ => a = G + 7) σ τ → (∀ x, 0 ≤ x → x < 5 → τ.1 (G + 7) x = ((f x : Nat) : Int)) → (∀ x, 0 ≤ x → x < 5 → f x < 256) → (∀ x, g 0 1 ≤ x → x < 5 → f x = 0) → (∀ f', jn_cF g e f' → ∀ x, 0 ≤ x → x < g 0 1 → jn_sub (f x) (f' x)) → ((b = 0 ∧ jn_cF g e f) ∨ (b = 1 ∧ S0 < jn_S f)) → jg_GV w 3 mm_X0_settleFirsts 12 [.ref G, .int (.ofInt b), .int (.ofInt (n + 1)), .int (.ofInt (g 0 2))] τ K) →
      0 ≤ r → r ≤ g 0 2 → (g 0 2 - r).toNat = m → jF (fun a _ => a = G + 7) σ τ → (∀ x, 0 ≤ x → x < 5 → τ.1 (G + 7) x = ((f x : Nat) : Int)) → (∀ x, 0 ≤ x → x < 5 → f x < 256) → (∀ x, g 0 1 ≤ x → x < 5 → f x = 0) → (∀ f', jn_cF g e f' → ∀ x, 0 ≤ x → x < g 0 1 → jn_sub (f x) (f' x)) → S0 ≤ jn_S f → ((b = 0 ∧ ∀ r', 0 ≤ r' → r' < r → r' ≠ g 0 4 → jn_sub (jn_F g e f r' 0) (f (g 3 r'))) ∨ (b = 1 ∧ S0 < jn_S f)) → jg_GV w 3 mm_X0_settleFirsts 26 [.ref G, .int (.ofInt b), .int (.ofInt n), .int (.ofInt r)] τ K := by
    intro m
    induction m with
    | zero =>
      intro r b n S0 f τ hP h1 h2 h3 h4 h5 h6 h7 h8 h9 h10
      refine jb_X0_settleFirsts_26 h0 ?_
      have hr : r = g 0 2 := by omega
      rw [(hGt τ h4).1.1.2.2.1, jr_wr (by omega), jr_wr (by omega)]
      refine jn_ite (fun hc => ?_) (fun hc => by omega)
      rw [hr]
      refine hP b τ f h4 h5 h6 h7 h8 ?_
      rcases h10 with ⟨q1, q2⟩ | q
      · exact Or.inl ⟨q1, fun r' r1 r2 r3 => q2 r' r1 (by omega) r3⟩
      · exact Or.inr q
    | succ m ih =>
      intro r b n S0 f τ hP h1 h2 h3 h4 h5 h6 h7 h8 h9 h10
      refine jb_X0_settleFirsts_26 h0 ?_
      obtain ⟨hGτ, heτ⟩ := hGt τ h4
      rw [hGτ.1.2.2.1, jr_wr (by omega), jr_wr (by omega)]
      have hrk := (hW.2.1 r (by omega) (by omega)).1
      have next : (r = g 0 4 ∨ jn_sub (jn_F g e f r 0) (f (g 3 r))) → jg_GV w 3 mm_X0_settleFirsts 26 [.ref G, .int (.ofInt b), .int (.ofInt n), .int (.ofInt (r + 1))] τ K := by
        intro hq
        refine ih (r + 1) b n S0 f τ hP (by omega) (by omega) (by omega) h4 h5 h6 h7 h8 h9 ?_
        rcases h10 with ⟨q1, q2⟩ | q
        · refine Or.inl ⟨q1, fun r' r1 r2 r3 => ?_⟩
          by_cases hr : r' = r
          · rw [hr] at r3 ⊢; exact hq.resolve_left r3
          · exact q2 r' r1 (by omega) r3
        · exact Or.inr q
      refine jn_ite (fun hc => by omega) (fun hc => jc_X0_uses h0 hGτ hW (by omega) (jn_if (fun hp => next (Or.inl (by omega))) (fun hp => jc_X0_kindOf h0 hGτ hW (by omega) ?_)))
      rw [if_pos (by omega)]
      have hFlt := jn_F_lt (e := e) (r := r) (k := 0) hW h6 (by omega)
      refine jc_X0_firstFrom h0 hGτ hW heτ he2 h5 h6 (by omega) (by omega) (by omega) ?_
      refine jc_X0_widen h0 (jg_sX0_12 h0) (by omega) hGτ hW (by omega) (fun _ _ => h5 (g 3 r) (by omega) (by omega)) (fun _ _ => h6 _ (by omega) (by omega)) hFlt (fun hq => ?_) (fun _ hq => ?_)
      · rw [show jg_wr 0 = 0 from rfl]
        exact jn_ite (fun _ => next (Or.inr (hq.resolve_left (by omega)))) (fun hc => absurd rfl hc)
      · rw [show jg_wr 1 = 1 from rfl]
        refine jn_ite (fun hc => by omega) (fun _ => ?_)
        have hgt := jn_or_gt hq
        have hSu := jn_S_up (f := f) (v := f (g 3 r) ||| jn_F g e f r 0) (k := g 3 r) (by omega)
        refine ih (r + 1) 1 n S0 (jn_up f (g 3 r) (f (g 3 r) ||| jn_F g e f r 0)) _ hP (by omega) (by omega) (by omega) (jF_toI h4 rfl) (fun x x1 x2 => ?_) (fun x x1 x2 => ?_) (fun x x1 x2 => ?_) (fun f' hf' x x1 x2 => ?_) (by omega) (Or.inr ⟨rfl, by omega⟩)
        · by_cases hx : x = g 3 r
          · rw [hx, js_Is, jn_up_s]
          · rw [js_In (Or.inr hx), jn_up_n hx]; exact h5 x x1 x2
        · by_cases hx : x = g 3 r
          · rw [hx, jn_up_s]; exact Nat.or_lt_two_pow (n := 8) (h6 _ (by omega) (by omega)) hFlt
          · rw [jn_up_n hx]; exact h6 x x1 x2
        · rw [jn_up_n (by omega)]; exact h7 x x1 x2
        · by_cases hx : x = g 3 r
          · rw [hx, jn_up_s]
            exact jn_sub_or (h8 f' hf' _ (by omega) (by omega)) (jn_sub_tr (jn_F_mono hW jn_sub_rf (h8 f' hf') (by omega) _ 0 (by omega) rfl) (hf' r (by omega) (by omega) (by omega)))
          · rw [jn_up_n hx]; exact h8 f' hf' x x1 x2
  have hout : ∀ (m : Nat) (n : Int) (u : Value) (f : Int → Nat) (τ : jg_M), 1275 - jn_S f = m → 0 ≤ n → n ≤ jn_S f → jF (fun a _ => a = G + 7) σ τ → (∀ x, 0 ≤ x → x < 5 → τ.1 (G + 7) x = ((f x : Nat) : Int)) → (∀ x, 0 ≤ x → x < 5 → f x < 256) → (∀ x, g 0 1 ≤ x → x < 5 → f x = 0) → (∀ f', jn_cF g e f' → ∀ x, 0 ≤ x → x < g 0 1 → jn_sub (f x) (f' x)) → jg_GV w 3 mm_X0_settleFirsts 12 [.ref G, .int (.ofInt 1), .int (.ofInt n), u] τ K := by
    intro m
    induction m using Nat.strongRecOn with
    | ind m ih =>
      intro n u f τ h1 h2 h3 h4 h5 h6 h7 h8
      have hS := jn_S_le h6
      refine jb_X0_settleFirsts_12 h0 ?_
      rw [show jg_wr 1 = 1 from rfl, jr_wr (by omega)]
      refine jn_ite (fun hc => by omega) (fun hc => jn_ite (fun hc2 => by omega) (fun hc2 => ?_))
      refine hin _ 0 0 n (jn_S f) f τ (fun b τ' f2 q1 q2 q3 q4 q5 q6 => ?_) (by omega) (by omega) rfl h4 h5 h6 h7 h8 (Nat.le_refl _) (Or.inl ⟨rfl, fun r' r1 r2 => by omega⟩)
      have hS2 := jn_S_le q3
      rcases q6 with ⟨rfl, q6⟩ | ⟨rfl, q6⟩
      · refine jb_X0_settleFirsts_12 h0 ?_
        rw [show jg_wr 0 = 0 from rfl]
        exact jn_ite (fun _ => hk τ' f2 q1 q2 q3 q4 q6 q5) (fun hc => absurd rfl hc)
      · exact ih (1275 - jn_S f2) (by omega) (n + 1) _ f2 τ' rfl (by omega) (by omega) q1 q2 q3 q4 q5
  exact hout _ 0 _ (fun _ => 0) τ0 rfl (by omega) (by omega) hF0 (fun x x1 x2 => hz x x1 (by omega)) (fun _ _ _ => by omega) (fun _ _ _ => rfl) (fun f' _ x _ _ => jn_sub_0)
theorem jn_was {p : Prop} (h : v < 256) : jg_or (v : Int) (jg_shl (jn_b p) 8) = (v : Int) + 256 * jn_b p := by
  have e0 : jg_shl 0 8 = 0 := rfl
  have e1 : jg_shl 1 8 = ((256 : Nat) : Int) := rfl
  rcases jn_b_01 p with hp | hp
  · rw [hp, e0, show (0 : Int) = ((0 : Nat) : Int) from rfl, jb_or (by omega) (by omega), Nat.or_zero]; omega
  · rw [hp, e1, jb_or (by omega) (by omega)]
    have := show 256 + v = 256 ||| v from Nat.two_pow_add_eq_or_of_lt (i := 8) h 1
    rw [Nat.or_comm]
    omega
/-- the places of bank c for EMPTY and FIRST -/
def jW_ef (c : Int) (a : Nat) (i : Int) : Prop := (a = 92 + 20 ∧ i = c) ∨ (a = 92 + 21 ∧ 5 * c ≤ i ∧ i < 5 * c + 5)
theorem jm_layFirsts (hG : jn_Mg σ b g) (hW : jn_GW g) (hc : σ.1 92 36 = c) (hc2 : 0 ≤ c ∧ c ≤ 1) (hk : ∀ τ e f, jF (jW_ef c) σ τ → τ.1 (92 + 20) c = ((e : Nat) : Int) → (∀ x, 0 ≤ x → x < 5 → τ.1 (92 + 21) (5 * c + x) = ((f x : Nat) : Int)) → jn_lEF g e f → K τ) : jg_CV w 3 mm_X12_layFirsts [.ref 92] σ K := by
  refine jb_X12_layFirsts_0 rfl ?_
  have hw := hW.1
  have hb := hG.1.2.1
  rw [hc, jr_wr (by omega)]
  refine ⟨by omega, ?_⟩
  have hGt : ∀ τ, jF (jW_ef c) σ τ → jn_Mg τ b g ∧ τ.1 92 36 = c := fun τ h => ⟨jn_Mg_fr hG h (by unfold jW_ef; omega) (by unfold jW_ef; omega), (h.1 _ _ (by unfold jW_ef; omega)).trans hc⟩
  have hin : ∀ (m : Nat) (r bb : Int) (u v : Value) (M0 : Nat) (e : Nat) (f : Int → Nat) (τ : jg_M), (∀ (u v : Value) (bb : Int) (τ : jg_M) (e : Nat) (f : Int → Nat), jF (jW_ef c) σ τ → τ.1 (92 + 20) c = (e : Int) → e < 32 → (∀ x, 0 ≤ x → x < 5 → τ.1 (92 + 21) (5 * c + x) = ((f x : Nat) : Int)) → (∀ x, 0 ≤ x → x < 5 → f x < 256) → (∀ x, g 0 1 ≤ x → x < 5 → f x = 0) → (∀ e' f', jn_cE g e' → jn_cF g e' f' → jn_sub e e' ∧ ∀ x, 0 ≤ x → x < g 0 1 → jn_sub (f x) (f' x)) → ((bb = 0 ∧ jn_cE g e ∧ jn_cF g e f) ∨ (bb = 1 ∧ M0 < e + jn_S f)) → jg_GV w 3 mm_X12_layFirsts 39 [.ref 92, .int (.ofInt bb), .int (.ofInt (g 0 2)), u, v] τ K) →
      0 ≤ r → r ≤ g 0 2 → (g 0 2 - r).toNat = m → jF (jW_ef c) σ τ → τ.1 (92 + 20) c = (e : Int) → e < 32 → (∀ x, 0 ≤ x → x < 5 → τ.1 (92 + 21) (5 * c + x) = ((f x : Nat) : Int)) → (∀ x, 0 ≤ x → x < 5 → f x < 256) → (∀ x, g 0 1 ≤ x → x < 5 → f x = 0) → (∀ e' f', jn_cE g e' → jn_cF g e' f' → jn_sub e e' ∧ ∀ x, 0 ≤ x → x < g 0 1 → jn_sub (f x) (f' x)) → M0 ≤ e + jn_S f → ((bb = 0 ∧ ∀ r', 0 ≤ r' → r' < r → r' ≠ g 0 4 → (jn_EF g e r' 0 → e.testBit (g 3 r').toNat = true) ∧ jn_sub (jn_F g e f r' 0) (f (g 3 r'))) ∨ (bb = 1 ∧ M0 < e + jn_S f)) → jg_GV w 3 mm_X12_layFirsts 47 [.ref 92, .int (.ofInt bb), .int (.ofInt r), u, v] τ K := by
    intro m
    induction m with
    | zero =>
      intro r bb u v M0 e f τ hP h1 h2 h3 h4 h5 h5b h6 h6b h7 h8 h9 h10
      refine jb_X12_layFirsts_47 rfl ?_
      obtain ⟨hGτ, hcτ⟩ := hGt τ h4
      have hr : r = g 0 2 := by omega
      rw [hGτ.1.1, jr_wr (show jr b by omega), hGτ.1.2.2.2.2.2.2, jr_wr (show jr (g 0 2) by omega), jr_wr (show jr r by omega)]
      refine ⟨by omega, jn_ite (fun hc => ?_) (fun hc => by omega)⟩
      rw [hr]
      refine hP u v bb τ e f h4 h5 h5b h6 h6b h7 h8 ?_
      rcases h10 with ⟨q1, q2⟩ | q
      · exact Or.inl ⟨q1, fun r' r1 r2 r3 => (q2 r' r1 (by omega) r3).1, fun r' r1 r2 r3 => (q2 r' r1 (by omega) r3).2⟩
      · exact Or.inr q
    | succ m ih =>
      intro r bb u v M0 e f τ hP h1 h2 h3 h4 h5 h5b h6 h6b h7 h8 h9 h10
      refine jb_X12_layFirsts_47 rfl ?_
      obtain ⟨hGτ, hcτ⟩ := hGt τ h4
      rw [hGτ.1.1, jr_wr (show jr b by omega), hGτ.1.2.2.2.2.2.2, jr_wr (show jr (g 0 2) by omega), jr_wr (show jr r by omega), hGτ.1.2.2.2.1, jr_wr (show jr (g 0 4) by omega)]
      have hrk := (hW.2.1 r (by omega) (by omega)).1
      refine ⟨by omega, jn_ite (fun hc => by omega) (fun hcc => jn_ite (fun ho => ?_) (fun ho => ?_))⟩
      · refine ih (r + 1) bb u v M0 e f τ hP (by omega) (by omega) (by omega) h4 h5 h5b h6 h6b h7 h8 h9 ?_
        rcases h10 with ⟨q1, q2⟩ | q
        · exact Or.inl ⟨q1, fun r' r1 r2 r3 => q2 r' r1 (by omega) r3⟩
        · exact Or.inr q
      · rw [jr_wr (show jr (13 * b + r) by omega), (hGτ.2 r (by omega) (by omega)).1]
        refine ⟨by omega, fun t ht => ?_⟩
        rw [ht, hcτ, jr_wr (show jr (5 * c + g 3 r) by omega), jr_wr (show jr c by omega), h5, h6 _ (by omega) (by omega), jb_tstr (by omega) (by omega) (by omega), jn_was (h6b _ (by omega) (by omega))]
        refine ⟨by omega, by omega, fun t2 ht2 => ?_⟩
        -- what is done when e is settled for this rule
        have step : ∀ (e1 : Nat) (τ1 : jg_M), jF (jW_ef c) σ τ1 → τ1.1 (92 + 20) c = (e1 : Int) → e1 < 32 → (∀ x, 0 ≤ x → x < 5 → τ1.1 (92 + 21) (5 * c + x) = ((f x : Nat) : Int)) → jn_sub e e1 → (jn_EF g e r 0 → e1.testBit (g 3 r).toNat = true) → (e1.testBit (g 3 r).toNat = e.testBit (g 3 r).toNat → e1 = e) → (∀ e' f', jn_cE g e' → jn_cF g e' f' → jn_sub e1 e' ∧ ∀ x, 0 ≤ x → x < g 0 1 → jn_sub (f x) (f' x)) →
            jg_CI w 2 mm_X12_firstFrom [.ref 92, .int (.ofInt r), .int (.ofInt 0)] τ1 (fun z106 m105 => ((0 : Int) ≤ jg_wr ((5 * (τ1.1 92 36)) + g 3 r) ∧ jg_wr ((5 * (τ1.1 92 36)) + g 3 r) < (10 : Int)) ∧ ∀ m107 : jg_M, m107 = jg_sI m105 (92 + 21) (jg_wr ((5 * (τ1.1 92 36)) + g 3 r)) (jg_or (τ1.1 (92 + 21) (jg_wr ((5 * (τ1.1 92 36)) + g 3 r))) z106) → (if jg_wr bb = 0 then ((0 : Int) ≤ jg_wr ((5 * (m107.1 92 36)) + g 3 r) ∧ jg_wr ((5 * (m107.1 92 36)) + g 3 r) < (10 : Int)) ∧ ((0 : Int) ≤ jg_wr (m107.1 92 36) ∧ jg_wr (m107.1 92 36) < (2 : Int)) ∧ (if jg_wr t2 = jg_wr (jg_or (m107.1 (92 + 21) (jg_wr ((5 * (m107.1 92 36)) + g 3 r))) (jg_shl (jg_and (jg_shr (m107.1 (92 + 20) (jg_wr (m107.1 92 36))) (g 3 r)) 1) 8)) then jg_GV w 3 mm_X12_layFirsts 47 [.ref 92, .int (.ofInt 0), .int (.ofInt (r + 1)), .int (.ofInt (g 3 r)), .int (.ofInt t2)] m107 K else jg_GV w 3 mm_X12_layFirsts 47 [.ref 92, .int (.ofInt 1), .int (.ofInt (r + 1)), .int (.ofInt (g 3 r)), .int (.ofInt t2)] m107 K) else jg_GV w 3 mm_X12_layFirsts 47 [.ref 92, .int (.ofInt 1), .int (.ofInt (r + 1)), .int (.ofInt (g 3 r)), .int (.ofInt t2)] m107 K)) := by
          intro e1 τ1 s1 s2 s3 s4 s5 s6 s7 s8
          obtain ⟨hG1, hc1⟩ := hGt τ1 s1
          have hFlt := jn_F_lt (e := e1) (r := r) (k := 0) hW h6b (by omega)
          have hfk := h6b (g 3 r) (by omega) (by omega)
          refine jm_firstFrom hG1 hW hc1 hc2 s2 s3 s4 h6b (by omega) (by omega) ?_
          rw [hc1, jr_wr (show jr (5 * c + g 3 r) by omega), s4 _ (by omega) (by omega), jb_or (by omega) (by omega)]
          refine ⟨by omega, ?_⟩
          rintro _ rfl
          have hor : f (g 3 r) ||| jn_F g e1 f r 0 < 256 := Nat.or_lt_two_pow (n := 8) hfk hFlt
          have hle : f (g 3 r) ≤ f (g 3 r) ||| jn_F g e1 f r 0 := Nat.left_le_or
          have hee := jn_sub_le s5
          have hSu := jn_S_up (f := f) (v := f (g 3 r) ||| jn_F g e1 f r 0) (k := g 3 r) (by omega)
          have hF2 : jF (jW_ef c) σ (jg_sI τ1 (92 + 21) (5 * c + g 3 r) ((f (g 3 r) ||| jn_F g e1 f r 0 : Nat) : Int)) := jF_toI s1 (Or.inr ⟨rfl, by omega, by omega⟩)
          have hm20 : (jg_sI τ1 (92 + 21) (5 * c + g 3 r) ((f (g 3 r) ||| jn_F g e1 f r 0 : Nat) : Int)).1 (92 + 20) c = (e1 : Int) := (js_In (Or.inl (by omega))).trans s2
          have cont : ∀ (b2 : Int), ((b2 = 0 ∧ ∀ r', 0 ≤ r' → r' < r + 1 → r' ≠ g 0 4 → (jn_EF g e1 r' 0 → e1.testBit (g 3 r').toNat = true) ∧ jn_sub (jn_F g e1 (jn_up f (g 3 r) (f (g 3 r) ||| jn_F g e1 f r 0)) r' 0) (jn_up f (g 3 r) (f (g 3 r) ||| jn_F g e1 f r 0) (g 3 r'))) ∨ (b2 = 1 ∧ M0 < e1 + jn_S (jn_up f (g 3 r) (f (g 3 r) ||| jn_F g e1 f r 0)))) → jg_GV w 3 mm_X12_layFirsts 47 [.ref 92, .int (.ofInt b2), .int (.ofInt (r + 1)), .int (.ofInt (g 3 r)), .int (.ofInt t2)] (jg_sI τ1 (92 + 21) (5 * c + g 3 r) ((f (g 3 r) ||| jn_F g e1 f r 0 : Nat) : Int)) K := by
            intro b2 hb2
            refine ih (r + 1) b2 _ _ M0 e1 (jn_up f (g 3 r) (f (g 3 r) ||| jn_F g e1 f r 0)) _ hP (by omega) (by omega) (by omega) hF2 hm20 s3 (fun x x1 x2 => ?_) (fun x x1 x2 => ?_) (fun x x1 x2 => ?_) (fun e' f' he' hf' => ⟨(s8 e' f' he' hf').1, fun x x1 x2 => ?_⟩) (by omega) hb2
            · by_cases hx : x = g 3 r
              · rw [hx, js_Is, jn_up_s]
              · rw [js_In (Or.inr (by omega)), jn_up_n hx]; exact s4 x x1 x2
            · by_cases hx : x = g 3 r
              · rw [hx, jn_up_s]; exact hor
              · rw [jn_up_n hx]; exact h6b x x1 x2
            · rw [jn_up_n (by omega)]; exact h7 x x1 x2
            · by_cases hx : x = g 3 r
              · rw [hx, jn_up_s]
                exact jn_sub_or ((s8 e' f' he' hf').2 _ (by omega) (by omega)) (jn_sub_tr (jn_F_mono hW (s8 e' f' he' hf').1 (s8 e' f' he' hf').2 (by omega) _ 0 (by omega) rfl) (hf' r (by omega) (by omega) (by omega)))
              · rw [jn_up_n hx]; exact (s8 e' f' he' hf').2 x x1 x2
          have hc36 : (jg_sI τ1 (92 + 21) (5 * c + g 3 r) ((f (g 3 r) ||| jn_F g e1 f r 0 : Nat) : Int)).1 92 36 = c := (js_In (Or.inl (by omega))).trans hc1
          rw [hc36, jr_wr (show jr (5 * c + g 3 r) by omega), jr_wr (show jr c by omega), js_Is, hm20, jb_tstr (by omega) (by omega) (by omega), jn_was hor]
          rcases h10 with ⟨rfl, q2⟩ | ⟨rfl, q2⟩
          · rw [show jg_wr 0 = 0 from rfl]
            refine jn_ite (fun _ => ⟨by omega, by omega, ?_⟩) (fun hh => absurd rfl hh)
            have hb1 := jn_b_01 (e.testBit (g 3 r).toNat = true)
            have hb2 := jn_b_01 (e1.testBit (g 3 r).toNat = true)
            rw [jr_wr (show jr t2 by omega), jr_wr (by omega)]
            refine jn_ite (fun hq => cont 0 (Or.inl ⟨rfl, ?_⟩)) (fun hq => cont 1 (Or.inr ⟨rfl, ?_⟩))
            · have hfe : f (g 3 r) ||| jn_F g e1 f r 0 = f (g 3 r) := by omega
              have hbe : jn_b (e.testBit (g 3 r).toNat = true) = jn_b (e1.testBit (g 3 r).toNat = true) := by omega
              have h1e : e1 = e := s7 (by
                cases hx1 : e.testBit (g 3 r).toNat <;> cases hx2 : e1.testBit (g 3 r).toNat
                · rfl
                · rw [hx1, hx2, jn_b_t rfl, jn_b_f (by decide)] at hbe; cases hbe
                · rw [hx1, hx2, jn_b_t rfl, jn_b_f (by decide)] at hbe; cases hbe
                · rfl)
              subst h1e
              have hup : jn_up f (g 3 r) (f (g 3 r) ||| jn_F g e1 f r 0) = f := by
                funext x
                rw [hfe]
                unfold jn_up
                split
                · rename_i hx; rw [hx]
                · rfl
              rw [hup]
              intro r' r1 r2 r3
              by_cases hr : r' = r
              · rw [hr]
                exact ⟨s6, jn_eq_sub hfe⟩
              · exact q2 r' r1 (by omega) r3
            · rcases Nat.lt_or_eq_of_le hle with hlt | heq
              · omega
              · have : e ≠ e1 := by
                  intro hx
                  subst hx
                  omega
                omega
          · rw [show jg_wr 1 = 1 from rfl]
            exact jn_ite (fun hh => by omega) (fun _ => cont 1 (Or.inr ⟨rfl, by omega⟩))
        refine jm_isEmptyFrom hGτ hW hcτ hc2 h5 h5b (by omega) (by omega) (jn_if (fun hp => ?_) (fun hp => ?_))
        · rw [hcτ, jr_wr (show jr (5 * c + g 3 r) by omega)]
          refine ⟨by omega, ?_⟩
          have := step e τ h4 h5 h5b h6 jn_sub_rf (fun q => absurd q hp) (fun _ => rfl) h8
          rw [hcτ, jr_wr (show jr (5 * c + g 3 r) by omega)] at this
          exact this
        · rw [hcτ, jr_wr (show jr c by omega), h5]
          refine ⟨by omega, by omega, ?_⟩
          have hb3 := jb_shl (m := 1) (k := (g 3 r).toNat) (by omega) (by have : 2 ^ (g 3 r).toNat < 2 ^ 5 := Nat.pow_lt_pow_right (by omega) (by omega); omega)
          rw [show (((g 3 r).toNat : Nat) : Int) = g 3 r by omega, Nat.one_mul, show ((1 : Nat) : Int) = 1 from rfl] at hb3
          have hp5 : 2 ^ (g 3 r).toNat < 32 := by
            have : 2 ^ (g 3 r).toNat < 2 ^ 5 := Nat.pow_lt_pow_right (by omega) (by omega)
            omega
          rw [hb3, jb_or (by omega) (by omega)]
          rintro _ rfl
          have hF1 : jF (jW_ef c) σ (jg_sI τ (92 + 20) c ((e ||| 2 ^ (g 3 r).toNat : Nat) : Int)) := jF_toI h4 (Or.inl ⟨rfl, rfl⟩)
          have hc1 := (hGt _ hF1).2
          have := step (e ||| 2 ^ (g 3 r).toNat) _ hF1 js_Is (Nat.or_lt_two_pow (n := 5) h5b hp5) (fun x x1 x2 => (js_In (Or.inl (by omega))).trans (h6 x x1 x2)) jn_sub_l (fun _ => jn_or_bit) (fun hq => by
            rw [jn_or_bit] at hq
            exact jn_sub_eq (jn_sub_pow.mpr hq.symm)) (fun e' f' he' hf' => ⟨jn_sub_or (h8 e' f' he' hf').1 (jn_sub_pow.mpr (he' r (by omega) (by omega) (by omega) (jn_EF_mono (h8 e' f' he' hf').1 hp))), (h8 e' f' he' hf').2⟩)
          rw [hc1, jr_wr (show jr (5 * c + g 3 r) by omega)] at this ⊢
          exact ⟨by omega, this⟩
  have hout : ∀ (m : Nat) (u v t : Value) (e : Nat) (f : Int → Nat) (τ : jg_M), 1400 - (e + jn_S f) = m → jF (jW_ef c) σ τ → τ.1 (92 + 20) c = (e : Int) → e < 32 → (∀ x, 0 ≤ x → x < 5 → τ.1 (92 + 21) (5 * c + x) = ((f x : Nat) : Int)) → (∀ x, 0 ≤ x → x < 5 → f x < 256) → (∀ x, g 0 1 ≤ x → x < 5 → f x = 0) → (∀ e' f', jn_cE g e' → jn_cF g e' f' → jn_sub e e' ∧ ∀ x, 0 ≤ x → x < g 0 1 → jn_sub (f x) (f' x)) → jg_GV w 3 mm_X12_layFirsts 39 [.ref 92, .int (.ofInt 1), u, v, t] τ K := by
    intro m
    induction m using Nat.strongRecOn with
    | ind m ih =>
      intro u v t e f τ h1 h4 h5 h5b h6 h6b h7 h8
      have hS := jn_S_le h6b
      refine jb_X12_layFirsts_39 rfl ?_
      rw [show jg_wr 1 = 1 from rfl]
      refine jn_ite (fun hc => by omega) (fun hc => ?_)
      refine hin _ 0 0 _ _ (e + jn_S f) e f τ (fun u v b τ' e2 f2 q1 q2 q3 q4 q5 q6 q7 q8 => ?_) (by omega) (by omega) rfl h4 h5 h5b h6 h6b h7 h8 (Nat.le_refl _) (Or.inl ⟨rfl, fun r' r1 r2 => by omega⟩)
      have hS2 := jn_S_le q5
      rcases q8 with ⟨rfl, q8⟩ | ⟨rfl, q8⟩
      · refine jb_X12_layFirsts_39 rfl ?_
        rw [show jg_wr 0 = 0 from rfl]
        exact jn_ite (fun _ => hk τ' e2 f2 q1 q2 q4 ⟨⟨q8.1, q8.2, q3, q5, q6⟩, q7⟩) (fun hc => absurd rfl hc)
      · exact ih (1400 - (e2 + jn_S f2)) (by omega) _ _ _ e2 f2 τ' rfl q1 q2 q3 q4 q5 q6 q7
  have hini : ∀ (m : Nat) (x1 : Int) (u v t : Value) (τ : jg_M), 0 ≤ x1 → x1 ≤ 5 → (5 - x1).toNat = m → jF (jW_ef c) σ τ → τ.1 (92 + 20) c = 0 → (∀ x, 0 ≤ x → x < x1 → τ.1 (92 + 21) (5 * c + x) = 0) → jg_GV w 3 mm_X12_layFirsts 12 [.ref 92, .int (.ofInt x1), u, v, t] τ K := by
    intro m
    induction m with
    | zero =>
      intro x1 u v t τ h1 h2 h3 h4 h5 h6
      refine jb_X12_layFirsts_12 rfl ?_
      rw [jr_wr (by omega)]
      refine jn_ite (fun _ => hout _ u v t 0 (fun _ => 0) τ rfl h4 h5 (by omega) (fun x q1 q2 => h6 x q1 (by omega)) (fun _ _ _ => by omega) (fun _ _ _ => rfl) (fun _ _ _ _ => ⟨jn_sub_0, fun _ _ _ => jn_sub_0⟩)) (fun hc => by omega)
    | succ m ih =>
      intro x1 u v t τ h1 h2 h3 h4 h5 h6
      refine jb_X12_layFirsts_12 rfl ?_
      rw [jr_wr (by omega), (hGt τ h4).2, jr_wr (show jr (5 * c + x1) by omega)]
      refine jn_ite (fun hc => by omega) (fun _ => ⟨by omega, ?_⟩)
      rintro _ rfl
      refine ih (x1 + 1) u v t _ (by omega) (by omega) (by omega) (jF_toI h4 (Or.inr ⟨rfl, by omega, by omega⟩)) ((js_In (Or.inl (by omega))).trans h5) (fun x q1 q2 => ?_)
      by_cases hx : x = x1
      · rw [hx, js_Is]
      · rw [js_In (Or.inr (by omega))]; exact h6 x q1 (by omega)
  rintro _ rfl
  exact hini _ 0 _ _ _ _ (by omega) (by omega) rfl (jF_I (Or.inl ⟨rfl, rfl⟩)) js_Is (fun x h1 h2 => by omega)
end JLG
