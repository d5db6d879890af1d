/-! FIRST in the class; EMPTY and FIRST in the reference -/
def jn_S (f : Int → Nat) : Nat := f 0 + f 1 + f 2 + f 3 + f 4
def jn_up (f : Int → Nat) (k : Int) (v : Nat) : Int → Nat := fun x => if x = k then v else f x
section JLG
variable {w : Nat} {σ : jg_M} {G : Nat} {g : gM} {x r k b c : Int} {e e' v : Nat} {f f' : Int → Nat} {K : jg_M → Prop} {KI : Int → jg_M → Prop}
theorem jn_S_up (h : 0 ≤ k ∧ k < 5) : jn_S (jn_up f k v) + f k = jn_S f + v := by
  have : k = 0 ∨ k = 1 ∨ k = 2 ∨ k = 3 ∨ k = 4 := by omega
  unfold jn_S jn_up
  rcases this with rfl | rfl | rfl | rfl | rfl <;> simp <;> omega
theorem jn_S_le (h : ∀ x, 0 ≤ x → x < 5 → f x < 256) : jn_S f ≤ 1275 := by
  have h0 := h 0 (by omega) (by omega)
  have h1 := h 1 (by omega) (by omega)
  have h2 := h 2 (by omega) (by omega)
  have h3 := h 3 (by omega) (by omega)
  have h4 := h 4 (by omega) (by omega)
  unfold jn_S
  omega
theorem jn_up_s : jn_up f k v k = v := if_pos rfl
theorem jn_up_n (h : x ≠ k) : jn_up f k v x = f x := if_neg h
theorem jc_X0_settleFirsts (h0 : jg_sh G = (0, 0)) (hG : jn_Gr σ G g) (hW : jn_GW g) (he : σ.1 G 11 = (e : Int)) (he2 : e < 32) (hk : ∀ τ f, jF (fun a _ => a = G + 7) σ τ → (∀ x, 0 ≤ x → x < 5 → τ.1 (G + 7) x = ((f x : Nat) : Int)) → (∀ x, 0 ≤ x → x < 5 → f x < 256) → (∀ x, g 0 1 ≤ x → x < 5 → f x = 0) → jn_cF g e f → (∀ f', jn_cF g e f' → ∀ x, 0 ≤ x → x < g 0 1 → jn_sub (f x) (f' x)) → K τ) : jg_CV w 3 mm_X0_settleFirsts [.ref G] σ K := by
  refine jb_X0_settleFirsts_0 h0 (jc_fill (jg_sX0_12 h0) (by omega) (fun τ0 hF0 hz => ?_))
  have hw := hW.1
  have hGt : ∀ τ, jF (fun a _ => a = G + 7) σ τ → jn_Gr τ G g ∧ τ.1 G 11 = (e : Int) := fun τ h => ⟨jn_Gr_fr hG h (by omega) (by omega), (h.1 _ _ (by omega)).trans he⟩
  have hin : ∀ (m : Nat) (r b n : Int) (S0 : Nat) (f : Int → Nat) (τ : jg_M), (∀ (b : Int) (τ : jg_M) (f : Int → Nat), jF (fun a _ => a = G + 7) σ τ → (∀ x, 0 ≤ x → x < 5 → τ.1 (G + 7) x = ((f x : Nat) : Int)) → (∀ x, 0 ≤ x → x < 5 → f x < 256) → (∀ x, g 0 1 ≤ x → x < 5 → f x = 0) → (∀ f', jn_cF g e f' → ∀ x, 0 ≤ x → x < g 0 1 → jn_sub (f x) (f' x)) → ((b = 0 ∧ jn_cF g e f) ∨ (b = 1 ∧ S0 < jn_S f)) → jg_GV w 3 mm_X0_settleFirsts 12 [.ref G, .int (.ofInt b), .int (.ofInt (n + 1)), .int (.ofInt (g 0 2))] τ K) →
      0 ≤ r → r ≤ g 0 2 → (g 0 2 - r).toNat = m → jF (fun a _ => a = G + 7) σ τ → (∀ x, 0 ≤ x → x < 5 → τ.1 (G + 7) x = ((f x : Nat) : Int)) → (∀ x, 0 ≤ x → x < 5 → f x < 256) → (∀ x, g 0 1 ≤ x → x < 5 → f x = 0) → (∀ f', jn_cF g e f' → ∀ x, 0 ≤ x → x < g 0 1 → jn_sub (f x) (f' x)) → S0 ≤ jn_S f → ((b = 0 ∧ ∀ r', 0 ≤ r' → r' < r → r' ≠ g 0 4 → jn_sub (jn_F g e f r' 0) (f (g 3 r'))) ∨ (b = 1 ∧ S0 < jn_S f)) → jg_GV w 3 mm_X0_settleFirsts 26 [.ref G, .int (.ofInt b), .int (.ofInt n), .int (.ofInt r)] τ K := by
    intro m
    induction m with
    | zero =>
      intro r b n S0 f τ hP h1 h2 h3 h4 h5 h6 h7 h8 h9 h10
      refine jb_X0_settleFirsts_26 h0 ?_
      have hr : r = g 0 2 := by omega
      rw [(hGt τ h4).1.1.2.2.1, jr_wr (by omega), jr_wr (by omega)]
      refine jn_ite (fun hc => ?_) (fun hc => by omega)
      rw [hr]
      refine hP b τ f h4 h5 h6 h7 h8 ?_
      rcases h10 with ⟨q1, q2⟩ | q
      · exact Or.inl ⟨q1, fun r' r1 r2 r3 => q2 r' r1 (by omega) r3⟩
      · exact Or.inr q
    | succ m ih =>
      intro r b n S0 f τ hP h1 h2 h3 h4 h5 h6 h7 h8 h9 h10
      refine jb_X0_settleFirsts_26 h0 ?_
      obtain ⟨hGτ, heτ⟩ := hGt τ h4
      rw [hGτ.1.2.2.1, jr_wr (by omega), jr_wr (by omega)]
      have hrk := (hW.2.1 r (by omega) (by omega)).1
      have next : (r = g 0 4 ∨ jn_sub (jn_F g e f r 0) (f (g 3 r))) → jg_GV w 3 mm_X0_settleFirsts 26 [.ref G, .int (.ofInt b), .int (.ofInt n), .int (.ofInt (r + 1))] τ K := by
        intro hq
        refine ih (r + 1) b n S0 f τ hP (by omega) (by omega) (by omega) h4 h5 h6 h7 h8 h9 ?_
        rcases h10 with ⟨q1, q2⟩ | q
        · refine Or.inl ⟨q1, fun r' r1 r2 r3 => ?_⟩
          by_cases hr : r' = r
          · rw [hr] at r3 ⊢; exact hq.resolve_left r3
          · exact q2 r' r1 (by omega) r3
        · exact Or.inr q
      refine jn_ite (fun hc => by omega) (fun hc => jc_X0_uses h0 hGτ hW (by omega) (jn_if (fun hp => next (Or.inl (by omega))) (fun hp => jc_X0_kindOf h0 hGτ hW (by omega) ?_)))
      rw [if_pos (by omega)]
      have hFlt := jn_F_lt (e := e) (r := r) (k := 0) hW h6 (by omega)
      refine jc_X0_firstFrom h0 hGτ hW heτ he2 h5 h6 (by omega) (by omega) (by omega) ?_
      refine jc_X0_widen h0 (jg_sX0_12 h0) (by omega) hGτ hW (by omega) (fun _ _ => h5 (g 3 r) (by omega) (by omega)) (fun _ _ => h6 _ (by omega) (by omega)) hFlt (fun hq => ?_) (fun _ hq => ?_)
      · rw [show jg_wr 0 = 0 from rfl]
        exact jn_ite (fun _ => next (Or.inr (hq.resolve_left (by omega)))) (fun hc => absurd rfl hc)
      · rw [show jg_wr 1 = 1 from rfl]
        refine jn_ite (fun hc => by omega) (fun _ => ?_)
        have hgt := jn_or_gt hq
        have hSu := jn_S_up (f := f) (v := f (g 3 r) ||| jn_F g e f r 0) (k := g 3 r) (by omega)
        refine ih (r + 1) 1 n S0 (jn_up f (g 3 r) (f (g 3 r) ||| jn_F g e f r 0)) _ hP (by omega) (by omega) (by omega) (jF_toI h4 rfl) (fun x x1 x2 => ?_) (fun x x1 x2 => ?_) (fun x x1 x2 => ?_) (fun f' hf' x x1 x2 => ?_) (by omega) (Or.inr ⟨rfl, by omega⟩)
        · by_cases hx : x = g 3 r
          · rw [hx, js_Is, jn_up_s]
          · rw [js_In (Or.inr hx), jn_up_n hx]; exact h5 x x1 x2
        · by_cases hx : x = g 3 r
          · rw [hx, jn_up_s]; exact Nat.or_lt_two_pow (n := 8) (h6 _ (by omega) (by omega)) hFlt
          · rw [jn_up_n hx]; exact h6 x x1 x2
        · rw [jn_up_n (by omega)]; exact h7 x x1 x2
        · by_cases hx : x = g 3 r
          · rw [hx, jn_up_s]
            exact jn_sub_or (h8 f' hf' _ (by omega) (by omega)) (jn_sub_tr (jn_F_mono hW jn_sub_rf (h8 f' hf') (by omega) _ 0 (by omega) rfl) (hf' r (by omega) (by omega) (by omega)))
          · rw [jn_up_n hx]; exact h8 f' hf' x x1 x2
  have hout : ∀ (m : Nat) (n : Int) (u : Value) (f : Int → Nat) (τ : jg_M), 1275 - jn_S f = m → 0 ≤ n → n ≤ jn_S f → jF (fun a _ => a = G + 7) σ τ → (∀ x, 0 ≤ x → x < 5 → τ.1 (G + 7) x = ((f x : Nat) : Int)) → (∀ x, 0 ≤ x → x < 5 → f x < 256) → (∀ x, g 0 1 ≤ x → x < 5 → f x = 0) → (∀ f', jn_cF g e f' → ∀ x, 0 ≤ x → x < g 0 1 → jn_sub (f x) (f' x)) → jg_GV w 3 mm_X0_settleFirsts 12 [.ref G, .int (.ofInt 1), .int (.ofInt n), u] τ K := by
    intro m
    induction m using Nat.strongRecOn with
    | ind m ih =>
      intro n u f τ h1 h2 h3 h4 h5 h6 h7 h8
      have hS := jn_S_le h6
      refine jb_X0_settleFirsts_12 h0 ?_
      rw [show jg_wr 1 = 1 from rfl, jr_wr (by omega)]
      refine jn_ite (fun hc => by omega) (fun hc => jn_ite (fun hc2 => by omega) (fun hc2 => ?_))
      refine hin _ 0 0 n (jn_S f) f τ (fun b τ' f2 q1 q2 q3 q4 q5 q6 => ?_) (by omega) (by omega) rfl h4 h5 h6 h7 h8 (Nat.le_refl _) (Or.inl ⟨rfl, fun r' r1 r2 => by omega⟩)
      have hS2 := jn_S_le q3
      rcases q6 with ⟨rfl, q6⟩ | ⟨rfl, q6⟩
      · refine jb_X0_settleFirsts_12 h0 ?_
        rw [show jg_wr 0 = 0 from rfl]
        exact jn_ite (fun _ => hk τ' f2 q1 q2 q3 q4 q6 q5) (fun hc => absurd rfl hc)
      · exact ih (1275 - jn_S f2) (by omega) (n + 1) _ f2 τ' rfl (by omega) (by omega) q1 q2 q3 q4 q5
  exact hout _ 0 _ (fun _ => 0) τ0 rfl (by omega) (by omega) hF0 (fun x x1 x2 => hz x x1 (by omega)) (fun _ _ _ => by omega) (fun _ _ _ => rfl) (fun f' _ x _ _ => jn_sub_0)
/-- the places of bank c for EMPTY and FIRST -/
def jW_ef (c : Int) (a : Nat) (i : Int) : Prop := (a = 92 + 20 ∧ i = c) ∨ (a = 92 + 21 ∧ 5 * c ≤ i ∧ i < 5 * c + 5)
end JLG
