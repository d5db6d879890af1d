/-! FOLLOW, on both sides -/
noncomputable def jn_T (g : gM) (e : Nat) (f w : Int → Nat) (r d : Int) : Nat := jn_F g e f r (d + 1) ||| @ite Nat (jn_EF g e r (d + 1)) (Classical.propDecidable _) (w (g 3 r)) 0
def jn_cW1 (g : gM) (e : Nat) (f w : Int → Nat) (r d : Int) : Prop := 10 ≤ jn_sym g r d → jn_sub (jn_T g e f w r d) (w (jn_sym g r d - 10))
def jn_cW (g : gM) (e : Nat) (f w : Int → Nat) : Prop := (0 < g 0 1 → jn_sub (2 ^ (g 0 0).toNat) (w (g 0 3))) ∧ ∀ r, 0 ≤ r → r < g 0 2 → r ≠ g 0 4 → ∀ d, 0 ≤ d → d < jn_len g r → jn_cW1 g e f w r d
def jn_lW (g : gM) (e : Nat) (f w : Int → Nat) : Prop := jn_cW g e f w ∧ (∀ x, 0 ≤ x → x < 5 → w x < 256) ∧ (∀ x, g 0 1 ≤ x → x < 5 → w x = 0) ∧ ∀ w', jn_cW g e f w' → ∀ x, 0 ≤ x → x < g 0 1 → jn_sub (w x) (w' x)
def jn_mW (g : gM) (e : Nat) (f w : Int → Nat) : Prop := (∀ x, 0 ≤ x → x < 5 → w x < 256) ∧ (∀ x, g 0 1 ≤ x → x < 5 → w x = 0) ∧ ∀ w', jn_cW g e f w' → ∀ x, 0 ≤ x → x < g 0 1 → jn_sub (w x) (w' x)
section JFO
variable {w : Nat} {σ : jg_M} {G : Nat} {g : gM} {x r k b c d : Int} {e e' v : Nat} {f f' q q' : Int → Nat} {K : jg_M → Prop} {KI : Int → jg_M → Prop}
theorem jn_up_sub {a : Nat} : jn_sub (q x) (jn_up q k (q k ||| a) x) := by
  by_cases hx : x = k
  · rw [hx, jn_up_s]; exact jn_sub_l
  · rw [jn_up_n hx]; exact jn_sub_rf
theorem jn_T_mono (h : jn_sub (q (g 3 r)) (q' (g 3 r))) : jn_sub (jn_T g e f q r d) (jn_T g e f q' r d) := by
  unfold jn_T
  refine jn_sub_or jn_sub_l (jn_sub_tr ?_ jn_sub_r)
  by_cases hE : jn_EF g e r (d + 1)
  · rw [if_pos hE, if_pos hE]; exact h
  · rw [if_neg hE, if_neg hE]; exact jn_sub_rf
theorem jn_lW_uniq (h1 : jn_lW g e f q) (h2 : jn_lW g e f q') : ∀ x, 0 ≤ x → x < 5 → q x = q' x := by
  intro x h3 h4
  by_cases h5 : x < g 0 1
  · exact jn_sub_anti (h1.2.2.2 q' h2.1 x h3 h5) (h2.2.2.2 q h1.1 x h3 h5)
  · rw [h1.2.2.1 x (by omega) h4, h2.2.2.1 x (by omega) h4]
theorem jn_T_lt (hW : jn_GW g) (hf : ∀ x, 0 ≤ x → x < 5 → f x < 256) (hq : ∀ x, 0 ≤ x → x < 5 → q x < 256) (hr : 0 ≤ r ∧ r < g 0 2) (hd : 0 ≤ d) : jn_T g e f q r d < 256 := by
  have hw := hW.1
  have hrk := (hW.2.1 r hr.1 hr.2).1
  unfold jn_T
  refine Nat.or_lt_two_pow (n := 8) (jn_F_lt hW hf (by omega)) ?_
  split
  · exact hq _ (by omega) (by omega)
  · omega
/-- a step of FOLLOW keeps what it must -/
theorem jn_mW_up (hW : jn_GW g) (hf : ∀ x, 0 ≤ x → x < 5 → f x < 256) (hm : jn_mW g e f q) (hr : 0 ≤ r ∧ r < g 0 2 ∧ r ≠ g 0 4) (hd : 0 ≤ d ∧ d < jn_len g r) (hs : 10 ≤ jn_sym g r d) : jn_mW g e f (jn_up q (jn_sym g r d - 10) (q (jn_sym g r d - 10) ||| jn_T g e f q r d)) := by
  have hw := hW.1
  have hrk := (hW.2.1 r hr.1 hr.2.1).1
  have hsy := jn_sym_rng (r := r) (k := d) hW hd
  obtain ⟨m1, m2, m3⟩ := hm
  refine ⟨fun x x1 x2 => ?_, fun x x1 x2 => ?_, fun w' hw' x x1 x2 => ?_⟩
  · by_cases hx : x = jn_sym g r d - 10
    · rw [hx, jn_up_s]; exact Nat.or_lt_two_pow (n := 8) (m1 _ (by omega) (by omega)) (jn_T_lt hW hf m1 ⟨hr.1, hr.2.1⟩ hd.1)
    · rw [jn_up_n hx]; exact m1 x x1 x2
  · rw [jn_up_n (by omega)]; exact m2 x x1 x2
  · by_cases hx : x = jn_sym g r d - 10
    · rw [hx, jn_up_s]
      exact jn_sub_or (m3 w' hw' _ (by omega) (by omega)) (jn_sub_tr (jn_T_mono (m3 w' hw' _ (by omega) (by omega))) (hw'.2 r hr.1 hr.2.1 hr.2.2 d hd.1 hd.2 hs))
    · rw [jn_up_n hx]; exact m3 w' hw' x x1 x2
theorem jc_X0_widenFollowsBy (h0 : jg_sh G = (0, 0)) (hG : jn_Gr σ G g) (hW : jn_GW g) (he : σ.1 G 11 = (e : Int)) (he2 : e < 32) (hf : ∀ k, 0 ≤ k → k < 5 → σ.1 (G + 7) k = (f k : Int)) (hf2 : ∀ k, 0 ≤ k → k < 5 → f k < 256) (hq : ∀ k, 0 ≤ k → k < 5 → σ.1 (G + 8) k = (q k : Int)) (hm : jn_mW g e f q) (hr : 0 ≤ r ∧ r < g 0 2 ∧ r ≠ g 0 4)
    (k0 : (∀ d, 0 ≤ d → d < jn_len g r → jn_cW1 g e f q r d) → KI 0 σ) (k1 : ∀ τ q', jF (fun a _ => a = G + 8) σ τ → (∀ k, 0 ≤ k → k < 5 → τ.1 (G + 8) k = ((q' k : Nat) : Int)) → jn_mW g e f q' → (∀ x, 0 ≤ x → x < 5 → jn_sub (q x) (q' x)) → jn_S q < jn_S q' → KI 1 τ) : jg_CI w 3 mm_X0_widenFollowsBy [.ref G, .int (.ofInt r)] σ KI := by
  refine jb_X0_widenFollowsBy_0 h0 ?_
  have hw := hW.1
  have hl := jn_len_rng (r := r) hW
  have hrk := (hW.2.1 r hr.1 hr.2.1).1
  have hGt : ∀ τ, jF (fun a _ => a = G + 8) σ τ → jn_Gr τ G g ∧ τ.1 G 11 = (e : Int) ∧ ∀ k, 0 ≤ k → k < 5 → τ.1 (G + 7) k = (f k : Int) := fun τ h => ⟨jn_Gr_fr hG h (by omega) (by omega), (h.1 _ _ (by omega)).trans he, fun k h1 h2 => (h.1 _ _ (by omega)).trans (hf k h1 h2)⟩
  -- one place of the rule
  have body : ∀ (z d : Int) (u : Value) (τ : jg_M) (q : Int → Nat), jF (fun a _ => a = G + 8) σ τ → (∀ k, 0 ≤ k → k < 5 → τ.1 (G + 8) k = ((q k : Nat) : Int)) → jn_mW g e f q → 0 ≤ d → d < jn_len g r → (∀ u, jn_cW1 g e f q r d → jg_GI w 3 mm_X0_widenFollowsBy 4 [.ref G, .int (.ofInt r), .int (.ofInt z), .int (.ofInt (d + 1)), u] τ KI) → (∀ u τ' q', jF (fun a _ => a = G + 8) σ τ' → (∀ k, 0 ≤ k → k < 5 → τ'.1 (G + 8) k = ((q' k : Nat) : Int)) → jn_mW g e f q' → (∀ x, 0 ≤ x → x < 5 → jn_sub (q x) (q' x)) → jn_S q < jn_S q' → jg_GI w 3 mm_X0_widenFollowsBy 4 [.ref G, .int (.ofInt r), .int (.ofInt 1), .int (.ofInt (d + 1)), u] τ' KI) → jg_GI w 3 mm_X0_widenFollowsBy 4 [.ref G, .int (.ofInt r), .int (.ofInt z), .int (.ofInt d), u] τ KI := by
    intro z d u τ q hF hq hm hd1 hd2 kA kB
    obtain ⟨hGτ, heτ, hfτ⟩ := hGt τ hF
    have hsy := jn_sym_rng (r := r) (k := d) hW ⟨hd1, hd2⟩
    have hsj := jn_sym_jr (r := r) (k := d) hW
    have hTlt := jn_T_lt (e := e) (r := r) (d := d) hW hf2 hm.1 ⟨hr.1, hr.2.1⟩ hd1
    refine jb_X0_widenFollowsBy_4 h0 (jc_X0_lengthOf h0 hGτ hW (by omega) ?_)
    rw [jr_wr (by omega), jr_wr (by omega)]
    refine jn_ite (fun hc => by omega) (fun _ => jc_X0_firstFrom h0 hGτ hW heτ he2 hfτ hf2 (by omega) (by omega) (by omega) (jc_X0_isEmptyFrom h0 hGτ hW heτ he2 (by omega) (by omega) ?_))
    have fin : ∀ (t : Nat), t = jn_T g e f q r d → ∀ (F : Int → jg_M → Prop), (F = fun z110 m109 => (if jg_wr z110 = 0 then jg_GI w 3 mm_X0_widenFollowsBy 4 [.ref G, .int (.ofInt r), .int (.ofInt z), .int (.ofInt (d + 1)), .int (.ofInt (t : Int))] m109 KI else jg_GI w 3 mm_X0_widenFollowsBy 4 [.ref G, .int (.ofInt r), .int (.ofInt 1), .int (.ofInt (d + 1)), .int (.ofInt (t : Int))] m109 KI)) → jg_CI w 1 mm_X0_widen [.ref G, .ref (G + 8), .int (.ofInt (jn_sym g r d - 10)), .int (.ofInt (t : Int))] τ F := by
      rintro t rfl F rfl
      refine jc_X0_widen (s := q (jn_sym g r d - 10)) h0 (jg_sX0_13 h0) (by omega) hGτ hW (by omega) (fun h1 h2 => hq _ h1 (by omega)) (fun h1 h2 => hm.1 _ h1 (by omega)) hTlt (fun hh => ?_) (fun hh1 hh2 => ?_)
      · rw [show jg_wr 0 = 0 from rfl]
        refine jn_ite (fun _ => kA _ (fun h10 => ?_)) (fun hh => absurd rfl hh)
        exact hh.resolve_left (by omega)
      · rw [show jg_wr 1 = 1 from rfl]
        refine jn_ite (fun hh => by omega) (fun _ => ?_)
        have hgt := jn_or_gt hh2
        have hSu := jn_S_up (f := q) (v := q (jn_sym g r d - 10) ||| jn_T g e f q r d) (k := jn_sym g r d - 10) (by omega)
        refine kB _ _ (jn_up q (jn_sym g r d - 10) (q (jn_sym g r d - 10) ||| jn_T g e f q r d)) (jF_toI hF rfl) (fun x x1 x2 => ?_) (jn_mW_up hW hf2 hm hr ⟨hd1, hd2⟩ (by omega)) (fun x x1 x2 => jn_up_sub) (by omega)
        by_cases hx : x = jn_sym g r d - 10
        · rw [hx, js_Is, jn_up_s]
        · rw [js_In (Or.inr hx), jn_up_n hx]; exact hq x x1 x2
    refine jn_if (fun hp => jc_X0_symbolAt h0 hGτ hW (by omega) (by omega) ?_) (fun hp => jc_X0_kindOf h0 hGτ hW (by omega) ?_)
    · exact fin _ (by unfold jn_T; rw [if_neg hp, Nat.or_zero]) _ rfl
    · rw [if_pos ⟨hr.1, hr.2.1⟩]
      refine jc_X0_followOf h0 hGτ hW (by omega) ?_
      rw [if_pos (by omega), hq _ (by omega) (by omega), jb_or (by have := jn_F_lt (e := e) (r := r) (k := d + 1) hW hf2 (by omega); omega) (by have := hm.1 (g 3 r) (by omega) (by omega); omega)]
      rintro _ rfl
      refine jc_X0_symbolAt h0 hGτ hW (by omega) (by omega) ?_
      exact fin _ (by unfold jn_T; rw [if_pos hp]) _ rfl
  have hend : ∀ (z d : Int) (u : Value) (τ : jg_M), jF (fun a _ => a = G + 8) σ τ → jn_len g r ≤ d → d < 10 → (jg_wr z = 0 ∨ jg_wr z = 1) ∧ KI z τ → jg_GI w 3 mm_X0_widenFollowsBy 4 [.ref G, .int (.ofInt r), .int (.ofInt z), .int (.ofInt d), u] τ KI := by
    intro z d u τ hF hd hd2 hz
    refine jb_X0_widenFollowsBy_4 h0 (jc_X0_lengthOf h0 (hGt τ hF).1 hW (by omega) ?_)
    rw [jr_wr (by omega), jr_wr (by omega)]
    exact jn_ite (fun _ => hz) (fun hc => by omega)
  have hB : ∀ (m : Nat) (d : Int) (u : Value) (τ : jg_M) (q2 : Int → Nat), (jn_len g r - d).toNat = m → 0 ≤ d → d ≤ jn_len g r → jF (fun a _ => a = G + 8) σ τ → (∀ k, 0 ≤ k → k < 5 → τ.1 (G + 8) k = ((q2 k : Nat) : Int)) → jn_mW g e f q2 → (∀ x, 0 ≤ x → x < 5 → jn_sub (q x) (q2 x)) → jn_S q < jn_S q2 → jg_GI w 3 mm_X0_widenFollowsBy 4 [.ref G, .int (.ofInt r), .int (.ofInt 1), .int (.ofInt d), u] τ KI := by
    intro m
    induction m with
    | zero =>
      intro d u τ q2 h1 h2 h3 h4 h5 h6 hs h7
      exact hend 1 d u τ h4 (by omega) (by omega) ⟨Or.inr rfl, k1 τ q2 h4 h5 h6 hs h7⟩
    | succ m ih =>
      intro d u τ q2 h1 h2 h3 h4 h5 h6 hs h7
      exact body 1 d u τ q2 h4 h5 h6 h2 (by omega) (fun u _ => ih (d + 1) u τ q2 (by omega) (by omega) (by omega) h4 h5 h6 hs h7) (fun u τ' q' a1 a2 a3 as a4 => ih (d + 1) u τ' q' (by omega) (by omega) (by omega) a1 a2 a3 (fun x x1 x2 => jn_sub_tr (hs x x1 x2) (as x x1 x2)) (by omega))
  have hA : ∀ (m : Nat) (d : Int) (u : Value), (jn_len g r - d).toNat = m → 0 ≤ d → d ≤ jn_len g r → (∀ d', 0 ≤ d' → d' < d → jn_cW1 g e f q r d') → jg_GI w 3 mm_X0_widenFollowsBy 4 [.ref G, .int (.ofInt r), .int (.ofInt 0), .int (.ofInt d), u] σ KI := by
    intro m
    induction m with
    | zero =>
      intro d u h1 h2 h3 h4
      exact hend 0 d u σ jF_rf (by omega) (by omega) ⟨Or.inl rfl, k0 (fun d' a1 a2 => h4 d' a1 (by omega))⟩
    | succ m ih =>
      intro d u h1 h2 h3 h4
      refine body 0 d u σ q jF_rf hq hm h2 (by omega) (fun u hh => ih (d + 1) u (by omega) (by omega) (by omega) (fun d' a1 a2 => ?_)) (fun u τ' q' a1 a2 a3 as a4 => hB _ (d + 1) u τ' q' rfl (by omega) (by omega) a1 a2 a3 as a4)
      by_cases hx : d' = d
      · rw [hx]; exact hh
      · exact h4 d' a1 (by omega)
  exact hA _ 0 _ rfl (by omega) (by omega) (fun d' a1 a2 => by omega)
end JFO
