/-! LOOK of a grammar that is given as data -/
abbrev zz_ll : Type := List (List Nat)
def zz_g2 (LL : zz_ll) (s j : Nat) : Nat := (LL.getD s []).getD j 0
def zz_L (LL : zz_ll) : Int → Int → Nat := fun s i => if s < 0 ∨ i < 0 then 0 else zz_g2 LL s.toNat i.toNat
def zz_o2 (LL : zz_ll) (s j m : Nat) : zz_ll := LL.set s (zz_or (LL.getD s []) j m)
/-- below -/
def zz_b2 (LL : zz_ll) (X : Int → Int → Nat) : Prop := ∀ s j : Nat, jn_sub (zz_g2 LL s j) (X (s : Int) (j : Int))
theorem zz_o2_get {LL : zz_ll} {s j m a b : Nat} : zz_g2 (zz_o2 LL s j m) a b = zz_g2 LL a b ∨ (a = s ∧ b = j ∧ zz_g2 (zz_o2 LL s j m) a b = zz_g2 LL s j ||| m) := by
  have h0 : zz_g2 (zz_o2 LL s j m) a b = ((LL.set s (zz_or (LL.getD s []) j m)).getD a []).getD b 0 := rfl
  rw [List.getD_eq_getElem?_getD (l := LL.set s _), List.getElem?_set] at h0
  by_cases e : s = a
  · subst e
    rw [if_pos rfl] at h0
    by_cases c : s < LL.length
    · rw [if_pos c] at h0
      have h0 : zz_g2 (zz_o2 LL s j m) s b = (zz_or (LL.getD s []) j m).getD b 0 := h0
      rw [zz_or_get] at h0
      by_cases c2 : b = j ∧ j < (LL.getD s []).length
      · rw [if_pos c2] at h0
        exact Or.inr ⟨rfl, c2.1, h0⟩
      · rw [if_neg c2] at h0
        exact Or.inl h0
    · rw [if_neg c] at h0
      refine Or.inl (h0.trans ?_)
      unfold zz_g2
      rw [List.getD_eq_getElem?_getD (l := LL), List.getElem?_eq_none (by omega)]
  · rw [if_neg e] at h0
    refine Or.inl (h0.trans ?_)
    unfold zz_g2
    rw [List.getD_eq_getElem?_getD (l := LL)]
theorem zz_b2_o {LL : zz_ll} {X : Int → Int → Nat} {s j m : Nat} (h : zz_b2 LL X) (hm : jn_sub m (X (s : Int) (j : Int))) : zz_b2 (zz_o2 LL s j m) X := fun a b => by
  rcases zz_o2_get (LL := LL) (s := s) (j := j) (m := m) (a := a) (b := b) with q | ⟨rfl, rfl, q⟩
  · rw [q]; exact h a b
  · rw [q]; exact jn_sub_or (h _ _) hm
def zz_LB (d : zz_d) (e : Nat) (fl : List Nat) (LL : zz_ll) (s i : Nat) : Nat := zz_F d e fl (i / 5) (i % 5 + 1) ||| (if zz_EF d e (i / 5) (i % 5 + 1) = true then zz_g2 LL s i else 0)
def zz_Lj (s mask m : Nat) : Nat → zz_ll → zz_ll
  | 0, LL => LL
  | j + 1, LL => zz_Lj s mask m j (if mask.testBit j = true then zz_o2 LL s j m else LL)
def zz_Lc (d : zz_d) (ml : List (Nat × Nat × Nat)) (s c i : Nat) : Bool := c.testBit i && (zz_it d i && (Nat.ble (zz_sym d (i / 5) (i % 5)) 14 && decide (0 ≤ zz_lm ml (s : Int) (zz_sym d (i / 5) (i % 5) : Nat))))
def zz_Lp (ml : List (Nat × Nat × Nat)) (d : zz_d) (LL : zz_ll) (s i : Nat) : zz_ll := zz_o2 LL (zz_lm ml (s : Int) (zz_sym d (i / 5) (i % 5) : Nat)).toNat (i + 1) (zz_g2 LL s i)
def zz_Li (d : zz_d) (e : Nat) (fl ol : List Nat) (ml : List (Nat × Nat × Nat)) (s c : Nat) : Nat → zz_ll → zz_ll
  | 0, LL => LL
  | i + 1, LL => zz_Li d e fl ol ml s c i (if zz_Lc d ml s c i = true then
      (if 10 ≤ zz_sym d (i / 5) (i % 5) then zz_Lj s (ol.getD (zz_sym d (i / 5) (i % 5) - 10) 0) (zz_LB d e fl LL s i) 62 (zz_Lp ml d LL s i) else zz_Lp ml d LL s i)
      else LL)
def zz_Ls (d : zz_d) (e : Nat) (fl al ol : List Nat) (q : zz_q) : Nat → zz_ll → zz_ll
  | 0, LL => LL
  | s + 1, LL => zz_Ls d e fl al ol q s (zz_Li d e fl ol q.2.2.1 s (zz_clo al ol (zz_la q.2.1 (zz_k0 d) (s : Int))) 62 LL)
def zz_it2 (F : zz_ll → zz_ll) : Nat → zz_ll → zz_ll
  | 0, x => x
  | n + 1, x => zz_it2 F n (F x)
theorem zz_it2E {F : zz_ll → zz_ll} {P : zz_ll → Prop} (h : ∀ x, P x → P (F x)) : ∀ (n : Nat) (x : zz_ll), P x → P (zz_it2 F n x)
  | 0, _, q => q
  | n + 1, x, q => zz_it2E h n _ (h x q)
def zz_LL (d : zz_d) (e : Nat) (fl al ol : List Nat) (q : zz_q) : zz_ll := zz_it2 (zz_Ls d e fl al ol q q.1) 8 (zz_o2 (List.replicate q.1 (List.replicate 62 0)) 0 (5 * zz_n d) (2 ^ d.1))
def zz_cLi (d : zz_d) (e : Nat) (fl ol : List Nat) (ml : List (Nat × Nat × Nat)) (LL : zz_ll) (s i sy : Nat) : Bool :=
  Nat.ble sy 14 && (decide (0 ≤ zz_lm ml (s : Int) (sy : Nat)) && (zz_sub (zz_g2 LL s i) (zz_g2 LL (zz_lm ml (s : Int) (sy : Nat)).toNat (i + 1)) &&
    (Nat.ble sy 9 || (List.range 62).all (fun j => !(ol.getD (sy - 10) 0).testBit j || zz_sub (zz_LB d e fl LL s i) (zz_g2 LL s j)))))
def zz_cLs (d : zz_d) (e : Nat) (fl ol : List Nat) (ml : List (Nat × Nat × Nat)) (LL : zz_ll) (s c : Nat) : Bool :=
  (List.range 62).all (fun i => !(c.testBit i && zz_it d i) || zz_cLi d e fl ol ml LL s i (zz_sym d (i / 5) (i % 5)))
def zz_cL (d : zz_d) (e : Nat) (fl al ol : List Nat) (q : zz_q) (LL : zz_ll) : Bool :=
  zz_sub (2 ^ d.1) (zz_g2 LL 0 (5 * zz_n d)) && (List.range q.1).all (fun s => zz_cLs d e fl ol q.2.2.1 LL s (zz_clo al ol (zz_la q.2.1 (zz_k0 d) (s : Int))))
def zz_25 (LL : zz_ll) : Bool := LL.all (fun r => r.all (fun x => Nat.ble x 255))
section ZZC
variable {g : gM} {d : zz_d} {e : Nat} {fl wl al ol : List Nat} {q : zz_q} {LL : zz_ll} {X : Int → Int → Nat}
theorem zz_25E (h : zz_25 LL = true) (s i : Nat) : zz_g2 LL s i < 256 := by
  unfold zz_g2
  rw [List.getD_eq_getElem?_getD, List.getD_eq_getElem?_getD]
  cases h1 : LL[s]? with
  | none => exact (by decide : (0 : Nat) < 256)
  | some r =>
    have h2 := List.all_eq_true.mp h r (List.mem_of_getElem? h1)
    show (r[i]?).getD 0 < 256
    cases h3 : r[i]? with
    | none => exact (by decide : (0 : Nat) < 256)
    | some x =>
      have := Nat.le_of_ble_eq_true (List.all_eq_true.mp h2 x (List.mem_of_getElem? h3))
      show x < 256
      omega
theorem zz_LLt (h : zz_25 LL = true) (s i : Int) : zz_L LL s i < 256 := by
  unfold zz_L
  split
  · decide
  · exact zz_25E h _ _
theorem zz_Lnn {s i : Nat} : zz_L LL (s : Int) (i : Int) = zz_g2 LL s i := by
  unfold zz_L
  rw [if_neg (by omega), Int.toNat_natCast, Int.toNat_natCast]
theorem zz_LBE (h : zz_I g d) {s i : Nat} : jn_LB g e (zz_fn fl) (zz_L LL) (s : Int) i = zz_LB d e fl LL s i := by
  unfold jn_LB zz_LB
  have h1 : jn_d i + 1 = ((i % 5 + 1 : Nat) : Int) := by unfold jn_d; omega
  rw [h1, show jn_r i = ((i / 5 : Nat) : Int) from rfl, zz_FE h, zz_Lnn]
  by_cases c : zz_EF d e (i / 5) (i % 5 + 1) = true
  · rw [if_pos ((zz_EFP h _ _).mpr c), if_pos c]
  · rw [if_neg (fun z => c ((zz_EFP h _ _).mp z)), if_neg c]
theorem zz_LBb (h : zz_I g d) (hb : zz_b2 LL X) {s i : Nat} : jn_sub (zz_LB d e fl LL s i) (jn_LB g e (zz_fn fl) X (s : Int) i) := by
  rw [← zz_LBE h]
  refine jn_LB_mono ?_
  rw [zz_Lnn]
  exact hb s i
theorem zz_LjE {s mask m : Nat} : ∀ (n : Nat) (LL : zz_ll), zz_b2 LL X → (∀ j : Nat, mask.testBit j = true → jn_sub m (X (s : Int) (j : Int))) → zz_b2 (zz_Lj s mask m n LL) X
  | 0, _, hb, _ => hb
  | n + 1, LL, hb, hm => by
    unfold zz_Lj
    refine zz_LjE n _ ?_ hm
    split
    · rename_i c
      exact zz_b2_o hb (hm n c)
    · exact hb
theorem zz_LiE (h : zz_I g d) (hT : zz_T g al ol) (hc : jn_cL g e (zz_fn fl) (zz_S (zz_k0 d) q) X) {s : Nat} (hs : s < q.1) : ∀ (n : Nat) (LL : zz_ll), zz_b2 LL X → zz_b2 (zz_Li d e fl ol q.2.2.1 s (zz_clo al ol (zz_la q.2.1 (zz_k0 d) (s : Int))) n LL) X
  | 0, _, hb => hb
  | i + 1, LL, hb => by
    unfold zz_Li
    refine zz_LiE h hT hc hs i _ ?_
    split
    · rename_i c
      unfold zz_Lc at c
      rw [Bool.and_eq_true, Bool.and_eq_true, Bool.and_eq_true, Nat.ble_eq, decide_eq_true_iff] at c
      obtain ⟨c1, c2, c3, c4⟩ := c
      have h1 := hc.2 (s : Int) i (by omega) (by show (s : Int) < ((q.1 : Nat) : Int); omega) (by rw [zz_cloE hT]; exact c1) ((zz_itP h).mpr c2)
      unfold jn_c1 at h1
      rw [zz_is h c2] at h1
      obtain ⟨k1, k2⟩ := h1
      have hp : zz_b2 (zz_Lp q.2.2.1 d LL s i) X := by
        unfold zz_Lp
        refine zz_b2_o hb (jn_sub_tr (hb s i) ?_)
        rw [show (((zz_lm q.2.2.1 (s : Int) (zz_sym d (i / 5) (i % 5) : Nat)).toNat : Nat) : Int) = zz_lm q.2.2.1 (s : Int) (zz_sym d (i / 5) (i % 5) : Nat) by omega, show (((i + 1 : Nat) : Nat) : Int) = (i : Int) + 1 by omega]
        exact k1
      split
      · rename_i c5
        refine zz_LjE 62 _ hp (fun j hj => jn_sub_tr (zz_LBb h hb) ?_)
        refine k2 j ?_ (by omega)
        rw [show ((zz_sym d (i / 5) (i % 5) : Nat) : Int) - 10 = ((zz_sym d (i / 5) (i % 5) - 10 : Nat) : Int) by omega, hT.2 _ (by omega)]
        exact hj
      · exact hp
    · exact hb
theorem zz_LsE (h : zz_I g d) (hT : zz_T g al ol) (hc : jn_cL g e (zz_fn fl) (zz_S (zz_k0 d) q) X) : ∀ (n : Nat) (LL : zz_ll), n ≤ q.1 → zz_b2 LL X → zz_b2 (zz_Ls d e fl al ol q n LL) X
  | 0, _, _, hb => hb
  | n + 1, LL, hn, hb => by
    unfold zz_Ls
    exact zz_LsE h hT hc n _ (by omega) (zz_LiE h hT hc (by omega) 62 LL hb)
theorem zz_rep {n s i : Nat} : zz_g2 (List.replicate n (List.replicate 62 0)) s i = 0 := by
  unfold zz_g2
  rw [List.getD_eq_getElem?_getD, List.getD_eq_getElem?_getD, List.getElem?_replicate]
  split
  · show ((List.replicate 62 0)[i]?).getD 0 = 0
    rw [List.getElem?_replicate]
    split <;> rfl
  · rfl
theorem zz_lL (h : zz_I g d) (hT : zz_T g al ol) (hn : zz_n d ≤ 12) (hl : zz_LL d e fl al ol q = LL) (h1 : zz_cL d e fl al ol q LL = true) (h2 : zz_25 LL = true) : jn_lL g e (zz_fn fl) (zz_S (zz_k0 d) q) (zz_L LL) := by
  unfold zz_cL at h1
  rw [Bool.and_eq_true] at h1
  refine ⟨⟨?_, fun s i s0 s1 hb hi => ?_⟩, zz_LLt h2, fun X hc s i s0 s1 i0 i1 => ?_⟩
  · rw [h.1.1, h.1.2.2.1, Int.toNat_natCast, show (5 * ((zz_n d : Nat) : Int)) = ((5 * zz_n d : Nat) : Int) by omega]
    have := zz_subE h1.1
    rw [← zz_Lnn] at this
    exact this
  · have hs : s.toNat < q.1 := by have : s < ((q.1 : Nat) : Int) := s1; omega
    have es : s = (s.toNat : Int) := by omega
    rw [es] at hb ⊢
    have hi' := (zz_itP h).mp hi
    have c := List.all_eq_true.mp h1.2 _ (List.mem_range.mpr hs)
    unfold zz_cLs at c
    have c := List.all_eq_true.mp c i (List.mem_range.mpr (zz_itN hn hi'))
    have hb' : (zz_clo al ol (zz_la q.2.1 (zz_k0 d) (s.toNat : Int))).testBit i = true := by rw [← zz_cloE hT]; exact hb
    rw [hb', hi', Bool.and_true, Bool.not_true, Bool.false_or] at c
    unfold zz_cLi at c
    rw [Bool.and_eq_true, Bool.and_eq_true, Bool.and_eq_true, Nat.ble_eq, decide_eq_true_iff, Bool.or_eq_true, Nat.ble_eq] at c
    obtain ⟨c1, c2, c3, c4⟩ := c
    unfold jn_c1
    rw [zz_is h hi']
    refine ⟨?_, fun j hj h10 => ?_⟩
    · have := zz_subE c3
      rw [← zz_Lnn, ← zz_Lnn, show (((zz_lm q.2.2.1 (s.toNat : Int) (zz_sym d (i / 5) (i % 5) : Nat)).toNat : Nat) : Int) = zz_lm q.2.2.1 (s.toNat : Int) (zz_sym d (i / 5) (i % 5) : Nat) by omega, show (((i + 1 : Nat) : Nat) : Int) = (i : Int) + 1 by omega] at this
      exact this
    · rw [show ((zz_sym d (i / 5) (i % 5) : Nat) : Int) - 10 = ((zz_sym d (i / 5) (i % 5) - 10 : Nat) : Int) by omega] at hj
      have hO := hj
      rw [hT.2 _ (by omega)] at hO
      have hj62 : j < 62 := by
        unfold jn_O at hj
        exact (jn_mk_bit.mp hj).1
      have c4 := List.all_eq_true.mp (c4.resolve_left (by omega)) j (List.mem_range.mpr hj62)
      rw [hO, Bool.not_true, Bool.false_or] at c4
      have := zz_subE c4
      rw [← zz_LBE h, ← zz_Lnn] at this
      exact this
  · have hb : zz_b2 LL X := by
      rw [← hl]
      refine zz_it2E (P := fun L => zz_b2 L X) (fun L hL => zz_LsE h hT hc _ L (Nat.le_refl _) hL) 8 _ (zz_b2_o (fun a b => by rw [zz_rep]; exact jn_sub_0) ?_)
      have := hc.1
      rw [h.1.1, h.1.2.2.1, Int.toNat_natCast, show (5 * ((zz_n d : Nat) : Int)) = ((5 * zz_n d : Nat) : Int) by omega] at this
      exact this
    have := hb s.toNat i.toNat
    rw [show ((s.toNat : Nat) : Int) = s by omega, show ((i.toNat : Nat) : Int) = i by omega] at this
    unfold zz_L
    rw [if_neg (by omega)]
    exact this
end ZZC
