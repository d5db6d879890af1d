/-! EMPTY, FIRST, FOLLOW of a grammar that is given as data -/
def zz_sub (a b : Nat) : Bool := Nat.beq (a ||| b) b
theorem zz_subE {a b : Nat} (h : zz_sub a b = true) : jn_sub a b := by
  have e : a ||| b = b := Nat.eq_of_beq_eq_true h
  rw [← e]
  exact jn_sub_l
def zz_EFn (d : zz_d) (e r : Nat) : Nat → Nat → Bool
  | 0, _ => true
  | n + 1, k => (Nat.ble 10 (zz_sym d r k) && (Nat.ble (zz_sym d r k) 14 && e.testBit (zz_sym d r k - 10))) && zz_EFn d e r n (k + 1)
def zz_EF (d : zz_d) (e r k : Nat) : Bool := zz_EFn d e r (zz_len d r - k) k
/-- FIRST, FOLLOW as rows of five -/
def zz_fn (l : List Nat) : Int → Nat := fun x => l.getD x.toNat 0
def zz_FF (d : zz_d) (e : Nat) (fl : List Nat) (r : Nat) : Nat → Nat → Nat
  | 0, _ => 0
  | n + 1, k => if zz_sym d r k < 10 then 2 ^ zz_sym d r k else fl.getD (zz_sym d r k - 10) 0 ||| (if (Nat.ble (zz_sym d r k) 14 && e.testBit (zz_sym d r k - 10)) = true then zz_FF d e fl r n (k + 1) else 0)
def zz_F (d : zz_d) (e : Nat) (fl : List Nat) (r k : Nat) : Nat := zz_FF d e fl r (zz_len d r - k) k
section ZZB
variable {g : gM} {d : zz_d} {e : Nat} {fl wl : List Nat}
theorem zz_EP {s : Nat} (hs : 10 ≤ s) : jn_E e ((s : Int) - 10) ↔ (Nat.ble s 14 && e.testBit (s - 10)) = true := by
  unfold jn_E
  rw [Bool.and_eq_true, Nat.ble_eq, show ((s : Int) - 10).toNat = s - 10 by omega]
  constructor
  · rintro ⟨a, b, c⟩; exact ⟨by omega, c⟩
  · rintro ⟨a, b⟩; exact ⟨by omega, by omega, b⟩
theorem zz_EFnP (h : zz_I g d) (r : Nat) : ∀ (n k : Nat), k + n = zz_len d r → (jn_EF g e (r : Int) (k : Int) ↔ zz_EFn d e r n k = true)
  | 0, k, hn => by
    refine ⟨fun _ => rfl, fun _ => jn_EF_end (by rw [zz_l h]; omega)⟩
  | n + 1, k, hn => by
    rw [jn_EF_step (by rw [zz_l h]; omega), zz_s h (by omega)]
    unfold zz_EFn
    rw [Bool.and_eq_true, Bool.and_eq_true, show ((k : Int) + 1) = ((k + 1 : Nat) : Int) by omega, zz_EFnP h r n (k + 1) (by omega), Nat.ble_eq]
    constructor
    · rintro ⟨a, b⟩
      have h10 : 10 ≤ zz_sym d r k := by have := a.1; omega
      exact ⟨⟨h10, (zz_EP h10).mp a⟩, b⟩
    · rintro ⟨⟨a, b⟩, c⟩
      exact ⟨(zz_EP a).mpr b, c⟩
theorem zz_EFP (h : zz_I g d) (r k : Nat) : jn_EF g e (r : Int) (k : Int) ↔ zz_EF d e r k = true := by
  unfold zz_EF
  rcases Nat.lt_or_ge (zz_len d r) k with q | q
  · rw [show zz_len d r - k = 0 by omega]
    exact ⟨fun _ => rfl, fun _ => jn_EF_end (by rw [zz_l h]; omega)⟩
  · exact zz_EFnP h r _ k (by omega)
theorem zz_FFE (h : zz_I g d) (r : Nat) : ∀ (n k : Nat), k + n = zz_len d r → jn_FF g e (zz_fn fl) (r : Int) n (k : Int) = zz_FF d e fl r n k
  | 0, _, _ => rfl
  | n + 1, k, hn => by
    unfold jn_FF zz_FF
    rw [zz_s h (by omega)]
    by_cases c : zz_sym d r k < 10
    · rw [if_pos (by omega), if_pos c, Int.toNat_natCast]
    · rw [if_neg (by omega), if_neg c]
      have e1 : zz_fn fl ((zz_sym d r k : Nat) - 10 : Int) = fl.getD (zz_sym d r k - 10) 0 := by
        unfold zz_fn
        rw [show ((zz_sym d r k : Nat) - 10 : Int).toNat = zz_sym d r k - 10 by omega]
      rw [e1, show ((k : Int) + 1) = ((k + 1 : Nat) : Int) by omega, zz_FFE h r n (k + 1) (by omega)]
      by_cases c2 : (Nat.ble (zz_sym d r k) 14 && e.testBit (zz_sym d r k - 10)) = true
      · rw [if_pos ((zz_EP (by omega)).mpr c2), if_pos c2]
      · rw [if_neg (fun q => c2 ((zz_EP (by omega)).mp q)), if_neg c2]
theorem zz_FE (h : zz_I g d) (r k : Nat) : jn_F g e (zz_fn fl) (r : Int) (k : Int) = zz_F d e fl r k := by
  unfold jn_F zz_F
  rw [zz_l h, show (((zz_len d r : Nat) : Int) - (k : Int)).toNat = zz_len d r - k by omega]
  rcases Nat.lt_or_ge (zz_len d r) k with q | q
  · rw [show zz_len d r - k = 0 by omega]
    rfl
  · exact zz_FFE h r _ k (by omega)
/-- a row of five below another -/
def zz_bl (nk : Nat) (l : List Nat) (f : Int → Nat) : Prop := ∀ x : Nat, x < nk → jn_sub (l.getD x 0) (f (x : Int))
def zz_or (l : List Nat) (x m : Nat) : List Nat := l.set x (l.getD x 0 ||| m)
theorem zz_or_get {l : List Nat} {x m y : Nat} : (zz_or l x m).getD y 0 = if y = x ∧ x < l.length then l.getD x 0 ||| m else l.getD y 0 := by
  unfold zz_or
  rw [List.getD_eq_getElem?_getD, List.getElem?_set]
  by_cases e : x = y
  · subst e
    rw [if_pos rfl]
    by_cases c : x < l.length
    · rw [if_pos c, if_pos ⟨rfl, c⟩]; rfl
    · rw [if_neg c, if_neg (fun q => c q.2), List.getD_eq_getElem?_getD, List.getElem?_eq_none (by omega)]
  · rw [if_neg e, if_neg (fun q => e q.1.symm), List.getD_eq_getElem?_getD]
theorem zz_bl_or {nk : Nat} {l : List Nat} {f : Int → Nat} {x m : Nat} (h : zz_bl nk l f) (hm : x < nk → jn_sub m (f (x : Int))) : zz_bl nk (zz_or l x m) f := fun y hy => by
  rw [zz_or_get]
  by_cases c : y = x ∧ x < l.length
  · rw [if_pos c]
    rw [c.1] at hy ⊢
    exact jn_sub_or (h x hy) (hm hy)
  · rw [if_neg c]; exact h y hy
/-- one more round of EMPTY, by all RULES -/
def zz_eS (d : zz_d) : Nat → Nat → Nat
  | 0, e => e
  | n + 1, e => zz_eS d n (if (!zz_out d n && zz_EF d e n 0) = true then e ||| 2 ^ (zz_r d n).1 else e)
theorem zz_eSE (h : zz_I g d) {e' : Nat} (hc : jn_cE g e') : ∀ (n e : Nat), n ≤ zz_n d → jn_sub e e' → jn_sub (zz_eS d n e) e'
  | 0, _, _, hs => hs
  | n + 1, e, hn, hs => by
    unfold zz_eS
    refine zz_eSE h hc n _ (by omega) ?_
    split
    · rename_i c
      rw [Bool.and_eq_true, Bool.not_eq_true'] at c
      have h1 := hc (n : Int) (by omega) (by rw [h.1.2.2.1]; omega) ((zz_outP h).mpr c.1) (jn_EF_mono hs ((zz_EFP h n 0).mpr c.2))
      rw [(h.2 n (by omega)).1, Int.toNat_natCast] at h1
      exact jn_sub_or hs (jn_sub_pow.mpr h1)
    · exact hs
def zz_it8 (F : Nat → Nat) : Nat → Nat → Nat
  | 0, x => x
  | n + 1, x => zz_it8 F n (F x)
def zz_iL (F : List Nat → List Nat) : Nat → List Nat → List Nat
  | 0, x => x
  | n + 1, x => zz_iL F n (F x)
theorem zz_it8E {F : Nat → Nat} {P : Nat → Prop} (h : ∀ x, P x → P (F x)) : ∀ (n x : Nat), P x → P (zz_it8 F n x)
  | 0, _, q => q
  | n + 1, x, q => zz_it8E h n _ (h x q)
theorem zz_iLE {F : List Nat → List Nat} {P : List Nat → Prop} (h : ∀ x, P x → P (F x)) : ∀ (n : Nat) (x : List Nat), P x → P (zz_iL F n x)
  | 0, _, q => q
  | n + 1, x, q => zz_iLE h n _ (h x q)
def zz_e (d : zz_d) : Nat := zz_it8 (zz_eS d (zz_n d)) 6 0
def zz_fS (d : zz_d) (e : Nat) : Nat → List Nat → List Nat
  | 0, l => l
  | n + 1, l => zz_fS d e n (if zz_out d n = true then l else zz_or l (zz_r d n).1 (zz_F d e l n 0))
theorem zz_fSE (hW : jn_GW g) (h : zz_I g d) {e' : Nat} {f' : Int → Nat} (he : jn_sub e e') (hc : jn_cF g e' f') : ∀ (n : Nat) (l : List Nat), n ≤ zz_n d → zz_bl d.2.1 l f' → zz_bl d.2.1 (zz_fS d e n l) f'
  | 0, _, _, hs => hs
  | n + 1, l, hn, hs => by
    unfold zz_fS
    refine zz_fSE hW h he hc n _ (by omega) ?_
    split
    · exact hs
    · rename_i c
      rw [Bool.not_eq_true] at c
      refine zz_bl_or hs (fun hx => ?_)
      have h1 := hc (n : Int) (by omega) (by rw [h.1.2.2.1]; omega) ((zz_outP h).mpr c)
      rw [(h.2 n (by omega)).1] at h1
      refine jn_sub_tr ?_ h1
      rw [← zz_FE h n 0]
      refine jn_F_mono hW he (fun x x0 x1 => ?_) ⟨by omega, by rw [h.1.2.2.1]; omega⟩ _ _ (by omega) rfl
      have := hs x.toNat (by rw [h.1.2.1] at x1; omega)
      rw [show ((x.toNat : Nat) : Int) = x by omega] at this
      exact this
def zz_f (d : zz_d) (e : Nat) : List Nat := zz_iL (zz_fS d e (zz_n d)) 6 [0, 0, 0, 0, 0]
def zz_cE (d : zz_d) (e : Nat) : Bool := (List.range (zz_n d)).all (fun r => zz_out d r || (!zz_EF d e r 0 || e.testBit (zz_r d r).1))
def zz_cF (d : zz_d) (e : Nat) (fl : List Nat) : Bool := (List.range (zz_n d)).all (fun r => zz_out d r || zz_sub (zz_F d e fl r 0) (fl.getD (zz_r d r).1 0))
def zz_rw (nk : Nat) (l : List Nat) : Bool := (List.range 5).all (fun x => Nat.ble (l.getD x 0) 255 && (Nat.ble (x + 1) nk || Nat.beq (l.getD x 0) 0))
theorem zz_rwE {nk : Nat} {l : List Nat} (h : zz_rw nk l = true) : (∀ x, 0 ≤ x → x < 5 → zz_fn l x < 256) ∧ ∀ x, (nk : Int) ≤ x → x < 5 → zz_fn l x = 0 := by
  have h1 : ∀ x : Nat, x < 5 → l.getD x 0 ≤ 255 ∧ (x + 1 ≤ nk ∨ l.getD x 0 = 0) := fun x hx => by
    have := List.all_eq_true.mp h x (List.mem_range.mpr hx)
    rw [Bool.and_eq_true, Bool.or_eq_true, Nat.ble_eq, Nat.ble_eq, Nat.beq_eq] at this
    exact this
  refine ⟨fun x x0 x1 => ?_, fun x x0 x1 => ?_⟩
  · have := (h1 x.toNat (by omega)).1
    show l.getD x.toNat 0 < 256
    omega
  · rcases (h1 x.toNat (by omega)).2 with q | q
    · omega
    · exact q
theorem zz_bl0 {nk : Nat} {f : Int → Nat} : zz_bl nk [0, 0, 0, 0, 0] f := fun x _ => by
  have : ([0, 0, 0, 0, 0] : List Nat).getD x 0 = 0 := by
    match x with
    | 0 => rfl
    | 1 => rfl
    | 2 => rfl
    | 3 => rfl
    | 4 => rfl
    | _ + 5 => rfl
  rw [this]; exact jn_sub_0
/-- EMPTY and FIRST -/
theorem zz_lEF (hW : jn_GW g) (h : zz_I g d) (he : zz_e d = e) (hf : zz_f d e = fl) (h1 : zz_cE d e = true) (h2 : zz_cF d e fl = true) (h3 : zz_rw d.2.1 fl = true) (h4 : e < 32) : jn_lEF g e (zz_fn fl) := by
  have hnat : ∀ r : Int, 0 ≤ r → r < g 0 2 → ∃ n : Nat, r = (n : Int) ∧ n < zz_n d := fun r r0 r1 => ⟨r.toNat, by omega, by rw [h.1.2.2.1] at r1; omega⟩
  refine ⟨⟨fun r r0 r1 ro hE => ?_, fun r r0 r1 ro => ?_, h4, (zz_rwE h3).1, fun x x0 x1 => (zz_rwE h3).2 x (by rw [h.1.2.1] at x0; exact x0) x1⟩, fun e' f' c1 c2 => ?_⟩
  · obtain ⟨n, rfl, hn⟩ := hnat r r0 r1
    have q := List.all_eq_true.mp h1 n (List.mem_range.mpr hn)
    rw [(zz_outP h).mp ro, (zz_EFP h n 0).mp hE] at q
    rw [(h.2 n hn).1, Int.toNat_natCast]
    simpa using q
  · obtain ⟨n, rfl, hn⟩ := hnat r r0 r1
    have q := List.all_eq_true.mp h2 n (List.mem_range.mpr hn)
    rw [(zz_outP h).mp ro, Bool.false_or] at q
    rw [(h.2 n hn).1]
    have := zz_subE q
    rw [← zz_FE h n 0] at this
    exact this
  · have s1 : jn_sub e e' := by
      rw [← he]
      exact zz_it8E (P := fun x => jn_sub x e') (fun x hx => zz_eSE h c1 _ _ (Nat.le_refl _) hx) 6 0 jn_sub_0
    refine ⟨s1, fun x x0 x1 => ?_⟩
    have s2 : zz_bl d.2.1 fl f' := by
      rw [← hf]
      exact zz_iLE (P := fun x => zz_bl d.2.1 x f') (fun x hx => zz_fSE hW h s1 c2 _ _ (Nat.le_refl _) hx) 6 _ zz_bl0
    have := s2 x.toNat (by rw [h.1.2.1] at x1; omega)
    rw [show ((x.toNat : Nat) : Int) = x by omega] at this
    exact this
/-- FOLLOW: what one place in one RULE brings -/
def zz_Tt (d : zz_d) (e : Nat) (fl wl : List Nat) (r k : Nat) : Nat := zz_F d e fl r (k + 1) ||| (if zz_EF d e r (k + 1) = true then wl.getD (zz_r d r).1 0 else 0)
theorem zz_TtE (h : zz_I g d) {r k : Nat} (hr : r < zz_n d) : jn_T g e (zz_fn fl) (zz_fn wl) (r : Int) (k : Int) = zz_Tt d e fl wl r k := by
  unfold jn_T zz_Tt
  rw [show ((k : Int) + 1) = ((k + 1 : Nat) : Int) by omega, zz_FE h, (h.2 r hr).1]
  by_cases c : zz_EF d e r (k + 1) = true
  · rw [if_pos ((zz_EFP h r (k + 1)).mpr c), if_pos c]
    rfl
  · rw [if_neg (fun q => c ((zz_EFP h r (k + 1)).mp q)), if_neg c]
def zz_wR (d : zz_d) (e : Nat) (fl : List Nat) (r : Nat) : Nat → List Nat → List Nat
  | 0, l => l
  | k + 1, l => zz_wR d e fl r k (if 10 ≤ zz_sym d r k then zz_or l (zz_sym d r k - 10) (zz_Tt d e fl l r k) else l)
def zz_wS (d : zz_d) (e : Nat) (fl : List Nat) : Nat → List Nat → List Nat
  | 0, l => l
  | n + 1, l => zz_wS d e fl n (if zz_out d n = true then l else zz_wR d e fl n (zz_len d n) l)
theorem zz_wRE (h : zz_I g d) {w' : Int → Nat} (hk : ∀ r : Nat, r < zz_n d → (zz_r d r).1 < d.2.1) (hc : jn_cW g e (zz_fn fl) w') {r : Nat} (hr : r < zz_n d) (ho : zz_out d r = false) : ∀ (k : Nat) (l : List Nat), k ≤ zz_len d r → zz_bl d.2.1 l w' → zz_bl d.2.1 (zz_wR d e fl r k l) w'
  | 0, _, _, hs => hs
  | k + 1, l, hn, hs => by
    unfold zz_wR
    refine zz_wRE h hk hc hr ho k _ (by omega) ?_
    split
    · rename_i c
      refine zz_bl_or hs (fun hx => ?_)
      have h1 := hc.2 (r : Int) (by omega) (by rw [h.1.2.2.1]; omega) ((zz_outP h).mpr ho) (k : Int) (by omega) (by rw [zz_l h]; omega)
      unfold jn_cW1 at h1
      rw [zz_s h (by omega)] at h1
      have h1 := h1 (by omega)
      rw [show ((zz_sym d r k : Nat) : Int) - 10 = ((zz_sym d r k - 10 : Nat) : Int) by omega] at h1
      refine jn_sub_tr ?_ h1
      rw [← zz_TtE h hr]
      refine jn_T_mono ?_
      rw [(h.2 r hr).1]
      exact hs _ (hk r hr)
    · exact hs
theorem zz_wSE (h : zz_I g d) {w' : Int → Nat} (hk : ∀ r : Nat, r < zz_n d → (zz_r d r).1 < d.2.1) (hc : jn_cW g e (zz_fn fl) w') : ∀ (n : Nat) (l : List Nat), n ≤ zz_n d → zz_bl d.2.1 l w' → zz_bl d.2.1 (zz_wS d e fl n l) w'
  | 0, _, _, hs => hs
  | n + 1, l, hn, hs => by
    unfold zz_wS
    refine zz_wSE h hk hc n _ (by omega) ?_
    split
    · exact hs
    · rename_i c
      rw [Bool.not_eq_true] at c
      exact zz_wRE h hk hc (by omega) c _ _ (Nat.le_refl _) hs
def zz_w (d : zz_d) (e : Nat) (fl : List Nat) : List Nat := zz_iL (zz_wS d e fl (zz_n d)) 6 [2 ^ d.1, 0, 0, 0, 0]
def zz_cW (d : zz_d) (e : Nat) (fl wl : List Nat) : Bool := zz_sub (2 ^ d.1) (wl.getD 0 0) && (List.range (zz_n d)).all (fun r => zz_out d r || (List.range (zz_len d r)).all (fun k => Nat.ble (zz_sym d r k) 9 || zz_sub (zz_Tt d e fl wl r k) (wl.getD (zz_sym d r k - 10) 0)))
def zz_kk (d : zz_d) : Bool := Nat.ble 1 d.2.1 && (List.range (zz_n d)).all (fun r => Nat.ble ((zz_r d r).1 + 1) d.2.1)
theorem zz_kkE (h : zz_kk d = true) : 0 < d.2.1 ∧ ∀ r : Nat, r < zz_n d → (zz_r d r).1 < d.2.1 := by
  unfold zz_kk at h
  rw [Bool.and_eq_true, Nat.ble_eq] at h
  exact ⟨h.1, fun r hr => Nat.le_of_ble_eq_true (List.all_eq_true.mp h.2 r (List.mem_range.mpr hr))⟩
theorem zz_lW (h : zz_I g d) (hk : zz_kk d = true) (hw : zz_w d e fl = wl) (h1 : zz_cW d e fl wl = true) (h3 : zz_rw d.2.1 wl = true) : jn_lW g e (zz_fn fl) (zz_fn wl) := by
  obtain ⟨hk0, hk⟩ := zz_kkE hk
  unfold zz_cW at h1
  rw [Bool.and_eq_true] at h1
  refine ⟨⟨fun _ => ?_, fun r r0 r1 ro k k0 k1 hs => ?_⟩, (zz_rwE h3).1, fun x x0 x1 => (zz_rwE h3).2 x (by rw [h.1.2.1] at x0; exact x0) x1, fun w' hc x x0 x1 => ?_⟩
  · rw [h.1.1, h.1.2.2.2.1, Int.toNat_natCast]
    exact zz_subE h1.1
  · have hn : r.toNat < zz_n d := by rw [h.1.2.2.1] at r1; omega
    have er : r = (r.toNat : Int) := by omega
    rw [er] at ro k1 hs ⊢
    have hl : k.toNat < zz_len d r.toNat := by rw [zz_l h] at k1; omega
    have ek : k = (k.toNat : Int) := by omega
    rw [ek] at hs ⊢
    have q := List.all_eq_true.mp h1.2 _ (List.mem_range.mpr hn)
    rw [(zz_outP h).mp ro, Bool.false_or] at q
    have q := List.all_eq_true.mp q _ (List.mem_range.mpr hl)
    rw [zz_s h hl] at hs ⊢
    have hs' : ¬ zz_sym d r.toNat k.toNat ≤ 9 := by omega
    rw [Bool.or_eq_true, Nat.ble_eq] at q
    have q := zz_subE (q.resolve_left hs')
    rw [← zz_TtE h hn] at q
    rw [show ((zz_sym d r.toNat k.toNat : Nat) : Int) - 10 = ((zz_sym d r.toNat k.toNat - 10 : Nat) : Int) by omega]
    exact q
  · have s2 : zz_bl d.2.1 wl w' := by
      rw [← hw]
      refine zz_iLE (P := fun x => zz_bl d.2.1 x w') (fun x hx => zz_wSE h hk hc _ _ (Nat.le_refl _) hx) 6 _ (fun y hy => ?_)
      have h0 := hc.1 (by rw [h.1.2.1]; omega)
      rw [h.1.1, h.1.2.2.2.1, Int.toNat_natCast] at h0
      match y with
      | 0 => exact h0
      | 1 => exact jn_sub_0
      | 2 => exact jn_sub_0
      | 3 => exact jn_sub_0
      | 4 => exact jn_sub_0
      | _ + 5 => exact jn_sub_0
    have := s2 x.toNat (by rw [h.1.2.1] at x1; omega)
    rw [show ((x.toNat : Nat) : Int) = x by omega] at this
    exact this
end ZZB
