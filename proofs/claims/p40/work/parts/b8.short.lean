/-! SHORTEST rows by data -/
def zk_V (l : List (Nat × Nat)) : ka_Ve := fun k => if k < 0 then ka_no else l.getD k.toNat ka_no
def zk_sp (l : List (Nat × Nat)) (tg : Nat) (tr : Nat × Nat) (cap : Nat) : List (Nat × Nat) := if tr.1 ≤ cap ∧ tr.2 < (l.getD tg ka_no).2 then l.set tg tr else l
def zk_sv (l : List (Nat × Nat)) (x : Nat) : Nat × Nat := if x < 10 then (1, x + 1) else l.getD (x - 10) ka_no
def zk_cr (d : zz_d) (l : List (Nat × Nat)) (r : Nat) : Nat → Nat × Nat
  | 0 => (0, 0)
  | k + 1 => ka_cat (zk_cr d l r k) (zk_sv l (zz_sym d r k))
def zk_pr (d : zz_d) : Nat → List (Nat × Nat) → List (Nat × Nat)
  | 0, l => l
  | n + 1, l => zk_sp (zk_pr d n l) (zz_r d n).1 (zk_cr d (zk_pr d n l) n (zz_len d n)) 40
def zk_pw (ml : List (Nat × Nat × Nat)) (vk : List (Nat × Nat)) : Nat → List (Nat × Nat) → List (Nat × Nat)
  | 0, l => l
  | j + 1, l => if 0 ≤ zz_lm ml ((j / 15 : Nat) : Int) ((j % 15 : Nat) : Int) then zk_sp (zk_pw ml vk j l) (zz_lm ml ((j / 15 : Nat) : Int) ((j % 15 : Nat) : Int)).toNat (ka_cat ((zk_pw ml vk j l).getD (j / 15) ka_no) (zk_sv vk (j % 15))) 60 else zk_pw ml vk j l
section ZZG
variable {g : gM} {d : zz_d} {q : zz_q} {l l1 l2 vk : List (Nat × Nat)}
theorem zk_Vn {k : Nat} : zk_V l (k : Int) = l.getD k ka_no := by
  unfold zk_V
  rw [if_neg (by omega), Int.toNat_natCast]
theorem zk_sp_len {tg cap : Nat} {tr : Nat × Nat} : (zk_sp l tg tr cap).length = l.length := by
  unfold zk_sp
  split
  · exact List.length_set
  · rfl
theorem zk_spE {tgf : Nat → Int} {trf : Nat → ka_Ve → Nat × Nat} {cap i tg : Nat} {tr : Nat × Nat} (h1 : tgf i = (tg : Int)) (h2 : trf i (zk_V l) = tr) (h3 : tg < l.length) : ka_sp tgf trf cap i (zk_V l) = zk_V (zk_sp l tg tr cap) := by
  funext k
  unfold ka_sp zk_sp
  rw [h1, h2, zk_Vn]
  by_cases c : tr.1 ≤ cap ∧ tr.2 < (l.getD tg ka_no).2
  · rw [if_pos c]
    by_cases ck : k = (tg : Int)
    · rw [if_pos ⟨ck, c⟩, ck, zk_Vn, List.getD_eq_getElem?_getD, List.getElem?_set, if_pos rfl, if_pos h3]
      rfl
    · rw [if_neg (fun z => ck z.1)]
      unfold zk_V
      by_cases c0 : k < 0
      · rw [if_pos c0, if_pos c0]
      · rw [if_neg c0, if_neg c0, List.getD_eq_getElem?_getD, List.getD_eq_getElem?_getD, List.getElem?_set, if_neg (by omega)]
  · rw [if_neg c, if_neg (fun z => c z.2)]
theorem zk_svE {x : Nat} : ka_sv (zk_V l) (x : Int) = zk_sv l x := by
  unfold ka_sv zk_sv
  by_cases c : x < 10
  · rw [if_pos (by omega), if_pos c, Int.toNat_natCast]
  · rw [if_neg (by omega), if_neg c, show ((x : Int) - 10) = ((x - 10 : Nat) : Int) by omega, zk_Vn]
theorem zk_crE (hI : zz_I g d) {r : Nat} : ∀ {k : Nat}, k ≤ zz_len d r → ka_cr g (zk_V l) (r : Int) k = zk_cr d l r k
  | 0, _ => rfl
  | k + 1, hk => by
    unfold ka_cr zk_cr
    rw [zk_crE hI (by omega), zz_s hI (by omega), zk_svE]
theorem zk_pr_len : ∀ {n : Nat}, (zk_pr d n l).length = l.length
  | 0 => rfl
  | n + 1 => by
    unfold zk_pr
    rw [zk_sp_len]
    exact zk_pr_len
theorem zk_prE (hI : zz_I g d) (hk : zz_kk d = true) (hl : l.length = d.2.1) : ∀ {n : Nat}, n ≤ zz_n d → ka_pr (ka_tgK g) (ka_trK g) 40 n (zk_V l) = zk_V (zk_pr d n l)
  | 0, _ => rfl
  | n + 1, hn => by
    unfold ka_pr zk_pr
    rw [zk_prE hI hk hl (by omega)]
    refine zk_spE ?_ ?_ ?_
    · exact (hI.2 n (by omega)).1
    · unfold ka_trK
      rw [zz_l hI, Int.toNat_natCast]
      exact zk_crE hI (Nat.le_refl _)
    · rw [zk_pr_len, hl]
      exact (zz_kkE hk).2 n (by omega)
/-- KINDS: two rounds and then no change -/
theorem zk_VKE (hI : zz_I g d) (hk : zz_kk d = true) (h0 : zk_pr d (zz_n d) (List.replicate d.2.1 ka_no) = l1) (h1 : zk_pr d (zz_n d) l1 = l2) (h2 : zk_pr d (zz_n d) l2 = l2) : ka_VK g = zk_V l2 := by
  have e0 : ka_V0 = zk_V (List.replicate d.2.1 ka_no) := by
    funext k
    unfold ka_V0 zk_V
    split
    · rfl
    · rw [List.getD_eq_getElem?_getD, List.getElem?_replicate]
      split <;> rfl
  have n0 : (List.replicate d.2.1 ka_no).length = d.2.1 := List.length_replicate
  have n1 : l1.length = d.2.1 := by rw [← h0, zk_pr_len, n0]
  have n2 : l2.length = d.2.1 := by rw [← h1, zk_pr_len, n1]
  have f0 := zk_prE hI hk n0 (Nat.le_refl _)
  have f1 := zk_prE hI hk n1 (Nat.le_refl _)
  have f2 := zk_prE hI hk n2 (Nat.le_refl _)
  rw [h0] at f0
  rw [h1] at f1
  rw [h2] at f2
  unfold ka_VK
  rw [hI.1.2.2.1, Int.toNat_natCast, e0]
  generalize ka_pr (ka_tgK g) (ka_trK g) 40 (zz_n d) = F at f0 f1 f2 ⊢
  show F (F (F (F (F (zk_V (List.replicate d.2.1 ka_no)))))) = _
  rw [f0, f1, f2, f2, f2]
theorem zk_pw_len {ml : List (Nat × Nat × Nat)} : ∀ {n : Nat}, (zk_pw ml vk n l).length = l.length
  | 0 => rfl
  | n + 1 => by
    unfold zk_pw
    split
    · rw [zk_sp_len]; exact zk_pw_len
    · exact zk_pw_len
theorem zk_pwE (hml : q.2.2.1.all (fun p => Nat.ble (p.2.2 + 1) l.length) = true) {k0 : Nat} : ∀ {n : Nat}, ka_pr (ka_tgW (zz_S k0 q)) (ka_trW (zz_S k0 q) (zk_V vk)) 60 n (zk_V l) = zk_V (zk_pw q.2.2.1 vk n l)
  | 0 => rfl
  | j + 1 => by
    unfold ka_pr zk_pw
    rw [zk_pwE hml]
    by_cases c : 0 ≤ zz_lm q.2.2.1 ((j / 15 : Nat) : Int) ((j % 15 : Nat) : Int)
    · rw [if_pos c]
      refine zk_spE ?_ ?_ ?_
      · show zz_lm q.2.2.1 ((j / 15 : Nat) : Int) ((j % 15 : Nat) : Int) = _
        omega
      · unfold ka_trW
        rw [if_pos (show 0 ≤ ka_tgW (zz_S k0 q) j from c), zk_Vn, zk_svE]
      · rw [zk_pw_len]
        have go : ∀ (L : List (Nat × Nat × Nat)) (a b : Int), L.all (fun p => Nat.ble (p.2.2 + 1) l.length) = true → 0 ≤ zz_lm L a b → (zz_lm L a b).toNat < l.length := by
          intro L a b hL
          induction L with
          | nil => intro h; exact absurd h (by show ¬ (0 : Int) ≤ -1; decide)
          | cons p r ih =>
            rw [List.all_cons, Bool.and_eq_true, Nat.ble_eq] at hL
            unfold zz_lm
            split
            · intro _; omega
            · exact ih hL.2
        exact go _ _ _ hml c
    · rw [if_neg c]
      refine ka_sp_no (fun z => ?_)
      have : ka_trW (zz_S k0 q) (zk_V vk) j (zk_V (zk_pw q.2.2.1 vk j l)) = ka_no := if_neg c
      rw [this] at z
      exact absurd z.1 (by decide)
/-- STATES: one round and then no change -/
theorem zk_VWE (hK : ka_VK g = zk_V vk) (hml : q.2.2.1.all (fun p => Nat.ble (p.2.2 + 1) q.1) = true) {k0 : Nat} (hq : 0 < q.1) (h0 : zk_pw q.2.2.1 vk (15 * q.1) ((0, 0) :: List.replicate (q.1 - 1) ka_no) = l1) (h1 : zk_pw q.2.2.1 vk (15 * q.1) l1 = l1) : ka_VW g (zz_S k0 q) = zk_V l1 := by
  have n0 : ((0, 0) :: List.replicate (q.1 - 1) ka_no).length = q.1 := by
    rw [List.length_cons, List.length_replicate]; omega
  have n1 : l1.length = q.1 := by rw [← h0, zk_pw_len, n0]
  have e0 : ka_W0 = zk_V ((0, 0) :: List.replicate (q.1 - 1) ka_no) := by
    funext k
    unfold ka_W0
    by_cases c : k = 0
    · rw [if_pos c, c]; rfl
    · rw [if_neg c]
      unfold zk_V
      split
      · rfl
      · rw [List.getD_eq_getElem?_getD]
        have ek : k.toNat = (k.toNat - 1) + 1 := by omega
        rw [ek, List.getElem?_cons_succ, List.getElem?_replicate]
        split <;> rfl
  have f0 := zk_pwE (q := q) (vk := vk) (k0 := k0) (l := (0, 0) :: List.replicate (q.1 - 1) ka_no) (by rw [n0]; exact hml) (n := 15 * q.1)
  have f1 := zk_pwE (q := q) (vk := vk) (k0 := k0) (l := l1) (by rw [n1]; exact hml) (n := 15 * q.1)
  rw [h0] at f0
  rw [h1] at f1
  unfold ka_VW ka_pw
  rw [hK, show (zz_S k0 q).1.toNat = q.1 from rfl, e0]
  generalize ka_pr (ka_tgW (zz_S k0 q)) (ka_trW (zz_S k0 q) (zk_V vk)) 60 (15 * q.1) = F at f0 f1 ⊢
  have := ka_it_plus (F := F) (V := zk_V ((0, 0) :: List.replicate (q.1 - 1) ka_no)) (d := 47) (m := 1)
  rw [show 1 + 47 = 48 from rfl] at this
  rw [this, show ka_it F 1 (zk_V ((0, 0) :: List.replicate (q.1 - 1) ka_no)) = F (zk_V ((0, 0) :: List.replicate (q.1 - 1) ka_no)) from rfl, f0]
  exact ka_it_st f1
end ZZG
