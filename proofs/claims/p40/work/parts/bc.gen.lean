/-! What each question answers, by data -/
section ZVA
variable {g : gM} {d : zz_d} {e : Nat} {fl wl al ol rl sl : List Nat} {q : zz_q} {LL : zz_ll} {T : zz_t} {K : kr_K} {st : List Nat}
theorem zv_confs (hl : kv_lm g = zz_cf T q.1 d.1) (hn : q.1 ≤ 48) {c : Nat} (hc : jn_ls (zz_cf T q.1 d.1) (128 * q.1) = c) : kv_confs g = (c : Int) := by
  unfold kv_confs
  rw [hl, zz_lsz hn, hc]
theorem zv_confs0 (hl : kv_lm g = zz_cf T q.1 d.1) (hz : zz_z T = true) : kv_confs g = 0 := by
  unfold kv_confs
  rw [hl, zz_ls0 hz]
  rfl
theorem zv_look (h : zz_K g d e fl wl al ol q LL) {s r : Nat} (hs : s < q.1) (hr : r ≤ zz_n d) (h62 : r * 5 + zz_len d r < 62) (hb : (zz_clo al ol (zz_la q.2.1 (zz_k0 d) (s : Int))).testBit (r * 5 + zz_len d r) = true) : kv_look g (s : Int) (r : Int) = ((zz_g2 LL s (r * 5 + zz_len d r) : Nat) : Int) := by
  unfold kv_look
  rw [zz_Kn h, h.1.2.1.1.2.2.1, if_pos ⟨⟨by omega, by omega⟩, by omega, by omega⟩, zz_l h.1.2.1, zz_KS h, zz_cloE h.1.2.2.1]
  rw [show ((r : Int) * 5 + ((zz_len d r : Nat) : Int)) = ((r * 5 + zz_len d r : Nat) : Int) by omega, Int.toNat_natCast]
  rw [if_pos (show (zz_clo al ol ((zz_S (zz_k0 d) q).2.1 (s : Int))).testBit (r * 5 + zz_len d r) = true from hb), zz_KL h hs h62]
theorem zv_kind0 (h : zz_K g d e fl wl al ol q LL) {x : Nat} (hx : x < 5) (hb : e.testBit x = true) : kv_kind g (x : Int) 0 = 1 := by
  unfold kv_kind
  rw [if_pos rfl, zz_Ke h]
  exact jn_b_t ⟨by omega, by omega, by rw [Int.toNat_natCast]; exact hb⟩
theorem zv_kind0f (h : zz_K g d e fl wl al ol q LL) {x : Nat} (hb : e.testBit x = false) : kv_kind g (x : Int) 0 = 0 := by
  unfold kv_kind
  rw [if_pos rfl, zz_Ke h]
  refine jn_b_f (fun z => ?_)
  have := z.2.2
  rw [Int.toNat_natCast, hb] at this
  cases this
theorem zv_kind1 (h : zz_K g d e fl wl al ol q LL) {x : Nat} (hx : x < 5) : kv_kind g (x : Int) 1 = ((fl.getD x 0 : Nat) : Int) := by
  unfold kv_kind
  rw [if_neg (by decide), if_pos rfl, zz_Kf h hx]
theorem zv_kind2 (h : zz_K g d e fl wl al ol q LL) {x : Nat} (hx : x < 5) : kv_kind g (x : Int) 2 = ((wl.getD x 0 : Nat) : Int) := by
  unfold kv_kind
  rw [if_neg (by decide), if_neg (by decide), if_pos rfl, zz_Kw h hx]
theorem zv_kind4 {vk : List (Nat × Nat)} (hv : ka_VK g = zk_V vk) {x : Nat} (hn : vk.getD x ka_no ≠ ka_no) : kv_kind g (x : Int) 4 = (((vk.getD x ka_no).1 : Nat) : Int) := by
  unfold kv_kind kv_lenS
  rw [if_neg (by decide), if_neg (by decide), if_neg (by decide), if_neg (by decide), hv, zk_Vn, if_neg hn]
theorem zv_sents (hH : zt_H g d q T) {n c : Nat} (hn : n ≤ 4) (hc : zt_cn d q T n [0] = some c) : kv_sents g (n : Int) = (c : Int) := by
  unfold kv_sents
  rw [if_pos ⟨by omega, by omega⟩, Int.toNat_natCast, zt_cnE hH n _ _ c (zt_I hH) hc]
theorem zv_ex (hH : zt_H g d q T) (hK : zt_K K st) {c : Nat} (hc : zt_ex d q T st d.1 = some c) : ((kv_ex g K (g 0 0).toNat : Nat) : Int) = (c : Int) := by
  rw [hH.2.2.1.1.1, Int.toNat_natCast, zt_exE hH hK d.1 c (Nat.le_refl _) hc]
theorem zv_n (hH : zt_H g d q T) : ku_n g = (q.1 : Nat) := by
  unfold ku_n
  rw [if_neg hH.2.2.2, hH.2.1]
  rfl
theorem zv_whole (hH : zt_H g d q T) (h0 : 0 < q.1) (hK : zt_K K st) {b : Bool} (hb : zt_en d q T d.1 st = some b) : kv_whole g K = if b = true then 1 else 0 := by
  unfold kv_whole
  rw [zv_n hH, if_neg (by omega), hH.2.2.1.1.1, zt_enE hH (Nat.le_refl _) hK hb]
theorem zv_may (hH : zt_H g d q T) (h0 : 0 < q.1) {t : Nat} (ht : t < d.1) : kv_may g (t : Int) := by
  unfold kv_may
  rw [zv_n hH, hH.2.2.1.1.1]
  exact ⟨⟨by omega, by omega⟩, by omega⟩
theorem zv_game0 (hH : zt_H g d q T) (h0 : 0 < q.1) (hK : zt_K K st) {n : Nat} {z : Int} (hn : n ≤ 4) (hz : zt_wn d q T n st = some z) : kv_game g K (n : Int) 0 = (if z < 0 then 1 else 0) ∧ kv_game g K (n : Int) 1 = z := by
  unfold kv_game
  have h1 : ((0 : Int) ≤ (n : Int) ∧ (n : Int) ≤ 4) := ⟨by omega, by omega⟩
  have h2 : ku_n g ≠ 0 := by rw [zv_n hH]; omega
  refine ⟨?_, ?_⟩
  · rw [if_pos ⟨h1, ⟨by decide, by decide⟩, h2⟩, if_pos rfl, Int.toNat_natCast, zt_wnE hH n K st z hK hz]
  · rw [if_pos ⟨h1, ⟨by decide, by decide⟩, h2⟩, if_neg (by decide), Int.toNat_natCast, zt_wnE hH n K st z hK hz]
theorem zv_rank (hI : zz_I g d) (hR : zz_R g d.1 rl sl) {r : Nat} (hr : r < zz_n d) : kv_rule g (r : Int) 6 = ((zz_rr d rl r : Nat) : Int) := by
  unfold kv_rule
  rw [hI.1.2.2.1, if_pos ⟨⟨by omega, by omega⟩, by decide, by decide⟩, if_neg (by decide), if_neg (by decide), if_pos rfl]
  exact zz_rrE hI hR r
theorem zv_stack (hH : zt_H g d q T) (h0 : 0 < q.1) : ∀ {st : List Nat} {i : Nat} {f : Int → Int}, zt_ok f st → i < st.length → f ((st.length : Int) - 1 - (i : Int)) = ((st.getD i 0 : Nat) : Int)
  | [], _, _, _, hi => absurd hi (Nat.not_lt_zero _)
  | s :: r, 0, f, hk, _ => by
    rw [show (((s :: r).length : Nat) : Int) - 1 - ((0 : Nat) : Int) = (r.length : Int) by rw [List.length_cons]; omega]
    exact hk.1
  | s :: r, i + 1, f, hk, hi => by
    have hi : i + 1 < r.length + 1 := hi
    have := zv_stack hH h0 (i := i) hk.2 (by omega)
    rw [show (((s :: r).length : Nat) : Int) - 1 - ((i + 1 : Nat) : Int) = (r.length : Int) - 1 - (i : Int) by rw [List.length_cons]; omega, this]
    rfl
theorem zv_stk (hH : zt_H g d q T) (h0 : 0 < q.1) (hK : zt_K K st) {i : Nat} (hi : i < st.length) : kv_stack g K (i : Int) = ((st.getD i 0 : Nat) : Int) := by
  unfold kv_stack
  rw [zv_n hH, if_neg (by omega), if_neg (by rw [hK.1]; omega), hK.1]
  exact zv_stack hH h0 hK.2 hi
/-- TRIED -/
theorem zv_tried {x i : Int} (hc : kt_can g x i) : kv_tried g x i = kt_tend (kt_v g x i) (if x = 4 then 1 else 0) := by
  unfold kv_tried
  exact if_pos hc
end ZVA
