/-! THE LAW, 7: the second text's bytes -/
def zb_F (lo h pl mu : Nat) : Nat → Int32 := (va_cpy (va_cpy (fun j => zc_b72.getD j 0) (upd (va_cpy (fun j => zc_b68.getD j 0) (upd (va_cpy (fun j => zc_b70.getD j 0) (upd (va_cpy (fun j => zc_b68.getD j 0) (upd (va_cpy (fun j => zc_b63.getD j 0) (va_cpy (va_cpy (fun j => zc_b39.getD j 0) (va_cpy (fun _ => 0) (fun _ => 0) 0 0 16) 0 0 80) (fun _ => 0) 0 0 80) 0 80 10) 90 (sb_b (48 + (1 + lo)))) 0 91 1) 92 (sb_b (48 + (pl)))) 0 93 10) 103 (sb_b (48 + (2 + lo + h)))) 0 104 1) 105 (sb_b (48 + (mu)))) 0 106 1) (fun _ => 0) 0 0 107)
theorem zb_0 : ∀ h, h < 4 → ∀ pl, pl < 3 → ∀ mu, mu < 3 → (∀ j, j < 107 → zb_F 0 h pl mu j = sb_b (zp_b (zx_2 (1 + 0) (2 + 0 + h) pl mu) j)) ∧ ∀ j, j < 13 → zp_b (zx_2 (1 + 0) (2 + 0 + h) pl mu) (107 + j) = 32 := by decide +kernel
theorem zb_1 : ∀ h, h < 4 → ∀ pl, pl < 3 → ∀ mu, mu < 3 → (∀ j, j < 107 → zb_F 1 h pl mu j = sb_b (zp_b (zx_2 (1 + 1) (2 + 1 + h) pl mu) j)) ∧ ∀ j, j < 13 → zp_b (zx_2 (1 + 1) (2 + 1 + h) pl mu) (107 + j) = 32 := by decide +kernel
theorem zb_2 : ∀ h, h < 4 → ∀ pl, pl < 3 → ∀ mu, mu < 3 → (∀ j, j < 107 → zb_F 2 h pl mu j = sb_b (zp_b (zx_2 (1 + 2) (2 + 2 + h) pl mu) j)) ∧ ∀ j, j < 13 → zp_b (zx_2 (1 + 2) (2 + 2 + h) pl mu) (107 + j) = 32 := by decide +kernel
theorem zb_3 : ∀ h, h < 4 → ∀ pl, pl < 3 → ∀ mu, mu < 3 → (∀ j, j < 107 → zb_F 3 h pl mu j = sb_b (zp_b (zx_2 (1 + 3) (2 + 3 + h) pl mu) j)) ∧ ∀ j, j < 13 → zp_b (zx_2 (1 + 3) (2 + 3 + h) pl mu) (107 + j) = 32 := by decide +kernel
theorem zb_ok {lo h pl mu : Nat} (h1 : lo < 4) (h2 : h < 4) (h3 : pl < 3) (h4 : mu < 3) : (∀ j, j < 107 → zb_F lo h pl mu j = sb_b (zp_b (zx_2 (1 + lo) (2 + lo + h) pl mu) j)) ∧ ∀ j, j < 13 → zp_b (zx_2 (1 + lo) (2 + lo + h) pl mu) (107 + j) = 32 := by
  rcases (show lo = 0 ∨ lo = 1 ∨ lo = 2 ∨ lo = 3 by omega) with rfl | rfl | rfl | rfl
  · exact zb_0 h h2 pl h3 mu h4
  · exact zb_1 h h2 pl h3 mu h4
  · exact zb_2 h h2 pl h3 mu h4
  · exact zb_3 h h2 pl h3 mu h4
theorem zb_t1 : ∀ j, j < 80 → zc_b39.getD j 0 = sb_b (zp_b zx_1 j) := by decide +kernel
theorem zb_t3 : (∀ j, j < 106 → zc_b111.getD j 0 = sb_b (zp_b zx_3 j)) ∧ ∀ j, j < 14 → zp_b zx_3 (106 + j) = 32 := by decide +kernel
theorem zb_t4 : ∀ j, j < 40 → zc_b139.getD j 0 = sb_b (zp_b zx_4 j) := by decide +kernel
