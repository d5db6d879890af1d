/-! THE LAW'S TEXTS as numbers, what they tell (printed by wip/p40/gen/texts.py) -/
def zx_1 : Nat := 1059120208138117325975910298311778715785461964642942470007516150103209796275745726664537344315688136047134421796594370624411727319523084849703262754597270554598687904667234099586966876630773620
def zx_2 (lo hi p m : Nat) : Nat := 1222941366136470472828659750635368541861175176706535489102126717705553911677737262654947226386687250651539961567412648594543484790471957206193071062271975607894976489397901494008415250040928122918119147771436691455144177757688438416058762497718580730096235611528118310532356922431633059700 + (lo <<< 720 + (p <<< 736 + (hi <<< 824 + m <<< 840)))
def zx_3 : Nat := 1222941366136470472828659750635317948944536649464569472580400253788937872543454282013516715423864781613432746700537705435746571103305173189863328384432186548406791629039050489692624131936817228219427318324536567437547486665252198782696410140842939121712550040256780728385591934772230975348
def zx_4 : Nat := 495900162591166326106339812094947994491505870554321027021503446797317535480293225891513114521460
theorem zx_c1 : zp_ck zx_1 80 80 zg_1_d [0, 0, 0] [0, 0, 0] 7 = true := by decide +kernel
theorem zx_c3 : zp_ck zx_3 106 120 zg_3_d [0, 0, 0] [0, 0, 0] 11 = true := by decide +kernel
theorem zx_c4 : zp_ck zx_4 40 40 zg_4_d [0] [0] 5 = true := by decide +kernel
theorem zx_c2_00 : (List.range 3).all (fun p => (List.range 3).all (fun m => zp_ck (zx_2 (1 + 0) (2 + 0 + 0) p m) 107 120 zg_1_d [1 + 0, 2 + 0 + 0, 0] [p, m, 0] 9)) = true := by decide +kernel
theorem zx_c2_01 : (List.range 3).all (fun p => (List.range 3).all (fun m => zp_ck (zx_2 (1 + 0) (2 + 0 + 1) p m) 107 120 zg_1_d [1 + 0, 2 + 0 + 1, 0] [p, m, 0] 9)) = true := by decide +kernel
theorem zx_c2_02 : (List.range 3).all (fun p => (List.range 3).all (fun m => zp_ck (zx_2 (1 + 0) (2 + 0 + 2) p m) 107 120 zg_1_d [1 + 0, 2 + 0 + 2, 0] [p, m, 0] 9)) = true := by decide +kernel
theorem zx_c2_03 : (List.range 3).all (fun p => (List.range 3).all (fun m => zp_ck (zx_2 (1 + 0) (2 + 0 + 3) p m) 107 120 zg_1_d [1 + 0, 2 + 0 + 3, 0] [p, m, 0] 9)) = true := by decide +kernel
theorem zx_c2_10 : (List.range 3).all (fun p => (List.range 3).all (fun m => zp_ck (zx_2 (1 + 1) (2 + 1 + 0) p m) 107 120 zg_1_d [1 + 1, 2 + 1 + 0, 0] [p, m, 0] 9)) = true := by decide +kernel
theorem zx_c2_11 : (List.range 3).all (fun p => (List.range 3).all (fun m => zp_ck (zx_2 (1 + 1) (2 + 1 + 1) p m) 107 120 zg_1_d [1 + 1, 2 + 1 + 1, 0] [p, m, 0] 9)) = true := by decide +kernel
theorem zx_c2_12 : (List.range 3).all (fun p => (List.range 3).all (fun m => zp_ck (zx_2 (1 + 1) (2 + 1 + 2) p m) 107 120 zg_1_d [1 + 1, 2 + 1 + 2, 0] [p, m, 0] 9)) = true := by decide +kernel
theorem zx_c2_13 : (List.range 3).all (fun p => (List.range 3).all (fun m => zp_ck (zx_2 (1 + 1) (2 + 1 + 3) p m) 107 120 zg_1_d [1 + 1, 2 + 1 + 3, 0] [p, m, 0] 9)) = true := by decide +kernel
theorem zx_c2_20 : (List.range 3).all (fun p => (List.range 3).all (fun m => zp_ck (zx_2 (1 + 2) (2 + 2 + 0) p m) 107 120 zg_1_d [1 + 2, 2 + 2 + 0, 0] [p, m, 0] 9)) = true := by decide +kernel
theorem zx_c2_21 : (List.range 3).all (fun p => (List.range 3).all (fun m => zp_ck (zx_2 (1 + 2) (2 + 2 + 1) p m) 107 120 zg_1_d [1 + 2, 2 + 2 + 1, 0] [p, m, 0] 9)) = true := by decide +kernel
theorem zx_c2_22 : (List.range 3).all (fun p => (List.range 3).all (fun m => zp_ck (zx_2 (1 + 2) (2 + 2 + 2) p m) 107 120 zg_1_d [1 + 2, 2 + 2 + 2, 0] [p, m, 0] 9)) = true := by decide +kernel
theorem zx_c2_23 : (List.range 3).all (fun p => (List.range 3).all (fun m => zp_ck (zx_2 (1 + 2) (2 + 2 + 3) p m) 107 120 zg_1_d [1 + 2, 2 + 2 + 3, 0] [p, m, 0] 9)) = true := by decide +kernel
theorem zx_c2_30 : (List.range 3).all (fun p => (List.range 3).all (fun m => zp_ck (zx_2 (1 + 3) (2 + 3 + 0) p m) 107 120 zg_1_d [1 + 3, 2 + 3 + 0, 0] [p, m, 0] 9)) = true := by decide +kernel
theorem zx_c2_31 : (List.range 3).all (fun p => (List.range 3).all (fun m => zp_ck (zx_2 (1 + 3) (2 + 3 + 1) p m) 107 120 zg_1_d [1 + 3, 2 + 3 + 1, 0] [p, m, 0] 9)) = true := by decide +kernel
theorem zx_c2_32 : (List.range 3).all (fun p => (List.range 3).all (fun m => zp_ck (zx_2 (1 + 3) (2 + 3 + 2) p m) 107 120 zg_1_d [1 + 3, 2 + 3 + 2, 0] [p, m, 0] 9)) = true := by decide +kernel
theorem zx_c2_33 : (List.range 3).all (fun p => (List.range 3).all (fun m => zp_ck (zx_2 (1 + 3) (2 + 3 + 3) p m) 107 120 zg_1_d [1 + 3, 2 + 3 + 3, 0] [p, m, 0] 9)) = true := by decide +kernel
theorem zx_get {f : Nat → Nat → Bool} (h : (List.range 3).all (fun p => (List.range 3).all (f p)) = true) {p m : Nat} (hp : p < 3) (hm : m < 3) : f p m = true := List.all_eq_true.mp (List.all_eq_true.mp h p (List.mem_range.mpr hp)) m (List.mem_range.mpr hm)
theorem zx_c2 : ∀ (lo h : Nat) {p m : Nat}, lo < 4 → h < 4 → p < 3 → m < 3 → zp_ck (zx_2 (1 + lo) (2 + lo + h) p m) 107 120 zg_1_d [1 + lo, 2 + lo + h, 0] [p, m, 0] 9 = true
  | 0, 0, _, _, _, _, hp, hm => zx_get zx_c2_00 hp hm
  | 0, 1, _, _, _, _, hp, hm => zx_get zx_c2_01 hp hm
  | 0, 2, _, _, _, _, hp, hm => zx_get zx_c2_02 hp hm
  | 0, 3, _, _, _, _, hp, hm => zx_get zx_c2_03 hp hm
  | 1, 0, _, _, _, _, hp, hm => zx_get zx_c2_10 hp hm
  | 1, 1, _, _, _, _, hp, hm => zx_get zx_c2_11 hp hm
  | 1, 2, _, _, _, _, hp, hm => zx_get zx_c2_12 hp hm
  | 1, 3, _, _, _, _, hp, hm => zx_get zx_c2_13 hp hm
  | 2, 0, _, _, _, _, hp, hm => zx_get zx_c2_20 hp hm
  | 2, 1, _, _, _, _, hp, hm => zx_get zx_c2_21 hp hm
  | 2, 2, _, _, _, _, hp, hm => zx_get zx_c2_22 hp hm
  | 2, 3, _, _, _, _, hp, hm => zx_get zx_c2_23 hp hm
  | 3, 0, _, _, _, _, hp, hm => zx_get zx_c2_30 hp hm
  | 3, 1, _, _, _, _, hp, hm => zx_get zx_c2_31 hp hm
  | 3, 2, _, _, _, _, hp, hm => zx_get zx_c2_32 hp hm
  | 3, 3, _, _, _, _, hp, hm => zx_get zx_c2_33 hp hm
  | 0, h + 4, _, _, _, hh, _, _ => absurd hh (by omega)
  | 1, h + 4, _, _, _, hh, _, _ => absurd hh (by omega)
  | 2, h + 4, _, _, _, hh, _, _ => absurd hh (by omega)
  | 3, h + 4, _, _, _, hh, _, _ => absurd hh (by omega)
  | lo + 4, _, _, _, hl, _, _, _ => absurd hl (by omega)
