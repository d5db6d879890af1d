/-! more rows for literals and switches; the places of the methods (printed by wip/whole/gen/gen18.py) -/
section JGC
variable {w d d' a b f ci n : Nat} {M M1 : mj_Inf} {pc pc' : Nat} {ls ls' st st' As : List Value} {σ τ : jg_M} {Q Q' : Option Value → jg_M → Prop} {i : Instr} {x y z xi : Int}
theorem jg_lcst {k : Fin 2} (hf : mj_find M.2.2.2.2.2.2.2 pc = some (.lconst k, a, b, f)) (hp : pc + 1 = pc') (hx : Int64.ofNat k.val = Int64.ofInt x) (kk : jg_G w d M pc' ls (.long (.ofInt x) :: st) σ Q) : jg_G w d M pc ls st σ Q :=
  jg_A hf rfl (fun _ _ _ => by subst hp; simp only [mj_stA, hx]) kk
theorem jg_ialdK {r : Nat} (hf : mj_find M.2.2.2.2.2.2.2 pc = some (.iaload, a, b, f)) (hs : jg_sh r = (20, n)) (hx : jg_wr x = xi) (hi : 0 ≤ xi ∧ xi < (n : Int)) (hp : pc + 1 = pc') (kk : jg_G w d M pc' ls (.int (.ofInt (σ.1 r xi)) :: st) σ Q) : jg_G w d M pc ls (.int (.ofInt x) :: .ref r :: st) σ Q := by
  subst hx; exact jg_iald hf hs hi hp kk
theorem jg_zaldK {r : Nat} (hf : mj_find M.2.2.2.2.2.2.2 pc = some (.baload, a, b, f)) (hs : jg_sh r = (22, n)) (hx : jg_wr x = xi) (hi : 0 ≤ xi ∧ xi < (n : Int)) (hp : pc + 1 = pc') (kk : jg_G w d M pc' ls (.int (.ofInt (σ.1 r xi)) :: st) σ Q) : jg_G w d M pc ls (.int (.ofInt x) :: .ref r :: st) σ Q := by
  subst hx; exact jg_zald hf hs hi hp kk
theorem jg_iastK {r : Nat} (hf : mj_find M.2.2.2.2.2.2.2 pc = some (.iastore, a, b, f)) (hs : jg_sh r = (20, n)) (hx : jg_wr x = xi) (hi : 0 ≤ xi ∧ xi < (n : Int)) (hp : pc + 1 = pc') (kk : ∀ τ, τ = jg_sI σ r xi y → jg_G w d M pc' ls st τ Q) : jg_G w d M pc ls (.int (.ofInt y) :: .int (.ofInt x) :: .ref r :: st) σ Q := by
  subst hx; exact jg_iast hf hs hi hp kk
theorem jg_zastK {r : Nat} (hf : mj_find M.2.2.2.2.2.2.2 pc = some (.bastore, a, b, f)) (hs : jg_sh r = (22, n)) (hx : jg_wr x = xi) (hi : 0 ≤ xi ∧ xi < (n : Int)) (hp : pc + 1 = pc') (kk : ∀ τ, τ = jg_sI σ r xi (jg_nar y) → jg_G w d M pc' ls st τ Q) : jg_G w d M pc ls (.int (.ofInt y) :: .int (.ofInt x) :: .ref r :: st) σ Q := by
  subst hx; exact jg_zast hf hs hi hp kk
theorem jg_swc {F : Nat → Prop} {l : List (Int × Nat)} {v : Int} {t e : Nat} (h1 : jg_wr x = v → F t) (h2 : ¬ jg_wr x = v → jg_sw x l e F) : jg_sw x ((v, t) :: l) e F := ⟨h1, h2⟩
theorem jg_la_get {dd : Int} : ∀ (l : List (Int × Int)), ((pc : Int) + Op.lookupswitch.offset l dd (jg_wr x)).toNat = jg_tsg x (jg_la pc l) ((pc : Int) + dd).toNat
  | [] => rfl
  | (v, o) :: l => by
    rw [Op.lookupswitch.offset_cons]
    unfold jg_la
    rw [List.map_cons]
    unfold jg_tsg
    by_cases hc : v = jg_wr x
    · rw [if_pos hc, if_pos hc.symm]
    · rw [if_neg hc, if_neg (fun q => hc q.symm)]
      exact jg_la_get l
theorem jg_lsw {dd : Int} {ps : Array (Int × Int)} (hf : mj_find M.2.2.2.2.2.2.2 pc = some (.lookupswitch dd ps, a, b, f)) (kk : jg_sw x (jg_la pc ps.toList) ((pc : Int) + dd).toNat (fun t => jg_G w d M t ls st σ Q)) : jg_G w d M pc ls (.int (.ofInt x) :: st) σ Q := by
  refine jg_switch hf rfl (fun hp sz sl => ?_) kk
  unfold mj_stC
  dsimp only
  rw [← jg_la_get]
  rfl
end JGC
set_option maxRecDepth 20000 in
theorem jm_X0_init : mj_ms[0]? = some mm_X0_init := rfl
set_option maxRecDepth 20000 in
theorem jm_X0_forget : mj_ms[1]? = some mm_X0_forget := rfl
set_option maxRecDepth 20000 in
theorem jm_X0_copy : mj_ms[2]? = some mm_X0_copy := rfl
set_option maxRecDepth 20000 in
theorem jm_X0_hasToken : mj_ms[3]? = some mm_X0_hasToken := rfl
set_option maxRecDepth 20000 in
theorem jm_X0_hasKind : mj_ms[4]? = some mm_X0_hasKind := rfl
set_option maxRecDepth 20000 in
theorem jm_X0_hasRule : mj_ms[5]? = some mm_X0_hasRule := rfl
set_option maxRecDepth 20000 in
theorem jm_X0_hasSymbol : mj_ms[6]? = some mm_X0_hasSymbol := rfl
set_option maxRecDepth 20000 in
theorem jm_X0_hasTerminal : mj_ms[7]? = some mm_X0_hasTerminal := rfl
set_option maxRecDepth 20000 in
theorem jm_X0_uses : mj_ms[8]? = some mm_X0_uses := rfl
set_option maxRecDepth 20000 in
theorem jm_X0_symbolNamed : mj_ms[9]? = some mm_X0_symbolNamed := rfl
set_option maxRecDepth 20000 in
theorem jm_X0_addToken : mj_ms[10]? = some mm_X0_addToken := rfl
set_option maxRecDepth 20000 in
theorem jm_X0_addKind : mj_ms[11]? = some mm_X0_addKind := rfl
set_option maxRecDepth 20000 in
theorem jm_X0_beginRule : mj_ms[12]? = some mm_X0_beginRule := rfl
set_option maxRecDepth 20000 in
theorem jm_X0_addSymbol : mj_ms[13]? = some mm_X0_addSymbol := rfl
set_option maxRecDepth 20000 in
theorem jm_X0_ruleIsFull : mj_ms[14]? = some mm_X0_ruleIsFull := rfl
set_option maxRecDepth 20000 in
theorem jm_X0_addRule : mj_ms[15]? = some mm_X0_addRule := rfl
set_option maxRecDepth 20000 in
theorem jm_X0_isSameAsBegun : mj_ms[16]? = some mm_X0_isSameAsBegun := rfl
set_option maxRecDepth 20000 in
theorem jm_X0_kindOf : mj_ms[17]? = some mm_X0_kindOf := rfl
set_option maxRecDepth 20000 in
theorem jm_X0_lengthOf : mj_ms[18]? = some mm_X0_lengthOf := rfl
set_option maxRecDepth 20000 in
theorem jm_X0_symbolAt : mj_ms[19]? = some mm_X0_symbolAt := rfl
set_option maxRecDepth 20000 in
theorem jm_X0_itemAtEnd : mj_ms[20]? = some mm_X0_itemAtEnd := rfl
set_option maxRecDepth 20000 in
theorem jm_X0_rankOf : mj_ms[21]? = some mm_X0_rankOf := rfl
set_option maxRecDepth 20000 in
theorem jm_X0_rankOfToken : mj_ms[22]? = some mm_X0_rankOfToken := rfl
set_option maxRecDepth 20000 in
theorem jm_X0_sideOfToken : mj_ms[23]? = some mm_X0_sideOfToken := rfl
set_option maxRecDepth 20000 in
theorem jm_X0_rulesOf : mj_ms[24]? = some mm_X0_rulesOf := rfl
set_option maxRecDepth 20000 in
theorem jm_X0_isEmpty : mj_ms[25]? = some mm_X0_isEmpty := rfl
set_option maxRecDepth 20000 in
theorem jm_X0_followOf : mj_ms[26]? = some mm_X0_followOf := rfl
set_option maxRecDepth 20000 in
theorem jm_X0_isEmptyFrom : mj_ms[27]? = some mm_X0_isEmptyFrom := rfl
set_option maxRecDepth 20000 in
theorem jm_X0_firstFrom : mj_ms[28]? = some mm_X0_firstFrom := rfl
set_option maxRecDepth 20000 in
theorem jm_X0_settleEmpties : mj_ms[29]? = some mm_X0_settleEmpties := rfl
set_option maxRecDepth 20000 in
theorem jm_X0_settleFirsts : mj_ms[30]? = some mm_X0_settleFirsts := rfl
set_option maxRecDepth 20000 in
theorem jm_X0_settleFollows : mj_ms[31]? = some mm_X0_settleFollows := rfl
set_option maxRecDepth 20000 in
theorem jm_X0_widenFollowsBy : mj_ms[32]? = some mm_X0_widenFollowsBy := rfl
set_option maxRecDepth 20000 in
theorem jm_X0_widen : mj_ms[33]? = some mm_X0_widen := rfl
set_option maxRecDepth 20000 in
theorem jm_X1_init : mj_ms[34]? = some mm_X1_init := rfl
set_option maxRecDepth 20000 in
theorem jm_X1_forget : mj_ms[35]? = some mm_X1_forget := rfl
set_option maxRecDepth 20000 in
theorem jm_X1_addNote : mj_ms[36]? = some mm_X1_addNote := rfl
set_option maxRecDepth 20000 in
theorem jm_X1_addStrike : mj_ms[37]? = some mm_X1_addStrike := rfl
set_option maxRecDepth 20000 in
theorem jm_X1_limit : mj_ms[38]? = some mm_X1_limit := rfl
set_option maxRecDepth 20000 in
theorem jm_X1_knownBy : mj_ms[39]? = some mm_X1_knownBy := rfl
set_option maxRecDepth 20000 in
theorem jm_X1_knownNotes : mj_ms[40]? = some mm_X1_knownNotes := rfl
set_option maxRecDepth 20000 in
theorem jm_X2_init : mj_ms[41]? = some mm_X2_init := rfl
set_option maxRecDepth 20000 in
theorem jm_X2_make : mj_ms[42]? = some mm_X2_make := rfl
set_option maxRecDepth 20000 in
theorem jm_X2_lay : mj_ms[43]? = some mm_X2_lay := rfl
set_option maxRecDepth 20000 in
theorem jm_X2_hasRoom : mj_ms[44]? = some mm_X2_hasRoom := rfl
set_option maxRecDepth 20000 in
theorem jm_X2_layAt : mj_ms[45]? = some mm_X2_layAt := rfl
set_option maxRecDepth 20000 in
theorem jm_X2_actionAt : mj_ms[46]? = some mm_X2_actionAt := rfl
set_option maxRecDepth 20000 in
theorem jm_X3_init : mj_ms[47]? = some mm_X3_init := rfl
set_option maxRecDepth 20000 in
theorem jm_X3_forget : mj_ms[48]? = some mm_X3_forget := rfl
set_option maxRecDepth 20000 in
theorem jm_X3_add : mj_ms[49]? = some mm_X3_add := rfl
set_option maxRecDepth 20000 in
theorem jm_X3_takeBack : mj_ms[50]? = some mm_X3_takeBack := rfl
set_option maxRecDepth 20000 in
theorem jm_X4_init : mj_ms[51]? = some mm_X4_init := rfl
set_option maxRecDepth 20000 in
theorem jm_X4_make : mj_ms[52]? = some mm_X4_make := rfl
set_option maxRecDepth 20000 in
theorem jm_X4_numberMoves : mj_ms[53]? = some mm_X4_numberMoves := rfl
set_option maxRecDepth 20000 in
theorem jm_X4_numberOf : mj_ms[54]? = some mm_X4_numberOf := rfl
set_option maxRecDepth 20000 in
theorem jm_X4_relate : mj_ms[55]? = some mm_X4_relate := rfl
set_option maxRecDepth 20000 in
theorem jm_X4_walk : mj_ms[56]? = some mm_X4_walk := rfl
set_option maxRecDepth 20000 in
theorem jm_X4_include : mj_ms[57]? = some mm_X4_include := rfl
set_option maxRecDepth 20000 in
theorem jm_X4_inRow : mj_ms[58]? = some mm_X4_inRow := rfl
set_option maxRecDepth 20000 in
theorem jm_X4_settleAfters : mj_ms[59]? = some mm_X4_settleAfters := rfl
set_option maxRecDepth 20000 in
theorem jm_X4_tokensFrom : mj_ms[60]? = some mm_X4_tokensFrom := rfl
set_option maxRecDepth 20000 in
theorem jm_X4_aftersRead : mj_ms[61]? = some mm_X4_aftersRead := rfl
set_option maxRecDepth 20000 in
theorem jm_X4_aftersIncluded : mj_ms[62]? = some mm_X4_aftersIncluded := rfl
set_option maxRecDepth 20000 in
theorem jm_X4_afterMove : mj_ms[63]? = some mm_X4_afterMove := rfl
set_option maxRecDepth 20000 in
theorem jm_X4_rings : mj_ms[64]? = some mm_X4_rings := rfl
set_option maxRecDepth 20000 in
theorem jm_X4_reachBySteps : mj_ms[65]? = some mm_X4_reachBySteps := rfl
set_option maxRecDepth 20000 in
theorem jm_X4_leadsRing : mj_ms[66]? = some mm_X4_leadsRing := rfl
set_option maxRecDepth 20000 in
theorem jm_X5_init : mj_ms[67]? = some mm_X5_init := rfl
set_option maxRecDepth 20000 in
theorem jm_X5_copy : mj_ms[68]? = some mm_X5_copy := rfl
set_option maxRecDepth 20000 in
theorem jm_X5_begin : mj_ms[69]? = some mm_X5_begin := rfl
set_option maxRecDepth 20000 in
theorem jm_X5_stateBehindLast : mj_ms[70]? = some mm_X5_stateBehindLast := rfl
set_option maxRecDepth 20000 in
theorem jm_X5_take : mj_ms[71]? = some mm_X5_take := rfl
set_option maxRecDepth 20000 in
theorem jm_X5_reduceBy : mj_ms[72]? = some mm_X5_reduceBy := rfl
set_option maxRecDepth 20000 in
theorem jm_X5_add : mj_ms[73]? = some mm_X5_add := rfl
set_option maxRecDepth 20000 in
theorem jm_X6_init : mj_ms[74]? = some mm_X6_init := rfl
set_option maxRecDepth 20000 in
theorem jm_X6_make : mj_ms[75]? = some mm_X6_make := rfl
set_option maxRecDepth 20000 in
theorem jm_X6_settleKinds : mj_ms[76]? = some mm_X6_settleKinds := rfl
set_option maxRecDepth 20000 in
theorem jm_X6_tryRule : mj_ms[77]? = some mm_X6_tryRule := rfl
set_option maxRecDepth 20000 in
theorem jm_X6_settleStates : mj_ms[78]? = some mm_X6_settleStates := rfl
set_option maxRecDepth 20000 in
theorem jm_X6_improveBy : mj_ms[79]? = some mm_X6_improveBy := rfl
set_option maxRecDepth 20000 in
theorem jm_X6_lengthen : mj_ms[80]? = some mm_X6_lengthen := rfl
set_option maxRecDepth 20000 in
theorem jm_X6_improves : mj_ms[81]? = some mm_X6_improves := rfl
set_option maxRecDepth 20000 in
theorem jm_X6_tokenOfKind : mj_ms[82]? = some mm_X6_tokenOfKind := rfl
set_option maxRecDepth 20000 in
theorem jm_X7_init : mj_ms[83]? = some mm_X7_init := rfl
set_option maxRecDepth 20000 in
theorem jm_X7_has : mj_ms[84]? = some mm_X7_has := rfl
set_option maxRecDepth 20000 in
theorem jm_X7_hasItem : mj_ms[85]? = some mm_X7_hasItem := rfl
set_option maxRecDepth 20000 in
theorem jm_X7_moveBy : mj_ms[86]? = some mm_X7_moveBy := rfl
set_option maxRecDepth 20000 in
theorem jm_X7_behind : mj_ms[87]? = some mm_X7_behind := rfl
set_option maxRecDepth 20000 in
theorem jm_X7_itemsInAll : mj_ms[88]? = some mm_X7_itemsInAll := rfl
set_option maxRecDepth 20000 in
theorem jm_X7_movesInAll : mj_ms[89]? = some mm_X7_movesInAll := rfl
set_option maxRecDepth 20000 in
theorem jm_X7_make : mj_ms[90]? = some mm_X7_make := rfl
set_option maxRecDepth 20000 in
theorem jm_X7_prepareItems : mj_ms[91]? = some mm_X7_prepareItems := rfl
set_option maxRecDepth 20000 in
theorem jm_X7_prepareRule : mj_ms[92]? = some mm_X7_prepareRule := rfl
set_option maxRecDepth 20000 in
theorem jm_X7_numberOf : mj_ms[93]? = some mm_X7_numberOf := rfl
set_option maxRecDepth 20000 in
theorem jm_X7_closed : mj_ms[94]? = some mm_X7_closed := rfl
set_option maxRecDepth 20000 in
theorem jm_X7_spread : mj_ms[95]? = some mm_X7_spread := rfl
set_option maxRecDepth 20000 in
theorem jm_X7_spreadIn : mj_ms[96]? = some mm_X7_spreadIn := rfl
set_option maxRecDepth 20000 in
theorem jm_X7_spreadFrom : mj_ms[97]? = some mm_X7_spreadFrom := rfl
set_option maxRecDepth 20000 in
theorem jm_X7_widen : mj_ms[98]? = some mm_X7_widen := rfl
set_option maxRecDepth 20000 in
theorem jm_X8_init : mj_ms[99]? = some mm_X8_init := rfl
set_option maxRecDepth 20000 in
theorem jm_X8_make : mj_ms[100]? = some mm_X8_make := rfl
set_option maxRecDepth 20000 in
theorem jm_X8_gatherReduces : mj_ms[101]? = some mm_X8_gatherReduces := rfl
set_option maxRecDepth 20000 in
theorem jm_X8_decide : mj_ms[102]? = some mm_X8_decide := rfl
set_option maxRecDepth 20000 in
theorem jm_X8_actionBySide : mj_ms[103]? = some mm_X8_actionBySide := rfl
set_option maxRecDepth 20000 in
theorem jm_X8_leastOf : mj_ms[104]? = some mm_X8_leastOf := rfl
set_option maxRecDepth 20000 in
theorem jm_X8_actionFor : mj_ms[105]? = some mm_X8_actionFor := rfl
set_option maxRecDepth 20000 in
theorem jm_X8_actionsIn : mj_ms[106]? = some mm_X8_actionsIn := rfl
set_option maxRecDepth 20000 in
theorem jm_X8_actionsInAll : mj_ms[107]? = some mm_X8_actionsInAll := rfl
set_option maxRecDepth 20000 in
theorem jm_X8_conflictCount : mj_ms[108]? = some mm_X8_conflictCount := rfl
set_option maxRecDepth 20000 in
theorem jm_X8_cellOfConflict : mj_ms[109]? = some mm_X8_cellOfConflict := rfl
set_option maxRecDepth 20000 in
theorem jm_X8_ruleOfConflict : mj_ms[110]? = some mm_X8_ruleOfConflict := rfl
set_option maxRecDepth 20000 in
theorem jm_X9_init : mj_ms[111]? = some mm_X9_init := rfl
set_option maxRecDepth 20000 in
theorem jm_X9_blame : mj_ms[112]? = some mm_X9_blame := rfl
set_option maxRecDepth 20000 in
theorem jm_X9_refuse : mj_ms[113]? = some mm_X9_refuse := rfl
set_option maxRecDepth 20000 in
theorem jm_X9_linesOf : mj_ms[114]? = some mm_X9_linesOf := rfl
set_option maxRecDepth 20000 in
theorem jm_X9_takeLine : mj_ms[115]? = some mm_X9_takeLine := rfl
set_option maxRecDepth 20000 in
theorem jm_X9_takeToken : mj_ms[116]? = some mm_X9_takeToken := rfl
set_option maxRecDepth 20000 in
theorem jm_X9_takeKind : mj_ms[117]? = some mm_X9_takeKind := rfl
set_option maxRecDepth 20000 in
theorem jm_X9_isNewName : mj_ms[118]? = some mm_X9_isNewName := rfl
set_option maxRecDepth 20000 in
theorem jm_X9_takeRule : mj_ms[119]? = some mm_X9_takeRule := rfl
set_option maxRecDepth 20000 in
theorem jm_X9_takeSymbol : mj_ms[120]? = some mm_X9_takeSymbol := rfl
set_option maxRecDepth 20000 in
theorem jm_X9_takeRank : mj_ms[121]? = some mm_X9_takeRank := rfl
set_option maxRecDepth 20000 in
theorem jm_X9_takeName : mj_ms[122]? = some mm_X9_takeName := rfl
set_option maxRecDepth 20000 in
theorem jm_X9_takeNumber : mj_ms[123]? = some mm_X9_takeNumber := rfl
set_option maxRecDepth 20000 in
theorem jm_X9_takeLineEnd : mj_ms[124]? = some mm_X9_takeLineEnd := rfl
set_option maxRecDepth 20000 in
theorem jm_X9_isName : mj_ms[125]? = some mm_X9_isName := rfl
set_option maxRecDepth 20000 in
theorem jm_X9_advance : mj_ms[126]? = some mm_X9_advance := rfl
set_option maxRecDepth 20000 in
theorem jm_X9_passWord : mj_ms[127]? = some mm_X9_passWord := rfl
set_option maxRecDepth 20000 in
theorem jm_X9_passNumber : mj_ms[128]? = some mm_X9_passNumber := rfl
set_option maxRecDepth 20000 in
theorem jm_X9_signAt : mj_ms[129]? = some mm_X9_signAt := rfl
set_option maxRecDepth 20000 in
theorem jm_X9_isBlank : mj_ms[130]? = some mm_X9_isBlank := rfl
set_option maxRecDepth 20000 in
theorem jm_X9_isLetter : mj_ms[131]? = some mm_X9_isLetter := rfl
set_option maxRecDepth 20000 in
theorem jm_X9_isDigit : mj_ms[132]? = some mm_X9_isDigit := rfl
set_option maxRecDepth 20000 in
theorem jm_X10_init : mj_ms[133]? = some mm_X10_init := rfl
set_option maxRecDepth 20000 in
theorem jm_X10_forget : mj_ms[134]? = some mm_X10_forget := rfl
set_option maxRecDepth 20000 in
theorem jm_X10_placeOf : mj_ms[135]? = some mm_X10_placeOf := rfl
set_option maxRecDepth 20000 in
theorem jm_X10_learn : mj_ms[136]? = some mm_X10_learn := rfl
set_option maxRecDepth 20000 in
theorem jm_X10_mark : mj_ms[137]? = some mm_X10_mark := rfl
set_option maxRecDepth 20000 in
theorem jm_X10_withoutsAt : mj_ms[138]? = some mm_X10_withoutsAt := rfl
set_option maxRecDepth 20000 in
theorem jm_X10_missingBy : mj_ms[139]? = some mm_X10_missingBy := rfl
set_option maxRecDepth 20000 in
theorem jm_X11_init : mj_ms[140]? = some mm_X11_init := rfl
set_option maxRecDepth 20000 in
theorem jm_X11_feed : mj_ms[141]? = some mm_X11_feed := rfl
set_option maxRecDepth 20000 in
theorem jm_X11_putBytes : mj_ms[142]? = some mm_X11_putBytes := rfl
set_option maxRecDepth 20000 in
theorem jm_X11_text : mj_ms[143]? = some mm_X11_text := rfl
set_option maxRecDepth 20000 in
theorem jm_X11_takeSpare : mj_ms[144]? = some mm_X11_takeSpare := rfl
set_option maxRecDepth 20000 in
theorem jm_X11_rule : mj_ms[145]? = some mm_X11_rule := rfl
set_option maxRecDepth 20000 in
theorem jm_X11_state : mj_ms[146]? = some mm_X11_state := rfl
set_option maxRecDepth 20000 in
theorem jm_X11_action : mj_ms[147]? = some mm_X11_action := rfl
set_option maxRecDepth 20000 in
theorem jm_X11_look : mj_ms[148]? = some mm_X11_look := rfl
set_option maxRecDepth 20000 in
theorem jm_X11_after : mj_ms[149]? = some mm_X11_after := rfl
set_option maxRecDepth 20000 in
theorem jm_X11_relations : mj_ms[150]? = some mm_X11_relations := rfl
set_option maxRecDepth 20000 in
theorem jm_X11_conflicts : mj_ms[151]? = some mm_X11_conflicts := rfl
set_option maxRecDepth 20000 in
theorem jm_X11_conflict : mj_ms[152]? = some mm_X11_conflict := rfl
set_option maxRecDepth 20000 in
theorem jm_X11_shortest : mj_ms[153]? = some mm_X11_shortest := rfl
set_option maxRecDepth 20000 in
theorem jm_X11_sentences : mj_ms[154]? = some mm_X11_sentences := rfl
set_option maxRecDepth 20000 in
theorem jm_X11_sentencesFrom : mj_ms[155]? = some mm_X11_sentencesFrom := rfl
set_option maxRecDepth 20000 in
theorem jm_X11_hasStates : mj_ms[156]? = some mm_X11_hasStates := rfl
set_option maxRecDepth 20000 in
theorem jm_X11_read : mj_ms[157]? = some mm_X11_read := rfl
set_option maxRecDepth 20000 in
theorem jm_X11_whole : mj_ms[158]? = some mm_X11_whole := rfl
set_option maxRecDepth 20000 in
theorem jm_X11_expected : mj_ms[159]? = some mm_X11_expected := rfl
set_option maxRecDepth 20000 in
theorem jm_X11_stack : mj_ms[160]? = some mm_X11_stack := rfl
set_option maxRecDepth 20000 in
theorem jm_X11_game : mj_ms[161]? = some mm_X11_game := rfl
set_option maxRecDepth 20000 in
theorem jm_X11_winningToken : mj_ms[162]? = some mm_X11_winningToken := rfl
set_option maxRecDepth 20000 in
theorem jm_X11_note : mj_ms[163]? = some mm_X11_note := rfl
set_option maxRecDepth 20000 in
theorem jm_X11_strike : mj_ms[164]? = some mm_X11_strike := rfl
set_option maxRecDepth 20000 in
theorem jm_X11_known : mj_ms[165]? = some mm_X11_known := rfl
set_option maxRecDepth 20000 in
theorem jm_X11_missing : mj_ms[166]? = some mm_X11_missing := rfl
set_option maxRecDepth 20000 in
theorem jm_X11_tried : mj_ms[167]? = some mm_X11_tried := rfl
set_option maxRecDepth 20000 in
theorem jm_X11_canTry : mj_ms[168]? = some mm_X11_canTry := rfl
set_option maxRecDepth 20000 in
theorem jm_X11_undo : mj_ms[169]? = some mm_X11_undo := rfl
set_option maxRecDepth 20000 in
theorem jm_X11_keep : mj_ms[170]? = some mm_X11_keep := rfl
set_option maxRecDepth 20000 in
theorem jm_X11_back : mj_ms[171]? = some mm_X11_back := rfl
set_option maxRecDepth 20000 in
theorem jm_X11_count : mj_ms[172]? = some mm_X11_count := rfl
set_option maxRecDepth 20000 in
theorem jm_X11_inBits : mj_ms[173]? = some mm_X11_inBits := rfl
set_option maxRecDepth 20000 in
theorem jm_J6_bitCount_0f7a4 : mj_ms[174]? = some mm_J6_bitCount_0f7a4 := rfl
set_option maxRecDepth 20000 in
theorem jm_J13_bitCount_95d88 : mj_ms[175]? = some mm_J13_bitCount_95d88 := rfl
set_option maxRecDepth 20000 in
theorem jm_J7_fill_d0a16 : mj_ms[176]? = some mm_J7_fill_d0a16 := rfl
set_option maxRecDepth 20000 in
theorem jm_J7_fill_53178 : mj_ms[177]? = some mm_J7_fill_53178 := rfl
set_option maxRecDepth 20000 in
theorem jm_X11_kind : mj_ms[178]? = some mm_X11_kind := rfl
