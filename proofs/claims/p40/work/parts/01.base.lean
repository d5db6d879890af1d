-- ===== PART A: goes FIRST, ahead of the names: the tables' words, and 'selects' of the private methods out of them =====
/-- a private method of a class that the tables say can be made, by its rows of tables_1 -/
def lw_okq (q : MethodName × Nat) : Prop := (q.1.cls ≠ "java/lang/invoke/MethodHandle" ∧ q.1.cls ≠ "java/lang/invoke/VarHandle") ∧ Cond.instantiable q.1.cls q.2 ∈ tables_1 ∧ Cond.privateMethod q.1 ∈ tables_1 ∧ Cond.instanceMethod q.1 ∈ tables_1
theorem lw_p0 : lw_okq (⟨"java/lang/Throwable", "fillInStackTrace", "(I)Ljava/lang/Throwable;"⟩, 6) := ⟨⟨by decide +kernel, by decide +kernel⟩, List.mem_of_getElem? (i := 509) (by decide +kernel), List.mem_of_getElem? (i := 507) (by decide +kernel), List.mem_of_getElem? (i := 508) (by decide +kernel)⟩
theorem lw_p1 : lw_okq (⟨"LalrDesk$Relations", "numberOf", "(II)I"⟩, 10) := ⟨⟨by decide +kernel, by decide +kernel⟩, List.mem_of_getElem? (i := 231) (by decide +kernel), List.mem_of_getElem? (i := 655) (by decide +kernel), List.mem_of_getElem? (i := 656) (by decide +kernel)⟩
theorem lw_p2 : lw_okq (⟨"LalrDesk$Relations", "reachBySteps", "()V"⟩, 10) := ⟨⟨by decide +kernel, by decide +kernel⟩, List.mem_of_getElem? (i := 231) (by decide +kernel), List.mem_of_getElem? (i := 667) (by decide +kernel), List.mem_of_getElem? (i := 668) (by decide +kernel)⟩
theorem lw_p3 : lw_okq (⟨"LalrDesk$Relations", "leadsRing", "(I)Z"⟩, 10) := ⟨⟨by decide +kernel, by decide +kernel⟩, List.mem_of_getElem? (i := 231) (by decide +kernel), List.mem_of_getElem? (i := 678) (by decide +kernel), List.mem_of_getElem? (i := 679) (by decide +kernel)⟩
theorem lw_p4 : lw_okq (⟨"LalrDesk$Row", "add", "(I)Z"⟩, 5) := ⟨⟨by decide +kernel, by decide +kernel⟩, List.mem_of_getElem? (i := 319) (by decide +kernel), List.mem_of_getElem? (i := 725) (by decide +kernel), List.mem_of_getElem? (i := 726) (by decide +kernel)⟩
theorem lw_p5 : lw_okq (⟨"LalrDesk$Row", "reduceBy", "(LLalrDesk$Tables;I)Z"⟩, 5) := ⟨⟨by decide +kernel, by decide +kernel⟩, List.mem_of_getElem? (i := 319) (by decide +kernel), List.mem_of_getElem? (i := 746) (by decide +kernel), List.mem_of_getElem? (i := 747) (by decide +kernel)⟩
theorem lw_p6 : lw_okq (⟨"LalrDesk", "hasStates", "()Z"⟩, 15) := ⟨⟨by decide +kernel, by decide +kernel⟩, List.mem_of_getElem? (i := 32) (by decide +kernel), List.mem_of_getElem? (i := 761) (by decide +kernel), List.mem_of_getElem? (i := 762) (by decide +kernel)⟩
theorem lw_p7 : lw_okq (⟨"LalrDesk$Grammar", "widen", "([III)Z"⟩, 14) := ⟨⟨by decide +kernel, by decide +kernel⟩, List.mem_of_getElem? (i := 81) (by decide +kernel), List.mem_of_getElem? (i := 866) (by decide +kernel), List.mem_of_getElem? (i := 867) (by decide +kernel)⟩
theorem lw_p8 : lw_okq (⟨"LalrDesk$Grammar", "widenFollowsBy", "(I)Z"⟩, 14) := ⟨⟨by decide +kernel, by decide +kernel⟩, List.mem_of_getElem? (i := 81) (by decide +kernel), List.mem_of_getElem? (i := 874) (by decide +kernel), List.mem_of_getElem? (i := 875) (by decide +kernel)⟩
theorem lw_p9 : lw_okq (⟨"LalrDesk$States", "prepareRule", "(LLalrDesk$Grammar;I)V"⟩, 12) := ⟨⟨by decide +kernel, by decide +kernel⟩, List.mem_of_getElem? (i := 155) (by decide +kernel), List.mem_of_getElem? (i := 893) (by decide +kernel), List.mem_of_getElem? (i := 894) (by decide +kernel)⟩
theorem lw_p10 : lw_okq (⟨"LalrDesk$States", "numberOf", "(JI)I"⟩, 12) := ⟨⟨by decide +kernel, by decide +kernel⟩, List.mem_of_getElem? (i := 155) (by decide +kernel), List.mem_of_getElem? (i := 907) (by decide +kernel), List.mem_of_getElem? (i := 908) (by decide +kernel)⟩
theorem lw_p11 : lw_okq (⟨"LalrDesk$States", "closed", "(J)J"⟩, 12) := ⟨⟨by decide +kernel, by decide +kernel⟩, List.mem_of_getElem? (i := 155) (by decide +kernel), List.mem_of_getElem? (i := 911) (by decide +kernel), List.mem_of_getElem? (i := 912) (by decide +kernel)⟩
theorem lw_p12 : lw_okq (⟨"LalrDesk$States", "widen", "(III)Z"⟩, 12) := ⟨⟨by decide +kernel, by decide +kernel⟩, List.mem_of_getElem? (i := 155) (by decide +kernel), List.mem_of_getElem? (i := 919) (by decide +kernel), List.mem_of_getElem? (i := 920) (by decide +kernel)⟩
theorem lw_p13 : lw_okq (⟨"LalrDesk$States", "spreadIn", "(I)Z"⟩, 12) := ⟨⟨by decide +kernel, by decide +kernel⟩, List.mem_of_getElem? (i := 155) (by decide +kernel), List.mem_of_getElem? (i := 924) (by decide +kernel), List.mem_of_getElem? (i := 925) (by decide +kernel)⟩
theorem lw_p14 : lw_okq (⟨"LalrDesk$States", "spreadFrom", "(II)Z"⟩, 12) := ⟨⟨by decide +kernel, by decide +kernel⟩, List.mem_of_getElem? (i := 155) (by decide +kernel), List.mem_of_getElem? (i := 928) (by decide +kernel), List.mem_of_getElem? (i := 929) (by decide +kernel)⟩
theorem lw_p15 : lw_okq (⟨"LalrDesk$Tables", "gatherReduces", "(IZ)V"⟩, 4) := ⟨⟨by decide +kernel, by decide +kernel⟩, List.mem_of_getElem? (i := 75) (by decide +kernel), List.mem_of_getElem? (i := 934) (by decide +kernel), List.mem_of_getElem? (i := 935) (by decide +kernel)⟩
def lw_privs_1 : List (MethodName × Nat) := [(⟨"java/lang/Throwable", "fillInStackTrace", "(I)Ljava/lang/Throwable;"⟩, 6), (⟨"LalrDesk$Relations", "numberOf", "(II)I"⟩, 10), (⟨"LalrDesk$Relations", "reachBySteps", "()V"⟩, 10), (⟨"LalrDesk$Relations", "leadsRing", "(I)Z"⟩, 10), (⟨"LalrDesk$Row", "add", "(I)Z"⟩, 5), (⟨"LalrDesk$Row", "reduceBy", "(LLalrDesk$Tables;I)Z"⟩, 5), (⟨"LalrDesk", "hasStates", "()Z"⟩, 15), (⟨"LalrDesk$Grammar", "widen", "([III)Z"⟩, 14), (⟨"LalrDesk$Grammar", "widenFollowsBy", "(I)Z"⟩, 14), (⟨"LalrDesk$States", "prepareRule", "(LLalrDesk$Grammar;I)V"⟩, 12), (⟨"LalrDesk$States", "numberOf", "(JI)I"⟩, 12), (⟨"LalrDesk$States", "closed", "(J)J"⟩, 12), (⟨"LalrDesk$States", "widen", "(III)Z"⟩, 12), (⟨"LalrDesk$States", "spreadIn", "(I)Z"⟩, 12), (⟨"LalrDesk$States", "spreadFrom", "(II)Z"⟩, 12), (⟨"LalrDesk$Tables", "gatherReduces", "(IZ)V"⟩, 4)]
theorem lw_r1 : ∀ q ∈ lw_privs_1, lw_okq q := List.forall_mem_cons.mpr ⟨lw_p0, List.forall_mem_cons.mpr ⟨lw_p1, List.forall_mem_cons.mpr ⟨lw_p2, List.forall_mem_cons.mpr ⟨lw_p3, List.forall_mem_cons.mpr ⟨lw_p4, List.forall_mem_cons.mpr ⟨lw_p5, List.forall_mem_cons.mpr ⟨lw_p6, List.forall_mem_cons.mpr ⟨lw_p7, List.forall_mem_cons.mpr ⟨lw_p8, List.forall_mem_cons.mpr ⟨lw_p9, List.forall_mem_cons.mpr ⟨lw_p10, List.forall_mem_cons.mpr ⟨lw_p11, List.forall_mem_cons.mpr ⟨lw_p12, List.forall_mem_cons.mpr ⟨lw_p13, List.forall_mem_cons.mpr ⟨lw_p14, List.forall_mem_cons.mpr ⟨lw_p15, fun _ h => absurd h List.not_mem_nil⟩⟩⟩⟩⟩⟩⟩⟩⟩⟩⟩⟩⟩⟩⟩⟩
theorem lw_p16 : lw_okq (⟨"LalrDesk$Tables", "decide", "(II)V"⟩, 4) := ⟨⟨by decide +kernel, by decide +kernel⟩, List.mem_of_getElem? (i := 75) (by decide +kernel), List.mem_of_getElem? (i := 943) (by decide +kernel), List.mem_of_getElem? (i := 944) (by decide +kernel)⟩
theorem lw_p17 : lw_okq (⟨"LalrDesk$Trials", "withoutsAt", "(I)I"⟩, 3) := ⟨⟨by decide +kernel, by decide +kernel⟩, List.mem_of_getElem? (i := 402) (by decide +kernel), List.mem_of_getElem? (i := 984) (by decide +kernel), List.mem_of_getElem? (i := 985) (by decide +kernel)⟩
theorem lw_p18 : lw_okq (⟨"LalrDesk", "canTry", "(II)Z"⟩, 15) := ⟨⟨by decide +kernel, by decide +kernel⟩, List.mem_of_getElem? (i := 32) (by decide +kernel), List.mem_of_getElem? (i := 992) (by decide +kernel), List.mem_of_getElem? (i := 993) (by decide +kernel)⟩
theorem lw_p19 : lw_okq (⟨"LalrDesk", "putBytes", "(I)V"⟩, 15) := ⟨⟨by decide +kernel, by decide +kernel⟩, List.mem_of_getElem? (i := 32) (by decide +kernel), List.mem_of_getElem? (i := 1100) (by decide +kernel), List.mem_of_getElem? (i := 1101) (by decide +kernel)⟩
theorem lw_p20 : lw_okq (⟨"LalrDesk$TextParser", "advance", "()V"⟩, 9) := ⟨⟨by decide +kernel, by decide +kernel⟩, List.mem_of_getElem? (i := 40) (by decide +kernel), List.mem_of_getElem? (i := 1125) (by decide +kernel), List.mem_of_getElem? (i := 1126) (by decide +kernel)⟩
theorem lw_p21 : lw_okq (⟨"LalrDesk$TextParser", "signAt", "(I)I"⟩, 9) := ⟨⟨by decide +kernel, by decide +kernel⟩, List.mem_of_getElem? (i := 40) (by decide +kernel), List.mem_of_getElem? (i := 1129) (by decide +kernel), List.mem_of_getElem? (i := 1130) (by decide +kernel)⟩
theorem lw_p22 : lw_okq (⟨"LalrDesk$TextParser", "passWord", "()V"⟩, 9) := ⟨⟨by decide +kernel, by decide +kernel⟩, List.mem_of_getElem? (i := 40) (by decide +kernel), List.mem_of_getElem? (i := 1139) (by decide +kernel), List.mem_of_getElem? (i := 1140) (by decide +kernel)⟩
theorem lw_p23 : lw_okq (⟨"LalrDesk$TextParser", "passNumber", "()V"⟩, 9) := ⟨⟨by decide +kernel, by decide +kernel⟩, List.mem_of_getElem? (i := 40) (by decide +kernel), List.mem_of_getElem? (i := 1146) (by decide +kernel), List.mem_of_getElem? (i := 1147) (by decide +kernel)⟩
theorem lw_p24 : lw_okq (⟨"LalrDesk$TextParser", "takeLine", "(LLalrDesk$Grammar;)Z"⟩, 9) := ⟨⟨by decide +kernel, by decide +kernel⟩, List.mem_of_getElem? (i := 40) (by decide +kernel), List.mem_of_getElem? (i := 1150) (by decide +kernel), List.mem_of_getElem? (i := 1151) (by decide +kernel)⟩
theorem lw_p25 : lw_okq (⟨"LalrDesk$TextParser", "refuse", "(I)Z"⟩, 9) := ⟨⟨by decide +kernel, by decide +kernel⟩, List.mem_of_getElem? (i := 40) (by decide +kernel), List.mem_of_getElem? (i := 1154) (by decide +kernel), List.mem_of_getElem? (i := 1155) (by decide +kernel)⟩
theorem lw_p26 : lw_okq (⟨"LalrDesk$TextParser", "takeToken", "(LLalrDesk$Grammar;)Z"⟩, 9) := ⟨⟨by decide +kernel, by decide +kernel⟩, List.mem_of_getElem? (i := 40) (by decide +kernel), List.mem_of_getElem? (i := 1158) (by decide +kernel), List.mem_of_getElem? (i := 1159) (by decide +kernel)⟩
theorem lw_p27 : lw_okq (⟨"LalrDesk$TextParser", "isNewName", "(LLalrDesk$Grammar;)Z"⟩, 9) := ⟨⟨by decide +kernel, by decide +kernel⟩, List.mem_of_getElem? (i := 40) (by decide +kernel), List.mem_of_getElem? (i := 1162) (by decide +kernel), List.mem_of_getElem? (i := 1163) (by decide +kernel)⟩
theorem lw_p28 : lw_okq (⟨"LalrDesk$TextParser", "isName", "()Z"⟩, 9) := ⟨⟨by decide +kernel, by decide +kernel⟩, List.mem_of_getElem? (i := 40) (by decide +kernel), List.mem_of_getElem? (i := 1166) (by decide +kernel), List.mem_of_getElem? (i := 1167) (by decide +kernel)⟩
theorem lw_p29 : lw_okq (⟨"LalrDesk$TextParser", "takeLineEnd", "()Z"⟩, 9) := ⟨⟨by decide +kernel, by decide +kernel⟩, List.mem_of_getElem? (i := 40) (by decide +kernel), List.mem_of_getElem? (i := 1186) (by decide +kernel), List.mem_of_getElem? (i := 1187) (by decide +kernel)⟩
theorem lw_p30 : lw_okq (⟨"LalrDesk$TextParser", "takeKind", "(LLalrDesk$Grammar;)Z"⟩, 9) := ⟨⟨by decide +kernel, by decide +kernel⟩, List.mem_of_getElem? (i := 40) (by decide +kernel), List.mem_of_getElem? (i := 1190) (by decide +kernel), List.mem_of_getElem? (i := 1191) (by decide +kernel)⟩
theorem lw_p31 : lw_okq (⟨"LalrDesk$TextParser", "takeRule", "(LLalrDesk$Grammar;)Z"⟩, 9) := ⟨⟨by decide +kernel, by decide +kernel⟩, List.mem_of_getElem? (i := 40) (by decide +kernel), List.mem_of_getElem? (i := 1198) (by decide +kernel), List.mem_of_getElem? (i := 1199) (by decide +kernel)⟩
def lw_privs_2 : List (MethodName × Nat) := [(⟨"LalrDesk$Tables", "decide", "(II)V"⟩, 4), (⟨"LalrDesk$Trials", "withoutsAt", "(I)I"⟩, 3), (⟨"LalrDesk", "canTry", "(II)Z"⟩, 15), (⟨"LalrDesk", "putBytes", "(I)V"⟩, 15), (⟨"LalrDesk$TextParser", "advance", "()V"⟩, 9), (⟨"LalrDesk$TextParser", "signAt", "(I)I"⟩, 9), (⟨"LalrDesk$TextParser", "passWord", "()V"⟩, 9), (⟨"LalrDesk$TextParser", "passNumber", "()V"⟩, 9), (⟨"LalrDesk$TextParser", "takeLine", "(LLalrDesk$Grammar;)Z"⟩, 9), (⟨"LalrDesk$TextParser", "refuse", "(I)Z"⟩, 9), (⟨"LalrDesk$TextParser", "takeToken", "(LLalrDesk$Grammar;)Z"⟩, 9), (⟨"LalrDesk$TextParser", "isNewName", "(LLalrDesk$Grammar;)Z"⟩, 9), (⟨"LalrDesk$TextParser", "isName", "()Z"⟩, 9), (⟨"LalrDesk$TextParser", "takeLineEnd", "()Z"⟩, 9), (⟨"LalrDesk$TextParser", "takeKind", "(LLalrDesk$Grammar;)Z"⟩, 9), (⟨"LalrDesk$TextParser", "takeRule", "(LLalrDesk$Grammar;)Z"⟩, 9)]
theorem lw_r2 : ∀ q ∈ lw_privs_2, lw_okq q := List.forall_mem_cons.mpr ⟨lw_p16, List.forall_mem_cons.mpr ⟨lw_p17, List.forall_mem_cons.mpr ⟨lw_p18, List.forall_mem_cons.mpr ⟨lw_p19, List.forall_mem_cons.mpr ⟨lw_p20, List.forall_mem_cons.mpr ⟨lw_p21, List.forall_mem_cons.mpr ⟨lw_p22, List.forall_mem_cons.mpr ⟨lw_p23, List.forall_mem_cons.mpr ⟨lw_p24, List.forall_mem_cons.mpr ⟨lw_p25, List.forall_mem_cons.mpr ⟨lw_p26, List.forall_mem_cons.mpr ⟨lw_p27, List.forall_mem_cons.mpr ⟨lw_p28, List.forall_mem_cons.mpr ⟨lw_p29, List.forall_mem_cons.mpr ⟨lw_p30, List.forall_mem_cons.mpr ⟨lw_p31, fun _ h => absurd h List.not_mem_nil⟩⟩⟩⟩⟩⟩⟩⟩⟩⟩⟩⟩⟩⟩⟩⟩
theorem lw_p32 : lw_okq (⟨"LalrDesk$TextParser", "takeName", "()Z"⟩, 9) := ⟨⟨by decide +kernel, by decide +kernel⟩, List.mem_of_getElem? (i := 40) (by decide +kernel), List.mem_of_getElem? (i := 1202) (by decide +kernel), List.mem_of_getElem? (i := 1203) (by decide +kernel)⟩
theorem lw_p33 : lw_okq (⟨"LalrDesk$Grammar", "isSameAsBegun", "(I)Z"⟩, 14) := ⟨⟨by decide +kernel, by decide +kernel⟩, List.mem_of_getElem? (i := 81) (by decide +kernel), List.mem_of_getElem? (i := 1215) (by decide +kernel), List.mem_of_getElem? (i := 1216) (by decide +kernel)⟩
theorem lw_p34 : lw_okq (⟨"LalrDesk$TextParser", "takeSymbol", "(LLalrDesk$Grammar;)Z"⟩, 9) := ⟨⟨by decide +kernel, by decide +kernel⟩, List.mem_of_getElem? (i := 40) (by decide +kernel), List.mem_of_getElem? (i := 1219) (by decide +kernel), List.mem_of_getElem? (i := 1220) (by decide +kernel)⟩
theorem lw_p35 : lw_okq (⟨"LalrDesk$TextParser", "takeRank", "(LLalrDesk$Grammar;)Z"⟩, 9) := ⟨⟨by decide +kernel, by decide +kernel⟩, List.mem_of_getElem? (i := 40) (by decide +kernel), List.mem_of_getElem? (i := 1231) (by decide +kernel), List.mem_of_getElem? (i := 1232) (by decide +kernel)⟩
theorem lw_p36 : lw_okq (⟨"LalrDesk$TextParser", "takeNumber", "(II)Z"⟩, 9) := ⟨⟨by decide +kernel, by decide +kernel⟩, List.mem_of_getElem? (i := 40) (by decide +kernel), List.mem_of_getElem? (i := 1237) (by decide +kernel), List.mem_of_getElem? (i := 1238) (by decide +kernel)⟩
theorem lw_p37 : lw_okq (⟨"LalrDesk", "takeSpare", "()V"⟩, 15) := ⟨⟨by decide +kernel, by decide +kernel⟩, List.mem_of_getElem? (i := 32) (by decide +kernel), List.mem_of_getElem? (i := 1242) (by decide +kernel), List.mem_of_getElem? (i := 1243) (by decide +kernel)⟩
theorem lw_p38 : lw_okq (⟨"LalrDesk$Relations", "numberMoves", "(LLalrDesk$Tables;)V"⟩, 10) := ⟨⟨by decide +kernel, by decide +kernel⟩, List.mem_of_getElem? (i := 231) (by decide +kernel), List.mem_of_getElem? (i := 1252) (by decide +kernel), List.mem_of_getElem? (i := 1253) (by decide +kernel)⟩
theorem lw_p39 : lw_okq (⟨"LalrDesk$Relations", "relate", "(LLalrDesk$Tables;I)V"⟩, 10) := ⟨⟨by decide +kernel, by decide +kernel⟩, List.mem_of_getElem? (i := 231) (by decide +kernel), List.mem_of_getElem? (i := 1257) (by decide +kernel), List.mem_of_getElem? (i := 1258) (by decide +kernel)⟩
theorem lw_p40 : lw_okq (⟨"LalrDesk$Relations", "walk", "(LLalrDesk$Tables;II)V"⟩, 10) := ⟨⟨by decide +kernel, by decide +kernel⟩, List.mem_of_getElem? (i := 231) (by decide +kernel), List.mem_of_getElem? (i := 1263) (by decide +kernel), List.mem_of_getElem? (i := 1264) (by decide +kernel)⟩
theorem lw_p41 : lw_okq (⟨"LalrDesk$Relations", "include", "(II)V"⟩, 10) := ⟨⟨by decide +kernel, by decide +kernel⟩, List.mem_of_getElem? (i := 231) (by decide +kernel), List.mem_of_getElem? (i := 1270) (by decide +kernel), List.mem_of_getElem? (i := 1271) (by decide +kernel)⟩
theorem lw_p42 : lw_okq (⟨"LalrDesk$Relations", "settleAfters", "(LLalrDesk$Tables;)V"⟩, 10) := ⟨⟨by decide +kernel, by decide +kernel⟩, List.mem_of_getElem? (i := 231) (by decide +kernel), List.mem_of_getElem? (i := 1274) (by decide +kernel), List.mem_of_getElem? (i := 1275) (by decide +kernel)⟩
theorem lw_p43 : lw_okq (⟨"LalrDesk$Relations", "tokensFrom", "(LLalrDesk$Tables;I)I"⟩, 10) := ⟨⟨by decide +kernel, by decide +kernel⟩, List.mem_of_getElem? (i := 231) (by decide +kernel), List.mem_of_getElem? (i := 1278) (by decide +kernel), List.mem_of_getElem? (i := 1279) (by decide +kernel)⟩
theorem lw_p44 : lw_okq (⟨"LalrDesk$Relations", "aftersRead", "(LLalrDesk$Tables;I)I"⟩, 10) := ⟨⟨by decide +kernel, by decide +kernel⟩, List.mem_of_getElem? (i := 231) (by decide +kernel), List.mem_of_getElem? (i := 1283) (by decide +kernel), List.mem_of_getElem? (i := 1284) (by decide +kernel)⟩
theorem lw_p45 : lw_okq (⟨"LalrDesk$Relations", "aftersIncluded", "(I)I"⟩, 10) := ⟨⟨by decide +kernel, by decide +kernel⟩, List.mem_of_getElem? (i := 231) (by decide +kernel), List.mem_of_getElem? (i := 1287) (by decide +kernel), List.mem_of_getElem? (i := 1288) (by decide +kernel)⟩
theorem lw_p46 : lw_okq (⟨"LalrDesk$ShortestRows", "settleKinds", "(LLalrDesk$Grammar;)V"⟩, 6) := ⟨⟨by decide +kernel, by decide +kernel⟩, List.mem_of_getElem? (i := 272) (by decide +kernel), List.mem_of_getElem? (i := 1296) (by decide +kernel), List.mem_of_getElem? (i := 1297) (by decide +kernel)⟩
theorem lw_p47 : lw_okq (⟨"LalrDesk$ShortestRows", "tryRule", "(LLalrDesk$Grammar;I)Z"⟩, 6) := ⟨⟨by decide +kernel, by decide +kernel⟩, List.mem_of_getElem? (i := 272) (by decide +kernel), List.mem_of_getElem? (i := 1302) (by decide +kernel), List.mem_of_getElem? (i := 1303) (by decide +kernel)⟩
def lw_privs_3 : List (MethodName × Nat) := [(⟨"LalrDesk$TextParser", "takeName", "()Z"⟩, 9), (⟨"LalrDesk$Grammar", "isSameAsBegun", "(I)Z"⟩, 14), (⟨"LalrDesk$TextParser", "takeSymbol", "(LLalrDesk$Grammar;)Z"⟩, 9), (⟨"LalrDesk$TextParser", "takeRank", "(LLalrDesk$Grammar;)Z"⟩, 9), (⟨"LalrDesk$TextParser", "takeNumber", "(II)Z"⟩, 9), (⟨"LalrDesk", "takeSpare", "()V"⟩, 15), (⟨"LalrDesk$Relations", "numberMoves", "(LLalrDesk$Tables;)V"⟩, 10), (⟨"LalrDesk$Relations", "relate", "(LLalrDesk$Tables;I)V"⟩, 10), (⟨"LalrDesk$Relations", "walk", "(LLalrDesk$Tables;II)V"⟩, 10), (⟨"LalrDesk$Relations", "include", "(II)V"⟩, 10), (⟨"LalrDesk$Relations", "settleAfters", "(LLalrDesk$Tables;)V"⟩, 10), (⟨"LalrDesk$Relations", "tokensFrom", "(LLalrDesk$Tables;I)I"⟩, 10), (⟨"LalrDesk$Relations", "aftersRead", "(LLalrDesk$Tables;I)I"⟩, 10), (⟨"LalrDesk$Relations", "aftersIncluded", "(I)I"⟩, 10), (⟨"LalrDesk$ShortestRows", "settleKinds", "(LLalrDesk$Grammar;)V"⟩, 6), (⟨"LalrDesk$ShortestRows", "tryRule", "(LLalrDesk$Grammar;I)Z"⟩, 6)]
theorem lw_r3 : ∀ q ∈ lw_privs_3, lw_okq q := List.forall_mem_cons.mpr ⟨lw_p32, List.forall_mem_cons.mpr ⟨lw_p33, List.forall_mem_cons.mpr ⟨lw_p34, List.forall_mem_cons.mpr ⟨lw_p35, List.forall_mem_cons.mpr ⟨lw_p36, List.forall_mem_cons.mpr ⟨lw_p37, List.forall_mem_cons.mpr ⟨lw_p38, List.forall_mem_cons.mpr ⟨lw_p39, List.forall_mem_cons.mpr ⟨lw_p40, List.forall_mem_cons.mpr ⟨lw_p41, List.forall_mem_cons.mpr ⟨lw_p42, List.forall_mem_cons.mpr ⟨lw_p43, List.forall_mem_cons.mpr ⟨lw_p44, List.forall_mem_cons.mpr ⟨lw_p45, List.forall_mem_cons.mpr ⟨lw_p46, List.forall_mem_cons.mpr ⟨lw_p47, fun _ h => absurd h List.not_mem_nil⟩⟩⟩⟩⟩⟩⟩⟩⟩⟩⟩⟩⟩⟩⟩⟩
theorem lw_p48 : lw_okq (⟨"LalrDesk$ShortestRows", "lengthen", "(II)Z"⟩, 6) := ⟨⟨by decide +kernel, by decide +kernel⟩, List.mem_of_getElem? (i := 272) (by decide +kernel), List.mem_of_getElem? (i := 1308) (by decide +kernel), List.mem_of_getElem? (i := 1309) (by decide +kernel)⟩
theorem lw_p49 : lw_okq (⟨"LalrDesk$ShortestRows", "improves", "([III)Z"⟩, 6) := ⟨⟨by decide +kernel, by decide +kernel⟩, List.mem_of_getElem? (i := 272) (by decide +kernel), List.mem_of_getElem? (i := 1312) (by decide +kernel), List.mem_of_getElem? (i := 1313) (by decide +kernel)⟩
theorem lw_p50 : lw_okq (⟨"LalrDesk$ShortestRows", "settleStates", "(LLalrDesk$States;)V"⟩, 6) := ⟨⟨by decide +kernel, by decide +kernel⟩, List.mem_of_getElem? (i := 272) (by decide +kernel), List.mem_of_getElem? (i := 1318) (by decide +kernel), List.mem_of_getElem? (i := 1319) (by decide +kernel)⟩
theorem lw_p51 : lw_okq (⟨"LalrDesk$ShortestRows", "improveBy", "(LLalrDesk$States;II)Z"⟩, 6) := ⟨⟨by decide +kernel, by decide +kernel⟩, List.mem_of_getElem? (i := 272) (by decide +kernel), List.mem_of_getElem? (i := 1322) (by decide +kernel), List.mem_of_getElem? (i := 1323) (by decide +kernel)⟩
theorem lw_p52 : lw_okq (⟨"LalrDesk$Packing", "lay", "(LLalrDesk$Tables;I)V"⟩, 4) := ⟨⟨by decide +kernel, by decide +kernel⟩, List.mem_of_getElem? (i := 299) (by decide +kernel), List.mem_of_getElem? (i := 1333) (by decide +kernel), List.mem_of_getElem? (i := 1334) (by decide +kernel)⟩
theorem lw_p53 : lw_okq (⟨"LalrDesk$Packing", "hasRoom", "(LLalrDesk$Tables;II)Z"⟩, 4) := ⟨⟨by decide +kernel, by decide +kernel⟩, List.mem_of_getElem? (i := 299) (by decide +kernel), List.mem_of_getElem? (i := 1337) (by decide +kernel), List.mem_of_getElem? (i := 1338) (by decide +kernel)⟩
theorem lw_p54 : lw_okq (⟨"LalrDesk$Packing", "layAt", "(LLalrDesk$Tables;II)V"⟩, 4) := ⟨⟨by decide +kernel, by decide +kernel⟩, List.mem_of_getElem? (i := 299) (by decide +kernel), List.mem_of_getElem? (i := 1346) (by decide +kernel), List.mem_of_getElem? (i := 1347) (by decide +kernel)⟩
def lw_privs_4 : List (MethodName × Nat) := [(⟨"LalrDesk$ShortestRows", "lengthen", "(II)Z"⟩, 6), (⟨"LalrDesk$ShortestRows", "improves", "([III)Z"⟩, 6), (⟨"LalrDesk$ShortestRows", "settleStates", "(LLalrDesk$States;)V"⟩, 6), (⟨"LalrDesk$ShortestRows", "improveBy", "(LLalrDesk$States;II)Z"⟩, 6), (⟨"LalrDesk$Packing", "lay", "(LLalrDesk$Tables;I)V"⟩, 4), (⟨"LalrDesk$Packing", "hasRoom", "(LLalrDesk$Tables;II)Z"⟩, 4), (⟨"LalrDesk$Packing", "layAt", "(LLalrDesk$Tables;II)V"⟩, 4)]
theorem lw_r4 : ∀ q ∈ lw_privs_4, lw_okq q := List.forall_mem_cons.mpr ⟨lw_p48, List.forall_mem_cons.mpr ⟨lw_p49, List.forall_mem_cons.mpr ⟨lw_p50, List.forall_mem_cons.mpr ⟨lw_p51, List.forall_mem_cons.mpr ⟨lw_p52, List.forall_mem_cons.mpr ⟨lw_p53, List.forall_mem_cons.mpr ⟨lw_p54, fun _ h => absurd h List.not_mem_nil⟩⟩⟩⟩⟩⟩⟩
def lw_privs : List (MethodName × Nat) := lw_privs_1 ++ (lw_privs_2 ++ (lw_privs_3 ++ (lw_privs_4)))
def lw_tbl : List Cond := k2_sels lw_privs ++ tables_1
theorem lw_privs_ok : ∀ q ∈ lw_privs, lw_okq q := by
  show ∀ q ∈ lw_privs_1 ++ (lw_privs_2 ++ (lw_privs_3 ++ (lw_privs_4))), lw_okq q
  exact List.forall_mem_append.mpr ⟨lw_r1, List.forall_mem_append.mpr ⟨lw_r2, List.forall_mem_append.mpr ⟨lw_r3, lw_r4⟩⟩⟩
def RX0 : String := "LalrDesk$Grammar"
def TX0 : u_T := fun k => match k with
  | 0 => ("LalrDesk$Grammar", "tokenCount", "I", false)
  | 1 => ("LalrDesk$Grammar", "kindCount", "I", false)
  | 2 => ("LalrDesk$Grammar", "ruleCount", "I", false)
  | 3 => ("LalrDesk$Grammar", "startKind", "I", false)
  | 4 => ("LalrDesk$Grammar", "leftOut", "I", false)
  | 5 => ("LalrDesk$Grammar", "names", "[I", true)
  | 6 => ("LalrDesk$Grammar", "ranks", "[I", true)
  | 7 => ("LalrDesk$Grammar", "sides", "[I", true)
  | 8 => ("LalrDesk$Grammar", "ruleKinds", "[I", true)
  | 9 => ("LalrDesk$Grammar", "ruleLengths", "[I", true)
  | 10 => ("LalrDesk$Grammar", "ruleSymbols", "[I", true)
  | 11 => ("LalrDesk$Grammar", "empties", "I", false)
  | 12 => ("LalrDesk$Grammar", "firsts", "[I", true)
  | _ => ("LalrDesk$Grammar", "follows", "[I", true)
def tyX0 : Nat → FieldType := fun k => match k with
  | 0 => .int
  | 1 => .int
  | 2 => .int
  | 3 => .int
  | 4 => .int
  | 5 => .array .int
  | 6 => .array .int
  | 7 => .array .int
  | 8 => .array .int
  | 9 => .array .int
  | 10 => .array .int
  | 11 => .int
  | 12 => .array .int
  | _ => .array .int
abbrev wsX00 : List Cond := u_ws RX0 TX0 14
theorem nmX0 : ∀ a, a < 14 → ∀ b, b < 14 → a ≠ b → (TX0 a).2.1 ≠ (TX0 b).2.1 := by decide +kernel
theorem tyX0_ok : ∀ k, k < 14 → parseFieldDescriptor (TX0 k).2.2.1 = some (tyX0 k) := by decide +kernel
abbrev cX0_init : ByteArray := prog_2_method_1_code
def yX0_init : MethodName := ⟨RX0, "<init>", "()V"⟩
abbrev cX0_forget : ByteArray := prog_2_method_2_code
def yX0_forget : MethodName := ⟨RX0, "forget", "()V"⟩
abbrev cX0_copy : ByteArray := prog_2_method_3_code
def yX0_copy : MethodName := ⟨RX0, "copy", "(LLalrDesk$Grammar;)V"⟩
abbrev cX0_hasToken : ByteArray := prog_2_method_4_code
def yX0_hasToken : MethodName := ⟨RX0, "hasToken", "(I)Z"⟩
abbrev cX0_hasKind : ByteArray := prog_2_method_5_code
def yX0_hasKind : MethodName := ⟨RX0, "hasKind", "(I)Z"⟩
abbrev cX0_hasRule : ByteArray := prog_2_method_6_code
def yX0_hasRule : MethodName := ⟨RX0, "hasRule", "(I)Z"⟩
abbrev cX0_hasSymbol : ByteArray := prog_2_method_7_code
def yX0_hasSymbol : MethodName := ⟨RX0, "hasSymbol", "(I)Z"⟩
abbrev cX0_hasTerminal : ByteArray := prog_2_method_8_code
def yX0_hasTerminal : MethodName := ⟨RX0, "hasTerminal", "(I)Z"⟩
abbrev cX0_uses : ByteArray := prog_2_method_9_code
def yX0_uses : MethodName := ⟨RX0, "uses", "(I)Z"⟩
abbrev cX0_symbolNamed : ByteArray := prog_2_method_10_code
def yX0_symbolNamed : MethodName := ⟨RX0, "symbolNamed", "(I)I"⟩
abbrev cX0_addToken : ByteArray := prog_2_method_11_code
def yX0_addToken : MethodName := ⟨RX0, "addToken", "(I)V"⟩
abbrev cX0_addKind : ByteArray := prog_2_method_12_code
def yX0_addKind : MethodName := ⟨RX0, "addKind", "(I)V"⟩
abbrev cX0_beginRule : ByteArray := prog_2_method_13_code
def yX0_beginRule : MethodName := ⟨RX0, "beginRule", "(I)V"⟩
abbrev cX0_addSymbol : ByteArray := prog_2_method_14_code
def yX0_addSymbol : MethodName := ⟨RX0, "addSymbol", "(I)Z"⟩
abbrev cX0_ruleIsFull : ByteArray := prog_2_method_15_code
def yX0_ruleIsFull : MethodName := ⟨RX0, "ruleIsFull", "()Z"⟩
abbrev cX0_addRule : ByteArray := prog_2_method_16_code
def yX0_addRule : MethodName := ⟨RX0, "addRule", "()Z"⟩
abbrev cX0_isSameAsBegun : ByteArray := prog_2_method_17_code
def yX0_isSameAsBegun : MethodName := ⟨RX0, "isSameAsBegun", "(I)Z"⟩
abbrev cX0_kindOf : ByteArray := prog_2_method_18_code
def yX0_kindOf : MethodName := ⟨RX0, "kindOf", "(I)I"⟩
abbrev cX0_lengthOf : ByteArray := prog_2_method_19_code
def yX0_lengthOf : MethodName := ⟨RX0, "lengthOf", "(I)I"⟩
abbrev cX0_symbolAt : ByteArray := prog_2_method_20_code
def yX0_symbolAt : MethodName := ⟨RX0, "symbolAt", "(II)I"⟩
abbrev cX0_itemAtEnd : ByteArray := prog_2_method_21_code
def yX0_itemAtEnd : MethodName := ⟨RX0, "itemAtEnd", "(I)I"⟩
abbrev cX0_rankOf : ByteArray := prog_2_method_22_code
def yX0_rankOf : MethodName := ⟨RX0, "rankOf", "(I)I"⟩
abbrev cX0_rankOfToken : ByteArray := prog_2_method_23_code
def yX0_rankOfToken : MethodName := ⟨RX0, "rankOfToken", "(I)I"⟩
abbrev cX0_sideOfToken : ByteArray := prog_2_method_24_code
def yX0_sideOfToken : MethodName := ⟨RX0, "sideOfToken", "(I)I"⟩
abbrev cX0_rulesOf : ByteArray := prog_2_method_25_code
def yX0_rulesOf : MethodName := ⟨RX0, "rulesOf", "(I)I"⟩
abbrev cX0_isEmpty : ByteArray := prog_2_method_26_code
def yX0_isEmpty : MethodName := ⟨RX0, "isEmpty", "(I)Z"⟩
abbrev cX0_followOf : ByteArray := prog_2_method_27_code
def yX0_followOf : MethodName := ⟨RX0, "followOf", "(I)I"⟩
abbrev cX0_isEmptyFrom : ByteArray := prog_2_method_28_code
def yX0_isEmptyFrom : MethodName := ⟨RX0, "isEmptyFrom", "(II)Z"⟩
abbrev cX0_firstFrom : ByteArray := prog_2_method_29_code
def yX0_firstFrom : MethodName := ⟨RX0, "firstFrom", "(II)I"⟩
abbrev cX0_settleEmpties : ByteArray := prog_2_method_30_code
def yX0_settleEmpties : MethodName := ⟨RX0, "settleEmpties", "()V"⟩
abbrev cX0_settleFirsts : ByteArray := prog_2_method_31_code
def yX0_settleFirsts : MethodName := ⟨RX0, "settleFirsts", "()V"⟩
abbrev cX0_settleFollows : ByteArray := prog_2_method_32_code
def yX0_settleFollows : MethodName := ⟨RX0, "settleFollows", "()V"⟩
abbrev cX0_widenFollowsBy : ByteArray := prog_2_method_33_code
def yX0_widenFollowsBy : MethodName := ⟨RX0, "widenFollowsBy", "(I)Z"⟩
abbrev cX0_widen : ByteArray := prog_2_method_34_code
def yX0_widen : MethodName := ⟨RX0, "widen", "([III)Z"⟩
def RX1 : String := "LalrDesk$Notes"
def TX1 : u_T := fun k => match k with
  | 0 => ("LalrDesk$Notes", "count", "I", false)
  | 1 => ("LalrDesk$Notes", "limit", "I", false)
  | 2 => ("LalrDesk$Notes", "places", "[I", true)
  | 3 => ("LalrDesk$Notes", "sentences", "[Z", true)
  | _ => ("LalrDesk$Notes", "struck", "[I", true)
def tyX1 : Nat → FieldType := fun k => match k with
  | 0 => .int
  | 1 => .int
  | 2 => .array .int
  | 3 => .array .boolean
  | _ => .array .int
abbrev wsX10 : List Cond := u_ws RX1 TX1 5
theorem nmX1 : ∀ a, a < 5 → ∀ b, b < 5 → a ≠ b → (TX1 a).2.1 ≠ (TX1 b).2.1 := by decide +kernel
theorem tyX1_ok : ∀ k, k < 5 → parseFieldDescriptor (TX1 k).2.2.1 = some (tyX1 k) := by decide +kernel
abbrev cX1_init : ByteArray := prog_3_method_1_code
def yX1_init : MethodName := ⟨RX1, "<init>", "()V"⟩
abbrev cX1_forget : ByteArray := prog_3_method_2_code
def yX1_forget : MethodName := ⟨RX1, "forget", "()V"⟩
abbrev cX1_addNote : ByteArray := prog_3_method_3_code
def yX1_addNote : MethodName := ⟨RX1, "addNote", "(IZ)I"⟩
abbrev cX1_addStrike : ByteArray := prog_3_method_4_code
def yX1_addStrike : MethodName := ⟨RX1, "addStrike", "(I)I"⟩
abbrev cX1_limit : ByteArray := prog_3_method_5_code
def yX1_limit : MethodName := ⟨RX1, "limit", "(I)Z"⟩
abbrev cX1_knownBy : ByteArray := prog_3_method_6_code
def yX1_knownBy : MethodName := ⟨RX1, "knownBy", "()I"⟩
abbrev cX1_knownNotes : ByteArray := prog_3_method_7_code
def yX1_knownNotes : MethodName := ⟨RX1, "knownNotes", "()I"⟩
def RX2 : String := "LalrDesk$Packing"
def TX2 : u_T := fun k => match k with
  | 0 => ("LalrDesk$Packing", "used", "I", false)
  | 1 => ("LalrDesk$Packing", "offsets", "[I", true)
  | 2 => ("LalrDesk$Packing", "placeActions", "[I", true)
  | _ => ("LalrDesk$Packing", "placeStates", "[I", true)
def tyX2 : Nat → FieldType := fun k => match k with
  | 0 => .int
  | 1 => .array .int
  | 2 => .array .int
  | _ => .array .int
abbrev wsX20 : List Cond := u_ws RX2 TX2 4
theorem nmX2 : ∀ a, a < 4 → ∀ b, b < 4 → a ≠ b → (TX2 a).2.1 ≠ (TX2 b).2.1 := by decide +kernel
theorem tyX2_ok : ∀ k, k < 4 → parseFieldDescriptor (TX2 k).2.2.1 = some (tyX2 k) := by decide +kernel
abbrev cX2_init : ByteArray := prog_4_method_1_code
def yX2_init : MethodName := ⟨RX2, "<init>", "()V"⟩
abbrev cX2_make : ByteArray := prog_4_method_2_code
def yX2_make : MethodName := ⟨RX2, "make", "(LLalrDesk$Tables;)V"⟩
abbrev cX2_lay : ByteArray := prog_4_method_3_code
def yX2_lay : MethodName := ⟨RX2, "lay", "(LLalrDesk$Tables;I)V"⟩
abbrev cX2_hasRoom : ByteArray := prog_4_method_4_code
def yX2_hasRoom : MethodName := ⟨RX2, "hasRoom", "(LLalrDesk$Tables;II)Z"⟩
abbrev cX2_layAt : ByteArray := prog_4_method_5_code
def yX2_layAt : MethodName := ⟨RX2, "layAt", "(LLalrDesk$Tables;II)V"⟩
abbrev cX2_actionAt : ByteArray := prog_4_method_6_code
def yX2_actionAt : MethodName := ⟨RX2, "actionAt", "(I)I"⟩
def RX3 : String := "LalrDesk$Past"
def TX3 : u_T := fun k => match k with
  | 0 => ("LalrDesk$Past", "count", "I", false)
  | 1 => ("LalrDesk$Past", "latest", "I", false)
  | 2 => ("LalrDesk$Past", "states", "[I", true)
  | 3 => ("LalrDesk$Past", "sizes", "[I", true)
  | 4 => ("LalrDesk$Past", "reduces", "[I", true)
  | _ => ("LalrDesk$Past", "tokens", "[I", true)
def tyX3 : Nat → FieldType := fun k => match k with
  | 0 => .int
  | 1 => .int
  | 2 => .array .int
  | 3 => .array .int
  | 4 => .array .int
  | _ => .array .int
abbrev wsX30 : List Cond := u_ws RX3 TX3 6
theorem nmX3 : ∀ a, a < 6 → ∀ b, b < 6 → a ≠ b → (TX3 a).2.1 ≠ (TX3 b).2.1 := by decide +kernel
theorem tyX3_ok : ∀ k, k < 6 → parseFieldDescriptor (TX3 k).2.2.1 = some (tyX3 k) := by decide +kernel
abbrev cX3_init : ByteArray := prog_5_method_1_code
def yX3_init : MethodName := ⟨RX3, "<init>", "()V"⟩
abbrev cX3_forget : ByteArray := prog_5_method_2_code
def yX3_forget : MethodName := ⟨RX3, "forget", "()V"⟩
abbrev cX3_add : ByteArray := prog_5_method_3_code
def yX3_add : MethodName := ⟨RX3, "add", "(LLalrDesk$Row;)V"⟩
abbrev cX3_takeBack : ByteArray := prog_5_method_4_code
def yX3_takeBack : MethodName := ⟨RX3, "takeBack", "(LLalrDesk$Row;)I"⟩
def RX4 : String := "LalrDesk$Relations"
def TX4 : u_T := fun k => match k with
  | 0 => ("LalrDesk$Relations", "moveCount", "I", false)
  | 1 => ("LalrDesk$Relations", "readPairs", "I", false)
  | 2 => ("LalrDesk$Relations", "includePairs", "I", false)
  | 3 => ("LalrDesk$Relations", "lookbacks", "I", false)
  | 4 => ("LalrDesk$Relations", "moveStates", "[I", true)
  | 5 => ("LalrDesk$Relations", "moveKinds", "[I", true)
  | 6 => ("LalrDesk$Relations", "numbers", "[I", true)
  | 7 => ("LalrDesk$Relations", "afters", "[I", true)
  | 8 => ("LalrDesk$Relations", "includes", "[J", true)
  | _ => ("LalrDesk$Relations", "reached", "[J", true)
def tyX4 : Nat → FieldType := fun k => match k with
  | 0 => .int
  | 1 => .int
  | 2 => .int
  | 3 => .int
  | 4 => .array .int
  | 5 => .array .int
  | 6 => .array .int
  | 7 => .array .int
  | 8 => .array .long
  | _ => .array .long
abbrev wsX40 : List Cond := u_ws RX4 TX4 10
theorem nmX4 : ∀ a, a < 10 → ∀ b, b < 10 → a ≠ b → (TX4 a).2.1 ≠ (TX4 b).2.1 := by decide +kernel
theorem tyX4_ok : ∀ k, k < 10 → parseFieldDescriptor (TX4 k).2.2.1 = some (tyX4 k) := by decide +kernel
abbrev cX4_init : ByteArray := prog_6_method_1_code
def yX4_init : MethodName := ⟨RX4, "<init>", "()V"⟩
abbrev cX4_make : ByteArray := prog_6_method_2_code
def yX4_make : MethodName := ⟨RX4, "make", "(LLalrDesk$Tables;)V"⟩
abbrev cX4_numberMoves : ByteArray := prog_6_method_3_code
def yX4_numberMoves : MethodName := ⟨RX4, "numberMoves", "(LLalrDesk$Tables;)V"⟩
abbrev cX4_numberOf : ByteArray := prog_6_method_4_code
def yX4_numberOf : MethodName := ⟨RX4, "numberOf", "(II)I"⟩
abbrev cX4_relate : ByteArray := prog_6_method_5_code
def yX4_relate : MethodName := ⟨RX4, "relate", "(LLalrDesk$Tables;I)V"⟩
abbrev cX4_walk : ByteArray := prog_6_method_6_code
def yX4_walk : MethodName := ⟨RX4, "walk", "(LLalrDesk$Tables;II)V"⟩
abbrev cX4_include : ByteArray := prog_6_method_7_code
def yX4_include : MethodName := ⟨RX4, "include", "(II)V"⟩
abbrev cX4_inRow : ByteArray := prog_6_method_8_code
def yX4_inRow : MethodName := ⟨RX4, "inRow", "([JII)Z"⟩
abbrev cX4_settleAfters : ByteArray := prog_6_method_9_code
def yX4_settleAfters : MethodName := ⟨RX4, "settleAfters", "(LLalrDesk$Tables;)V"⟩
abbrev cX4_tokensFrom : ByteArray := prog_6_method_10_code
def yX4_tokensFrom : MethodName := ⟨RX4, "tokensFrom", "(LLalrDesk$Tables;I)I"⟩
abbrev cX4_aftersRead : ByteArray := prog_6_method_11_code
def yX4_aftersRead : MethodName := ⟨RX4, "aftersRead", "(LLalrDesk$Tables;I)I"⟩
abbrev cX4_aftersIncluded : ByteArray := prog_6_method_12_code
def yX4_aftersIncluded : MethodName := ⟨RX4, "aftersIncluded", "(I)I"⟩
abbrev cX4_afterMove : ByteArray := prog_6_method_13_code
def yX4_afterMove : MethodName := ⟨RX4, "afterMove", "(II)I"⟩
abbrev cX4_rings : ByteArray := prog_6_method_14_code
def yX4_rings : MethodName := ⟨RX4, "rings", "()I"⟩
abbrev cX4_reachBySteps : ByteArray := prog_6_method_15_code
def yX4_reachBySteps : MethodName := ⟨RX4, "reachBySteps", "()V"⟩
abbrev cX4_leadsRing : ByteArray := prog_6_method_16_code
def yX4_leadsRing : MethodName := ⟨RX4, "leadsRing", "(I)Z"⟩
def RX5 : String := "LalrDesk$Row"
def TX5 : u_T := fun k => match k with
  | 0 => ("LalrDesk$Row", "next", "LLalrDesk$Row;", true)
  | 1 => ("LalrDesk$Row", "states", "[I", true)
  | 2 => ("LalrDesk$Row", "size", "I", false)
  | 3 => ("LalrDesk$Row", "reduces", "I", false)
  | _ => ("LalrDesk$Row", "tokens", "I", false)
def tyX5 : Nat → FieldType := fun k => match k with
  | 0 => .object "LalrDesk$Row"
  | 1 => .array .int
  | 2 => .int
  | 3 => .int
  | _ => .int
abbrev wsX50 : List Cond := u_ws RX5 TX5 5
theorem nmX5 : ∀ a, a < 5 → ∀ b, b < 5 → a ≠ b → (TX5 a).2.1 ≠ (TX5 b).2.1 := by decide +kernel
theorem tyX5_ok : ∀ k, k < 5 → parseFieldDescriptor (TX5 k).2.2.1 = some (tyX5 k) := by decide +kernel
abbrev cX5_init : ByteArray := prog_7_method_1_code
def yX5_init : MethodName := ⟨RX5, "<init>", "(LLalrDesk$Row;)V"⟩
abbrev cX5_copy : ByteArray := prog_7_method_2_code
def yX5_copy : MethodName := ⟨RX5, "copy", "(LLalrDesk$Row;)V"⟩
abbrev cX5_begin : ByteArray := prog_7_method_3_code
def yX5_begin : MethodName := ⟨RX5, "begin", "(LLalrDesk$Tables;)V"⟩
abbrev cX5_stateBehindLast : ByteArray := prog_7_method_4_code
def yX5_stateBehindLast : MethodName := ⟨RX5, "stateBehindLast", "(I)I"⟩
abbrev cX5_take : ByteArray := prog_7_method_5_code
def yX5_take : MethodName := ⟨RX5, "take", "(LLalrDesk$Tables;I)I"⟩
abbrev cX5_reduceBy : ByteArray := prog_7_method_6_code
def yX5_reduceBy : MethodName := ⟨RX5, "reduceBy", "(LLalrDesk$Tables;I)Z"⟩
abbrev cX5_add : ByteArray := prog_7_method_7_code
def yX5_add : MethodName := ⟨RX5, "add", "(I)Z"⟩
def RX6 : String := "LalrDesk$ShortestRows"
def TX6 : u_T := fun k => match k with
  | 0 => ("LalrDesk$ShortestRows", "kindLengths", "[I", true)
  | 1 => ("LalrDesk$ShortestRows", "stateLengths", "[I", true)
  | 2 => ("LalrDesk$ShortestRows", "kindRows", "[I", true)
  | 3 => ("LalrDesk$ShortestRows", "stateRows", "[I", true)
  | 4 => ("LalrDesk$ShortestRows", "trial", "[I", true)
  | _ => ("LalrDesk$ShortestRows", "trialLength", "I", false)
def tyX6 : Nat → FieldType := fun k => match k with
  | 0 => .array .int
  | 1 => .array .int
  | 2 => .array .int
  | 3 => .array .int
  | 4 => .array .int
  | _ => .int
abbrev wsX60 : List Cond := u_ws RX6 TX6 6
theorem nmX6 : ∀ a, a < 6 → ∀ b, b < 6 → a ≠ b → (TX6 a).2.1 ≠ (TX6 b).2.1 := by decide +kernel
theorem tyX6_ok : ∀ k, k < 6 → parseFieldDescriptor (TX6 k).2.2.1 = some (tyX6 k) := by decide +kernel
abbrev cX6_init : ByteArray := prog_8_method_1_code
def yX6_init : MethodName := ⟨RX6, "<init>", "()V"⟩
abbrev cX6_make : ByteArray := prog_8_method_2_code
def yX6_make : MethodName := ⟨RX6, "make", "(LLalrDesk$Tables;)V"⟩
abbrev cX6_settleKinds : ByteArray := prog_8_method_3_code
def yX6_settleKinds : MethodName := ⟨RX6, "settleKinds", "(LLalrDesk$Grammar;)V"⟩
abbrev cX6_tryRule : ByteArray := prog_8_method_4_code
def yX6_tryRule : MethodName := ⟨RX6, "tryRule", "(LLalrDesk$Grammar;I)Z"⟩
abbrev cX6_settleStates : ByteArray := prog_8_method_5_code
def yX6_settleStates : MethodName := ⟨RX6, "settleStates", "(LLalrDesk$States;)V"⟩
abbrev cX6_improveBy : ByteArray := prog_8_method_6_code
def yX6_improveBy : MethodName := ⟨RX6, "improveBy", "(LLalrDesk$States;II)Z"⟩
abbrev cX6_lengthen : ByteArray := prog_8_method_7_code
def yX6_lengthen : MethodName := ⟨RX6, "lengthen", "(II)Z"⟩
abbrev cX6_improves : ByteArray := prog_8_method_8_code
def yX6_improves : MethodName := ⟨RX6, "improves", "([III)Z"⟩
abbrev cX6_tokenOfKind : ByteArray := prog_8_method_9_code
def yX6_tokenOfKind : MethodName := ⟨RX6, "tokenOfKind", "(II)I"⟩
def RX7 : String := "LalrDesk$States"
def TX7 : u_T := fun k => match k with
  | 0 => ("LalrDesk$States", "count", "I", false)
  | 1 => ("LalrDesk$States", "kernels", "[J", true)
  | 2 => ("LalrDesk$States", "closures", "[J", true)
  | 3 => ("LalrDesk$States", "entries", "[I", true)
  | 4 => ("LalrDesk$States", "moves", "[I", true)
  | 5 => ("LalrDesk$States", "behinds", "[I", true)
  | 6 => ("LalrDesk$States", "itemsToLookAt", "I", false)
  | 7 => ("LalrDesk$States", "itemsAhead", "[J", true)
  | 8 => ("LalrDesk$States", "itemsOfKind", "[J", true)
  | 9 => ("LalrDesk$States", "symbolBehindDot", "[I", true)
  | 10 => ("LalrDesk$States", "firstBehindThat", "[I", true)
  | _ => ("LalrDesk$States", "emptyBehindThat", "J", false)
def tyX7 : Nat → FieldType := fun k => match k with
  | 0 => .int
  | 1 => .array .long
  | 2 => .array .long
  | 3 => .array .int
  | 4 => .array .int
  | 5 => .array .int
  | 6 => .int
  | 7 => .array .long
  | 8 => .array .long
  | 9 => .array .int
  | 10 => .array .int
  | _ => .long
abbrev wsX70 : List Cond := u_ws RX7 TX7 12
theorem nmX7 : ∀ a, a < 12 → ∀ b, b < 12 → a ≠ b → (TX7 a).2.1 ≠ (TX7 b).2.1 := by decide +kernel
theorem tyX7_ok : ∀ k, k < 12 → parseFieldDescriptor (TX7 k).2.2.1 = some (tyX7 k) := by decide +kernel
abbrev cX7_init : ByteArray := prog_9_method_1_code
def yX7_init : MethodName := ⟨RX7, "<init>", "()V"⟩
abbrev cX7_has : ByteArray := prog_9_method_2_code
def yX7_has : MethodName := ⟨RX7, "has", "(I)Z"⟩
abbrev cX7_hasItem : ByteArray := prog_9_method_3_code
def yX7_hasItem : MethodName := ⟨RX7, "hasItem", "(II)Z"⟩
abbrev cX7_moveBy : ByteArray := prog_9_method_4_code
def yX7_moveBy : MethodName := ⟨RX7, "moveBy", "(II)I"⟩
abbrev cX7_behind : ByteArray := prog_9_method_5_code
def yX7_behind : MethodName := ⟨RX7, "behind", "(II)I"⟩
abbrev cX7_itemsInAll : ByteArray := prog_9_method_7_code
def yX7_itemsInAll : MethodName := ⟨RX7, "itemsInAll", "()I"⟩
abbrev cX7_movesInAll : ByteArray := prog_9_method_8_code
def yX7_movesInAll : MethodName := ⟨RX7, "movesInAll", "()I"⟩
abbrev cX7_make : ByteArray := prog_9_method_9_code
def yX7_make : MethodName := ⟨RX7, "make", "(LLalrDesk$Grammar;)Z"⟩
abbrev cX7_prepareItems : ByteArray := prog_9_method_10_code
def yX7_prepareItems : MethodName := ⟨RX7, "prepareItems", "(LLalrDesk$Grammar;)V"⟩
abbrev cX7_prepareRule : ByteArray := prog_9_method_11_code
def yX7_prepareRule : MethodName := ⟨RX7, "prepareRule", "(LLalrDesk$Grammar;I)V"⟩
abbrev cX7_numberOf : ByteArray := prog_9_method_12_code
def yX7_numberOf : MethodName := ⟨RX7, "numberOf", "(JI)I"⟩
abbrev cX7_closed : ByteArray := prog_9_method_13_code
def yX7_closed : MethodName := ⟨RX7, "closed", "(J)J"⟩
abbrev cX7_spread : ByteArray := prog_9_method_14_code
def yX7_spread : MethodName := ⟨RX7, "spread", "(II)V"⟩
abbrev cX7_spreadIn : ByteArray := prog_9_method_15_code
def yX7_spreadIn : MethodName := ⟨RX7, "spreadIn", "(I)Z"⟩
abbrev cX7_spreadFrom : ByteArray := prog_9_method_16_code
def yX7_spreadFrom : MethodName := ⟨RX7, "spreadFrom", "(II)Z"⟩
abbrev cX7_widen : ByteArray := prog_9_method_17_code
def yX7_widen : MethodName := ⟨RX7, "widen", "(III)Z"⟩
def RX8 : String := "LalrDesk$Tables"
def TX8 : u_T := fun k => match k with
  | 0 => ("LalrDesk$Tables", "grammar", "LLalrDesk$Grammar;", true)
  | 1 => ("LalrDesk$Tables", "states", "LLalrDesk$States;", true)
  | 2 => ("LalrDesk$Tables", "actions", "[I", true)
  | _ => ("LalrDesk$Tables", "leftOuts", "[I", true)
def tyX8 : Nat → FieldType := fun k => match k with
  | 0 => .object "LalrDesk$Grammar"
  | 1 => .object "LalrDesk$States"
  | 2 => .array .int
  | _ => .array .int
abbrev wsX80 : List Cond := u_ws RX8 TX8 4
theorem nmX8 : ∀ a, a < 4 → ∀ b, b < 4 → a ≠ b → (TX8 a).2.1 ≠ (TX8 b).2.1 := by decide +kernel
theorem tyX8_ok : ∀ k, k < 4 → parseFieldDescriptor (TX8 k).2.2.1 = some (tyX8 k) := by decide +kernel
abbrev cX8_init : ByteArray := prog_10_method_1_code
def yX8_init : MethodName := ⟨RX8, "<init>", "()V"⟩
abbrev cX8_make : ByteArray := prog_10_method_2_code
def yX8_make : MethodName := ⟨RX8, "make", "(Z)Z"⟩
abbrev cX8_gatherReduces : ByteArray := prog_10_method_3_code
def yX8_gatherReduces : MethodName := ⟨RX8, "gatherReduces", "(IZ)V"⟩
abbrev cX8_decide : ByteArray := prog_10_method_4_code
def yX8_decide : MethodName := ⟨RX8, "decide", "(II)V"⟩
abbrev cX8_actionBySide : ByteArray := prog_10_method_5_code
def yX8_actionBySide : MethodName := ⟨RX8, "actionBySide", "(III)I"⟩
abbrev cX8_leastOf : ByteArray := prog_10_method_6_code
def yX8_leastOf : MethodName := ⟨RX8, "leastOf", "(I)I"⟩
abbrev cX8_actionFor : ByteArray := prog_10_method_7_code
def yX8_actionFor : MethodName := ⟨RX8, "actionFor", "(II)I"⟩
abbrev cX8_actionsIn : ByteArray := prog_10_method_8_code
def yX8_actionsIn : MethodName := ⟨RX8, "actionsIn", "(I)I"⟩
abbrev cX8_actionsInAll : ByteArray := prog_10_method_9_code
def yX8_actionsInAll : MethodName := ⟨RX8, "actionsInAll", "()I"⟩
abbrev cX8_conflictCount : ByteArray := prog_10_method_10_code
def yX8_conflictCount : MethodName := ⟨RX8, "conflictCount", "()I"⟩
abbrev cX8_cellOfConflict : ByteArray := prog_10_method_11_code
def yX8_cellOfConflict : MethodName := ⟨RX8, "cellOfConflict", "(I)I"⟩
abbrev cX8_ruleOfConflict : ByteArray := prog_10_method_12_code
def yX8_ruleOfConflict : MethodName := ⟨RX8, "ruleOfConflict", "(II)I"⟩
def RX9 : String := "LalrDesk$TextParser"
def TX9 : u_T := fun k => match k with
  | 0 => ("LalrDesk$TextParser", "faultNumber", "I", false)
  | 1 => ("LalrDesk$TextParser", "faultPlace", "I", false)
  | 2 => ("LalrDesk$TextParser", "bytes", "[I", true)
  | 3 => ("LalrDesk$TextParser", "length", "I", false)
  | 4 => ("LalrDesk$TextParser", "place", "I", false)
  | 5 => ("LalrDesk$TextParser", "sort", "I", false)
  | 6 => ("LalrDesk$TextParser", "start", "I", false)
  | 7 => ("LalrDesk$TextParser", "letters", "I", false)
  | _ => ("LalrDesk$TextParser", "value", "I", false)
def tyX9 : Nat → FieldType := fun k => match k with
  | 0 => .int
  | 1 => .int
  | 2 => .array .int
  | 3 => .int
  | 4 => .int
  | 5 => .int
  | 6 => .int
  | 7 => .int
  | _ => .int
abbrev wsX90 : List Cond := u_ws RX9 TX9 9
theorem nmX9 : ∀ a, a < 9 → ∀ b, b < 9 → a ≠ b → (TX9 a).2.1 ≠ (TX9 b).2.1 := by decide +kernel
theorem tyX9_ok : ∀ k, k < 9 → parseFieldDescriptor (TX9 k).2.2.1 = some (tyX9 k) := by decide +kernel
abbrev cX9_init : ByteArray := prog_11_method_1_code
def yX9_init : MethodName := ⟨RX9, "<init>", "()V"⟩
abbrev cX9_blame : ByteArray := prog_11_method_2_code
def yX9_blame : MethodName := ⟨RX9, "blame", "(II)V"⟩
abbrev cX9_refuse : ByteArray := prog_11_method_3_code
def yX9_refuse : MethodName := ⟨RX9, "refuse", "(I)Z"⟩
abbrev cX9_linesOf : ByteArray := prog_11_method_4_code
def yX9_linesOf : MethodName := ⟨RX9, "linesOf", "([IILLalrDesk$Grammar;)I"⟩
abbrev cX9_takeLine : ByteArray := prog_11_method_5_code
def yX9_takeLine : MethodName := ⟨RX9, "takeLine", "(LLalrDesk$Grammar;)Z"⟩
abbrev cX9_takeToken : ByteArray := prog_11_method_6_code
def yX9_takeToken : MethodName := ⟨RX9, "takeToken", "(LLalrDesk$Grammar;)Z"⟩
abbrev cX9_takeKind : ByteArray := prog_11_method_7_code
def yX9_takeKind : MethodName := ⟨RX9, "takeKind", "(LLalrDesk$Grammar;)Z"⟩
abbrev cX9_isNewName : ByteArray := prog_11_method_8_code
def yX9_isNewName : MethodName := ⟨RX9, "isNewName", "(LLalrDesk$Grammar;)Z"⟩
abbrev cX9_takeRule : ByteArray := prog_11_method_9_code
def yX9_takeRule : MethodName := ⟨RX9, "takeRule", "(LLalrDesk$Grammar;)Z"⟩
abbrev cX9_takeSymbol : ByteArray := prog_11_method_10_code
def yX9_takeSymbol : MethodName := ⟨RX9, "takeSymbol", "(LLalrDesk$Grammar;)Z"⟩
abbrev cX9_takeRank : ByteArray := prog_11_method_11_code
def yX9_takeRank : MethodName := ⟨RX9, "takeRank", "(LLalrDesk$Grammar;)Z"⟩
abbrev cX9_takeName : ByteArray := prog_11_method_12_code
def yX9_takeName : MethodName := ⟨RX9, "takeName", "()Z"⟩
abbrev cX9_takeNumber : ByteArray := prog_11_method_13_code
def yX9_takeNumber : MethodName := ⟨RX9, "takeNumber", "(II)Z"⟩
abbrev cX9_takeLineEnd : ByteArray := prog_11_method_14_code
def yX9_takeLineEnd : MethodName := ⟨RX9, "takeLineEnd", "()Z"⟩
abbrev cX9_isName : ByteArray := prog_11_method_15_code
def yX9_isName : MethodName := ⟨RX9, "isName", "()Z"⟩
abbrev cX9_advance : ByteArray := prog_11_method_16_code
def yX9_advance : MethodName := ⟨RX9, "advance", "()V"⟩
abbrev cX9_passWord : ByteArray := prog_11_method_17_code
def yX9_passWord : MethodName := ⟨RX9, "passWord", "()V"⟩
abbrev cX9_passNumber : ByteArray := prog_11_method_18_code
def yX9_passNumber : MethodName := ⟨RX9, "passNumber", "()V"⟩
abbrev cX9_signAt : ByteArray := prog_11_method_19_code
def yX9_signAt : MethodName := ⟨RX9, "signAt", "(I)I"⟩
abbrev cX9_isBlank : ByteArray := prog_11_method_20_code
def yX9_isBlank : MethodName := ⟨RX9, "isBlank", "(I)Z"⟩
abbrev cX9_isLetter : ByteArray := prog_11_method_21_code
def yX9_isLetter : MethodName := ⟨RX9, "isLetter", "(I)Z"⟩
abbrev cX9_isDigit : ByteArray := prog_11_method_22_code
def yX9_isDigit : MethodName := ⟨RX9, "isDigit", "(I)Z"⟩
def RX10 : String := "LalrDesk$Trials"
def TX10 : u_T := fun k => match k with
  | 0 => ("LalrDesk$Trials", "learned", "Z", false)
  | 1 => ("LalrDesk$Trials", "possible", "I", false)
  | _ => ("LalrDesk$Trials", "withouts", "[I", true)
def tyX10 : Nat → FieldType := fun k => match k with
  | 0 => .boolean
  | 1 => .int
  | _ => .array .int
abbrev wsX100 : List Cond := u_ws RX10 TX10 3
theorem nmX10 : ∀ a, a < 3 → ∀ b, b < 3 → a ≠ b → (TX10 a).2.1 ≠ (TX10 b).2.1 := by decide +kernel
theorem tyX10_ok : ∀ k, k < 3 → parseFieldDescriptor (TX10 k).2.2.1 = some (tyX10 k) := by decide +kernel
abbrev cX10_init : ByteArray := prog_12_method_1_code
def yX10_init : MethodName := ⟨RX10, "<init>", "()V"⟩
abbrev cX10_forget : ByteArray := prog_12_method_2_code
def yX10_forget : MethodName := ⟨RX10, "forget", "()V"⟩
abbrev cX10_placeOf : ByteArray := prog_12_method_3_code
def yX10_placeOf : MethodName := ⟨RX10, "placeOf", "(III)I"⟩
abbrev cX10_learn : ByteArray := prog_12_method_5_code
def yX10_learn : MethodName := ⟨RX10, "learn", "(LLalrDesk$Grammar;LLalrDesk$Tables;LLalrDesk$Row;)V"⟩
abbrev cX10_mark : ByteArray := prog_12_method_6_code
def yX10_mark : MethodName := ⟨RX10, "mark", "(LLalrDesk$Tables;LLalrDesk$Row;[III)V"⟩
abbrev cX10_withoutsAt : ByteArray := prog_12_method_7_code
def yX10_withoutsAt : MethodName := ⟨RX10, "withoutsAt", "(I)I"⟩
abbrev cX10_missingBy : ByteArray := prog_12_method_8_code
def yX10_missingBy : MethodName := ⟨RX10, "missingBy", "(LLalrDesk$Notes;)I"⟩
def RX11 : String := "LalrDesk"
def TX11 : u_T := fun k => match k with
  | 0 => ("LalrDesk", "tape", "[I", true)
  | 1 => ("LalrDesk", "taped", "I", false)
  | 2 => ("LalrDesk", "parser", "LLalrDesk$TextParser;", true)
  | 3 => ("LalrDesk", "tables", "LLalrDesk$Tables;", false)
  | 4 => ("LalrDesk", "spare", "LLalrDesk$Tables;", false)
  | 5 => ("LalrDesk", "related", "LLalrDesk$Relations;", true)
  | 6 => ("LalrDesk", "rows", "LLalrDesk$ShortestRows;", true)
  | 7 => ("LalrDesk", "packing", "LLalrDesk$Packing;", true)
  | 8 => ("LalrDesk", "reading", "LLalrDesk$Row;", true)
  | 9 => ("LalrDesk", "ladder", "LLalrDesk$Row;", true)
  | 10 => ("LalrDesk", "image", "LLalrDesk$Row;", true)
  | 11 => ("LalrDesk", "imaged", "Z", false)
  | 12 => ("LalrDesk", "past", "LLalrDesk$Past;", true)
  | 13 => ("LalrDesk", "notes", "LLalrDesk$Notes;", true)
  | _ => ("LalrDesk", "trials", "LLalrDesk$Trials;", true)
def tyX11 : Nat → FieldType := fun k => match k with
  | 0 => .array .int
  | 1 => .int
  | 2 => .object "LalrDesk$TextParser"
  | 3 => .object "LalrDesk$Tables"
  | 4 => .object "LalrDesk$Tables"
  | 5 => .object "LalrDesk$Relations"
  | 6 => .object "LalrDesk$ShortestRows"
  | 7 => .object "LalrDesk$Packing"
  | 8 => .object "LalrDesk$Row"
  | 9 => .object "LalrDesk$Row"
  | 10 => .object "LalrDesk$Row"
  | 11 => .boolean
  | 12 => .object "LalrDesk$Past"
  | 13 => .object "LalrDesk$Notes"
  | _ => .object "LalrDesk$Trials"
abbrev wsX110 : List Cond := u_ws RX11 TX11 15
theorem nmX11 : ∀ a, a < 15 → ∀ b, b < 15 → a ≠ b → (TX11 a).2.1 ≠ (TX11 b).2.1 := by decide +kernel
theorem tyX11_ok : ∀ k, k < 15 → parseFieldDescriptor (TX11 k).2.2.1 = some (tyX11 k) := by decide +kernel
abbrev cX11_init : ByteArray := prog_1_method_1_code
def yX11_init : MethodName := ⟨RX11, "<init>", "()V"⟩
abbrev cX11_feed : ByteArray := prog_1_method_2_code
def yX11_feed : MethodName := ⟨RX11, "feed", "(IIIII)I"⟩
abbrev cX11_putBytes : ByteArray := prog_1_method_3_code
def yX11_putBytes : MethodName := ⟨RX11, "putBytes", "(I)V"⟩
abbrev cX11_text : ByteArray := prog_1_method_4_code
def yX11_text : MethodName := ⟨RX11, "text", "(I)I"⟩
abbrev cX11_takeSpare : ByteArray := prog_1_method_5_code
def yX11_takeSpare : MethodName := ⟨RX11, "takeSpare", "()V"⟩
abbrev cX11_kind : ByteArray := prog_1_method_9_code
def yX11_kind : MethodName := ⟨RX11, "kind", "(II)I"⟩
abbrev cX11_rule : ByteArray := prog_1_method_10_code
def yX11_rule : MethodName := ⟨RX11, "rule", "(II)I"⟩
abbrev cX11_state : ByteArray := prog_1_method_11_code
def yX11_state : MethodName := ⟨RX11, "state", "(II)I"⟩
abbrev cX11_action : ByteArray := prog_1_method_14_code
def yX11_action : MethodName := ⟨RX11, "action", "(II)I"⟩
abbrev cX11_look : ByteArray := prog_1_method_15_code
def yX11_look : MethodName := ⟨RX11, "look", "(II)I"⟩
abbrev cX11_after : ByteArray := prog_1_method_16_code
def yX11_after : MethodName := ⟨RX11, "after", "(II)I"⟩
abbrev cX11_relations : ByteArray := prog_1_method_17_code
def yX11_relations : MethodName := ⟨RX11, "relations", "(I)I"⟩
abbrev cX11_conflicts : ByteArray := prog_1_method_18_code
def yX11_conflicts : MethodName := ⟨RX11, "conflicts", "()I"⟩
abbrev cX11_conflict : ByteArray := prog_1_method_19_code
def yX11_conflict : MethodName := ⟨RX11, "conflict", "(II)I"⟩
abbrev cX11_shortest : ByteArray := prog_1_method_21_code
def yX11_shortest : MethodName := ⟨RX11, "shortest", "(II)I"⟩
abbrev cX11_sentences : ByteArray := prog_1_method_24_code
def yX11_sentences : MethodName := ⟨RX11, "sentences", "(I)I"⟩
abbrev cX11_sentencesFrom : ByteArray := prog_1_method_25_code
def yX11_sentencesFrom : MethodName := ⟨RX11, "sentencesFrom", "(LLalrDesk$Tables;LLalrDesk$Row;I)I"⟩
abbrev cX11_hasStates : ByteArray := prog_1_method_26_code
def yX11_hasStates : MethodName := ⟨RX11, "hasStates", "()Z"⟩
abbrev cX11_read : ByteArray := prog_1_method_27_code
def yX11_read : MethodName := ⟨RX11, "read", "(I)I"⟩
abbrev cX11_whole : ByteArray := prog_1_method_28_code
def yX11_whole : MethodName := ⟨RX11, "whole", "()I"⟩
abbrev cX11_expected : ByteArray := prog_1_method_29_code
def yX11_expected : MethodName := ⟨RX11, "expected", "()I"⟩
abbrev cX11_stack : ByteArray := prog_1_method_30_code
def yX11_stack : MethodName := ⟨RX11, "stack", "(I)I"⟩
abbrev cX11_game : ByteArray := prog_1_method_31_code
def yX11_game : MethodName := ⟨RX11, "game", "(II)I"⟩
abbrev cX11_winningToken : ByteArray := prog_1_method_32_code
def yX11_winningToken : MethodName := ⟨RX11, "winningToken", "(LLalrDesk$Tables;LLalrDesk$Row;I)I"⟩
abbrev cX11_note : ByteArray := prog_1_method_33_code
def yX11_note : MethodName := ⟨RX11, "note", "(IIZ)I"⟩
abbrev cX11_strike : ByteArray := prog_1_method_34_code
def yX11_strike : MethodName := ⟨RX11, "strike", "(I)I"⟩
abbrev cX11_known : ByteArray := prog_1_method_35_code
def yX11_known : MethodName := ⟨RX11, "known", "(I)Z"⟩
abbrev cX11_missing : ByteArray := prog_1_method_36_code
def yX11_missing : MethodName := ⟨RX11, "missing", "()I"⟩
abbrev cX11_tried : ByteArray := prog_1_method_39_code
def yX11_tried : MethodName := ⟨RX11, "tried", "(II)I"⟩
abbrev cX11_canTry : ByteArray := prog_1_method_40_code
def yX11_canTry : MethodName := ⟨RX11, "canTry", "(II)Z"⟩
abbrev cX11_undo : ByteArray := prog_1_method_41_code
def yX11_undo : MethodName := ⟨RX11, "undo", "()I"⟩
abbrev cX11_keep : ByteArray := prog_1_method_42_code
def yX11_keep : MethodName := ⟨RX11, "keep", "()I"⟩
abbrev cX11_back : ByteArray := prog_1_method_43_code
def yX11_back : MethodName := ⟨RX11, "back", "()I"⟩
abbrev cX11_count : ByteArray := prog_1_method_44_code
def yX11_count : MethodName := ⟨RX11, "count", "(I)I"⟩
abbrev cX11_inBits : ByteArray := prog_1_method_45_code
def yX11_inBits : MethodName := ⟨RX11, "inBits", "(JI)Z"⟩
def RX12 : String := "LalrDeskModel"
def TX12 : u_T := fun k => match k with
  | _ => ("", "", "", false)
def tyX12 : Nat → FieldType := fun k => match k with
  | _ => .int
abbrev wsX120 : List Cond := u_ws RX12 TX12 0
theorem nmX12 : ∀ a, a < 0 → ∀ b, b < 0 → a ≠ b → (TX12 a).2.1 ≠ (TX12 b).2.1 := by decide +kernel
theorem tyX12_ok : ∀ k, k < 0 → parseFieldDescriptor (TX12 k).2.2.1 = some (tyX12 k) := by decide +kernel
def RJ5 : String := "java/lang/AbstractStringBuilder"
abbrev cJ5_init_d00df : ByteArray := prog_16_method_2_code
def yJ5_init_d00df : MethodName := ⟨RJ5, "<init>", "(I)V"⟩
abbrev cJ5_length_8abf5 : ByteArray := prog_16_method_6_code
def yJ5_length_8abf5 : MethodName := ⟨RJ5, "length", "()I"⟩
abbrev cJ5_ensureCapacityInternal_d00df : ByteArray := prog_16_method_9_code
def yJ5_ensureCapacityInternal_d00df : MethodName := ⟨RJ5, "ensureCapacityInternal", "(I)V"⟩
abbrev cJ5_newCapacity_0f7a4 : ByteArray := prog_16_method_10_code
def yJ5_newCapacity_0f7a4 : MethodName := ⟨RJ5, "newCapacity", "(I)I"⟩
abbrev cJ5_inflate_da8c8 : ByteArray := prog_16_method_11_code
def yJ5_inflate_da8c8 : MethodName := ⟨RJ5, "inflate", "()V"⟩
abbrev cJ5_append_cf1ce : ByteArray := prog_16_method_22_code
def yJ5_append_cf1ce : MethodName := ⟨RJ5, "append", "(Ljava/lang/String;)Ljava/lang/AbstractStringBuilder;"⟩
abbrev cJ5_appendNull_278bc : ByteArray := prog_16_method_26_code
def yJ5_appendNull_278bc : MethodName := ⟨RJ5, "appendNull", "()Ljava/lang/AbstractStringBuilder;"⟩
abbrev cJ5_append_c97b9 : ByteArray := prog_16_method_32_code
def yJ5_append_c97b9 : MethodName := ⟨RJ5, "append", "(I)Ljava/lang/AbstractStringBuilder;"⟩
abbrev cJ5_getValue_6d5f1 : ByteArray := prog_16_method_64_code
def yJ5_getValue_6d5f1 : MethodName := ⟨RJ5, "getValue", "()[B"⟩
abbrev cJ5_isLatin1_aae02 : ByteArray := prog_16_method_68_code
def yJ5_isLatin1_aae02 : MethodName := ⟨RJ5, "isLatin1", "()Z"⟩
abbrev cJ5_inflateIfNeededFor_a7421 : ByteArray := prog_16_method_71_code
def yJ5_inflateIfNeededFor_a7421 : MethodName := ⟨RJ5, "inflateIfNeededFor", "(Ljava/lang/String;)V"⟩
abbrev cJ5_putStringAt_47b60 : ByteArray := prog_16_method_73_code
def yJ5_putStringAt_47b60 : MethodName := ⟨RJ5, "putStringAt", "(ILjava/lang/String;)V"⟩
def RJ6 : String := "java/lang/Integer"
abbrev cJ6_getChars_ba4f3 : ByteArray := prog_23_method_12_code
def yJ6_getChars_ba4f3 : MethodName := ⟨RJ6, "getChars", "(II[B)I"⟩
abbrev cJ6_stringSize_0f7a4 : ByteArray := prog_23_method_13_code
def yJ6_stringSize_0f7a4 : MethodName := ⟨RJ6, "stringSize", "(I)I"⟩
abbrev cJ6_bitCount_0f7a4 : ByteArray := prog_23_method_49_code
def yJ6_bitCount_0f7a4 : MethodName := ⟨RJ6, "bitCount", "(I)I"⟩
def RJ13 : String := "java/lang/Long"
abbrev cJ13_bitCount_95d88 : ByteArray := prog_24_method_50_code
def yJ13_bitCount_95d88 : MethodName := ⟨RJ13, "bitCount", "(J)I"⟩
def RJ9 : String := "java/lang/Math"
abbrev cJ9_max_7cf53 : ByteArray := prog_25_method_65_code
def yJ9_max_7cf53 : MethodName := ⟨RJ9, "max", "(II)I"⟩
abbrev cJ9_min_7cf53 : ByteArray := prog_25_method_69_code
def yJ9_min_7cf53 : MethodName := ⟨RJ9, "min", "(II)I"⟩
def RJ0 : String := "java/lang/String"
abbrev cJ0_init_81219 : ByteArray := prog_28_method_53_code
def yJ0_init_81219 : MethodName := ⟨RJ0, "<init>", "(Ljava/lang/StringBuilder;)V"⟩
abbrev cJ0_length_8abf5 : ByteArray := prog_28_method_54_code
def yJ0_length_8abf5 : MethodName := ⟨RJ0, "length", "()I"⟩
abbrev cJ0_charAt_5068e : ByteArray := prog_28_method_56_code
def yJ0_charAt_5068e : MethodName := ⟨RJ0, "charAt", "(I)C"⟩
abbrev cJ0_getBytes_840e7 : ByteArray := prog_28_method_147_code
def yJ0_getBytes_840e7 : MethodName := ⟨RJ0, "getBytes", "([BIB)V"⟩
abbrev cJ0_init_db425 : ByteArray := prog_28_method_150_code
def yJ0_init_db425 : MethodName := ⟨RJ0, "<init>", "(Ljava/lang/AbstractStringBuilder;Ljava/lang/Void;)V"⟩
abbrev cJ0_coder_7d493 : ByteArray := prog_28_method_152_code
def yJ0_coder_7d493 : MethodName := ⟨RJ0, "coder", "()B"⟩
abbrev cJ0_isLatin1_aae02 : ByteArray := prog_28_method_154_code
def yJ0_isLatin1_aae02 : MethodName := ⟨RJ0, "isLatin1", "()Z"⟩
abbrev cJ0_checkIndex_df160 : ByteArray := prog_28_method_155_code
def yJ0_checkIndex_df160 : MethodName := ⟨RJ0, "checkIndex", "(II)V"⟩
abbrev cJ0_checkBoundsOffCount_cabcc : ByteArray := prog_28_method_157_code
def yJ0_checkBoundsOffCount_cabcc : MethodName := ⟨RJ0, "checkBoundsOffCount", "(III)I"⟩
abbrev cJ0_checkBoundsBeginEnd_23922 : ByteArray := prog_28_method_158_code
def yJ0_checkBoundsBeginEnd_23922 : MethodName := ⟨RJ0, "checkBoundsBeginEnd", "(III)V"⟩
def RJ4 : String := "java/lang/StringBuilder"
abbrev cJ4_init_da8c8 : ByteArray := prog_29_method_1_code
def yJ4_init_da8c8 : MethodName := ⟨RJ4, "<init>", "()V"⟩
abbrev cJ4_append_15ec4 : ByteArray := prog_29_method_7_code
def yJ4_append_15ec4 : MethodName := ⟨RJ4, "append", "(Ljava/lang/String;)Ljava/lang/StringBuilder;"⟩
abbrev cJ4_append_bf812 : ByteArray := prog_29_method_15_code
def yJ4_append_bf812 : MethodName := ⟨RJ4, "append", "(I)Ljava/lang/StringBuilder;"⟩
abbrev cJ4_toString_0e30d : ByteArray := prog_29_method_42_code
def yJ4_toString_0e30d : MethodName := ⟨RJ4, "toString", "()Ljava/lang/String;"⟩
abbrev cJ4_length_8abf5 : ByteArray := prog_29_method_93_code
def yJ4_length_8abf5 : MethodName := ⟨RJ4, "length", "()I"⟩
def RJ1 : String := "java/lang/StringLatin1"
abbrev cJ1_charAt_3b067 : ByteArray := prog_30_method_2_code
def yJ1_charAt_3b067 : MethodName := ⟨RJ1, "charAt", "([BI)C"⟩
abbrev cJ1_inflate_0e8fd : ByteArray := prog_30_method_50_code
def yJ1_inflate_0e8fd : MethodName := ⟨RJ1, "inflate", "([BI[BII)V"⟩
def RJ2 : String := "java/lang/StringUTF16"
abbrev cJ2_newBytesFor_77867 : ByteArray := prog_31_method_2_code
def yJ2_newBytesFor_77867 : MethodName := ⟨RJ2, "newBytesFor", "(I)[B"⟩
abbrev cJ2_newBytesLength_0f7a4 : ByteArray := prog_31_method_3_code
def yJ2_newBytesLength_0f7a4 : MethodName := ⟨RJ2, "newBytesLength", "(I)I"⟩
abbrev cJ2_putChar_b72d1 : ByteArray := prog_31_method_4_code
def yJ2_putChar_b72d1 : MethodName := ⟨RJ2, "putChar", "([BII)V"⟩
abbrev cJ2_getChar_3b067 : ByteArray := prog_31_method_5_code
def yJ2_getChar_3b067 : MethodName := ⟨RJ2, "getChar", "([BI)C"⟩
abbrev cJ2_length_9d52b : ByteArray := prog_31_method_6_code
def yJ2_length_9d52b : MethodName := ⟨RJ2, "length", "([B)I"⟩
abbrev cJ2_coderFromArrayLen_85cad : ByteArray := prog_31_method_15_code
def yJ2_coderFromArrayLen_85cad : MethodName := ⟨RJ2, "coderFromArrayLen", "([BI)B"⟩
abbrev cJ2_compress_39247 : ByteArray := prog_31_method_17_code
def yJ2_compress_39247 : MethodName := ⟨RJ2, "compress", "([BII)[B"⟩
abbrev cJ2_compress_5af95 : ByteArray := prog_31_method_22_code
def yJ2_compress_5af95 : MethodName := ⟨RJ2, "compress", "([BI[BII)I"⟩
abbrev cJ2_getChars_46870 : ByteArray := prog_31_method_77_code
def yJ2_getChars_46870 : MethodName := ⟨RJ2, "getChars", "(III[B)I"⟩
abbrev cJ2_putCharsAt_cd4e5 : ByteArray := prog_31_method_81_code
def yJ2_putCharsAt_cd4e5 : MethodName := ⟨RJ2, "putCharsAt", "([BICCCC)I"⟩
abbrev cJ2_charAt_3b067 : ByteArray := prog_31_method_83_code
def yJ2_charAt_3b067 : MethodName := ⟨RJ2, "charAt", "([BI)C"⟩
abbrev cJ2_inflate_0e8fd : ByteArray := prog_31_method_86_code
def yJ2_inflate_0e8fd : MethodName := ⟨RJ2, "inflate", "([BI[BII)V"⟩
abbrev cJ2_getChars_ba4f3 : ByteArray := prog_31_method_89_code
def yJ2_getChars_ba4f3 : MethodName := ⟨RJ2, "getChars", "(II[B)I"⟩
abbrev cJ2_checkIndex_2214a : ByteArray := prog_31_method_91_code
def yJ2_checkIndex_2214a : MethodName := ⟨RJ2, "checkIndex", "(I[B)V"⟩
abbrev cJ2_checkBoundsBeginEnd_d044e : ByteArray := prog_31_method_93_code
def yJ2_checkBoundsBeginEnd_d044e : MethodName := ⟨RJ2, "checkBoundsBeginEnd", "(II[B)V"⟩
abbrev cJ2_checkBoundsOffCount_d044e : ByteArray := prog_31_method_94_code
def yJ2_checkBoundsOffCount_d044e : MethodName := ⟨RJ2, "checkBoundsOffCount", "(II[B)V"⟩
def RJ10 : String := "java/lang/System"
def RJ7 : String := "java/util/Arrays"
abbrev cJ7_fill_d0a16 : ByteArray := prog_36_method_101_code
def yJ7_fill_d0a16 : MethodName := ⟨RJ7, "fill", "([JJ)V"⟩
abbrev cJ7_fill_53178 : ByteArray := prog_36_method_103_code
def yJ7_fill_53178 : MethodName := ⟨RJ7, "fill", "([II)V"⟩
abbrev cJ7_copyOf_9075b : ByteArray := prog_36_method_121_code
def yJ7_copyOf_9075b : MethodName := ⟨RJ7, "copyOf", "([BI)[B"⟩
abbrev cJ7_checkLength_df160 : ByteArray := prog_36_method_131_code
def yJ7_checkLength_df160 : MethodName := ⟨RJ7, "checkLength", "(II)V"⟩
abbrev cJ7_copyOfRange_39247 : ByteArray := prog_36_method_132_code
def yJ7_copyOfRange_39247 : MethodName := ⟨RJ7, "copyOfRange", "([BII)[B"⟩
abbrev cJ7_copyOfRangeByte_39247 : ByteArray := prog_36_method_133_code
def yJ7_copyOfRangeByte_39247 : MethodName := ⟨RJ7, "copyOfRangeByte", "([BII)[B"⟩
def RJ8 : String := "jdk/internal/util/ArraysSupport"
abbrev cJ8_newLength_cabcc : ByteArray := prog_38_method_27_code
def yJ8_newLength_cabcc : MethodName := ⟨RJ8, "newLength", "(III)I"⟩
abbrev cJ8_hugeLength_7cf53 : ByteArray := prog_38_method_28_code
def yJ8_hugeLength_7cf53 : MethodName := ⟨RJ8, "hugeLength", "(II)I"⟩
def RJ3 : String := "jdk/internal/util/Preconditions"
abbrev cJ3_checkIndex_8e157 : ByteArray := prog_39_method_11_code
def yJ3_checkIndex_8e157 : MethodName := ⟨RJ3, "checkIndex", "(IILjava/util/function/BiFunction;)I"⟩
abbrev cJ3_checkFromToIndex_8c36e : ByteArray := prog_39_method_12_code
def yJ3_checkFromToIndex_8c36e : MethodName := ⟨RJ3, "checkFromToIndex", "(IIILjava/util/function/BiFunction;)I"⟩
abbrev cJ3_checkFromIndexSize_8c36e : ByteArray := prog_39_method_13_code
def yJ3_checkFromIndexSize_8c36e : MethodName := ⟨RJ3, "checkFromIndexSize", "(IIILjava/util/function/BiFunction;)I"⟩
def RL : String := "LalrDeskLaw"
abbrev cL_cell : ByteArray := method_2_code
def yL_cell : MethodName := ⟨RL, "cell", "([II)I"⟩
abbrev cL_in : ByteArray := method_3_code
def yL_in : MethodName := ⟨RL, "in", "(II)I"⟩
abbrev cL_text : ByteArray := method_4_code
def yL_text : MethodName := ⟨RL, "text", "(LLalrDesk;Ljava/lang/String;)I"⟩
abbrev cL_law : ByteArray := code
def yL_law : MethodName := ⟨RL, "law", "([I)Z"⟩
abbrev mj_Cl : List vw_C := [(RX0, TX0, 14), (RX1, TX1, 5), (RX2, TX2, 4), (RX3, TX3, 6), (RX4, TX4, 10), (RX5, TX5, 5), (RX6, TX6, 6), (RX7, TX7, 12), (RX8, TX8, 4), (RX9, TX9, 9), (RX10, TX10, 3), (RX11, TX11, 15)]
