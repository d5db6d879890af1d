-- ===== PART A: goes FIRST, ahead of the names: the tables' words, and 'selects' of the private methods out of them =====
/-- a private method of a class that the tables say can be made, by its rows of tables_1 -/
def lw_okq (q : MethodName × Nat) : Prop := (q.1.cls ≠ "java/lang/invoke/MethodHandle" ∧ q.1.cls ≠ "java/lang/invoke/VarHandle") ∧ Cond.instantiable q.1.cls q.2 ∈ tables_1 ∧ Cond.privateMethod q.1 ∈ tables_1 ∧ Cond.instanceMethod q.1 ∈ tables_1
theorem lw_p0 : lw_okq (⟨"LalrDesk", "putBytes", "(I)V"⟩, 15) := ⟨⟨by decide +kernel, by decide +kernel⟩, List.mem_of_getElem? (i := 25) (by decide +kernel), List.mem_of_getElem? (i := 464) (by decide +kernel), List.mem_of_getElem? (i := 465) (by decide +kernel)⟩
theorem lw_p1 : lw_okq (⟨"LalrDesk$TextParser", "advance", "()V"⟩, 9) := ⟨⟨by decide +kernel, by decide +kernel⟩, List.mem_of_getElem? (i := 33) (by decide +kernel), List.mem_of_getElem? (i := 496) (by decide +kernel), List.mem_of_getElem? (i := 497) (by decide +kernel)⟩
theorem lw_p2 : lw_okq (⟨"LalrDesk$TextParser", "signAt", "(I)I"⟩, 9) := ⟨⟨by decide +kernel, by decide +kernel⟩, List.mem_of_getElem? (i := 33) (by decide +kernel), List.mem_of_getElem? (i := 500) (by decide +kernel), List.mem_of_getElem? (i := 501) (by decide +kernel)⟩
theorem lw_p3 : lw_okq (⟨"LalrDesk$TextParser", "passWord", "()V"⟩, 9) := ⟨⟨by decide +kernel, by decide +kernel⟩, List.mem_of_getElem? (i := 33) (by decide +kernel), List.mem_of_getElem? (i := 510) (by decide +kernel), List.mem_of_getElem? (i := 511) (by decide +kernel)⟩
theorem lw_p4 : lw_okq (⟨"LalrDesk$TextParser", "passNumber", "()V"⟩, 9) := ⟨⟨by decide +kernel, by decide +kernel⟩, List.mem_of_getElem? (i := 33) (by decide +kernel), List.mem_of_getElem? (i := 517) (by decide +kernel), List.mem_of_getElem? (i := 518) (by decide +kernel)⟩
theorem lw_p5 : lw_okq (⟨"LalrDesk$TextParser", "takeLine", "(LLalrDesk$Grammar;)Z"⟩, 9) := ⟨⟨by decide +kernel, by decide +kernel⟩, List.mem_of_getElem? (i := 33) (by decide +kernel), List.mem_of_getElem? (i := 521) (by decide +kernel), List.mem_of_getElem? (i := 522) (by decide +kernel)⟩
theorem lw_p6 : lw_okq (⟨"LalrDesk$TextParser", "refuse", "(I)Z"⟩, 9) := ⟨⟨by decide +kernel, by decide +kernel⟩, List.mem_of_getElem? (i := 33) (by decide +kernel), List.mem_of_getElem? (i := 525) (by decide +kernel), List.mem_of_getElem? (i := 526) (by decide +kernel)⟩
theorem lw_p7 : lw_okq (⟨"LalrDesk$TextParser", "takeToken", "(LLalrDesk$Grammar;)Z"⟩, 9) := ⟨⟨by decide +kernel, by decide +kernel⟩, List.mem_of_getElem? (i := 33) (by decide +kernel), List.mem_of_getElem? (i := 529) (by decide +kernel), List.mem_of_getElem? (i := 530) (by decide +kernel)⟩
theorem lw_p8 : lw_okq (⟨"LalrDesk$TextParser", "isNewName", "(LLalrDesk$Grammar;)Z"⟩, 9) := ⟨⟨by decide +kernel, by decide +kernel⟩, List.mem_of_getElem? (i := 33) (by decide +kernel), List.mem_of_getElem? (i := 533) (by decide +kernel), List.mem_of_getElem? (i := 534) (by decide +kernel)⟩
theorem lw_p9 : lw_okq (⟨"LalrDesk$TextParser", "isName", "()Z"⟩, 9) := ⟨⟨by decide +kernel, by decide +kernel⟩, List.mem_of_getElem? (i := 33) (by decide +kernel), List.mem_of_getElem? (i := 537) (by decide +kernel), List.mem_of_getElem? (i := 538) (by decide +kernel)⟩
theorem lw_p10 : lw_okq (⟨"LalrDesk$TextParser", "takeLineEnd", "()Z"⟩, 9) := ⟨⟨by decide +kernel, by decide +kernel⟩, List.mem_of_getElem? (i := 33) (by decide +kernel), List.mem_of_getElem? (i := 565) (by decide +kernel), List.mem_of_getElem? (i := 566) (by decide +kernel)⟩
theorem lw_p11 : lw_okq (⟨"LalrDesk$TextParser", "takeKind", "(LLalrDesk$Grammar;)Z"⟩, 9) := ⟨⟨by decide +kernel, by decide +kernel⟩, List.mem_of_getElem? (i := 33) (by decide +kernel), List.mem_of_getElem? (i := 569) (by decide +kernel), List.mem_of_getElem? (i := 570) (by decide +kernel)⟩
theorem lw_p12 : lw_okq (⟨"LalrDesk$TextParser", "takeRule", "(LLalrDesk$Grammar;)Z"⟩, 9) := ⟨⟨by decide +kernel, by decide +kernel⟩, List.mem_of_getElem? (i := 33) (by decide +kernel), List.mem_of_getElem? (i := 577) (by decide +kernel), List.mem_of_getElem? (i := 578) (by decide +kernel)⟩
theorem lw_p13 : lw_okq (⟨"LalrDesk$TextParser", "takeName", "()Z"⟩, 9) := ⟨⟨by decide +kernel, by decide +kernel⟩, List.mem_of_getElem? (i := 33) (by decide +kernel), List.mem_of_getElem? (i := 581) (by decide +kernel), List.mem_of_getElem? (i := 582) (by decide +kernel)⟩
theorem lw_p14 : lw_okq (⟨"LalrDesk$Grammar", "isSameAsBegun", "(I)Z"⟩, 14) := ⟨⟨by decide +kernel, by decide +kernel⟩, List.mem_of_getElem? (i := 76) (by decide +kernel), List.mem_of_getElem? (i := 594) (by decide +kernel), List.mem_of_getElem? (i := 595) (by decide +kernel)⟩
theorem lw_p15 : lw_okq (⟨"LalrDesk$TextParser", "takeSymbol", "(LLalrDesk$Grammar;)Z"⟩, 9) := ⟨⟨by decide +kernel, by decide +kernel⟩, List.mem_of_getElem? (i := 33) (by decide +kernel), List.mem_of_getElem? (i := 598) (by decide +kernel), List.mem_of_getElem? (i := 599) (by decide +kernel)⟩
def lw_privs_1 : List (MethodName × Nat) := [(⟨"LalrDesk", "putBytes", "(I)V"⟩, 15), (⟨"LalrDesk$TextParser", "advance", "()V"⟩, 9), (⟨"LalrDesk$TextParser", "signAt", "(I)I"⟩, 9), (⟨"LalrDesk$TextParser", "passWord", "()V"⟩, 9), (⟨"LalrDesk$TextParser", "passNumber", "()V"⟩, 9), (⟨"LalrDesk$TextParser", "takeLine", "(LLalrDesk$Grammar;)Z"⟩, 9), (⟨"LalrDesk$TextParser", "refuse", "(I)Z"⟩, 9), (⟨"LalrDesk$TextParser", "takeToken", "(LLalrDesk$Grammar;)Z"⟩, 9), (⟨"LalrDesk$TextParser", "isNewName", "(LLalrDesk$Grammar;)Z"⟩, 9), (⟨"LalrDesk$TextParser", "isName", "()Z"⟩, 9), (⟨"LalrDesk$TextParser", "takeLineEnd", "()Z"⟩, 9), (⟨"LalrDesk$TextParser", "takeKind", "(LLalrDesk$Grammar;)Z"⟩, 9), (⟨"LalrDesk$TextParser", "takeRule", "(LLalrDesk$Grammar;)Z"⟩, 9), (⟨"LalrDesk$TextParser", "takeName", "()Z"⟩, 9), (⟨"LalrDesk$Grammar", "isSameAsBegun", "(I)Z"⟩, 14), (⟨"LalrDesk$TextParser", "takeSymbol", "(LLalrDesk$Grammar;)Z"⟩, 9)]
theorem lw_r1 : ∀ q ∈ lw_privs_1, lw_okq q := List.forall_mem_cons.mpr ⟨lw_p0, List.forall_mem_cons.mpr ⟨lw_p1, List.forall_mem_cons.mpr ⟨lw_p2, List.forall_mem_cons.mpr ⟨lw_p3, List.forall_mem_cons.mpr ⟨lw_p4, List.forall_mem_cons.mpr ⟨lw_p5, List.forall_mem_cons.mpr ⟨lw_p6, List.forall_mem_cons.mpr ⟨lw_p7, List.forall_mem_cons.mpr ⟨lw_p8, List.forall_mem_cons.mpr ⟨lw_p9, List.forall_mem_cons.mpr ⟨lw_p10, List.forall_mem_cons.mpr ⟨lw_p11, List.forall_mem_cons.mpr ⟨lw_p12, List.forall_mem_cons.mpr ⟨lw_p13, List.forall_mem_cons.mpr ⟨lw_p14, List.forall_mem_cons.mpr ⟨lw_p15, fun _ h => absurd h List.not_mem_nil⟩⟩⟩⟩⟩⟩⟩⟩⟩⟩⟩⟩⟩⟩⟩⟩
theorem lw_p16 : lw_okq (⟨"LalrDesk$TextParser", "takeRank", "(LLalrDesk$Grammar;)Z"⟩, 9) := ⟨⟨by decide +kernel, by decide +kernel⟩, List.mem_of_getElem? (i := 33) (by decide +kernel), List.mem_of_getElem? (i := 610) (by decide +kernel), List.mem_of_getElem? (i := 611) (by decide +kernel)⟩
theorem lw_p17 : lw_okq (⟨"LalrDesk$TextParser", "takeNumber", "(II)Z"⟩, 9) := ⟨⟨by decide +kernel, by decide +kernel⟩, List.mem_of_getElem? (i := 33) (by decide +kernel), List.mem_of_getElem? (i := 619) (by decide +kernel), List.mem_of_getElem? (i := 620) (by decide +kernel)⟩
theorem lw_p18 : lw_okq (⟨"LalrDesk$Grammar", "widen", "([III)Z"⟩, 14) := ⟨⟨by decide +kernel, by decide +kernel⟩, List.mem_of_getElem? (i := 76) (by decide +kernel), List.mem_of_getElem? (i := 668) (by decide +kernel), List.mem_of_getElem? (i := 669) (by decide +kernel)⟩
theorem lw_p19 : lw_okq (⟨"LalrDesk$Grammar", "widenFollowsBy", "(I)Z"⟩, 14) := ⟨⟨by decide +kernel, by decide +kernel⟩, List.mem_of_getElem? (i := 76) (by decide +kernel), List.mem_of_getElem? (i := 676) (by decide +kernel), List.mem_of_getElem? (i := 677) (by decide +kernel)⟩
theorem lw_p20 : lw_okq (⟨"LalrDesk$States", "prepareRule", "(LLalrDesk$Grammar;I)V"⟩, 12) := ⟨⟨by decide +kernel, by decide +kernel⟩, List.mem_of_getElem? (i := 150) (by decide +kernel), List.mem_of_getElem? (i := 695) (by decide +kernel), List.mem_of_getElem? (i := 696) (by decide +kernel)⟩
theorem lw_p21 : lw_okq (⟨"LalrDesk$States", "numberOf", "(JI)I"⟩, 12) := ⟨⟨by decide +kernel, by decide +kernel⟩, List.mem_of_getElem? (i := 150) (by decide +kernel), List.mem_of_getElem? (i := 709) (by decide +kernel), List.mem_of_getElem? (i := 710) (by decide +kernel)⟩
theorem lw_p22 : lw_okq (⟨"LalrDesk$States", "closed", "(J)J"⟩, 12) := ⟨⟨by decide +kernel, by decide +kernel⟩, List.mem_of_getElem? (i := 150) (by decide +kernel), List.mem_of_getElem? (i := 713) (by decide +kernel), List.mem_of_getElem? (i := 714) (by decide +kernel)⟩
theorem lw_p23 : lw_okq (⟨"LalrDesk$States", "widen", "(III)Z"⟩, 12) := ⟨⟨by decide +kernel, by decide +kernel⟩, List.mem_of_getElem? (i := 150) (by decide +kernel), List.mem_of_getElem? (i := 721) (by decide +kernel), List.mem_of_getElem? (i := 722) (by decide +kernel)⟩
theorem lw_p24 : lw_okq (⟨"LalrDesk$States", "spreadIn", "(I)Z"⟩, 12) := ⟨⟨by decide +kernel, by decide +kernel⟩, List.mem_of_getElem? (i := 150) (by decide +kernel), List.mem_of_getElem? (i := 730) (by decide +kernel), List.mem_of_getElem? (i := 731) (by decide +kernel)⟩
theorem lw_p25 : lw_okq (⟨"LalrDesk$States", "spreadFrom", "(II)Z"⟩, 12) := ⟨⟨by decide +kernel, by decide +kernel⟩, List.mem_of_getElem? (i := 150) (by decide +kernel), List.mem_of_getElem? (i := 737) (by decide +kernel), List.mem_of_getElem? (i := 738) (by decide +kernel)⟩
theorem lw_p26 : lw_okq (⟨"LalrDesk$Tables", "gatherReduces", "(IZ)V"⟩, 4) := ⟨⟨by decide +kernel, by decide +kernel⟩, List.mem_of_getElem? (i := 70) (by decide +kernel), List.mem_of_getElem? (i := 749) (by decide +kernel), List.mem_of_getElem? (i := 750) (by decide +kernel)⟩
theorem lw_p27 : lw_okq (⟨"LalrDesk$Tables", "decide", "(II)V"⟩, 4) := ⟨⟨by decide +kernel, by decide +kernel⟩, List.mem_of_getElem? (i := 70) (by decide +kernel), List.mem_of_getElem? (i := 765) (by decide +kernel), List.mem_of_getElem? (i := 766) (by decide +kernel)⟩
theorem lw_p28 : lw_okq (⟨"LalrDesk", "takeSpare", "()V"⟩, 15) := ⟨⟨by decide +kernel, by decide +kernel⟩, List.mem_of_getElem? (i := 25) (by decide +kernel), List.mem_of_getElem? (i := 792) (by decide +kernel), List.mem_of_getElem? (i := 793) (by decide +kernel)⟩
theorem lw_p29 : lw_okq (⟨"LalrDesk$Relations", "numberMoves", "(LLalrDesk$Tables;)V"⟩, 10) := ⟨⟨by decide +kernel, by decide +kernel⟩, List.mem_of_getElem? (i := 226) (by decide +kernel), List.mem_of_getElem? (i := 802) (by decide +kernel), List.mem_of_getElem? (i := 803) (by decide +kernel)⟩
theorem lw_p30 : lw_okq (⟨"LalrDesk$Relations", "relate", "(LLalrDesk$Tables;I)V"⟩, 10) := ⟨⟨by decide +kernel, by decide +kernel⟩, List.mem_of_getElem? (i := 226) (by decide +kernel), List.mem_of_getElem? (i := 807) (by decide +kernel), List.mem_of_getElem? (i := 808) (by decide +kernel)⟩
theorem lw_p31 : lw_okq (⟨"LalrDesk$Relations", "numberOf", "(II)I"⟩, 10) := ⟨⟨by decide +kernel, by decide +kernel⟩, List.mem_of_getElem? (i := 226) (by decide +kernel), List.mem_of_getElem? (i := 812) (by decide +kernel), List.mem_of_getElem? (i := 813) (by decide +kernel)⟩
def lw_privs_2 : List (MethodName × Nat) := [(⟨"LalrDesk$TextParser", "takeRank", "(LLalrDesk$Grammar;)Z"⟩, 9), (⟨"LalrDesk$TextParser", "takeNumber", "(II)Z"⟩, 9), (⟨"LalrDesk$Grammar", "widen", "([III)Z"⟩, 14), (⟨"LalrDesk$Grammar", "widenFollowsBy", "(I)Z"⟩, 14), (⟨"LalrDesk$States", "prepareRule", "(LLalrDesk$Grammar;I)V"⟩, 12), (⟨"LalrDesk$States", "numberOf", "(JI)I"⟩, 12), (⟨"LalrDesk$States", "closed", "(J)J"⟩, 12), (⟨"LalrDesk$States", "widen", "(III)Z"⟩, 12), (⟨"LalrDesk$States", "spreadIn", "(I)Z"⟩, 12), (⟨"LalrDesk$States", "spreadFrom", "(II)Z"⟩, 12), (⟨"LalrDesk$Tables", "gatherReduces", "(IZ)V"⟩, 4), (⟨"LalrDesk$Tables", "decide", "(II)V"⟩, 4), (⟨"LalrDesk", "takeSpare", "()V"⟩, 15), (⟨"LalrDesk$Relations", "numberMoves", "(LLalrDesk$Tables;)V"⟩, 10), (⟨"LalrDesk$Relations", "relate", "(LLalrDesk$Tables;I)V"⟩, 10), (⟨"LalrDesk$Relations", "numberOf", "(II)I"⟩, 10)]
theorem lw_r2 : ∀ q ∈ lw_privs_2, lw_okq q := List.forall_mem_cons.mpr ⟨lw_p16, List.forall_mem_cons.mpr ⟨lw_p17, List.forall_mem_cons.mpr ⟨lw_p18, List.forall_mem_cons.mpr ⟨lw_p19, List.forall_mem_cons.mpr ⟨lw_p20, List.forall_mem_cons.mpr ⟨lw_p21, List.forall_mem_cons.mpr ⟨lw_p22, List.forall_mem_cons.mpr ⟨lw_p23, List.forall_mem_cons.mpr ⟨lw_p24, List.forall_mem_cons.mpr ⟨lw_p25, List.forall_mem_cons.mpr ⟨lw_p26, List.forall_mem_cons.mpr ⟨lw_p27, List.forall_mem_cons.mpr ⟨lw_p28, List.forall_mem_cons.mpr ⟨lw_p29, List.forall_mem_cons.mpr ⟨lw_p30, List.forall_mem_cons.mpr ⟨lw_p31, fun _ h => absurd h List.not_mem_nil⟩⟩⟩⟩⟩⟩⟩⟩⟩⟩⟩⟩⟩⟩⟩⟩
theorem lw_p32 : lw_okq (⟨"LalrDesk$Relations", "walk", "(LLalrDesk$Tables;II)V"⟩, 10) := ⟨⟨by decide +kernel, by decide +kernel⟩, List.mem_of_getElem? (i := 226) (by decide +kernel), List.mem_of_getElem? (i := 817) (by decide +kernel), List.mem_of_getElem? (i := 818) (by decide +kernel)⟩
theorem lw_p33 : lw_okq (⟨"LalrDesk$Relations", "include", "(II)V"⟩, 10) := ⟨⟨by decide +kernel, by decide +kernel⟩, List.mem_of_getElem? (i := 226) (by decide +kernel), List.mem_of_getElem? (i := 824) (by decide +kernel), List.mem_of_getElem? (i := 825) (by decide +kernel)⟩
theorem lw_p34 : lw_okq (⟨"LalrDesk$Relations", "settleAfters", "(LLalrDesk$Tables;)V"⟩, 10) := ⟨⟨by decide +kernel, by decide +kernel⟩, List.mem_of_getElem? (i := 226) (by decide +kernel), List.mem_of_getElem? (i := 832) (by decide +kernel), List.mem_of_getElem? (i := 833) (by decide +kernel)⟩
theorem lw_p35 : lw_okq (⟨"LalrDesk$Relations", "tokensFrom", "(LLalrDesk$Tables;I)I"⟩, 10) := ⟨⟨by decide +kernel, by decide +kernel⟩, List.mem_of_getElem? (i := 226) (by decide +kernel), List.mem_of_getElem? (i := 836) (by decide +kernel), List.mem_of_getElem? (i := 837) (by decide +kernel)⟩
theorem lw_p36 : lw_okq (⟨"LalrDesk$Relations", "aftersRead", "(LLalrDesk$Tables;I)I"⟩, 10) := ⟨⟨by decide +kernel, by decide +kernel⟩, List.mem_of_getElem? (i := 226) (by decide +kernel), List.mem_of_getElem? (i := 841) (by decide +kernel), List.mem_of_getElem? (i := 842) (by decide +kernel)⟩
theorem lw_p37 : lw_okq (⟨"LalrDesk$Relations", "aftersIncluded", "(I)I"⟩, 10) := ⟨⟨by decide +kernel, by decide +kernel⟩, List.mem_of_getElem? (i := 226) (by decide +kernel), List.mem_of_getElem? (i := 845) (by decide +kernel), List.mem_of_getElem? (i := 846) (by decide +kernel)⟩
theorem lw_p38 : lw_okq (⟨"LalrDesk$ShortestRows", "settleKinds", "(LLalrDesk$Grammar;)V"⟩, 6) := ⟨⟨by decide +kernel, by decide +kernel⟩, List.mem_of_getElem? (i := 267) (by decide +kernel), List.mem_of_getElem? (i := 854) (by decide +kernel), List.mem_of_getElem? (i := 855) (by decide +kernel)⟩
theorem lw_p39 : lw_okq (⟨"LalrDesk$ShortestRows", "tryRule", "(LLalrDesk$Grammar;I)Z"⟩, 6) := ⟨⟨by decide +kernel, by decide +kernel⟩, List.mem_of_getElem? (i := 267) (by decide +kernel), List.mem_of_getElem? (i := 860) (by decide +kernel), List.mem_of_getElem? (i := 861) (by decide +kernel)⟩
theorem lw_p40 : lw_okq (⟨"LalrDesk$ShortestRows", "lengthen", "(II)Z"⟩, 6) := ⟨⟨by decide +kernel, by decide +kernel⟩, List.mem_of_getElem? (i := 267) (by decide +kernel), List.mem_of_getElem? (i := 866) (by decide +kernel), List.mem_of_getElem? (i := 867) (by decide +kernel)⟩
theorem lw_p41 : lw_okq (⟨"LalrDesk$ShortestRows", "improves", "([III)Z"⟩, 6) := ⟨⟨by decide +kernel, by decide +kernel⟩, List.mem_of_getElem? (i := 267) (by decide +kernel), List.mem_of_getElem? (i := 870) (by decide +kernel), List.mem_of_getElem? (i := 871) (by decide +kernel)⟩
theorem lw_p42 : lw_okq (⟨"LalrDesk$ShortestRows", "settleStates", "(LLalrDesk$States;)V"⟩, 6) := ⟨⟨by decide +kernel, by decide +kernel⟩, List.mem_of_getElem? (i := 267) (by decide +kernel), List.mem_of_getElem? (i := 876) (by decide +kernel), List.mem_of_getElem? (i := 877) (by decide +kernel)⟩
theorem lw_p43 : lw_okq (⟨"LalrDesk$ShortestRows", "improveBy", "(LLalrDesk$States;II)Z"⟩, 6) := ⟨⟨by decide +kernel, by decide +kernel⟩, List.mem_of_getElem? (i := 267) (by decide +kernel), List.mem_of_getElem? (i := 880) (by decide +kernel), List.mem_of_getElem? (i := 881) (by decide +kernel)⟩
theorem lw_p44 : lw_okq (⟨"LalrDesk$Packing", "lay", "(LLalrDesk$Tables;I)V"⟩, 4) := ⟨⟨by decide +kernel, by decide +kernel⟩, List.mem_of_getElem? (i := 294) (by decide +kernel), List.mem_of_getElem? (i := 899) (by decide +kernel), List.mem_of_getElem? (i := 900) (by decide +kernel)⟩
theorem lw_p45 : lw_okq (⟨"LalrDesk$Packing", "hasRoom", "(LLalrDesk$Tables;II)Z"⟩, 4) := ⟨⟨by decide +kernel, by decide +kernel⟩, List.mem_of_getElem? (i := 294) (by decide +kernel), List.mem_of_getElem? (i := 903) (by decide +kernel), List.mem_of_getElem? (i := 904) (by decide +kernel)⟩
theorem lw_p46 : lw_okq (⟨"LalrDesk$Packing", "layAt", "(LLalrDesk$Tables;II)V"⟩, 4) := ⟨⟨by decide +kernel, by decide +kernel⟩, List.mem_of_getElem? (i := 294) (by decide +kernel), List.mem_of_getElem? (i := 912) (by decide +kernel), List.mem_of_getElem? (i := 913) (by decide +kernel)⟩
theorem lw_p47 : lw_okq (⟨"LalrDesk$Row", "add", "(I)Z"⟩, 5) := ⟨⟨by decide +kernel, by decide +kernel⟩, List.mem_of_getElem? (i := 315) (by decide +kernel), List.mem_of_getElem? (i := 921) (by decide +kernel), List.mem_of_getElem? (i := 922) (by decide +kernel)⟩
def lw_privs_3 : List (MethodName × Nat) := [(⟨"LalrDesk$Relations", "walk", "(LLalrDesk$Tables;II)V"⟩, 10), (⟨"LalrDesk$Relations", "include", "(II)V"⟩, 10), (⟨"LalrDesk$Relations", "settleAfters", "(LLalrDesk$Tables;)V"⟩, 10), (⟨"LalrDesk$Relations", "tokensFrom", "(LLalrDesk$Tables;I)I"⟩, 10), (⟨"LalrDesk$Relations", "aftersRead", "(LLalrDesk$Tables;I)I"⟩, 10), (⟨"LalrDesk$Relations", "aftersIncluded", "(I)I"⟩, 10), (⟨"LalrDesk$ShortestRows", "settleKinds", "(LLalrDesk$Grammar;)V"⟩, 6), (⟨"LalrDesk$ShortestRows", "tryRule", "(LLalrDesk$Grammar;I)Z"⟩, 6), (⟨"LalrDesk$ShortestRows", "lengthen", "(II)Z"⟩, 6), (⟨"LalrDesk$ShortestRows", "improves", "([III)Z"⟩, 6), (⟨"LalrDesk$ShortestRows", "settleStates", "(LLalrDesk$States;)V"⟩, 6), (⟨"LalrDesk$ShortestRows", "improveBy", "(LLalrDesk$States;II)Z"⟩, 6), (⟨"LalrDesk$Packing", "lay", "(LLalrDesk$Tables;I)V"⟩, 4), (⟨"LalrDesk$Packing", "hasRoom", "(LLalrDesk$Tables;II)Z"⟩, 4), (⟨"LalrDesk$Packing", "layAt", "(LLalrDesk$Tables;II)V"⟩, 4), (⟨"LalrDesk$Row", "add", "(I)Z"⟩, 5)]
theorem lw_r3 : ∀ q ∈ lw_privs_3, lw_okq q := List.forall_mem_cons.mpr ⟨lw_p32, List.forall_mem_cons.mpr ⟨lw_p33, List.forall_mem_cons.mpr ⟨lw_p34, List.forall_mem_cons.mpr ⟨lw_p35, List.forall_mem_cons.mpr ⟨lw_p36, List.forall_mem_cons.mpr ⟨lw_p37, List.forall_mem_cons.mpr ⟨lw_p38, List.forall_mem_cons.mpr ⟨lw_p39, List.forall_mem_cons.mpr ⟨lw_p40, List.forall_mem_cons.mpr ⟨lw_p41, List.forall_mem_cons.mpr ⟨lw_p42, List.forall_mem_cons.mpr ⟨lw_p43, List.forall_mem_cons.mpr ⟨lw_p44, List.forall_mem_cons.mpr ⟨lw_p45, List.forall_mem_cons.mpr ⟨lw_p46, List.forall_mem_cons.mpr ⟨lw_p47, fun _ h => absurd h List.not_mem_nil⟩⟩⟩⟩⟩⟩⟩⟩⟩⟩⟩⟩⟩⟩⟩⟩
theorem lw_p48 : lw_okq (⟨"LalrDesk$Relations", "reachBySteps", "()V"⟩, 10) := ⟨⟨by decide +kernel, by decide +kernel⟩, List.mem_of_getElem? (i := 226) (by decide +kernel), List.mem_of_getElem? (i := 1019) (by decide +kernel), List.mem_of_getElem? (i := 1020) (by decide +kernel)⟩
theorem lw_p49 : lw_okq (⟨"LalrDesk$Relations", "leadsRing", "(I)Z"⟩, 10) := ⟨⟨by decide +kernel, by decide +kernel⟩, List.mem_of_getElem? (i := 226) (by decide +kernel), List.mem_of_getElem? (i := 1024) (by decide +kernel), List.mem_of_getElem? (i := 1025) (by decide +kernel)⟩
theorem lw_p50 : lw_okq (⟨"LalrDesk$Row", "reduceBy", "(LLalrDesk$Tables;I)Z"⟩, 5) := ⟨⟨by decide +kernel, by decide +kernel⟩, List.mem_of_getElem? (i := 315) (by decide +kernel), List.mem_of_getElem? (i := 1098) (by decide +kernel), List.mem_of_getElem? (i := 1099) (by decide +kernel)⟩
theorem lw_p51 : lw_okq (⟨"LalrDesk", "hasStates", "()Z"⟩, 15) := ⟨⟨by decide +kernel, by decide +kernel⟩, List.mem_of_getElem? (i := 25) (by decide +kernel), List.mem_of_getElem? (i := 1109) (by decide +kernel), List.mem_of_getElem? (i := 1110) (by decide +kernel)⟩
theorem lw_p52 : lw_okq (⟨"LalrDesk$Trials", "withoutsAt", "(I)I"⟩, 3) := ⟨⟨by decide +kernel, by decide +kernel⟩, List.mem_of_getElem? (i := 398) (by decide +kernel), List.mem_of_getElem? (i := 1204) (by decide +kernel), List.mem_of_getElem? (i := 1205) (by decide +kernel)⟩
theorem lw_p53 : lw_okq (⟨"LalrDesk", "canTry", "(II)Z"⟩, 15) := ⟨⟨by decide +kernel, by decide +kernel⟩, List.mem_of_getElem? (i := 25) (by decide +kernel), List.mem_of_getElem? (i := 1239) (by decide +kernel), List.mem_of_getElem? (i := 1240) (by decide +kernel)⟩
theorem lw_p54 : lw_okq (⟨"java/lang/Throwable", "fillInStackTrace", "(I)Ljava/lang/Throwable;"⟩, 6) := ⟨⟨by decide +kernel, by decide +kernel⟩, List.mem_of_getElem? (i := 1326) (by decide +kernel), List.mem_of_getElem? (i := 1324) (by decide +kernel), List.mem_of_getElem? (i := 1325) (by decide +kernel)⟩
theorem lw_p55 : lw_okq (⟨"LalrDeskModel", "plain", "()V"⟩, 74) := ⟨⟨by decide +kernel, by decide +kernel⟩, List.mem_of_getElem? (i := 1377) (by decide +kernel), List.mem_of_getElem? (i := 1383) (by decide +kernel), List.mem_of_getElem? (i := 1384) (by decide +kernel)⟩
theorem lw_p56 : lw_okq (⟨"LalrDeskModel", "keepText", "()V"⟩, 74) := ⟨⟨by decide +kernel, by decide +kernel⟩, List.mem_of_getElem? (i := 1377) (by decide +kernel), List.mem_of_getElem? (i := 1387) (by decide +kernel), List.mem_of_getElem? (i := 1388) (by decide +kernel)⟩
theorem lw_p57 : lw_okq (⟨"LalrDeskModel", "layTables", "(III)Z"⟩, 74) := ⟨⟨by decide +kernel, by decide +kernel⟩, List.mem_of_getElem? (i := 1377) (by decide +kernel), List.mem_of_getElem? (i := 1394) (by decide +kernel), List.mem_of_getElem? (i := 1395) (by decide +kernel)⟩
theorem lw_p58 : lw_okq (⟨"LalrDeskModel", "layAll", "(III)Z"⟩, 74) := ⟨⟨by decide +kernel, by decide +kernel⟩, List.mem_of_getElem? (i := 1377) (by decide +kernel), List.mem_of_getElem? (i := 1398) (by decide +kernel), List.mem_of_getElem? (i := 1399) (by decide +kernel)⟩
theorem lw_p59 : lw_okq (⟨"LalrDeskModel", "layFirsts", "()V"⟩, 74) := ⟨⟨by decide +kernel, by decide +kernel⟩, List.mem_of_getElem? (i := 1377) (by decide +kernel), List.mem_of_getElem? (i := 1402) (by decide +kernel), List.mem_of_getElem? (i := 1403) (by decide +kernel)⟩
theorem lw_p60 : lw_okq (⟨"LalrDeskModel", "isEmptyFrom", "(II)Z"⟩, 74) := ⟨⟨by decide +kernel, by decide +kernel⟩, List.mem_of_getElem? (i := 1377) (by decide +kernel), List.mem_of_getElem? (i := 1406) (by decide +kernel), List.mem_of_getElem? (i := 1407) (by decide +kernel)⟩
theorem lw_p61 : lw_okq (⟨"LalrDeskModel", "longOf", "(I)I"⟩, 74) := ⟨⟨by decide +kernel, by decide +kernel⟩, List.mem_of_getElem? (i := 1377) (by decide +kernel), List.mem_of_getElem? (i := 1410) (by decide +kernel), List.mem_of_getElem? (i := 1411) (by decide +kernel)⟩
theorem lw_p62 : lw_okq (⟨"LalrDeskModel", "moveBy", "(II)I"⟩, 74) := ⟨⟨by decide +kernel, by decide +kernel⟩, List.mem_of_getElem? (i := 1377) (by decide +kernel), List.mem_of_getElem? (i := 1414) (by decide +kernel), List.mem_of_getElem? (i := 1415) (by decide +kernel)⟩
theorem lw_p63 : lw_okq (⟨"LalrDeskModel", "isEmpty", "(I)Z"⟩, 74) := ⟨⟨by decide +kernel, by decide +kernel⟩, List.mem_of_getElem? (i := 1377) (by decide +kernel), List.mem_of_getElem? (i := 1418) (by decide +kernel), List.mem_of_getElem? (i := 1419) (by decide +kernel)⟩
def lw_privs_4 : List (MethodName × Nat) := [(⟨"LalrDesk$Relations", "reachBySteps", "()V"⟩, 10), (⟨"LalrDesk$Relations", "leadsRing", "(I)Z"⟩, 10), (⟨"LalrDesk$Row", "reduceBy", "(LLalrDesk$Tables;I)Z"⟩, 5), (⟨"LalrDesk", "hasStates", "()Z"⟩, 15), (⟨"LalrDesk$Trials", "withoutsAt", "(I)I"⟩, 3), (⟨"LalrDesk", "canTry", "(II)Z"⟩, 15), (⟨"java/lang/Throwable", "fillInStackTrace", "(I)Ljava/lang/Throwable;"⟩, 6), (⟨"LalrDeskModel", "plain", "()V"⟩, 74), (⟨"LalrDeskModel", "keepText", "()V"⟩, 74), (⟨"LalrDeskModel", "layTables", "(III)Z"⟩, 74), (⟨"LalrDeskModel", "layAll", "(III)Z"⟩, 74), (⟨"LalrDeskModel", "layFirsts", "()V"⟩, 74), (⟨"LalrDeskModel", "isEmptyFrom", "(II)Z"⟩, 74), (⟨"LalrDeskModel", "longOf", "(I)I"⟩, 74), (⟨"LalrDeskModel", "moveBy", "(II)I"⟩, 74), (⟨"LalrDeskModel", "isEmpty", "(I)Z"⟩, 74)]
theorem lw_r4 : ∀ q ∈ lw_privs_4, lw_okq q := List.forall_mem_cons.mpr ⟨lw_p48, List.forall_mem_cons.mpr ⟨lw_p49, List.forall_mem_cons.mpr ⟨lw_p50, List.forall_mem_cons.mpr ⟨lw_p51, List.forall_mem_cons.mpr ⟨lw_p52, List.forall_mem_cons.mpr ⟨lw_p53, List.forall_mem_cons.mpr ⟨lw_p54, List.forall_mem_cons.mpr ⟨lw_p55, List.forall_mem_cons.mpr ⟨lw_p56, List.forall_mem_cons.mpr ⟨lw_p57, List.forall_mem_cons.mpr ⟨lw_p58, List.forall_mem_cons.mpr ⟨lw_p59, List.forall_mem_cons.mpr ⟨lw_p60, List.forall_mem_cons.mpr ⟨lw_p61, List.forall_mem_cons.mpr ⟨lw_p62, List.forall_mem_cons.mpr ⟨lw_p63, fun _ h => absurd h List.not_mem_nil⟩⟩⟩⟩⟩⟩⟩⟩⟩⟩⟩⟩⟩⟩⟩⟩
theorem lw_p64 : lw_okq (⟨"LalrDeskModel", "firstFrom", "(II)I"⟩, 74) := ⟨⟨by decide +kernel, by decide +kernel⟩, List.mem_of_getElem? (i := 1377) (by decide +kernel), List.mem_of_getElem? (i := 1425) (by decide +kernel), List.mem_of_getElem? (i := 1426) (by decide +kernel)⟩
theorem lw_p65 : lw_okq (⟨"LalrDeskModel", "layStates", "()Z"⟩, 74) := ⟨⟨by decide +kernel, by decide +kernel⟩, List.mem_of_getElem? (i := 1377) (by decide +kernel), List.mem_of_getElem? (i := 1429) (by decide +kernel), List.mem_of_getElem? (i := 1430) (by decide +kernel)⟩
theorem lw_p66 : lw_okq (⟨"LalrDeskModel", "addState", "(I)V"⟩, 74) := ⟨⟨by decide +kernel, by decide +kernel⟩, List.mem_of_getElem? (i := 1377) (by decide +kernel), List.mem_of_getElem? (i := 1433) (by decide +kernel), List.mem_of_getElem? (i := 1434) (by decide +kernel)⟩
theorem lw_p67 : lw_okq (⟨"LalrDeskModel", "itemAt", "(II)I"⟩, 74) := ⟨⟨by decide +kernel, by decide +kernel⟩, List.mem_of_getElem? (i := 1377) (by decide +kernel), List.mem_of_getElem? (i := 1437) (by decide +kernel), List.mem_of_getElem? (i := 1438) (by decide +kernel)⟩
theorem lw_p68 : lw_okq (⟨"LalrDeskModel", "closes", "(I)V"⟩, 74) := ⟨⟨by decide +kernel, by decide +kernel⟩, List.mem_of_getElem? (i := 1377) (by decide +kernel), List.mem_of_getElem? (i := 1441) (by decide +kernel), List.mem_of_getElem? (i := 1442) (by decide +kernel)⟩
theorem lw_p69 : lw_okq (⟨"LalrDeskModel", "isRuleOf", "(II)Z"⟩, 74) := ⟨⟨by decide +kernel, by decide +kernel⟩, List.mem_of_getElem? (i := 1377) (by decide +kernel), List.mem_of_getElem? (i := 1445) (by decide +kernel), List.mem_of_getElem? (i := 1446) (by decide +kernel)⟩
theorem lw_p70 : lw_okq (⟨"LalrDeskModel", "moveAt", "(II)I"⟩, 74) := ⟨⟨by decide +kernel, by decide +kernel⟩, List.mem_of_getElem? (i := 1377) (by decide +kernel), List.mem_of_getElem? (i := 1449) (by decide +kernel), List.mem_of_getElem? (i := 1450) (by decide +kernel)⟩
theorem lw_p71 : lw_okq (⟨"LalrDeskModel", "isNext", "(II)Z"⟩, 74) := ⟨⟨by decide +kernel, by decide +kernel⟩, List.mem_of_getElem? (i := 1377) (by decide +kernel), List.mem_of_getElem? (i := 1453) (by decide +kernel), List.mem_of_getElem? (i := 1454) (by decide +kernel)⟩
theorem lw_p72 : lw_okq (⟨"LalrDeskModel", "stateOfKernel", "()I"⟩, 74) := ⟨⟨by decide +kernel, by decide +kernel⟩, List.mem_of_getElem? (i := 1377) (by decide +kernel), List.mem_of_getElem? (i := 1457) (by decide +kernel), List.mem_of_getElem? (i := 1458) (by decide +kernel)⟩
theorem lw_p73 : lw_okq (⟨"LalrDeskModel", "isKernel", "(I)Z"⟩, 74) := ⟨⟨by decide +kernel, by decide +kernel⟩, List.mem_of_getElem? (i := 1377) (by decide +kernel), List.mem_of_getElem? (i := 1461) (by decide +kernel), List.mem_of_getElem? (i := 1462) (by decide +kernel)⟩
theorem lw_p74 : lw_okq (⟨"LalrDeskModel", "layLooks", "()V"⟩, 74) := ⟨⟨by decide +kernel, by decide +kernel⟩, List.mem_of_getElem? (i := 1377) (by decide +kernel), List.mem_of_getElem? (i := 1465) (by decide +kernel), List.mem_of_getElem? (i := 1466) (by decide +kernel)⟩
theorem lw_p75 : lw_okq (⟨"LalrDeskModel", "moreLook", "(II)Z"⟩, 74) := ⟨⟨by decide +kernel, by decide +kernel⟩, List.mem_of_getElem? (i := 1377) (by decide +kernel), List.mem_of_getElem? (i := 1469) (by decide +kernel), List.mem_of_getElem? (i := 1470) (by decide +kernel)⟩
theorem lw_p76 : lw_okq (⟨"LalrDeskModel", "layActions", "()V"⟩, 74) := ⟨⟨by decide +kernel, by decide +kernel⟩, List.mem_of_getElem? (i := 1377) (by decide +kernel), List.mem_of_getElem? (i := 1473) (by decide +kernel), List.mem_of_getElem? (i := 1474) (by decide +kernel)⟩
theorem lw_p77 : lw_okq (⟨"LalrDeskModel", "actionOf", "(II)I"⟩, 74) := ⟨⟨by decide +kernel, by decide +kernel⟩, List.mem_of_getElem? (i := 1377) (by decide +kernel), List.mem_of_getElem? (i := 1477) (by decide +kernel), List.mem_of_getElem? (i := 1478) (by decide +kernel)⟩
theorem lw_p78 : lw_okq (⟨"LalrDeskModel", "isReduced", "(III)Z"⟩, 74) := ⟨⟨by decide +kernel, by decide +kernel⟩, List.mem_of_getElem? (i := 1377) (by decide +kernel), List.mem_of_getElem? (i := 1481) (by decide +kernel), List.mem_of_getElem? (i := 1482) (by decide +kernel)⟩
theorem lw_p79 : lw_okq (⟨"LalrDeskModel", "ruleRank", "(I)I"⟩, 74) := ⟨⟨by decide +kernel, by decide +kernel⟩, List.mem_of_getElem? (i := 1377) (by decide +kernel), List.mem_of_getElem? (i := 1485) (by decide +kernel), List.mem_of_getElem? (i := 1486) (by decide +kernel)⟩
def lw_privs_5 : List (MethodName × Nat) := [(⟨"LalrDeskModel", "firstFrom", "(II)I"⟩, 74), (⟨"LalrDeskModel", "layStates", "()Z"⟩, 74), (⟨"LalrDeskModel", "addState", "(I)V"⟩, 74), (⟨"LalrDeskModel", "itemAt", "(II)I"⟩, 74), (⟨"LalrDeskModel", "closes", "(I)V"⟩, 74), (⟨"LalrDeskModel", "isRuleOf", "(II)Z"⟩, 74), (⟨"LalrDeskModel", "moveAt", "(II)I"⟩, 74), (⟨"LalrDeskModel", "isNext", "(II)Z"⟩, 74), (⟨"LalrDeskModel", "stateOfKernel", "()I"⟩, 74), (⟨"LalrDeskModel", "isKernel", "(I)Z"⟩, 74), (⟨"LalrDeskModel", "layLooks", "()V"⟩, 74), (⟨"LalrDeskModel", "moreLook", "(II)Z"⟩, 74), (⟨"LalrDeskModel", "layActions", "()V"⟩, 74), (⟨"LalrDeskModel", "actionOf", "(II)I"⟩, 74), (⟨"LalrDeskModel", "isReduced", "(III)Z"⟩, 74), (⟨"LalrDeskModel", "ruleRank", "(I)I"⟩, 74)]
theorem lw_r5 : ∀ q ∈ lw_privs_5, lw_okq q := List.forall_mem_cons.mpr ⟨lw_p64, List.forall_mem_cons.mpr ⟨lw_p65, List.forall_mem_cons.mpr ⟨lw_p66, List.forall_mem_cons.mpr ⟨lw_p67, List.forall_mem_cons.mpr ⟨lw_p68, List.forall_mem_cons.mpr ⟨lw_p69, List.forall_mem_cons.mpr ⟨lw_p70, List.forall_mem_cons.mpr ⟨lw_p71, List.forall_mem_cons.mpr ⟨lw_p72, List.forall_mem_cons.mpr ⟨lw_p73, List.forall_mem_cons.mpr ⟨lw_p74, List.forall_mem_cons.mpr ⟨lw_p75, List.forall_mem_cons.mpr ⟨lw_p76, List.forall_mem_cons.mpr ⟨lw_p77, List.forall_mem_cons.mpr ⟨lw_p78, List.forall_mem_cons.mpr ⟨lw_p79, fun _ h => absurd h List.not_mem_nil⟩⟩⟩⟩⟩⟩⟩⟩⟩⟩⟩⟩⟩⟩⟩⟩
theorem lw_p80 : lw_okq (⟨"LalrDeskModel", "rankOf", "(I)I"⟩, 74) := ⟨⟨by decide +kernel, by decide +kernel⟩, List.mem_of_getElem? (i := 1377) (by decide +kernel), List.mem_of_getElem? (i := 1489) (by decide +kernel), List.mem_of_getElem? (i := 1490) (by decide +kernel)⟩
theorem lw_p81 : lw_okq (⟨"LalrDeskModel", "leavesOut", "(III)V"⟩, 74) := ⟨⟨by decide +kernel, by decide +kernel⟩, List.mem_of_getElem? (i := 1377) (by decide +kernel), List.mem_of_getElem? (i := 1493) (by decide +kernel), List.mem_of_getElem? (i := 1494) (by decide +kernel)⟩
theorem lw_p82 : lw_okq (⟨"LalrDeskModel", "layFollow", "(IIII)V"⟩, 74) := ⟨⟨by decide +kernel, by decide +kernel⟩, List.mem_of_getElem? (i := 1377) (by decide +kernel), List.mem_of_getElem? (i := 1497) (by decide +kernel), List.mem_of_getElem? (i := 1498) (by decide +kernel)⟩
theorem lw_p83 : lw_okq (⟨"LalrDeskModel", "layAfter", "()V"⟩, 74) := ⟨⟨by decide +kernel, by decide +kernel⟩, List.mem_of_getElem? (i := 1377) (by decide +kernel), List.mem_of_getElem? (i := 1501) (by decide +kernel), List.mem_of_getElem? (i := 1502) (by decide +kernel)⟩
theorem lw_p84 : lw_okq (⟨"LalrDeskModel", "layIncludes", "()V"⟩, 74) := ⟨⟨by decide +kernel, by decide +kernel⟩, List.mem_of_getElem? (i := 1377) (by decide +kernel), List.mem_of_getElem? (i := 1505) (by decide +kernel), List.mem_of_getElem? (i := 1506) (by decide +kernel)⟩
theorem lw_p85 : lw_okq (⟨"LalrDeskModel", "kindMove", "(II)I"⟩, 74) := ⟨⟨by decide +kernel, by decide +kernel⟩, List.mem_of_getElem? (i := 1377) (by decide +kernel), List.mem_of_getElem? (i := 1509) (by decide +kernel), List.mem_of_getElem? (i := 1510) (by decide +kernel)⟩
theorem lw_p86 : lw_okq (⟨"LalrDeskModel", "wayBy", "(III)I"⟩, 74) := ⟨⟨by decide +kernel, by decide +kernel⟩, List.mem_of_getElem? (i := 1377) (by decide +kernel), List.mem_of_getElem? (i := 1513) (by decide +kernel), List.mem_of_getElem? (i := 1514) (by decide +kernel)⟩
theorem lw_p87 : lw_okq (⟨"LalrDeskModel", "isMove", "(I)Z"⟩, 74) := ⟨⟨by decide +kernel, by decide +kernel⟩, List.mem_of_getElem? (i := 1377) (by decide +kernel), List.mem_of_getElem? (i := 1517) (by decide +kernel), List.mem_of_getElem? (i := 1518) (by decide +kernel)⟩
theorem lw_p88 : lw_okq (⟨"LalrDeskModel", "isIncluded", "(II)Z"⟩, 74) := ⟨⟨by decide +kernel, by decide +kernel⟩, List.mem_of_getElem? (i := 1377) (by decide +kernel), List.mem_of_getElem? (i := 1521) (by decide +kernel), List.mem_of_getElem? (i := 1522) (by decide +kernel)⟩
theorem lw_p89 : lw_okq (⟨"LalrDeskModel", "moreAfter", "(I)Z"⟩, 74) := ⟨⟨by decide +kernel, by decide +kernel⟩, List.mem_of_getElem? (i := 1377) (by decide +kernel), List.mem_of_getElem? (i := 1525) (by decide +kernel), List.mem_of_getElem? (i := 1526) (by decide +kernel)⟩
theorem lw_p90 : lw_okq (⟨"LalrDeskModel", "layRings", "()V"⟩, 74) := ⟨⟨by decide +kernel, by decide +kernel⟩, List.mem_of_getElem? (i := 1377) (by decide +kernel), List.mem_of_getElem? (i := 1529) (by decide +kernel), List.mem_of_getElem? (i := 1530) (by decide +kernel)⟩
theorem lw_p91 : lw_okq (⟨"LalrDeskModel", "layShortest", "()V"⟩, 74) := ⟨⟨by decide +kernel, by decide +kernel⟩, List.mem_of_getElem? (i := 1377) (by decide +kernel), List.mem_of_getElem? (i := 1533) (by decide +kernel), List.mem_of_getElem? (i := 1534) (by decide +kernel)⟩
theorem lw_p92 : lw_okq (⟨"LalrDeskModel", "isMade", "(I)Z"⟩, 74) := ⟨⟨by decide +kernel, by decide +kernel⟩, List.mem_of_getElem? (i := 1377) (by decide +kernel), List.mem_of_getElem? (i := 1537) (by decide +kernel), List.mem_of_getElem? (i := 1538) (by decide +kernel)⟩
theorem lw_p93 : lw_okq (⟨"LalrDeskModel", "addRow", "(I)V"⟩, 74) := ⟨⟨by decide +kernel, by decide +kernel⟩, List.mem_of_getElem? (i := 1377) (by decide +kernel), List.mem_of_getElem? (i := 1541) (by decide +kernel), List.mem_of_getElem? (i := 1542) (by decide +kernel)⟩
theorem lw_p94 : lw_okq (⟨"LalrDeskModel", "isAhead", "([III)Z"⟩, 74) := ⟨⟨by decide +kernel, by decide +kernel⟩, List.mem_of_getElem? (i := 1377) (by decide +kernel), List.mem_of_getElem? (i := 1545) (by decide +kernel), List.mem_of_getElem? (i := 1546) (by decide +kernel)⟩
theorem lw_p95 : lw_okq (⟨"LalrDeskModel", "layWays", "()V"⟩, 74) := ⟨⟨by decide +kernel, by decide +kernel⟩, List.mem_of_getElem? (i := 1377) (by decide +kernel), List.mem_of_getElem? (i := 1549) (by decide +kernel), List.mem_of_getElem? (i := 1550) (by decide +kernel)⟩
def lw_privs_6 : List (MethodName × Nat) := [(⟨"LalrDeskModel", "rankOf", "(I)I"⟩, 74), (⟨"LalrDeskModel", "leavesOut", "(III)V"⟩, 74), (⟨"LalrDeskModel", "layFollow", "(IIII)V"⟩, 74), (⟨"LalrDeskModel", "layAfter", "()V"⟩, 74), (⟨"LalrDeskModel", "layIncludes", "()V"⟩, 74), (⟨"LalrDeskModel", "kindMove", "(II)I"⟩, 74), (⟨"LalrDeskModel", "wayBy", "(III)I"⟩, 74), (⟨"LalrDeskModel", "isMove", "(I)Z"⟩, 74), (⟨"LalrDeskModel", "isIncluded", "(II)Z"⟩, 74), (⟨"LalrDeskModel", "moreAfter", "(I)Z"⟩, 74), (⟨"LalrDeskModel", "layRings", "()V"⟩, 74), (⟨"LalrDeskModel", "layShortest", "()V"⟩, 74), (⟨"LalrDeskModel", "isMade", "(I)Z"⟩, 74), (⟨"LalrDeskModel", "addRow", "(I)V"⟩, 74), (⟨"LalrDeskModel", "isAhead", "([III)Z"⟩, 74), (⟨"LalrDeskModel", "layWays", "()V"⟩, 74)]
theorem lw_r6 : ∀ q ∈ lw_privs_6, lw_okq q := List.forall_mem_cons.mpr ⟨lw_p80, List.forall_mem_cons.mpr ⟨lw_p81, List.forall_mem_cons.mpr ⟨lw_p82, List.forall_mem_cons.mpr ⟨lw_p83, List.forall_mem_cons.mpr ⟨lw_p84, List.forall_mem_cons.mpr ⟨lw_p85, List.forall_mem_cons.mpr ⟨lw_p86, List.forall_mem_cons.mpr ⟨lw_p87, List.forall_mem_cons.mpr ⟨lw_p88, List.forall_mem_cons.mpr ⟨lw_p89, List.forall_mem_cons.mpr ⟨lw_p90, List.forall_mem_cons.mpr ⟨lw_p91, List.forall_mem_cons.mpr ⟨lw_p92, List.forall_mem_cons.mpr ⟨lw_p93, List.forall_mem_cons.mpr ⟨lw_p94, List.forall_mem_cons.mpr ⟨lw_p95, fun _ h => absurd h List.not_mem_nil⟩⟩⟩⟩⟩⟩⟩⟩⟩⟩⟩⟩⟩⟩⟩⟩
theorem lw_p96 : lw_okq (⟨"LalrDeskModel", "isNearer", "(II)Z"⟩, 74) := ⟨⟨by decide +kernel, by decide +kernel⟩, List.mem_of_getElem? (i := 1377) (by decide +kernel), List.mem_of_getElem? (i := 1553) (by decide +kernel), List.mem_of_getElem? (i := 1554) (by decide +kernel)⟩
theorem lw_p97 : lw_okq (⟨"LalrDeskModel", "layPacked", "()V"⟩, 74) := ⟨⟨by decide +kernel, by decide +kernel⟩, List.mem_of_getElem? (i := 1377) (by decide +kernel), List.mem_of_getElem? (i := 1557) (by decide +kernel), List.mem_of_getElem? (i := 1558) (by decide +kernel)⟩
theorem lw_p98 : lw_okq (⟨"LalrDeskModel", "actionsOf", "(I)I"⟩, 74) := ⟨⟨by decide +kernel, by decide +kernel⟩, List.mem_of_getElem? (i := 1377) (by decide +kernel), List.mem_of_getElem? (i := 1561) (by decide +kernel), List.mem_of_getElem? (i := 1562) (by decide +kernel)⟩
theorem lw_p99 : lw_okq (⟨"LalrDeskModel", "lays", "(I)V"⟩, 74) := ⟨⟨by decide +kernel, by decide +kernel⟩, List.mem_of_getElem? (i := 1377) (by decide +kernel), List.mem_of_getElem? (i := 1565) (by decide +kernel), List.mem_of_getElem? (i := 1566) (by decide +kernel)⟩
theorem lw_p100 : lw_okq (⟨"LalrDeskModel", "isFree", "(II)Z"⟩, 74) := ⟨⟨by decide +kernel, by decide +kernel⟩, List.mem_of_getElem? (i := 1377) (by decide +kernel), List.mem_of_getElem? (i := 1569) (by decide +kernel), List.mem_of_getElem? (i := 1570) (by decide +kernel)⟩
theorem lw_p101 : lw_okq (⟨"LalrDeskModel", "nextToken", "()V"⟩, 74) := ⟨⟨by decide +kernel, by decide +kernel⟩, List.mem_of_getElem? (i := 1377) (by decide +kernel), List.mem_of_getElem? (i := 1808) (by decide +kernel), List.mem_of_getElem? (i := 1809) (by decide +kernel)⟩
theorem lw_p102 : lw_okq (⟨"LalrDeskModel", "isSmall", "(I)Z"⟩, 74) := ⟨⟨by decide +kernel, by decide +kernel⟩, List.mem_of_getElem? (i := 1377) (by decide +kernel), List.mem_of_getElem? (i := 1812) (by decide +kernel), List.mem_of_getElem? (i := 1813) (by decide +kernel)⟩
theorem lw_p103 : lw_okq (⟨"LalrDeskModel", "wordAt", "(II)I"⟩, 74) := ⟨⟨by decide +kernel, by decide +kernel⟩, List.mem_of_getElem? (i := 1377) (by decide +kernel), List.mem_of_getElem? (i := 1816) (by decide +kernel), List.mem_of_getElem? (i := 1817) (by decide +kernel)⟩
theorem lw_p104 : lw_okq (⟨"LalrDeskModel", "lettersOf", "(II)I"⟩, 74) := ⟨⟨by decide +kernel, by decide +kernel⟩, List.mem_of_getElem? (i := 1377) (by decide +kernel), List.mem_of_getElem? (i := 1820) (by decide +kernel), List.mem_of_getElem? (i := 1821) (by decide +kernel)⟩
theorem lw_p105 : lw_okq (⟨"LalrDeskModel", "isDigit", "(I)Z"⟩, 74) := ⟨⟨by decide +kernel, by decide +kernel⟩, List.mem_of_getElem? (i := 1377) (by decide +kernel), List.mem_of_getElem? (i := 1824) (by decide +kernel), List.mem_of_getElem? (i := 1825) (by decide +kernel)⟩
theorem lw_p106 : lw_okq (⟨"LalrDeskModel", "signToken", "()V"⟩, 74) := ⟨⟨by decide +kernel, by decide +kernel⟩, List.mem_of_getElem? (i := 1377) (by decide +kernel), List.mem_of_getElem? (i := 1829) (by decide +kernel), List.mem_of_getElem? (i := 1830) (by decide +kernel)⟩
theorem lw_p107 : lw_okq (⟨"LalrDeskModel", "lineRead", "()Z"⟩, 74) := ⟨⟨by decide +kernel, by decide +kernel⟩, List.mem_of_getElem? (i := 1377) (by decide +kernel), List.mem_of_getElem? (i := 1833) (by decide +kernel), List.mem_of_getElem? (i := 1834) (by decide +kernel)⟩
theorem lw_p108 : lw_okq (⟨"LalrDeskModel", "wrong", "(I)Z"⟩, 74) := ⟨⟨by decide +kernel, by decide +kernel⟩, List.mem_of_getElem? (i := 1377) (by decide +kernel), List.mem_of_getElem? (i := 1837) (by decide +kernel), List.mem_of_getElem? (i := 1838) (by decide +kernel)⟩
theorem lw_p109 : lw_okq (⟨"LalrDeskModel", "nameLine", "(Z)Z"⟩, 74) := ⟨⟨by decide +kernel, by decide +kernel⟩, List.mem_of_getElem? (i := 1377) (by decide +kernel), List.mem_of_getElem? (i := 1841) (by decide +kernel), List.mem_of_getElem? (i := 1842) (by decide +kernel)⟩
theorem lw_p110 : lw_okq (⟨"LalrDeskModel", "symbolBy", "(II)I"⟩, 74) := ⟨⟨by decide +kernel, by decide +kernel⟩, List.mem_of_getElem? (i := 1377) (by decide +kernel), List.mem_of_getElem? (i := 1845) (by decide +kernel), List.mem_of_getElem? (i := 1846) (by decide +kernel)⟩
theorem lw_p111 : lw_okq (⟨"LalrDeskModel", "ruleLine", "()Z"⟩, 74) := ⟨⟨by decide +kernel, by decide +kernel⟩, List.mem_of_getElem? (i := 1377) (by decide +kernel), List.mem_of_getElem? (i := 1852) (by decide +kernel), List.mem_of_getElem? (i := 1853) (by decide +kernel)⟩
def lw_privs_7 : List (MethodName × Nat) := [(⟨"LalrDeskModel", "isNearer", "(II)Z"⟩, 74), (⟨"LalrDeskModel", "layPacked", "()V"⟩, 74), (⟨"LalrDeskModel", "actionsOf", "(I)I"⟩, 74), (⟨"LalrDeskModel", "lays", "(I)V"⟩, 74), (⟨"LalrDeskModel", "isFree", "(II)Z"⟩, 74), (⟨"LalrDeskModel", "nextToken", "()V"⟩, 74), (⟨"LalrDeskModel", "isSmall", "(I)Z"⟩, 74), (⟨"LalrDeskModel", "wordAt", "(II)I"⟩, 74), (⟨"LalrDeskModel", "lettersOf", "(II)I"⟩, 74), (⟨"LalrDeskModel", "isDigit", "(I)Z"⟩, 74), (⟨"LalrDeskModel", "signToken", "()V"⟩, 74), (⟨"LalrDeskModel", "lineRead", "()Z"⟩, 74), (⟨"LalrDeskModel", "wrong", "(I)Z"⟩, 74), (⟨"LalrDeskModel", "nameLine", "(Z)Z"⟩, 74), (⟨"LalrDeskModel", "symbolBy", "(II)I"⟩, 74), (⟨"LalrDeskModel", "ruleLine", "()Z"⟩, 74)]
theorem lw_r7 : ∀ q ∈ lw_privs_7, lw_okq q := List.forall_mem_cons.mpr ⟨lw_p96, List.forall_mem_cons.mpr ⟨lw_p97, List.forall_mem_cons.mpr ⟨lw_p98, List.forall_mem_cons.mpr ⟨lw_p99, List.forall_mem_cons.mpr ⟨lw_p100, List.forall_mem_cons.mpr ⟨lw_p101, List.forall_mem_cons.mpr ⟨lw_p102, List.forall_mem_cons.mpr ⟨lw_p103, List.forall_mem_cons.mpr ⟨lw_p104, List.forall_mem_cons.mpr ⟨lw_p105, List.forall_mem_cons.mpr ⟨lw_p106, List.forall_mem_cons.mpr ⟨lw_p107, List.forall_mem_cons.mpr ⟨lw_p108, List.forall_mem_cons.mpr ⟨lw_p109, List.forall_mem_cons.mpr ⟨lw_p110, List.forall_mem_cons.mpr ⟨lw_p111, fun _ h => absurd h List.not_mem_nil⟩⟩⟩⟩⟩⟩⟩⟩⟩⟩⟩⟩⟩⟩⟩⟩
theorem lw_p112 : lw_okq (⟨"LalrDeskModel", "isSign", "(I)Z"⟩, 74) := ⟨⟨by decide +kernel, by decide +kernel⟩, List.mem_of_getElem? (i := 1377) (by decide +kernel), List.mem_of_getElem? (i := 1856) (by decide +kernel), List.mem_of_getElem? (i := 1857) (by decide +kernel)⟩
theorem lw_p113 : lw_okq (⟨"LalrDeskModel", "isAlike", "(II)Z"⟩, 74) := ⟨⟨by decide +kernel, by decide +kernel⟩, List.mem_of_getElem? (i := 1377) (by decide +kernel), List.mem_of_getElem? (i := 1860) (by decide +kernel), List.mem_of_getElem? (i := 1861) (by decide +kernel)⟩
theorem lw_p114 : lw_okq (⟨"LalrDeskModel", "rankLine", "()Z"⟩, 74) := ⟨⟨by decide +kernel, by decide +kernel⟩, List.mem_of_getElem? (i := 1377) (by decide +kernel), List.mem_of_getElem? (i := 1864) (by decide +kernel), List.mem_of_getElem? (i := 1865) (by decide +kernel)⟩
theorem lw_p115 : lw_okq (⟨"LalrDeskModel", "number", "(II)Z"⟩, 74) := ⟨⟨by decide +kernel, by decide +kernel⟩, List.mem_of_getElem? (i := 1377) (by decide +kernel), List.mem_of_getElem? (i := 1868) (by decide +kernel), List.mem_of_getElem? (i := 1869) (by decide +kernel)⟩
theorem lw_p116 : lw_okq (⟨"LalrDeskModel", "isToken", "(I)Z"⟩, 74) := ⟨⟨by decide +kernel, by decide +kernel⟩, List.mem_of_getElem? (i := 1377) (by decide +kernel), List.mem_of_getElem? (i := 1887) (by decide +kernel), List.mem_of_getElem? (i := 1888) (by decide +kernel)⟩
theorem lw_p117 : lw_okq (⟨"LalrDeskModel", "isKind", "(I)Z"⟩, 74) := ⟨⟨by decide +kernel, by decide +kernel⟩, List.mem_of_getElem? (i := 1377) (by decide +kernel), List.mem_of_getElem? (i := 1895) (by decide +kernel), List.mem_of_getElem? (i := 1896) (by decide +kernel)⟩
theorem lw_p118 : lw_okq (⟨"LalrDeskModel", "fails", "(I)I"⟩, 74) := ⟨⟨by decide +kernel, by decide +kernel⟩, List.mem_of_getElem? (i := 1377) (by decide +kernel), List.mem_of_getElem? (i := 1899) (by decide +kernel), List.mem_of_getElem? (i := 1900) (by decide +kernel)⟩
theorem lw_p119 : lw_okq (⟨"LalrDeskModel", "isRule", "(I)Z"⟩, 74) := ⟨⟨by decide +kernel, by decide +kernel⟩, List.mem_of_getElem? (i := 1377) (by decide +kernel), List.mem_of_getElem? (i := 1907) (by decide +kernel), List.mem_of_getElem? (i := 1908) (by decide +kernel)⟩
theorem lw_p120 : lw_okq (⟨"LalrDeskModel", "byText", "()V"⟩, 74) := ⟨⟨by decide +kernel, by decide +kernel⟩, List.mem_of_getElem? (i := 1377) (by decide +kernel), List.mem_of_getElem? (i := 1911) (by decide +kernel), List.mem_of_getElem? (i := 1912) (by decide +kernel)⟩
theorem lw_p121 : lw_okq (⟨"LalrDeskModel", "isState", "(I)Z"⟩, 74) := ⟨⟨by decide +kernel, by decide +kernel⟩, List.mem_of_getElem? (i := 1377) (by decide +kernel), List.mem_of_getElem? (i := 1919) (by decide +kernel), List.mem_of_getElem? (i := 1920) (by decide +kernel)⟩
theorem lw_p122 : lw_okq (⟨"LalrDeskModel", "itemsOf", "(IZ)I"⟩, 74) := ⟨⟨by decide +kernel, by decide +kernel⟩, List.mem_of_getElem? (i := 1377) (by decide +kernel), List.mem_of_getElem? (i := 1923) (by decide +kernel), List.mem_of_getElem? (i := 1924) (by decide +kernel)⟩
theorem lw_p123 : lw_okq (⟨"LalrDeskModel", "gives", "(III)V"⟩, 74) := ⟨⟨by decide +kernel, by decide +kernel⟩, List.mem_of_getElem? (i := 1377) (by decide +kernel), List.mem_of_getElem? (i := 1988) (by decide +kernel), List.mem_of_getElem? (i := 1989) (by decide +kernel)⟩
theorem lw_p124 : lw_okq (⟨"LalrDeskModel", "isSentence", "(II)Z"⟩, 74) := ⟨⟨by decide +kernel, by decide +kernel⟩, List.mem_of_getElem? (i := 1377) (by decide +kernel), List.mem_of_getElem? (i := 1992) (by decide +kernel), List.mem_of_getElem? (i := 1993) (by decide +kernel)⟩
theorem lw_p125 : lw_okq (⟨"LalrDeskModel", "fromFirst", "()V"⟩, 74) := ⟨⟨by decide +kernel, by decide +kernel⟩, List.mem_of_getElem? (i := 1377) (by decide +kernel), List.mem_of_getElem? (i := 1996) (by decide +kernel), List.mem_of_getElem? (i := 1997) (by decide +kernel)⟩
theorem lw_p126 : lw_okq (⟨"LalrDeskModel", "comes", "(II)Z"⟩, 74) := ⟨⟨by decide +kernel, by decide +kernel⟩, List.mem_of_getElem? (i := 1377) (by decide +kernel), List.mem_of_getElem? (i := 2000) (by decide +kernel), List.mem_of_getElem? (i := 2001) (by decide +kernel)⟩
theorem lw_p127 : lw_okq (⟨"LalrDeskModel", "fromNow", "()V"⟩, 74) := ⟨⟨by decide +kernel, by decide +kernel⟩, List.mem_of_getElem? (i := 1377) (by decide +kernel), List.mem_of_getElem? (i := 2008) (by decide +kernel), List.mem_of_getElem? (i := 2009) (by decide +kernel)⟩
def lw_privs_8 : List (MethodName × Nat) := [(⟨"LalrDeskModel", "isSign", "(I)Z"⟩, 74), (⟨"LalrDeskModel", "isAlike", "(II)Z"⟩, 74), (⟨"LalrDeskModel", "rankLine", "()Z"⟩, 74), (⟨"LalrDeskModel", "number", "(II)Z"⟩, 74), (⟨"LalrDeskModel", "isToken", "(I)Z"⟩, 74), (⟨"LalrDeskModel", "isKind", "(I)Z"⟩, 74), (⟨"LalrDeskModel", "fails", "(I)I"⟩, 74), (⟨"LalrDeskModel", "isRule", "(I)Z"⟩, 74), (⟨"LalrDeskModel", "byText", "()V"⟩, 74), (⟨"LalrDeskModel", "isState", "(I)Z"⟩, 74), (⟨"LalrDeskModel", "itemsOf", "(IZ)I"⟩, 74), (⟨"LalrDeskModel", "gives", "(III)V"⟩, 74), (⟨"LalrDeskModel", "isSentence", "(II)Z"⟩, 74), (⟨"LalrDeskModel", "fromFirst", "()V"⟩, 74), (⟨"LalrDeskModel", "comes", "(II)Z"⟩, 74), (⟨"LalrDeskModel", "fromNow", "()V"⟩, 74)]
theorem lw_r8 : ∀ q ∈ lw_privs_8, lw_okq q := List.forall_mem_cons.mpr ⟨lw_p112, List.forall_mem_cons.mpr ⟨lw_p113, List.forall_mem_cons.mpr ⟨lw_p114, List.forall_mem_cons.mpr ⟨lw_p115, List.forall_mem_cons.mpr ⟨lw_p116, List.forall_mem_cons.mpr ⟨lw_p117, List.forall_mem_cons.mpr ⟨lw_p118, List.forall_mem_cons.mpr ⟨lw_p119, List.forall_mem_cons.mpr ⟨lw_p120, List.forall_mem_cons.mpr ⟨lw_p121, List.forall_mem_cons.mpr ⟨lw_p122, List.forall_mem_cons.mpr ⟨lw_p123, List.forall_mem_cons.mpr ⟨lw_p124, List.forall_mem_cons.mpr ⟨lw_p125, List.forall_mem_cons.mpr ⟨lw_p126, List.forall_mem_cons.mpr ⟨lw_p127, fun _ h => absurd h List.not_mem_nil⟩⟩⟩⟩⟩⟩⟩⟩⟩⟩⟩⟩⟩⟩⟩⟩
theorem lw_p128 : lw_okq (⟨"LalrDeskModel", "remember", "()V"⟩, 74) := ⟨⟨by decide +kernel, by decide +kernel⟩, List.mem_of_getElem? (i := 1377) (by decide +kernel), List.mem_of_getElem? (i := 2012) (by decide +kernel), List.mem_of_getElem? (i := 2013) (by decide +kernel)⟩
theorem lw_p129 : lw_okq (⟨"LalrDeskModel", "put", "([II)V"⟩, 74) := ⟨⟨by decide +kernel, by decide +kernel⟩, List.mem_of_getElem? (i := 1377) (by decide +kernel), List.mem_of_getElem? (i := 2016) (by decide +kernel), List.mem_of_getElem? (i := 2017) (by decide +kernel)⟩
theorem lw_p130 : lw_okq (⟨"LalrDeskModel", "layCome", "(I)V"⟩, 74) := ⟨⟨by decide +kernel, by decide +kernel⟩, List.mem_of_getElem? (i := 1377) (by decide +kernel), List.mem_of_getElem? (i := 2036) (by decide +kernel), List.mem_of_getElem? (i := 2037) (by decide +kernel)⟩
theorem lw_p131 : lw_okq (⟨"LalrDeskModel", "notes1", "(III)I"⟩, 74) := ⟨⟨by decide +kernel, by decide +kernel⟩, List.mem_of_getElem? (i := 1377) (by decide +kernel), List.mem_of_getElem? (i := 2044) (by decide +kernel), List.mem_of_getElem? (i := 2045) (by decide +kernel)⟩
theorem lw_p132 : lw_okq (⟨"LalrDeskModel", "layCounts", "()V"⟩, 74) := ⟨⟨by decide +kernel, by decide +kernel⟩, List.mem_of_getElem? (i := 1377) (by decide +kernel), List.mem_of_getElem? (i := 2060) (by decide +kernel), List.mem_of_getElem? (i := 2061) (by decide +kernel)⟩
theorem lw_p133 : lw_okq (⟨"LalrDeskModel", "knownBy", "()I"⟩, 74) := ⟨⟨by decide +kernel, by decide +kernel⟩, List.mem_of_getElem? (i := 1377) (by decide +kernel), List.mem_of_getElem? (i := 2064) (by decide +kernel), List.mem_of_getElem? (i := 2065) (by decide +kernel)⟩
theorem lw_p134 : lw_okq (⟨"LalrDeskModel", "isMissing", "(I)Z"⟩, 74) := ⟨⟨by decide +kernel, by decide +kernel⟩, List.mem_of_getElem? (i := 1377) (by decide +kernel), List.mem_of_getElem? (i := 2068) (by decide +kernel), List.mem_of_getElem? (i := 2069) (by decide +kernel)⟩
theorem lw_p135 : lw_okq (⟨"LalrDeskModel", "worst", "(II)I"⟩, 74) := ⟨⟨by decide +kernel, by decide +kernel⟩, List.mem_of_getElem? (i := 1377) (by decide +kernel), List.mem_of_getElem? (i := 2076) (by decide +kernel), List.mem_of_getElem? (i := 2077) (by decide +kernel)⟩
theorem lw_p136 : lw_okq (⟨"LalrDeskModel", "take", "([II)V"⟩, 74) := ⟨⟨by decide +kernel, by decide +kernel⟩, List.mem_of_getElem? (i := 1377) (by decide +kernel), List.mem_of_getElem? (i := 2096) (by decide +kernel), List.mem_of_getElem? (i := 2097) (by decide +kernel)⟩
def lw_privs_9 : List (MethodName × Nat) := [(⟨"LalrDeskModel", "remember", "()V"⟩, 74), (⟨"LalrDeskModel", "put", "([II)V"⟩, 74), (⟨"LalrDeskModel", "layCome", "(I)V"⟩, 74), (⟨"LalrDeskModel", "notes1", "(III)I"⟩, 74), (⟨"LalrDeskModel", "layCounts", "()V"⟩, 74), (⟨"LalrDeskModel", "knownBy", "()I"⟩, 74), (⟨"LalrDeskModel", "isMissing", "(I)Z"⟩, 74), (⟨"LalrDeskModel", "worst", "(II)I"⟩, 74), (⟨"LalrDeskModel", "take", "([II)V"⟩, 74)]
theorem lw_r9 : ∀ q ∈ lw_privs_9, lw_okq q := List.forall_mem_cons.mpr ⟨lw_p128, List.forall_mem_cons.mpr ⟨lw_p129, List.forall_mem_cons.mpr ⟨lw_p130, List.forall_mem_cons.mpr ⟨lw_p131, List.forall_mem_cons.mpr ⟨lw_p132, List.forall_mem_cons.mpr ⟨lw_p133, List.forall_mem_cons.mpr ⟨lw_p134, List.forall_mem_cons.mpr ⟨lw_p135, List.forall_mem_cons.mpr ⟨lw_p136, fun _ h => absurd h List.not_mem_nil⟩⟩⟩⟩⟩⟩⟩⟩⟩
def lw_privs : List (MethodName × Nat) := lw_privs_1 ++ (lw_privs_2 ++ (lw_privs_3 ++ (lw_privs_4 ++ (lw_privs_5 ++ (lw_privs_6 ++ (lw_privs_7 ++ (lw_privs_8 ++ (lw_privs_9))))))))
def lw_tbl : List Cond := k2_sels lw_privs ++ tables_1
theorem lw_privs_ok : ∀ q ∈ lw_privs, lw_okq q := by
  show ∀ q ∈ lw_privs_1 ++ (lw_privs_2 ++ (lw_privs_3 ++ (lw_privs_4 ++ (lw_privs_5 ++ (lw_privs_6 ++ (lw_privs_7 ++ (lw_privs_8 ++ (lw_privs_9)))))))), lw_okq q
  exact List.forall_mem_append.mpr ⟨lw_r1, List.forall_mem_append.mpr ⟨lw_r2, List.forall_mem_append.mpr ⟨lw_r3, List.forall_mem_append.mpr ⟨lw_r4, List.forall_mem_append.mpr ⟨lw_r5, List.forall_mem_append.mpr ⟨lw_r6, List.forall_mem_append.mpr ⟨lw_r7, List.forall_mem_append.mpr ⟨lw_r8, lw_r9⟩⟩⟩⟩⟩⟩⟩⟩
def RX0 : String := "LalrDesk$Grammar"
def TX0 : u_T := fun k => match k with
  | 0 => ("LalrDesk$Grammar", "tokenCount", "I", false)
  | 1 => ("LalrDesk$Grammar", "kindCount", "I", false)
  | 2 => ("LalrDesk$Grammar", "ruleCount", "I", false)
  | 3 => ("LalrDesk$Grammar", "startKind", "I", false)
  | 4 => ("LalrDesk$Grammar", "leftOut", "I", false)
  | 5 => ("LalrDesk$Grammar", "names", "[I", true)
  | 6 => ("LalrDesk$Grammar", "ranks", "[I", true)
  | 7 => ("LalrDesk$Grammar", "sides", "[I", true)
  | 8 => ("LalrDesk$Grammar", "ruleKinds", "[I", true)
  | 9 => ("LalrDesk$Grammar", "ruleLengths", "[I", true)
  | 10 => ("LalrDesk$Grammar", "ruleSymbols", "[I", true)
  | 11 => ("LalrDesk$Grammar", "empties", "I", false)
  | 12 => ("LalrDesk$Grammar", "firsts", "[I", true)
  | _ => ("LalrDesk$Grammar", "follows", "[I", true)
def tyX0 : Nat → FieldType := fun k => match k with
  | 0 => .int
  | 1 => .int
  | 2 => .int
  | 3 => .int
  | 4 => .int
  | 5 => .array .int
  | 6 => .array .int
  | 7 => .array .int
  | 8 => .array .int
  | 9 => .array .int
  | 10 => .array .int
  | 11 => .int
  | 12 => .array .int
  | _ => .array .int
abbrev wsX00 : List Cond := u_ws RX0 TX0 14
theorem nmX0 : ∀ a, a < 14 → ∀ b, b < 14 → a ≠ b → (TX0 a).2.1 ≠ (TX0 b).2.1 := by decide +kernel
theorem tyX0_ok : ∀ k, k < 14 → parseFieldDescriptor (TX0 k).2.2.1 = some (tyX0 k) := by decide +kernel
abbrev cX0_init : ByteArray := prog_2_method_1_code
def yX0_init : MethodName := ⟨RX0, "<init>", "()V"⟩
abbrev cX0_forget : ByteArray := prog_2_method_2_code
def yX0_forget : MethodName := ⟨RX0, "forget", "()V"⟩
abbrev cX0_copy : ByteArray := prog_2_method_3_code
def yX0_copy : MethodName := ⟨RX0, "copy", "(LLalrDesk$Grammar;)V"⟩
abbrev cX0_hasToken : ByteArray := prog_2_method_4_code
def yX0_hasToken : MethodName := ⟨RX0, "hasToken", "(I)Z"⟩
abbrev cX0_hasKind : ByteArray := prog_2_method_5_code
def yX0_hasKind : MethodName := ⟨RX0, "hasKind", "(I)Z"⟩
abbrev cX0_hasRule : ByteArray := prog_2_method_6_code
def yX0_hasRule : MethodName := ⟨RX0, "hasRule", "(I)Z"⟩
abbrev cX0_hasSymbol : ByteArray := prog_2_method_7_code
def yX0_hasSymbol : MethodName := ⟨RX0, "hasSymbol", "(I)Z"⟩
abbrev cX0_hasTerminal : ByteArray := prog_2_method_8_code
def yX0_hasTerminal : MethodName := ⟨RX0, "hasTerminal", "(I)Z"⟩
abbrev cX0_uses : ByteArray := prog_2_method_9_code
def yX0_uses : MethodName := ⟨RX0, "uses", "(I)Z"⟩
abbrev cX0_symbolNamed : ByteArray := prog_2_method_10_code
def yX0_symbolNamed : MethodName := ⟨RX0, "symbolNamed", "(I)I"⟩
abbrev cX0_addToken : ByteArray := prog_2_method_11_code
def yX0_addToken : MethodName := ⟨RX0, "addToken", "(I)V"⟩
abbrev cX0_addKind : ByteArray := prog_2_method_12_code
def yX0_addKind : MethodName := ⟨RX0, "addKind", "(I)V"⟩
abbrev cX0_beginRule : ByteArray := prog_2_method_13_code
def yX0_beginRule : MethodName := ⟨RX0, "beginRule", "(I)V"⟩
abbrev cX0_addSymbol : ByteArray := prog_2_method_14_code
def yX0_addSymbol : MethodName := ⟨RX0, "addSymbol", "(I)Z"⟩
abbrev cX0_ruleIsFull : ByteArray := prog_2_method_15_code
def yX0_ruleIsFull : MethodName := ⟨RX0, "ruleIsFull", "()Z"⟩
abbrev cX0_addRule : ByteArray := prog_2_method_16_code
def yX0_addRule : MethodName := ⟨RX0, "addRule", "()Z"⟩
abbrev cX0_isSameAsBegun : ByteArray := prog_2_method_17_code
def yX0_isSameAsBegun : MethodName := ⟨RX0, "isSameAsBegun", "(I)Z"⟩
abbrev cX0_kindOf : ByteArray := prog_2_method_18_code
def yX0_kindOf : MethodName := ⟨RX0, "kindOf", "(I)I"⟩
abbrev cX0_lengthOf : ByteArray := prog_2_method_19_code
def yX0_lengthOf : MethodName := ⟨RX0, "lengthOf", "(I)I"⟩
abbrev cX0_symbolAt : ByteArray := prog_2_method_20_code
def yX0_symbolAt : MethodName := ⟨RX0, "symbolAt", "(II)I"⟩
abbrev cX0_itemAtEnd : ByteArray := prog_2_method_21_code
def yX0_itemAtEnd : MethodName := ⟨RX0, "itemAtEnd", "(I)I"⟩
abbrev cX0_rankOf : ByteArray := prog_2_method_22_code
def yX0_rankOf : MethodName := ⟨RX0, "rankOf", "(I)I"⟩
abbrev cX0_rankOfToken : ByteArray := prog_2_method_23_code
def yX0_rankOfToken : MethodName := ⟨RX0, "rankOfToken", "(I)I"⟩
abbrev cX0_sideOfToken : ByteArray := prog_2_method_24_code
def yX0_sideOfToken : MethodName := ⟨RX0, "sideOfToken", "(I)I"⟩
abbrev cX0_rulesOf : ByteArray := prog_2_method_25_code
def yX0_rulesOf : MethodName := ⟨RX0, "rulesOf", "(I)I"⟩
abbrev cX0_isEmpty : ByteArray := prog_2_method_26_code
def yX0_isEmpty : MethodName := ⟨RX0, "isEmpty", "(I)Z"⟩
abbrev cX0_followOf : ByteArray := prog_2_method_27_code
def yX0_followOf : MethodName := ⟨RX0, "followOf", "(I)I"⟩
abbrev cX0_isEmptyFrom : ByteArray := prog_2_method_28_code
def yX0_isEmptyFrom : MethodName := ⟨RX0, "isEmptyFrom", "(II)Z"⟩
abbrev cX0_firstFrom : ByteArray := prog_2_method_29_code
def yX0_firstFrom : MethodName := ⟨RX0, "firstFrom", "(II)I"⟩
abbrev cX0_settleEmpties : ByteArray := prog_2_method_30_code
def yX0_settleEmpties : MethodName := ⟨RX0, "settleEmpties", "()V"⟩
abbrev cX0_settleFirsts : ByteArray := prog_2_method_31_code
def yX0_settleFirsts : MethodName := ⟨RX0, "settleFirsts", "()V"⟩
abbrev cX0_settleFollows : ByteArray := prog_2_method_32_code
def yX0_settleFollows : MethodName := ⟨RX0, "settleFollows", "()V"⟩
abbrev cX0_widenFollowsBy : ByteArray := prog_2_method_33_code
def yX0_widenFollowsBy : MethodName := ⟨RX0, "widenFollowsBy", "(I)Z"⟩
abbrev cX0_widen : ByteArray := prog_2_method_34_code
def yX0_widen : MethodName := ⟨RX0, "widen", "([III)Z"⟩
def RX1 : String := "LalrDesk$Notes"
def TX1 : u_T := fun k => match k with
  | 0 => ("LalrDesk$Notes", "count", "I", false)
  | 1 => ("LalrDesk$Notes", "limit", "I", false)
  | 2 => ("LalrDesk$Notes", "places", "[I", true)
  | 3 => ("LalrDesk$Notes", "sentences", "[Z", true)
  | _ => ("LalrDesk$Notes", "struck", "[I", true)
def tyX1 : Nat → FieldType := fun k => match k with
  | 0 => .int
  | 1 => .int
  | 2 => .array .int
  | 3 => .array .boolean
  | _ => .array .int
abbrev wsX10 : List Cond := u_ws RX1 TX1 5
theorem nmX1 : ∀ a, a < 5 → ∀ b, b < 5 → a ≠ b → (TX1 a).2.1 ≠ (TX1 b).2.1 := by decide +kernel
theorem tyX1_ok : ∀ k, k < 5 → parseFieldDescriptor (TX1 k).2.2.1 = some (tyX1 k) := by decide +kernel
abbrev cX1_init : ByteArray := prog_3_method_1_code
def yX1_init : MethodName := ⟨RX1, "<init>", "()V"⟩
abbrev cX1_forget : ByteArray := prog_3_method_2_code
def yX1_forget : MethodName := ⟨RX1, "forget", "()V"⟩
abbrev cX1_addNote : ByteArray := prog_3_method_3_code
def yX1_addNote : MethodName := ⟨RX1, "addNote", "(IZ)I"⟩
abbrev cX1_addStrike : ByteArray := prog_3_method_4_code
def yX1_addStrike : MethodName := ⟨RX1, "addStrike", "(I)I"⟩
abbrev cX1_limit : ByteArray := prog_3_method_5_code
def yX1_limit : MethodName := ⟨RX1, "limit", "(I)Z"⟩
abbrev cX1_knownBy : ByteArray := prog_3_method_6_code
def yX1_knownBy : MethodName := ⟨RX1, "knownBy", "()I"⟩
abbrev cX1_knownNotes : ByteArray := prog_3_method_7_code
def yX1_knownNotes : MethodName := ⟨RX1, "knownNotes", "()I"⟩
def RX2 : String := "LalrDesk$Packing"
def TX2 : u_T := fun k => match k with
  | 0 => ("LalrDesk$Packing", "used", "I", false)
  | 1 => ("LalrDesk$Packing", "offsets", "[I", true)
  | 2 => ("LalrDesk$Packing", "placeActions", "[I", true)
  | _ => ("LalrDesk$Packing", "placeStates", "[I", true)
def tyX2 : Nat → FieldType := fun k => match k with
  | 0 => .int
  | 1 => .array .int
  | 2 => .array .int
  | _ => .array .int
abbrev wsX20 : List Cond := u_ws RX2 TX2 4
theorem nmX2 : ∀ a, a < 4 → ∀ b, b < 4 → a ≠ b → (TX2 a).2.1 ≠ (TX2 b).2.1 := by decide +kernel
theorem tyX2_ok : ∀ k, k < 4 → parseFieldDescriptor (TX2 k).2.2.1 = some (tyX2 k) := by decide +kernel
abbrev cX2_init : ByteArray := prog_4_method_1_code
def yX2_init : MethodName := ⟨RX2, "<init>", "()V"⟩
abbrev cX2_make : ByteArray := prog_4_method_2_code
def yX2_make : MethodName := ⟨RX2, "make", "(LLalrDesk$Tables;)V"⟩
abbrev cX2_lay : ByteArray := prog_4_method_3_code
def yX2_lay : MethodName := ⟨RX2, "lay", "(LLalrDesk$Tables;I)V"⟩
abbrev cX2_hasRoom : ByteArray := prog_4_method_4_code
def yX2_hasRoom : MethodName := ⟨RX2, "hasRoom", "(LLalrDesk$Tables;II)Z"⟩
abbrev cX2_layAt : ByteArray := prog_4_method_5_code
def yX2_layAt : MethodName := ⟨RX2, "layAt", "(LLalrDesk$Tables;II)V"⟩
abbrev cX2_actionAt : ByteArray := prog_4_method_6_code
def yX2_actionAt : MethodName := ⟨RX2, "actionAt", "(I)I"⟩
abbrev cX2_stateAt : ByteArray := prog_4_method_7_code
def yX2_stateAt : MethodName := ⟨RX2, "stateAt", "(I)I"⟩
def RX3 : String := "LalrDesk$Past"
def TX3 : u_T := fun k => match k with
  | 0 => ("LalrDesk$Past", "count", "I", false)
  | 1 => ("LalrDesk$Past", "latest", "I", false)
  | 2 => ("LalrDesk$Past", "states", "[I", true)
  | 3 => ("LalrDesk$Past", "sizes", "[I", true)
  | 4 => ("LalrDesk$Past", "reduces", "[I", true)
  | _ => ("LalrDesk$Past", "tokens", "[I", true)
def tyX3 : Nat → FieldType := fun k => match k with
  | 0 => .int
  | 1 => .int
  | 2 => .array .int
  | 3 => .array .int
  | 4 => .array .int
  | _ => .array .int
abbrev wsX30 : List Cond := u_ws RX3 TX3 6
theorem nmX3 : ∀ a, a < 6 → ∀ b, b < 6 → a ≠ b → (TX3 a).2.1 ≠ (TX3 b).2.1 := by decide +kernel
theorem tyX3_ok : ∀ k, k < 6 → parseFieldDescriptor (TX3 k).2.2.1 = some (tyX3 k) := by decide +kernel
abbrev cX3_init : ByteArray := prog_5_method_1_code
def yX3_init : MethodName := ⟨RX3, "<init>", "()V"⟩
abbrev cX3_forget : ByteArray := prog_5_method_2_code
def yX3_forget : MethodName := ⟨RX3, "forget", "()V"⟩
abbrev cX3_add : ByteArray := prog_5_method_3_code
def yX3_add : MethodName := ⟨RX3, "add", "(LLalrDesk$Row;)V"⟩
abbrev cX3_takeBack : ByteArray := prog_5_method_4_code
def yX3_takeBack : MethodName := ⟨RX3, "takeBack", "(LLalrDesk$Row;)I"⟩
def RX4 : String := "LalrDesk$Relations"
def TX4 : u_T := fun k => match k with
  | 0 => ("LalrDesk$Relations", "moveCount", "I", false)
  | 1 => ("LalrDesk$Relations", "readPairs", "I", false)
  | 2 => ("LalrDesk$Relations", "includePairs", "I", false)
  | 3 => ("LalrDesk$Relations", "lookbacks", "I", false)
  | 4 => ("LalrDesk$Relations", "moveStates", "[I", true)
  | 5 => ("LalrDesk$Relations", "moveKinds", "[I", true)
  | 6 => ("LalrDesk$Relations", "numbers", "[I", true)
  | 7 => ("LalrDesk$Relations", "afters", "[I", true)
  | 8 => ("LalrDesk$Relations", "includes", "[J", true)
  | _ => ("LalrDesk$Relations", "reached", "[J", true)
def tyX4 : Nat → FieldType := fun k => match k with
  | 0 => .int
  | 1 => .int
  | 2 => .int
  | 3 => .int
  | 4 => .array .int
  | 5 => .array .int
  | 6 => .array .int
  | 7 => .array .int
  | 8 => .array .long
  | _ => .array .long
abbrev wsX40 : List Cond := u_ws RX4 TX4 10
theorem nmX4 : ∀ a, a < 10 → ∀ b, b < 10 → a ≠ b → (TX4 a).2.1 ≠ (TX4 b).2.1 := by decide +kernel
theorem tyX4_ok : ∀ k, k < 10 → parseFieldDescriptor (TX4 k).2.2.1 = some (tyX4 k) := by decide +kernel
abbrev cX4_init : ByteArray := prog_6_method_1_code
def yX4_init : MethodName := ⟨RX4, "<init>", "()V"⟩
abbrev cX4_make : ByteArray := prog_6_method_2_code
def yX4_make : MethodName := ⟨RX4, "make", "(LLalrDesk$Tables;)V"⟩
abbrev cX4_numberMoves : ByteArray := prog_6_method_3_code
def yX4_numberMoves : MethodName := ⟨RX4, "numberMoves", "(LLalrDesk$Tables;)V"⟩
abbrev cX4_numberOf : ByteArray := prog_6_method_4_code
def yX4_numberOf : MethodName := ⟨RX4, "numberOf", "(II)I"⟩
abbrev cX4_relate : ByteArray := prog_6_method_5_code
def yX4_relate : MethodName := ⟨RX4, "relate", "(LLalrDesk$Tables;I)V"⟩
abbrev cX4_walk : ByteArray := prog_6_method_6_code
def yX4_walk : MethodName := ⟨RX4, "walk", "(LLalrDesk$Tables;II)V"⟩
abbrev cX4_include : ByteArray := prog_6_method_7_code
def yX4_include : MethodName := ⟨RX4, "include", "(II)V"⟩
abbrev cX4_inRow : ByteArray := prog_6_method_8_code
def yX4_inRow : MethodName := ⟨RX4, "inRow", "([JII)Z"⟩
abbrev cX4_settleAfters : ByteArray := prog_6_method_9_code
def yX4_settleAfters : MethodName := ⟨RX4, "settleAfters", "(LLalrDesk$Tables;)V"⟩
abbrev cX4_tokensFrom : ByteArray := prog_6_method_10_code
def yX4_tokensFrom : MethodName := ⟨RX4, "tokensFrom", "(LLalrDesk$Tables;I)I"⟩
abbrev cX4_aftersRead : ByteArray := prog_6_method_11_code
def yX4_aftersRead : MethodName := ⟨RX4, "aftersRead", "(LLalrDesk$Tables;I)I"⟩
abbrev cX4_aftersIncluded : ByteArray := prog_6_method_12_code
def yX4_aftersIncluded : MethodName := ⟨RX4, "aftersIncluded", "(I)I"⟩
abbrev cX4_afterMove : ByteArray := prog_6_method_13_code
def yX4_afterMove : MethodName := ⟨RX4, "afterMove", "(II)I"⟩
abbrev cX4_rings : ByteArray := prog_6_method_14_code
def yX4_rings : MethodName := ⟨RX4, "rings", "()I"⟩
abbrev cX4_reachBySteps : ByteArray := prog_6_method_15_code
def yX4_reachBySteps : MethodName := ⟨RX4, "reachBySteps", "()V"⟩
abbrev cX4_leadsRing : ByteArray := prog_6_method_16_code
def yX4_leadsRing : MethodName := ⟨RX4, "leadsRing", "(I)Z"⟩
def RX5 : String := "LalrDesk$Row"
def TX5 : u_T := fun k => match k with
  | 0 => ("LalrDesk$Row", "next", "LLalrDesk$Row;", true)
  | 1 => ("LalrDesk$Row", "states", "[I", true)
  | 2 => ("LalrDesk$Row", "size", "I", false)
  | 3 => ("LalrDesk$Row", "reduces", "I", false)
  | _ => ("LalrDesk$Row", "tokens", "I", false)
def tyX5 : Nat → FieldType := fun k => match k with
  | 0 => .object "LalrDesk$Row"
  | 1 => .array .int
  | 2 => .int
  | 3 => .int
  | _ => .int
abbrev wsX50 : List Cond := u_ws RX5 TX5 5
theorem nmX5 : ∀ a, a < 5 → ∀ b, b < 5 → a ≠ b → (TX5 a).2.1 ≠ (TX5 b).2.1 := by decide +kernel
theorem tyX5_ok : ∀ k, k < 5 → parseFieldDescriptor (TX5 k).2.2.1 = some (tyX5 k) := by decide +kernel
abbrev cX5_init : ByteArray := prog_7_method_1_code
def yX5_init : MethodName := ⟨RX5, "<init>", "(LLalrDesk$Row;)V"⟩
abbrev cX5_copy : ByteArray := prog_7_method_2_code
def yX5_copy : MethodName := ⟨RX5, "copy", "(LLalrDesk$Row;)V"⟩
abbrev cX5_begin : ByteArray := prog_7_method_3_code
def yX5_begin : MethodName := ⟨RX5, "begin", "(LLalrDesk$Tables;)V"⟩
abbrev cX5_stateBehindLast : ByteArray := prog_7_method_4_code
def yX5_stateBehindLast : MethodName := ⟨RX5, "stateBehindLast", "(I)I"⟩
abbrev cX5_take : ByteArray := prog_7_method_5_code
def yX5_take : MethodName := ⟨RX5, "take", "(LLalrDesk$Tables;I)I"⟩
abbrev cX5_reduceBy : ByteArray := prog_7_method_6_code
def yX5_reduceBy : MethodName := ⟨RX5, "reduceBy", "(LLalrDesk$Tables;I)Z"⟩
abbrev cX5_add : ByteArray := prog_7_method_7_code
def yX5_add : MethodName := ⟨RX5, "add", "(I)Z"⟩
def RX6 : String := "LalrDesk$ShortestRows"
def TX6 : u_T := fun k => match k with
  | 0 => ("LalrDesk$ShortestRows", "kindLengths", "[I", true)
  | 1 => ("LalrDesk$ShortestRows", "stateLengths", "[I", true)
  | 2 => ("LalrDesk$ShortestRows", "kindRows", "[I", true)
  | 3 => ("LalrDesk$ShortestRows", "stateRows", "[I", true)
  | 4 => ("LalrDesk$ShortestRows", "trial", "[I", true)
  | _ => ("LalrDesk$ShortestRows", "trialLength", "I", false)
def tyX6 : Nat → FieldType := fun k => match k with
  | 0 => .array .int
  | 1 => .array .int
  | 2 => .array .int
  | 3 => .array .int
  | 4 => .array .int
  | _ => .int
abbrev wsX60 : List Cond := u_ws RX6 TX6 6
theorem nmX6 : ∀ a, a < 6 → ∀ b, b < 6 → a ≠ b → (TX6 a).2.1 ≠ (TX6 b).2.1 := by decide +kernel
theorem tyX6_ok : ∀ k, k < 6 → parseFieldDescriptor (TX6 k).2.2.1 = some (tyX6 k) := by decide +kernel
abbrev cX6_init : ByteArray := prog_8_method_1_code
def yX6_init : MethodName := ⟨RX6, "<init>", "()V"⟩
abbrev cX6_make : ByteArray := prog_8_method_2_code
def yX6_make : MethodName := ⟨RX6, "make", "(LLalrDesk$Tables;)V"⟩
abbrev cX6_settleKinds : ByteArray := prog_8_method_3_code
def yX6_settleKinds : MethodName := ⟨RX6, "settleKinds", "(LLalrDesk$Grammar;)V"⟩
abbrev cX6_tryRule : ByteArray := prog_8_method_4_code
def yX6_tryRule : MethodName := ⟨RX6, "tryRule", "(LLalrDesk$Grammar;I)Z"⟩
abbrev cX6_settleStates : ByteArray := prog_8_method_5_code
def yX6_settleStates : MethodName := ⟨RX6, "settleStates", "(LLalrDesk$States;)V"⟩
abbrev cX6_improveBy : ByteArray := prog_8_method_6_code
def yX6_improveBy : MethodName := ⟨RX6, "improveBy", "(LLalrDesk$States;II)Z"⟩
abbrev cX6_lengthen : ByteArray := prog_8_method_7_code
def yX6_lengthen : MethodName := ⟨RX6, "lengthen", "(II)Z"⟩
abbrev cX6_improves : ByteArray := prog_8_method_8_code
def yX6_improves : MethodName := ⟨RX6, "improves", "([III)Z"⟩
abbrev cX6_tokenOfKind : ByteArray := prog_8_method_9_code
def yX6_tokenOfKind : MethodName := ⟨RX6, "tokenOfKind", "(II)I"⟩
abbrev cX6_tokenToState : ByteArray := prog_8_method_10_code
def yX6_tokenToState : MethodName := ⟨RX6, "tokenToState", "(II)I"⟩
def RX7 : String := "LalrDesk$States"
def TX7 : u_T := fun k => match k with
  | 0 => ("LalrDesk$States", "count", "I", false)
  | 1 => ("LalrDesk$States", "kernels", "[J", true)
  | 2 => ("LalrDesk$States", "closures", "[J", true)
  | 3 => ("LalrDesk$States", "entries", "[I", true)
  | 4 => ("LalrDesk$States", "moves", "[I", true)
  | 5 => ("LalrDesk$States", "behinds", "[I", true)
  | 6 => ("LalrDesk$States", "itemsToLookAt", "I", false)
  | 7 => ("LalrDesk$States", "itemsAhead", "[J", true)
  | 8 => ("LalrDesk$States", "itemsOfKind", "[J", true)
  | 9 => ("LalrDesk$States", "symbolBehindDot", "[I", true)
  | 10 => ("LalrDesk$States", "firstBehindThat", "[I", true)
  | _ => ("LalrDesk$States", "emptyBehindThat", "J", false)
def tyX7 : Nat → FieldType := fun k => match k with
  | 0 => .int
  | 1 => .array .long
  | 2 => .array .long
  | 3 => .array .int
  | 4 => .array .int
  | 5 => .array .int
  | 6 => .int
  | 7 => .array .long
  | 8 => .array .long
  | 9 => .array .int
  | 10 => .array .int
  | _ => .long
abbrev wsX70 : List Cond := u_ws RX7 TX7 12
theorem nmX7 : ∀ a, a < 12 → ∀ b, b < 12 → a ≠ b → (TX7 a).2.1 ≠ (TX7 b).2.1 := by decide +kernel
theorem tyX7_ok : ∀ k, k < 12 → parseFieldDescriptor (TX7 k).2.2.1 = some (tyX7 k) := by decide +kernel
abbrev cX7_init : ByteArray := prog_9_method_1_code
def yX7_init : MethodName := ⟨RX7, "<init>", "()V"⟩
abbrev cX7_has : ByteArray := prog_9_method_2_code
def yX7_has : MethodName := ⟨RX7, "has", "(I)Z"⟩
abbrev cX7_hasItem : ByteArray := prog_9_method_3_code
def yX7_hasItem : MethodName := ⟨RX7, "hasItem", "(II)Z"⟩
abbrev cX7_moveBy : ByteArray := prog_9_method_4_code
def yX7_moveBy : MethodName := ⟨RX7, "moveBy", "(II)I"⟩
abbrev cX7_behind : ByteArray := prog_9_method_5_code
def yX7_behind : MethodName := ⟨RX7, "behind", "(II)I"⟩
abbrev cX7_kernelItem : ByteArray := prog_9_method_6_code
def yX7_kernelItem : MethodName := ⟨RX7, "kernelItem", "(II)I"⟩
abbrev cX7_itemsInAll : ByteArray := prog_9_method_7_code
def yX7_itemsInAll : MethodName := ⟨RX7, "itemsInAll", "()I"⟩
abbrev cX7_movesInAll : ByteArray := prog_9_method_8_code
def yX7_movesInAll : MethodName := ⟨RX7, "movesInAll", "()I"⟩
abbrev cX7_make : ByteArray := prog_9_method_9_code
def yX7_make : MethodName := ⟨RX7, "make", "(LLalrDesk$Grammar;)Z"⟩
abbrev cX7_prepareItems : ByteArray := prog_9_method_10_code
def yX7_prepareItems : MethodName := ⟨RX7, "prepareItems", "(LLalrDesk$Grammar;)V"⟩
abbrev cX7_prepareRule : ByteArray := prog_9_method_11_code
def yX7_prepareRule : MethodName := ⟨RX7, "prepareRule", "(LLalrDesk$Grammar;I)V"⟩
abbrev cX7_numberOf : ByteArray := prog_9_method_12_code
def yX7_numberOf : MethodName := ⟨RX7, "numberOf", "(JI)I"⟩
abbrev cX7_closed : ByteArray := prog_9_method_13_code
def yX7_closed : MethodName := ⟨RX7, "closed", "(J)J"⟩
abbrev cX7_spread : ByteArray := prog_9_method_14_code
def yX7_spread : MethodName := ⟨RX7, "spread", "(II)V"⟩
abbrev cX7_spreadIn : ByteArray := prog_9_method_15_code
def yX7_spreadIn : MethodName := ⟨RX7, "spreadIn", "(I)Z"⟩
abbrev cX7_spreadFrom : ByteArray := prog_9_method_16_code
def yX7_spreadFrom : MethodName := ⟨RX7, "spreadFrom", "(II)Z"⟩
abbrev cX7_widen : ByteArray := prog_9_method_17_code
def yX7_widen : MethodName := ⟨RX7, "widen", "(III)Z"⟩
def RX8 : String := "LalrDesk$Tables"
def TX8 : u_T := fun k => match k with
  | 0 => ("LalrDesk$Tables", "grammar", "LLalrDesk$Grammar;", true)
  | 1 => ("LalrDesk$Tables", "states", "LLalrDesk$States;", true)
  | 2 => ("LalrDesk$Tables", "actions", "[I", true)
  | _ => ("LalrDesk$Tables", "leftOuts", "[I", true)
def tyX8 : Nat → FieldType := fun k => match k with
  | 0 => .object "LalrDesk$Grammar"
  | 1 => .object "LalrDesk$States"
  | 2 => .array .int
  | _ => .array .int
abbrev wsX80 : List Cond := u_ws RX8 TX8 4
theorem nmX8 : ∀ a, a < 4 → ∀ b, b < 4 → a ≠ b → (TX8 a).2.1 ≠ (TX8 b).2.1 := by decide +kernel
theorem tyX8_ok : ∀ k, k < 4 → parseFieldDescriptor (TX8 k).2.2.1 = some (tyX8 k) := by decide +kernel
abbrev cX8_init : ByteArray := prog_10_method_1_code
def yX8_init : MethodName := ⟨RX8, "<init>", "()V"⟩
abbrev cX8_make : ByteArray := prog_10_method_2_code
def yX8_make : MethodName := ⟨RX8, "make", "(Z)Z"⟩
abbrev cX8_gatherReduces : ByteArray := prog_10_method_3_code
def yX8_gatherReduces : MethodName := ⟨RX8, "gatherReduces", "(IZ)V"⟩
abbrev cX8_decide : ByteArray := prog_10_method_4_code
def yX8_decide : MethodName := ⟨RX8, "decide", "(II)V"⟩
abbrev cX8_actionBySide : ByteArray := prog_10_method_5_code
def yX8_actionBySide : MethodName := ⟨RX8, "actionBySide", "(III)I"⟩
abbrev cX8_leastOf : ByteArray := prog_10_method_6_code
def yX8_leastOf : MethodName := ⟨RX8, "leastOf", "(I)I"⟩
abbrev cX8_actionFor : ByteArray := prog_10_method_7_code
def yX8_actionFor : MethodName := ⟨RX8, "actionFor", "(II)I"⟩
abbrev cX8_actionsIn : ByteArray := prog_10_method_8_code
def yX8_actionsIn : MethodName := ⟨RX8, "actionsIn", "(I)I"⟩
abbrev cX8_actionsInAll : ByteArray := prog_10_method_9_code
def yX8_actionsInAll : MethodName := ⟨RX8, "actionsInAll", "()I"⟩
abbrev cX8_conflictCount : ByteArray := prog_10_method_10_code
def yX8_conflictCount : MethodName := ⟨RX8, "conflictCount", "()I"⟩
abbrev cX8_cellOfConflict : ByteArray := prog_10_method_11_code
def yX8_cellOfConflict : MethodName := ⟨RX8, "cellOfConflict", "(I)I"⟩
abbrev cX8_ruleOfConflict : ByteArray := prog_10_method_12_code
def yX8_ruleOfConflict : MethodName := ⟨RX8, "ruleOfConflict", "(II)I"⟩
def RX9 : String := "LalrDesk$TextParser"
def TX9 : u_T := fun k => match k with
  | 0 => ("LalrDesk$TextParser", "faultNumber", "I", false)
  | 1 => ("LalrDesk$TextParser", "faultPlace", "I", false)
  | 2 => ("LalrDesk$TextParser", "bytes", "[I", true)
  | 3 => ("LalrDesk$TextParser", "length", "I", false)
  | 4 => ("LalrDesk$TextParser", "place", "I", false)
  | 5 => ("LalrDesk$TextParser", "sort", "I", false)
  | 6 => ("LalrDesk$TextParser", "start", "I", false)
  | 7 => ("LalrDesk$TextParser", "letters", "I", false)
  | _ => ("LalrDesk$TextParser", "value", "I", false)
def tyX9 : Nat → FieldType := fun k => match k with
  | 0 => .int
  | 1 => .int
  | 2 => .array .int
  | 3 => .int
  | 4 => .int
  | 5 => .int
  | 6 => .int
  | 7 => .int
  | _ => .int
abbrev wsX90 : List Cond := u_ws RX9 TX9 9
theorem nmX9 : ∀ a, a < 9 → ∀ b, b < 9 → a ≠ b → (TX9 a).2.1 ≠ (TX9 b).2.1 := by decide +kernel
theorem tyX9_ok : ∀ k, k < 9 → parseFieldDescriptor (TX9 k).2.2.1 = some (tyX9 k) := by decide +kernel
abbrev cX9_init : ByteArray := prog_11_method_1_code
def yX9_init : MethodName := ⟨RX9, "<init>", "()V"⟩
abbrev cX9_blame : ByteArray := prog_11_method_2_code
def yX9_blame : MethodName := ⟨RX9, "blame", "(II)V"⟩
abbrev cX9_refuse : ByteArray := prog_11_method_3_code
def yX9_refuse : MethodName := ⟨RX9, "refuse", "(I)Z"⟩
abbrev cX9_linesOf : ByteArray := prog_11_method_4_code
def yX9_linesOf : MethodName := ⟨RX9, "linesOf", "([IILLalrDesk$Grammar;)I"⟩
abbrev cX9_takeLine : ByteArray := prog_11_method_5_code
def yX9_takeLine : MethodName := ⟨RX9, "takeLine", "(LLalrDesk$Grammar;)Z"⟩
abbrev cX9_takeToken : ByteArray := prog_11_method_6_code
def yX9_takeToken : MethodName := ⟨RX9, "takeToken", "(LLalrDesk$Grammar;)Z"⟩
abbrev cX9_takeKind : ByteArray := prog_11_method_7_code
def yX9_takeKind : MethodName := ⟨RX9, "takeKind", "(LLalrDesk$Grammar;)Z"⟩
abbrev cX9_isNewName : ByteArray := prog_11_method_8_code
def yX9_isNewName : MethodName := ⟨RX9, "isNewName", "(LLalrDesk$Grammar;)Z"⟩
abbrev cX9_takeRule : ByteArray := prog_11_method_9_code
def yX9_takeRule : MethodName := ⟨RX9, "takeRule", "(LLalrDesk$Grammar;)Z"⟩
abbrev cX9_takeSymbol : ByteArray := prog_11_method_10_code
def yX9_takeSymbol : MethodName := ⟨RX9, "takeSymbol", "(LLalrDesk$Grammar;)Z"⟩
abbrev cX9_takeRank : ByteArray := prog_11_method_11_code
def yX9_takeRank : MethodName := ⟨RX9, "takeRank", "(LLalrDesk$Grammar;)Z"⟩
abbrev cX9_takeName : ByteArray := prog_11_method_12_code
def yX9_takeName : MethodName := ⟨RX9, "takeName", "()Z"⟩
abbrev cX9_takeNumber : ByteArray := prog_11_method_13_code
def yX9_takeNumber : MethodName := ⟨RX9, "takeNumber", "(II)Z"⟩
abbrev cX9_takeLineEnd : ByteArray := prog_11_method_14_code
def yX9_takeLineEnd : MethodName := ⟨RX9, "takeLineEnd", "()Z"⟩
abbrev cX9_isName : ByteArray := prog_11_method_15_code
def yX9_isName : MethodName := ⟨RX9, "isName", "()Z"⟩
abbrev cX9_advance : ByteArray := prog_11_method_16_code
def yX9_advance : MethodName := ⟨RX9, "advance", "()V"⟩
abbrev cX9_passWord : ByteArray := prog_11_method_17_code
def yX9_passWord : MethodName := ⟨RX9, "passWord", "()V"⟩
abbrev cX9_passNumber : ByteArray := prog_11_method_18_code
def yX9_passNumber : MethodName := ⟨RX9, "passNumber", "()V"⟩
abbrev cX9_signAt : ByteArray := prog_11_method_19_code
def yX9_signAt : MethodName := ⟨RX9, "signAt", "(I)I"⟩
abbrev cX9_isBlank : ByteArray := prog_11_method_20_code
def yX9_isBlank : MethodName := ⟨RX9, "isBlank", "(I)Z"⟩
abbrev cX9_isLetter : ByteArray := prog_11_method_21_code
def yX9_isLetter : MethodName := ⟨RX9, "isLetter", "(I)Z"⟩
abbrev cX9_isDigit : ByteArray := prog_11_method_22_code
def yX9_isDigit : MethodName := ⟨RX9, "isDigit", "(I)Z"⟩
def RX10 : String := "LalrDesk$Trials"
def TX10 : u_T := fun k => match k with
  | 0 => ("LalrDesk$Trials", "learned", "Z", false)
  | 1 => ("LalrDesk$Trials", "possible", "I", false)
  | _ => ("LalrDesk$Trials", "withouts", "[I", true)
def tyX10 : Nat → FieldType := fun k => match k with
  | 0 => .boolean
  | 1 => .int
  | _ => .array .int
abbrev wsX100 : List Cond := u_ws RX10 TX10 3
theorem nmX10 : ∀ a, a < 3 → ∀ b, b < 3 → a ≠ b → (TX10 a).2.1 ≠ (TX10 b).2.1 := by decide +kernel
theorem tyX10_ok : ∀ k, k < 3 → parseFieldDescriptor (TX10 k).2.2.1 = some (tyX10 k) := by decide +kernel
abbrev cX10_init : ByteArray := prog_12_method_1_code
def yX10_init : MethodName := ⟨RX10, "<init>", "()V"⟩
abbrev cX10_forget : ByteArray := prog_12_method_2_code
def yX10_forget : MethodName := ⟨RX10, "forget", "()V"⟩
abbrev cX10_placeOf : ByteArray := prog_12_method_3_code
def yX10_placeOf : MethodName := ⟨RX10, "placeOf", "(III)I"⟩
abbrev cX10_numberOf : ByteArray := prog_12_method_4_code
def yX10_numberOf : MethodName := ⟨RX10, "numberOf", "(II)I"⟩
abbrev cX10_learn : ByteArray := prog_12_method_5_code
def yX10_learn : MethodName := ⟨RX10, "learn", "(LLalrDesk$Grammar;LLalrDesk$Tables;LLalrDesk$Row;)V"⟩
abbrev cX10_mark : ByteArray := prog_12_method_6_code
def yX10_mark : MethodName := ⟨RX10, "mark", "(LLalrDesk$Tables;LLalrDesk$Row;[III)V"⟩
abbrev cX10_withoutsAt : ByteArray := prog_12_method_7_code
def yX10_withoutsAt : MethodName := ⟨RX10, "withoutsAt", "(I)I"⟩
abbrev cX10_missingBy : ByteArray := prog_12_method_8_code
def yX10_missingBy : MethodName := ⟨RX10, "missingBy", "(LLalrDesk$Notes;)I"⟩
abbrev cX10_leftAtWorst : ByteArray := prog_12_method_9_code
def yX10_leftAtWorst : MethodName := ⟨RX10, "leftAtWorst", "(II)I"⟩
abbrev cX10_bestQuestion : ByteArray := prog_12_method_10_code
def yX10_bestQuestion : MethodName := ⟨RX10, "bestQuestion", "(III)I"⟩
def RX11 : String := "LalrDesk"
def TX11 : u_T := fun k => match k with
  | 0 => ("LalrDesk", "tape", "[I", true)
  | 1 => ("LalrDesk", "taped", "I", false)
  | 2 => ("LalrDesk", "parser", "LLalrDesk$TextParser;", true)
  | 3 => ("LalrDesk", "tables", "LLalrDesk$Tables;", false)
  | 4 => ("LalrDesk", "spare", "LLalrDesk$Tables;", false)
  | 5 => ("LalrDesk", "related", "LLalrDesk$Relations;", true)
  | 6 => ("LalrDesk", "rows", "LLalrDesk$ShortestRows;", true)
  | 7 => ("LalrDesk", "packing", "LLalrDesk$Packing;", true)
  | 8 => ("LalrDesk", "reading", "LLalrDesk$Row;", true)
  | 9 => ("LalrDesk", "ladder", "LLalrDesk$Row;", true)
  | 10 => ("LalrDesk", "image", "LLalrDesk$Row;", true)
  | 11 => ("LalrDesk", "imaged", "Z", false)
  | 12 => ("LalrDesk", "past", "LLalrDesk$Past;", true)
  | 13 => ("LalrDesk", "notes", "LLalrDesk$Notes;", true)
  | _ => ("LalrDesk", "trials", "LLalrDesk$Trials;", true)
def tyX11 : Nat → FieldType := fun k => match k with
  | 0 => .array .int
  | 1 => .int
  | 2 => .object "LalrDesk$TextParser"
  | 3 => .object "LalrDesk$Tables"
  | 4 => .object "LalrDesk$Tables"
  | 5 => .object "LalrDesk$Relations"
  | 6 => .object "LalrDesk$ShortestRows"
  | 7 => .object "LalrDesk$Packing"
  | 8 => .object "LalrDesk$Row"
  | 9 => .object "LalrDesk$Row"
  | 10 => .object "LalrDesk$Row"
  | 11 => .boolean
  | 12 => .object "LalrDesk$Past"
  | 13 => .object "LalrDesk$Notes"
  | _ => .object "LalrDesk$Trials"
abbrev wsX110 : List Cond := u_ws RX11 TX11 15
theorem nmX11 : ∀ a, a < 15 → ∀ b, b < 15 → a ≠ b → (TX11 a).2.1 ≠ (TX11 b).2.1 := by decide +kernel
theorem tyX11_ok : ∀ k, k < 15 → parseFieldDescriptor (TX11 k).2.2.1 = some (tyX11 k) := by decide +kernel
abbrev cX11_init : ByteArray := prog_1_method_1_code
def yX11_init : MethodName := ⟨RX11, "<init>", "()V"⟩
abbrev cX11_feed : ByteArray := prog_1_method_2_code
def yX11_feed : MethodName := ⟨RX11, "feed", "(IIIII)I"⟩
abbrev cX11_putBytes : ByteArray := prog_1_method_3_code
def yX11_putBytes : MethodName := ⟨RX11, "putBytes", "(I)V"⟩
abbrev cX11_text : ByteArray := prog_1_method_4_code
def yX11_text : MethodName := ⟨RX11, "text", "(I)I"⟩
abbrev cX11_takeSpare : ByteArray := prog_1_method_5_code
def yX11_takeSpare : MethodName := ⟨RX11, "takeSpare", "()V"⟩
abbrev cX11_fault : ByteArray := prog_1_method_6_code
def yX11_fault : MethodName := ⟨RX11, "fault", "(I)I"⟩
abbrev cX11_named : ByteArray := prog_1_method_7_code
def yX11_named : MethodName := ⟨RX11, "named", "(I)I"⟩
abbrev cX11_token : ByteArray := prog_1_method_8_code
def yX11_token : MethodName := ⟨RX11, "token", "(II)I"⟩
abbrev cX11_kind : ByteArray := prog_1_method_9_code
def yX11_kind : MethodName := ⟨RX11, "kind", "(II)I"⟩
abbrev cX11_rule : ByteArray := prog_1_method_10_code
def yX11_rule : MethodName := ⟨RX11, "rule", "(II)I"⟩
abbrev cX11_state : ByteArray := prog_1_method_11_code
def yX11_state : MethodName := ⟨RX11, "state", "(II)I"⟩
abbrev cX11_item : ByteArray := prog_1_method_12_code
def yX11_item : MethodName := ⟨RX11, "item", "(II)I"⟩
abbrev cX11_move : ByteArray := prog_1_method_13_code
def yX11_move : MethodName := ⟨RX11, "move", "(II)I"⟩
abbrev cX11_action : ByteArray := prog_1_method_14_code
def yX11_action : MethodName := ⟨RX11, "action", "(II)I"⟩
abbrev cX11_look : ByteArray := prog_1_method_15_code
def yX11_look : MethodName := ⟨RX11, "look", "(II)I"⟩
abbrev cX11_after : ByteArray := prog_1_method_16_code
def yX11_after : MethodName := ⟨RX11, "after", "(II)I"⟩
abbrev cX11_relations : ByteArray := prog_1_method_17_code
def yX11_relations : MethodName := ⟨RX11, "relations", "(I)I"⟩
abbrev cX11_conflicts : ByteArray := prog_1_method_18_code
def yX11_conflicts : MethodName := ⟨RX11, "conflicts", "()I"⟩
abbrev cX11_conflict : ByteArray := prog_1_method_19_code
def yX11_conflict : MethodName := ⟨RX11, "conflict", "(II)I"⟩
abbrev cX11_witness : ByteArray := prog_1_method_20_code
def yX11_witness : MethodName := ⟨RX11, "witness", "(II)I"⟩
abbrev cX11_shortest : ByteArray := prog_1_method_21_code
def yX11_shortest : MethodName := ⟨RX11, "shortest", "(II)I"⟩
abbrev cX11_offset : ByteArray := prog_1_method_22_code
def yX11_offset : MethodName := ⟨RX11, "offset", "(I)I"⟩
abbrev cX11_packed : ByteArray := prog_1_method_23_code
def yX11_packed : MethodName := ⟨RX11, "packed", "(II)I"⟩
abbrev cX11_sentences : ByteArray := prog_1_method_24_code
def yX11_sentences : MethodName := ⟨RX11, "sentences", "(I)I"⟩
abbrev cX11_sentencesFrom : ByteArray := prog_1_method_25_code
def yX11_sentencesFrom : MethodName := ⟨RX11, "sentencesFrom", "(LLalrDesk$Tables;LLalrDesk$Row;I)I"⟩
abbrev cX11_hasStates : ByteArray := prog_1_method_26_code
def yX11_hasStates : MethodName := ⟨RX11, "hasStates", "()Z"⟩
abbrev cX11_read : ByteArray := prog_1_method_27_code
def yX11_read : MethodName := ⟨RX11, "read", "(I)I"⟩
abbrev cX11_whole : ByteArray := prog_1_method_28_code
def yX11_whole : MethodName := ⟨RX11, "whole", "()I"⟩
abbrev cX11_expected : ByteArray := prog_1_method_29_code
def yX11_expected : MethodName := ⟨RX11, "expected", "()I"⟩
abbrev cX11_stack : ByteArray := prog_1_method_30_code
def yX11_stack : MethodName := ⟨RX11, "stack", "(I)I"⟩
abbrev cX11_game : ByteArray := prog_1_method_31_code
def yX11_game : MethodName := ⟨RX11, "game", "(II)I"⟩
abbrev cX11_winningToken : ByteArray := prog_1_method_32_code
def yX11_winningToken : MethodName := ⟨RX11, "winningToken", "(LLalrDesk$Tables;LLalrDesk$Row;I)I"⟩
abbrev cX11_note : ByteArray := prog_1_method_33_code
def yX11_note : MethodName := ⟨RX11, "note", "(IIZ)I"⟩
abbrev cX11_strike : ByteArray := prog_1_method_34_code
def yX11_strike : MethodName := ⟨RX11, "strike", "(I)I"⟩
abbrev cX11_known : ByteArray := prog_1_method_35_code
def yX11_known : MethodName := ⟨RX11, "known", "(I)Z"⟩
abbrev cX11_missing : ByteArray := prog_1_method_36_code
def yX11_missing : MethodName := ⟨RX11, "missing", "()I"⟩
abbrev cX11_ask : ByteArray := prog_1_method_37_code
def yX11_ask : MethodName := ⟨RX11, "ask", "(II)I"⟩
abbrev cX11_chance : ByteArray := prog_1_method_38_code
def yX11_chance : MethodName := ⟨RX11, "chance", "(II)I"⟩
abbrev cX11_tried : ByteArray := prog_1_method_39_code
def yX11_tried : MethodName := ⟨RX11, "tried", "(II)I"⟩
abbrev cX11_canTry : ByteArray := prog_1_method_40_code
def yX11_canTry : MethodName := ⟨RX11, "canTry", "(II)Z"⟩
abbrev cX11_undo : ByteArray := prog_1_method_41_code
def yX11_undo : MethodName := ⟨RX11, "undo", "()I"⟩
abbrev cX11_keep : ByteArray := prog_1_method_42_code
def yX11_keep : MethodName := ⟨RX11, "keep", "()I"⟩
abbrev cX11_back : ByteArray := prog_1_method_43_code
def yX11_back : MethodName := ⟨RX11, "back", "()I"⟩
abbrev cX11_count : ByteArray := prog_1_method_44_code
def yX11_count : MethodName := ⟨RX11, "count", "(I)I"⟩
abbrev cX11_inBits : ByteArray := prog_1_method_45_code
def yX11_inBits : MethodName := ⟨RX11, "inBits", "(JI)Z"⟩
def RX12 : String := "LalrDeskModel"
def TX12 : u_T := fun k => match k with
  | 0 => ("LalrDeskModel", "tape", "[I", true)
  | 1 => ("LalrDeskModel", "tapeSize", "I", false)
  | 2 => ("LalrDeskModel", "thrown", "I", false)
  | 3 => ("LalrDeskModel", "words", "[I", true)
  | 4 => ("LalrDeskModel", "fault", "I", false)
  | 5 => ("LalrDeskModel", "faultPlace", "I", false)
  | 6 => ("LalrDeskModel", "stop", "I", false)
  | 7 => ("LalrDeskModel", "next", "I", false)
  | 8 => ("LalrDeskModel", "kind", "I", false)
  | 9 => ("LalrDeskModel", "which", "I", false)
  | 10 => ("LalrDeskModel", "at", "I", false)
  | 11 => ("LalrDeskModel", "got", "I", false)
  | 12 => ("LalrDeskModel", "tokens", "[I", true)
  | 13 => ("LalrDeskModel", "kinds", "[I", true)
  | 14 => ("LalrDeskModel", "rules", "[I", true)
  | 15 => ("LalrDeskModel", "tokenName", "[I", true)
  | 16 => ("LalrDeskModel", "kindName", "[I", true)
  | 17 => ("LalrDeskModel", "rank", "[I", true)
  | 18 => ("LalrDeskModel", "side", "[I", true)
  | 19 => ("LalrDeskModel", "ruleKind", "[I", true)
  | 20 => ("LalrDeskModel", "ruleLong", "[I", true)
  | 21 => ("LalrDeskModel", "ruleSymbol", "[I", true)
  | 22 => ("LalrDeskModel", "states", "[I", true)
  | 23 => ("LalrDeskModel", "kernel", "[Z", true)
  | 24 => ("LalrDeskModel", "closed", "[Z", true)
  | 25 => ("LalrDeskModel", "moveTo", "[I", true)
  | 26 => ("LalrDeskModel", "comesBy", "[I", true)
  | 27 => ("LalrDeskModel", "look", "[I", true)
  | 28 => ("LalrDeskModel", "action", "[I", true)
  | 29 => ("LalrDeskModel", "empty", "[I", true)
  | 30 => ("LalrDeskModel", "firsts", "[I", true)
  | 31 => ("LalrDeskModel", "conflicts", "[I", true)
  | 32 => ("LalrDeskModel", "conflict", "[I", true)
  | 33 => ("LalrDeskModel", "startNow", "I", false)
  | 34 => ("LalrDeskModel", "outNow", "I", false)
  | 35 => ("LalrDeskModel", "grammar", "I", false)
  | 36 => ("LalrDeskModel", "bank", "I", false)
  | 37 => ("LalrDeskModel", "kernelNext", "[Z", true)
  | 38 => ("LalrDeskModel", "ranksNow", "I", false)
  | 39 => ("LalrDeskModel", "follow", "[I", true)
  | 40 => ("LalrDeskModel", "after", "[I", true)
  | 41 => ("LalrDeskModel", "includes", "[I", true)
  | 42 => ("LalrDeskModel", "relations", "[I", true)
  | 43 => ("LalrDeskModel", "rowLong", "[I", true)
  | 44 => ("LalrDeskModel", "row", "[I", true)
  | 45 => ("LalrDeskModel", "wayLong", "[I", true)
  | 46 => ("LalrDeskModel", "wayRow", "[I", true)
  | 47 => ("LalrDeskModel", "made", "[I", true)
  | 48 => ("LalrDeskModel", "madeLong", "I", false)
  | 49 => ("LalrDeskModel", "offset", "[I", true)
  | 50 => ("LalrDeskModel", "placeAction", "[I", true)
  | 51 => ("LalrDeskModel", "placeState", "[I", true)
  | 52 => ("LalrDeskModel", "placeMany", "I", false)
  | 53 => ("LalrDeskModel", "stack", "[I", true)
  | 54 => ("LalrDeskModel", "stackLong", "I", false)
  | 55 => ("LalrDeskModel", "reduces", "I", false)
  | 56 => ("LalrDeskModel", "isAccepted", "Z", false)
  | 57 => ("LalrDeskModel", "stackNow", "[I", true)
  | 58 => ("LalrDeskModel", "stackMany", "I", false)
  | 59 => ("LalrDeskModel", "readMany", "I", false)
  | 60 => ("LalrDeskModel", "readReduces", "I", false)
  | 61 => ("LalrDeskModel", "given", "[I", true)
  | 62 => ("LalrDeskModel", "canCome", "[Z", true)
  | 63 => ("LalrDeskModel", "winsThen", "[Z", true)
  | 64 => ("LalrDeskModel", "winsNow", "[Z", true)
  | 65 => ("LalrDeskModel", "notedMany", "I", false)
  | 66 => ("LalrDeskModel", "knownTold", "I", false)
  | 67 => ("LalrDeskModel", "noted1", "[I", true)
  | 68 => ("LalrDeskModel", "counts", "[Z", true)
  | 69 => ("LalrDeskModel", "yes", "[I", true)
  | 70 => ("LalrDeskModel", "undos", "I", false)
  | 71 => ("LalrDeskModel", "undo", "[I", true)
  | 72 => ("LalrDeskModel", "hasImage", "Z", false)
  | _ => ("LalrDeskModel", "image", "[I", true)
def tyX12 : Nat → FieldType := fun k => match k with
  | 0 => .array .int
  | 1 => .int
  | 2 => .int
  | 3 => .array .int
  | 4 => .int
  | 5 => .int
  | 6 => .int
  | 7 => .int
  | 8 => .int
  | 9 => .int
  | 10 => .int
  | 11 => .int
  | 12 => .array .int
  | 13 => .array .int
  | 14 => .array .int
  | 15 => .array .int
  | 16 => .array .int
  | 17 => .array .int
  | 18 => .array .int
  | 19 => .array .int
  | 20 => .array .int
  | 21 => .array .int
  | 22 => .array .int
  | 23 => .array .boolean
  | 24 => .array .boolean
  | 25 => .array .int
  | 26 => .array .int
  | 27 => .array .int
  | 28 => .array .int
  | 29 => .array .int
  | 30 => .array .int
  | 31 => .array .int
  | 32 => .array .int
  | 33 => .int
  | 34 => .int
  | 35 => .int
  | 36 => .int
  | 37 => .array .boolean
  | 38 => .int
  | 39 => .array .int
  | 40 => .array .int
  | 41 => .array .int
  | 42 => .array .int
  | 43 => .array .int
  | 44 => .array .int
  | 45 => .array .int
  | 46 => .array .int
  | 47 => .array .int
  | 48 => .int
  | 49 => .array .int
  | 50 => .array .int
  | 51 => .array .int
  | 52 => .int
  | 53 => .array .int
  | 54 => .int
  | 55 => .int
  | 56 => .boolean
  | 57 => .array .int
  | 58 => .int
  | 59 => .int
  | 60 => .int
  | 61 => .array .int
  | 62 => .array .boolean
  | 63 => .array .boolean
  | 64 => .array .boolean
  | 65 => .int
  | 66 => .int
  | 67 => .array .int
  | 68 => .array .boolean
  | 69 => .array .int
  | 70 => .int
  | 71 => .array .int
  | 72 => .boolean
  | _ => .array .int
abbrev wsX120 : List Cond := u_ws RX12 TX12 74
theorem nmX12 : ∀ a, a < 74 → ∀ b, b < 74 → a ≠ b → (TX12 a).2.1 ≠ (TX12 b).2.1 := by decide +kernel
theorem tyX12_ok : ∀ k, k < 74 → parseFieldDescriptor (TX12 k).2.2.1 = some (tyX12 k) := by decide +kernel
abbrev cX12_init : ByteArray := prog_14_method_1_code
def yX12_init : MethodName := ⟨RX12, "<init>", "()V"⟩
abbrev cX12_thrown : ByteArray := prog_14_method_2_code
def yX12_thrown : MethodName := ⟨RX12, "thrown", "()I"⟩
abbrev cX12_feed : ByteArray := prog_14_method_3_code
def yX12_feed : MethodName := ⟨RX12, "feed", "(IIIII)I"⟩
abbrev cX12_isIn : ByteArray := prog_14_method_4_code
def yX12_isIn : MethodName := ⟨RX12, "isIn", "(III)Z"⟩
abbrev cX12_isOf : ByteArray := prog_14_method_5_code
def yX12_isOf : MethodName := ⟨RX12, "isOf", "(II)Z"⟩
abbrev cX12_wrong : ByteArray := prog_14_method_6_code
def yX12_wrong : MethodName := ⟨RX12, "wrong", "(I)Z"⟩
abbrev cX12_wordAt : ByteArray := prog_14_method_7_code
def yX12_wordAt : MethodName := ⟨RX12, "wordAt", "(II)I"⟩
abbrev cX12_isSmall : ByteArray := prog_14_method_8_code
def yX12_isSmall : MethodName := ⟨RX12, "isSmall", "(I)Z"⟩
abbrev cX12_isDigit : ByteArray := prog_14_method_9_code
def yX12_isDigit : MethodName := ⟨RX12, "isDigit", "(I)Z"⟩
abbrev cX12_nextToken : ByteArray := prog_14_method_10_code
def yX12_nextToken : MethodName := ⟨RX12, "nextToken", "()V"⟩
abbrev cX12_signToken : ByteArray := prog_14_method_11_code
def yX12_signToken : MethodName := ⟨RX12, "signToken", "()V"⟩
abbrev cX12_lettersOf : ByteArray := prog_14_method_12_code
def yX12_lettersOf : MethodName := ⟨RX12, "lettersOf", "(II)I"⟩
abbrev cX12_isSign : ByteArray := prog_14_method_14_code
def yX12_isSign : MethodName := ⟨RX12, "isSign", "(I)Z"⟩
abbrev cX12_number : ByteArray := prog_14_method_15_code
def yX12_number : MethodName := ⟨RX12, "number", "(II)Z"⟩
abbrev cX12_plain : ByteArray := prog_14_method_17_code
def yX12_plain : MethodName := ⟨RX12, "plain", "()V"⟩
abbrev cX12_copies : ByteArray := prog_14_method_18_code
def yX12_copies : MethodName := ⟨RX12, "copies", "([II)V"⟩
abbrev cX12_keepText : ByteArray := prog_14_method_19_code
def yX12_keepText : MethodName := ⟨RX12, "keepText", "()V"⟩
abbrev cX12_find : ByteArray := prog_14_method_20_code
def yX12_find : MethodName := ⟨RX12, "find", "([IIII)I"⟩
abbrev cX12_symbolBy : ByteArray := prog_14_method_21_code
def yX12_symbolBy : MethodName := ⟨RX12, "symbolBy", "(II)I"⟩
abbrev cX12_nameLine : ByteArray := prog_14_method_22_code
def yX12_nameLine : MethodName := ⟨RX12, "nameLine", "(Z)Z"⟩
abbrev cX12_ruleLine : ByteArray := prog_14_method_23_code
def yX12_ruleLine : MethodName := ⟨RX12, "ruleLine", "()Z"⟩
abbrev cX12_isAlike : ByteArray := prog_14_method_24_code
def yX12_isAlike : MethodName := ⟨RX12, "isAlike", "(II)Z"⟩
abbrev cX12_rankLine : ByteArray := prog_14_method_25_code
def yX12_rankLine : MethodName := ⟨RX12, "rankLine", "()Z"⟩
abbrev cX12_lineRead : ByteArray := prog_14_method_26_code
def yX12_lineRead : MethodName := ⟨RX12, "lineRead", "()Z"⟩
abbrev cX12_text : ByteArray := prog_14_method_27_code
def yX12_text : MethodName := ⟨RX12, "text", "(I)I"⟩
abbrev cX12_fault : ByteArray := prog_14_method_28_code
def yX12_fault : MethodName := ⟨RX12, "fault", "(I)I"⟩
abbrev cX12_named : ByteArray := prog_14_method_29_code
def yX12_named : MethodName := ⟨RX12, "named", "(I)I"⟩
abbrev cX12_moveBy : ByteArray := prog_14_method_30_code
def yX12_moveBy : MethodName := ⟨RX12, "moveBy", "(II)I"⟩
abbrev cX12_longOf : ByteArray := prog_14_method_31_code
def yX12_longOf : MethodName := ⟨RX12, "longOf", "(I)I"⟩
abbrev cX12_isRuleOf : ByteArray := prog_14_method_32_code
def yX12_isRuleOf : MethodName := ⟨RX12, "isRuleOf", "(II)Z"⟩
abbrev cX12_isEmpty : ByteArray := prog_14_method_33_code
def yX12_isEmpty : MethodName := ⟨RX12, "isEmpty", "(I)Z"⟩
abbrev cX12_isEmptyFrom : ByteArray := prog_14_method_34_code
def yX12_isEmptyFrom : MethodName := ⟨RX12, "isEmptyFrom", "(II)Z"⟩
abbrev cX12_firstFrom : ByteArray := prog_14_method_35_code
def yX12_firstFrom : MethodName := ⟨RX12, "firstFrom", "(II)I"⟩
abbrev cX12_layFirsts : ByteArray := prog_14_method_36_code
def yX12_layFirsts : MethodName := ⟨RX12, "layFirsts", "()V"⟩
abbrev cX12_itemAt : ByteArray := prog_14_method_37_code
def yX12_itemAt : MethodName := ⟨RX12, "itemAt", "(II)I"⟩
abbrev cX12_moveAt : ByteArray := prog_14_method_38_code
def yX12_moveAt : MethodName := ⟨RX12, "moveAt", "(II)I"⟩
abbrev cX12_closes : ByteArray := prog_14_method_39_code
def yX12_closes : MethodName := ⟨RX12, "closes", "(I)V"⟩
abbrev cX12_isNext : ByteArray := prog_14_method_40_code
def yX12_isNext : MethodName := ⟨RX12, "isNext", "(II)Z"⟩
abbrev cX12_isKernel : ByteArray := prog_14_method_41_code
def yX12_isKernel : MethodName := ⟨RX12, "isKernel", "(I)Z"⟩
abbrev cX12_stateOfKernel : ByteArray := prog_14_method_42_code
def yX12_stateOfKernel : MethodName := ⟨RX12, "stateOfKernel", "()I"⟩
abbrev cX12_addState : ByteArray := prog_14_method_43_code
def yX12_addState : MethodName := ⟨RX12, "addState", "(I)V"⟩
abbrev cX12_symbolOf : ByteArray := prog_14_method_44_code
def yX12_symbolOf : MethodName := ⟨RX12, "symbolOf", "(I)I"⟩
abbrev cX12_layStates : ByteArray := prog_14_method_45_code
def yX12_layStates : MethodName := ⟨RX12, "layStates", "()Z"⟩
abbrev cX12_moreLook : ByteArray := prog_14_method_46_code
def yX12_moreLook : MethodName := ⟨RX12, "moreLook", "(II)Z"⟩
abbrev cX12_layLooks : ByteArray := prog_14_method_47_code
def yX12_layLooks : MethodName := ⟨RX12, "layLooks", "()V"⟩
abbrev cX12_rankOf : ByteArray := prog_14_method_48_code
def yX12_rankOf : MethodName := ⟨RX12, "rankOf", "(I)I"⟩
abbrev cX12_ruleRank : ByteArray := prog_14_method_49_code
def yX12_ruleRank : MethodName := ⟨RX12, "ruleRank", "(I)I"⟩
abbrev cX12_isReduced : ByteArray := prog_14_method_50_code
def yX12_isReduced : MethodName := ⟨RX12, "isReduced", "(III)Z"⟩
abbrev cX12_leavesOut : ByteArray := prog_14_method_51_code
def yX12_leavesOut : MethodName := ⟨RX12, "leavesOut", "(III)V"⟩
abbrev cX12_actionOf : ByteArray := prog_14_method_52_code
def yX12_actionOf : MethodName := ⟨RX12, "actionOf", "(II)I"⟩
abbrev cX12_layActions : ByteArray := prog_14_method_53_code
def yX12_layActions : MethodName := ⟨RX12, "layActions", "()V"⟩
abbrev cX12_layAll : ByteArray := prog_14_method_54_code
def yX12_layAll : MethodName := ⟨RX12, "layAll", "(III)Z"⟩
abbrev cX12_layTables : ByteArray := prog_14_method_55_code
def yX12_layTables : MethodName := ⟨RX12, "layTables", "(III)Z"⟩
abbrev cX12_layFollow : ByteArray := prog_14_method_56_code
def yX12_layFollow : MethodName := ⟨RX12, "layFollow", "(IIII)V"⟩
abbrev cX12_kindMove : ByteArray := prog_14_method_57_code
def yX12_kindMove : MethodName := ⟨RX12, "kindMove", "(II)I"⟩
abbrev cX12_isMove : ByteArray := prog_14_method_58_code
def yX12_isMove : MethodName := ⟨RX12, "isMove", "(I)Z"⟩
abbrev cX12_wayBy : ByteArray := prog_14_method_59_code
def yX12_wayBy : MethodName := ⟨RX12, "wayBy", "(III)I"⟩
abbrev cX12_layIncludes : ByteArray := prog_14_method_60_code
def yX12_layIncludes : MethodName := ⟨RX12, "layIncludes", "()V"⟩
abbrev cX12_isIncluded : ByteArray := prog_14_method_61_code
def yX12_isIncluded : MethodName := ⟨RX12, "isIncluded", "(II)Z"⟩
abbrev cX12_moreAfter : ByteArray := prog_14_method_62_code
def yX12_moreAfter : MethodName := ⟨RX12, "moreAfter", "(I)Z"⟩
abbrev cX12_layAfter : ByteArray := prog_14_method_63_code
def yX12_layAfter : MethodName := ⟨RX12, "layAfter", "()V"⟩
abbrev cX12_layRings : ByteArray := prog_14_method_64_code
def yX12_layRings : MethodName := ⟨RX12, "layRings", "()V"⟩
abbrev cX12_addRow : ByteArray := prog_14_method_65_code
def yX12_addRow : MethodName := ⟨RX12, "addRow", "(I)V"⟩
abbrev cX12_isAhead : ByteArray := prog_14_method_66_code
def yX12_isAhead : MethodName := ⟨RX12, "isAhead", "([III)Z"⟩
abbrev cX12_isMade : ByteArray := prog_14_method_67_code
def yX12_isMade : MethodName := ⟨RX12, "isMade", "(I)Z"⟩
abbrev cX12_layShortest : ByteArray := prog_14_method_68_code
def yX12_layShortest : MethodName := ⟨RX12, "layShortest", "()V"⟩
abbrev cX12_layWays : ByteArray := prog_14_method_69_code
def yX12_layWays : MethodName := ⟨RX12, "layWays", "()V"⟩
abbrev cX12_isNearer : ByteArray := prog_14_method_70_code
def yX12_isNearer : MethodName := ⟨RX12, "isNearer", "(II)Z"⟩
abbrev cX12_actionsOf : ByteArray := prog_14_method_71_code
def yX12_actionsOf : MethodName := ⟨RX12, "actionsOf", "(I)I"⟩
abbrev cX12_isFree : ByteArray := prog_14_method_72_code
def yX12_isFree : MethodName := ⟨RX12, "isFree", "(II)Z"⟩
abbrev cX12_lays : ByteArray := prog_14_method_73_code
def yX12_lays : MethodName := ⟨RX12, "lays", "(I)V"⟩
abbrev cX12_layPacked : ByteArray := prog_14_method_74_code
def yX12_layPacked : MethodName := ⟨RX12, "layPacked", "()V"⟩
abbrev cX12_isToken : ByteArray := prog_14_method_75_code
def yX12_isToken : MethodName := ⟨RX12, "isToken", "(I)Z"⟩
abbrev cX12_isKind : ByteArray := prog_14_method_76_code
def yX12_isKind : MethodName := ⟨RX12, "isKind", "(I)Z"⟩
abbrev cX12_isRule : ByteArray := prog_14_method_77_code
def yX12_isRule : MethodName := ⟨RX12, "isRule", "(I)Z"⟩
abbrev cX12_isState : ByteArray := prog_14_method_78_code
def yX12_isState : MethodName := ⟨RX12, "isState", "(I)Z"⟩
abbrev cX12_byText : ByteArray := prog_14_method_79_code
def yX12_byText : MethodName := ⟨RX12, "byText", "()V"⟩
abbrev cX12_fails : ByteArray := prog_14_method_80_code
def yX12_fails : MethodName := ⟨RX12, "fails", "(I)I"⟩
abbrev cX12_token : ByteArray := prog_14_method_81_code
def yX12_token : MethodName := ⟨RX12, "token", "(II)I"⟩
abbrev cX12_kind : ByteArray := prog_14_method_82_code
def yX12_kind : MethodName := ⟨RX12, "kind", "(II)I"⟩
abbrev cX12_rule : ByteArray := prog_14_method_83_code
def yX12_rule : MethodName := ⟨RX12, "rule", "(II)I"⟩
abbrev cX12_itemsOf : ByteArray := prog_14_method_84_code
def yX12_itemsOf : MethodName := ⟨RX12, "itemsOf", "(IZ)I"⟩
abbrev cX12_state : ByteArray := prog_14_method_85_code
def yX12_state : MethodName := ⟨RX12, "state", "(II)I"⟩
abbrev cX12_item : ByteArray := prog_14_method_86_code
def yX12_item : MethodName := ⟨RX12, "item", "(II)I"⟩
abbrev cX12_noneAsTwo : ByteArray := prog_14_method_87_code
def yX12_noneAsTwo : MethodName := ⟨RX12, "noneAsTwo", "(I)I"⟩
abbrev cX12_move : ByteArray := prog_14_method_88_code
def yX12_move : MethodName := ⟨RX12, "move", "(II)I"⟩
abbrev cX12_action : ByteArray := prog_14_method_89_code
def yX12_action : MethodName := ⟨RX12, "action", "(II)I"⟩
abbrev cX12_look : ByteArray := prog_14_method_90_code
def yX12_look : MethodName := ⟨RX12, "look", "(II)I"⟩
abbrev cX12_after : ByteArray := prog_14_method_91_code
def yX12_after : MethodName := ⟨RX12, "after", "(II)I"⟩
abbrev cX12_relations : ByteArray := prog_14_method_92_code
def yX12_relations : MethodName := ⟨RX12, "relations", "(I)I"⟩
abbrev cX12_conflicts : ByteArray := prog_14_method_93_code
def yX12_conflicts : MethodName := ⟨RX12, "conflicts", "()I"⟩
abbrev cX12_conflict : ByteArray := prog_14_method_94_code
def yX12_conflict : MethodName := ⟨RX12, "conflict", "(II)I"⟩
abbrev cX12_witness : ByteArray := prog_14_method_95_code
def yX12_witness : MethodName := ⟨RX12, "witness", "(II)I"⟩
abbrev cX12_shortest : ByteArray := prog_14_method_96_code
def yX12_shortest : MethodName := ⟨RX12, "shortest", "(II)I"⟩
abbrev cX12_offset : ByteArray := prog_14_method_97_code
def yX12_offset : MethodName := ⟨RX12, "offset", "(I)I"⟩
abbrev cX12_packed : ByteArray := prog_14_method_98_code
def yX12_packed : MethodName := ⟨RX12, "packed", "(II)I"⟩
abbrev cX12_fromNow : ByteArray := prog_14_method_99_code
def yX12_fromNow : MethodName := ⟨RX12, "fromNow", "()V"⟩
abbrev cX12_fromFirst : ByteArray := prog_14_method_100_code
def yX12_fromFirst : MethodName := ⟨RX12, "fromFirst", "()V"⟩
abbrev cX12_comes : ByteArray := prog_14_method_101_code
def yX12_comes : MethodName := ⟨RX12, "comes", "(II)Z"⟩
abbrev cX12_isSentence : ByteArray := prog_14_method_102_code
def yX12_isSentence : MethodName := ⟨RX12, "isSentence", "(II)Z"⟩
abbrev cX12_power : ByteArray := prog_14_method_103_code
def yX12_power : MethodName := ⟨RX12, "power", "(II)I"⟩
abbrev cX12_gives : ByteArray := prog_14_method_104_code
def yX12_gives : MethodName := ⟨RX12, "gives", "(III)V"⟩
abbrev cX12_sentences : ByteArray := prog_14_method_105_code
def yX12_sentences : MethodName := ⟨RX12, "sentences", "(I)I"⟩
abbrev cX12_read : ByteArray := prog_14_method_106_code
def yX12_read : MethodName := ⟨RX12, "read", "(I)I"⟩
abbrev cX12_whole : ByteArray := prog_14_method_107_code
def yX12_whole : MethodName := ⟨RX12, "whole", "()I"⟩
abbrev cX12_expected : ByteArray := prog_14_method_108_code
def yX12_expected : MethodName := ⟨RX12, "expected", "()I"⟩
abbrev cX12_stack : ByteArray := prog_14_method_109_code
def yX12_stack : MethodName := ⟨RX12, "stack", "(I)I"⟩
abbrev cX12_layCome : ByteArray := prog_14_method_110_code
def yX12_layCome : MethodName := ⟨RX12, "layCome", "(I)V"⟩
abbrev cX12_game : ByteArray := prog_14_method_111_code
def yX12_game : MethodName := ⟨RX12, "game", "(II)I"⟩
abbrev cX12_notes1 : ByteArray := prog_14_method_112_code
def yX12_notes1 : MethodName := ⟨RX12, "notes1", "(III)I"⟩
abbrev cX12_note : ByteArray := prog_14_method_113_code
def yX12_note : MethodName := ⟨RX12, "note", "(IIZ)I"⟩
abbrev cX12_strike : ByteArray := prog_14_method_114_code
def yX12_strike : MethodName := ⟨RX12, "strike", "(I)I"⟩
abbrev cX12_known : ByteArray := prog_14_method_115_code
def yX12_known : MethodName := ⟨RX12, "known", "(I)Z"⟩
abbrev cX12_knownBy : ByteArray := prog_14_method_116_code
def yX12_knownBy : MethodName := ⟨RX12, "knownBy", "()I"⟩
abbrev cX12_layCounts : ByteArray := prog_14_method_117_code
def yX12_layCounts : MethodName := ⟨RX12, "layCounts", "()V"⟩
abbrev cX12_isMissing : ByteArray := prog_14_method_118_code
def yX12_isMissing : MethodName := ⟨RX12, "isMissing", "(I)Z"⟩
abbrev cX12_missing : ByteArray := prog_14_method_119_code
def yX12_missing : MethodName := ⟨RX12, "missing", "()I"⟩
abbrev cX12_ask : ByteArray := prog_14_method_120_code
def yX12_ask : MethodName := ⟨RX12, "ask", "(II)I"⟩
abbrev cX12_worst : ByteArray := prog_14_method_121_code
def yX12_worst : MethodName := ⟨RX12, "worst", "(II)I"⟩
abbrev cX12_chance : ByteArray := prog_14_method_122_code
def yX12_chance : MethodName := ⟨RX12, "chance", "(II)I"⟩
abbrev cX12_tried : ByteArray := prog_14_method_123_code
def yX12_tried : MethodName := ⟨RX12, "tried", "(II)I"⟩
abbrev cX12_put : ByteArray := prog_14_method_124_code
def yX12_put : MethodName := ⟨RX12, "put", "([II)V"⟩
abbrev cX12_take : ByteArray := prog_14_method_125_code
def yX12_take : MethodName := ⟨RX12, "take", "([II)V"⟩
abbrev cX12_remember : ByteArray := prog_14_method_126_code
def yX12_remember : MethodName := ⟨RX12, "remember", "()V"⟩
abbrev cX12_undo : ByteArray := prog_14_method_127_code
def yX12_undo : MethodName := ⟨RX12, "undo", "()I"⟩
abbrev cX12_keep : ByteArray := prog_14_method_128_code
def yX12_keep : MethodName := ⟨RX12, "keep", "()I"⟩
abbrev cX12_back : ByteArray := prog_14_method_129_code
def yX12_back : MethodName := ⟨RX12, "back", "()I"⟩
abbrev cX12_count : ByteArray := prog_14_method_130_code
def yX12_count : MethodName := ⟨RX12, "count", "(I)I"⟩
def RJ6 : String := "java/lang/Integer"
abbrev cJ6_bitCount_0f7a4 : ByteArray := prog_18_method_49_code
def yJ6_bitCount_0f7a4 : MethodName := ⟨RJ6, "bitCount", "(I)I"⟩
def RJ13 : String := "java/lang/Long"
abbrev cJ13_bitCount_95d88 : ByteArray := prog_19_method_50_code
def yJ13_bitCount_95d88 : MethodName := ⟨RJ13, "bitCount", "(J)I"⟩
def RJ9 : String := "java/lang/Math"
abbrev cJ9_max_7cf53 : ByteArray := prog_20_method_65_code
def yJ9_max_7cf53 : MethodName := ⟨RJ9, "max", "(II)I"⟩
abbrev cJ9_min_7cf53 : ByteArray := prog_20_method_69_code
def yJ9_min_7cf53 : MethodName := ⟨RJ9, "min", "(II)I"⟩
def RJ0 : String := "java/lang/String"
def RJ10 : String := "java/lang/System"
def RJ7 : String := "java/util/Arrays"
abbrev cJ7_fill_d0a16 : ByteArray := prog_25_method_101_code
def yJ7_fill_d0a16 : MethodName := ⟨RJ7, "fill", "([JJ)V"⟩
abbrev cJ7_fill_53178 : ByteArray := prog_25_method_103_code
def yJ7_fill_53178 : MethodName := ⟨RJ7, "fill", "([II)V"⟩
def RL : String := "LalrDeskLaw"
abbrev cL_kind : ByteArray := method_3_code
def yL_kind : MethodName := ⟨RL, "kind", "(LLalrDesk;II[J)I"⟩
abbrev cL_law : ByteArray := code
def yL_law : MethodName := ⟨RL, "law", "([I)Z"⟩
abbrev vwCl : List vw_C := [(RX0, TX0, 14), (RX1, TX1, 5), (RX2, TX2, 4), (RX3, TX3, 6), (RX4, TX4, 10), (RX5, TX5, 5), (RX6, TX6, 6), (RX7, TX7, 12), (RX8, TX8, 4), (RX9, TX9, 9), (RX10, TX10, 3), (RX11, TX11, 15), (RX12, TX12, 74)]
